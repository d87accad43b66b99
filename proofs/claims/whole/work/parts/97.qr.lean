
/-! pieces of the searches -/
theorem widen2 {s n : Int} : ∀ (f j : Nat) (v : VS), 12 ≤ j + f → ∀ T : Nat, ((cl_widen_2 f v s n j) 104 T = 1 ↔ v 104 T = 1 ∨ ∃ i : Nat, j ≤ i ∧ i < 12 ∧ bt n i = 1 ∧ T = (setb s i).toNat) := by
  intro f
  induction f with
  | zero =>
    intro j v h T
    rw [cl_widen_2]
    exact ⟨fun q => Or.inl q, fun q => q.elim id (fun ⟨i, i1, i2, _⟩ => by omega)⟩
  | succ f ih =>
    intro j v h T
    rw [cl_widen_2, show ((j : Int) + 1) = ((j + 1 : Nat) : Int) by omega]
    unfold cl_bit
    by_cases c : (j : Int) < 12
    · rw [if_pos c]
      by_cases b : bt n j = 1
      · rw [if_pos b, ih (j + 1) _ (by omega), v2_eq]
        by_cases e : T = (setb s j).toNat
        · rw [if_pos ⟨rfl, e⟩]
          exact ⟨fun _ => Or.inr ⟨j, by omega, by omega, b, e⟩, fun _ => Or.inl rfl⟩
        · rw [if_neg (fun q => e q.2)]
          constructor
          · rintro (q | ⟨i, i1, i2⟩)
            · exact Or.inl q
            · exact Or.inr ⟨i, by omega, i2⟩
          · rintro (q | ⟨i, i1, i2, i3, i4⟩)
            · exact Or.inl q
            · by_cases g : i = j
              · rw [g] at i4; exact absurd i4 e
              · exact Or.inr ⟨i, by omega, i2, i3, i4⟩
      · rw [if_neg b, ih (j + 1) _ (by omega)]
        constructor
        · rintro (q | ⟨i, i1, i2⟩)
          · exact Or.inl q
          · exact Or.inr ⟨i, by omega, i2⟩
        · rintro (q | ⟨i, i1, i2, i3, i4⟩)
          · exact Or.inl q
          · by_cases g : i = j
            · rw [g] at i3; exact absurd i3 b
            · exact Or.inr ⟨i, by omega, i2, i3, i4⟩
    · rw [if_neg c]
      exact ⟨fun q => Or.inl q, fun q => q.elim id (fun ⟨i, i1, i2, _⟩ => by omega)⟩
theorem widen_iff {v : VS} {s n : Int} (T : Nat) : (cl_widen v s n) 104 T = 1 ↔ v 104 T = 1 ∨ ∃ i : Nat, i < 12 ∧ bt n i = 1 ∧ T = (setb s i).toNat := by
  unfold cl_widen
  have q := widen2 (s := s) (n := n) 13 0 v (by omega) T
  rw [show ((0 : Nat) : Int) = 0 from rfl] at q
  rw [q]
  constructor
  · rintro (q | ⟨i, i1, i2⟩)
    · exact Or.inl q
    · exact Or.inr ⟨i, i2⟩
  · rintro (q | ⟨i, i2⟩)
    · exact Or.inl q
    · exact Or.inr ⟨i, by omega, i2⟩
theorem fillB10 {n x : Int} : ∀ (f j : Nat) (v : VS), n ≤ j + f → ∀ T : Nat, j ≤ T → (T : Int) < n → (cl_fillB_10 f v n x j) 104 T = w8 x := by
  have keep : ∀ (f j : Nat) (v : VS) (T : Nat), T < j → (cl_fillB_10 f v n x j) 104 T = v 104 T := by
    intro f
    induction f with
    | zero => intro j v T h; rw [cl_fillB_10]
    | succ f ih =>
      intro j v T h
      rw [cl_fillB_10, show ((j : Int) + 1) = ((j + 1 : Nat) : Int) by omega, toN]
      split
      · rw [ih (j + 1) _ T (by omega), v2_eq, if_neg (by omega)]
      · rfl
  intro f
  induction f with
  | zero => intro j v h T t1 t2; omega
  | succ f ih =>
    intro j v h T t1 t2
    rw [cl_fillB_10, show ((j : Int) + 1) = ((j + 1 : Nat) : Int) by omega, toN, if_pos (by omega)]
    by_cases e : T = j
    · rw [keep f (j + 1) _ T (by omega), v2_eq, if_pos ⟨rfl, e⟩]
    · exact ih (j + 1) _ (by omega) T (by omega) t2
theorem openFirst_ok {v : VS} {n : Int} {N : Nat} (hn : n = N) (hN : N ≤ 12) : (cl_openFirst v n) 104 0 = 1 ∧ ∀ T : Nat, (T : Int) < (2 : Int) ^ N → (cl_openFirst v n) 104 T = 1 → T = 0 := by
  subst hn
  have p := pow_le12 hN
  unfold cl_openFirst
  rw [toN]
  refine ⟨by rw [v2_eq, if_pos ⟨rfl, rfl⟩], fun T t1 t2 => ?_⟩
  rw [v2_eq] at t2
  by_cases e : T = 0
  · exact e
  · rw [if_neg (fun q => e q.2)] at t2
    unfold cl_fillB at t2
    have q := fillB10 (n := (2 : Int) ^ N) (x := 0) 4097 0 (cl_rangeCheck v 4096 0 ((2 : Int) ^ N)) (by omega) T (by omega) t1
    rw [show ((0 : Nat) : Int) = 0 from rfl] at q
    rw [q] at t2
    exact absurd t2 (by decide)
/-! who is muffled never strikes -/
def NM (P : VS) (a : SS) : Prop := ∀ c : Nat, P 6 c = 1 → a.1 12 c = 0
theorem NM.step {P : VS} {a : SS} {t c : Nat} (h : NM P a) : NM P (astep P a t c) := by
  unfold astep
  split
  · exact h
  · unfold avis
    split
    · exact h
    · have hl : ∀ r j, NM P (alose a r j) := fun r j d hd => by rw [alose_row (by omega)]; exact h d hd
      unfold avisL
      split
      · exact hl _ _
      · rename_i n6
        split
        · exact hl _ _
        · split
          · exact hl _ _
          · intro d hd
            rw [ago_row (by omega)]
            have e : ∀ (b : SS) (x : Int × Int × Int), (aring P b t c x).1 12 d = if d = c then 1 else b.1 12 d := fun b x => by simp [aring, v2_eq]
            rw [e, if_neg (fun q => n6 (by rw [q] at hd; exact hd)), aoth_row (by omega)]
            exact h d hd
theorem NM.run {P : VS} : NM P (arun P) := by
  have hin : ∀ (t m : Nat) (a : SS), NM P a → NM P (ainL P t m a) := by
    intro t m
    induction m with
    | zero => intro a h; exact h
    | succ m ih => intro a h; rw [ainL]; exact (ih a h).step
  have hout : ∀ (m : Nat) (a : SS), NM P a → NM P (aoutL P m a) := by
    intro m
    induction m with
    | zero => intro a h; exact h
    | succ m ih => intro a h; rw [aoutL]; exact hin _ _ _ (ih a h)
  refine hout _ _ (fun c _ => ?_)
  have e : (abeg P).1 = anil.1 := by unfold abeg; exact abegL_1 _ _
  rw [e]
  rfl
/-! what is cut carries nothing -/
def NC (P : VS) (a : SS) : Prop := (∀ (t c : Nat) (x : Int × Int × Int), x ∈ a.2 t c → x.2.2 = -1 ∨ ∃ e : Nat, x.2.2 = e ∧ P 7 e = 0) ∧ ∀ i : Nat, (i : Int) < a.1 0 0 → a.1 5 i = -1 ∨ ∃ e : Nat, a.1 5 i = e ∧ P 7 e = 0
theorem NC.inc {P : VS} {a : SS} {k j : Nat} (h : NC P a) (hk : 6 ≤ k ∧ k ≤ 9) : NC P (ainc a k j) := by
  refine ⟨h.1, ?_⟩
  rw [ainc_row (by omega), ainc_row (by omega)]
  exact h.2
theorem NC.put {P : VS} {a : SS} {t c : Nat} {x : Int × Int × Int} (h : NC P a) (hx : x.2.2 = -1 ∨ ∃ e : Nat, x.2.2 = e ∧ P 7 e = 0) : NC P (aput a t c x) := by
  refine ⟨fun t' c' y hy => ?_, ?_⟩
  · unfold aput at hy
    dsimp only at hy
    rw [fset_at] at hy
    by_cases e : t' = t
    · rw [if_pos e, fset_at] at hy
      by_cases e2 : c' = c
      · rw [if_pos e2] at hy
        rcases List.mem_append.mp hy with q | q
        · exact h.1 _ _ y q
        · rw [List.mem_singleton.mp q]; exact hx
      · rw [if_neg e2] at hy; exact h.1 _ _ y hy
    · rw [if_neg e] at hy; exact h.1 _ _ y hy
  · exact h.2
theorem NC.goE {P : VS} {a : SS} {i e : Nat} (h : NC P a) : NC P (agoE P a i e) := by
  unfold agoE
  split
  · rename_i q
    have h1 : NC P (ainc a 9 e) := h.inc (by omega)
    unfold acarry
    split
    · exact h1.inc (by omega)
    · split
      · exact (h1.inc (by omega)).inc (by omega)
      · split
        · exact h1.inc (by omega)
        · unfold ahear
          split
          · exact h1.inc (by omega)
          · split
            · exact h1.inc (by omega)
            · exact (h1.inc (by omega)).put (Or.inr ⟨e, rfl, q.2⟩)
  · exact h
theorem NC.go {P : VS} {a : SS} {i : Nat} (h : NC P a) : NC P (ago P a i) := by
  unfold ago
  split
  · exact h
  · have q : ∀ m : Nat, NC P (agoL P i m a) := by
      intro m
      induction m with
      | zero => exact h
      | succ m ih => rw [agoL]; exact ih.goE
    exact q _
theorem abest_in : ∀ (r : List (Int × Int × Int)) (x : Int × Int × Int), abest x r ∈ x :: r := by
  intro r x
  obtain ⟨l1, l2, e, -⟩ := abest_spl r x
  rw [e]
  simp
theorem NC.step {P : VS} {a : SS} {t c : Nat} (h : NC P a) (h0 : 0 ≤ a.1 0 0) : NC P (astep P a t c) := by
  unfold astep
  split
  · exact h
  · unfold avis
    split
    · exact h
    · rename_i x r hx
      have hl : ∀ r j, NC P (alose a r j) := fun r j => ⟨h.1, by rw [alose_row (by omega), alose_row (by omega)]; exact h.2⟩
      unfold avisL
      split
      · exact hl _ _
      · split
        · exact hl _ _
        · split
          · exact hl _ _
          · refine NC.go ⟨h.1, fun i hi => ?_⟩
            rw [(aring_r (i := 0)).1, aoth_row (by omega)] at hi
            have e : ∀ (b : SS) (x : Int × Int × Int), (aring P b t c x).1 5 i = if i = (b.1 0 0).toNat then x.2.2 else b.1 5 i := fun b x => by simp [aring, v2_eq]
            rw [e, aoth_row (by omega), aoth_row (by omega)]
            by_cases q : i = (a.1 0 0).toNat
            · rw [if_pos q]
              exact h.1 t c _ (by rw [hx]; exact abest_in r x)
            · rw [if_neg q]
              exact h.2 i (by omega)
theorem NC.run {P : VS} (hP : PW P) : NC P (arun P) := by
  have hT := hP.T
  have hC := hP.C
  have hin : ∀ (t m : Nat) (a : SS), NC P a → 0 ≤ a.1 0 0 → NC P (ainL P t m a) ∧ 0 ≤ (ainL P t m a).1 0 0 := by
    intro t m
    induction m with
    | zero => intro a h h0; exact ⟨h, h0⟩
    | succ m ih =>
      intro a h h0
      obtain ⟨g1, g2⟩ := ih a h h0
      rw [ainL]
      exact ⟨g1.step g2, by have := (SKP.step (P := P) t m g2).1; omega⟩
  have hout : ∀ (m : Nat) (a : SS), NC P a → 0 ≤ a.1 0 0 → NC P (aoutL P m a) ∧ 0 ≤ (aoutL P m a).1 0 0 := by
    intro m
    induction m with
    | zero => intro a h h0; exact ⟨h, h0⟩
    | succ m ih =>
      intro a h h0
      obtain ⟨g1, g2⟩ := ih a h h0
      rw [aoutL]
      exact hin _ _ _ g1 g2
  have hb : ∀ m : Nat, NC P (abegL P m anil) := by
    intro m
    induction m with
    | zero => exact ⟨fun t c x hx => by
        have hx : x ∈ ([] : List (Int × Int × Int)) := hx
        simp at hx, fun i hi => by
        have hi : (i : Int) < 0 := hi
        omega⟩
    | succ m ih => rw [abegL]; exact ih.put (Or.inl rfl)
  have e : (abeg P).1 = anil.1 := by unfold abeg; exact abegL_1 _ _
  exact (hout _ _ (hb _) (by
    have : (abeg P).1 0 0 = 0 := by rw [e]; rfl
    show 0 ≤ (abeg P).1 0 0
    omega)).1
theorem sizeOf_ok : (List.range 4096).all (fun x => decide (mo_sizeOf (fun _ _ => 0) (x : Int) = popc (x : Int))) = true := by decide +kernel
theorem sizeOf_eq {v : VS} {s : Int} (h : 0 ≤ s ∧ s < 4096) : mo_sizeOf v s = popc s := by
  obtain ⟨n, rfl⟩ := Int.eq_ofNat_of_zero_le h.1
  have q := List.all_eq_true.mp sizeOf_ok n (List.mem_range.mpr (by omega))
  have q := of_decide_eq_true q
  rw [← q]
  have e : ∀ (f : Nat) (m x : Int), mo_sizeOf_4 f v m x = mo_sizeOf_4 f (fun _ _ => 0) m x := by
    intro f
    induction f with
    | zero => intro m x; rw [mo_sizeOf_4, mo_sizeOf_4]
    | succ f ih => intro m x; rw [mo_sizeOf_4, mo_sizeOf_4, ih]
  unfold mo_sizeOf
  exact e _ _ _
theorem size_eq {v : VS} {s : Int} (h : 0 ≤ s ∧ s < 4096) : mo_size v s = popc s := by
  have q := Classical.choose_spec (⟨mo_sizeOf (fun _ _ => 0) s, rfl⟩ : ∃ u : Int, u = mo_sizeOf (fun _ _ => 0) s)
  unfold mo_size
  rw [q, sizeOf_eq h]
