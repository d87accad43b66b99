/-! a run that ends with what is not wanted: the beginning of the whole one -/
def UW (P : VS) (t c n : Int) : Prop := c = P 0 6 ∨ P 0 7 ≤ t ∨ P 0 8 < n
theorem auw_1 {P : VS} {t c : Nat} {n : Int} (h : UW P t c n) : auw P t c n = 1 := by
  unfold UW at h
  unfold auw
  rw [if_pos h]
theorem auw_n {P : VS} {t c : Nat} {n : Int} (h : ¬ UW P t c n) : auw P t c n = 0 := by
  unfold UW at h
  unfold auw
  rw [if_neg h]
def PEQ (P P' : VS) : Prop := (∀ k, k ≠ 0 → P' k = P k) ∧ ∀ j, j ≠ 1 → j ≠ 6 → j ≠ 7 → j ≠ 8 → P' 0 j = P 0 j
theorem PEQ.toPln (P : VS) : PEQ P (pln P) := ⟨fun k hk => pln_row hk, fun j a b c d => by rw [pln_0, if_neg a, if_neg b, if_neg c, if_neg d]⟩
theorem PEQ.carry {P P' : VS} (h : PEQ P P') (a : SS) (i e : Nat) : acarry P' a i e = acarry P a i e := by
  unfold acarry ahear aat
  rw [h.2 2 (by omega) (by omega) (by omega) (by omega), h.1 (100 + e) (by omega), h.1 (200 + e) (by omega), h.1 1 (by omega), h.1 (300 + (P 1 e).toNat) (by omega), h.1 (400 + (P 1 e).toNat) (by omega), h.1 3 (by omega)]
theorem PEQ.goL {P P' : VS} (h : PEQ P P') (i : Nat) : ∀ (m : Nat) (a : SS), agoL P' i m a = agoL P i m a := by
  intro m
  induction m with
  | zero => intro a; rfl
  | succ m ih =>
    intro a
    rw [agoL, agoL, ih]
    unfold agoE
    rw [h.1 2 (by omega), h.1 7 (by omega), h.carry]
theorem PEQ.go {P P' : VS} (h : PEQ P P') (a : SS) (i : Nat) : ago P' a i = ago P a i := by
  unfold ago
  rw [h.2 5 (by omega) (by omega) (by omega) (by omega), h.2 3 (by omega) (by omega) (by omega) (by omega), h.goL]
theorem aring_eq {P P' : VS} {a : SS} {t c : Nat} {x : Int × Int × Int} (h : auw P' t c (a.1 0 0 + 1) = auw P t c (a.1 0 0 + 1)) : aring P' a t c x = aring P a t c x := by
  unfold aring
  rw [h]
theorem agoE_row {P : VS} {a : SS} {i e k : Nat} (hk : k < 6 ∨ 9 < k) : (agoE P a i e).1 k = a.1 k := by
  unfold agoE
  split
  · unfold acarry
    split
    · rw [ainc_row (by omega), ainc_row (by omega)]
    · split
      · rw [ainc_row (by omega), ainc_row (by omega), ainc_row (by omega)]
      · split
        · rw [ainc_row (by omega), ainc_row (by omega)]
        · unfold ahear
          split
          · rw [ainc_row (by omega), ainc_row (by omega)]
          · split
            · rw [ainc_row (by omega), ainc_row (by omega)]
            · rw [aput_row, ainc_row (by omega), ainc_row (by omega)]
  · rfl
theorem agoL_row {P : VS} {i k : Nat} (hk : k < 6 ∨ 9 < k) : ∀ (m : Nat) (a : SS), (agoL P i m a).1 k = a.1 k := by
  intro m
  induction m with
  | zero => intro a; rfl
  | succ m ih => intro a; rw [agoL, agoE_row hk, ih]
theorem ago_row {P : VS} {a : SS} {i k : Nat} (hk : k < 6 ∨ 9 < k) : (ago P a i).1 k = a.1 k := by
  unfold ago
  split
  · rfl
  · exact agoL_row hk _ _
theorem alose_row {a : SS} {r k j : Nat} (hk : k ≠ 6) : (alose a r j).1 k = a.1 k := by
  show v2 (v2 a.1 6 7 (a.1 6 7 + r)) 6 j (a.1 6 j + 1) k = _
  rw [v2_row hk, v2_row hk]
theorem aoth_row {a : SS} {r k : Nat} (hk : k ≠ 6) : (aoth a r).1 k = a.1 k := by
  show v2 a.1 6 7 (a.1 6 7 + (r : Int)) k = _
  rw [v2_row hk]
/-- strikes that were made stay -/
def SKP (a a' : SS) : Prop := a.1 0 0 ≤ a'.1 0 0 ∧ ∀ k i : Nat, 1 ≤ k → k ≤ 5 → (i : Int) < a.1 0 0 → a'.1 k i = a.1 k i
theorem SKP.refl (a : SS) : SKP a a := ⟨Int.le_refl _, fun _ _ _ _ _ => rfl⟩
theorem SKP.trans {a b c : SS} (h : SKP a b) (g : SKP b c) : SKP a c := ⟨by have := h.1; have := g.1; omega, fun k i k1 k2 hi => by rw [g.2 k i k1 k2 (by have := h.1; omega), h.2 k i k1 k2 hi]⟩
theorem SKP.step {P : VS} {a : SS} (t c : Nat) (h0 : 0 ≤ a.1 0 0) : SKP a (astep P a t c) := by
  unfold astep
  split
  · exact SKP.refl a
  · unfold avis
    split
    · exact SKP.refl a
    · have hl : ∀ r j, SKP a (alose a r j) := fun r j => ⟨by rw [alose_row (by omega)]; exact Int.le_refl _, fun k i k1 k2 hi => by rw [alose_row (by omega)]⟩
      unfold avisL
      split
      · exact hl _ _
      · split
        · exact hl _ _
        · split
          · exact hl _ _
          · rename_i x r _ _ _ _
            refine ⟨?_, fun k i k1 k2 hi => ?_⟩
            · rw [ago_row (by omega), (aring_r (i := 0)).1, aoth_row (by omega)]
              omega
            · rw [ago_row (by omega)]
              obtain ⟨-, -, -, a1, a2, a3, a4, a5, -⟩ := aring_r (P := P) (a := aoth a r.length) (t := t) (c := c) (i := i) (x := abest x r)
              rw [aoth_row (by omega)] at a1 a2 a3 a4 a5
              rw [aoth_row (by omega)] at a1 a2 a3 a4 a5
              rw [if_neg (by omega)] at a1 a2 a3 a4 a5
              have hk : k = 1 ∨ k = 2 ∨ k = 3 ∨ k = 4 ∨ k = 5 := by omega
              rcases hk with rfl | rfl | rfl | rfl | rfl
              · exact a1
              · exact a2
              · exact a3
              · exact a4
              · exact a5
def SQ (P : VS) (a q : SS) : Prop :=
  (a = q ∧ a.1 0 2 = 0 ∧ ∀ i : Nat, (i : Int) < a.1 0 0 → ¬ UW P (a.1 1 i) (a.1 2 i) ((i : Int) + 1)) ∨
  (a.1 0 1 = 1 ∧ a.1 0 2 = 1 ∧ SKP a q ∧ ∃ i : Nat, (i : Int) < a.1 0 0 ∧ UW P (a.1 1 i) (a.1 2 i) ((i : Int) + 1))
theorem SQ.step {P : VS} {a q : SS} {t c : Nat} (h : SQ P a q) (ha : 0 ≤ a.1 0 0) (hq : 0 ≤ q.1 0 0) (hn : a.1 0 1 = 0 → a.1 0 0 < 300) (ht : t < 300) : SQ P (astep P a t c) (astep (pln P) q t c) := by
  have hE := PEQ.toPln P
  rcases h with ⟨rfl, h2, h3⟩ | ⟨h1, h2, h3, h4⟩
  · have hl : ∀ r j, SQ P (alose a r j) (alose a r j) := by
      intro r j
      left
      refine ⟨rfl, by rw [alose_row (by omega)]; exact h2, ?_⟩
      rw [alose_row (by omega), alose_row (by omega), alose_row (by omega)]
      exact h3
    unfold astep
    by_cases o : a.1 0 1 ≠ 0
    · rw [if_pos o, if_pos o]
      exact Or.inl ⟨rfl, h2, h3⟩
    · rw [if_neg o, if_neg o]
      have hn := hn (by omega)
      unfold avis
      cases hl2 : a.2 t c with
      | nil => exact Or.inl ⟨rfl, h2, h3⟩
      | cons x r =>
        show SQ P (avisL P a t c x r) (avisL (pln P) a t c x r)
        unfold avisL
        rw [hE.1 6 (by omega), hE.1 4 (by omega), hE.1 5 (by omega), hE.2 4 (by omega) (by omega) (by omega) (by omega), hE.go]
        by_cases q1 : P 6 c = 1
        · rw [if_pos q1, if_pos q1]; exact hl _ _
        · rw [if_neg q1, if_neg q1]
          by_cases q2 : a.1 12 c = 1 ∧ P 0 4 = 0 ∧ (t : Int) - a.1 10 c ≤ P 4 c
          · rw [if_pos q2, if_pos q2]; exact hl _ _
          · rw [if_neg q2, if_neg q2]
            by_cases q3 : a.1 12 c = 1 ∧ P 5 c = 1 ∧ (abest x r).1 ≤ a.1 11 c
            · rw [if_pos q3, if_pos q3]; exact hl _ _
            · rw [if_neg q3, if_neg q3]
              obtain ⟨N, hN⟩ : ∃ N : Nat, a.1 0 0 = N := ⟨(a.1 0 0).toNat, by omega⟩
              have o0 : (aoth a r.length).1 0 = a.1 0 := aoth_row (by omega)
              have hP0 : ∀ n : Int, n ≤ 300 → auw (pln P) t c n = 0 := by
                intro n hn
                unfold auw
                rw [pln_0, pln_0, pln_0]
                simp
                omega
              have r1 : ∀ (Q : VS) (i : Nat), (aring Q (aoth a r.length) t c (abest x r)).1 1 i = if i = N then (t : Int) else a.1 1 i := fun Q i => by
                rw [(aring_r (i := i)).2.2.2.1, o0, hN, toN, aoth_row (by omega)]
              have r2 : ∀ (Q : VS) (i : Nat), (aring Q (aoth a r.length) t c (abest x r)).1 2 i = if i = N then (c : Int) else a.1 2 i := fun Q i => by
                rw [(aring_r (i := i)).2.2.2.2.1, o0, hN, toN, aoth_row (by omega)]
              have r0 : ∀ (Q : VS), (aring Q (aoth a r.length) t c (abest x r)).1 0 0 = (N : Int) + 1 := fun Q => by
                rw [(aring_r (i := 0)).1, o0, hN]
              by_cases u : UW P t c ((N : Int) + 1)
              · right
                have e1 := (aring_r (P := P) (a := aoth a r.length) (t := t) (c := c) (i := 0) (x := abest x r)).2.2.1
                have e2 := (aring_r (P := P) (a := aoth a r.length) (t := t) (c := c) (i := 0) (x := abest x r)).2.1
                rw [o0, hN, auw_1 u] at e1 e2
                rw [if_pos (Or.inl rfl)] at e1
                have eg : ago P (aring P (aoth a r.length) t c (abest x r)) (a.1 0 0).toNat = aring P (aoth a r.length) t c (abest x r) := by
                  unfold ago
                  rw [if_pos (Or.inl (by omega))]
                rw [eg]
                refine ⟨e1, e2, ⟨?_, fun k i k1 k2 hi => ?_⟩, N, ?_, ?_⟩
                · rw [ago_row (by omega), r0, r0]
                  exact Int.le_refl _
                · rw [ago_row (by omega)]
                  obtain ⟨-, -, -, a1, a2, a3, a4, a5, -⟩ := aring_r (P := P) (a := aoth a r.length) (t := t) (c := c) (i := i) (x := abest x r)
                  obtain ⟨-, -, -, b1, b2, b3, b4, b5, -⟩ := aring_r (P := pln P) (a := aoth a r.length) (t := t) (c := c) (i := i) (x := abest x r)
                  have hk : k = 1 ∨ k = 2 ∨ k = 3 ∨ k = 4 ∨ k = 5 := by omega
                  rcases hk with rfl | rfl | rfl | rfl | rfl
                  · rw [a1, b1]
                  · rw [a2, b2]
                  · rw [a3, b3]
                  · rw [a4, b4]
                  · rw [a5, b5]
                · rw [r0]
                  omega
                · rw [r1, r2, if_pos rfl, if_pos rfl]
                  exact u
              · left
                have ea : aring (pln P) (aoth a r.length) t c (abest x r) = aring P (aoth a r.length) t c (abest x r) := by
                  apply aring_eq
                  rw [o0, hN, auw_n u, hP0 _ (by omega)]
                rw [ea]
                refine ⟨rfl, ?_, fun i hi => ?_⟩
                · rw [ago_row (by omega), (aring_r (i := 0)).2.1, o0, hN, auw_n u]
                · rw [ago_row (by omega), r0] at hi
                  rw [ago_row (by omega), ago_row (by omega), r1, r2]
                  by_cases z : i = N
                  · rw [if_pos z, if_pos z, z]
                    exact u
                  · rw [if_neg z, if_neg z]
                    exact h3 i (by omega)
  · right
    rw [astep_over (by omega)]
    exact ⟨h1, h2, h3.trans (SKP.step t c hq), h4⟩
theorem SQ.inL {P : VS} {a q : SS} {t : Nat} (hP : PW P) (h : SQ P a q) (hA : AW P t 0 a) (hB : AW (pln P) t 0 q) (ht : (t : Int) < P 0 1) : ∀ k : Nat, (k : Int) ≤ P 0 0 → SQ P (ainL P t k a) (ainL (pln P) t k q) := by
  have hT := hP.T
  have e1 : pln P 0 1 = P 0 2 := by rw [pln_0, if_pos rfl]
  have e0 : pln P 0 0 = P 0 0 := by rw [pln_0]; simp
  intro k
  induction k with
  | zero => intro _; exact h
  | succ k ih =>
    intro hk
    have g1 := hA.inL hP ht k (by omega)
    have g2 := hB.inL hP.toPln (by rw [e1]; omega) k (by rw [e0]; omega)
    exact (ih (by omega)).step g1.n.1 g2.n.1 g1.nn (by omega)
theorem SQ.outL {P : VS} {a q : SS} (hP : PW P) (h : SQ P a q) (hA : AW P 0 0 a) (hB : AW (pln P) 0 0 q) : ∀ k : Nat, (k : Int) ≤ P 0 1 → SQ P (aoutL P k a) (aoutL (pln P) k q) := by
  have hT := hP.T
  have hC := hP.C
  have e1 : pln P 0 1 = P 0 2 := by rw [pln_0, if_pos rfl]
  have e0 : pln P 0 0 = P 0 0 := by rw [pln_0]; simp
  intro k
  induction k with
  | zero => intro _; exact h
  | succ k ih =>
    intro hk
    rw [aoutL, aoutL, e0]
    exact (ih (by omega)).inL hP (hA.outL hP k (by omega)) (hB.outL hP.toPln k (by rw [e1]; omega)) (by omega) _ (by omega)
theorem abeg_pln (P : VS) : abeg (pln P) = abeg P := by
  have e9 : pln P 0 9 = P 0 9 := by rw [pln_0]; simp
  have q : ∀ m a, abegL (pln P) m a = abegL P m a := by
    intro m
    induction m with
    | zero => intro a; rfl
    | succ m ih => intro a; rw [abegL, abegL, ih, pln_row (by omega), pln_row (by omega), pln_row (by omega)]
  unfold abeg
  rw [e9, q]
theorem SQ.run {P : VS} (hP : PW P) (hT : P 0 1 = P 0 2) : SQ P (arun P) (arun (pln P)) := by
  have e1 : pln P 0 1 = P 0 2 := by rw [pln_0, if_pos rfl]
  unfold arun
  rw [abeg_pln, e1, ← hT]
  have hA := AW.beg hP
  have hB := AW.beg hP.toPln
  rw [abeg_pln] at hB
  refine SQ.outL hP ?_ hA hB _ (by have := hP.T; omega)
  left
  have e : (abeg P).1 = anil.1 := by unfold abeg; exact abegL_1 _ _
  refine ⟨rfl, by rw [e]; rfl, fun i hi => ?_⟩
  rw [e] at hi
  have hi : (i : Int) < 0 := hi
  omega
/-- whether what is not wanted is struck, by the whole run -/
theorem uw_iff {P : VS} (hP : PW P) (hT : P 0 1 = P 0 2) : ((arun P).1 0 2 = 0 ∨ (arun P).1 0 2 = 1) ∧ ((arun P).1 0 2 = 1 ↔ ∃ i : Nat, (i : Int) < (arun (pln P)).1 0 0 ∧ UW P ((arun (pln P)).1 1 i) ((arun (pln P)).1 2 i) ((i : Int) + 1)) := by
  rcases SQ.run hP hT with ⟨h1, h2, h3⟩ | ⟨h1, h2, h3, i, h4, h5⟩
  · refine ⟨Or.inl h2, fun g => by omega, fun ⟨i, g1, g2⟩ => ?_⟩
    rw [← h1] at g1 g2
    exact absurd g2 (h3 i g1)
  · refine ⟨Or.inr h2, fun _ => ⟨i, by have := h3.1; omega, ?_⟩, fun _ => h2⟩
    rw [h3.2 1 i (by omega) (by omega) h4, h3.2 2 i (by omega) (by omega) h4]
    exact h5
