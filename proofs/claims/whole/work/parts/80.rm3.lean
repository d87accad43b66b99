/-! the best of what is due -/
theorem v2_self (v : VS) (k j : Nat) {x : Int} (h : x = v k j) : v2 v k j x = v := by
  subst h
  funext k' j'
  rw [v2_eq]
  split
  · rename_i q
    rw [q.1, q.2]
  · rfl
theorem v2_v2 (v : VS) (k j : Nat) (x y : Int) : v2 (v2 v k j x) k j y = v2 v k j y := by
  funext k' j'
  simp only [v2_eq]
  split
  · rfl
  · rfl
theorem t50 (k : Nat) : ((5 * (k : Int))).toNat = 5 * k := by omega
theorem t51 (k : Nat) : ((5 * (k : Int)) + 1).toNat = 5 * k + 1 := by omega
theorem t52 (k : Nat) : ((5 * (k : Int)) + 2).toNat = 5 * k + 2 := by omega
theorem t53 (k : Nat) : ((5 * (k : Int)) + 3).toNat = 5 * k + 3 := by omega
theorem t54 (k : Nat) : ((5 * (k : Int)) + 4).toNat = 5 * k + 4 := by omega
theorem falls_some {t c : Int} : ∀ (l : List Nat) (x : Int) (f g : Nat) (v : VS), Sg v l x (-1) → l.length < f →
    ∃ b : Nat, mo_falls_10 f v t c g x = ((b : Int), v2 v 221 7 (v 221 7 + ((l.filter (isC v c)).length : Int))) ∧ (b = g ∨ b ∈ l) ∧ ent v b = abest (ent v g) ((l.filter (isC v c)).map (ent v)) := by
  intro l
  induction l with
  | nil =>
    intro x f g v hs hf
    cases f with
    | zero => simp at hf
    | succ f =>
      have hx : x = -1 := hs
      refine ⟨g, ?_, Or.inl rfl, rfl⟩
      rw [mo_falls_10, if_pos hx]
      congr 1
      exact (v2_self v 221 7 (by simp)).symm
  | cons k l ih =>
    intro x f g v hs hf
    cases f with
    | zero => simp at hf
    | succ f =>
      obtain ⟨hx, hs⟩ := hs
      subst hx
      have hf' : l.length < f := by rw [List.length_cons] at hf; omega
      rw [mo_falls_10, if_neg (by omega), t50, t51, t51, t54, if_neg (show ¬ ((g : Int) = -1) by omega)]
      simp only [if_neg (show ¬ ((g : Int) = -1) by omega)]
      by_cases q : v 225 (5 * k) = c
      · have ic : isC v c k = true := by unfold isC; rw [q]; simp
        rw [if_pos q, List.filter_cons, if_pos ic]
        have hw : ∀ z : Int, Sg (v2 v 221 7 z) l (v 225 (5 * k + 4)) (-1) := fun z => Sg.of l _ _ (fun k' _ => by rw [v2_row (by omega)]) hs
        have e1 : ∀ z : Int, isC (v2 v 221 7 z) c = isC v c := fun z => by funext k'; unfold isC; rw [v2_row (by omega)]
        have e2 : ∀ z : Int, ent (v2 v 221 7 z) = ent v := fun z => by funext k'; unfold ent; rw [v2_row (by omega)]
        have e3 : ∀ n : Nat, v2 (v2 v 221 7 (v 221 7 + 1)) 221 7 ((v2 v 221 7 (v 221 7 + 1)) 221 7 + (n : Int)) = v2 v 221 7 (v 221 7 + ((n + 1 : Nat) : Int)) := by
          intro n
          rw [v2_v2, v2_eq, if_pos ⟨rfl, rfl⟩]
          congr 1
          omega
        by_cases q2 : v 225 (5 * g + 1) < v 225 (5 * k + 1)
        · rw [if_pos q2]
          obtain ⟨b, i1, i2, i3⟩ := ih _ f k _ (hw (v 221 7 + 1)) hf'
          rw [e1, e3] at i1
          rw [e1, e2] at i3
          refine ⟨b, by rw [i1, List.length_cons], ?_, ?_⟩
          · rcases i2 with i2 | i2
            · rw [i2]; exact Or.inr List.mem_cons_self
            · exact Or.inr (List.mem_cons_of_mem _ i2)
          · rw [i3, List.map_cons]
            show _ = abest (if (ent v g).1 < (ent v k).1 then ent v k else ent v g) _
            rw [if_pos (show (ent v g).1 < (ent v k).1 from q2)]
        · rw [if_neg q2]
          obtain ⟨b, i1, i2, i3⟩ := ih _ f g _ (hw (v 221 7 + 1)) hf'
          rw [e1, e3] at i1
          rw [e1, e2] at i3
          refine ⟨b, by rw [i1, List.length_cons], ?_, ?_⟩
          · rcases i2 with i2 | i2
            · exact Or.inl i2
            · exact Or.inr (List.mem_cons_of_mem _ i2)
          · rw [i3, List.map_cons]
            show _ = abest (if (ent v g).1 < (ent v k).1 then ent v k else ent v g) _
            rw [if_neg (show ¬ (ent v g).1 < (ent v k).1 from q2)]
      · have ic : ¬ isC v c k = true := by unfold isC; simp [q]
        rw [if_neg q, List.filter_cons, if_neg ic]
        obtain ⟨b, i1, i2, i3⟩ := ih _ f g v hs hf'
        refine ⟨b, i1, ?_, i3⟩
        rcases i2 with i2 | i2
        · exact Or.inl i2
        · exact Or.inr (List.mem_cons_of_mem _ i2)
theorem falls_none {t c : Int} : ∀ (l : List Nat) (x : Int) (f : Nat) (v : VS), Sg v l x (-1) → l.length < f →
    (l.filter (isC v c) = [] → mo_falls_10 f v t c (-1) x = (-1, v)) ∧
    (∀ k0 r, l.filter (isC v c) = k0 :: r → ∃ b : Nat, mo_falls_10 f v t c (-1) x = ((b : Int), v2 v 221 7 (v 221 7 + (r.length : Int))) ∧ b ∈ l ∧ ent v b = abest (ent v k0) (r.map (ent v))) := by
  intro l
  induction l with
  | nil =>
    intro x f v hs hf
    cases f with
    | zero => simp at hf
    | succ f =>
      have hx : x = -1 := hs
      refine ⟨fun _ => ?_, fun k0 r h => by simp at h⟩
      rw [mo_falls_10, if_pos hx]
  | cons k l ih =>
    intro x f v hs hf
    cases f with
    | zero => simp at hf
    | succ f =>
      obtain ⟨hx, hs⟩ := hs
      subst hx
      have hf' : l.length < f := by rw [List.length_cons] at hf; omega
      rw [mo_falls_10, if_neg (by omega), t50, t51, t54]
      simp only [if_true]
      by_cases q : v 225 (5 * k) = c
      · have ic : isC v c k = true := by unfold isC; rw [q]; simp
        rw [if_pos q, List.filter_cons, if_pos ic]
        refine ⟨fun h => by simp at h, fun k0 r h => ?_⟩
        rw [List.cons.injEq] at h
        obtain ⟨h1, h2⟩ := h
        subst h1
        obtain ⟨b, i1, i2, i3⟩ := falls_some (t := t) (c := c) l _ f k v hs hf'
        rw [h2] at i1 i3
        refine ⟨b, i1, ?_, i3⟩
        rcases i2 with i2 | i2
        · rw [i2]; exact List.mem_cons_self
        · exact List.mem_cons_of_mem _ i2
      · have ic : ¬ isC v c k = true := by unfold isC; simp [q]
        rw [if_neg q, List.filter_cons, if_neg ic]
        obtain ⟨i1, i2⟩ := ih _ f v hs hf'
        refine ⟨i1, fun k0 r h => ?_⟩
        obtain ⟨b, j1, j2, j3⟩ := i2 k0 r h
        exact ⟨b, j1, List.mem_cons_of_mem _ j2, j3⟩
/-! a strike -/
def srg (v : VS) (t c k : Int) : VS := v2 (v2 (v2 (v2 (v2 (v2 (v2 (v2 (v2 (v2 v 220 (5 * v 203 37).toNat t) 220 (5 * v 203 37 + 1).toNat c) 220 (5 * v 203 37 + 2).toNat (v 225 (k + 1).toNat)) 220 (5 * v 203 37 + 3).toNat (v 225 (k + 2).toNat)) 220 (5 * v 203 37 + 4).toNat (v 225 (k + 3).toNat)) 203 37 (v 203 37 + 1)) 228 c.toNat t) 229 c.toNat (v 225 (k + 1).toNat)) 230 c.toNat (if v 230 c.toNat = -1 then v 203 37 else v 230 c.toNat)) 231 c.toNat (v 231 c.toNat + 1)
theorem sa134_eq {u v : VS} {t c k : Int} (h37 : u 203 37 = v 203 37 + 1) (h35 : u 203 35 = v 203 35) (h231 : u 231 = v 231) : mo_strikesAt_134 u t c k (v 203 37) = if v 203 37 + 1 = 300 then v2 u 231 c.toNat (v 231 c.toNat + 1) else if v 203 37 = v 203 35 then v2 u 231 c.toNat (v 231 c.toNat + 1) else mo_strikesAt_167 13 (v2 u 231 c.toNat (v 231 c.toNat + 1)) t c k (v 203 37) 0 := by
  unfold mo_strikesAt_134
  rw [h37, h35, h231]
theorem sa_eq (v : VS) (t c k : Int) : mo_strikesAt v t c k = if v 203 37 + 1 = 300 then srg v t c k else if v 203 37 = v 203 35 then srg v t c k else mo_strikesAt_167 13 (srg v t c k) t c k (v 203 37) 0 := by
  unfold mo_strikesAt srg
  by_cases q : v 230 c.toNat = -1
  · rw [if_pos q, if_pos q]
    refine sa134_eq ?_ ?_ ?_
    · rw [v2_row (by omega), v2_row (by omega), v2_row (by omega), v2_eq, if_pos ⟨rfl, rfl⟩]
    · rw [v2_row (by omega), v2_row (by omega), v2_row (by omega), v2_eq, if_neg (by omega), v2_row (by omega), v2_row (by omega), v2_row (by omega), v2_row (by omega), v2_row (by omega)]
    · rw [v2_row (by omega), v2_row (by omega), v2_row (by omega), v2_row (by omega), v2_row (by omega), v2_row (by omega), v2_row (by omega), v2_row (by omega), v2_row (by omega)]
  · rw [if_neg q, if_neg q]
    have e : ∀ u : VS, u 230 c.toNat = v 230 c.toNat → v2 u 230 c.toNat (v 230 c.toNat) = u := fun u hu => v2_self u 230 _ hu.symm
    rw [e _ (by rw [v2_row (by omega), v2_row (by omega), v2_row (by omega), v2_row (by omega), v2_row (by omega), v2_row (by omega), v2_row (by omega), v2_row (by omega)])]
    refine sa134_eq ?_ ?_ ?_
    · rw [v2_row (by omega), v2_row (by omega), v2_eq, if_pos ⟨rfl, rfl⟩]
    · rw [v2_row (by omega), v2_row (by omega), v2_eq, if_neg (by omega), v2_row (by omega), v2_row (by omega), v2_row (by omega), v2_row (by omega), v2_row (by omega)]
    · rw [v2_row (by omega), v2_row (by omega), v2_row (by omega), v2_row (by omega), v2_row (by omega), v2_row (by omega), v2_row (by omega), v2_row (by omega)]
theorem srg_row {v : VS} {t c k : Int} {j : Nat} (h : j ≠ 203 ∧ j ≠ 220 ∧ j < 228 ∨ 231 < j) : srg v t c k j = v j := by
  unfold srg
  rw [v2_row (by omega), v2_row (by omega), v2_row (by omega), v2_row (by omega), v2_row (by omega), v2_row (by omega), v2_row (by omega), v2_row (by omega), v2_row (by omega), v2_row (by omega)]
theorem srg_203 {v : VS} {t c k : Int} {j : Nat} : srg v t c k 203 j = if j = 37 then v 203 37 + 1 else v 203 j := by
  unfold srg
  rw [v2_row (by omega), v2_row (by omega), v2_row (by omega), v2_row (by omega), v2_eq]
  by_cases q : j = 37
  · rw [if_pos ⟨rfl, q⟩, if_pos q]
  · rw [if_neg (fun g => q g.2), if_neg q, v2_row (by omega), v2_row (by omega), v2_row (by omega), v2_row (by omega), v2_row (by omega)]
theorem srg_220 {v : VS} {t c : Int} {N b i k : Nat} (hN : v 203 37 = N) (hk : k < 5) : srg v t c (5 * (b : Int)) 220 (5 * i + k) = if i = N then (if k = 0 then t else if k = 1 then c else if k = 2 then v 225 (5 * b + 1) else if k = 3 then v 225 (5 * b + 2) else v 225 (5 * b + 3)) else v 220 (5 * i + k) := by
  unfold srg
  rw [hN, t50, t51, t52, t53, t54, t51, t52, t53, v2_row (by omega), v2_row (by omega), v2_row (by omega), v2_row (by omega), v2_row (by omega)]
  simp only [v2_eq]
  by_cases q : i = N
  · subst q
    have hk : k = 0 ∨ k = 1 ∨ k = 2 ∨ k = 3 ∨ k = 4 := by omega
    rcases hk with rfl | rfl | rfl | rfl | rfl <;> simp
  · rw [if_neg q, if_neg (by omega), if_neg (by omega), if_neg (by omega), if_neg (by omega), if_neg (by omega)]
theorem srg_c {v : VS} {t k : Int} {c j : Nat} :
    srg v t c k 228 j = (if j = c then t else v 228 j) ∧
    srg v t c k 229 j = (if j = c then v 225 (k + 1).toNat else v 229 j) ∧
    srg v t c k 230 j = (if j = c then (if v 230 c = -1 then v 203 37 else v 230 c) else v 230 j) ∧
    srg v t c k 231 j = (if j = c then v 231 c + 1 else v 231 j) := by
  unfold srg
  rw [toN]
  refine ⟨?_, ?_, ?_, ?_⟩
  · rw [v2_row (by omega), v2_row (by omega), v2_row (by omega), v2_eq]
    by_cases q : j = c
    · rw [if_pos ⟨rfl, q⟩, if_pos q]
    · rw [if_neg (fun g => q g.2), if_neg q, v2_row (by omega), v2_row (by omega), v2_row (by omega), v2_row (by omega), v2_row (by omega), v2_row (by omega)]
  · rw [v2_row (by omega), v2_row (by omega), v2_eq]
    by_cases q : j = c
    · rw [if_pos ⟨rfl, q⟩, if_pos q]
    · rw [if_neg (fun g => q g.2), if_neg q, v2_row (by omega), v2_row (by omega), v2_row (by omega), v2_row (by omega), v2_row (by omega), v2_row (by omega), v2_row (by omega)]
  · rw [v2_row (by omega), v2_eq]
    by_cases q : j = c
    · rw [if_pos ⟨rfl, q⟩, if_pos q]
    · rw [if_neg (fun g => q g.2), if_neg q, v2_row (by omega), v2_row (by omega), v2_row (by omega), v2_row (by omega), v2_row (by omega), v2_row (by omega), v2_row (by omega), v2_row (by omega)]
  · rw [v2_eq]
    by_cases q : j = c
    · rw [if_pos ⟨rfl, q⟩, if_pos q]
    · rw [if_neg (fun g => q g.2), if_neg q, v2_row (by omega), v2_row (by omega), v2_row (by omega), v2_row (by omega), v2_row (by omega), v2_row (by omega), v2_row (by omega), v2_row (by omega), v2_row (by omega)]
theorem auw_0 {P : VS} {v : VS} (h : MP P v) {t c : Nat} {n : Int} (ht : t < 300) (hn : n ≤ 300) : auw P t c n = 0 := by
  unfold auw
  rw [h.stC, h.stF, h.stM, if_neg (by omega)]
theorem RB.ring {B : Int} {P : VS} {a : SS} {v : VS} {t c b : Nat} (h : RB B P a v) (hA : AW P t c a) (hn : a.1 0 0 < 300) (ht : t < 300) (hc : c < 9) : RB B P (aring P a t c (ent v b)) (srg v t c (5 * (b : Int))) := by
  have h0 := hA.n
  obtain ⟨N, hN⟩ : ∃ N : Nat, a.1 0 0 = N := ⟨(a.1 0 0).toNat, by omega⟩
  obtain ⟨h1, ⟨g1, g2, g3, g4, g5⟩, L, m, h3, h4⟩ := h
  have hvN : v 203 37 = N := by rw [g1, hN]
  have hNt : (a.1 0 0).toNat = N := by omega
  refine ⟨h1.of (fun k a b => srg_row (by omega)) (fun j a b => by rw [srg_203, if_neg (by omega)]), ?_, L, m, h3, h4.of (srg_row (by omega)) (srg_row (by omega)) (srg_row (by omega)) (by rw [srg_203, if_neg (by omega)]) rfl⟩
  refine ⟨?_, fun k i hk hi => ?_, fun j hj => ?_, fun e he => ?_, fun c' hc' => ?_⟩
  · rw [srg_203, if_pos rfl, (aring_r (i := 0)).1, g1]
  · rw [(aring_r (i := 0)).1] at hi
    rw [srg_220 hvN hk]
    obtain ⟨-, -, -, a1, a2, a3, a4, a5, -⟩ := aring_r (P := P) (a := a) (t := t) (c := c) (i := i) (x := ent v b)
    rw [hNt] at a1 a2 a3 a4 a5
    have hk5 : k = 0 ∨ k = 1 ∨ k = 2 ∨ k = 3 ∨ k = 4 := by omega
    by_cases q : i = N
    · rw [if_pos q]
      rw [if_pos q] at a1 a2 a3 a4 a5
      rcases hk5 with rfl | rfl | rfl | rfl | rfl
      · exact a1.symm
      · exact a2.symm
      · exact a3.symm
      · exact a4.symm
      · exact a5.symm
    · rw [if_neg q, g2 k i hk (by omega)]
      rw [if_neg q] at a1 a2 a3 a4 a5
      rcases hk5 with rfl | rfl | rfl | rfl | rfl
      · exact a1.symm
      · exact a2.symm
      · exact a3.symm
      · exact a4.symm
      · exact a5.symm
  · rw [srg_row (by omega), (aring_r (i := j)).2.2.2.2.2.2.2.2.1]
    exact g3 j hj
  · rw [srg_row (by omega), srg_row (by omega), srg_row (by omega), (aring_r (i := e)).2.2.2.2.2.2.2.2.2.1, (aring_r (i := e)).2.2.2.2.2.2.2.2.2.2.1, (aring_r (i := e)).2.2.2.2.2.2.2.2.2.2.2.1]
    exact g4 e he
  · obtain ⟨s1, s2, s3, s4⟩ := srg_c (v := v) (t := (t : Int)) (k := 5 * (b : Int)) (c := c) (j := c')
    obtain ⟨-, -, -, -, -, -, -, -, -, -, -, -, a10, a11, -⟩ := aring_r (P := P) (a := a) (t := t) (c := c) (i := c') (x := ent v b)
    obtain ⟨a13, a14⟩ := aring_r2 (P := P) (a := a) (t := t) (c := c) (i := c') (x := ent v b)
    obtain ⟨f1, f2, f3, f4⟩ := g5 c' hc'
    rw [s1, s2, s3, s4, a10, a11, a13, a14, t51]
    by_cases q : c' = c
    · subst q
      simp only [if_true]
      refine ⟨by first | rfl | trivial, by first | rfl | trivial, ?_, by rw [f4]⟩
      rw [f3, g1]
      rcases hA.b c' with w0 | w1
      · rw [if_pos (hA.no c' w0).2.2.1, if_neg (by omega)]
      · have := (hA.ye c' w1).2.1
        rw [if_neg (by omega), if_pos w1]
    · simp only [if_neg q]
      exact ⟨f1, f2, f3, f4⟩
theorem toN1 {b : Nat} {h : Int} {v : VS} (k : KB b h v) : v 225 ((5 * (b : Int)) + 1).toNat = h := by
  rw [t51]
  exact k.2
theorem RK.goL {B : Int} {P : VS} {a0 : SS} {b i s c : Nat} {hh : Int} (hP : PW P) (hs : a0.1 1 i = s) (hsT : (s : Int) < P 0 2) (hc : a0.1 2 i = c) (hh3 : a0.1 3 i = hh) : ∀ (f e : Nat) (v : VS), RK (B + e) P b hh (agoL P i e a0) v → (e : Int) ≤ P 0 3 → 12 < e + f → RK (B + 12) P b hh (agoL P i (P 0 3).toNat a0) (mo_strikesAt_167 f v s c (5 * (b : Int)) i e) := by
  have r : ∀ (m : Nat), (agoL P i m a0).1 1 = a0.1 1 ∧ (agoL P i m a0).1 2 = a0.1 2 ∧ (agoL P i m a0).1 3 = a0.1 3 := by
    intro m
    induction m with
    | zero => exact ⟨rfl, rfl, rfl⟩
    | succ m ih =>
      have q : ∀ k, 1 ≤ k → k ≤ 3 → (agoE P (agoL P i m a0) i m).1 k = (agoL P i m a0).1 k := by
        intro k k1 k2
        unfold agoE
        split
        · unfold acarry
          split
          · rw [ainc_row (by omega), ainc_row (by omega)]
          · split
            · rw [ainc_row (by omega), ainc_row (by omega), ainc_row (by omega)]
            · split
              · rw [ainc_row (by omega), ainc_row (by omega)]
              · unfold ahear
                split
                · rw [ainc_row (by omega), ainc_row (by omega)]
                · split
                  · rw [ainc_row (by omega), ainc_row (by omega)]
                  · rw [aput_row, ainc_row (by omega), ainc_row (by omega)]
        · rfl
      rw [agoL, q 1 (by omega) (by omega), q 2 (by omega) (by omega), q 3 (by omega) (by omega)]
      exact ih
  intro f
  induction f with
  | zero =>
    intro e v h he hf
    have := hP.E
    omega
  | succ f ih =>
    intro e v h he hf
    obtain ⟨r1, r2, r3⟩ := r e
    have hE := hP.E
    rw [mo_strikesAt_167, h.1.1.E, toN1 h.2]
    split
    · rename_i q
      have cast1 : ((e : Int) + 1) = ((e + 1 : Nat) : Int) := by omega
      have hd := h.1.1.hd e q
      have hcu := h.1.1.cu e q
      rw [show ((4 * (e : Int)) + 1).toNat = 4 * e + 1 by omega, hd, ← hcu, cast1]
      have hgo : agoL P i (e + 1) a0 = agoE P (agoL P i e a0) i e := rfl
      by_cases q1 : P 2 e = c
      · rw [if_pos q1]
        by_cases q2 : P 7 e = 0
        · rw [if_pos q2]
          refine ih (e + 1) _ ?_ (by omega) (by omega)
          rw [hgo]
          unfold agoE
          rw [if_pos ⟨by rw [r2, hc]; exact q1, q2⟩]
          have g := h.carry hP (i := i) (e := e) (s := s) (by rw [r1]; exact hs) hsT q
          rw [r3, hh3] at g
          rw [show B + ((e + 1 : Nat) : Int) = B + (e : Int) + 1 by omega]
          exact g
        · rw [if_neg q2]
          refine ih (e + 1) _ ?_ (by omega) (by omega)
          rw [hgo]
          unfold agoE
          rw [if_neg (fun g => q2 g.2)]
          exact ⟨h.1.mono (by omega), h.2⟩
      · rw [if_neg q1]
        refine ih (e + 1) _ ?_ (by omega) (by omega)
        rw [hgo]
        unfold agoE
        rw [if_neg (fun g => q1 (by rw [g.1, r2, hc]))]
        exact ⟨h.1.mono (by omega), h.2⟩
    · rename_i q
      rw [show (P 0 3).toNat = e by omega]
      exact ⟨h.1.mono (by omega), h.2⟩
