/-! the reference's run: what is due lies in chains -/
def Sg (v : VS) : List Nat → Int → Int → Prop
  | [], x, y => x = y
  | k :: l, x, y => x = (k : Int) ∧ Sg v l (v 225 (5 * k + 4)) y
theorem Sg.app {v : VS} : ∀ (l1 l2 : List Nat) (x z y : Int), Sg v l1 x z → Sg v l2 z y → Sg v (l1 ++ l2) x y := by
  intro l1
  induction l1 with
  | nil => intro l2 x z y h1 h2; rw [show x = z from h1]; exact h2
  | cons k l ih => intro l2 x z y h1 h2; exact ⟨h1.1, ih l2 _ z y h1.2 h2⟩
theorem Sg.cut {v : VS} : ∀ (l1 l2 : List Nat) (x y : Int), Sg v (l1 ++ l2) x y → ∃ z, Sg v l1 x z ∧ Sg v l2 z y := by
  intro l1
  induction l1 with
  | nil => intro l2 x y h; exact ⟨x, rfl, h⟩
  | cons k l ih =>
    intro l2 x y h
    obtain ⟨z, h1, h2⟩ := ih l2 _ y h.2
    exact ⟨z, ⟨h.1, h1⟩, h2⟩
theorem Sg.of {v v' : VS} : ∀ (l : List Nat) (x y : Int), (∀ k, k ∈ l → v' 225 (5 * k + 4) = v 225 (5 * k + 4)) → Sg v l x y → Sg v' l x y := by
  intro l
  induction l with
  | nil => intro x y _ h; exact h
  | cons k l ih =>
    intro x y e h
    refine ⟨h.1, ?_⟩
    rw [e k List.mem_cons_self]
    exact ih _ _ (fun k' hk' => e k' (List.mem_cons_of_mem _ hk')) h.2
def ent (v : VS) (k : Nat) : Int × Int × Int := (v 225 (5 * k + 1), v 225 (5 * k + 2), v 225 (5 * k + 3))
def isC (v : VS) (c : Int) (k : Nat) : Bool := decide (v 225 (5 * k) = c)
theorem len_lt {m : Nat} : ∀ (l : List Nat) (b : Nat), l.Pairwise (· < ·) → (∀ k, k ∈ l → b ≤ k ∧ k < m) → b ≤ m → l.length + b ≤ m := by
  intro l
  induction l with
  | nil => intro b _ _ h; simpa using h
  | cons k l ih =>
    intro b hp hk hb
    rw [List.pairwise_cons] at hp
    have q := hk k List.mem_cons_self
    have := ih (k + 1) hp.2 (fun k' hk' => ⟨hp.1 k' hk', (hk k' (List.mem_cons_of_mem _ hk')).2⟩) (by omega)
    rw [List.length_cons]
    omega
def DM (a : SS) (L : Nat → List Nat) (m : Nat) (v : VS) : Prop :=
  (v 203 43 = m) ∧
  (∀ t : Nat, t < 300 → Sg v (L t) (v 226 t) (-1)) ∧
  (∀ t : Nat, t < 300 → (L t = [] ∧ v 226 t = -1) ∨ (v 226 t ≠ -1 ∧ ∃ (l1 : List Nat) (T : Nat), L t = l1 ++ [T] ∧ v 227 t = T)) ∧
  (∀ t k : Nat, k ∈ L t → k < m) ∧
  (∀ t t' k : Nat, k ∈ L t → k ∈ L t' → t = t') ∧
  (∀ t : Nat, (L t).Pairwise (· < ·)) ∧
  (∀ t c : Nat, t < 300 → a.2 t c = ((L t).filter (isC v c)).map (ent v))
theorem DM.m {a : SS} {L : Nat → List Nat} {m : Nat} {v : VS} (h : DM a L m v) : v 203 43 = m := h.1
theorem DM.ch {a : SS} {L : Nat → List Nat} {m : Nat} {v : VS} (h : DM a L m v) : ∀ t : Nat, t < 300 → Sg v (L t) (v 226 t) (-1) := h.2.1
theorem DM.la {a : SS} {L : Nat → List Nat} {m : Nat} {v : VS} (h : DM a L m v) : ∀ t : Nat, t < 300 → (L t = [] ∧ v 226 t = -1) ∨ (v 226 t ≠ -1 ∧ ∃ (l1 : List Nat) (T : Nat), L t = l1 ++ [T] ∧ v 227 t = T) := h.2.2.1
theorem DM.lt {a : SS} {L : Nat → List Nat} {m : Nat} {v : VS} (h : DM a L m v) : ∀ t k : Nat, k ∈ L t → k < m := h.2.2.2.1
theorem DM.dj {a : SS} {L : Nat → List Nat} {m : Nat} {v : VS} (h : DM a L m v) : ∀ t t' k : Nat, k ∈ L t → k ∈ L t' → t = t' := h.2.2.2.2.1
theorem DM.pw {a : SS} {L : Nat → List Nat} {m : Nat} {v : VS} (h : DM a L m v) : ∀ t : Nat, (L t).Pairwise (· < ·) := h.2.2.2.2.2.1
theorem DM.du {a : SS} {L : Nat → List Nat} {m : Nat} {v : VS} (h : DM a L m v) : ∀ t c : Nat, t < 300 → a.2 t c = ((L t).filter (isC v c)).map (ent v) := h.2.2.2.2.2.2
theorem DM.of {a a' : SS} {L : Nat → List Nat} {m : Nat} {v v' : VS} (h : DM a L m v) (e1 : v' 225 = v 225) (e2 : v' 226 = v 226) (e3 : v' 227 = v 227) (e4 : v' 203 43 = v 203 43) (ea : a'.2 = a.2) : DM a' L m v' := by
  obtain ⟨h1, h2, h3, h4, h5, h6, h7⟩ := h
  refine ⟨by rw [e4]; exact h1, fun t ht => ?_, fun t ht => ?_, h4, h5, h6, fun t c ht => ?_⟩
  · rw [e2]
    exact Sg.of _ _ _ (fun k _ => by rw [e1]) (h2 t ht)
  · rw [e2, e3]
    exact h3 t ht
  · rw [ea, h7 t c ht]
    have i1 : isC v' c = isC v c := by funext k; unfold isC; rw [e1]
    have i2 : ent v' = ent v := by funext k; unfold ent; rw [e1]
    rw [i1, i2]
theorem puts_r {v : VS} {t m : Nat} {c h y e : Int} (hm : v 203 43 = m) (hT : v 226 t = -1 ∨ 0 ≤ v 227 t) :
    (mo_puts v t c h y e) 203 43 = (m : Int) + 1 ∧
    (∀ t' : Nat, (mo_puts v t c h y e) 226 t' = if t' = t ∧ v 226 t = -1 then (m : Int) else v 226 t') ∧
    (∀ t' : Nat, (mo_puts v t c h y e) 227 t' = if t' = t then (m : Int) else v 227 t') ∧
    (∀ k q : Nat, q < 4 → k ≠ m → (mo_puts v t c h y e) 225 (5 * k + q) = v 225 (5 * k + q)) ∧
    ((mo_puts v t c h y e) 225 (5 * m) = c ∧ (mo_puts v t c h y e) 225 (5 * m + 1) = h ∧ (mo_puts v t c h y e) 225 (5 * m + 2) = y ∧ (mo_puts v t c h y e) 225 (5 * m + 3) = e) := by
  have t0 : ((5 * (m : Int))).toNat = 5 * m := by omega
  have t1 : ((5 * (m : Int)) + 1).toNat = 5 * m + 1 := by omega
  have t2 : ((5 * (m : Int)) + 2).toNat = 5 * m + 2 := by omega
  have t3 : ((5 * (m : Int)) + 3).toNat = 5 * m + 3 := by omega
  have t4 : ((5 * (m : Int)) + 4).toNat = 5 * m + 4 := by omega
  unfold mo_puts
  rw [hm, toN, t0, t1, t2, t3, t4]
  split
  · rename_i q
    refine ⟨?_, fun t' => ?_, fun t' => ?_, fun k z hz hk => ?_, ?_, ?_, ?_, ?_⟩
    · simp [v2_eq]
    · simp only [v2_eq, q]
      by_cases q2 : t' = t
      · simp [q2]
      · simp [q2]
    · simp only [v2_eq]
      by_cases q2 : t' = t
      · simp [q2]
      · simp [q2]
    · simp only [v2_eq]
      rw [if_neg (by omega), if_neg (by omega), if_neg (by omega), if_neg (by omega), if_neg (by omega), if_neg (by omega), if_neg (by omega), if_neg (by omega)]
    · simp [v2_eq]
    · simp [v2_eq]
    · simp [v2_eq]
    · simp [v2_eq]
  · rename_i q
    have hT : 0 ≤ v 227 t := hT.elim (fun g => absurd g q) id
    refine ⟨?_, fun t' => ?_, fun t' => ?_, fun k z hz hk => ?_, ?_, ?_, ?_, ?_⟩
    · simp [v2_eq]
    · rw [if_neg (fun g => q g.2)]
      simp [v2_eq]
    · simp only [v2_eq]
      by_cases q2 : t' = t
      · simp [q2]
      · simp [q2]
    · simp only [v2_eq]
      rw [if_neg (by omega), if_neg (by omega), if_neg (by omega), if_neg (by omega), if_neg (by omega), if_neg (by omega), if_neg (by omega), if_neg (by omega)]
    · simp only [v2_eq]
      rw [if_neg (by omega), if_neg (by omega), if_neg (by omega), if_neg (by omega), if_neg (by omega), if_neg (by omega), if_neg (by omega), if_pos ⟨by first | rfl | trivial, by first | omega | trivial⟩]
    · simp only [v2_eq]
      rw [if_neg (by omega), if_neg (by omega), if_neg (by omega), if_neg (by omega), if_neg (by omega), if_neg (by omega), if_pos ⟨by first | rfl | trivial, by first | omega | trivial⟩]
    · simp only [v2_eq]
      rw [if_neg (by omega), if_neg (by omega), if_neg (by omega), if_neg (by omega), if_neg (by omega), if_pos ⟨by first | rfl | trivial, by first | omega | trivial⟩]
    · simp only [v2_eq]
      rw [if_neg (by omega), if_neg (by omega), if_neg (by omega), if_neg (by omega), if_pos ⟨by first | rfl | trivial, by first | omega | trivial⟩]
theorem puts_n {v : VS} {t m : Nat} {c h y e : Int} (hm : v 203 43 = m) (k : Nat) :
    (v 226 t = -1 → (mo_puts v t c h y e) 225 (5 * k + 4) = if k = m then -1 else v 225 (5 * k + 4)) ∧
    (v 226 t ≠ -1 → ∀ T : Nat, v 227 t = T → (mo_puts v t c h y e) 225 (5 * k + 4) = if k = T then (m : Int) else if k = m then -1 else v 225 (5 * k + 4)) := by
  have t0 : ((5 * (m : Int))).toNat = 5 * m := by omega
  have t1 : ((5 * (m : Int)) + 1).toNat = 5 * m + 1 := by omega
  have t2 : ((5 * (m : Int)) + 2).toNat = 5 * m + 2 := by omega
  have t3 : ((5 * (m : Int)) + 3).toNat = 5 * m + 3 := by omega
  have t4 : ((5 * (m : Int)) + 4).toNat = 5 * m + 4 := by omega
  refine ⟨fun q => ?_, fun q T hT => ?_⟩
  · unfold mo_puts
    rw [hm, toN, t0, t1, t2, t3, t4, if_pos q]
    simp only [v2_eq]
    rw [if_neg (by omega), if_neg (by omega), if_neg (by omega)]
    by_cases q2 : k = m
    · rw [if_pos ⟨by first | rfl | trivial, by first | omega | trivial⟩, if_pos q2]
    · rw [if_neg (by omega), if_neg (by omega), if_neg (by omega), if_neg (by omega), if_neg (by omega), if_neg q2]
  · unfold mo_puts
    rw [hm, toN, t0, t1, t2, t3, t4, if_neg q, hT, show ((5 * (T : Int)) + 4).toNat = 5 * T + 4 by omega]
    simp only [v2_eq]
    rw [if_neg (by omega), if_neg (by omega)]
    by_cases q1 : k = T
    · rw [if_pos ⟨by first | rfl | trivial, by first | omega | trivial⟩, if_pos q1]
    · rw [if_neg (by omega), if_neg q1]
      by_cases q2 : k = m
      · rw [if_pos ⟨by first | rfl | trivial, by first | omega | trivial⟩, if_pos q2]
      · rw [if_neg (by omega), if_neg (by omega), if_neg (by omega), if_neg (by omega), if_neg (by omega), if_neg q2]
/-- one more due -/
theorem DM.put {a : SS} {L : Nat → List Nat} {m : Nat} {v : VS} (hd : DM a L m v) {t c : Nat} {h y e : Int} (ht : t < 300) : DM (aput a t c (h, y, e)) (fun t' => if t' = t then L t ++ [m] else L t') (m + 1) (mo_puts v t c h y e) := by
  obtain ⟨h1, h2, h3, h4, h5, h6, h7⟩ := hd
  have hT : v 226 t = -1 ∨ 0 ≤ v 227 t := by
    rcases h3 t ht with ⟨-, g⟩ | ⟨-, l1, T, -, g⟩
    · exact Or.inl g
    · exact Or.inr (by omega)
  obtain ⟨p1, p2, p3, p4, p5, p6, p7, p8⟩ := puts_r (v := v) (t := t) (m := m) (c := c) (h := h) (y := y) (e := e) h1 hT
  have pn := fun k => puts_n (v := v) (t := t) (m := m) (c := c) (h := h) (y := y) (e := e) h1 k
  obtain ⟨w, hw⟩ : ∃ w, w = mo_puts v t c h y e := ⟨_, rfl⟩
  rw [← hw] at p1 p2 p3 p4 p5 p6 p7 p8 pn ⊢
  have hm : ∀ t' k, k ∈ L t' → k ≠ m := fun t' k hk => by have := h4 t' k hk; omega
  have i1 : ∀ c' : Int, ∀ l : List Nat, (∀ k, k ∈ l → k ≠ m) → (l.filter (isC w c')).map (ent w) = (l.filter (isC v c')).map (ent v) := by
    intro c' l
    induction l with
    | nil => intro _; rfl
    | cons k l ih =>
      intro hl
      have hk := hl k List.mem_cons_self
      have g0 := p4 k 0 (by omega) hk
      have g1 := p4 k 1 (by omega) hk
      have g2 := p4 k 2 (by omega) hk
      have g3 := p4 k 3 (by omega) hk
      have e1 : isC w c' k = isC v c' k := by unfold isC; rw [show 5 * k = 5 * k + 0 by omega, g0]
      have e2 : ent w k = ent v k := by unfold ent; rw [g1, g2, g3]
      have e3 := ih (fun k' hk' => hl k' (List.mem_cons_of_mem _ hk'))
      rw [List.filter_cons, List.filter_cons, e1]
      split
      · rw [List.map_cons, List.map_cons, e2, e3]
      · exact e3
  have hne : ∀ t', t' < 300 → t' ≠ t → Sg w (L t') (w 226 t') (-1) := by
    intro t' ht' q
    rw [p2, if_neg (fun g => q g.1)]
    refine Sg.of _ _ _ (fun k hk => ?_) (h2 t' ht')
    have k1 := hm t' k hk
    rcases h3 t ht with ⟨-, q1⟩ | ⟨q1, l1, T, q2, q3⟩
    · rw [(pn k).1 q1, if_neg k1]
    · rw [(pn k).2 q1 T q3, if_neg, if_neg k1]
      intro g
      subst g
      exact q (h5 t' t k hk (by rw [q2]; simp))
  refine ⟨by rw [p1]; omega, fun t' ht' => ?_, fun t' ht' => ?_, fun t' k hk => ?_, fun t1 t2 k hk1 hk2 => ?_, fun t' => ?_, fun t' c' ht' => ?_⟩
  · by_cases q : t' = t
    · subst q
      simp only [if_true]
      rcases h3 t' ht with ⟨q0, q1⟩ | ⟨q1, l1, T, q2, q3⟩
      · rw [q0, p2, if_pos ⟨rfl, q1⟩]
        refine ⟨rfl, ?_⟩
        rw [(pn m).1 q1, if_pos rfl]
        rfl
      · rw [p2, if_neg (fun g => q1 g.2)]
        have hs := h2 t' ht
        have hT : T < m := h4 t' T (by rw [q2]; simp)
        have hp := h6 t'
        rw [q2] at hs hp ⊢
        obtain ⟨z, s1, s2⟩ := Sg.cut _ _ _ _ hs
        have s3 : Sg w l1 (v 226 t') z := Sg.of _ _ _ (fun k hk => by
          have k1 : k < T := (List.pairwise_append.mp hp).2.2 k hk T List.mem_cons_self
          rw [(pn k).2 q1 T q3, if_neg (by omega), if_neg (by omega)]) s1
        refine Sg.app (l1 ++ [T]) [m] _ (m : Int) _ (Sg.app l1 [T] _ z _ s3 ⟨s2.1, ?_⟩) ⟨rfl, ?_⟩
        · show w 225 (5 * T + 4) = (m : Int)
          rw [(pn T).2 q1 T q3, if_pos rfl]
        · show w 225 (5 * m + 4) = -1
          rw [(pn m).2 q1 T q3, if_neg (by omega), if_pos rfl]
    · simp only [if_neg q]
      exact hne t' ht' q
  · by_cases q : t' = t
    · subst q
      simp only [if_true]
      right
      refine ⟨?_, L t', m, rfl, by rw [p3, if_pos rfl]⟩
      rw [p2]
      split
      · omega
      · rename_i g
        exact fun g2 => g ⟨rfl, g2⟩
    · simp only [if_neg q]
      rw [p2, p3, if_neg (fun g => q g.1), if_neg q]
      exact h3 t' ht'
  · dsimp only at hk
    split at hk
    · rw [List.mem_append, List.mem_singleton] at hk
      rcases hk with hk | hk
      · have := h4 t k hk; omega
      · omega
    · have := h4 t' k hk; omega
  · have hh : ∀ t', k ∈ (if t' = t then L t ++ [m] else L t') → (k ∈ L t') ∨ (t' = t ∧ k = m) := by
      intro t' g
      split at g
      · rename_i e1
        rw [List.mem_append, List.mem_singleton] at g
        rcases g with g | g
        · exact Or.inl (by rw [e1]; exact g)
        · exact Or.inr ⟨e1, g⟩
      · exact Or.inl g
    rcases hh t1 hk1 with g1 | g1 <;> rcases hh t2 hk2 with g2 | g2
    · exact h5 t1 t2 k g1 g2
    · exact absurd g2.2 (hm t1 k g1)
    · exact absurd g1.2 (hm t2 k g2)
    · rw [g1.1, g2.1]
  · dsimp only
    split
    · rw [List.pairwise_append]
      refine ⟨h6 t, List.pairwise_singleton _ _, fun k hk k' hk' => ?_⟩
      rw [List.mem_singleton] at hk'
      subst hk'
      exact h4 t k hk
    · exact h6 t'
  · rw [aput_due]
    by_cases q : t' = t
    · subst q
      simp only [if_true, true_and]
      have em : ent w m = (h, y, e) := by unfold ent; rw [p6, p7, p8]
      have ic : isC w (c' : Int) m = decide ((c : Int) = (c' : Int)) := by unfold isC; rw [p5]
      rw [List.filter_append, List.map_append, i1 _ _ (fun k hk => hm t' k hk)]
      by_cases q2 : c' = c
      · subst q2
        rw [if_pos rfl, h7 t' c' ht', List.filter_cons, ic, if_pos (by simp), List.filter_nil, List.map_cons, List.map_nil, em]
      · rw [if_neg q2, h7 t' c' ht', List.filter_cons, ic, if_neg (by simp; omega), List.filter_nil, List.map_nil, List.append_nil]
    · simp only [if_neg q]
      rw [if_neg (fun g => q g.1), h7 t' c' ht', i1 _ _ (fun k hk => hm t' k hk)]
