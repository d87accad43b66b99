/-! the chart: the hour struck last -/
def ahour (A : SS) (c t : Int) : Nat → Int
  | 0 => 0
  | n + 1 => if A.1 2 n = c ∧ A.1 1 n ≤ t then A.1 3 n else ahour A c t n
def ahl (A : SS) (c : Int) : Nat → Int
  | 0 => 0
  | n + 1 => if A.1 2 n = c then A.1 3 n else ahl A c n
theorem ahour_lo {A : SS} {c t : Int} : ∀ i : Nat, (∀ j : Nat, j < i → A.1 1 j ≤ t) → ahour A c t i = ahl A c i := by
  intro i
  induction i with
  | zero => intro _; rfl
  | succ i ih =>
    intro h
    rw [ahour, ahl, ih (fun j hj => h j (by omega))]
    by_cases q : A.1 2 i = c
    · rw [if_pos ⟨q, h i (by omega)⟩, if_pos q]
    · rw [if_neg (fun g => q g.1), if_neg q]
theorem ahour_hi {A : SS} {c t : Int} {i : Nat} : ∀ m : Nat, (∀ j : Nat, i ≤ j → j < i + m → t < A.1 1 j) → ahour A c t (i + m) = ahour A c t i := by
  intro m
  induction m with
  | zero => intro _; rfl
  | succ m ih =>
    intro h
    show (if A.1 2 (i + m) = c ∧ A.1 1 (i + m) ≤ t then A.1 3 (i + m) else ahour A c t (i + m)) = _
    rw [if_neg (fun g => by have := h (i + m) (by omega) (by omega); omega), ih (fun j h1 h2 => h j h1 (by omega))]
def aN (A : SS) : Nat := (A.1 0 0).toNat
def CH (A : SS) (v : VS) : Prop :=
  (∀ c t : Nat, (c : Int) < v 33 0 → (t : Int) < v 33 1 → v 105 (t * 9 + c) = ahour A c t (aN A))
theorem CH.c {A : SS} {v : VS} (h : CH A v) : ∀ c t : Nat, (c : Int) < v 33 0 → (t : Int) < v 33 1 → v 105 (t * 9 + c) = ahour A c t (aN A) := h
theorem fc17 {i : Int} {s : Nat} : ∀ (f c : Nat) (v : VS), v 33 0 ≤ 9 → v 33 0 < c + f → ∀ j : Nat, (cl_fillChart_17 f v i s c) 105 j = if s * 9 + c ≤ j ∧ (j : Int) < s * 9 + v 33 0 then (if s = 0 then 0 else v 105 (j - 9)) else v 105 j := by
  intro f
  induction f with
  | zero =>
    intro c v h9 hf j
    rw [if_neg (by omega)]
    rfl
  | succ f ih =>
    intro c v h9 hf j
    rw [cl_fillChart_17, show (((s : Int) * 9 + (c : Int))).toNat = s * 9 + c by omega, show (((s : Int) * 9 + (c : Int)) - 9).toNat = s * 9 + c - 9 by omega, show ((c : Int) + 1) = ((c + 1 : Nat) : Int) by omega]
    by_cases q : (c : Int) < v 33 0
    · rw [if_pos q]
      have key : ∀ x : Int, x = (if s = 0 then 0 else v 105 (s * 9 + c - 9)) → (cl_fillChart_17 f (v2 v 105 (s * 9 + c) x) i s ((c + 1 : Nat) : Int)) 105 j = if s * 9 + c ≤ j ∧ (j : Int) < s * 9 + v 33 0 then (if s = 0 then 0 else v 105 (j - 9)) else v 105 j := by
        intro x hx
        have r : (v2 v 105 (s * 9 + c) x) 33 = v 33 := v2_row (by omega)
        rw [ih (c + 1) _ (by rw [r]; exact h9) (by rw [r]; omega) j, r]
        by_cases z : j = s * 9 + c
        · subst z
          rw [if_neg (by omega), if_pos (by omega), v2_eq, if_pos ⟨rfl, rfl⟩, hx]
        · by_cases y : s * 9 + (c + 1) ≤ j ∧ (j : Int) < s * 9 + v 33 0
          · rw [if_pos y, if_pos (show s * 9 + c ≤ j ∧ (j : Int) < s * 9 + v 33 0 by omega)]
            by_cases z0 : s = 0
            · rw [if_pos z0, if_pos z0]
            · rw [if_neg z0, if_neg z0, v2_eq, if_neg (by omega)]
          · rw [if_neg y, if_neg (by omega), v2_eq, if_neg (by omega)]
      by_cases q2 : (s : Int) = 0
      · rw [if_pos q2]
        exact key 0 (by rw [if_pos (by omega)])
      · rw [if_neg q2]
        exact key _ (by rw [if_neg (by omega)])
    · rw [if_neg q, if_neg (by omega)]
theorem fc67b {A : SS} {s : Nat} {C : Int} (h9 : C ≤ 9) (hA : ∀ i : Nat, (i : Int) < A.1 0 0 → 0 ≤ A.1 2 i ∧ A.1 2 i < C) : ∀ (f i : Nat) (v : VS), RA 79 A v → (i : Int) ≤ A.1 0 0 → A.1 0 0 < i + f →
    (∀ c : Nat, (c : Int) < C → v 105 (s * 9 + c) = ahl A c i) →
    ∃ i' : Nat, (cl_fillChart_67 f v i s).1 = i' ∧ i ≤ i' ∧ (i' : Int) ≤ A.1 0 0 ∧ (∀ j : Nat, i ≤ j → j < i' → A.1 1 j = s) ∧ ((i' : Int) < A.1 0 0 → A.1 1 i' ≠ s) ∧
      (∀ c : Nat, (c : Int) < C → (cl_fillChart_67 f v i s).2 105 (s * 9 + c) = ahl A c i') ∧ (∀ j : Nat, j < s * 9 ∨ s * 9 + 9 ≤ j → (cl_fillChart_67 f v i s).2 105 j = v 105 j) := by
  intro f
  induction f with
  | zero => intro i v h h1 h2 h3; omega
  | succ f ih =>
    intro i v h h1 h2 h3
    rw [cl_fillChart_67, toN, h.n]
    by_cases q : (i : Int) < A.1 0 0
    · have e80 : v 80 i = A.1 1 i := h.st 1 i (by omega) (by omega) q
      have e81 : v 81 i = A.1 2 i := h.st 2 i (by omega) (by omega) q
      have e82 : v 82 i = A.1 3 i := h.st 3 i (by omega) (by omega) q
      rw [if_pos q, e80, e81, e82]
      by_cases q2 : A.1 1 i = s
      · rw [if_pos q2, show ((i : Int) + 1) = ((i + 1 : Nat) : Int) by omega]
        obtain ⟨c0, hc0⟩ : ∃ c0 : Nat, A.1 2 i = c0 := ⟨(A.1 2 i).toNat, by have := hA i q; omega⟩
        have hc9 := hA i q
        rw [hc0, show ((s : Int) * 9 + (c0 : Int)).toNat = s * 9 + c0 by omega]
        obtain ⟨i', g1, g2, g3, g4, g5, g6, g7⟩ := ih (i + 1) (v2 v 105 (s * 9 + c0) (A.1 3 i)) (h.of (fun k a b => v2_row (by omega)) rfl) (by omega) (by omega) (fun c hc => by
          rw [v2_eq, ahl, hc0]
          by_cases z : c = c0
          · rw [if_pos (by omega), if_pos (by omega)]
          · rw [if_neg (by omega), if_neg (by omega)]
            exact h3 c hc)
        refine ⟨i', g1, by omega, g3, fun j j1 j2 => ?_, g5, g6, fun j hj => ?_⟩
        · by_cases z : j = i
          · rw [z]; exact q2
          · exact g4 j (by omega) j2
        · rw [g7 j hj, v2_eq, if_neg (by omega)]
      · rw [if_neg q2]
        exact ⟨i, rfl, Nat.le_refl _, h1, fun j j1 j2 => by omega, fun _ => q2, h3, fun j _ => rfl⟩
    · rw [if_neg q]
      exact ⟨i, rfl, Nat.le_refl _, h1, fun j j1 j2 => by omega, fun g => absurd g q, h3, fun j _ => rfl⟩
theorem fc4 {A : SS} (hA : ∀ i : Nat, (i : Int) < A.1 0 0 → 0 ≤ A.1 2 i ∧ A.1 2 i < 9) (hn : 0 ≤ A.1 0 0 ∧ A.1 0 0 ≤ 300) (hs : ∀ i j : Nat, i ≤ j → (j : Int) < A.1 0 0 → A.1 1 i ≤ A.1 1 j) : ∀ (f s i : Nat) (v : VS), RA 79 A v → 0 ≤ v 33 0 → v 33 0 ≤ 9 → v 33 1 < s + f → (i : Int) ≤ A.1 0 0 →
    (∀ j : Nat, j < i → A.1 1 j < s) → ((i : Int) < A.1 0 0 → (s : Int) ≤ A.1 1 i) → (∀ j : Nat, (j : Int) < A.1 0 0 → A.1 2 j < v 33 0) →
    (∀ s' : Nat, s = s' + 1 → ∀ c : Nat, (c : Int) < v 33 0 → v 105 (s' * 9 + c) = ahl A c i) → (s = 0 → i = 0) →
    (∀ j : Nat, j < s * 9 → (cl_fillChart_4 f v i s) 105 j = v 105 j) ∧
    (∀ t c : Nat, s ≤ t → (t : Int) < v 33 1 → (c : Int) < v 33 0 → (cl_fillChart_4 f v i s) 105 (t * 9 + c) = ahour A c t (aN A)) := by
  intro f
  induction f with
  | zero => intro s i v h h0 h9 hf hi h1 h2 hb h3 h4; exact ⟨fun j _ => rfl, fun t c t1 t2 => by omega⟩
  | succ f ih =>
    intro s i v h h0 h9 hf hi h1 h2 hb h3 h4
    rw [cl_fillChart_4, show ((s : Int) + 1) = ((s + 1 : Nat) : Int) by omega]
    by_cases q : (s : Int) < v 33 1
    · rw [if_pos q]
      have f17 := fc17 (i := (i : Int)) (s := s) 10 0 v h9 (by omega)
      rw [show ((0 : Nat) : Int) = 0 from rfl] at f17
      have hw : RA 79 A (cl_fillChart_17 10 v i s 0) := h.of (fun k a b => o_cl_fillChart_17 (by omega)) rfl
      obtain ⟨w, hwe⟩ : ∃ w, w = cl_fillChart_17 10 v i s 0 := ⟨_, rfl⟩
      have r33 : w 33 = v 33 := by rw [hwe]; exact o_cl_fillChart_17 (by omega)
      rw [← hwe] at f17 hw ⊢
      -- churches beyond those of the bay never strike: a row that agrees below them is enough
      have hrow : ∀ c : Nat, (c : Int) < v 33 0 → w 105 (s * 9 + c) = ahl A c i := by
        intro c hc
        rw [f17, if_pos (by omega)]
        by_cases z : s = 0
        · rw [if_pos z, h4 z]; rfl
        · rw [if_neg z]
          obtain ⟨s', hs'⟩ : ∃ s', s = s' + 1 := ⟨s - 1, by omega⟩
          rw [show s * 9 + c - 9 = s' * 9 + c by omega]
          exact h3 s' hs' c hc
      obtain ⟨i', g1, g2, g3, g4, g5, g6, g7⟩ := fc67b (A := A) (s := s) (C := v 33 0) h9 (fun j hj => ⟨(hA j hj).1, hb j hj⟩) 301 i w hw hi (by omega) hrow
      obtain ⟨x, hx⟩ : ∃ x, x = cl_fillChart_67 301 w i s := ⟨_, rfl⟩
      have hxr : ∀ k, k ≠ 105 → x.2 k = w k := fun k hk => by rw [hx]; exact o_cl_fillChart_67 (by omega)
      rw [← hx] at g1 g6 g7 ⊢
      rw [g1]
      have hlow : ∀ j : Nat, j < i' → A.1 1 j ≤ s := by
        intro j hj
        by_cases z : j < i
        · have := h1 j z; omega
        · have := g4 j (by omega) hj; omega
      have hhigh : (i' : Int) < A.1 0 0 → (s : Int) < A.1 1 i' := by
        intro g
        have a1 := g5 g
        by_cases z : i' = i
        · rw [z] at g a1 ⊢
          have := h2 g
          omega
        · have a2 := g4 i (by omega) (by omega)
          have a3 := hs i i' (by omega) g
          omega
      obtain ⟨j1, j2⟩ := ih (s + 1) i' x.2 (hw.of (fun k a b => hxr k (by omega)) rfl) (by rw [hxr 33 (by omega), r33]; exact h0) (by rw [hxr 33 (by omega), r33]; exact h9) (by rw [hxr 33 (by omega), r33]; omega) g3 (fun j hj => by have := hlow j hj; omega) (fun g => by have := hhigh g; omega) (fun j hj => by rw [hxr 33 (by omega), r33]; exact hb j hj) (fun s' hs' c hc => by
        rw [hxr 33 (by omega), r33] at hc
        have : s' = s := by omega
        rw [this]
        exact g6 c hc) (fun g => by omega)
      rw [hxr 33 (by omega), r33] at j2
      refine ⟨fun j hj => ?_, fun t c t1 t2 hc => ?_⟩
      · rw [j1 j (by omega), g7 j (by omega), f17, if_neg (by omega)]
      · by_cases z : t = s
        · subst z
          rw [j1 _ (by omega), g6 c hc]
          have e : aN A = i' + (aN A - i') := by unfold aN; omega
          rw [e, ahour_hi (aN A - i') (fun j a b => by
            have b1 : (j : Int) < A.1 0 0 := by unfold aN at b; omega
            have b2 := hhigh (by omega)
            have b3 := hs i' j a b1
            omega), ahour_lo i' hlow]
        · exact j2 t c (by omega) t2 hc
    · rw [if_neg q]
      exact ⟨fun j _ => rfl, fun t c t1 t2 => by omega⟩
/-! what holds between two calls, whole -/
def INV (v : VS) : Prop :=
  (INV0 v) ∧
  (AIR v) ∧
  (v 0 10 = 0 → RA 79 (arun (tP v)) v ∧ CH (arun (tP v)) v)
theorem INV.i {v : VS} (h : INV v) : INV0 v := h.1
theorem INV.a {v : VS} (h : INV v) : AIR v := h.2.1
theorem INV.r {v : VS} (h : INV v) : v 0 10 = 0 → RA 79 (arun (tP v)) v ∧ CH (arun (tP v)) v := h.2.2
theorem AW.srt {P : VS} {t c : Nat} {a : SS} (h : AW P t c a) : ∀ i j : Nat, i ≤ j → (j : Int) < a.1 0 0 → a.1 1 i ≤ a.1 1 j := by
  intro i j hij hj
  by_cases e : i = j
  · rw [e]; exact Int.le_refl _
  · have := h.od i j (by omega) hj
    omega
theorem tP_0 (v : VS) : tP v 0 0 = v 33 0 ∧ tP v 0 1 = v 33 1 ∧ tP v 0 2 = v 33 1 ∧ tP v 0 3 = v 37 0 := by
  obtain ⟨a0, a1, a4, a5, a6, a7, a8, a9, a68⟩ := asTold_r v
  obtain ⟨c0, c1, c2, c3, c4, c5, c6, c7, c8, c9⟩ := cP_0 (cl_asTold v)
  unfold tP
  rw [c0, c1, c2, c3, a6, o_cl_asTold (by omega), o_cl_asTold (by omega)]
  refine ⟨rfl, by omega, rfl, rfl⟩
theorem asItIs_0 {v : VS} {j : Nat} (hj : j ≠ 10) : (cl_asItIs v) 0 j = v 0 j := by
  unfold cl_asItIs
  split
  · rfl
  · rw [v2_eq, if_neg (by omega), o_cl_fillChart (by omega), xplay_row (by omega) (by omega), o_cl_asTold (by omega)]
theorem asItIs_10 {v : VS} : (cl_asItIs v) 0 10 = 0 := by
  unfold cl_asItIs
  split
  · assumption
  · rw [v2_eq, if_pos ⟨rfl, rfl⟩]
theorem INV.is {v : VS} (h : INV v) : INV (cl_asItIs v) := by
  by_cases q : v 0 10 = 0
  · have e : cl_asItIs v = v := by unfold cl_asItIs; rw [if_pos q]
    rw [e]; exact h
  · have r : ∀ k, k ≠ 0 → k < 67 ∨ 90 < k → k ≠ 105 → (cl_asItIs v) k = v k := fun k a b c => o_cl_asItIs (by omega)
    have eT : tP (cl_asItIs v) = tP v := tP_of (fun k a b => r k (by omega) (by omega) (by omega))
    have hp := h.i.sg.play h.i.wz (R := 79) (Or.inl rfl)
    have hAW := AW.run h.i.pw
    have hC : 0 ≤ v 33 0 ∧ v 33 0 ≤ 9 := h.i.x 33 0
    have hS : 0 ≤ v 33 1 ∧ v 33 1 ≤ 300 := h.i.x 33 1
    obtain ⟨t0, t1, t2, t3⟩ := tP_0 v
    have hst := hAW.st
    rw [t0] at hst
    have e : cl_asItIs v = v2 (cl_fillChart (xplay 79 (cl_asTold v))) 0 10 0 := by unfold cl_asItIs; rw [if_neg q]
    have hpA : RA 79 (arun (tP v)) (xplay 79 (cl_asTold v)) := hp.A
    have hpD := hp.D
    have p33 : (xplay 79 (cl_asTold v)) 33 = v 33 := by rw [xplay_row (by omega) (by omega), o_cl_asTold (by omega)]
    obtain ⟨-, ch⟩ := fc4 (A := arun (tP v)) (fun i hi => by have := hst i hi; omega) hAW.n hAW.srt 301 0 0 (xplay 79 (cl_asTold v)) hpA (by rw [p33]; exact hC.1) (by rw [p33]; exact hC.2) (by rw [p33]; omega) hAW.n.1 (fun j hj => by omega) (fun g => by have := hst 0 g; omega) (fun j hj => by rw [p33]; exact (hst j hj).2.1.2) (fun s' hs' => by omega) (fun _ => rfl)
    rw [p33] at ch
    have e105 : ∀ k, k ≠ 0 → k ≠ 105 → (cl_asItIs v) k = (xplay 79 (cl_asTold v)) k := fun k a b => by rw [e, v2_row (by omega), o_cl_fillChart (by omega)]
    refine ⟨⟨i_cl_asItIs h.i.x, h.i.c.of (fun k a b => r k (by omega) (by omega) (by omega)), ?_, h.i.t.of (asItIs_0 (by omega)) (r 1 (by omega) (by omega) (by omega)) (r 2 (by omega) (by omega) (by omega)) (r 208 (by omega) (by omega) (by omega)) (by rw [r 203 (by omega) (by omega) (by omega)]) (by rw [r 203 (by omega) (by omega) (by omega)]) (by rw [r 203 (by omega) (by omega) (by omega)]), h.i.s.of (fun j a b => r j (by omega) (by omega) (by omega)) (fun j a b => r j (by omega) (by omega) (by omega)), h.i.i.of (asItIs_0 (by omega)) (fun j a b => r j (by omega) (by omega) (by omega)) (fun j a b => r j (by omega) (by omega) (by omega)), h.i.b.of (fun j a b => r j (by omega) (by omega) (by omega)) (fun j a b => r j (by omega) (by omega) (by omega)), h.i.g.of (fun j a b => r j (by omega) (by omega) (by omega))⟩, h.a.of (fun k a b => r k (by omega) (by omega) (by omega)), fun _ => ?_⟩
    · unfold WZ
      rw [e105 73 (by omega) (by omega), e105 74 (by omega) (by omega)]
      exact hpD.wz
    · rw [eT]
      refine ⟨hpA.of (fun k a b => e105 k (by omega) (by omega)) rfl, fun c t hc ht => ?_⟩
      rw [r 33 (by omega) (by omega) (by omega)] at hc ht
      rw [e, v2_row (by omega)]
      exact ch t c (by omega) ht hc
theorem INV.ref {v v' : VS} (h : INV v) (hx : XI v') (e : ∀ j, j < 203 ∨ (203 < j ∧ j < 219) → v' j = v j) (e6 : v' 203 6 = v 203 6) (e14 : v' 203 14 = v 203 14) (e15 : v' 203 15 = v 203 15) : INV v' := by
  have eT : tP v' = tP v := tP_of (fun k a b => e k (by omega))
  refine ⟨h.i.ref hx e e6 e14 e15, h.a.of (fun k a b => e k (by omega)), fun g => ?_⟩
  rw [e 0 (by omega)] at g
  obtain ⟨g1, g2⟩ := h.r g
  rw [eT]
  refine ⟨g1.of (fun k a b => e k (by omega)) rfl, fun c t hc ht => ?_⟩
  rw [e 33 (by omega)] at hc ht
  rw [e 105 (by omega)]
  exact g2.c c t hc ht
