
/-! one start alone: what began -/
def note4 (s : Int × Int × Int × Int) (c t : Int) : Int × Int × Int × Int := if s.1 = 0 then (s.1 + 1, c, t, c) else (s.1 + 1, s.2.1, s.2.2.1, c)
def bI (G : Int → Int → Int) : Nat → Int → Int → Int → Int × Int × Int × Int → Int × Int × Int × Int
  | 0, _, _, _, s => s
  | f + 1, l, c, t, s => if l < t then s else if G c t = -1 then bI G f l c (t + 1) (note4 s c t) else bI G f l c (t + 1) s
def bO (G : Int → Int → Int) : Nat → Int → Int → Int → Int × Int × Int × Int → Int × Int × Int × Int
  | 0, _, _, _, s => s
  | f + 1, C, l, c, s => if c < C then bO G f C l (c + 1) (bI G 301 l c 0 s) else s
theorem bI_idle {G : Int → Int → Int} {l c : Int} : ∀ (f : Nat) (t : Int) (s : Int × Int × Int × Int), (∀ t', t ≤ t' → t' ≤ l → G c t' ≠ -1) → bI G f l c t s = s := by
  intro f
  induction f with
  | zero => intro t s h; rw [bI]
  | succ f ih =>
    intro t s h
    rw [bI]
    by_cases q : l < t
    · rw [if_pos q]
    · rw [if_neg q, if_neg (h t (by omega) (by omega))]
      exact ih _ _ (fun t' a b => h t' (by omega) b)
theorem bI_lim {G : Int → Int → Int} {l m c : Int} (hl : l ≤ m) (h : ∀ t, l < t → t ≤ m → G c t ≠ -1) : ∀ (f : Nat) (t : Int) (s : Int × Int × Int × Int), bI G f m c t s = bI G f l c t s := by
  intro f
  induction f with
  | zero => intro t s; rw [bI, bI]
  | succ f ih =>
    intro t s
    by_cases q : l < t
    · rw [bI_idle (f + 1) t s (fun t' a b => h t' (by omega) b), bI, if_pos q]
    · rw [bI, bI, if_neg q, if_neg (by omega), ih, ih]
theorem bO_lim {G : Int → Int → Int} {l m C : Int} (hl : l ≤ m) (h : ∀ c t, 0 ≤ c → c < C → l < t → t ≤ m → G c t ≠ -1) : ∀ (f : Nat) (c : Int) (s : Int × Int × Int × Int), 0 ≤ c → bO G f C m c s = bO G f C l c s := by
  intro f
  induction f with
  | zero => intro c s h0; rw [bO, bO]
  | succ f ih =>
    intro c s h0
    rw [bO, bO]
    by_cases q : c < C
    · rw [if_pos q, if_pos q, bI_lim hl (fun t a b => h c t h0 q a b), ih _ _ (by omega)]
    · rw [if_neg q, if_neg q]
def N4 (s : Int × Int × Int × Int) (c : Int) : Prop := 0 ≤ s.1 ∧ (s.1 = 0 → s.2.1 = -1 ∧ s.2.2.1 = -1 ∧ s.2.2.2 = -1) ∧ (1 ≤ s.1 → 0 ≤ s.2.1 ∧ s.2.1 ≤ s.2.2.2 ∧ s.2.2.2 ≤ c)
theorem N4.note {s : Int × Int × Int × Int} {c : Int} (h : N4 s c) (hc : 0 ≤ c) (t : Int) : N4 (note4 s c t) c ∧ (note4 s c t).1 = s.1 + 1 := by
  obtain ⟨h1, h2, h3⟩ := h
  unfold note4
  by_cases q : s.1 = 0
  · rw [if_pos q]
    refine ⟨⟨?_, fun g => ?_, fun g => ?_⟩, rfl⟩
    · dsimp only; omega
    · dsimp only at g; omega
    · dsimp only; omega
  · rw [if_neg q]
    have := h3 (by omega)
    refine ⟨⟨?_, fun g => ?_, fun g => ?_⟩, rfl⟩
    · dsimp only; omega
    · dsimp only at g; omega
    · dsimp only; omega
theorem bI_n {G : Int → Int → Int} {l c : Int} (hl : l ≤ 299) (hc : 0 ≤ c) : ∀ (f : Nat) (t : Int) (s : Int × Int × Int × Int), N4 s c → s.1 ≤ 300 * c + t → t ≤ 300 → N4 (bI G f l c t s) c ∧ (bI G f l c t s).1 ≤ 300 * c + 300 := by
  intro f
  induction f with
  | zero => intro t s h1 h2 h3; rw [bI]; exact ⟨h1, by omega⟩
  | succ f ih =>
    intro t s h1 h2 h3
    rw [bI]
    by_cases q : l < t
    · rw [if_pos q]; exact ⟨h1, by omega⟩
    · rw [if_neg q]
      obtain ⟨n1, n2⟩ := h1.note hc t
      split
      · exact ih _ _ n1 (by omega) (by omega)
      · exact ih _ _ h1 (by omega) (by omega)
/-- what is supposed: one start alone -/
theorem add0 (x : VS) (c t h : Int) : (∀ k, k < 68 ∨ 71 < k → (cl_stAdd (v2 x 68 0 0) c t h) k = x k) ∧ (cl_stAdd (v2 x 68 0 0) c t h) 68 0 = 1 ∧ (cl_stAdd (v2 x 68 0 0) c t h) 69 0 = c ∧ (cl_stAdd (v2 x 68 0 0) c t h) 70 0 = t ∧ (cl_stAdd (v2 x 68 0 0) c t h) 71 0 = h ∧ ∀ k j, 69 ≤ k → k ≤ 71 → 1 ≤ j → (cl_stAdd (v2 x 68 0 0) c t h) k j = x k j := by
  have e : cl_stAdd (v2 x 68 0 0) c t h = v2 (v2 (v2 (v2 (v2 x 68 0 0) 69 0 c) 70 0 t) 71 0 h) 68 0 1 := by
    have z : (v2 x 68 0 0) 68 0 = 0 := by rw [v2_eq, if_pos ⟨rfl, rfl⟩]
    unfold cl_stAdd
    rw [z, if_neg (by omega)]
    rfl
  rw [e]
  refine ⟨fun k hk => ?_, ?_, ?_, ?_, ?_, fun k j k1 k2 hj => ?_⟩
  · rw [v2_row (by omega), v2_row (by omega), v2_row (by omega), v2_row (by omega), v2_row (by omega)]
  · rw [v2_eq, if_pos ⟨rfl, rfl⟩]
  · rw [v2_row (by omega), v2_row (by omega), v2_row (by omega), v2_eq, if_pos ⟨rfl, rfl⟩]
  · rw [v2_row (by omega), v2_row (by omega), v2_eq, if_pos ⟨rfl, rfl⟩]
  · rw [v2_row (by omega), v2_eq, if_pos ⟨rfl, rfl⟩]
  · rw [v2_eq, if_neg (by omega), v2_eq, if_neg (by omega), v2_eq, if_neg (by omega), v2_eq, if_neg (by omega), v2_eq, if_neg (by omega)]
theorem addSG {v x : VS} (h : INV v) (hx : XI x) (e : ∀ k, 33 ≤ k → k ≤ 61 → x k = v k) {mo c t g : Int} (h6 : x 67 6 = mo) (hm : 0 ≤ mo ∧ mo < v 33 1) (hc : 0 ≤ c ∧ c < v 33 0) (ht : 0 ≤ t ∧ t < v 33 1) (hg : 1 ≤ g ∧ g ≤ 99) : SG (cl_stAdd (v2 x 68 0 0) c t g) := by
  have h9 : 0 ≤ v 33 0 ∧ v 33 0 ≤ 9 := h.i.x 33 0
  have h3 : 0 ≤ v 33 1 ∧ v 33 1 ≤ 300 := h.i.x 33 1
  obtain ⟨a1, a2, a3, a4, a5, a6⟩ := add0 x c t g
  refine ⟨i_cl_stAdd (XI.put (k := 68) (j := 0) hx (show (0 : Int) ≤ 0 ∧ (0 : Int) ≤ 5 by omega)) (by omega) (by omega) (by omega), h.i.g.of (fun j a b => by rw [a1 j (by omega), e j (by omega) (by omega)]), ?_, fun k hk => ?_⟩
  · rw [a1 67 (by omega), a1 33 (by omega), h6, e 33 (by omega) (by omega)]; omega
  · rw [a2] at hk
    have : k = 0 := by omega
    subst this
    rw [a3, a4, a5, a1 33 (by omega), e 33 (by omega) (by omega)]
    omega
def sG (v : VS) (mo g c t : Int) : VS := cl_stAdd (v2 (v2 (cl_asTold v) 67 6 mo) 68 0 0) c t g
theorem sG_sg {v : VS} (h : INV v) {mo c t g : Int} (hm : 0 ≤ mo ∧ mo < v 33 1) (hc : 0 ≤ c ∧ c < v 33 0) (ht : 0 ≤ t ∧ t < v 33 1) (hg : 1 ≤ g ∧ g ≤ 99) : SG (sG v mo g c t) := by
  have h3 : 0 ≤ v 33 1 ∧ v 33 1 ≤ 300 := h.i.x 33 1
  exact addSG h (XI.put (k := 67) (j := 6) (i_cl_asTold h.i.x) (show -1 ≤ mo ∧ mo ≤ 299 by omega)) (fun k a b => by rw [v2_row (by omega), o_cl_asTold (by omega)]) (by rw [v2_eq, if_pos ⟨rfl, rfl⟩]) hm hc ht hg
theorem sG_of {v x : VS} {mo c t g : Int} (e : ∀ k, 33 ≤ k → k ≤ 66 → x k = v k) (a : ∀ j, x 67 j = if j = 6 then mo else (cl_asTold v) 67 j) (d : ∀ j, j < 10 → x 72 j = 0) (s : ∀ k j, 69 ≤ k → k ≤ 71 → 1 ≤ j → j < 5 → x k j = (cl_asTold v) k j) : cP (cl_stAdd (v2 x 68 0 0) c t g) = cP (sG v mo g c t) := by
  obtain ⟨a1, a2, a3, a4, a5, a6⟩ := add0 x c t g
  obtain ⟨b1, b2, b3, b4, b5, b6⟩ := add0 (v2 (cl_asTold v) 67 6 mo) c t g
  have f : ∀ j, (cl_stAdd (v2 x 68 0 0) c t g) 67 j = (sG v mo g c t) 67 j := fun j => by
    unfold sG
    rw [a1 67 (by omega), b1 67 (by omega), a, v2_eq]
    by_cases q : j = 6
    · rw [if_pos q, if_pos ⟨rfl, q⟩]
    · rw [if_neg q, if_neg (fun y => q y.2)]
  refine cP_of2 (fun k k1 k2 => ?_) (f 0) (f 1) (f 4) (f 5) (f 6) (f 7) (f 8) (f 9) ?_ (fun j hj => ?_) (fun j hj => ?_)
  · unfold sG
    rw [a1 k (by omega), b1 k (by omega), v2_row (by omega), o_cl_asTold (by omega), e k (by omega) (by omega)]
  · unfold sG
    rw [a2, b2]
  · unfold sG
    by_cases q : j = 0
    · subst q
      rw [a3, a4, a5, b3, b4, b5]
      exact ⟨rfl, rfl, rfl⟩
    · rw [a6 69 j (by omega) (by omega) (by omega), a6 70 j (by omega) (by omega) (by omega), a6 71 j (by omega) (by omega) (by omega), b6 69 j (by omega) (by omega) (by omega), b6 70 j (by omega) (by omega) (by omega), b6 71 j (by omega) (by omega) (by omega), s 69 j (by omega) (by omega) (by omega) hj, s 70 j (by omega) (by omega) (by omega) hj, s 71 j (by omega) (by omega) (by omega) hj, v2_row (by omega), v2_row (by omega), v2_row (by omega)]
      exact ⟨rfl, rfl, rfl⟩
  · unfold sG
    rw [a1 72 (by omega), b1 72 (by omega), d j hj, v2_row (by omega), asTold_72 v j hj]
theorem sG_v {v u : VS} {mo c t g : Int} (e : ∀ k, 33 ≤ k → k ≤ 66 → u k = v k) : cP (sG u mo g c t) = cP (sG v mo g c t) := by
  obtain ⟨a0, a1, a4, a5, a6, a7, a8, a9, a68⟩ := asTold_r v
  obtain ⟨b0, b1, b4, b5, b6, b7, b8, b9, b68⟩ := asTold_r u
  obtain ⟨x1, x2, x3, x4, x5, x6⟩ := add0 (v2 (cl_asTold v) 67 6 mo) c t g
  obtain ⟨y1, y2, y3, y4, y5, y6⟩ := add0 (v2 (cl_asTold u) 67 6 mo) c t g
  have e33 := e 33 (by omega) (by omega)
  have f : ∀ j, (cl_asTold u) 67 j = (cl_asTold v) 67 j ∨ j = 6 → (sG u mo g c t) 67 j = (sG v mo g c t) 67 j := fun j hj => by
    unfold sG
    rw [x1 67 (by omega), y1 67 (by omega), v2_eq, v2_eq]
    by_cases q : j = 6
    · rw [if_pos ⟨rfl, q⟩, if_pos ⟨rfl, q⟩]
    · rw [if_neg (fun z => q z.2), if_neg (fun z => q z.2)]
      rcases hj with z | z
      · exact z
      · exact absurd z q
  refine cP_of2 (fun k k1 k2 => ?_) (f 0 (by rw [a0, b0, e33]; exact Or.inl rfl)) (f 1 (by rw [a1, b1, e33]; exact Or.inl rfl)) (f 4 (by rw [a4, b4]; exact Or.inl rfl)) (f 5 (by rw [a5, b5]; exact Or.inl rfl)) (f 6 (Or.inr rfl)) (f 7 (by rw [a7, b7]; exact Or.inl rfl)) (f 8 (by rw [a8, b8]; exact Or.inl rfl)) (f 9 (by rw [a9, b9]; exact Or.inl rfl)) ?_ (fun j hj => ?_) (fun j hj => ?_)
  · unfold sG
    rw [x1 k (by omega), y1 k (by omega), v2_row (by omega), v2_row (by omega), o_cl_asTold (by omega), o_cl_asTold (by omega), e k (by omega) (by omega)]
  · unfold sG
    rw [x2, y2]
  · unfold sG
    by_cases q : j = 0
    · subst q
      rw [x3, x4, x5, y3, y4, y5]
      exact ⟨rfl, rfl, rfl⟩
    · obtain ⟨p1, p2, p3⟩ := asTold_s v j hj
      obtain ⟨q1, q2, q3⟩ := asTold_s u j hj
      rw [x6 69 j (by omega) (by omega) (by omega), x6 70 j (by omega) (by omega) (by omega), x6 71 j (by omega) (by omega) (by omega), y6 69 j (by omega) (by omega) (by omega), y6 70 j (by omega) (by omega) (by omega), y6 71 j (by omega) (by omega) (by omega), v2_row (by omega), v2_row (by omega), v2_row (by omega), v2_row (by omega), v2_row (by omega), v2_row (by omega), p1, p2, p3, q1, q2, q3, e 43 (by omega) (by omega), e 44 (by omega) (by omega), e 45 (by omega) (by omega)]
      exact ⟨rfl, rfl, rfl⟩
  · unfold sG
    rw [x1 72 (by omega), y1 72 (by omega), v2_row (by omega), v2_row (by omega), asTold_72 v j hj, asTold_72 u j hj]
theorem sG_P {v : VS} {mo c t g : Int} : cP (sG v mo g c t) 0 1 = mo + 1 ∧ cP (sG v mo g c t) 0 2 = v 33 1 ∧ cP (sG v mo g c t) 0 6 = -1 ∧ cP (sG v mo g c t) 0 7 = 300 ∧ cP (sG v mo g c t) 0 8 = 300 ∧ cP (sG v mo g c t) 0 9 = 1 ∧ cP (sG v mo g c t) 8 0 = t := by
  obtain ⟨a0, a1, a4, a5, a6, a7, a8, a9, a68⟩ := asTold_r v
  obtain ⟨x1, x2, x3, x4, x5, x6⟩ := add0 (v2 (cl_asTold v) 67 6 mo) c t g
  obtain ⟨c0, c1, c2, c3, c4, c5, c6, c7, c8, c9⟩ := cP_0 (sG v mo g c t)
  obtain ⟨-, -, -, -, -, -, -, d8, -⟩ := cP_k (sG v mo g c t) 0
  rw [c1, c2, c6, c7, c8, c9, d8, if_pos (by omega)]
  unfold sG
  rw [x1 67 (by omega), x1 33 (by omega), x2, x4, v2_eq, if_pos ⟨rfl, rfl⟩, v2_row (by omega), o_cl_asTold (by omega), v2_eq, if_neg (by omega), v2_eq, if_neg (by omega), v2_eq, if_neg (by omega), a7, a8, a9]
  exact ⟨rfl, rfl, rfl, rfl, rfl, rfl, rfl⟩
/-- the class's trial, while it seeks -/
def SK4 (v x : VS) (mo : Int) (st : Int × Int × Int × Int) : Prop :=
  (INV x) ∧
  (∀ k, k < 67 ∨ (78 < k ∧ k < 91) ∨ 103 < k → x k = v k) ∧
  (∀ j, x 67 j = if j = 6 then mo else (cl_asTold v) 67 j) ∧
  (∀ j, j < 10 → x 72 j = 0) ∧
  (∀ k j, 69 ≤ k → k ≤ 71 → 1 ≤ j → j < 5 → x k j = (cl_asTold v) k j) ∧
  (x 103 4 = st.1 ∧ x 103 5 = st.2.1 ∧ x 103 6 = st.2.2.1 ∧ x 103 7 = st.2.2.2)
theorem SK4.i {v x : VS} {mo : Int} {st : Int × Int × Int × Int} (h : SK4 v x mo st) : INV x := h.1
theorem SK4.e {v x : VS} {mo : Int} {st : Int × Int × Int × Int} (h : SK4 v x mo st) : ∀ k, k < 67 ∨ (78 < k ∧ k < 91) ∨ 103 < k → x k = v k := h.2.1
theorem SK4.a {v x : VS} {mo : Int} {st : Int × Int × Int × Int} (h : SK4 v x mo st) : ∀ j, x 67 j = if j = 6 then mo else (cl_asTold v) 67 j := h.2.2.1
theorem SK4.d {v x : VS} {mo : Int} {st : Int × Int × Int × Int} (h : SK4 v x mo st) : ∀ j, j < 10 → x 72 j = 0 := h.2.2.2.1
theorem SK4.s {v x : VS} {mo : Int} {st : Int × Int × Int × Int} (h : SK4 v x mo st) : ∀ k j, 69 ≤ k → k ≤ 71 → 1 ≤ j → j < 5 → x k j = (cl_asTold v) k j := h.2.2.2.2.1
theorem SK4.n {v x : VS} {mo : Int} {st : Int × Int × Int × Int} (h : SK4 v x mo st) : x 103 4 = st.1 ∧ x 103 5 = st.2.1 ∧ x 103 6 = st.2.2.1 ∧ x 103 7 = st.2.2.2 := h.2.2.2.2.2
theorem SK4.play {v x : VS} {mo c t g : Int} {st : Int × Int × Int × Int} (h : INV v) (k : SK4 v x mo st) (hm : 0 ≤ mo ∧ mo < v 33 1) (hc : 0 ≤ c ∧ c < v 33 0) (ht : 0 ≤ t ∧ t < v 33 1) (hg : 1 ≤ g ∧ g ≤ 99) : SK4 v (xplay 91 (cl_stAdd (v2 x 68 0 0) c t g)) mo st ∧ RA 91 (arun (cP (sG v mo g c t))) (xplay 91 (cl_stAdd (v2 x 68 0 0) c t g)) := by
  have sg := addSG h (c := c) (t := t) (g := g) k.i.i.x (fun j a b => k.e j (by omega)) (mo := mo) (by rw [k.a, if_pos rfl]) hm hc ht hg
  obtain ⟨a1, a2, a3, a4, a5, a6⟩ := add0 x c t g
  obtain ⟨g1, g2, g3⟩ := k.i.play (p := cl_stAdd (v2 x 68 0 0) c t g) (fun j hj => a1 j (by omega)) sg
  rw [sG_of (v := v) (mo := mo) (fun j a b => k.e j (by omega)) k.a k.d k.s] at g2
  refine ⟨⟨g1, fun j hj => by rw [g3 j (by omega), k.e j hj], fun j => ?_, fun j hj => ?_, fun q j q1 q2 j1 j2 => ?_, ?_⟩, g2⟩
  · rw [xplay_row (by omega) (by omega), a1 67 (by omega), k.a]
  · rw [xplay_row (by omega) (by omega), a1 72 (by omega), k.d j hj]
  · rw [xplay_row (by omega) (by omega), a6 q j q1 q2 j1, k.s q j q1 q2 j1 j2]
  · rw [g3 103 (by omega)]; exact k.n
theorem SK4.note {v x : VS} {mo c t : Int} {st : Int × Int × Int × Int} (k : SK4 v x mo st) (hc : 0 ≤ c ∧ c ≤ 8) (ht : 0 ≤ t ∧ t ≤ 299) (hn : st.1 < 2700) : SK4 v (cl_note x c t) mo (note4 st c t) := by
  obtain ⟨n1, n2, n3, n4⟩ := k.n
  have r : ∀ j, j ≠ 103 → (cl_note x c t) j = x j := fun j hj => by
    unfold cl_note
    split
    · rw [v2_row hj, v2_row hj, v2_row hj, v2_row hj]
    · rw [v2_row hj, v2_row hj]
  refine ⟨k.i.trial (i_cl_note k.i.i.x hc ht (by omega)) ?_ (fun j hj => r j (by omega)), fun j hj => by rw [r j (by omega), k.e j hj], fun j => by rw [r 67 (by omega), k.a], fun j hj => by rw [r 72 (by omega), k.d j hj], fun q j q1 q2 j1 j2 => by rw [r q (by omega), k.s q j q1 q2 j1 j2], ?_⟩
  · have := k.i.i.z
    unfold WZ at *
    rw [r 73 (by omega), r 74 (by omega)]
    exact this
  · unfold cl_note note4
    rw [n1]
    by_cases q : st.1 = 0
    · rw [if_pos q, if_pos q]
      simp [v2_eq]
    · rw [if_neg q, if_neg q]
      simp [v2_eq, n2, n3]
def gG (v : VS) (q : Nat) (mo g c t : Int) : Int := cl_firstOdd91 (xplay 91 (sG v mo g c t)) q
