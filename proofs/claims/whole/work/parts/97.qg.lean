/-! one start more, one start elsewhere -/
theorem BR.gen {v p y : VS} (h : INV v) (hx : XI y) (ep : ∀ k, 33 ≤ k → k ≤ 66 → p k = v k) (ey : ∀ k, k ≠ 203 → k ≠ 213 → k < 219 → y k = v k) (hmu : ∀ c : Nat, c < 9 → bt (p 67 0) c = bt (y 203 30) c) (hcu : ∀ e : Nat, e < 12 → bt (p 67 1) e = bt (y 203 31) e) (hla : p 67 4 = y 203 34) (hdu : p 67 5 = y 203 35) (hns : y 203 33 = y 203 32 + p 68 0) (h32 : 0 ≤ y 203 32) (hst : ∀ k : Nat, (k : Int) < p 68 0 → y 213 (3 * ((y 203 32).toNat + k) + 1) = p 70 k ∧ y 213 (3 * ((y 203 32).toNat + k)) = p 69 k ∧ y 213 (3 * ((y 203 32).toNat + k) + 2) = p 71 k) (hwi : (∃ w : Nat → Int, BQ 33 0 (fset y 213 w)) → AIR y → ∀ t : Nat, (t : Int) < y 33 1 → (mo_laysWinds y) 219 t = xwind p t) : BR p y := by
  have hb : ∃ w : Nat → Int, BQ 33 0 (fset y 213 w) := by
    refine ⟨v 213, h.i.b.of (fun j a b => ?_) (fun j a b => ?_)⟩
    · rw [fset_at, if_neg (by omega), ey j (by omega) (by omega) (by omega)]
    · rw [fset_at]
      by_cases q : j = 213
      · rw [if_pos q, q]
      · rw [if_neg q, ey j (by omega) q (by omega)]
  have ha : AIR y := h.a.of (fun k a b => ey k (by omega) (by omega) (by omega))
  exact ⟨fun k a b => by rw [ep k a b, ey k (by omega) (by omega) (by omega)], hb, hx, ha, hmu, hcu, hla, hdu, hns, h32, hst, hwi hb ha⟩
def sA (s : VS) (c t g : Int) : VS := cl_stAdd (cl_asTold s) c t g
theorem sA_r {s : VS} (h : INV s) {c t g : Int} {n : Nat} (hn : s 42 0 = n) : (∀ k, k < 68 ∨ 71 < k → sA s c t g k = (cl_asTold s) k) ∧ sA s c t g 68 0 = (n : Int) + 1 ∧ (∀ j : Nat, sA s c t g 69 j = if j = n then c else (cl_asTold s) 69 j) ∧ (∀ j : Nat, sA s c t g 70 j = if j = n then t else (cl_asTold s) 70 j) ∧ (∀ j : Nat, sA s c t g 71 j = if j = n then g else (cl_asTold s) 71 j) := by
  have h4 : 0 ≤ s 42 0 ∧ s 42 0 ≤ 4 := h.i.x 42 0
  have a68 := (asTold_r s).2.2.2.2.2.2.2.2
  unfold sA cl_stAdd
  rw [a68, hn, if_neg (by omega), toN]
  refine ⟨fun k hk => by rw [v2_row (by omega), v2_row (by omega), v2_row (by omega), v2_row (by omega)], by rw [v2_eq, if_pos ⟨rfl, rfl⟩], fun j => ?_, fun j => ?_, fun j => ?_⟩
  · rw [v2_row (by omega), v2_row (by omega), v2_row (by omega), v2_eq]
    by_cases q : j = n
    · rw [if_pos ⟨rfl, q⟩, if_pos q]
    · rw [if_neg (fun z => q z.2), if_neg q]
  · rw [v2_row (by omega), v2_row (by omega), v2_eq]
    by_cases q : j = n
    · rw [if_pos ⟨rfl, q⟩, if_pos q]
    · rw [if_neg (fun z => q z.2), if_neg q, v2_row (by omega)]
  · rw [v2_row (by omega), v2_eq]
    by_cases q : j = n
    · rw [if_pos ⟨rfl, q⟩, if_pos q]
    · rw [if_neg (fun z => q z.2), if_neg q, v2_row (by omega), v2_row (by omega)]
theorem sA_of {v v' : VS} (h : INV v) (h' : INV v') {c t g : Int} (e : ∀ k, 33 ≤ k → k ≤ 66 → v' k = v k) : cP (sA v' c t g) = cP (sA v c t g) := by
  have h4 : 0 ≤ v 42 0 ∧ v 42 0 ≤ 4 := h.i.x 42 0
  obtain ⟨n, hn⟩ : ∃ n : Nat, v 42 0 = n := ⟨(v 42 0).toNat, by omega⟩
  obtain ⟨r1, r2, r3, r4, r5⟩ := sA_r h (c := c) (t := t) (g := g) hn
  obtain ⟨q1, q2, q3, q4, q5⟩ := sA_r h' (c := c) (t := t) (g := g) (n := n) (by rw [e 42 (by omega) (by omega)]; exact hn)
  obtain ⟨a0, a1, a4, a5, a6, a7, a8, a9, a68⟩ := asTold_r v
  obtain ⟨b0, b1, b4, b5, b6, b7, b8, b9, b68⟩ := asTold_r v'
  have e33 := e 33 (by omega) (by omega)
  refine cP_of2 (fun k k1 k2 => by rw [q1 k (by omega), r1 k (by omega), o_cl_asTold (by omega), o_cl_asTold (by omega)]; exact e k (by omega) (by omega)) (by rw [q1 67 (by omega), r1 67 (by omega), a0, b0, e33]) (by rw [q1 67 (by omega), r1 67 (by omega), a1, b1, e33]) (by rw [q1 67 (by omega), r1 67 (by omega), a4, b4]) (by rw [q1 67 (by omega), r1 67 (by omega), a5, b5]) (by rw [q1 67 (by omega), r1 67 (by omega), a6, b6, e33]) (by rw [q1 67 (by omega), r1 67 (by omega), a7, b7]) (by rw [q1 67 (by omega), r1 67 (by omega), a8, b8]) (by rw [q1 67 (by omega), r1 67 (by omega), a9, b9]) (by rw [q2, r2]) (fun i hi => ?_) (fun i hi => by rw [q1 72 (by omega), r1 72 (by omega), asTold_72 v i hi, asTold_72 v' i hi])
  obtain ⟨x1, x2, x3⟩ := asTold_s v i hi
  obtain ⟨y1, y2, y3⟩ := asTold_s v' i hi
  rw [q3, q4, q5, r3, r4, r5, x1, x2, x3, y1, y2, y3, e 43 (by omega) (by omega), e 44 (by omega) (by omega), e 45 (by omega) (by omega)]
  exact ⟨rfl, rfl, rfl⟩
def pN (v : VS) (c t g : Int) : Int := (arun (cP (sA v c t g))).1 0 0
theorem INV.playP {s : VS} (h : INV s) {c t g : Int} (hc : 0 ≤ c ∧ c < s 33 0) (ht : 0 ≤ t ∧ t < s 33 1) (hg : 1 ≤ g ∧ g ≤ 99) : SG (sA s c t g) ∧ pln (cP (sA s c t g)) = cP (sA s c t g) ∧ INV (xplay 91 (sA s c t g)) ∧ RA 91 (arun (cP (sA s c t g))) (xplay 91 (sA s c t g)) ∧ (∀ k, k < 67 ∨ (78 < k ∧ k < 91) ∨ 102 < k → (xplay 91 (sA s c t g)) k = s k) := by
  have h4 : 0 ≤ s 42 0 ∧ s 42 0 ≤ 4 := h.i.x 42 0
  have h9 : 0 ≤ s 33 0 ∧ s 33 0 ≤ 9 := h.i.x 33 0
  have h3 : 0 ≤ s 33 1 ∧ s 33 1 ≤ 300 := h.i.x 33 1
  obtain ⟨n, hn⟩ : ∃ n : Nat, s 42 0 = n := ⟨(s 42 0).toNat, by omega⟩
  obtain ⟨r1, r2, r3, r4, r5⟩ := sA_r h (c := c) (t := t) (g := g) hn
  obtain ⟨a0, a1, a4, a5, a6, a7, a8, a9, a68⟩ := asTold_r s
  have sg := h.i.sg
  have hx : XI (sA s c t g) := by
    intro k j
    by_cases e : k < 68 ∨ 71 < k
    · rw [r1 k e]; exact sg.x k j
    · have : k = 68 ∨ k = 69 ∨ k = 70 ∨ k = 71 := by omega
      rcases this with rfl | rfl | rfl | rfl
      · by_cases z : j = 0
        · rw [z, r2]
          show 0 ≤ (n : Int) + 1 ∧ (n : Int) + 1 ≤ 5
          omega
        · have : sA s c t g 68 j = (cl_asTold s) 68 j := by
            unfold sA cl_stAdd
            rw [a68, hn, if_neg (by omega), v2_eq, if_neg (fun y => z y.2), v2_row (by omega), v2_row (by omega), v2_row (by omega)]
          rw [this]; exact sg.x 68 j
      · rw [r3]
        split
        · exact (show 0 ≤ c ∧ c ≤ 8 by omega)
        · exact sg.x 69 j
      · rw [r4]
        split
        · exact (show 0 ≤ t ∧ t ≤ 299 by omega)
        · exact sg.x 70 j
      · rw [r5]
        split
        · exact (show 0 ≤ g ∧ g ≤ 99 by omega)
        · exact sg.x 71 j
  have sg2 : SG (sA s c t g) := by
    refine ⟨hx, sg.g.of (fun j a b => r1 j (by omega)), by rw [r1 67 (by omega), r1 33 (by omega)]; exact sg.u, fun k hk => ?_⟩
    rw [r2] at hk
    have e33 : (cl_asTold s) 33 = s 33 := o_cl_asTold (by omega)
    rw [r3, r4, r5, r1 33 (by omega), e33]
    by_cases z : k = n
    · rw [if_pos z, if_pos z, if_pos z]; omega
    · rw [if_neg z, if_neg z, if_neg z]
      have := sg.st k (by rw [a68, hn]; omega)
      rw [e33] at this
      exact this
  obtain ⟨g1, g2, g3⟩ := h.play (p := sA s c t g) (fun k hk => by rw [r1 k (by omega), o_cl_asTold (by omega)]) sg2
  refine ⟨sg2, pln_cP ?_ ?_ ?_ ?_, g1, g2, g3⟩
  · rw [r1 67 (by omega), a6, r1 33 (by omega), o_cl_asTold (by omega)]
  · rw [r1 67 (by omega), a7]
  · rw [r1 67 (by omega), a8]
  · rw [r1 67 (by omega), a9]
/-- a start beyond those that are told -/
theorem INV.st213 {u w : VS} (h : INV u) {n : Nat} (hn : u 210 4 = n) (hx : XI w) (hc : CF w) (e : ∀ k, k ≠ 213 → w k = u k) (e2 : ∀ i : Nat, i < 3 * n ∨ 15 ≤ i → w 213 i = u 213 i) : INV w := by
  have eT : tP w = tP u := tP_of (fun k a b => e k (by omega))
  obtain ⟨b0, b1, b3, b4, bL, b9, b10⟩ := h.b0
  have hb : BQ 33 0 w := by
    obtain ⟨g1, g2, g3, g4, g5, g6, g7, g8, g9, g10, g11, g12, g13, g14, g15, g16, g17, g18, g19⟩ := h.i.b
    unfold BQ
    rw [e 33 (by omega), e (33 + 1) (by omega), e (33 + 2) (by omega), e (33 + 3) (by omega), e (33 + 4) (by omega), e (33 + 5) (by omega), e (33 + 6) (by omega), e (33 + 7) (by omega), e (33 + 8) (by omega), e (33 + 9) (by omega), e (33 + 10) (by omega), e (33 + 11) (by omega), e (33 + 12) (by omega), e (33 + 13) (by omega), e (33 + 14) (by omega), e (33 + 15) (by omega), e (33 + 17) (by omega), e (33 + 18) (by omega), e (33 + 19) (by omega), e (33 + 20) (by omega), e (33 + 21) (by omega), e (33 + 22) (by omega), e (33 + 23) (by omega), e (33 + 24) (by omega), e (33 + 25) (by omega), e (33 + 26) (by omega), e (33 + 27) (by omega), e (33 + 28) (by omega), e 209 (by omega), e 210 (by omega), e 211 (by omega), e 212 (by omega), e 214 (by omega), e 215 (by omega), e 216 (by omega), e 217 (by omega)]
    refine ⟨g1, g2, g3, g4, g5, g6, g7, g8, g9, g10, fun s hs => ?_, g12, g13, g14, g15, g16, g17, g18, g19⟩
    have hs' : (s : Int) < u 42 0 := hs
    rw [e2 _ (by omega), e2 _ (by omega), e2 _ (by omega)]
    exact g11 s hs
  refine ⟨⟨hx, hc, ?_, h.i.t.of (by rw [e 0 (by omega)]) (e 1 (by omega)) (e 2 (by omega)) (e 208 (by omega)) (by rw [e 203 (by omega)]) (by rw [e 203 (by omega)]) (by rw [e 203 (by omega)]), h.i.s.of (fun j a b => e j (by omega)) (fun j a b => e j (by omega)), h.i.i.of3 h.i.x (by rw [e 0 (by omega)]) (fun j a b => e j (by omega)) (e 218 (by omega)) (fun q q1 q2 => ?_), hb, h.i.g.of (fun j a b => e j (by omega))⟩, h.a.of (fun k a b => e k (by omega)), fun g => ?_⟩
  · have := h.i.z
    unfold WZ at *
    rw [e 73 (by omega), e 74 (by omega)]
    exact this
  · exact RCB.refl (by rw [e 209 (by omega)]) (fun i a b => by rw [e 210 (by omega)]) (fun i a b => by rw [e 211 (by omega)]) (fun i a b => by rw [e 212 (by omega)]) (fun i a b => e2 i (by omega)) (fun i a b => by rw [e 214 (by omega)]) (fun i a b => by rw [e 215 (by omega)]) (fun i a b => by rw [e 216 (by omega)]) (fun i a b => by rw [e 217 (by omega)])
  · rw [e 0 (by omega)] at g
    obtain ⟨g1, g2⟩ := h.r g
    rw [eT]
    refine ⟨g1.of (fun k a b => e k (by omega)) rfl, fun c t hc ht => ?_⟩
    rw [e 33 (by omega)] at hc ht
    rw [e 105 (by omega)]
    exact g2.c c t hc ht
theorem CF.put213 {u : VS} (h : CF u) {n : Nat} (hn : n ≤ 4) {c t g : Int} (hc : 0 ≤ c ∧ c ≤ 8) (hg : g ≤ 99) : CF (v2 (v2 (v2 u 213 (3 * n) c) 213 (3 * n + 1) t) 213 (3 * n + 2) g) := by
  obtain ⟨h1, h2, h3, h4⟩ := h
  refine ⟨?_, fun j hj => ?_, ?_, ?_⟩
  · rw [v2_row (by omega), v2_row (by omega), v2_row (by omega)]; exact h1
  · rw [v2_eq, v2_eq, v2_eq]
    have := h2 j hj
    refine ⟨fun q => ?_, fun q => ?_⟩
    · rw [if_neg (by omega), if_neg (by omega)]
      split
      · exact hc.2
      · exact this.1 q
    · by_cases z : j = 3 * n + 2
      · rw [if_pos ⟨rfl, z⟩]; exact hg
      · rw [if_neg (fun y => z y.2), if_neg (by omega), if_neg (by omega)]; exact this.2 q
  · rw [v2_row (by omega), v2_row (by omega), v2_row (by omega)]; exact h3
  · rw [v2_row (by omega), v2_row (by omega), v2_row (by omega)]; exact h4
theorem l_panOf {u : VS} (hu : INV u) {c t g : Int} (hc : 0 ≤ c ∧ c < u 33 0) (ht : 0 ≤ t ∧ t < u 33 1) (hg : 1 ≤ g ∧ g ≤ 99) : (mo_panOf u c t g).1 = pN u c t g - (arun (tP u)).1 0 0 ∧ INV (mo_panOf u c t g).2 ∧ (∀ k, k < 203 → (mo_panOf u c t g).2 k = u k) := by
  have h4 : 0 ≤ u 42 0 ∧ u 42 0 ≤ 4 := hu.i.x 42 0
  have h9 : 0 ≤ u 33 0 ∧ u 33 0 ≤ 9 := hu.i.x 33 0
  have h3 : 0 ≤ u 33 1 ∧ u 33 1 ≤ 300 := hu.i.x 33 1
  obtain ⟨s1, s2, s3, s4⟩ := sB00 hu hu (fun k _ _ => rfl)
  obtain ⟨b0, b1, b3, b4, bL, b9, b10⟩ := hu.b0
  obtain ⟨n, hn⟩ : ∃ n : Nat, u 42 0 = n := ⟨(u 42 0).toNat, by omega⟩
  obtain ⟨w, hw⟩ : ∃ w, w = (mo_strikesBy u 0 0).2 := ⟨_, rfl⟩
  rw [← hw] at s1 s3 s4
  have w4 : w 210 4 = n := by rw [s4 210 (by omega) (by omega), b4, hn]
  obtain ⟨y, hy⟩ : ∃ y, y = v2 (v2 (v2 w 213 (3 * n) c) 213 (3 * n + 1) t) 213 (3 * n + 2) g := ⟨_, rfl⟩
  have yk : ∀ k, k ≠ 213 → y k = w k := fun k hk => by rw [hy, v2_row hk, v2_row hk, v2_row hk]
  have y213 : ∀ i, y 213 i = if i = 3 * n + 2 then g else if i = 3 * n + 1 then t else if i = 3 * n then c else w 213 i := fun i => by
    rw [hy, v2_eq, v2_eq, v2_eq]
    by_cases z2 : i = 3 * n + 2
    · rw [if_pos ⟨rfl, z2⟩, if_pos z2]
    · rw [if_neg (fun q => z2 q.2), if_neg z2]
      by_cases z1 : i = 3 * n + 1
      · rw [if_pos ⟨rfl, z1⟩, if_pos z1]
      · rw [if_neg (fun q => z1 q.2), if_neg z1]
        by_cases z0 : i = 3 * n
        · rw [if_pos ⟨rfl, z0⟩, if_pos z0]
        · rw [if_neg (fun q => z0 q.2), if_neg z0]
  have yx : XI y := by
    rw [hy]
    exact XI.put (k := 213) (XI.put (k := 213) (XI.put (k := 213) s3.i.x (show 0 ≤ c ∧ c ≤ 299 by omega)) (show 0 ≤ t ∧ t ≤ 299 by omega)) (show 0 ≤ g ∧ g ≤ 299 by omega)
  have yc : CF y := by rw [hy]; exact s3.i.c.put213 (by omega) (by omega) hg.2
  have yI : INV y := s3.st213 w4 yx yc yk (fun i hi => by rw [y213, if_neg (by omega), if_neg (by omega), if_neg (by omega)])
  have em : mo_panOf u c t g = ((mo_run (v2 (mo_plainly y) 203 33 ((n : Int) + 1))) 203 37 - (mo_strikesBy u 0 0).1, mo_run (v2 (mo_plainly y) 203 33 ((n : Int) + 1))) := by
    unfold mo_panOf
    rw [← hw, w4, show (3 * (n : Int)).toNat = 3 * n by omega, show (3 * (n : Int) + 1).toNat = 3 * n + 1 by omega, show (3 * (n : Int) + 2).toNat = 3 * n + 2 by omega, ← hy, o_mo_plainly (by omega), yk 210 (by omega), w4]
  rw [em]
  obtain ⟨sg, pl, -, -, -⟩ := hu.playP hc ht hg
  obtain ⟨r1, r2, r3, r4, r5⟩ := sA_r hu (c := c) (t := t) (g := g) hn
  obtain ⟨a0, a1, a4, a5, a6, a7, a8, a9, a68⟩ := asTold_r u
  obtain ⟨p27, p28, p30, p31, p32, p33, p34, p35⟩ := plainly_r y
  obtain ⟨z, hz⟩ : ∃ z, z = v2 (mo_plainly y) 203 33 ((n : Int) + 1) := ⟨_, rfl⟩
  have zx : XI z := by rw [hz]; exact plainly_x yx (show 0 ≤ (n : Int) + 1 ∧ (n : Int) + 1 ≤ 5 by omega)
  have zf : ∀ j, j ≠ 33 → z 203 j = (mo_plainly y) 203 j := fun j hj => by rw [hz, v2_eq, if_neg (fun q => hj q.2)]
  have z33 : z 203 33 = (n : Int) + 1 := by rw [hz, v2_eq, if_pos ⟨rfl, rfl⟩]
  have zk : ∀ k, k ≠ 203 → z k = y k := fun k hk => by rw [hz, v2_row hk, o_mo_plainly (by omega)]
  have zu : ∀ k, k ≠ 203 → k ≠ 213 → k < 219 → z k = u k := fun k k1 k2 k3 => by rw [zk k k1, yk k k2, s4 k k1 (by omega)]
  have br : BR (sA u c t g) z := by
    refine BR.gen hu zx (fun k a b => by rw [r1 k (by omega), o_cl_asTold (by omega)]) zu ?_ ?_ ?_ ?_ ?_ ?_ (fun k hk => ?_) (fun hb ha => ?_)
    · rw [r1 67 (by omega), a0, zf 30 (by omega), p30, yk 210 (by omega), s4 210 (by omega) (by omega), b9]; exact fun _ _ => rfl
    · rw [r1 67 (by omega), a1, zf 31 (by omega), p31, yk 210 (by omega), s4 210 (by omega) (by omega), b10]; exact fun _ _ => rfl
    · rw [r1 67 (by omega), a4, zf 34 (by omega), p34]
    · rw [r1 67 (by omega), a5, zf 35 (by omega), p35]
    · rw [z33, zf 32 (by omega), p32, r2]; omega
    · rw [zf 32 (by omega), p32]; exact Int.le_refl _
    · rw [r2] at hk
      rw [zf 32 (by omega), p32, show (0 : Int).toNat + k = k by omega, zk 213 (by omega), r3, r4, r5]
      by_cases q : k = n
      · rw [if_pos q, if_pos q, if_pos q]
        refine ⟨?_, ?_, ?_⟩
        · rw [y213, if_neg (by omega), if_pos (by omega)]
        · rw [y213, if_neg (by omega), if_neg (by omega), if_pos (by omega)]
        · rw [y213, if_pos (by omega)]
      · obtain ⟨x1, x2, x3⟩ := asTold_s u k (by omega)
        obtain ⟨-, -, hst⟩ := hu.che
        obtain ⟨q1, q2, q3⟩ := hst k (by omega)
        rw [if_neg q, if_neg q, if_neg q, x1, x2, x3, q1, q2, q3]
        refine ⟨?_, ?_, ?_⟩
        · rw [y213, if_neg (by omega), if_neg (by omega), if_neg (by omega), s4 213 (by omega) (by omega)]
        · rw [y213, if_neg (by omega), if_neg (by omega), if_neg (by omega), s4 213 (by omega) (by omega)]
        · rw [y213, if_neg (by omega), if_neg (by omega), if_neg (by omega), s4 213 (by omega) (by omega)]
    · exact wi0 zx hb ha (by rw [r1 63 (by omega), o_cl_asTold (by omega), zu 63 (by omega) (by omega) (by omega)]) (by rw [r1 67 (by omega), a4, zf 34 (by omega), p34]) (by rw [zf 28 (by omega), p28]) (fun j hj => by rw [r1 72 (by omega), asTold_72 _ j hj, zf 27 (by omega), p27])
  have rm := br.run sg
  rw [pl] at rm
  rw [← hz]
  refine ⟨?_, yI.run zx (yc.of (fun k a b => zk k (by omega))) (fun k hk => zk k (by omega)) (fun j hj => by rw [zf j (by omega), plainly_f (by omega)]), fun k hk => ?_⟩
  · dsimp only
    rw [s2, rm.n]
    rfl
  · dsimp only
    rw [o_mo_run (by omega), zk k (by omega), yk k (by omega), s4 k (by omega) (by omega)]
theorem l_pwp {s : VS} (h : INV s) {c t g : Int} (hc : 0 ≤ c ∧ c < s 33 0) (ht : 0 ≤ t ∧ t < s 33 1) (hg : 1 ≤ g ∧ g ≤ 99) : (cl_playWithPan s c t g).1 = pN s c t g ∧ INV (cl_playWithPan s c t g).2 ∧ (∀ k, k < 67 ∨ (78 < k ∧ k < 91) ∨ 102 < k → (cl_playWithPan s c t g).2 k = s k) ∧ 0 ≤ pN s c t g := by
  obtain ⟨sg, pl, g1, g2, g3⟩ := h.playP hc ht hg
  exact ⟨g2.n, g1, g3, (AW.run sg.pw).n.1⟩
theorem q_pan {v : VS} (h : INV v) (c t g : Int) : (mo_pan (cl_pan v c t g).2 c t g).1 = (cl_pan v c t g).1 ∧ INV (mo_pan (cl_pan v c t g).2 c t g).2 := by
  obtain ⟨b0, b1, b3, b4, bL, b9, b10⟩ := h.b0
  by_cases z : (0 ≤ c ∧ c < v 33 0) ∧ (0 ≤ t ∧ t < v 33 1) ∧ (1 ≤ g ∧ g ≤ 99)
  · obtain ⟨k1, k2, k3, k4⟩ := l_pwp h z.1 z.2.1 z.2.2
    obtain ⟨s, hs⟩ : ∃ s, s = (cl_playWithPan v c t g).2 := ⟨_, rfl⟩
    rw [← hs] at k2 k3
    have q := k2.qq
    have hi := k2.is
    have ec : cl_pan v c t g = ((cl_playWithPan v c t g).1 - (cl_asItIs s) 79 4, cl_asItIs s) := by
      unfold cl_pan
      rw [if_pos z.1, if_pos z.2.1, if_pos z.2.2, ← hs]
    have e33 : (cl_asItIs s) 33 = v 33 := by rw [INV.is33, k3 33 (by omega)]
    have ev : ∀ k, 33 ≤ k → k ≤ 66 → (cl_asItIs s) k = v k := fun k a b => by rw [is_r (by omega), k3 k (by omega)]
    rw [ec]
    dsimp only
    obtain ⟨t1, t2, t3⟩ := l_panOf hi.thr (u := v2 (cl_asItIs s) 203 0 0) (c := c) (t := t) (g := g) (by rw [v2_row (by omega), e33]; exact z.1) (by rw [v2_row (by omega), e33]; exact z.2.1) z.2.2
    obtain ⟨c0, c1, c3, c4, cL, c9, c10⟩ := hi.b0
    have em : mo_pan (cl_asItIs s) c t g = ((mo_panOf (v2 (cl_asItIs s) 203 0 0) c t g).1, (mo_panOf (v2 (cl_asItIs s) 203 0 0) c t g).2) := by
      unfold mo_pan
      rw [c0, c1, e33, if_pos z.1, if_pos z.2.1, if_pos z.2.2]
    rw [em]
    refine ⟨?_, t2⟩
    have ep : pN (v2 (cl_asItIs s) 203 0 0) c t g = pN v c t g := by
      unfold pN
      rw [sA_of h hi.thr (fun k a b => by rw [v2_row (by omega), ev k a b])]
    have et : tP (v2 (cl_asItIs s) 203 0 0) = tP s := tP_of (fun k a b => by rw [v2_row (by omega), is_r (by omega)])
    dsimp only
    rw [t1, k1, ep, et, q.ra.n]
  · have ec : cl_pan v c t g = (-2000000, v) := by
      unfold cl_pan
      repeat' split
      all_goals first | rfl | (exfalso; omega)
    rw [ec]
    show (mo_pan v c t g).1 = -2000000 ∧ INV (mo_pan v c t g).2
    have em : mo_pan v c t g = (-2000000, v2 v 203 0 0) := by
      unfold mo_pan
      repeat' split
      all_goals first | rfl | (exfalso; omega)
    rw [em]
    exact ⟨rfl, h.thr⟩
def bS (F : Int → Int) : Nat → Int → Int → Int → Int → Int
  | 0, _, _, _, _ => 0
  | f + 1, n, g, m, j => if j < n then (if m < F j then bS F f n j (F j) (j + 1) else bS F f n g m (j + 1)) else g
theorem boy26 {v : VS} (h : INV v) {t g : Int} (ht : 0 ≤ t ∧ t < v 33 1) (hg : 1 ≤ g ∧ g ≤ 99) : ∀ (f : Nat) (s : VS) (b m j : Int), INV s → (∀ k, k < 67 ∨ (78 < k ∧ k < 91) ∨ 102 < k → s k = v k) → 0 ≤ j → (cl_boy_26 f s t g b m j).1 = bS (fun j => pN v j t g) f (v 33 0) b m j ∧ INV (cl_boy_26 f s t g b m j).2 ∧ (∀ k, k < 67 ∨ (78 < k ∧ k < 91) ∨ 102 < k → (cl_boy_26 f s t g b m j).2 k = v k) := by
  intro f
  induction f with
  | zero => intro s b m j hs e h0; exact ⟨rfl, hs, e⟩
  | succ f ih =>
    intro s b m j hs e h0
    rw [cl_boy_26, bS, e 33 (by omega)]
    by_cases q : j < v 33 0
    · obtain ⟨g1, g2, g3, -⟩ := l_pwp hs (c := j) (t := t) (g := g) (by rw [e 33 (by omega)]; exact ⟨h0, q⟩) (by rw [e 33 (by omega)]; exact ht) hg
      have ep : pN s j t g = pN v j t g := by
        unfold pN
        rw [sA_of h hs (fun k a b => e k (by omega))]
      rw [ep] at g1
      have e' : ∀ k, k < 67 ∨ (78 < k ∧ k < 91) ∨ 102 < k → (cl_playWithPan s j t g).2 k = v k := fun k hk => by rw [g3 k hk, e k hk]
      rw [if_pos q, if_pos q, g1]
      split
      · exact ih _ _ _ _ g2 e' (by omega)
      · exact ih _ _ _ _ g2 e' (by omega)
    · rw [if_neg q, if_neg q]
      exact ⟨rfl, hs, e⟩
theorem boy39 {v : VS} (h : INV v) {t g N : Int} (hN : N = (arun (tP v)).1 0 0) (ht : 0 ≤ t ∧ t < v 33 1) (hg : 1 ≤ g ∧ g ≤ 99) : ∀ (f : Nat) (u : VS) (b m j : Int), INV u → (∀ k, k < 203 → u k = v k) → 0 ≤ j → (mo_boy_39 f u t g b (m - N) j).1 = bS (fun j => pN v j t g) f (v 33 0) b m j ∧ INV (mo_boy_39 f u t g b (m - N) j).2 := by
  intro f
  induction f with
  | zero => intro u b m j hu e h0; exact ⟨rfl, hu⟩
  | succ f ih =>
    intro u b m j hu e h0
    obtain ⟨b0, -⟩ := hu.b0
    rw [mo_boy_39, bS, b0, e 33 (by omega)]
    by_cases q : j < v 33 0
    · obtain ⟨g1, g2, g3⟩ := l_panOf hu (c := j) (t := t) (g := g) (by rw [e 33 (by omega)]; exact ⟨h0, q⟩) (by rw [e 33 (by omega)]; exact ht) hg
      have ep : pN u j t g = pN v j t g := by
        unfold pN
        rw [sA_of h hu (fun k a b => e k (by omega))]
      rw [ep, tP_of (v := v) (v' := u) (fun k a b => e k (by omega)), ← hN] at g1
      have e' : ∀ k, k < 203 → (mo_panOf u j t g).2 k = v k := fun k hk => by rw [g3 k hk, e k hk]
      rw [if_pos q, if_pos q, g1]
      by_cases y : m < pN v j t g
      · rw [if_pos (by omega), if_pos y]
        exact ih _ _ _ _ g2 e' (by omega)
      · rw [if_neg (by omega), if_neg y]
        exact ih _ _ _ _ g2 e' (by omega)
    · rw [if_neg q, if_neg q]
      exact ⟨rfl, hu⟩
theorem bS_n {F : Int → Int} {n : Int} : ∀ (f : Nat) (g m j : Int), n < j + f → bS F (f + 1) n g m j = bS F f n g m j ∨ n < j := by
  intro f
  induction f with
  | zero => intro g m j hf; exact Or.inr (by omega)
  | succ f ih =>
    intro g m j hf
    left
    rw [bS]
    conv => rhs; rw [bS]
    by_cases q : j < n
    · rw [if_pos q, if_pos q]
      split
      · rcases ih j (F j) (j + 1) (by omega) with z | z
        · exact z
        · omega
      · rcases ih g m (j + 1) (by omega) with z | z
        · exact z
        · omega
    · rw [if_neg q, if_neg q]
theorem q_boy {v : VS} (h : INV v) (t g : Int) : (mo_boy (cl_boy v t g).2 t g).1 = (cl_boy v t g).1 ∧ INV (mo_boy (cl_boy v t g).2 t g).2 := by
  have h9 : 0 ≤ v 33 0 ∧ v 33 0 ≤ 9 := h.i.x 33 0
  obtain ⟨b0, b1, b3, b4, bL, b9, b10⟩ := h.b0
  by_cases z : (0 ≤ t ∧ t < v 33 1) ∧ (1 ≤ g ∧ g ≤ 99)
  · have hC := h.pos (by omega)
    obtain ⟨k1, k2, k3⟩ := boy26 h z.1 z.2 10 v 0 (-1) 0 h (fun k _ => rfl) (by omega)
    have ec : cl_boy v t g = ((cl_boy_26 10 v t g 0 (-1) 0).1, (cl_boy_26 10 v t g 0 (-1) 0).2) := by
      unfold cl_boy
      rw [if_pos z.1, if_pos z.2]
    rw [ec]
    dsimp only
    obtain ⟨s, hs⟩ : ∃ s, s = (cl_boy_26 10 v t g 0 (-1) 0).2 := ⟨_, rfl⟩
    rw [← hs] at k2 k3 ⊢
    obtain ⟨c0, c1, c3, c4, cL, c9, c10⟩ := k2.b0
    obtain ⟨t1, t2, t3⟩ := l_panOf k2.thr (u := v2 s 203 0 0) (c := 0) (t := t) (g := g) (by rw [v2_row (by omega), k3 33 (by omega)]; omega) (by rw [v2_row (by omega), k3 33 (by omega)]; exact z.1) z.2
    have ep : ∀ (u : VS), INV u → (∀ k, 33 ≤ k → k ≤ 66 → u k = v k) → ∀ j, pN u j t g = pN v j t g := fun u hu e j => by
      unfold pN
      rw [sA_of h hu e]
    have et : tP (v2 s 203 0 0) = tP s := tP_of (fun k a b => v2_row (by omega))
    rw [ep _ k2.thr (fun k a b => by rw [v2_row (by omega), k3 k (by omega)]) 0, et] at t1
    have em : mo_boy s t g = ((mo_boy_39 10 (mo_panOf (v2 s 203 0 0) 0 t g).2 t g 0 (mo_panOf (v2 s 203 0 0) 0 t g).1 1).1, (mo_boy_39 10 (mo_panOf (v2 s 203 0 0) 0 t g).2 t g 0 (mo_panOf (v2 s 203 0 0) 0 t g).1 1).2) := by
      unfold mo_boy
      rw [c1, k3 33 (by omega), if_pos z.1, if_pos z.2]
    rw [em, t1]
    obtain ⟨u1, u2⟩ := boy39 k2 (t := t) (g := g) (N := (arun (tP s)).1 0 0) rfl (by rw [k3 33 (by omega)]; exact z.1) z.2 10 (mo_panOf (v2 s 203 0 0) 0 t g).2 0 (pN v 0 t g) 1 t2 (fun k hk => by rw [t3 k hk, v2_row (by omega)]) (by omega)
    refine ⟨?_, u2⟩
    have ef : (fun j => pN s j t g) = (fun j => pN v j t g) := by funext j; exact ep s k2 (fun k a b => k3 k (by omega)) j
    obtain ⟨-, -, -, p0⟩ := l_pwp h (c := 0) (t := t) (g := g) (by omega) z.1 z.2
    dsimp only
    rw [u1, k1, ef, k3 33 (by omega)]
    have q : bS (fun j => pN v j t g) 10 (v 33 0) 0 (-1) 0 = bS (fun j => pN v j t g) 9 (v 33 0) 0 (pN v 0 t g) 1 := by
      rw [bS, if_pos (show (0 : Int) < v 33 0 by omega), if_pos (by omega)]
      rfl
    rw [q]
    rcases bS_n (F := fun j => pN v j t g) (n := v 33 0) 9 0 (pN v 0 t g) 1 (by omega) with y | y
    · exact y
    · omega
  · have ec : cl_boy v t g = (-2, v) := by
      unfold cl_boy
      repeat' split
      all_goals first | rfl | (exfalso; omega)
    rw [ec]
    show (mo_boy v t g).1 = -2 ∧ INV (mo_boy v t g).2
    have em : mo_boy v t g = (-2, v2 v 203 0 0) := by
      unfold mo_boy
      repeat' split
      all_goals first | rfl | (exfalso; omega)
    rw [em]
    exact ⟨rfl, h.thr⟩
