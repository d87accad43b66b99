/-! a visit of the class's run -/
theorem xring_r {R : Nat} {v : VS} {s c : Int} {i : Nat} :
    xring R v s c R 4 = v R 4 + 1 ∧
    xring R v s c R 16 = setb (v R 16) c ∧
    xring R v s c R 18 = (if c = v 67 7 ∨ v 67 8 ≤ s ∨ v 67 9 < v R 4 + 1 then 1 else 0) ∧
    xring R v s c R 17 = (if (c = v 67 7 ∨ v 67 8 ≤ s ∨ v 67 9 < v R 4 + 1) ∨ 300 ≤ v R 4 + 1 then 1 else 0) ∧
    xring R v s c (R + 1) i = (if i = (v R 4).toNat then s else v (R + 1) i) ∧
    xring R v s c (R + 2) i = (if i = (v R 4).toNat then c else v (R + 2) i) ∧
    xring R v s c (R + 3) i = (if i = (v R 4).toNat then v 75 (s * 9 + c).toNat else v (R + 3) i) ∧
    xring R v s c (R + 4) i = (if i = (v R 4).toNat then v 76 (s * 9 + c).toNat else v (R + 4) i) ∧
    xring R v s c (R + 5) i = (if i = (v R 4).toNat then v 77 (s * 9 + c).toNat else v (R + 5) i) ∧
    xring R v s c (R + 6) i = v (R + 6) i ∧
    xring R v s c (R + 7) i = v (R + 7) i ∧
    xring R v s c (R + 8) i = v (R + 8) i ∧
    xring R v s c (R + 9) i = v (R + 9) i ∧
    xring R v s c (R + 10) i = (if i = c.toNat then s else v (R + 10) i) ∧
    xring R v s c (R + 11) i = (if i = c.toNat then v 75 (s * 9 + c).toNat else v (R + 11) i) := by
  refine ⟨?_, ?_, ?_, ?_, ?_, ?_, ?_, ?_, ?_, ?_, ?_, ?_, ?_, ?_, ?_⟩ <;> simp [xring, v2_eq]
theorem aring_r {P : VS} {a : SS} {t c i : Nat} {x : Int × Int × Int} :
    (aring P a t c x).1 0 0 = a.1 0 0 + 1 ∧
    (aring P a t c x).1 0 2 = auw P t c (a.1 0 0 + 1) ∧
    (aring P a t c x).1 0 1 = (if auw P t c (a.1 0 0 + 1) = 1 ∨ 300 ≤ a.1 0 0 + 1 then 1 else 0) ∧
    (aring P a t c x).1 1 i = (if i = (a.1 0 0).toNat then (t : Int) else a.1 1 i) ∧
    (aring P a t c x).1 2 i = (if i = (a.1 0 0).toNat then (c : Int) else a.1 2 i) ∧
    (aring P a t c x).1 3 i = (if i = (a.1 0 0).toNat then x.1 else a.1 3 i) ∧
    (aring P a t c x).1 4 i = (if i = (a.1 0 0).toNat then x.2.1 else a.1 4 i) ∧
    (aring P a t c x).1 5 i = (if i = (a.1 0 0).toNat then x.2.2 else a.1 5 i) ∧
    (aring P a t c x).1 6 i = a.1 6 i ∧
    (aring P a t c x).1 7 i = a.1 7 i ∧
    (aring P a t c x).1 8 i = a.1 8 i ∧
    (aring P a t c x).1 9 i = a.1 9 i ∧
    (aring P a t c x).1 10 i = (if i = c then (t : Int) else a.1 10 i) ∧
    (aring P a t c x).1 11 i = (if i = c then x.1 else a.1 11 i) ∧
    (aring P a t c x).1 12 i = (if i = c then 1 else a.1 12 i) := by
  refine ⟨?_, ?_, ?_, ?_, ?_, ?_, ?_, ?_, ?_, ?_, ?_, ?_, ?_, ?_, ?_⟩ <;> simp [aring, v2_eq]
theorem RR.ring {R : Nat} {P : VS} {a : SS} {v : VS} (h : RR R P a v) (hR : R = 79 ∨ R = 91) {t c : Nat} {x : Int × Int × Int} (hn : a.1 0 0 < 300) (ht : t < 300) (hc : (c : Int) < P 0 0) (h1 : v 75 (t * 9 + c) = x.1) (h2 : v 76 (t * 9 + c) = x.2.1) (h3 : v 77 (t * 9 + c) = x.2.2) : RR R P (aring P a t c x) (xring R v t c) := by
  have hb := h.bds
  have hnb := h.nb hR
  have k9 : ((t : Int) * 9 + (c : Int)).toNat = t * 9 + c := by omega
  have h16 : 0 ≤ v R 16 ∧ v R 16 ≤ 511 := by
    rcases hR with rfl | rfl
    · exact h.X 79 16
    · exact h.X 91 16
  have en := h.A.n
  have huw : (if (c : Int) = v 67 7 ∨ v 67 8 ≤ (t : Int) ∨ v 67 9 < v R 4 + 1 then (1 : Int) else 0) = auw P t c (a.1 0 0 + 1) := by
    unfold auw
    rw [h.P.stC, h.P.stF, h.P.stM, en]
  refine ⟨?_, h.P.of (fun k hk => xring_row (by omega)), ?_, h.D.of (fun k h1 h2 => xring_row (by omega)) rfl⟩
  · rcases hR with rfl | rfl
    · exact XI_ring79 h.X (by omega) (by omega) (by omega)
    · exact XI_ring91 h.X (by omega) (by omega) (by omega)
  · refine ⟨?_, ?_, ?_, ?_, ?_, ?_, ?_, ?_⟩
    · rw [(xring_r (i := 0)).1, (aring_r (i := 0)).1, en]
    · rw [(xring_r (i := 0)).2.2.2.1, (aring_r (i := 0)).2.2.1, ← huw, en]
      split
      · rename_i q
        rw [if_pos]
        rcases q with q | q
        · left; rw [if_pos q]
        · right; exact q
      · rename_i q
        rw [if_neg]
        intro g
        rcases g with g | g
        · split at g
          · rename_i g2; exact q (Or.inl g2)
          · omega
        · exact q (Or.inr g)
    · rw [(xring_r (i := 0)).2.2.1, (aring_r (i := 0)).2.1, huw]
    · intro k i k1 k2 hi
      rw [(aring_r (i := 0)).1] at hi
      have hk : k = 1 ∨ k = 2 ∨ k = 3 ∨ k = 4 ∨ k = 5 := by omega
      obtain ⟨-, -, -, -, x1, x2, x3, x4, x5, -⟩ := xring_r (R := R) (v := v) (s := (t : Int)) (c := (c : Int)) (i := i)
      obtain ⟨-, -, -, a1, a2, a3, a4, a5, -⟩ := aring_r (P := P) (a := a) (t := t) (c := c) (i := i) (x := x)
      by_cases q : i = (v R 4).toNat
      · rcases hk with rfl | rfl | rfl | rfl | rfl
        · rw [x1, a1, if_pos q, if_pos (by omega)]
        · rw [x2, a2, if_pos q, if_pos (by omega)]
        · rw [x3, a3, if_pos q, if_pos (by omega), k9, h1]
        · rw [x4, a4, if_pos q, if_pos (by omega), k9, h2]
        · rw [x5, a5, if_pos q, if_pos (by omega), k9, h3]
      · rcases hk with rfl | rfl | rfl | rfl | rfl
        · rw [x1, a1, if_neg q, if_neg (by omega)]; exact h.st (by omega) (by omega)
        · rw [x2, a2, if_neg q, if_neg (by omega)]; exact h.st (by omega) (by omega)
        · rw [x3, a3, if_neg q, if_neg (by omega)]; exact h.st (by omega) (by omega)
        · rw [x4, a4, if_neg q, if_neg (by omega)]; exact h.st (by omega) (by omega)
        · rw [x5, a5, if_neg q, if_neg (by omega)]; exact h.st (by omega) (by omega)
    · intro j hj
      rw [(xring_r (i := j)).2.2.2.2.2.2.2.2.2.1, (aring_r (i := j)).2.2.2.2.2.2.2.2.1]
      exact h.A.lo j hj
    · intro k e k1 k2 he
      obtain ⟨-, -, -, -, -, -, -, -, -, -, x7, x8, x9, -⟩ := xring_r (R := R) (v := v) (s := (t : Int)) (c := (c : Int)) (i := e)
      obtain ⟨-, -, -, -, -, -, -, -, -, a7, a8, a9, -⟩ := aring_r (P := P) (a := a) (t := t) (c := c) (i := e) (x := x)
      have hk : k = 7 ∨ k = 8 ∨ k = 9 := by omega
      rcases hk with rfl | rfl | rfl
      · rw [x7, a7]; exact h.A.pe 7 e (by omega) (by omega) he
      · rw [x8, a8]; exact h.A.pe 8 e (by omega) (by omega) he
      · rw [x9, a9]; exact h.A.pe 9 e (by omega) (by omega) he
    · intro c' hc'
      rw [(xring_r (i := 0)).2.1, (aring_r (i := c')).2.2.2.2.2.2.2.2.2.2.2.2.2.2, bt_setb (by omega) (by omega), h.A.sk c' hc']
      by_cases q : c = c'
      · rw [if_pos q, if_pos q.symm]
      · rw [if_neg q, if_neg (fun g => q g.symm)]
    · intro k c' k1 k2 hc' hs
      rw [(aring_r (i := c')).2.2.2.2.2.2.2.2.2.2.2.2.2.2] at hs
      obtain ⟨-, -, -, -, -, -, -, -, -, -, -, -, -, x10, x11⟩ := xring_r (R := R) (v := v) (s := (t : Int)) (c := (c : Int)) (i := c')
      obtain ⟨-, -, -, -, -, -, -, -, -, -, -, -, a10, a11, -⟩ := aring_r (P := P) (a := a) (t := t) (c := c) (i := c') (x := x)
      have hk : k = 10 ∨ k = 11 := by omega
      by_cases q : c' = c
      · rcases hk with rfl | rfl
        · rw [x10, a10, if_pos (by omega), if_pos q]
        · rw [x11, a11, if_pos (by omega), if_pos q, k9, h1]
      · rw [if_neg q] at hs
        rcases hk with rfl | rfl
        · rw [x10, a10, if_neg (by omega), if_neg q]; exact h.A.la 10 c' (by omega) (by omega) hc' hs
        · rw [x11, a11, if_neg (by omega), if_neg q]; exact h.A.la 11 c' (by omega) (by omega) hc' hs
theorem RR.los2 {R : Nat} {P : VS} {a : SS} {v : VS} (h : RR R P a v) (hR : R = 79 ∨ R = 91) {j : Nat} {x y : Int} (hj : j < 8) (hxy : x = y) : RR R P (v2 a.1 6 j y, a.2) (v2 v (R + 6) j x) := by
  have hx : inn (bd (R + 6) j) x := by
    have : bd (R + 6) j = none := by
      rcases hR with rfl | rfl <;> rfl
    rw [this]
    exact trivial
  exact ⟨XI.put h.X hx, h.P.of (fun k' hk' => v2_row (by omega)), h.A.cnt (by omega) hxy, h.D.of (fun k' h1 h2 => v2_row (by omega)) rfl⟩
theorem RR.lose {R : Nat} {P : VS} {a : SS} {v : VS} (h : RR R P a v) (hR : R = 79 ∨ R = 91) {j r : Nat} {x : Int} (hj : j < 7) (hx : x = r) : RR R P (alose a r j) (v2 (v2 v (R + 6) 7 (v (R + 6) 7 + x)) (R + 6) j (v (R + 6) j + 1)) := by
  have e1 := h.A.lo 7 (by omega)
  have e2 := h.A.lo j (by omega)
  have h1 := h.los2 hR (j := 7) (x := v (R + 6) 7 + x) (y := a.1 6 7 + r) (by omega) (by omega)
  exact h1.los2 hR (j := j) (by omega) (by omega)
theorem RR.vis {R : Nat} {P : VS} {a : SS} {v : VS} (h : RR R P a v) (hR : R = 79 ∨ R = 91) {t c : Nat} (hn : a.1 0 0 < 300) (ht : t < 300) (hc : (c : Int) < P 0 0) : RR R P (avis P a t c) (xin R v t c) := by
  have hb := h.bds
  have hnb := h.nb hR
  have k9 : ((t : Int) * 9 + (c : Int)).toNat = t * 9 + c := by omega
  unfold avis xin
  split
  · rename_i hl
    rw [toN, if_neg (by rw [h.D.d0 t c ht (by omega) hl]; omega)]
    exact h
  · rename_i x r hl
    obtain ⟨b1, b2, b3, b4, b5⟩ := h.D.d1 t c ht (by omega) x r hl
    rw [toN, if_pos b1]
    have e1 := h.P.mu c hc
    have e2 := h.A.sk c (by omega)
    have e3 := h.P.norest
    have e4 := h.P.rest c hc
    have e5 := h.P.proud c hc
    have hla : a.1 12 c = 1 → v (R + 10) c = a.1 10 c ∧ v (R + 11) c = a.1 11 c := fun q => ⟨h.A.la 10 c (by omega) (by omega) (by omega) q, h.A.la 11 c (by omega) (by omega) (by omega) q⟩
    have hnR : v R 4 < 300 := by rw [h.A.n]; exact hn
    unfold avisL xstr
    rw [k9, toN, ← e1, e2, b2, b5]
    by_cases q1 : P 6 c = 1
    · simp only [if_pos q1, if_true]
      exact h.lose hR (by omega) rfl
    · simp only [if_neg q1]
      by_cases q2 : a.1 12 c = 1 ∧ P 0 4 = 0 ∧ (t : Int) - a.1 10 c ≤ P 4 c
      · rw [if_pos q2]
        have q3 : a.1 12 c = 1 ∧ v 67 4 ≠ 4 ∧ (t : Int) - v (R + 10) c ≤ v 36 c := ⟨q2.1, e3.mp q2.2.1, by rw [(hla q2.1).1, e4]; exact q2.2.2⟩
        simp only [if_pos q3, if_true]
        exact h.lose hR (by omega) rfl
      · rw [if_neg q2]
        have q3 : ¬ (a.1 12 c = 1 ∧ v 67 4 ≠ 4 ∧ (t : Int) - v (R + 10) c ≤ v 36 c) := fun g => q2 ⟨g.1, e3.mpr g.2.1, by rw [← (hla g.1).1, ← e4]; exact g.2.2⟩
        simp only [if_neg q3]
        by_cases q4 : a.1 12 c = 1 ∧ P 5 c = 1 ∧ (abest x r).1 ≤ a.1 11 c
        · rw [if_pos q4]
          have q5 : a.1 12 c = 1 ∧ (v 34 c = 1 ∧ v 67 4 ≠ 5) ∧ (abest x r).1 ≤ v (R + 11) c := ⟨q4.1, e5.mp q4.2.1, by rw [(hla q4.1).2]; exact q4.2.2⟩
          simp only [if_pos q5, if_true]
          exact h.lose hR (by omega) rfl
        · rw [if_neg q4]
          have q5 : ¬ (a.1 12 c = 1 ∧ (v 34 c = 1 ∧ v 67 4 ≠ 5) ∧ (abest x r).1 ≤ v (R + 11) c) := fun g => q4 ⟨g.1, e5.mpr g.2.1, by rw [← (hla g.1).2]; exact g.2.2⟩
          simp only [if_neg q5, if_pos hnR]
          rw [if_neg (show ¬ (1 : Int) = 0 by decide)]
          clear q1 q2 q3 q4 q5 e3 e5 hla
          have h1 := h.los2 hR (j := 7) (x := v (R + 6) 7 + (r.length : Int)) (y := a.1 6 7 + r.length) (by omega) (by rw [h.A.lo 7 (by omega)])
          have ha0 : ((v2 a.1 6 7 (a.1 6 7 + (r.length : Int)), a.2) : SS).1 0 = a.1 0 := by
            show v2 a.1 6 7 (a.1 6 7 + (r.length : Int)) 0 = a.1 0
            rw [v2_row (by omega)]
          obtain ⟨w, hw⟩ : ∃ w, w = v2 v (R + 6) 7 (v (R + 6) 7 + (r.length : Int)) := ⟨_, rfl⟩
          have f75 : w 75 = v 75 := by rw [hw]; exact v2_row (by omega)
          have f76 : w 76 = v 76 := by rw [hw]; exact v2_row (by omega)
          have f77 : w 77 = v 77 := by rw [hw]; exact v2_row (by omega)
          have fR : w R = v R := by rw [hw]; exact v2_row (by omega)
          rw [← hw] at h1 ⊢
          have h2 := h1.ring hR (t := t) (c := c) (x := abest x r) (by rw [ha0]; exact hn) ht hc (by rw [f75]; exact b2) (by rw [f76]; exact b3) (by rw [f77]; exact b4)
          have h3 := h2.go hR (i := (a.1 0 0).toNat) (by rw [(aring_r (i := 0)).1, ha0]; omega)
          have e6 : xring R w t c R 4 - 1 = (((a.1 0 0).toNat : Nat) : Int) := by
            rw [(xring_r (i := 0)).1, fR, h.A.n]
            omega
          rw [e6]
          exact h3
