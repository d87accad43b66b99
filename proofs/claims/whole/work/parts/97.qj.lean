
/-! drawn winds -/
def drx (y : Int) : Nat → Int
  | 0 => y
  | k + 1 => (1103515245 * drx y k + 12345) % 2147483648
def drv (n y : Int) (i : Nat) : Int := drx y (i + 1) / 65536 % (2 * n + 1) - n
theorem draw6 {n s y : Int} : ∀ (f i : Nat) (v : VS), 10 < i + f → ∀ j : Nat, (cl_draw_6 f v n s (drx y i) i) 72 j = if i ≤ j ∧ j < 10 ∧ (j : Int) * 30 < s then drv n y j else v 72 j := by
  intro f
  induction f with
  | zero => intro i v hf j; rw [cl_draw_6, if_neg (by omega)]
  | succ f ih =>
    intro i v hf j
    have e1 : (1103515245 * drx y i + 12345) % 2147483648 = drx y (i + 1) := rfl
    rw [cl_draw_6, e1, show ((i : Int) + 1) = ((i + 1 : Nat) : Int) by omega, toN]
    by_cases q : (i : Int) < 10
    · by_cases q2 : (i : Int) * 30 < s
      · rw [if_pos q, if_pos q2, ih (i + 1) _ (by omega) j, v2_eq]
        by_cases z : i + 1 ≤ j ∧ j < 10 ∧ (j : Int) * 30 < s
        · rw [if_pos z, if_pos ⟨by omega, z.2⟩]
        · rw [if_neg z]
          by_cases y2 : j = i
          · rw [if_pos ⟨rfl, y2⟩, if_pos ⟨by omega, by omega, by rw [y2]; exact q2⟩, y2]
            rfl
          · rw [if_neg (fun x => y2 x.2), if_neg (fun x => z ⟨by omega, x.2⟩)]
      · rw [if_pos q, if_neg q2, if_neg (by omega)]
    · rw [if_neg q, if_neg (by omega)]
theorem lw127 {y : Int} : ∀ (f t : Nat) (v : VS) (n : Int), v 203 29 = drx y ((t + 29) / 30) → (t % 30 ≠ 0 → n = drv (v 203 28) y (t / 30)) → v 210 1 < t + f → ∀ j : Nat, (mo_laysWinds_127 f v n t) 219 j = if t ≤ j ∧ (j : Int) < v 210 1 then v 219 j + drv (v 203 28) y (j / 30) else v 219 j := by
  intro f
  induction f with
  | zero => intro t v n h1 h2 hf j; rw [mo_laysWinds_127, if_neg (by omega)]
  | succ f ih =>
    intro t v n h1 h2 hf j
    rw [mo_laysWinds_127, h1, show ((t : Int) + 1) = ((t + 1 : Nat) : Int) by omega, toN]
    by_cases q : (t : Int) < v 210 1
    · rw [if_pos q]
      by_cases q2 : (t : Int) % 30 = 0
      · have e1 : (1103515245 * drx y ((t + 29) / 30) + 12345) % 2147483648 = drx y ((t + 1 + 29) / 30) := by
          rw [show (t + 1 + 29) / 30 = (t + 29) / 30 + 1 by omega]
          rfl
        rw [if_pos q2, e1]
        obtain ⟨w, hw⟩ : ∃ w, w = v2 (v2 v 203 29 (drx y ((t + 1 + 29) / 30))) 219 t (v 219 t + (drx y ((t + 1 + 29) / 30) / 65536 % (2 * v 203 28 + 1) - v 203 28)) := ⟨_, rfl⟩
        have e2 : drx y ((t + 1 + 29) / 30) / 65536 % (2 * v 203 28 + 1) - v 203 28 = drv (v 203 28) y (t / 30) := by
          unfold drv
          rw [show (t + 1 + 29) / 30 = t / 30 + 1 by omega]
        have w28 : w 203 28 = v 203 28 := by rw [hw, v2_row (by omega), v2_eq, if_neg (by omega)]
        have w29 : w 203 29 = drx y ((t + 1 + 29) / 30) := by rw [hw, v2_row (by omega), v2_eq, if_pos ⟨rfl, rfl⟩]
        have w1 : w 210 = v 210 := by rw [hw, v2_row (by omega), v2_row (by omega)]
        have w9 : ∀ i, w 219 i = if i = t then v 219 t + drv (v 203 28) y (t / 30) else v 219 i := fun i => by
          rw [hw, v2_eq, e2]
          by_cases z : i = t
          · rw [if_pos ⟨rfl, z⟩, if_pos z]
          · rw [if_neg (fun x => z x.2), if_neg z, v2_row (by omega)]
        rw [← hw, e2]
        have r := ih (t + 1) w (drv (v 203 28) y (t / 30)) w29 (fun _ => by rw [w28, show (t + 1) / 30 = t / 30 by omega]) (by rw [w1]; omega) j
        rw [r, w1, w28, w9]
        by_cases z : j = t
        · rw [if_neg (by omega), if_pos z, if_pos (by omega), z]
        · rw [if_neg z]
          by_cases z2 : t ≤ j ∧ (j : Int) < v 210 1
          · rw [if_pos (by omega), if_pos z2]
          · rw [if_neg (by omega), if_neg z2]
      · rw [if_neg q2]
        have e2 := h2 (by omega)
        obtain ⟨w, hw⟩ : ∃ w, w = v2 v 219 t (v 219 t + n) := ⟨_, rfl⟩
        have wk : ∀ k, k ≠ 219 → w k = v k := fun k hk => by rw [hw, v2_row hk]
        have w9 : ∀ i, w 219 i = if i = t then v 219 t + drv (v 203 28) y (t / 30) else v 219 i := fun i => by
          rw [hw, v2_eq, e2]
          by_cases z : i = t
          · rw [if_pos ⟨rfl, z⟩, if_pos z]
          · rw [if_neg (fun x => z x.2), if_neg z]
        rw [← hw]
        have r := ih (t + 1) w n (by rw [wk 203 (by omega), h1, show (t + 29) / 30 = (t + 1 + 29) / 30 by omega]) (fun _ => by rw [wk 203 (by omega), e2]; congr 1; omega) (by rw [wk 210 (by omega)]; omega) j
        rw [r, wk 210 (by omega), wk 203 (by omega), w9]
        by_cases z : j = t
        · rw [if_neg (by omega), if_pos z, if_pos (by omega), z]
        · rw [if_neg z]
          by_cases z2 : t ≤ j ∧ (j : Int) < v 210 1
          · rw [if_pos (by omega), if_pos z2]
          · rw [if_neg (by omega), if_neg z2]
    · rw [if_neg q, if_neg (by omega)]
theorem lwB {u : VS} (hX : XI u) (hb : ∃ w : Nat → Int, BQ 33 0 (fset u 213 w)) (ha : AIR u) (t : Nat) (ht : (t : Int) < u 33 1) : (mo_laysWinds_2 301 u 0) 219 t = u 203 27 + (if u 203 34 = 3 then 0 else u 63 t) := by
  obtain ⟨bw, hb⟩ := hb
  have hS : 0 ≤ u 33 1 ∧ u 33 1 ≤ 300 := hX 33 1
  have bS : u 33 1 = u 210 1 := hb.S
  have hW : 0 ≤ u 46 0 ∧ u 46 0 ≤ 6 := hX 46 0
  have bW : u 46 0 = u 210 5 := hb.W
  obtain ⟨-, q⟩ := lw2 301 0 u (by omega) (by omega) (by omega)
  obtain ⟨g, g1, g2⟩ := q t (by omega) (by omega)
  obtain ⟨g', g3, g4⟩ := ha.w t ht
  have hwi : ∀ i : Nat, (i : Int) < u 46 0 → u 47 i = u 214 (2 * i + 1) ∧ u 48 i = u 214 (2 * i) := by
    intro i hi
    have q := hb.wi i hi
    simp only [Nat.mul_zero, Nat.zero_add] at q
    exact q
  have g5 : WB (u 46 0) (u 48) t g := by
    rw [bW]
    exact g1.of (fun k hk => (hwi k (by omega)).2)
  have eg : g' = g := g3.uniq g5
  subst eg
  have r := g5.r
  rw [show ((0 : Nat) : Int) = 0 from rfl] at g2
  rw [g2, g4]
  by_cases z : g' = -1
  · rw [if_pos (Or.inl z), if_pos z]
    split <;> rfl
  · rw [if_neg z]
    by_cases y : u 203 34 = 3
    · rw [if_pos (Or.inr y), if_pos y]
    · rw [if_neg (fun w => w.elim z y), if_neg y, (hwi g'.toNat (by omega)).1]
theorem wiD {s u : VS} {n y : Int} (hX : XI u) (hb : ∃ w : Nat → Int, BQ 33 0 (fset u 213 w)) (ha : AIR u) (e63 : s 63 = u 63) (hl : s 67 4 = u 203 34) (h28 : u 203 28 = n) (hn : 0 ≤ n) (h29 : u 203 29 = y) (h27 : u 203 27 = 0) (h72 : ∀ j : Nat, j < 10 → (j : Int) * 30 < u 33 1 → s 72 j = drv n y j) : ∀ t : Nat, (t : Int) < u 33 1 → (mo_laysWinds u) 219 t = xwind s t := by
  intro t ht
  have r := lwB hX hb ha t ht
  have hS : 0 ≤ u 33 1 ∧ u 33 1 ≤ 300 := hX 33 1
  obtain ⟨bw, hb⟩ := hb
  have bS : u 33 1 = u 210 1 := hb.S
  have e28 : ∀ j, (mo_laysWinds_2 301 u 0) 203 j = u 203 j := fun j => by rw [o_mo_laysWinds_2 (by omega)]
  have e210 : (mo_laysWinds_2 301 u 0) 210 = u 210 := by rw [o_mo_laysWinds_2 (by omega)]
  unfold mo_laysWinds
  rw [e28, h28, if_neg (by omega)]
  have k := lw127 (y := y) 301 0 (mo_laysWinds_2 301 u 0) 0 (by rw [e28, h29]; rfl) (fun z => by omega) (by rw [e210]; omega) t
  rw [show ((0 : Nat) : Int) = 0 from rfl, e210, e28, h28, if_pos ⟨by omega, by omega⟩, r, h27] at k
  rw [k]
  unfold xwind
  rw [show ((t : Int) / 30).toNat = t / 30 by omega, h72 (t / 30) (by omega) (by omega), hl, toN, e63]
  omega
def sD (v : VS) (y n : Int) : VS := cl_draw (cl_asTold v) y n ((cl_asTold v) 33 1)
theorem sD_r (v : VS) (y n : Int) : (∀ k, k ≠ 72 → (sD v y n) k = (cl_asTold v) k) ∧ (∀ j : Nat, j < 10 → (sD v y n) 72 j = if (j : Int) * 30 < v 33 1 then drv n y j else 0) := by
  unfold sD
  refine ⟨fun k hk => o_cl_draw (by omega), fun j hj => ?_⟩
  have q := draw6 (n := n) (s := v 33 1) (y := y) 11 0 (cl_asTold v) (by omega) j
  unfold cl_draw
  rw [o_cl_asTold (by omega)]
  rw [show ((0 : Nat) : Int) = 0 from rfl] at q
  rw [show drx y 0 = y from rfl] at q
  rw [q, asTold_72 v j hj]
  by_cases z : (j : Int) * 30 < v 33 1
  · rw [if_pos z, if_pos ⟨by omega, hj, z⟩]
  · rw [if_neg z, if_neg (fun x => z x.2.2)]
theorem sD_of {v v' : VS} {y n : Int} (e : ∀ k, 33 ≤ k → k ≤ 66 → v' k = v k) : cP (sD v' y n) = cP (sD v y n) := by
  obtain ⟨r1, r2⟩ := sD_r v y n
  obtain ⟨q1, q2⟩ := sD_r v' y n
  obtain ⟨a0, a1, a4, a5, a6, a7, a8, a9, a68⟩ := asTold_r v
  obtain ⟨b0, b1, b4, b5, b6, b7, b8, b9, b68⟩ := asTold_r v'
  have e33 := e 33 (by omega) (by omega)
  refine cP_of2 (fun k k1 k2 => by rw [r1 k (by omega), q1 k (by omega), o_cl_asTold (by omega), o_cl_asTold (by omega)]; exact e k (by omega) (by omega)) (by rw [r1 67 (by omega), q1 67 (by omega), a0, b0, e33]) (by rw [r1 67 (by omega), q1 67 (by omega), a1, b1, e33]) (by rw [r1 67 (by omega), q1 67 (by omega), a4, b4]) (by rw [r1 67 (by omega), q1 67 (by omega), a5, b5]) (by rw [r1 67 (by omega), q1 67 (by omega), a6, b6, e33]) (by rw [r1 67 (by omega), q1 67 (by omega), a7, b7]) (by rw [r1 67 (by omega), q1 67 (by omega), a8, b8]) (by rw [r1 67 (by omega), q1 67 (by omega), a9, b9]) (by rw [r1 68 (by omega), q1 68 (by omega), a68, b68, e 42 (by omega) (by omega)]) (fun i hi => ?_) (fun i hi => by rw [r2 i hi, q2 i hi, e33])
  obtain ⟨x1, x2, x3⟩ := asTold_s v i hi
  obtain ⟨y1, y2, y3⟩ := asTold_s v' i hi
  rw [r1 69 (by omega), r1 70 (by omega), r1 71 (by omega), q1 69 (by omega), q1 70 (by omega), q1 71 (by omega), x1, x2, x3, y1, y2, y3, e 43 (by omega) (by omega), e 44 (by omega) (by omega), e 45 (by omega) (by omega)]
  exact ⟨rfl, rfl, rfl⟩
theorem sD_sg {v : VS} (h : INV v) {y n : Int} (hy : 0 ≤ y ∧ y ≤ 2000000019) (hn : 0 ≤ n ∧ n ≤ 20) : SG (sD v y n) ∧ pln (cP (sD v y n)) = cP (sD v y n) := by
  obtain ⟨r1, r2⟩ := sD_r v y n
  obtain ⟨a0, a1, a4, a5, a6, a7, a8, a9, a68⟩ := asTold_r v
  have e33 : (cl_asTold v) 33 = v 33 := o_cl_asTold (by omega)
  have sg := h.i.sg
  have hS : 0 ≤ v 33 1 ∧ v 33 1 ≤ 300 := h.i.x 33 1
  have hx : XI (sD v y n) := by
    unfold sD
    exact i_cl_draw sg.x (by omega) hn (by rw [e33]; exact hS)
  refine ⟨sg.mod hx (fun k a b => r1 k (by omega)) (fun k a b => r1 k (by omega)) (by rw [r1 67 (by omega)]), pln_cP ?_ ?_ ?_ ?_⟩
  · rw [r1 67 (by omega), r1 33 (by omega), a6, e33]
  · rw [r1 67 (by omega), a7]
  · rw [r1 67 (by omega), a8]
  · rw [r1 67 (by omega), a9]
theorem l_pd {v : VS} (h : INV v) {y n : Int} (hy : 0 ≤ y ∧ y ≤ 2000000019) (hn : 0 ≤ n ∧ n ≤ 20) : INV (cl_playDrawn v y n) ∧ RA 91 (arun (cP (sD v y n))) (cl_playDrawn v y n) ∧ (∀ k, k < 67 ∨ (78 < k ∧ k < 91) ∨ 102 < k → (cl_playDrawn v y n) k = v k) := by
  obtain ⟨sg, -⟩ := sD_sg h hy hn
  obtain ⟨r1, r2⟩ := sD_r v y n
  exact h.play (p := sD v y n) (fun k hk => by rw [r1 k (by omega), o_cl_asTold (by omega)]) sg
theorem l_dr {u : VS} (h : INV u) {y n : Int} (hy : 0 ≤ y ∧ y ≤ 2000000019) (hn : 0 ≤ n ∧ n ≤ 20) : INV (mo_draws u y n) ∧ RM (arun (cP (sD u y n))) (mo_draws u y n) ∧ (∀ k, k < 203 ∨ (203 < k ∧ k < 219) → (mo_draws u y n) k = u k) := by
  obtain ⟨sg, pl⟩ := sD_sg h hy hn
  obtain ⟨r1, r2⟩ := sD_r u y n
  obtain ⟨a0, a1, a4, a5, a6, a7, a8, a9, a68⟩ := asTold_r u
  obtain ⟨b0, b1, b3, b4, bL, b9, b10⟩ := h.b0
  have hS : 0 ≤ u 33 1 ∧ u 33 1 ≤ 300 := h.i.x 33 1
  have h4 : 0 ≤ u 42 0 ∧ u 42 0 ≤ 4 := h.i.x 42 0
  obtain ⟨p27, p28, p30, p31, p32, p33, p34, p35⟩ := plainly_r u
  obtain ⟨z, hz⟩ : ∃ z, z = v2 (v2 (mo_plainly u) 203 28 n) 203 29 y := ⟨_, rfl⟩
  have zx : XI z := by
    rw [hz]
    exact XI.put (k := 203) (j := 29) (XI.put (k := 203) (j := 28) (i_mo_plainly h.i.x) (show -1 ≤ n ∧ n ≤ 20 by omega)) (show 0 ≤ y ∧ y ≤ 4294967296 by omega)
  have zf : ∀ j, j ≠ 28 → j ≠ 29 → z 203 j = (mo_plainly u) 203 j := fun j a b => by rw [hz, v2_eq, if_neg (fun g => b g.2), v2_eq, if_neg (fun g => a g.2)]
  have z28 : z 203 28 = n := by rw [hz, v2_eq, if_neg (by omega), v2_eq, if_pos ⟨rfl, rfl⟩]
  have z29 : z 203 29 = y := by rw [hz, v2_eq, if_pos ⟨rfl, rfl⟩]
  have zk : ∀ k, k ≠ 203 → z k = u k := fun k hk => by rw [hz, v2_row hk, v2_row hk, o_mo_plainly (by omega)]
  have e33 : (cl_asTold u) 33 = u 33 := o_cl_asTold (by omega)
  have br : BR (sD u y n) z := by
    refine BR.gen h zx (fun k a b => by rw [r1 k (by omega), o_cl_asTold (by omega)]) (fun k a b d => zk k a) ?_ ?_ ?_ ?_ ?_ ?_ (fun k hk => ?_) (fun hb ha => ?_)
    · rw [r1 67 (by omega), a0, zf 30 (by omega) (by omega), p30, b9]; exact fun _ _ => rfl
    · rw [r1 67 (by omega), a1, zf 31 (by omega) (by omega), p31, b10]; exact fun _ _ => rfl
    · rw [r1 67 (by omega), a4, zf 34 (by omega) (by omega), p34]
    · rw [r1 67 (by omega), a5, zf 35 (by omega) (by omega), p35]
    · rw [zf 33 (by omega) (by omega), zf 32 (by omega) (by omega), p32, p33, r1 68 (by omega), a68, b4]; omega
    · rw [zf 32 (by omega) (by omega), p32]; exact Int.le_refl _
    · rw [r1 68 (by omega), a68] at hk
      rw [zf 32 (by omega) (by omega), p32, show (0 : Int).toNat + k = k by omega, zk 213 (by omega), r1 69 (by omega), r1 70 (by omega), r1 71 (by omega)]
      obtain ⟨x1, x2, x3⟩ := asTold_s u k (by omega)
      obtain ⟨-, -, hst⟩ := h.che
      obtain ⟨w1, w2, w3⟩ := hst k (by omega)
      rw [x1, x2, x3, w1, w2, w3]
      exact ⟨rfl, rfl, rfl⟩
    · exact wiD zx hb ha (by rw [r1 63 (by omega), o_cl_asTold (by omega), zk 63 (by omega)]) (by rw [r1 67 (by omega), a4, zf 34 (by omega) (by omega), p34]) z28 hn.1 z29 (by rw [zf 27 (by omega) (by omega), p27]) (fun j hj hj2 => by rw [zk 33 (by omega)] at hj2; rw [r2 j hj, if_pos hj2])
  have rm := br.run sg
  rw [pl] at rm
  have zc : CF z := h.i.c.of (fun k a b => zk k (by omega))
  have hr : INV (mo_run z) := h.run zx zc (fun k hk => zk k (by omega)) (fun j hj => by rw [zf j (by omega) (by omega), plainly_f (by omega)])
  have em : mo_draws u y n = v2 (mo_run z) 203 28 (-1) := by
    unfold mo_draws
    rw [hz]
  rw [em]
  refine ⟨hr.fld (by omega) (show -1 ≤ (-1 : Int) ∧ (-1 : Int) ≤ 20 by omega), rm.of (fun k a b d => v2_row (by omega)) (by rw [v2_eq, if_neg (by omega)]) rfl, fun k hk => ?_⟩
  rw [v2_row (by omega), o_mo_run (by omega), zk k (by omega)]
theorem bt_ext {x y : Int} (hx : 0 ≤ x ∧ x ≤ 511) (hy : 0 ≤ y ∧ y ≤ 511) (h : ∀ c : Nat, c < 9 → bt x c = bt y c) : x = y := by
  obtain ⟨a, rfl⟩ : ∃ a : Nat, x = a := ⟨x.toNat, by omega⟩
  obtain ⟨b, rfl⟩ : ∃ b : Nat, y = b := ⟨y.toNat, by omega⟩
  have : a = b := by
    apply Nat.eq_of_testBit_eq
    intro i
    by_cases q : i < 9
    · have := h i q
      rw [bt_test, bt_test] at this
      by_cases q1 : a.testBit i = true <;> by_cases q2 : b.testBit i = true <;> simp_all
    · have p : 2 ^ 9 ≤ 2 ^ i := Nat.pow_le_pow_right (by omega) (by omega)
      rw [Nat.testBit_lt_two_pow (show a < 2 ^ i by omega), Nat.testBit_lt_two_pow (show b < 2 ^ i by omega)]
  rw [this]
theorem drawn79 {A : SS} {u P : VS} {T D : Nat} (h : RM A u) (hA : AW P T D A) {C : Nat} (hC : u 210 0 = C) (h9 : C ≤ 9) : ∀ (f j : Nat) (g : Int), j ≤ C → C < j + f → 0 ≤ g ∧ g ≤ 511 → (∀ c : Nat, c < 9 → bt g c = if c < j then A.1 12 c else 0) → (0 ≤ mo_drawn_79 f u g j ∧ mo_drawn_79 f u g j ≤ 511) ∧ ∀ c : Nat, c < 9 → bt (mo_drawn_79 f u g j) c = if c < C then A.1 12 c else 0 := by
  intro f
  induction f with
  | zero => intro j g h1 h2; omega
  | succ f ih =>
    intro j g h1 h2 hg hb
    rw [mo_drawn_79, hC, show ((j : Int) + 1) = ((j + 1 : Nat) : Int) by omega, toN]
    by_cases q : (j : Int) < C
    · rw [if_pos q, (h.la j (by omega)).2.2.2]
      obtain ⟨z1, z2⟩ := acnt_0 (f := A.1 2) (c := (j : Int)) (A.1 0 0).toNat
      have hm := hA.m13 j
      rcases hA.b j with y | y
      · have : A.1 13 j = -1 := (hA.no j y).2.2.1
        rw [if_neg (by rw [hm.mp this]; omega)]
        refine ih (j + 1) g (by omega) (by omega) hg (fun c hc => ?_)
        rw [hb c hc]
        by_cases e : c = j
        · rw [if_neg (by omega), if_pos (by omega), e, y]
        · by_cases e2 : c < j
          · rw [if_pos e2, if_pos (by omega)]
          · rw [if_neg e2, if_neg (by omega)]
      · have h13 := (hA.ye j y).2.1
        have : A.1 14 j ≠ 0 := fun x => by have := hm.mpr x; omega
        rw [hA.mn] at this
        rw [hA.mn, if_pos (by omega)]
        have s := setb_in (x := g) (c := (j : Int)) (k := 9) (by omega) (by omega)
        refine ih (j + 1) _ (by omega) (by omega) (by omega) (fun c hc => ?_)
        rw [bt_setb (by omega) (by omega), hb c hc]
        by_cases e : j = c
        · rw [if_pos e, if_pos (by omega), ← e, y]
        · rw [if_neg e]
          by_cases e2 : c < j
          · rw [if_pos e2, if_pos (by omega)]
          · rw [if_neg e2, if_neg (by omega)]
    · rw [if_neg q, show C = j by omega]
      exact ⟨hg, hb⟩
theorem q_drawn {v : VS} (h : INV v) (c n w : Int) : (mo_drawn (cl_drawn v c n w).2 c n w).1 = (cl_drawn v c n w).1 ∧ INV (mo_drawn (cl_drawn v c n w).2 c n w).2 := by
  obtain ⟨b0, b1, b3, b4, bL, b9, b10⟩ := h.b0
  by_cases z : 0 < v 33 2 ∧ ((0 ≤ c ∧ c ≤ 2000000000) ∧ (0 ≤ n ∧ n ≤ 20)) ∧ (0 ≤ w ∧ w ≤ 2)
  · obtain ⟨k1, k2, k3⟩ := l_pd h (y := c) (n := n) (by omega) z.2.1.2
    obtain ⟨s, hs⟩ : ∃ s, s = cl_playDrawn v c n := ⟨_, rfl⟩
    have ec : cl_drawn v c n w = (if w = 0 then (s 91 4, s) else if w = 1 then (cl_latest91 s, s) else (s 91 16, s)) := by
      unfold cl_drawn
      rw [if_pos z.1, if_pos z.2.1, if_neg (by omega), if_neg (by omega), hs]
    rw [← hs] at k1 k2 k3
    have e2 : (cl_drawn v c n w).2 = s := by
      rw [ec]
      split
      · rfl
      · split <;> rfl
    obtain ⟨c0, c1, c3, c4, cL, c9, c10⟩ := k1.b0
    obtain ⟨t1, t2, t3⟩ := l_dr k1.thr (y := c) (n := n) (by omega) z.2.1.2
    obtain ⟨u, hu⟩ : ∃ u, u = mo_draws (v2 s 203 0 0) c n := ⟨_, rfl⟩
    have ep : cP (sD (v2 s 203 0 0) c n) = cP (sD v c n) := sD_of (fun k a b => by rw [v2_row (by omega), k3 k (by omega)])
    rw [← hu, ep] at t2
    rw [← hu] at t1 t3
    have em : mo_drawn s c n w = (if w = 0 then (u 203 37, u) else if w = 1 then (if u 203 37 = 0 then (-1, u) else (mo_at u (u 203 37 - 1) 0, u)) else (mo_drawn_79 10 u 0 0, u)) := by
      unfold mo_drawn
      rw [cL, k3 33 (by omega), if_pos ⟨z.1, z.2.1⟩, if_pos z.2.2, hu]
    have e3 : (mo_drawn s c n w).2 = u := by
      rw [em]
      repeat' split
      all_goals rfl
    rw [e2]
    refine ⟨?_, by rw [e3]; exact t1⟩
    rw [em, ec]
    have aw := AW.run (sD_sg h (y := c) (n := n) (by omega) z.2.1.2).1.pw
    obtain ⟨A, hA⟩ : ∃ A, A = arun (cP (sD v c n)) := ⟨_, rfl⟩
    rw [← hA] at k2 t2 aw
    have hN := aw.n
    by_cases w0 : w = 0
    · rw [if_pos w0, if_pos w0]
      dsimp only
      rw [t2.n, k2.n]
    · rw [if_neg w0, if_neg w0]
      by_cases w1 : w = 1
      · rw [if_pos w1, if_pos w1]
        dsimp only
        unfold cl_latest91
        rw [k2.n, t2.n]
        by_cases y : A.1 0 0 = 0
        · rw [if_pos y, if_pos y]
        · rw [if_neg y, if_neg y]
          obtain ⟨m, hm⟩ : ∃ m : Nat, A.1 0 0 - 1 = m := ⟨(A.1 0 0 - 1).toNat, by omega⟩
          dsimp only
          unfold mo_at
          rw [hm, toN, show (5 * (m : Int) + 0).toNat = 5 * m + 0 by omega, t2.st 0 m (by omega) (by omega)]
          exact (k2.st 1 m (by omega) (by omega) (by omega)).symm
      · rw [if_neg w1, if_neg w1]
        dsimp only
        have h9 : 0 ≤ v 33 0 ∧ v 33 0 ≤ 9 := h.i.x 33 0
        obtain ⟨C, hC⟩ : ∃ C : Nat, v 33 0 = C := ⟨(v 33 0).toNat, by omega⟩
        have u0 : u 210 0 = C := by rw [t3 210 (by omega), v2_row (by omega), c0, k3 33 (by omega), hC]
        obtain ⟨g1, g2⟩ := drawn79 t2 aw u0 (by omega) 10 0 0 (by omega) (by omega) (by omega) (fun c hc => by
          rw [if_neg (by omega)]
          unfold bt
          simp)
        rw [show ((0 : Nat) : Int) = 0 from rfl] at g1 g2
        refine bt_ext g1 (k1.i.x 91 16) (fun c' hc => ?_)
        rw [g2 c' hc, k2.sk c' hc]
        by_cases y : c' < C
        · rw [if_pos y]
        · rw [if_neg y]
          rcases aw.b c' with x | x
          · rw [x]
          · obtain ⟨-, x2, x3, -⟩ := aw.ye c' x
            have := (aw.st (A.1 13 c').toNat (by omega)).2.1
            obtain ⟨d0, -⟩ := cP_0 (sD v c n)
            rw [d0, x3, (sD_r v c n).1 33 (by omega), o_cl_asTold (by omega), hC] at this
            omega
  · have ec : cl_drawn v c n w = (-2, v) := by
      unfold cl_drawn
      repeat' split
      all_goals first | rfl | (exfalso; omega)
    rw [ec]
    show (mo_drawn v c n w).1 = -2 ∧ INV (mo_drawn v c n w).2
    have em : mo_drawn v c n w = (-2, v2 v 203 0 0) := by
      unfold mo_drawn
      rw [bL]
      repeat' split
      all_goals first | rfl | (exfalso; omega)
    rw [em]
    exact ⟨rfl, h.thr⟩
theorem ch77 {u : VS} {c g y k n h0 i0 : Int} (f : Nat) (s : Int) : mo_chance_77 (f + 1) u y k n c g h0 i0 1 s = 1 := by
  rw [mo_chance_77, if_neg (show ¬ (1 : Int) = 0 by omega)]
  split <;> rfl
theorem eb91 {A : SS} {x u : VS} (ra : RA 91 A x) (rm : RM A u) {c g y k n h0 i0 : Int} : ∀ (f i : Nat), A.1 0 0 < i + f → (i : Int) ≤ A.1 0 0 → (mo_chance_77 f u y k n c g h0 i0 0 i = 0 ↔ cl_earliestBy91_2 f x c g i = -1) := by
  intro f
  induction f with
  | zero => intro i h1 h2; omega
  | succ f ih =>
    intro i h1 h2
    rw [mo_chance_77, cl_earliestBy91_2, rm.n, ra.n, show ((i : Int) + 1) = ((i + 1 : Nat) : Int) by omega, toN]
    by_cases q : (i : Int) < A.1 0 0
    · have m1 : mo_at u (i : Int) 1 = A.1 2 i := by
        unfold mo_at
        rw [show (5 * (i : Int) + 1).toNat = 5 * i + 1 by omega, rm.st 1 i (by omega) q]
      have m2 : mo_at u (i : Int) 2 = A.1 3 i := by
        unfold mo_at
        rw [show (5 * (i : Int) + 2).toNat = 5 * i + 2 by omega, rm.st 2 i (by omega) q]
      have x1 : x 93 i = A.1 2 i := ra.st 2 i (by omega) (by omega) q
      have x2 : x 94 i = A.1 3 i := ra.st 3 i (by omega) (by omega) q
      have r := ih (i + 1) (by omega) (by omega)
      rw [if_pos q, if_pos q, m1, m2, x1, x2, if_pos rfl]
      by_cases a : A.1 2 i = c
      · rw [if_pos a, if_pos a]
        by_cases b : A.1 3 i = g
        · rw [if_pos b, if_pos b]
          obtain ⟨f', rfl⟩ : ∃ f', f = f' + 1 := ⟨f - 1, by omega⟩
          rw [ch77]
          exact ⟨fun e => by omega, fun e => by omega⟩
        · rw [if_neg b, if_neg b]
          exact r
      · rw [if_neg a, if_neg a]
        exact r
    · rw [if_neg q, if_neg q]
      exact ⟨fun _ => rfl, fun _ => rfl⟩
def cS (F : Int → Int) : Nat → Int → Int → Int → Int
  | 0, _, _, _ => 0
  | f + 1, k, g, i => if i < k then (if F i = -1 then cS F f k g (i + 1) else cS F f k (g + 1) (i + 1)) else g
theorem eb91f {A : SS} {x : VS} (ra : RA 91 A x) {c g : Int} : ∀ (f i : Nat), A.1 0 0 < i + f → (i : Int) ≤ A.1 0 0 → (cl_earliestBy91_2 f x c g i = -1 ↔ ∀ j : Nat, i ≤ j → (j : Int) < A.1 0 0 → ¬ (A.1 2 j = c ∧ A.1 3 j = g)) := by
  intro f
  induction f with
  | zero => intro i h1 h2; omega
  | succ f ih =>
    intro i h1 h2
    rw [cl_earliestBy91_2, ra.n, show ((i : Int) + 1) = ((i + 1 : Nat) : Int) by omega, toN]
    by_cases q : (i : Int) < A.1 0 0
    · have x1 : x 93 i = A.1 2 i := ra.st 2 i (by omega) (by omega) q
      have x2 : x 94 i = A.1 3 i := ra.st 3 i (by omega) (by omega) q
      have r := ih (i + 1) (by omega) (by omega)
      have key : ¬ (A.1 2 i = c ∧ A.1 3 i = g) → ((∀ j : Nat, i + 1 ≤ j → (j : Int) < A.1 0 0 → ¬ (A.1 2 j = c ∧ A.1 3 j = g)) ↔ ∀ j : Nat, i ≤ j → (j : Int) < A.1 0 0 → ¬ (A.1 2 j = c ∧ A.1 3 j = g)) := fun hn => ⟨fun a j j1 j2 => by
        by_cases e : j = i
        · rw [e]; exact hn
        · exact a j (by omega) j2, fun a j j1 j2 => a j (by omega) j2⟩
      rw [if_pos q, x1, x2]
      by_cases a : A.1 2 i = c
      · rw [if_pos a]
        by_cases b : A.1 3 i = g
        · rw [if_pos b]
          exact ⟨fun e => by omega, fun e => absurd ⟨a, b⟩ (e i (by omega) q)⟩
        · rw [if_neg b, r]
          exact key (fun e => b e.2)
      · rw [if_neg a, r]
        exact key (fun e => a e.1)
    · rw [if_neg q]
      exact ⟨fun _ j j1 j2 => by omega, fun _ => rfl⟩
def cF (v : VS) (s n c h : Int) (i : Int) : Int := cl_earliestBy91_2 301 (cl_playDrawn v (s + i) n) c h 0
theorem cF_iff {v : VS} (h : INV v) {s n c g i : Int} (hs : 0 ≤ s + i ∧ s + i ≤ 2000000019) (hn : 0 ≤ n ∧ n ≤ 20) {A : SS} (hA : arun (cP (sD v (s + i) n)) = A) : cF v s n c g i = -1 ↔ ∀ j : Nat, 0 ≤ j → (j : Int) < A.1 0 0 → ¬ (A.1 2 j = c ∧ A.1 3 j = g) := by
  obtain ⟨x1, x2, x3⟩ := l_pd h (y := s + i) (n := n) hs hn
  have aw := AW.run (sD_sg h (y := s + i) (n := n) hs hn).1.pw
  rw [hA] at aw x2
  have hN := aw.n
  have r := eb91f x2 (c := c) (g := g) 301 0 (by omega) (by omega)
  rw [show ((0 : Nat) : Int) = 0 from rfl] at r
  exact r
theorem chance45 {v : VS} (h : INV v) {s n c g k : Int} (hs : 0 ≤ s ∧ s ≤ 2000000000) (hn : 0 ≤ n ∧ n ≤ 20) (hk : k ≤ 20) : ∀ (f : Nat) (x : VS) (a i : Int), INV x → (∀ k, k < 67 ∨ (78 < k ∧ k < 91) ∨ 102 < k → x k = v k) → 0 ≤ i → (cl_chance_45 f x s k n c g a i).1 = cS (cF v s n c g) f k a i ∧ INV (cl_chance_45 f x s k n c g a i).2 ∧ (∀ j, j < 67 ∨ (78 < j ∧ j < 91) ∨ 102 < j → (cl_chance_45 f x s k n c g a i).2 j = v j) := by
  intro f
  induction f with
  | zero => intro x a i hx e h0; exact ⟨rfl, hx, e⟩
  | succ f ih =>
    intro x a i hx e h0
    rw [cl_chance_45, cS]
    by_cases q : i < k
    · obtain ⟨g1, g2, g3⟩ := l_pd hx (y := s + i) (n := n) (by omega) hn
      rw [sD_of (v := v) (fun k a b => e k (by omega))] at g2
      have aw := AW.run (sD_sg h (y := s + i) (n := n) (by omega) hn).1.pw
      have hN := aw.n
      have r := eb91f g2 (c := c) (g := g) 301 0 (by omega) (by omega)
      rw [show ((0 : Nat) : Int) = 0 from rfl] at r
      have e' : ∀ k, k < 67 ∨ (78 < k ∧ k < 91) ∨ 102 < k → (cl_playDrawn x (s + i) n) k = v k := fun k hk => by rw [g3 k hk, e k hk]
      rw [if_pos q, if_pos q]
      have rr := cF_iff h (s := s) (n := n) (c := c) (g := g) (i := i) (by omega) hn rfl
      by_cases z : cF v s n c g i = -1
      · unfold cl_earliestBy91
        rw [if_pos z, if_pos (r.mpr (rr.mp z))]
        exact ih _ _ _ g1 e' (by omega)
      · unfold cl_earliestBy91
        rw [if_neg z, if_neg (fun y => z (rr.mpr (r.mp y)))]
        exact ih _ _ _ g1 e' (by omega)
    · rw [if_neg q, if_neg q]
      exact ⟨rfl, hx, e⟩
theorem chance54 {v : VS} (h : INV v) {s n c g k : Int} (hs : 0 ≤ s ∧ s ≤ 2000000000) (hn : 0 ≤ n ∧ n ≤ 20) (hk : k ≤ 20) : ∀ (f : Nat) (u : VS) (a i : Int), INV u → (∀ k, k < 203 → u k = v k) → 0 ≤ i → (mo_chance_54 f u s k n c g a i).1 = cS (cF v s n c g) f k a i ∧ INV (mo_chance_54 f u s k n c g a i).2 := by
  intro f
  induction f with
  | zero => intro x a i hx e h0; exact ⟨rfl, hx⟩
  | succ f ih =>
    intro u a i hu e h0
    rw [mo_chance_54, cS]
    by_cases q : i < k
    · obtain ⟨g1, g2, g3⟩ := l_dr hu (y := s + i) (n := n) (by omega) hn
      obtain ⟨x1, x2, x3⟩ := l_pd h (y := s + i) (n := n) (by omega) hn
      rw [sD_of (v := v) (fun k a b => e k (by omega))] at g2
      have aw := AW.run (sD_sg h (y := s + i) (n := n) (by omega) hn).1.pw
      have hN := aw.n
      have r := eb91f x2 (c := c) (g := g) 301 0 (by omega) (by omega)
      have r2 := eb91 x2 g2 (c := c) (g := g) (y := s) (k := k) (n := n) (h0 := a) (i0 := i) 301 0 (by omega) (by omega)
      rw [show ((0 : Nat) : Int) = 0 from rfl] at r r2
      have e' : ∀ k, k < 203 → (mo_draws u (s + i) n) k = v k := fun k hk => by rw [g3 k (by omega), e k hk]
      rw [if_pos q, if_pos q]
      have rr := cF_iff h (s := s) (n := n) (c := c) (g := g) (i := i) (by omega) hn rfl
      by_cases z : cF v s n c g i = -1
      · rw [if_pos z, if_pos (r2.mpr (r.mpr (rr.mp z))), Int.add_zero]
        exact ih _ _ _ g1 e' (by omega)
      · rw [if_neg z, if_neg (fun y => z (rr.mpr (r.mp (r2.mp y))))]
        exact ih _ _ _ g1 e' (by omega)
    · rw [if_neg q, if_neg q]
      exact ⟨rfl, hu⟩
theorem q_chance {v : VS} (h : INV v) (s k n c g : Int) : (mo_chance (cl_chance v s k n c g).2 s k n c g).1 = (cl_chance v s k n c g).1 ∧ INV (mo_chance (cl_chance v s k n c g).2 s k n c g).2 := by
  obtain ⟨b0, b1, b3, b4, bL, b9, b10⟩ := h.b0
  have hL : 0 ≤ v 33 2 ∧ v 33 2 ≤ 2001 := h.i.x 33 2
  by_cases z : ((0 ≤ s ∧ s ≤ 2000000000) ∧ (0 ≤ n ∧ n ≤ 20)) ∧ (1 ≤ k ∧ k ≤ 20) ∧ (0 ≤ c ∧ c < v 33 0) ∧ (1 ≤ g ∧ g ≤ 99)
  · have hL2 : 0 < v 33 2 := by
      by_cases y : v 33 2 = 0
      · have : v 33 0 = 0 := (h.i.g.nil y).1
        omega
      · omega
    obtain ⟨k1, k2, k3⟩ := chance45 h (s := s) (n := n) (c := c) (g := g) (k := k) z.1.1 z.1.2 z.2.1.2 21 v 0 0 h (fun k _ => rfl) (by omega)
    have ec : cl_chance v s k n c g = ((cl_chance_45 21 v s k n c g 0 0).1, (cl_chance_45 21 v s k n c g 0 0).2) := by
      unfold cl_chance
      rw [if_pos z.1, if_neg (by omega), if_neg (by omega), if_pos z.2.2.1, if_pos z.2.2.2]
    rw [ec]
    dsimp only
    obtain ⟨x, hx⟩ : ∃ x, x = (cl_chance_45 21 v s k n c g 0 0).2 := ⟨_, rfl⟩
    rw [← hx] at k2 k3 ⊢
    obtain ⟨c0, c1, c3, c4, cL, c9, c10⟩ := k2.b0
    obtain ⟨t1, t2⟩ := chance54 k2 (s := s) (n := n) (c := c) (g := g) (k := k) z.1.1 z.1.2 z.2.1.2 21 (v2 x 203 0 0) 0 0 k2.thr (fun k hk => v2_row (by omega)) (by omega)
    have em : mo_chance x s k n c g = ((mo_chance_54 21 (v2 x 203 0 0) s k n c g 0 0).1, (mo_chance_54 21 (v2 x 203 0 0) s k n c g 0 0).2) := by
      unfold mo_chance
      rw [cL, c0, k3 33 (by omega), if_pos ⟨hL2, z.1⟩, if_pos z.2.1, if_pos z.2.2.1, if_pos z.2.2.2]
    rw [em]
    refine ⟨?_, t2⟩
    dsimp only
    rw [t1, k1]
    have ef : ∀ (f : Nat) (a i : Int), 0 ≤ i → cS (cF x s n c g) f k a i = cS (cF v s n c g) f k a i := by
      intro f
      induction f with
      | zero => intro a i h0; rw [cS, cS]
      | succ f ih =>
        intro a i h0
        rw [cS, cS]
        by_cases q : i < k
        · have r1 := cF_iff h (s := s) (n := n) (c := c) (g := g) (i := i) (by omega) z.1.2 rfl
          have r2 := cF_iff k2 (s := s) (n := n) (c := c) (g := g) (i := i) (by omega) z.1.2 (A := arun (cP (sD v (s + i) n))) (by rw [sD_of (fun k a b => k3 k (by omega))])
          rw [if_pos q, if_pos q]
          by_cases y : cF v s n c g i = -1
          · rw [if_pos y, if_pos (r2.mpr (r1.mp y))]
            exact ih _ _ (by omega)
          · rw [if_neg y, if_neg (fun w => y (r1.mpr (r2.mp w)))]
            exact ih _ _ (by omega)
        · rw [if_neg q, if_neg q]
    exact ef 21 0 0 (by omega)
  · have ec : cl_chance v s k n c g = (-2, v) := by
      unfold cl_chance
      repeat' split
      all_goals first | rfl | (exfalso; omega)
    rw [ec]
    show (mo_chance v s k n c g).1 = -2 ∧ INV (mo_chance v s k n c g).2
    have em : mo_chance v s k n c g = (-2, v2 v 203 0 0) := by
      unfold mo_chance
      rw [b0, bL]
      repeat' split
      all_goals first | rfl | (exfalso; omega)
    rw [em]
    exact ⟨rfl, h.thr⟩
