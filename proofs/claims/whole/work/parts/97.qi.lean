
/-! soon -/
def sS (v : VS) (c : Nat) (t : Int) : VS := v2 (cl_asTold v) 70 c t
def zS (v : VS) (c : Nat) (t : Int) : Int := (arun (cP (sS v c t))).1 0 0
/-- a state whose supposed bay is as told, but for the second of start c -/
def SQ5 (v s : VS) (c : Nat) : Prop :=
  (INV s) ∧
  (∀ k, k < 67 ∨ (78 < k ∧ k < 91) ∨ 102 < k → s k = v k) ∧
  (∀ k, 67 ≤ k → k ≤ 72 → k ≠ 70 → s k = (cl_asTold v) k) ∧
  (∀ j, j ≠ c → s 70 j = (cl_asTold v) 70 j)
theorem SQ5.i {v s : VS} {c : Nat} (h : SQ5 v s c) : INV s := h.1
theorem SQ5.e {v s : VS} {c : Nat} (h : SQ5 v s c) : ∀ k, k < 67 ∨ (78 < k ∧ k < 91) ∨ 102 < k → s k = v k := h.2.1
theorem SQ5.f {v s : VS} {c : Nat} (h : SQ5 v s c) : ∀ k, 67 ≤ k → k ≤ 72 → k ≠ 70 → s k = (cl_asTold v) k := h.2.2.1
theorem SQ5.g {v s : VS} {c : Nat} (h : SQ5 v s c) : ∀ j, j ≠ c → s 70 j = (cl_asTold v) 70 j := h.2.2.2
theorem sS_of {v v' : VS} {c : Nat} {t : Int} (e : ∀ k, 33 ≤ k → k ≤ 66 → v' k = v k) : cP (sS v' c t) = cP (sS v c t) := by
  obtain ⟨a0, a1, a4, a5, a6, a7, a8, a9, a68⟩ := asTold_r v
  obtain ⟨b0, b1, b4, b5, b6, b7, b8, b9, b68⟩ := asTold_r v'
  have e33 := e 33 (by omega) (by omega)
  unfold sS
  refine cP_of2 (fun k k1 k2 => by rw [v2_row (by omega), v2_row (by omega), o_cl_asTold (by omega), o_cl_asTold (by omega)]; exact e k (by omega) (by omega)) (by rw [v2_row (by omega), v2_row (by omega), a0, b0, e33]) (by rw [v2_row (by omega), v2_row (by omega), a1, b1, e33]) (by rw [v2_row (by omega), v2_row (by omega), a4, b4]) (by rw [v2_row (by omega), v2_row (by omega), a5, b5]) (by rw [v2_row (by omega), v2_row (by omega), a6, b6, e33]) (by rw [v2_row (by omega), v2_row (by omega), a7, b7]) (by rw [v2_row (by omega), v2_row (by omega), a8, b8]) (by rw [v2_row (by omega), v2_row (by omega), a9, b9]) (by rw [v2_row (by omega), v2_row (by omega), a68, b68, e 42 (by omega) (by omega)]) (fun i hi => ?_) (fun i hi => by rw [v2_row (by omega), v2_row (by omega), asTold_72 v i hi, asTold_72 v' i hi])
  obtain ⟨x1, x2, x3⟩ := asTold_s v i hi
  obtain ⟨y1, y2, y3⟩ := asTold_s v' i hi
  rw [v2_row (show 69 ≠ 70 by omega), v2_row (show 69 ≠ 70 by omega), v2_row (show 71 ≠ 70 by omega), v2_row (show 71 ≠ 70 by omega), v2_eq, v2_eq, x1, x2, x3, y1, y2, y3, e 43 (by omega) (by omega), e 44 (by omega) (by omega), e 45 (by omega) (by omega)]
  exact ⟨rfl, rfl, rfl⟩
theorem sS_sg {v : VS} (h : INV v) {c : Nat} {t : Int} (ht : 0 ≤ t ∧ t < v 33 1) : SG (sS v c t) ∧ pln (cP (sS v c t)) = cP (sS v c t) := by
  have h3 : 0 ≤ v 33 1 ∧ v 33 1 ≤ 300 := h.i.x 33 1
  obtain ⟨a0, a1, a4, a5, a6, a7, a8, a9, a68⟩ := asTold_r v
  have sg := h.i.sg
  have e33 : (cl_asTold v) 33 = v 33 := o_cl_asTold (by omega)
  unfold sS
  refine ⟨⟨XI.put (k := 70) sg.x (show 0 ≤ t ∧ t ≤ 299 by omega), sg.g.of (fun j a b => v2_row (by omega)), by rw [v2_row (by omega), v2_row (by omega)]; exact sg.u, fun k hk => ?_⟩, pln_cP ?_ ?_ ?_ ?_⟩
  · rw [v2_row (by omega)] at hk
    obtain ⟨q1, q2, q3⟩ := sg.st k hk
    rw [v2_row (show 69 ≠ 70 by omega), v2_row (show 71 ≠ 70 by omega), v2_row (show 33 ≠ 70 by omega)]
    refine ⟨?_, q2, q3⟩
    rw [v2_eq]
    split
    · rw [e33]; exact ht.2
    · exact q1
  · rw [v2_row (by omega), v2_row (by omega), a6, e33]
  · rw [v2_row (by omega), a7]
  · rw [v2_row (by omega), a8]
  · rw [v2_row (by omega), a9]
theorem SQ5.play {v s : VS} {c : Nat} (h : INV v) (q : SQ5 v s c) {t : Int} (ht : 0 ≤ t ∧ t < v 33 1) : SQ5 v (xplay 91 (v2 s 70 c t)) c ∧ (xplay 91 (v2 s 70 c t)) 91 4 = zS v c t := by
  obtain ⟨sg, pl⟩ := sS_sg h (c := c) ht
  have h3 : 0 ≤ v 33 1 ∧ v 33 1 ≤ 300 := h.i.x 33 1
  have pk : ∀ k, 33 ≤ k → k ≤ 72 → (v2 s 70 c t) k = (sS v c t) k := fun k k1 k2 => by
    unfold sS
    by_cases z : k = 70
    · subst z
      funext j
      rw [v2_eq, v2_eq]
      by_cases y : j = c
      · rw [if_pos ⟨rfl, y⟩, if_pos ⟨rfl, y⟩]
      · rw [if_neg (fun x => y x.2), if_neg (fun x => y x.2), q.g j y]
    · rw [v2_row z, v2_row z]
      by_cases y : k < 67
      · rw [q.e k (by omega), o_cl_asTold (by omega)]
      · exact q.f k (by omega) k2 z
  have px : XI (v2 s 70 c t) := XI.put (k := 70) q.i.i.x (show 0 ≤ t ∧ t ≤ 299 by omega)
  have sg2 : SG (v2 s 70 c t) := sg.mod px (fun k a b => pk k a (by omega)) (fun k a b => pk k (by omega) (by omega)) (by rw [pk 67 (by omega) (by omega)])
  have ec : cP (v2 s 70 c t) = cP (sS v c t) := by
    refine cP_of2 (fun k k1 k2 => pk k k1 (by omega)) ?_ ?_ ?_ ?_ ?_ ?_ ?_ ?_ ?_ (fun j hj => ⟨?_, ?_, ?_⟩) (fun j hj => ?_)
    all_goals rw [pk _ (by omega) (by omega)]
  obtain ⟨g1, g2, g3⟩ := q.i.play (p := v2 s 70 c t) (fun k hk => v2_row (by omega)) sg2
  refine ⟨⟨g1, fun k hk => by rw [g3 k hk, q.e k hk], fun k k1 k2 k3 => ?_, fun j hj => ?_⟩, ?_⟩
  · rw [xplay_row (by omega) (by omega), v2_row k3, q.f k k1 k2 k3]
  · rw [xplay_row (by omega) (by omega), v2_eq, if_neg (fun x => hj x.2), q.g j hj]
  · rw [g2.n, ec]
    rfl
theorem soon29 {v : VS} {c : Nat} (h : INV v) : ∀ (f : Nat) (s : VS) (b m j : Int), SQ5 v s c → 0 ≤ j → (cl_soon_29 f s (c : Int) b m j).1 = bS (zS v c) f (v 33 1) b m j ∧ SQ5 v (cl_soon_29 f s (c : Int) b m j).2 c := by
  intro f
  induction f with
  | zero => intro s b m j hs h0; exact ⟨rfl, hs⟩
  | succ f ih =>
    intro s b m j hs h0
    rw [cl_soon_29, bS, hs.e 33 (by omega), toN]
    by_cases q : j < v 33 1
    · obtain ⟨g1, g2⟩ := hs.play h (t := j) ⟨h0, q⟩
      rw [if_pos q, if_pos q, g2]
      split
      · exact ih _ _ _ _ g1 (by omega)
      · exact ih _ _ _ _ g1 (by omega)
    · rw [if_neg q, if_neg q]
      exact ⟨rfl, hs⟩
/-- the reference, but for the second of start c -/
def SR5 (v u : VS) (c : Nat) : Prop :=
  (XI u) ∧
  (CF u) ∧
  (∀ k, k ≠ 203 → k ≠ 213 → k < 219 → u k = v k) ∧
  (∀ j, j = 6 ∨ j = 14 ∨ j = 15 → u 203 j = v 203 j) ∧
  (∀ j, j ≠ 3 * c + 1 → u 213 j = v 213 j)
theorem SR5.x {v u : VS} {c : Nat} (h : SR5 v u c) : XI u := h.1
theorem SR5.cf {v u : VS} {c : Nat} (h : SR5 v u c) : CF u := h.2.1
theorem SR5.e {v u : VS} {c : Nat} (h : SR5 v u c) : ∀ k, k ≠ 203 → k ≠ 213 → k < 219 → u k = v k := h.2.2.1
theorem SR5.f {v u : VS} {c : Nat} (h : SR5 v u c) : ∀ j, j = 6 ∨ j = 14 ∨ j = 15 → u 203 j = v 203 j := h.2.2.2.1
theorem SR5.g {v u : VS} {c : Nat} (h : SR5 v u c) : ∀ j, j ≠ 3 * c + 1 → u 213 j = v 213 j := h.2.2.2.2
theorem CF.p213m {u : VS} (h : CF u) {n : Nat} {t : Int} : CF (v2 u 213 (3 * n + 1) t) := by
  obtain ⟨h1, h2, h3, h4⟩ := h
  refine ⟨?_, fun j hj => ?_, ?_, ?_⟩
  · rw [v2_row (by omega)]; exact h1
  · rw [v2_eq]
    have := h2 j hj
    refine ⟨fun q => ?_, fun q => ?_⟩
    · rw [if_neg (by omega)]; exact this.1 q
    · rw [if_neg (by omega)]; exact this.2 q
  · rw [v2_row (by omega)]; exact h3
  · rw [v2_row (by omega)]; exact h4
theorem SR5.by {v u : VS} {c : Nat} (h : INV v) (q : SR5 v u c) {t : Int} (ht : 0 ≤ t ∧ t < v 33 1) : (mo_strikesBy (v2 u 213 (3 * c + 1) t) 0 0).1 = zS v c t ∧ SR5 v (mo_strikesBy (v2 u 213 (3 * c + 1) t) 0 0).2 c := by
  obtain ⟨sg, pl⟩ := sS_sg h (c := c) ht
  have h3 : 0 ≤ v 33 1 ∧ v 33 1 ≤ 300 := h.i.x 33 1
  have h4 : 0 ≤ v 42 0 ∧ v 42 0 ≤ 4 := h.i.x 42 0
  obtain ⟨y, hy⟩ : ∃ y, y = v2 u 213 (3 * c + 1) t := ⟨_, rfl⟩
  have yx : XI y := by rw [hy]; exact XI.put (k := 213) q.x (show 0 ≤ t ∧ t ≤ 299 by omega)
  have yc : CF y := by rw [hy]; exact q.cf.p213m
  have yk : ∀ k, k ≠ 203 → k ≠ 213 → k < 219 → y k = v k := fun k a b d => by rw [hy, v2_row b, q.e k a b d]
  have yf : ∀ j, j = 6 ∨ j = 14 ∨ j = 15 → y 203 j = v 203 j := fun j hj => by rw [hy, v2_row (by omega), q.f j hj]
  have y213 : ∀ j, y 213 j = if j = 3 * c + 1 then t else v 213 j := fun j => by
    rw [hy, v2_eq]
    by_cases z : j = 3 * c + 1
    · rw [if_pos ⟨rfl, z⟩, if_pos z]
    · rw [if_neg (fun x => z x.2), if_neg z, q.g j z]
  obtain ⟨o1, o2⟩ := h.or0
  obtain ⟨q1, q2⟩ := h.r9
  obtain ⟨b0, b1, b3, b4, bL, b9, b10⟩ := h.b0
  obtain ⟨a0, a1, a4, a5, a6, a7, a8, a9, a68⟩ := asTold_r v
  rw [← hy, sB_eq, yk 210 (by omega) (by omega) (by omega), o1, o2]
  obtain ⟨p27, p28, p30, p31, p32, p33, p34, p35⟩ := plainly_r y
  obtain ⟨z, hz⟩ : ∃ z, z = v2 (v2 (mo_plainly y) 203 30 (v 210 9)) 203 31 (v 210 10) := ⟨_, rfl⟩
  rw [← hz]
  have zx : XI z := by
    rw [hz]
    exact XI.put (k := 203) (j := 31) (XI.put (k := 203) (j := 30) (i_mo_plainly yx) q1) q2
  have zf : ∀ j, j ≠ 30 → j ≠ 31 → z 203 j = (mo_plainly y) 203 j := fun j a b => by rw [hz, v2_eq, if_neg (fun g => b g.2), v2_eq, if_neg (fun g => a g.2)]
  have z30 : z 203 30 = v 210 9 := by rw [hz, v2_eq, if_neg (by omega), v2_eq, if_pos ⟨rfl, rfl⟩]
  have z31 : z 203 31 = v 210 10 := by rw [hz, v2_eq, if_pos ⟨rfl, rfl⟩]
  have zk : ∀ k, k ≠ 203 → z k = y k := fun k hk => by rw [hz, v2_row hk, v2_row hk, o_mo_plainly (by omega)]
  have zu : ∀ k, k ≠ 203 → k ≠ 213 → k < 219 → z k = v k := fun k k1 k2 k3 => by rw [zk k k1, yk k k1 k2 k3]
  have r1 : ∀ k, k ≠ 70 → (sS v c t) k = (cl_asTold v) k := fun k hk => by unfold sS; rw [v2_row hk]
  have r70 : ∀ j, (sS v c t) 70 j = if j = c then t else (cl_asTold v) 70 j := fun j => by
    unfold sS
    rw [v2_eq]
    by_cases y : j = c
    · rw [if_pos ⟨rfl, y⟩, if_pos y]
    · rw [if_neg (fun x => y x.2), if_neg y]
  have br : BR (sS v c t) z := by
    refine BR.gen h zx (fun k a b => by rw [r1 k (by omega), o_cl_asTold (by omega)]) zu ?_ ?_ ?_ ?_ ?_ ?_ (fun k hk => ?_) (fun hb ha => ?_)
    · rw [r1 67 (by omega), a0, z30, b9]; exact fun _ _ => rfl
    · rw [r1 67 (by omega), a1, z31, b10]; exact fun _ _ => rfl
    · rw [r1 67 (by omega), a4, zf 34 (by omega) (by omega), p34]
    · rw [r1 67 (by omega), a5, zf 35 (by omega) (by omega), p35]
    · rw [zf 33 (by omega) (by omega), zf 32 (by omega) (by omega), p32, p33, r1 68 (by omega), a68, yk 210 (by omega) (by omega) (by omega), b4]; omega
    · rw [zf 32 (by omega) (by omega), p32]; exact Int.le_refl _
    · rw [r1 68 (by omega), a68] at hk
      rw [zf 32 (by omega) (by omega), p32, show (0 : Int).toNat + k = k by omega, zk 213 (by omega), r70, r1 69 (by omega), r1 71 (by omega)]
      obtain ⟨x1, x2, x3⟩ := asTold_s v k (by omega)
      obtain ⟨-, -, hst⟩ := h.che
      obtain ⟨w1, w2, w3⟩ := hst k (by omega)
      rw [x1, x2, x3, w1, w2, w3, y213, y213, y213, if_neg (show ¬ 3 * k = 3 * c + 1 by omega), if_neg (show ¬ 3 * k + 2 = 3 * c + 1 by omega)]
      refine ⟨?_, rfl, rfl⟩
      by_cases g : k = c
      · rw [if_pos (by omega), if_pos g]
      · rw [if_neg (by omega), if_neg g]
    · exact wi0 zx hb ha (by rw [r1 63 (by omega), o_cl_asTold (by omega), zu 63 (by omega) (by omega) (by omega)]) (by rw [r1 67 (by omega), a4, zf 34 (by omega) (by omega), p34]) (by rw [zf 28 (by omega) (by omega), p28]) (fun j hj => by rw [r1 72 (by omega), asTold_72 _ j hj, zf 27 (by omega) (by omega), p27])
  have rm := br.run sg
  rw [pl] at rm
  have zc : CF z := yc.of (fun k a b => zk k (by omega))
  refine ⟨rm.n, ⟨i_mo_run zx zc, zc.of (fun k a b => o_mo_run (by omega)), fun k a b d => ?_, fun j hj => ?_, fun j hj => ?_⟩⟩
  · dsimp only
    rw [o_mo_run (by omega), zu k a b d]
  · dsimp only
    rw [f_run (by omega), zf j (by omega) (by omega), plainly_f (by omega), yf j hj]
  · dsimp only
    rw [o_mo_run (by omega), zk 213 (by omega), y213, if_neg hj]
theorem soon35 {v : VS} {c : Nat} (h : INV v) : ∀ (f : Nat) (u : VS) (o b m j : Int), SR5 v u c → 0 ≤ j → (mo_soon_35 f u (c : Int) o b m j).1 = bS (zS v c) f (v 33 1) b m j ∧ SR5 v (mo_soon_35 f u (c : Int) o b m j).2 c := by
  intro f
  obtain ⟨b0, b1, -⟩ := h.b0
  induction f with
  | zero => intro u o b m j hu h0; exact ⟨rfl, hu⟩
  | succ f ih =>
    intro u o b m j hu h0
    rw [mo_soon_35, bS, hu.e 210 (by omega) (by omega) (by omega), b1, show (3 * (c : Int) + 1).toNat = 3 * c + 1 by omega]
    by_cases q : j < v 33 1
    · obtain ⟨g1, g2⟩ := hu.by h (t := j) ⟨h0, q⟩
      rw [if_pos q, if_pos q, g1]
      split
      · exact ih _ _ _ _ _ g2 (by omega)
      · exact ih _ _ _ _ _ g2 (by omega)
    · rw [if_neg q, if_neg q]
      exact ⟨rfl, hu⟩
theorem q_soon {v : VS} (h : INV v) (c : Int) : (mo_soon (cl_soon v c).2 c).1 = (cl_soon v c).1 ∧ INV (mo_soon (cl_soon v c).2 c).2 := by
  obtain ⟨b0, b1, b3, b4, bL, b9, b10⟩ := h.b0
  by_cases z : 0 ≤ c ∧ c < v 42 0
  · obtain ⟨n, rfl⟩ : ∃ n : Nat, c = n := ⟨c.toNat, by omega⟩
    have h0 : SQ5 v (cl_asTold v) n := ⟨h.trial (i_cl_asTold h.i.x) (by
        have := h.i.z
        unfold WZ at *
        rw [o_cl_asTold (by omega), o_cl_asTold (by omega)]
        exact this) (fun k hk => o_cl_asTold (by omega)), fun k hk => o_cl_asTold (by omega), fun k _ _ _ => rfl, fun j _ => rfl⟩
    obtain ⟨k1, k2⟩ := soon29 (c := n) h 301 (cl_asTold v) 0 (-1) 0 h0 (by omega)
    have ec : cl_soon v (n : Int) = ((cl_soon_29 301 (cl_asTold v) (n : Int) 0 (-1) 0).1, (cl_soon_29 301 (cl_asTold v) (n : Int) 0 (-1) 0).2) := by
      unfold cl_soon
      rw [if_pos z]
    rw [ec]
    dsimp only
    obtain ⟨s, hs⟩ : ∃ s, s = (cl_soon_29 301 (cl_asTold v) (n : Int) 0 (-1) 0).2 := ⟨_, rfl⟩
    rw [← hs] at k2 ⊢
    have ki := k2.i
    obtain ⟨c0, c1, c3, c4, cL, c9, c10⟩ := ki.b0
    have r0 : SR5 s (v2 s 203 0 0) n := ⟨ki.thr.i.x, ki.thr.i.c, fun k a b d => v2_row a, fun j hj => by rw [v2_eq, if_neg (by omega)], fun j _ => by rw [v2_row (by omega)]⟩
    obtain ⟨t1, t2⟩ := soon35 ki 301 (v2 s 203 0 0) (s 213 (3 * n + 1)) (-1) (-1) 0 r0 (by omega)
    have em : mo_soon s (n : Int) = ((mo_soon_35 301 (v2 s 203 0 0) (n : Int) (s 213 (3 * n + 1)) (-1) (-1) 0).1, v2 (mo_soon_35 301 (v2 s 203 0 0) (n : Int) (s 213 (3 * n + 1)) (-1) (-1) 0).2 213 (3 * n + 1) (s 213 (3 * n + 1))) := by
      unfold mo_soon
      rw [c4, k2.e 42 (by omega), if_pos z, show (3 * (n : Int) + 1).toNat = 3 * n + 1 by omega]
    rw [em]
    dsimp only
    obtain ⟨w, hw⟩ : ∃ w, w = (mo_soon_35 301 (v2 s 203 0 0) (n : Int) (s 213 (3 * n + 1)) (-1) (-1) 0).2 := ⟨_, rfl⟩
    rw [← hw] at t2 ⊢
    have ef : zS s n = zS v n := by
      funext t
      unfold zS
      rw [sS_of (fun k a b => k2.e k (by omega))]
    refine ⟨?_, ki.ref (XI.put (k := 213) t2.x (ki.i.x 213 (3 * n + 1))) (fun j hj => ?_) ?_ ?_ ?_⟩
    · rw [t1, k1, ef, k2.e 33 (by omega)]
      have hS : 1 ≤ v 33 1 := by
        have h2 : 0 ≤ v 33 2 ∧ v 33 2 ≤ 2001 := h.i.x 33 2
        by_cases y : v 33 2 = 0
        · have : v 42 0 = 0 := (h.i.g.nil y).2.2.2
          omega
        · exact (h.i.g.pos (by omega)).2
      have p0 : 0 ≤ zS v n 0 := (AW.run (sS_sg h (c := n) (t := 0) (by omega)).1.pw).n.1
      rw [bS, if_pos (show (0 : Int) < v 33 1 by omega), if_pos (by omega)]
      conv => rhs; rw [bS, if_pos (show (0 : Int) < v 33 1 by omega), if_pos (show (-1 : Int) < zS v n 0 by omega)]
    · by_cases y : j = 213
      · subst y
        funext i
        rw [v2_eq]
        by_cases x : i = 3 * n + 1
        · rw [if_pos ⟨rfl, x⟩, x]
        · rw [if_neg (fun a => x a.2), t2.g i x]
      · rw [v2_row y]
        exact t2.e j (by omega) y (by omega)
    · rw [v2_row (by omega), t2.f 6 (by omega)]
    · rw [v2_row (by omega), t2.f 14 (by omega)]
    · rw [v2_row (by omega), t2.f 15 (by omega)]
  · have ec : cl_soon v c = (-2, v) := by
      unfold cl_soon
      rw [if_neg z]
    rw [ec]
    show (mo_soon v c).1 = -2 ∧ INV (mo_soon v c).2
    have em : mo_soon v c = (-2, v2 v 203 0 0) := by
      unfold mo_soon
      rw [b4, if_neg z]
    rw [em]
    exact ⟨rfl, h.thr⟩
