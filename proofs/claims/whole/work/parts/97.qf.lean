/-! what a strike that goes out by no ear is worth -/
theorem mP_of {v v' : VS} {j : Nat} {x : Int} (e : ∀ k, 33 ≤ k → k ≤ 45 ∨ (63 ≤ k ∧ k ≤ 66) → v' k = v k) : cP (v2 (cl_asTold v') 67 j x) = cP (v2 (cl_asTold v) 67 j x) := by
  obtain ⟨a0, a1, a4, a5, a6, a7, a8, a9, a68⟩ := asTold_r v
  obtain ⟨b0, b1, b4, b5, b6, b7, b8, b9, b68⟩ := asTold_r v'
  have e33 := e 33 (by omega) (by omega)
  have f : ∀ i, (cl_asTold v') 67 i = (cl_asTold v) 67 i → (v2 (cl_asTold v') 67 j x) 67 i = (v2 (cl_asTold v) 67 j x) 67 i := fun i hi => by rw [v2_eq, v2_eq, hi]
  refine cP_of2 (fun k k1 k2 => by rw [v2_row (by omega), v2_row (by omega), o_cl_asTold (by omega), o_cl_asTold (by omega)]; exact e k (by omega) (by omega)) (f 0 (by rw [a0, b0, e33])) (f 1 (by rw [a1, b1, e33])) (f 4 (by rw [a4, b4])) (f 5 (by rw [a5, b5])) (f 6 (by rw [a6, b6, e33])) (f 7 (by rw [a7, b7])) (f 8 (by rw [a8, b8])) (f 9 (by rw [a9, b9])) (by rw [v2_row (by omega), v2_row (by omega), a68, b68, e 42 (by omega) (by omega)]) (fun i hi => ?_) (fun i hi => by rw [v2_row (by omega), v2_row (by omega), asTold_72 v i hi, asTold_72 v' i hi])
  obtain ⟨x1, x2, x3⟩ := asTold_s v i hi
  obtain ⟨y1, y2, y3⟩ := asTold_s v' i hi
  rw [v2_row (show 69 ≠ 67 by omega), v2_row (show 69 ≠ 67 by omega), v2_row (show 70 ≠ 67 by omega), v2_row (show 70 ≠ 67 by omega), v2_row (show 71 ≠ 67 by omega), v2_row (show 71 ≠ 67 by omega), x1, x2, x3, y1, y2, y3, e 43 (by omega) (by omega), e 44 (by omega) (by omega), e 45 (by omega) (by omega)]
  exact ⟨rfl, rfl, rfl⟩
def uN (v : VS) (i : Int) : Int := (arun (cP (v2 (cl_asTold v) 67 5 i))).1 0 0
theorem uN_of {v v' : VS} (e : ∀ k, 33 ≤ k → k ≤ 66 → v' k = v k) (i : Int) : uN v' i = uN v i := by
  unfold uN
  rw [mP_of (v := v) (v' := v') (fun k a b => e k (by omega) (by omega))]
theorem l_pu {s : VS} (h : INV s) {i : Int} (hi : -1 ≤ i ∧ i ≤ 299) : (cl_playUnheard s i).1 = uN s i ∧ INV (cl_playUnheard s i).2 ∧ (∀ k, k < 67 ∨ (78 < k ∧ k < 91) ∨ 102 < k → (cl_playUnheard s i).2 k = s k) ∧ 0 ≤ uN s i ∧ uN s i ≤ 300 := by
  obtain ⟨hI, hA, hr, sp, pl⟩ := h.play1 (j := 5) (x := i) (by omega) hi
  have hb := (AW.run sp.g.pw).n
  exact ⟨hA.n, hI, hr, hb.1, hb.2⟩
theorem l_unh {v u : VS} (h : INV v) (hu : INV u) (e : ∀ k, k ≠ 203 → k < 219 ∨ 231 < k → u k = v k) {i : Int} (hi : -1 ≤ i ∧ i ≤ 299) : (mo_unheardOf u i).1 = (arun (tP v)).1 0 0 - uN v i ∧ INV (mo_unheardOf u i).2 ∧ (∀ k', k' ≠ 203 → k' < 219 ∨ 231 < k' → (mo_unheardOf u i).2 k' = v k') := by
  obtain ⟨a0, a1, a4, a5, a6, a7, a8, a9, a68⟩ := asTold_r v
  obtain ⟨hI, hA, hr, sp, pl⟩ := h.play1 (j := 5) (x := i) (by omega) hi
  have sp' : SP v (v2 (cl_asTold v) 67 5 i) := (SP.told h).put (by omega) hi
  obtain ⟨s1, s2, s3, s4⟩ := sB00 h hu e
  have f : ∀ j, j ≠ 5 → (v2 (cl_asTold v) 67 5 i) 67 j = (cl_asTold v) 67 j := fun j hj => by rw [v2_eq, if_neg (fun g => hj g.2)]
  obtain ⟨t1, t3, t4⟩ := mR1 (p := v2 (cl_asTold v) 67 5 i) (j := 35) (x := i) h s3 s4 (by omega) hi sp' (by rw [f 0 (by omega), a0]) (by rw [f 1 (by omega), a1]) (by rw [if_neg (by omega), f 4 (by omega), a4]) (by rw [if_pos rfl, v2_eq, if_pos ⟨rfl, rfl⟩]) (fun j hj => by rw [if_neg (by omega), v2_row (by omega), asTold_72 _ j hj])
  rw [pl] at t1
  unfold mo_unheardOf
  refine ⟨?_, t3.fld (by omega) (show (-1 : Int) ≤ -1 ∧ (-1 : Int) ≤ 299 by omega), fun k' a b => by dsimp only; rw [v2_row a]; exact t4 k' a b⟩
  dsimp only
  rw [s2, t1.n]
  rfl
theorem q_unheard {v : VS} (h : INV v) (i : Int) : (mo_unheard (cl_unheard v i).2 i).1 = (cl_unheard v i).1 ∧ INV (mo_unheard (cl_unheard v i).2 i).2 := by
  obtain ⟨b0, b1, b3, b4, bL, b9, b10⟩ := h.b0
  by_cases z : 0 < v 33 2
  · have hi := h.is
    have q := h.qq
    have hn := q.nb
    have ev : ∀ k, 33 ≤ k → k ≤ 66 → (cl_asItIs v) k = v k := fun k a b => is_r (by omega)
    have et : tP (cl_asItIs v) = tP v := tP_of (fun k a b => is_r (by omega))
    by_cases y : 0 ≤ i ∧ i < (arun (tP v)).1 0 0
    · obtain ⟨g1, g2, g3, -⟩ := l_pu hi (i := i) (by omega)
      have ec : cl_unheard v i = ((cl_asItIs v) 79 4 - (cl_playUnheard (cl_asItIs v) i).1, (cl_playUnheard (cl_asItIs v) i).2) := by
        unfold cl_unheard
        rw [if_pos z, q.ra.n, if_pos y]
      rw [ec]
      dsimp only
      obtain ⟨x, hx⟩ : ∃ x, x = (cl_playUnheard (cl_asItIs v) i).2 := ⟨_, rfl⟩
      rw [← hx] at g2 g3 ⊢
      have tx : tP x = tP v := by rw [tP_of (v := cl_asItIs v) (v' := x) (fun k a b => g3 k (by omega)), et]
      obtain ⟨s1, s2, s3, s4⟩ := sB00 g2 g2.thr (u := v2 x 203 0 0) (fun k a b => v2_row a)
      obtain ⟨t1, t2, t3⟩ := l_unh g2 s3 s4 (i := i) (by omega)
      obtain ⟨c0, c1, c3, c4, cL, c9, c10⟩ := g2.b0
      have em : mo_unheard x i = mo_unheardOf (mo_strikesBy (v2 x 203 0 0) 0 0).2 i := by
        unfold mo_unheard
        rw [cL, g3 33 (by omega), INV.is33, if_pos z, s2, tx, if_pos (by omega)]
      rw [em]
      refine ⟨?_, t2⟩
      rw [t1, tx, q.ra.n, g1, uN_of (v := cl_asItIs v) (v' := x) (fun k a b => g3 k (by omega))]
    · have ec : cl_unheard v i = (-2000000, cl_asItIs v) := by
        unfold cl_unheard
        rw [if_pos z, q.ra.n, if_neg y]
      rw [ec]
      dsimp only
      obtain ⟨s1, s2, s3, s4⟩ := sB00 hi hi.thr (u := v2 (cl_asItIs v) 203 0 0) (fun k a b => v2_row a)
      obtain ⟨c0, c1, c3, c4, cL, c9, c10⟩ := hi.b0
      have em : mo_unheard (cl_asItIs v) i = (-2000000, (mo_strikesBy (v2 (cl_asItIs v) 203 0 0) 0 0).2) := by
        unfold mo_unheard
        rw [cL, INV.is33, if_pos z, s2, et, if_neg (by omega)]
      rw [em]
      exact ⟨rfl, s3⟩
  · have ec : cl_unheard v i = (-2000000, v) := by unfold cl_unheard; rw [if_neg z]
    rw [ec]
    show (mo_unheard v i).1 = -2000000 ∧ INV (mo_unheard v i).2
    unfold mo_unheard
    rw [bL, if_neg z]
    exact ⟨rfl, h.thr⟩
def kS (U : Int → Int) : Nat → Int → Int → Int → Int → Int
  | 0, _, _, _, _ => 0
  | f + 1, g, m, n, i => if i < n then (if U i < m then kS U f i (U i) n (i + 1) else kS U f g m n (i + 1)) else g
theorem key27 {v : VS} {n : Int} (hn : n ≤ 300) : ∀ (f : Nat) (s : VS) (g m i : Int), INV s → (∀ k, k < 67 ∨ (78 < k ∧ k < 91) ∨ 102 < k → s k = v k) → 0 ≤ i → (cl_key_27 f s g m n i).1 = kS (uN v) f g m n i ∧ INV (cl_key_27 f s g m n i).2 ∧ (∀ k, k < 67 ∨ (78 < k ∧ k < 91) ∨ 102 < k → (cl_key_27 f s g m n i).2 k = v k) := by
  intro f
  induction f with
  | zero => intro s g m i hs e h0; exact ⟨rfl, hs, e⟩
  | succ f ih =>
    intro s g m i hs e h0
    rw [cl_key_27, kS]
    by_cases q : i < n
    · obtain ⟨g1, g2, g3, -⟩ := l_pu hs (i := i) (by omega)
      rw [uN_of (v := v) (v' := s) (fun k a b => e k (by omega))] at g1
      have e' : ∀ k, k < 67 ∨ (78 < k ∧ k < 91) ∨ 102 < k → (cl_playUnheard s i).2 k = v k := fun k hk => by rw [g3 k hk, e k hk]
      rw [if_pos q, if_pos q, g1]
      split
      · exact ih _ _ _ _ g2 e' (by omega)
      · exact ih _ _ _ _ g2 e' (by omega)
    · rw [if_neg q, if_neg q]
      exact ⟨rfl, hs, e⟩
theorem key29 {v : VS} (h : INV v) {n N : Int} (hn : n ≤ 300) (hN : N = (arun (tP v)).1 0 0) : ∀ (f : Nat) (u : VS) (g m m' i : Int), INV u → (∀ k, k ≠ 203 → k < 219 ∨ 231 < k → u k = v k) → 0 ≤ i → ((g = -1 ∧ m = 301) ∨ (g ≠ -1 ∧ m' = N - m)) → (mo_key_29 f u n g m' i).1 = kS (uN v) f g m n i ∧ INV (mo_key_29 f u n g m' i).2 := by
  intro f
  induction f with
  | zero => intro u g m m' i hu e h0 hm; exact ⟨rfl, hu⟩
  | succ f ih =>
    intro u g m m' i hu e h0 hm
    rw [mo_key_29, kS]
    by_cases q : i < n
    · obtain ⟨g1, g2, g3⟩ := l_unh h hu e (i := i) (by omega)
      obtain ⟨-, -, -, u0, u1⟩ := l_pu h (i := i) (by omega)
      rw [if_pos q, if_pos q, g1, ← hN]
      rcases hm with ⟨m1, m2⟩ | ⟨m1, m2⟩
      · rw [if_pos m1, if_pos (by omega)]
        exact ih _ _ _ _ _ g2 g3 (by omega) (Or.inr ⟨by omega, rfl⟩)
      · rw [if_neg m1]
        by_cases y : uN v i < m
        · rw [if_pos y, if_pos (by omega)]
          exact ih _ _ _ _ _ g2 g3 (by omega) (Or.inr ⟨by omega, rfl⟩)
        · rw [if_neg y, if_neg (by omega)]
          exact ih _ _ _ _ _ g2 g3 (by omega) (Or.inr ⟨m1, m2⟩)
    · rw [if_neg q, if_neg q]
      exact ⟨rfl, hu⟩
theorem q_key {v : VS} (h : INV v) : (mo_key (cl_key v).2).1 = (cl_key v).1 ∧ INV (mo_key (cl_key v).2).2 := by
  obtain ⟨b0, b1, b3, b4, bL, b9, b10⟩ := h.b0
  by_cases z : 0 < v 33 2
  · have hi := h.is
    have q := h.qq
    have hn := q.nb
    have et : tP (cl_asItIs v) = tP v := tP_of (fun k a b => is_r (by omega))
    obtain ⟨k1, k2, k3⟩ := key27 (v := cl_asItIs v) (n := (arun (tP v)).1 0 0) hn.2 301 (cl_asItIs v) (-1) 301 0 hi (fun k _ => rfl) (by omega)
    have ec : cl_key v = ((cl_key_27 301 (cl_asItIs v) (-1) 301 ((arun (tP v)).1 0 0) 0).1, (cl_key_27 301 (cl_asItIs v) (-1) 301 ((arun (tP v)).1 0 0) 0).2) := by
      unfold cl_key
      rw [if_pos z, q.ra.n]
    rw [ec]
    dsimp only
    obtain ⟨x, hx⟩ : ∃ x, x = (cl_key_27 301 (cl_asItIs v) (-1) 301 ((arun (tP v)).1 0 0) 0).2 := ⟨_, rfl⟩
    rw [← hx] at k2 k3 ⊢
    have tx : tP x = tP v := by rw [tP_of (v := cl_asItIs v) (v' := x) (fun k a b => k3 k (by omega)), et]
    obtain ⟨s1, s2, s3, s4⟩ := sB00 k2 k2.thr (u := v2 x 203 0 0) (fun k a b => v2_row a)
    obtain ⟨c0, c1, c3, c4, cL, c9, c10⟩ := k2.b0
    rw [tx] at s2
    obtain ⟨t1, t2⟩ := key29 k2 (n := (arun (tP v)).1 0 0) (N := (arun (tP v)).1 0 0) hn.2 (by rw [tx]) 301 (mo_strikesBy (v2 x 203 0 0) 0 0).2 (-1) 301 0 0 s3 s4 (by omega) (Or.inl ⟨rfl, rfl⟩)
    have em : mo_key x = ((mo_key_29 301 (mo_strikesBy (v2 x 203 0 0) 0 0).2 ((arun (tP v)).1 0 0) (-1) 0 0).1, (mo_key_29 301 (mo_strikesBy (v2 x 203 0 0) 0 0).2 ((arun (tP v)).1 0 0) (-1) 0 0).2) := by
      unfold mo_key
      rw [cL, k3 33 (by omega), INV.is33, if_pos z, s2]
    rw [em]
    refine ⟨?_, t2⟩
    have ef : uN x = uN (cl_asItIs v) := by funext i; exact uN_of (fun k a b => k3 k (by omega)) i
    dsimp only
    rw [t1, k1, ef]
  · have ec : cl_key v = (-2, v) := by unfold cl_key; rw [if_neg z]
    rw [ec]
    show (mo_key v).1 = -2 ∧ INV (mo_key v).2
    unfold mo_key
    rw [bL, if_neg z]
    exact ⟨rfl, h.thr⟩
/-! what a wind gains -/
def gP (v : VS) (n : Int) : VS := cP (jf_72 (cl_asTold v) n)
theorem jf72_row {v : VS} {x : Int} {k : Nat} (h : k ≠ 72) : (jf_72 v x) k = v k := by unfold jf_72; exact vfill_row h
theorem jf72_at {v : VS} {x : Int} {j : Nat} (h : j < 10) : (jf_72 v x) 72 j = x := by unfold jf_72; simp [vfill, fset_at, h]
theorem gP_of {v v' : VS} {n : Int} (e : ∀ k, 33 ≤ k → k ≤ 45 ∨ (63 ≤ k ∧ k ≤ 66) → v' k = v k) : gP v' n = gP v n := by
  obtain ⟨a0, a1, a4, a5, a6, a7, a8, a9, a68⟩ := asTold_r v
  obtain ⟨b0, b1, b4, b5, b6, b7, b8, b9, b68⟩ := asTold_r v'
  have e33 := e 33 (by omega) (by omega)
  have f : ∀ u : VS, (jf_72 (cl_asTold u) n) 67 = (cl_asTold u) 67 := fun u => jf72_row (by omega)
  unfold gP
  refine cP_of2 (fun k k1 k2 => by rw [jf72_row (by omega), jf72_row (by omega), o_cl_asTold (by omega), o_cl_asTold (by omega)]; exact e k (by omega) (by omega)) (by rw [f, f, a0, b0, e33]) (by rw [f, f, a1, b1, e33]) (by rw [f, f, a4, b4]) (by rw [f, f, a5, b5]) (by rw [f, f, a6, b6, e33]) (by rw [f, f, a7, b7]) (by rw [f, f, a8, b8]) (by rw [f, f, a9, b9]) (by rw [jf72_row (by omega), jf72_row (by omega), a68, b68, e 42 (by omega) (by omega)]) (fun i hi => ?_) (fun i hi => by rw [jf72_at hi, jf72_at hi])
  obtain ⟨x1, x2, x3⟩ := asTold_s v i hi
  obtain ⟨y1, y2, y3⟩ := asTold_s v' i hi
  rw [jf72_row (show 69 ≠ 72 by omega), jf72_row (show 69 ≠ 72 by omega), jf72_row (show 70 ≠ 72 by omega), jf72_row (show 70 ≠ 72 by omega), jf72_row (show 71 ≠ 72 by omega), jf72_row (show 71 ≠ 72 by omega), x1, x2, x3, y1, y2, y3, e 43 (by omega) (by omega), e 44 (by omega) (by omega), e 45 (by omega) (by omega)]
  exact ⟨rfl, rfl, rfl⟩
theorem INV.playW {s : VS} (h : INV s) {n : Int} (hn : -20 ≤ n ∧ n ≤ 20) : INV (xplay 91 (jf_72 (cl_asTold s) n)) ∧ RA 91 (arun (gP s n)) (xplay 91 (jf_72 (cl_asTold s) n)) ∧ (∀ k, k < 67 ∨ (78 < k ∧ k < 91) ∨ 102 < k → (xplay 91 (jf_72 (cl_asTold s) n)) k = s k) ∧ SP s (jf_72 (cl_asTold s) n) ∧ pln (gP s n) = gP s n := by
  have st := SP.told h
  have hx : XI (jf_72 (cl_asTold s) n) := by
    intro k j
    by_cases e : k = 72
    · subst e
      by_cases q : j < 10
      · rw [jf72_at q]; exact hn
      · have e2 : (jf_72 (cl_asTold s) n) 72 j = (cl_asTold s) 72 j := by
          unfold jf_72
          simp [vfill, fset_at, q]
        rw [e2]
        exact st.g.x 72 j
    · rw [jf72_row e]; exact st.g.x k j
  have sp : SP s (jf_72 (cl_asTold s) n) := by
    refine ⟨st.g.mod hx (fun k a b => jf72_row (by omega)) (fun k a b => jf72_row (by omega)) (by rw [jf72_row (by omega)]), fun k a b => by rw [jf72_row (by omega)]; exact st.e k a b, by rw [jf72_row (by omega)]; exact st.n, ?_⟩
    rw [jf72_row (by omega), jf72_row (by omega), jf72_row (by omega)]
    exact st.s
  obtain ⟨g1, g2, g3⟩ := h.play (p := jf_72 (cl_asTold s) n) (fun k hk => by rw [jf72_row (by omega), o_cl_asTold (by omega)]) sp.g
  obtain ⟨a0, a1, a4, a5, a6, a7, a8, a9, a68⟩ := asTold_r s
  have f : (jf_72 (cl_asTold s) n) 67 = (cl_asTold s) 67 := jf72_row (by omega)
  refine ⟨g1, g2, g3, sp, pln_cP ?_ ?_ ?_ ?_⟩
  · rw [f, a6, jf72_row (by omega), o_cl_asTold (by omega)]
  · rw [f, a7]
  · rw [f, a8]
  · rw [f, a9]
/-- the second by which all have struck -/
def aS (A : SS) : Nat → Int → Int → Int → Int
  | 0, _, _, _ => 0
  | f + 1, n, s, i => if i < n then (if A.1 13 i.toNat = -1 then -1 else aS A f n (max s (A.1 1 (A.1 13 i.toNat).toNat)) (i + 1)) else s
theorem RA.rd {R : Nat} {A : SS} {x : VS} (h : RA R A x) {i : Nat} (hi : (i : Int) < A.1 0 0) : x (R + 1) i = A.1 1 i ∧ x (R + 2) i = A.1 2 i ∧ x (R + 3) i = A.1 3 i ∧ x (R + 4) i = A.1 4 i ∧ x (R + 5) i = A.1 5 i :=
  ⟨h.st 1 i (by omega) (by omega) hi, h.st 2 i (by omega) (by omega) hi, h.st 3 i (by omega) (by omega) hi, h.st 4 i (by omega) (by omega) hi, h.st 5 i (by omega) (by omega) hi⟩
theorem AW.f1 {P : VS} {T C : Nat} {A : SS} (h : AW P T C A) (c : Nat) : A.1 13 c = -1 ∨ (0 ≤ A.1 13 c ∧ A.1 13 c < A.1 0 0 ∧ A.1 2 (A.1 13 c).toNat = c ∧ ∀ i : Nat, (i : Int) < A.1 13 c → A.1 2 i ≠ c) := by
  rcases h.b c with g | g
  · exact Or.inl (h.no c g).2.2.1
  · obtain ⟨-, g2, g3, g4⟩ := h.ye c g
    exact Or.inr ⟨g2.1, g2.2, g3, g4⟩
theorem nx91_spec {A : SS} {x : VS} (h : RA 91 A x) {c : Int} : ∀ (f i : Nat), (i : Int) ≤ A.1 0 0 → A.1 0 0 < i + f →
    (cl_nextOf91_2 f x c i = -1 ∧ ∀ j : Nat, i ≤ j → (j : Int) < A.1 0 0 → A.1 2 j ≠ c) ∨ (∃ j : Nat, cl_nextOf91_2 f x c i = j ∧ i ≤ j ∧ (j : Int) < A.1 0 0 ∧ A.1 2 j = c ∧ ∀ k : Nat, i ≤ k → k < j → A.1 2 k ≠ c) := by
  intro f
  induction f with
  | zero => intro i h1 h2; omega
  | succ f ih =>
    intro i h1 h2
    rw [cl_nextOf91_2, h.n, toN, show ((i : Int) + 1) = ((i + 1 : Nat) : Int) by omega]
    by_cases q : (i : Int) < A.1 0 0
    · have x93 : x 93 i = A.1 2 i := (h.rd q).2.1
      rw [if_pos q, x93]
      by_cases q2 : A.1 2 i = c
      · rw [if_pos q2]
        exact Or.inr ⟨i, rfl, Nat.le_refl _, q, q2, fun k a b => by omega⟩
      · rw [if_neg q2]
        rcases ih (i + 1) (by omega) (by omega) with ⟨g1, g2⟩ | ⟨j, g1, g2, g3, g4, g5⟩
        · refine Or.inl ⟨g1, fun j a b => ?_⟩
          by_cases e : j = i
          · rw [e]; exact q2
          · exact g2 j (by omega) b
        · refine Or.inr ⟨j, g1, by omega, g3, g4, fun k a b => ?_⟩
          by_cases e : k = i
          · rw [e]; exact q2
          · exact g5 k (by omega) b
    · rw [if_neg q]
      exact Or.inl ⟨rfl, fun j a b => by omega⟩
theorem nx91 {A : SS} {x P : VS} {T C : Nat} (h : RA 91 A x) (hA : AW P T C A) (c : Nat) : cl_nextOf91 x c 0 = A.1 13 c := by
  have hn := hA.n
  unfold cl_nextOf91
  have s := nx91_spec h (c := (c : Int)) 301 0 (by omega) (by omega)
  rw [show ((0 : Nat) : Int) = 0 from rfl] at s
  rcases hA.b c with g | g
  · obtain ⟨-, -, g3, g4⟩ := hA.no c g
    rcases s with ⟨s1, -⟩ | ⟨j, s1, -, s3, s4, -⟩
    · rw [s1, g3]
    · exact absurd s4 (g4 j s3)
  · obtain ⟨-, g2, g3, g4⟩ := hA.ye c g
    rcases s with ⟨-, s2⟩ | ⟨j, s1, -, s3, s4, s5⟩
    · exact absurd g3 (s2 _ (by omega) (by omega))
    · rw [s1]
      have a1 : ¬ (j : Int) < A.1 13 c := fun z => g4 j z s4
      have a2 : ¬ (A.1 13 c).toNat < j := fun z => s5 _ (by omega) z g3
      omega
theorem asb91 {A : SS} {x P : VS} {T C : Nat} (h : RA 91 A x) (hA : AW P T C A) {n : Int} : ∀ (f i : Nat) (s : Int), cl_allStruckBy91_4 f x n s i = aS A f n s i := by
  intro f
  induction f with
  | zero => intro i s; rfl
  | succ f ih =>
    intro i s
    rw [cl_allStruckBy91_4, aS, nx91 h hA, toN, show ((i : Int) + 1) = ((i + 1 : Nat) : Int) by omega]
    split
    · rcases hA.f1 i with g | ⟨g1, g2, -⟩
      · rw [if_pos g, if_pos g]
      · rw [if_neg (by omega), if_neg (by omega)]
        obtain ⟨F, hF⟩ : ∃ F : Nat, A.1 13 i = F := ⟨(A.1 13 i).toNat, by omega⟩
        have x92 : x 92 F = A.1 1 F := (h.rd (i := F) (by omega)).1
        rw [hF, toN, x92]
        exact ih _ _
    · rfl
theorem asb79 {A : SS} {P x u : VS} (h : QQ A P x u) {n : Int} : ∀ (f i : Nat) (s : Int), cl_allStruckBy79_4 f x n s i = aS A f n s i := by
  intro f
  induction f with
  | zero => intro i s; rfl
  | succ f ih =>
    intro i s
    rw [cl_allStruckBy79_4, aS, h.nx, toN, show ((i : Int) + 1) = ((i + 1 : Nat) : Int) by omega]
    split
    · rcases h.f1 i with g | ⟨g1, g2, -⟩
      · rw [if_pos g, if_pos g]
      · rw [if_neg (by omega), if_neg (by omega)]
        obtain ⟨F, hF⟩ : ∃ F : Nat, A.1 13 i = F := ⟨(A.1 13 i).toNat, by omega⟩
        rw [hF, toN, (h.rd (i := F) (by omega)).1]
        exact ih _ _
    · rfl
theorem RM.fa {A : SS} {u P : VS} {T C : Nat} (h : RM A u) (hA : AW P T C A) {c : Nat} (hc : c < 9) : u 230 c = A.1 13 c ∧ mo_firstAt u c = if A.1 13 c = -1 then -1 else A.1 1 (A.1 13 c).toNat := by
  have f0 := (h.la c hc).2.2.1
  refine ⟨f0, ?_⟩
  unfold mo_firstAt
  rw [toN, f0]
  rcases hA.f1 c with g | ⟨g1, g2, -⟩
  · rw [if_pos g, if_pos g]
  · rw [if_neg (by omega), if_neg (by omega)]
    obtain ⟨j, hj⟩ : ∃ j : Nat, A.1 13 c = j := ⟨(A.1 13 c).toNat, by omega⟩
    rw [hj, toN]
    have := h.st 0 j (by omega) (by omega)
    rw [show (0 : Int) = ((0 : Nat) : Int) from rfl, at_n]
    exact this
theorem lf4 {A : SS} {u P : VS} {T C : Nat} (h : RM A u) (hA : AW P T C A) (h9 : u 210 0 ≤ 9) : ∀ (f i : Nat) (s : Int), mo_lastFirst_4 f u s i = aS A f (u 210 0) s i := by
  intro f
  induction f with
  | zero => intro i s; rfl
  | succ f ih =>
    intro i s
    rw [mo_lastFirst_4, aS, toN, show ((i : Int) + 1) = ((i + 1 : Nat) : Int) by omega]
    split
    · rename_i q
      obtain ⟨f0, fa⟩ := h.fa hA (c := i) (by omega)
      rw [f0, fa]
      rcases hA.f1 i with g | ⟨g1, g2, -⟩
      · rw [if_pos g, if_pos g]
      · rw [if_neg (show ¬ A.1 13 i = -1 by omega), if_neg (show ¬ A.1 13 i = -1 by omega), if_neg (show ¬ A.1 13 i = -1 by omega)]
        obtain ⟨y, hy⟩ : ∃ y, y = A.1 1 (A.1 13 i).toNat := ⟨_, rfl⟩
        rw [← hy]
        split
        · rw [show max s y = y by omega]; exact ih _ _
        · rw [show max s y = s by omega]; exact ih _ _
    · rfl
theorem aS_0 {A : SS} {P : VS} {T C : Nat} (hA : AW P T C A) {f : Nat} {n : Int} (hn : 1 ≤ n) : aS A (f + 1) n (-1) 0 = aS A (f + 1) n 0 0 := by
  rw [aS, aS, if_pos (show (0 : Int) < n by omega), if_pos (show (0 : Int) < n by omega)]
  by_cases g : A.1 13 (0 : Int).toNat = -1
  · rw [if_pos g, if_pos g]
  · rw [if_neg g, if_neg g]
    rcases hA.f1 0 with y | ⟨g1, g2, -⟩
    · exact absurd y g
    · have := (hA.st (A.1 13 0).toNat (by omega)).1
      have e : A.1 13 (0 : Int).toNat = A.1 13 0 := rfl
      rw [e, show max (-1) (A.1 1 (A.1 13 0).toNat) = max 0 (A.1 1 (A.1 13 0).toNat) by omega]
def lF (v P : VS) : Int := aS (arun P) 10 (v 33 0) 0 0
def gN (v : VS) (n : Int) : Int := if lF v (tP v) = -1 then -2000000 else if lF v (gP v n) = -1 then -2000000 else lF v (tP v) - lF v (gP v n)
theorem gN_of {v v' : VS} (e : ∀ k, 33 ≤ k → k ≤ 66 → v' k = v k) (n : Int) : gN v' n = gN v n := by
  unfold gN lF
  rw [gP_of (v := v) (v' := v') (fun k a b => e k (by omega) (by omega)), tP_of (v := v) (v' := v') (fun k a b => e k (by omega) (by omega)), e 33 (by omega) (by omega)]
theorem l_gained {s : VS} (h : INV s) (hb : 0 < s 33 2) {n : Int} (hn : -20 ≤ n ∧ n ≤ 20) : (cl_gained s (lF s (tP s)) n).1 = gN s n ∧ INV (cl_gained s (lF s (tP s)) n).2 ∧ (∀ k, k < 67 ∨ (78 < k ∧ k < 91) ∨ 102 < k → (cl_gained s (lF s (tP s)) n).2 k = s k) := by
  have hC := (h.i.g.pos hb).1
  obtain ⟨g1, g2, g3, sp, pl⟩ := h.playW hn
  have hA := AW.run sp.g.pw
  have e33 : (xplay 91 (jf_72 (cl_asTold s) n)) 33 = s 33 := g3 33 (by omega)
  have e : cl_allStruckBy91 (xplay 91 (jf_72 (cl_asTold s) n)) ((xplay 91 (jf_72 (cl_asTold s) n)) 33 0) = lF s (gP s n) := by
    unfold cl_allStruckBy91 lF
    rw [e33]
    have := asb91 g2 hA (n := s 33 0) 10 0 (-1)
    rw [show ((0 : Nat) : Int) = 0 from rfl] at this
    rw [this]
    exact aS_0 hA hC
  unfold cl_gained gN
  rw [e]
  by_cases z : lF s (tP s) = -1
  · rw [if_pos z, if_pos z]; exact ⟨rfl, h, fun k _ => rfl⟩
  · rw [if_neg z, if_neg z]
    split
    · exact ⟨rfl, g1, g3⟩
    · exact ⟨rfl, g1, g3⟩
theorem l_gainOf {v u : VS} (h : INV v) (hu : INV u) (e : ∀ k, k ≠ 203 → k < 219 ∨ 231 < k → u k = v k) {n : Int} (hn : -20 ≤ n ∧ n ≤ 20) : (mo_gainOf u n).1 = gN v n ∧ INV (mo_gainOf u n).2 ∧ (∀ k', k' ≠ 203 → k' < 219 ∨ 231 < k' → (mo_gainOf u n).2 k' = v k') := by
  have h9 : 0 ≤ v 33 0 ∧ v 33 0 ≤ 9 := h.i.x 33 0
  obtain ⟨b0, -⟩ := h.b0
  obtain ⟨a0, a1, a4, a5, a6, a7, a8, a9, a68⟩ := asTold_r v
  obtain ⟨g1, g2, g3, sp, pl⟩ := h.playW hn
  have ht := told_RM h.i h.a e hu.i.x
  have er : ∀ k', k' ≠ 203 → k' < 219 ∨ 231 < k' → (mo_told u) k' = v k' := fun k' a b => by rw [o_mo_told (by omega), e k' a b]
  have hI : INV (mo_told u) := hu.ref (i_mo_told hu.i.x hu.i.c) (fun j hj => o_mo_told (by omega)) (told_f (by omega)) (told_f (by omega)) (told_f (by omega))
  have f : (jf_72 (cl_asTold v) n) 67 = (cl_asTold v) 67 := jf72_row (by omega)
  obtain ⟨t1, t3, t4⟩ := mR1 (p := jf_72 (cl_asTold v) n) (j := 27) (x := n) h hI er (by omega) hn sp (by rw [f, a0]) (by rw [f, a1]) (by rw [if_neg (by omega), f, a4]) (by rw [if_neg (by omega), f, a5]) (fun j hj => by rw [if_pos rfl, jf72_at hj])
  have pl' : pln (cP (jf_72 (cl_asTold v) n)) = gP v n := pl
  rw [pl'] at t1
  have l1 : mo_lastFirst (mo_told u) = lF v (tP v) := by
    unfold mo_lastFirst lF
    have := lf4 ht (AW.run h.i.pw) (by rw [er 210 (by omega) (by omega), b0]; exact h9.2) 10 0 0
    rw [show ((0 : Nat) : Int) = 0 from rfl, er 210 (by omega) (by omega), b0] at this
    exact this
  have l2 : mo_lastFirst (mo_run (v2 (mo_plainly (mo_told u)) 203 27 n)) = lF v (gP v n) := by
    unfold mo_lastFirst lF
    have := lf4 t1 (AW.run sp.g.pw) (by rw [t4 210 (by omega) (by omega), b0]; exact h9.2) 10 0 0
    rw [show ((0 : Nat) : Int) = 0 from rfl, t4 210 (by omega) (by omega), b0] at this
    exact this
  unfold mo_gainOf mo_gainOf_9 gN
  rw [l1, l2]
  by_cases z : lF v (tP v) = -1
  · rw [if_pos z, if_pos z]; exact ⟨rfl, t3, t4⟩
  · rw [if_neg z, if_neg z]
    split
    · exact ⟨rfl, t3, t4⟩
    · exact ⟨rfl, t3, t4⟩
theorem QQ.lf {v : VS} (h : INV v) (hb : 0 < v 33 2) : cl_allStruckBy79 (cl_asItIs v) ((cl_asItIs v) 33 0) = lF (cl_asItIs v) (tP (cl_asItIs v)) := by
  have q := h.qq
  have hC := (h.i.g.pos hb).1
  have et : tP (cl_asItIs v) = tP v := tP_of (fun k a b => is_r (by omega))
  unfold cl_allStruckBy79 lF
  have := asb79 q (n := (cl_asItIs v) 33 0) 10 0 (-1)
  rw [show ((0 : Nat) : Int) = 0 from rfl] at this
  rw [this, et]
  exact aS_0 q.aw (by rw [INV.is33]; exact hC)
theorem q_gain {v : VS} (h : INV v) (n : Int) : (mo_gain (cl_gain v n).2 n).1 = (cl_gain v n).1 ∧ INV (mo_gain (cl_gain v n).2 n).2 := by
  obtain ⟨b0, b1, b3, b4, bL, b9, b10⟩ := h.b0
  by_cases z : 0 < v 33 2 ∧ (-20 ≤ n ∧ n ≤ 20)
  · have hi := h.is
    obtain ⟨g1, g2, g3⟩ := l_gained hi (by rw [INV.is33]; exact z.1) z.2
    have ec : cl_gain v n = ((cl_gained (cl_asItIs v) (lF (cl_asItIs v) (tP (cl_asItIs v))) n).1, (cl_gained (cl_asItIs v) (lF (cl_asItIs v) (tP (cl_asItIs v))) n).2) := by
      unfold cl_gain
      rw [if_pos z.1, if_neg (by omega), if_neg (by omega), QQ.lf h z.1]
    rw [ec]
    dsimp only
    obtain ⟨x, hx⟩ : ∃ x, x = (cl_gained (cl_asItIs v) (lF (cl_asItIs v) (tP (cl_asItIs v))) n).2 := ⟨_, rfl⟩
    rw [← hx] at g2 g3 ⊢
    obtain ⟨c0, c1, c3, c4, cL, c9, c10⟩ := g2.b0
    obtain ⟨t1, t2, t3⟩ := l_gainOf g2 g2.thr (u := v2 x 203 0 0) (fun k a b => v2_row a) z.2
    have em : mo_gain x n = ((mo_gainOf (v2 x 203 0 0) n).1, (mo_gainOf (v2 x 203 0 0) n).2) := by
      unfold mo_gain
      rw [cL, g3 33 (by omega), INV.is33, if_pos z.1, if_pos z.2]
    rw [em]
    refine ⟨?_, t2⟩
    dsimp only
    rw [t1, g1, gN_of (v := cl_asItIs v) (v' := x) (fun k a b => g3 k (by omega))]
  · have ec : cl_gain v n = (-2000000, v) := by
      unfold cl_gain
      repeat' split
      all_goals first | rfl | (exfalso; omega)
    rw [ec]
    show (mo_gain v n).1 = -2000000 ∧ INV (mo_gain v n).2
    have em : mo_gain v n = (-2000000, v2 v 203 0 0) := by
      unfold mo_gain
      repeat' split
      all_goals first | rfl | (exfalso; omega)
    rw [em]
    exact ⟨rfl, h.thr⟩
def wS (G : Int → Int) : Nat → Int → Int → Int → Int
  | 0, _, _, _ => 0
  | f + 1, g, m, n => if 20 < n then g else if m < G n then wS G f n (G n) (n + 1) else wS G f g m (n + 1)
theorem wise35 {v : VS} (hb : 0 < v 33 2) : ∀ (f : Nat) (s : VS) (g m n : Int), INV s → (∀ k, k < 67 ∨ (78 < k ∧ k < 91) ∨ 102 < k → s k = v k) → -20 ≤ n → (cl_wise_35 f s (lF v (tP v)) g m n).1 = wS (gN v) f g m n ∧ INV (cl_wise_35 f s (lF v (tP v)) g m n).2 ∧ (∀ k, k < 67 ∨ (78 < k ∧ k < 91) ∨ 102 < k → (cl_wise_35 f s (lF v (tP v)) g m n).2 k = v k) := by
  intro f
  induction f with
  | zero => intro s g m n hs e h0; exact ⟨rfl, hs, e⟩
  | succ f ih =>
    intro s g m n hs e h0
    rw [cl_wise_35, wS]
    by_cases q : 20 < n
    · rw [if_pos q, if_pos q]; exact ⟨rfl, hs, e⟩
    · have el : lF s (tP s) = lF v (tP v) := by
        unfold lF
        rw [tP_of (v := v) (v' := s) (fun k a b => e k (by omega)), e 33 (by omega)]
      obtain ⟨g1, g2, g3⟩ := l_gained hs (by rw [e 33 (by omega)]; exact hb) (n := n) (by omega)
      rw [el, gN_of (v := v) (v' := s) (fun k a b => e k (by omega))] at g1
      rw [el] at g2 g3
      have e' : ∀ k, k < 67 ∨ (78 < k ∧ k < 91) ∨ 102 < k → (cl_gained s (lF v (tP v)) n).2 k = v k := fun k hk => by rw [g3 k hk, e k hk]
      rw [if_neg q, if_neg q, g1]
      split
      · exact ih _ _ _ _ g2 e' (by omega)
      · exact ih _ _ _ _ g2 e' (by omega)
theorem wise27 {v : VS} (h : INV v) : ∀ (f : Nat) (u : VS) (g m n : Int), INV u → (∀ k, k ≠ 203 → k < 219 ∨ 231 < k → u k = v k) → -20 ≤ n → (mo_wise_27 f u g m n).1 = wS (gN v) f g m n ∧ INV (mo_wise_27 f u g m n).2 := by
  intro f
  induction f with
  | zero => intro u g m n hu e h0; exact ⟨rfl, hu⟩
  | succ f ih =>
    intro u g m n hu e h0
    rw [mo_wise_27, wS]
    by_cases q : 20 < n
    · rw [if_pos q, if_pos q]; exact ⟨rfl, hu⟩
    · obtain ⟨g1, g2, g3⟩ := l_gainOf h hu e (n := n) (by omega)
      rw [if_neg q, if_neg q, g1]
      split
      · exact ih _ _ _ _ g2 g3 (by omega)
      · exact ih _ _ _ _ g2 g3 (by omega)
theorem q_wise {v : VS} (h : INV v) : (mo_wise (cl_wise v).2).1 = (cl_wise v).1 ∧ INV (mo_wise (cl_wise v).2).2 := by
  obtain ⟨b0, b1, b3, b4, bL, b9, b10⟩ := h.b0
  by_cases z : 0 < v 33 2
  · have hi := h.is
    obtain ⟨g1, g2, g3⟩ := wise35 (v := cl_asItIs v) (by rw [INV.is33]; exact z) 42 (cl_asItIs v) (-2000000) (-2000000) (-20) hi (fun k _ => rfl) (by omega)
    have ec : cl_wise v = ((cl_wise_35 42 (cl_asItIs v) (lF (cl_asItIs v) (tP (cl_asItIs v))) (-2000000) (-2000000) (-20)).1, (cl_wise_35 42 (cl_asItIs v) (lF (cl_asItIs v) (tP (cl_asItIs v))) (-2000000) (-2000000) (-20)).2) := by
      unfold cl_wise
      rw [if_pos z, QQ.lf h z]
    rw [ec]
    dsimp only
    obtain ⟨x, hx⟩ : ∃ x, x = (cl_wise_35 42 (cl_asItIs v) (lF (cl_asItIs v) (tP (cl_asItIs v))) (-2000000) (-2000000) (-20)).2 := ⟨_, rfl⟩
    rw [← hx] at g2 g3 ⊢
    obtain ⟨c0, c1, c3, c4, cL, c9, c10⟩ := g2.b0
    obtain ⟨t1, t2⟩ := wise27 g2 42 (v2 x 203 0 0) (-2000000) (-2000000) (-20) g2.thr (fun k a b => v2_row a) (by omega)
    have em : mo_wise x = ((mo_wise_27 42 (v2 x 203 0 0) (-2000000) (-2000000) (-20)).1, (mo_wise_27 42 (v2 x 203 0 0) (-2000000) (-2000000) (-20)).2) := by
      unfold mo_wise
      rw [cL, g3 33 (by omega), INV.is33, if_pos z]
    rw [em]
    refine ⟨?_, t2⟩
    have ef : gN x = gN (cl_asItIs v) := by funext i; exact gN_of (fun k a b => g3 k (by omega)) i
    dsimp only
    rw [t1, g1, ef]
  · have ec : cl_wise v = (-2000000, v) := by unfold cl_wise; rw [if_neg z]
    rw [ec]
    show (mo_wise v).1 = -2000000 ∧ INV (mo_wise v).2
    unfold mo_wise
    rw [bL, if_neg z]
    exact ⟨rfl, h.thr⟩
