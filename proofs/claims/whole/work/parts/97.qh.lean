/-! which ears are needed -/
theorem cP_stop {p : VS} (h6 : p 67 6 = p 33 1 - 1) : cP p 0 1 = cP p 0 2 := by
  obtain ⟨c0, c1, c2, -⟩ := cP_0 p
  rw [c1, c2, h6]
  omega
theorem stopC {p : VS} (sg : SG p) {c : Nat} (h6 : p 67 6 = p 33 1 - 1) (h7 : p 67 7 = c) (h8 : p 67 8 = 300) (h9 : p 67 9 = 300) : (arun (cP p)).1 0 2 = 0 ↔ (arun (pln (cP p))).1 14 c = 0 := by
  obtain ⟨u1, u2⟩ := uw_iff sg.pw (cP_stop h6)
  have hA := AW.run sg.pw.toPln
  have hT := sg.pw.toPln.T
  obtain ⟨c0, c1, c2, c3, c4, c5, c6, c7, c8, c9⟩ := cP_0 p
  obtain ⟨z1, z2⟩ := acnt_0 (f := (arun (pln (cP p))).1 2) (c := (c : Int)) ((arun (pln (cP p))).1 0 0).toNat
  rw [hA.mn, z2]
  have hn := hA.n
  constructor
  · intro g i hi e
    have := u2.mpr ⟨i, by omega, Or.inl (by rw [c6, h7]; exact e)⟩
    omega
  · intro g
    rcases u1 with y | y
    · exact y
    · obtain ⟨i, i1, i2⟩ := u2.mp y
      have hs := (hA.st i i1).1
      rcases i2 with i2 | i2 | i2
      · rw [c6, h7] at i2
        exact absurd i2 (g i (by omega))
      · rw [c7, h8] at i2
        omega
      · rw [c8, h9] at i2
        omega
theorem mP2_of {v v' : VS} {j j' : Nat} {x x' : Int} (e : ∀ k, 33 ≤ k → k ≤ 45 ∨ (63 ≤ k ∧ k ≤ 66) → v' k = v k) : cP (v2 (v2 (cl_asTold v') 67 j x) 67 j' x') = cP (v2 (v2 (cl_asTold v) 67 j x) 67 j' x') := by
  obtain ⟨a0, a1, a4, a5, a6, a7, a8, a9, a68⟩ := asTold_r v
  obtain ⟨b0, b1, b4, b5, b6, b7, b8, b9, b68⟩ := asTold_r v'
  have e33 := e 33 (by omega) (by omega)
  have f : ∀ i, (cl_asTold v') 67 i = (cl_asTold v) 67 i → (v2 (v2 (cl_asTold v') 67 j x) 67 j' x') 67 i = (v2 (v2 (cl_asTold v) 67 j x) 67 j' x') 67 i := fun i hi => by rw [v2_eq, v2_eq, v2_eq, v2_eq, hi]
  have r : ∀ (u : VS) k, k ≠ 67 → (v2 (v2 (cl_asTold u) 67 j x) 67 j' x') k = (cl_asTold u) k := fun u k hk => by rw [v2_row hk, v2_row hk]
  refine cP_of2 (fun k k1 k2 => by rw [r _ k (by omega), r _ k (by omega), o_cl_asTold (by omega), o_cl_asTold (by omega)]; exact e k (by omega) (by omega)) (f 0 (by rw [a0, b0, e33])) (f 1 (by rw [a1, b1, e33])) (f 4 (by rw [a4, b4])) (f 5 (by rw [a5, b5])) (f 6 (by rw [a6, b6, e33])) (f 7 (by rw [a7, b7])) (f 8 (by rw [a8, b8])) (f 9 (by rw [a9, b9])) (by rw [r _ 68 (by omega), r _ 68 (by omega), a68, b68, e 42 (by omega) (by omega)]) (fun i hi => ?_) (fun i hi => by rw [r _ 72 (by omega), r _ 72 (by omega), asTold_72 v i hi, asTold_72 v' i hi])
  obtain ⟨x1, x2, x3⟩ := asTold_s v i hi
  obtain ⟨y1, y2, y3⟩ := asTold_s v' i hi
  rw [r _ 69 (by omega), r _ 69 (by omega), r _ 70 (by omega), r _ 70 (by omega), r _ 71 (by omega), r _ 71 (by omega), x1, x2, x3, y1, y2, y3, e 43 (by omega) (by omega), e 44 (by omega) (by omega), e 45 (by omega) (by omega)]
  exact ⟨rfl, rfl, rfl⟩
def nQ (v : VS) (c : Nat) (e : Nat) : VS := v2 (v2 (cl_asTold v) 67 1 (setb (v 33 5) e)) 67 7 c
def nM (v : VS) (c : Nat) (e : Nat) : Int := (arun (pln (cP (nQ v c e)))).1 14 c
theorem nM_of {v v' : VS} (h : ∀ k, 33 ≤ k → k ≤ 66 → v' k = v k) (c e : Nat) : nM v' c e = nM v c e := by
  unfold nM nQ
  rw [h 33 (by omega) (by omega), mP2_of (v := v) (v' := v') (fun k a b => h k (by omega) (by omega))]
theorem nQ_ok {v : VS} (h : INV v) {c e : Nat} (hc : c < 9) (he : e < 12) : SP v (nQ v c e) ∧ (∀ k, k < 67 ∨ 72 < k → nQ v c e k = v k) ∧ nQ v c e 67 6 = nQ v c e 33 1 - 1 ∧ nQ v c e 67 7 = c ∧ nQ v c e 67 8 = 300 ∧ nQ v c e 67 9 = 300 ∧ nQ v c e 67 0 = v 33 4 ∧ nQ v c e 67 1 = setb (v 33 5) e ∧ nQ v c e 67 4 = -1 ∧ nQ v c e 67 5 = -1 ∧ (∀ j, j < 10 → nQ v c e 72 j = 0) := by
  obtain ⟨a0, a1, a4, a5, a6, a7, a8, a9, a68⟩ := asTold_r v
  have e5 : 0 ≤ v 33 5 ∧ v 33 5 ≤ 4095 := h.i.x 33 5
  obtain ⟨-, sb⟩ := setb_pow e5 he
  have sp : SP v (nQ v c e) := ((SP.told h).put (j := 1) (by omega) sb).put (j := 7) (by omega) (show (-1 : Int) ≤ (c : Int) ∧ (c : Int) ≤ 8 by omega)
  have f : ∀ i, i ≠ 1 → i ≠ 7 → nQ v c e 67 i = (cl_asTold v) 67 i := fun i h1 h7 => by
    unfold nQ
    rw [v2_eq, if_neg (fun g => h7 g.2), v2_eq, if_neg (fun g => h1 g.2)]
  refine ⟨sp, fun k hk => by unfold nQ; rw [v2_row (by omega), v2_row (by omega), o_cl_asTold (by omega)], ?_, ?_, ?_, ?_, ?_, ?_, ?_, ?_, fun j hj => ?_⟩
  · rw [f 6 (by omega) (by omega), a6, sp.e 33 (by omega) (by omega)]
  · unfold nQ; rw [v2_eq, if_pos ⟨rfl, rfl⟩]
  · rw [f 8 (by omega) (by omega), a8]
  · rw [f 9 (by omega) (by omega), a9]
  · rw [f 0 (by omega) (by omega), a0]
  · unfold nQ; rw [v2_eq, if_neg (by omega), v2_eq, if_pos ⟨rfl, rfl⟩]
  · rw [f 4 (by omega) (by omega), a4]
  · rw [f 5 (by omega) (by omega), a5]
  · unfold nQ; rw [v2_row (by omega), v2_row (by omega), asTold_72 v j hj]
def nG (v : VS) (c : Nat) (e : Nat) : Int := if bt (v 33 5) e = 0 then nM v c e else 1
def nS (G : Nat → Int) (E : Int) : Nat → Int → Nat → Int
  | 0, _, _ => 0
  | f + 1, n, e => if (e : Int) < E then (if G e = 0 then nS G E f (setb n e) (e + 1) else nS G E f n (e + 1)) else n
theorem needs30 {v : VS} (h : INV v) {c : Nat} (hc : c < 9) : ∀ (f e : Nat) (s : VS) (n : Int), INV s → (∀ k, k < 67 ∨ (78 < k ∧ k < 91) ∨ 102 < k → s k = v k) → (cl_needs_30 f s c n e).1 = nS (nG v c) (v 37 0) f n e ∧ INV (cl_needs_30 f s c n e).2 ∧ (∀ k, k < 67 ∨ (78 < k ∧ k < 91) ∨ 102 < k → (cl_needs_30 f s c n e).2 k = v k) := by
  have hE : 0 ≤ v 37 0 ∧ v 37 0 ≤ 12 := h.i.x 37 0
  intro f
  induction f with
  | zero => intro e s n hs er; exact ⟨rfl, hs, er⟩
  | succ f ih =>
    intro e s n hs er
    rw [cl_needs_30, nS, er 37 (by omega), er 33 (by omega), show ((e : Int) + 1) = ((e + 1 : Nat) : Int) by omega]
    by_cases q : (e : Int) < v 37 0
    · have he : e < 12 := by omega
      rw [if_pos q, if_pos q]
      unfold nG cl_bit
      by_cases z : bt (v 33 5) e = 0
      · rw [if_pos z, if_pos z]
        obtain ⟨sp, sr, q6, q7, q8, q9, q0, q1, q4, q5, q72⟩ := nQ_ok hs hc he
        obtain ⟨g1, g2, g3⟩ := hs.play sr sp.g
        have eq : v2 (v2 (cl_asTold s) 67 1 (setb ((cl_asTold s) 67 1) e)) 67 7 c = nQ s c e := by
          unfold nQ
          rw [(asTold_r s).2.1]
        have hu : (xplay 91 (nQ s c e)) 91 18 = 0 ↔ nM v c e = 0 := by
          rw [g2.uw, ← nM_of (v := v) (v' := s) (fun k a b => er k (by omega))]
          exact stopC sp.g q6 q7 q8 q9
        have es : cl_isSilentWithout s c e = if nM v c e = 0 then (1, xplay 91 (nQ s c e)) else (0, xplay 91 (nQ s c e)) := by
          unfold cl_isSilentWithout
          rw [eq]
          by_cases y : nM v c e = 0
          · rw [if_pos y, if_pos (hu.mpr y)]
          · rw [if_neg y, if_neg (fun w => y (hu.mp w))]
        have er' : ∀ k, k < 67 ∨ (78 < k ∧ k < 91) ∨ 102 < k → (xplay 91 (nQ s c e)) k = v k := fun k hk => by rw [g3 k hk, er k hk]
        rw [es]
        by_cases y : nM v c e = 0
        · rw [if_pos y, if_pos y, if_neg (show ¬ ((1 : Int) = 0) by omega)]
          exact ih _ _ _ g1 er'
        · rw [if_neg y, if_neg y, if_pos rfl]
          exact ih _ _ _ g1 er'
      · rw [if_neg z, if_neg z, if_neg (show ¬ ((1 : Int) = 0) by omega)]
        exact ih _ _ _ hs er
    · rw [if_neg q, if_neg q]
      exact ⟨rfl, hs, er⟩
theorem needs36 {v : VS} (h : INV v) {c : Nat} (hc : c < 9) (hm : (arun (tP v)).1 14 c ≠ 0) : ∀ (f e : Nat) (u : VS) (n : Int), INV u → (∀ k, k ≠ 203 → k < 219 ∨ 231 < k → u k = v k) → (mo_needs_36 f u c n e).1 = nS (nG v c) (v 37 0) f n e ∧ INV (mo_needs_36 f u c n e).2 := by
  have hE : 0 ≤ v 37 0 ∧ v 37 0 ≤ 12 := h.i.x 37 0
  obtain ⟨b0, b1, b3, b4, bL, b9, b10⟩ := h.b0
  have e5 : 0 ≤ v 33 5 ∧ v 33 5 ≤ 4095 := h.i.x 33 5
  obtain ⟨o1, o2⟩ := h.or0
  obtain ⟨r1, r2⟩ := h.r9
  obtain ⟨a0, a1, a4, a5, a6, a7, a8, a9, a68⟩ := asTold_r v
  intro f
  induction f with
  | zero => intro e u n hu er; exact ⟨rfl, hu⟩
  | succ f ih =>
    intro e u n hu er
    rw [mo_needs_36, nS, er 210 (by omega) (by omega), b3, toN, toN, show ((e : Int) + 1) = ((e + 1 : Nat) : Int) by omega]
    by_cases q : (e : Int) < v 37 0
    · have he : e < 12 := by omega
      obtain ⟨sb1, sb2⟩ := setb_pow e5 he
      rw [if_pos q, if_pos q]
      unfold nG
      by_cases z : bt (v 33 5) e = 0
      · obtain ⟨sp, sr, q6, q7, q8, q9, q0, q1, q4, q5, q72⟩ := nQ_ok h hc he
        obtain ⟨t1, t2, t3, t4⟩ := sBy (p := nQ v c e) (m := 0) (k := (2 : Int) ^ e) h hu er (by rw [o1]; exact r1) (by rw [b10, sb1]; exact sb2) sp (by rw [o1, b9, q0]; exact fun _ _ => rfl) (by rw [b10, sb1, q1]; exact fun _ _ => rfl) q4 q5 q72
        have em : (mo_strikesBy u 0 ((2 : Int) ^ e)).2 231 c = nM v c e := (t1.la c hc).2.2.2
        rw [if_pos z, em]
        split
        · exact ih _ _ _ t3 t4
        · exact ih _ _ _ t3 t4
      · have hs : setb (v 33 5) e = v 33 5 := by
          unfold setb
          rw [if_pos (by have := bt01 (v 33 5) e; omega)]
        obtain ⟨t1, t2, t3, t4⟩ := sBy (p := cl_asTold v) (m := 0) (k := (2 : Int) ^ e) h hu er (by rw [o1]; exact r1) (by rw [b10, sb1]; exact sb2) (SP.told h) (by rw [o1, b9, a0]; exact fun _ _ => rfl) (by rw [b10, sb1, hs, a1]; exact fun _ _ => rfl) a4 a5 (fun j hj => asTold_72 v j hj)
        have e1 : pln (cP (cl_asTold v)) = tP v := tP_pln v
        rw [e1] at t1
        have em : (mo_strikesBy u 0 ((2 : Int) ^ e)).2 231 c = (arun (tP v)).1 14 c := (t1.la c hc).2.2.2
        rw [if_neg z, em, if_neg hm, if_neg (show ¬ ((1 : Int) = 0) by omega)]
        exact ih _ _ _ t3 t4
    · rw [if_neg q, if_neg q]
      exact ⟨rfl, hu⟩
theorem AW.m13 {P : VS} {T C : Nat} {A : SS} (h : AW P T C A) (c : Nat) : A.1 13 c = -1 ↔ A.1 14 c = 0 := by
  obtain ⟨z1, z2⟩ := acnt_0 (f := A.1 2) (c := (c : Int)) (A.1 0 0).toNat
  have hn := h.n
  rw [h.mn, z2]
  rcases h.b c with g | g
  · obtain ⟨-, -, g3, g4⟩ := h.no c g
    exact ⟨fun _ i hi => g4 i (by omega), fun _ => g3⟩
  · obtain ⟨-, g2, g3, -⟩ := h.ye c g
    exact ⟨fun y => by omega, fun y => absurd g3 (y _ (by omega))⟩
theorem q_needs {v : VS} (h : INV v) (c : Int) : (mo_needs (cl_needs v c).2 c).1 = (cl_needs v c).1 ∧ INV (mo_needs (cl_needs v c).2 c).2 := by
  have h9 : 0 ≤ v 33 0 ∧ v 33 0 ≤ 9 := h.i.x 33 0
  obtain ⟨b0, b1, b3, b4, bL, b9, b10⟩ := h.b0
  by_cases z : 0 ≤ c ∧ c < v 33 0
  · obtain ⟨c, rfl⟩ := Int.eq_ofNat_of_zero_le z.1
    have hc : c < 9 := by omega
    have hi := h.is
    have q := h.qq
    have et : tP (cl_asItIs v) = tP v := tP_of (fun k a b => is_r (by omega))
    have m13 := q.aw.m13 c
    by_cases y : (arun (tP v)).1 13 c = -1
    · have ec : cl_needs v c = (-1, cl_asItIs v) := by
        unfold cl_needs
        rw [if_pos z, q.nx, if_pos y]
      rw [ec]
      show (mo_needs (cl_asItIs v) c).1 = -1 ∧ INV (mo_needs (cl_asItIs v) c).2
      unfold mo_needs
      rw [is_r (by omega), b0, if_pos z, toN, (q.rm.la c hc).2.2.2, if_pos (m13.mp y)]
      exact ⟨rfl, hi.told⟩
    · obtain ⟨k1, k2, k3⟩ := needs30 hi hc 13 0 (cl_asItIs v) 0 hi (fun k _ => rfl)
      rw [show ((0 : Nat) : Int) = 0 from rfl] at k1 k2 k3
      have ec : cl_needs v c = ((cl_needs_30 13 (cl_asItIs v) c 0 0).1, (cl_needs_30 13 (cl_asItIs v) c 0 0).2) := by
        unfold cl_needs
        rw [if_pos z, q.nx, if_neg y]
      rw [ec]
      dsimp only
      obtain ⟨x, hx⟩ : ∃ x, x = (cl_needs_30 13 (cl_asItIs v) c 0 0).2 := ⟨_, rfl⟩
      rw [← hx] at k2 k3 ⊢
      have tx : tP x = tP v := by rw [tP_of (v := cl_asItIs v) (v' := x) (fun k a b => k3 k (by omega)), et]
      have ht := told_RM k2.i k2.a (u := v2 x 203 0 0) (fun k a b => v2_row a) k2.thr.i.x
      rw [tx] at ht
      obtain ⟨c0, c1, c3, c4, cL, c9, c10⟩ := k2.b0
      have hm : (arun (tP x)).1 14 c ≠ 0 := by rw [tx]; exact fun w => y (m13.mpr w)
      obtain ⟨t1, t2⟩ := needs36 k2 hc hm 13 0 (mo_told (v2 x 203 0 0)) 0 k2.told (fun k a b => by rw [o_mo_told (by omega), v2_row a])
      rw [show ((0 : Nat) : Int) = 0 from rfl] at t1 t2
      have em : mo_needs x c = ((mo_needs_36 13 (mo_told (v2 x 203 0 0)) c 0 0).1, (mo_needs_36 13 (mo_told (v2 x 203 0 0)) c 0 0).2) := by
        unfold mo_needs
        rw [c0, k3 33 (by omega), INV.is33, if_pos z, toN, (ht.la c hc).2.2.2, if_neg (fun w => y (m13.mpr w))]
      rw [em]
      refine ⟨?_, t2⟩
      have ef : nG x c = nG (cl_asItIs v) c := by
        funext e
        unfold nG
        rw [k3 33 (by omega), nM_of (v := cl_asItIs v) (v' := x) (fun k a b => k3 k (by omega))]
      dsimp only
      rw [t1, k1, ef, k3 37 (by omega)]
  · have ec : cl_needs v c = (-2, v) := by unfold cl_needs; rw [if_neg z]
    rw [ec]
    show (mo_needs v c).1 = -2 ∧ INV (mo_needs v c).2
    unfold mo_needs
    rw [b0, if_neg z]
    exact ⟨rfl, h.thr⟩
