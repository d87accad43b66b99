/-! what a call that asks about strikes has before it: the class's run, the reference's -/
def QQ (A : SS) (P : VS) (x : VS) (u : VS) : Prop :=
  (RA 79 A x) ∧
  (CH A x) ∧
  (RM A u) ∧
  (PW P) ∧
  (AW P (P 0 1).toNat 0 A) ∧
  (P 0 0 = x 33 0) ∧
  (P 0 1 = x 33 1) ∧
  (P 0 3 = x 37 0) ∧
  (u 210 0 = x 33 0) ∧
  (u 210 1 = x 33 1) ∧
  (u 210 3 = x 37 0) ∧
  (u 209 0 = x 33 2) ∧
  (INV x) ∧
  (∀ k : Nat, 204 ≤ k → k ≤ 218 → u k = x k)
theorem QQ.ra {A : SS} {P : VS} {x : VS} {u : VS} (h : QQ A P x u) : RA 79 A x := h.1
theorem QQ.ch {A : SS} {P : VS} {x : VS} {u : VS} (h : QQ A P x u) : CH A x := h.2.1
theorem QQ.rm {A : SS} {P : VS} {x : VS} {u : VS} (h : QQ A P x u) : RM A u := h.2.2.1
theorem QQ.pw {A : SS} {P : VS} {x : VS} {u : VS} (h : QQ A P x u) : PW P := h.2.2.2.1
theorem QQ.aw {A : SS} {P : VS} {x : VS} {u : VS} (h : QQ A P x u) : AW P (P 0 1).toNat 0 A := h.2.2.2.2.1
theorem QQ.pC {A : SS} {P : VS} {x : VS} {u : VS} (h : QQ A P x u) : P 0 0 = x 33 0 := h.2.2.2.2.2.1
theorem QQ.pT {A : SS} {P : VS} {x : VS} {u : VS} (h : QQ A P x u) : P 0 1 = x 33 1 := h.2.2.2.2.2.2.1
theorem QQ.pE {A : SS} {P : VS} {x : VS} {u : VS} (h : QQ A P x u) : P 0 3 = x 37 0 := h.2.2.2.2.2.2.2.1
theorem QQ.bC {A : SS} {P : VS} {x : VS} {u : VS} (h : QQ A P x u) : u 210 0 = x 33 0 := h.2.2.2.2.2.2.2.2.1
theorem QQ.bS {A : SS} {P : VS} {x : VS} {u : VS} (h : QQ A P x u) : u 210 1 = x 33 1 := h.2.2.2.2.2.2.2.2.2.1
theorem QQ.bE {A : SS} {P : VS} {x : VS} {u : VS} (h : QQ A P x u) : u 210 3 = x 37 0 := h.2.2.2.2.2.2.2.2.2.2.1
theorem QQ.bL {A : SS} {P : VS} {x : VS} {u : VS} (h : QQ A P x u) : u 209 0 = x 33 2 := h.2.2.2.2.2.2.2.2.2.2.2.1
theorem QQ.iv {A : SS} {P : VS} {x : VS} {u : VS} (h : QQ A P x u) : INV x := h.2.2.2.2.2.2.2.2.2.2.2.2.1
theorem QQ.sl {A : SS} {P : VS} {x : VS} {u : VS} (h : QQ A P x u) : ∀ k : Nat, 204 ≤ k → k ≤ 218 → u k = x k := h.2.2.2.2.2.2.2.2.2.2.2.2.2
theorem INV.thr {v : VS} (h : INV v) : INV (v2 v 203 0 0) := h.ref (XI.put h.i.x trivial) (fun j hj => v2_row (by omega)) rfl rfl rfl
theorem plainly_f {v : VS} {j : Nat} (hj : j < 27) : (mo_plainly v) 203 j = v 203 j := by
  unfold mo_plainly
  simp only [v2_eq]
  rw [if_neg (by omega), if_neg (by omega), if_neg (by omega), if_neg (by omega), if_neg (by omega), if_neg (by omega), if_neg (by omega), if_neg (by omega)]
theorem told_f {v : VS} {j : Nat} (hj : j < 27) : (mo_told v) 203 j = v 203 j := by
  unfold mo_told
  rw [f_run (by omega), plainly_f hj]
theorem INV.told {v : VS} (h : INV v) : INV (mo_told (v2 v 203 0 0)) := by
  have h1 := h.thr
  refine h1.ref (i_mo_told h1.i.x h1.i.c) (fun j hj => o_mo_told (by omega)) (told_f (by omega)) (told_f (by omega)) (told_f (by omega))
theorem INV.qq {v : VS} (h : INV v) : QQ (arun (tP v)) (tP v) (cl_asItIs v) (mo_told (v2 (cl_asItIs v) 203 0 0)) := by
  have hi := h.is
  have eT : tP (cl_asItIs v) = tP v := tP_of (fun k a b => o_cl_asItIs (by omega))
  obtain ⟨g1, g2⟩ := hi.r asItIs_10
  rw [eT] at g1 g2
  obtain ⟨t0, t1, t2, t3⟩ := tP_0 v
  have r : ∀ k, 204 ≤ k → k ≤ 218 → (mo_told (v2 (cl_asItIs v) 203 0 0)) k = (cl_asItIs v) k := fun k a b => by rw [o_mo_told (by omega), v2_row (by omega)]
  have e33 : (cl_asItIs v) 33 = v 33 := o_cl_asItIs (by omega)
  have e37 : (cl_asItIs v) 37 = v 37 := o_cl_asItIs (by omega)
  have hm := told_RM (v := cl_asItIs v) (u := v2 (cl_asItIs v) 203 0 0) hi.i hi.a (fun k a b => v2_row (by omega)) hi.thr.i.x
  rw [eT] at hm
  have bC : (cl_asItIs v) 33 0 = (cl_asItIs v) 210 0 := hi.i.b.C
  have bS : (cl_asItIs v) 33 1 = (cl_asItIs v) 210 1 := hi.i.b.S
  have bE : (cl_asItIs v) 37 0 = (cl_asItIs v) 210 3 := hi.i.b.E
  have bL : (cl_asItIs v) 33 2 = (cl_asItIs v) 209 0 := hi.i.b.L
  exact ⟨g1, g2, hm, h.i.pw, AW.run h.i.pw, by rw [t0, e33], by rw [t1, e33], by rw [t3, e37], by rw [r 210 (by omega) (by omega), bC], by rw [r 210 (by omega) (by omega), bS], by rw [r 210 (by omega) (by omega), bE], by rw [r 209 (by omega) (by omega), bL], hi, r⟩
theorem at_n {u : VS} {i k : Nat} : mo_at u i k = u 220 (5 * i + k) := by
  unfold mo_at
  rw [show (5 * (i : Int) + (k : Int)).toNat = 5 * i + k by omega]
theorem QQ.rd {A : SS} {P x u : VS} (h : QQ A P x u) {i : Nat} (hi : (i : Int) < A.1 0 0) : x 80 i = A.1 1 i ∧ x 81 i = A.1 2 i ∧ x 82 i = A.1 3 i ∧ x 83 i = A.1 4 i ∧ x 84 i = A.1 5 i ∧ mo_at u i 0 = A.1 1 i ∧ mo_at u i 1 = A.1 2 i ∧ mo_at u i 2 = A.1 3 i ∧ mo_at u i 3 = A.1 4 i ∧ mo_at u i 4 = A.1 5 i := by
  have g := fun k k1 k2 => h.ra.st k i k1 k2 hi
  have m : ∀ k, k < 5 → mo_at u i ((k : Nat) : Int) = A.1 (1 + k) i := fun k hk => by rw [at_n]; exact h.rm.st k i hk hi
  exact ⟨g 1 (by omega) (by omega), g 2 (by omega) (by omega), g 3 (by omega) (by omega), g 4 (by omega) (by omega), g 5 (by omega) (by omega), m 0 (by omega), m 1 (by omega), m 2 (by omega), m 3 (by omega), m 4 (by omega)⟩
theorem QQ.nb {A : SS} {P x u : VS} (h : QQ A P x u) : 0 ≤ A.1 0 0 ∧ A.1 0 0 ≤ 300 := h.aw.n
theorem QQ.sm {A : SS} {P x u : VS} (h : QQ A P x u) : SM u := by
  have hC := h.pw.C
  have hT := h.pw.T
  refine ⟨fun j hj => ?_, fun c hc => ?_⟩
  · rw [h.rm.n] at hj
    have s := h.aw.st j hj
    have m := fun k hk => h.rm.st k j hk hj
    have m0 : u 220 (5 * j) = A.1 1 j := m 0 (by omega)
    have m1 : u 220 (5 * j + 1) = A.1 2 j := m 1 (by omega)
    have m2 : u 220 (5 * j + 2) = A.1 3 j := m 2 (by omega)
    have m3 : u 220 (5 * j + 3) = A.1 4 j := m 3 (by omega)
    rw [m0, m1, m2, m3]
    omega
  · rw [(h.rm.la c hc).2.2.1, h.rm.n]
    rcases h.aw.b c with g | g
    · rw [(h.aw.no c g).2.2.1]
      have := h.nb
      omega
    · exact (h.aw.ye c g).2.1.2
/-! first and next strikes of a church -/
theorem nx_spec {A : SS} {P x u : VS} (h : QQ A P x u) {c : Int} : ∀ (f i : Nat), (i : Int) ≤ A.1 0 0 → A.1 0 0 < i + f →
    (cl_nextOf79_2 f x c i = -1 ∧ ∀ j : Nat, i ≤ j → (j : Int) < A.1 0 0 → A.1 2 j ≠ c) ∨ (∃ j : Nat, cl_nextOf79_2 f x c i = j ∧ i ≤ j ∧ (j : Int) < A.1 0 0 ∧ A.1 2 j = c ∧ ∀ k : Nat, i ≤ k → k < j → A.1 2 k ≠ c) := by
  intro f
  induction f with
  | zero => intro i h1 h2; omega
  | succ f ih =>
    intro i h1 h2
    rw [cl_nextOf79_2, h.ra.n, toN, show ((i : Int) + 1) = ((i + 1 : Nat) : Int) by omega]
    by_cases q : (i : Int) < A.1 0 0
    · rw [if_pos q, (h.rd q).2.1]
      by_cases q2 : A.1 2 i = c
      · rw [if_pos q2]
        exact Or.inr ⟨i, rfl, Nat.le_refl _, q, q2, fun k a b => by omega⟩
      · rw [if_neg q2]
        rcases ih (i + 1) (by omega) (by omega) with ⟨g1, g2⟩ | ⟨j, g1, g2, g3, g4, g5⟩
        · refine Or.inl ⟨g1, fun j a b => ?_⟩
          by_cases e : j = i
          · rw [e]; exact q2
          · exact g2 j (by omega) b
        · refine Or.inr ⟨j, g1, by omega, g3, g4, fun k a b => ?_⟩
          by_cases e : k = i
          · rw [e]; exact q2
          · exact g5 k (by omega) b
    · rw [if_neg q]
      exact Or.inl ⟨rfl, fun j a b => by omega⟩
theorem QQ.nx {A : SS} {P x u : VS} (h : QQ A P x u) (c : Nat) : cl_nextOf79 x c 0 = A.1 13 c := by
  have hn := h.nb
  unfold cl_nextOf79
  have s := nx_spec h (c := (c : Int)) 301 0 (by omega) (by omega)
  rw [show ((0 : Nat) : Int) = 0 from rfl] at s
  rcases h.aw.b c with g | g
  · obtain ⟨-, -, g3, g4⟩ := h.aw.no c g
    rcases s with ⟨s1, -⟩ | ⟨j, s1, -, s3, s4, -⟩
    · rw [s1, g3]
    · exact absurd s4 (g4 j s3)
  · obtain ⟨-, g2, g3, g4⟩ := h.aw.ye c g
    rcases s with ⟨-, s2⟩ | ⟨j, s1, -, s3, s4, s5⟩
    · exact absurd g3 (s2 _ (by omega) (by omega))
    · rw [s1]
      have a1 : ¬ (j : Int) < A.1 13 c := fun z => g4 j z s4
      have a2 : ¬ (A.1 13 c).toNat < j := fun z => s5 _ (by omega) z g3
      omega
theorem QQ.f0 {A : SS} {P x u : VS} (h : QQ A P x u) {c : Nat} (hc : c < 9) : u 230 c = A.1 13 c := (h.rm.la c hc).2.2.1
theorem QQ.f1 {A : SS} {P x u : VS} (h : QQ A P x u) (c : Nat) : A.1 13 c = -1 ∨ (0 ≤ A.1 13 c ∧ A.1 13 c < A.1 0 0 ∧ A.1 2 (A.1 13 c).toNat = c ∧ ∀ i : Nat, (i : Int) < A.1 13 c → A.1 2 i ≠ c) := by
  rcases h.aw.b c with g | g
  · exact Or.inl (h.aw.no c g).2.2.1
  · obtain ⟨-, g2, g3, g4⟩ := h.aw.ye c g
    exact Or.inr ⟨g2.1, g2.2, g3, g4⟩
theorem QQ.fa {A : SS} {P x u : VS} (h : QQ A P x u) {c : Nat} (hc : c < 9) : mo_firstAt u c = if A.1 13 c = -1 then -1 else A.1 1 (A.1 13 c).toNat := by
  unfold mo_firstAt
  rw [toN, h.f0 hc]
  rcases h.f1 c with g | ⟨g1, g2, -⟩
  · rw [if_pos g, if_pos g]
  · rw [if_neg (by omega), if_neg (by omega)]
    obtain ⟨j, hj⟩ : ∃ j : Nat, A.1 13 c = j := ⟨(A.1 13 c).toNat, by omega⟩
    rw [hj, toN]
    exact (h.rd (i := j) (by omega)).2.2.2.2.2.1
/-! the hour struck last -/
theorem hour5 {A : SS} {P x u : VS} (h : QQ A P x u) {c t : Int} : ∀ (f i : Nat), (i : Int) ≤ A.1 0 0 → A.1 0 0 < i + f → mo_hourOf_5 f u c t (ahour A c t i) i = ahour A c t (aN A) := by
  intro f
  induction f with
  | zero => intro i h1 h2; omega
  | succ f ih =>
    intro i h1 h2
    rw [mo_hourOf_5, h.rm.n, show ((i : Int) + 1) = ((i + 1 : Nat) : Int) by omega]
    by_cases q : (i : Int) < A.1 0 0
    · obtain ⟨-, -, -, -, -, a0, a1, a2, -, -⟩ := h.rd q
      have g := ih (i + 1) (by omega) (by omega)
      rw [ahour] at g
      rw [if_pos q, a0, a1, a2]
      by_cases q1 : A.1 2 i = c
      · rw [if_pos q1]
        by_cases q2 : t < A.1 1 i
        · rw [if_pos q2]
          rw [if_neg (fun z => by omega)] at g
          exact g
        · rw [if_neg q2]
          rw [if_pos ⟨q1, by omega⟩] at g
          exact g
      · rw [if_neg q1]
        rw [if_neg (fun z => q1 z.1)] at g
        exact g
    · rw [if_neg q]
      have : aN A = i := by unfold aN; omega
      rw [this]
theorem QQ.ho {A : SS} {P x u : VS} (h : QQ A P x u) (c t : Int) : mo_hourOf u c t = ahour A c t (aN A) := by
  have hn := h.nb
  unfold mo_hourOf
  exact hour5 h 301 0 (by omega) (by omega)
theorem QQ.sl2 {A : SS} {P x u : VS} (h : QQ A P x u) {c t : Int} (hc : 0 ≤ c ∧ c < x 33 0) (ht : 0 ≤ t ∧ t < x 33 1) : cl_struckLast x c t = mo_hourOf u c t := by
  rw [h.ho]
  unfold cl_struckLast
  rw [if_pos hc, if_pos ht]
  obtain ⟨c', rfl⟩ := Int.eq_ofNat_of_zero_le hc.1
  obtain ⟨t', rfl⟩ := Int.eq_ofNat_of_zero_le ht.1
  rw [show ((t' : Int) * 9 + (c' : Int)).toNat = t' * 9 + c' by omega]
  exact h.ch.c c' t' hc.2 ht.2
theorem QQ.C9 {A : SS} {P x u : VS} (h : QQ A P x u) : 0 ≤ x 33 0 ∧ x 33 0 ≤ 9 := h.iv.i.x 33 0
theorem QQ.S3 {A : SS} {P x u : VS} (h : QQ A P x u) : 0 ≤ x 33 1 ∧ x 33 1 ≤ 300 := h.iv.i.x 33 1
/-! how the two states of a call stand to one another -/
theorem INV.b0 {v : VS} (h : INV v) : v 210 0 = v 33 0 ∧ v 210 1 = v 33 1 ∧ v 210 3 = v 37 0 ∧ v 210 4 = v 42 0 ∧ v 209 0 = v 33 2 ∧ v 210 9 = v 33 4 ∧ v 210 10 = v 33 5 := ⟨h.i.b.C.symm, h.i.b.S.symm, h.i.b.E.symm, h.i.b.T.symm, h.i.b.L.symm, h.i.b.M.symm, h.i.b.X.symm⟩
theorem is_r {v : VS} {k : Nat} (h : k ≠ 0 ∧ (k < 67 ∨ 90 < k) ∧ k ≠ 105) : (cl_asItIs v) k = v k := o_cl_asItIs (by omega)
/-! the first calls -/
theorem q_strikes {v : VS} (h : INV v) : (mo_strikes (cl_strikes v).2).1 = (cl_strikes v).1 ∧ INV (mo_strikes (cl_strikes v).2).2 := by
  have q := h.qq
  obtain ⟨b0, b1, b3, b4, bL, -⟩ := h.b0
  unfold cl_strikes
  split
  · rename_i z
    show (mo_strikes (cl_asItIs v)).1 = _ ∧ INV (mo_strikes (cl_asItIs v)).2
    unfold mo_strikes
    rw [is_r (by omega), bL, if_pos z]
    exact ⟨by rw [q.rm.n, q.ra.n], h.is.told⟩
  · rename_i z
    show (mo_strikes v).1 = _ ∧ INV (mo_strikes v).2
    unfold mo_strikes
    rw [bL, if_neg z]
    exact ⟨rfl, h.thr⟩
theorem q_strike {v : VS} (h : INV v) (i w : Int) : (mo_strike (cl_strike v i w).2 i w).1 = (cl_strike v i w).1 ∧ INV (mo_strike (cl_strike v i w).2 i w).2 := by
  have q := h.qq
  obtain ⟨b0, b1, b3, b4, bL, -⟩ := h.b0
  have no : (¬ (0 < v 33 2 ∧ (0 : Int) ≤ w ∧ w ≤ 4)) → (mo_strike v i w).1 = -2 ∧ INV (mo_strike v i w).2 := by
    intro z
    unfold mo_strike
    rw [bL]
    by_cases z1 : 0 < v 33 2
    · rw [if_pos z1, if_neg (fun g => z ⟨z1, g⟩)]; exact ⟨rfl, h.thr⟩
    · rw [if_neg z1]; exact ⟨rfl, h.thr⟩
  unfold cl_strike
  by_cases z1 : 0 < v 33 2
  · rw [if_pos z1]
    by_cases z2 : w < 0
    · rw [if_pos z2]; exact no (by omega)
    · rw [if_neg z2]
      by_cases z3 : 4 < w
      · rw [if_pos z3]; exact no (by omega)
      · rw [if_neg z3]
        have yes : mo_strike (cl_asItIs v) i w = (if 0 ≤ i ∧ i < (arun (tP v)).1 0 0 then (mo_at (mo_told (v2 (cl_asItIs v) 203 0 0)) i w, mo_told (v2 (cl_asItIs v) 203 0 0)) else (-1, mo_told (v2 (cl_asItIs v) 203 0 0))) := by
          unfold mo_strike
          rw [is_r (by omega), bL, if_pos z1, if_pos (by omega), q.rm.n]
          by_cases z : 0 ≤ i ∧ i < (arun (tP v)).1 0 0
          · rw [if_pos z, if_pos (by omega)]
          · rw [if_neg z, if_neg (by omega)]
        rw [q.ra.n]
        by_cases z4 : 0 ≤ i ∧ i < (arun (tP v)).1 0 0
        · rw [if_pos z4] at yes
          rw [if_pos z4]
          obtain ⟨j, rfl⟩ := Int.eq_ofNat_of_zero_le z4.1
          obtain ⟨x0, x1, x2, x3, x4, m0, m1, m2, m3, m4⟩ := q.rd z4.2
          rw [toN, x0, x1, x2, x3, x4]
          have hw : w = 0 ∨ w = 1 ∨ w = 2 ∨ w = 3 ∨ w = 4 := by omega
          rcases hw with rfl | rfl | rfl | rfl | rfl <;> (simp only [if_true, show ¬ ((1 : Int) = 0) by omega, show ¬ ((2 : Int) = 0) by omega, show ¬ ((3 : Int) = 0) by omega, show ¬ ((4 : Int) = 0) by omega, show ¬ ((2 : Int) = 1) by omega, show ¬ ((3 : Int) = 1) by omega, show ¬ ((4 : Int) = 1) by omega, show ¬ ((3 : Int) = 2) by omega, show ¬ ((4 : Int) = 2) by omega, show ¬ ((4 : Int) = 3) by omega, if_false]; rw [yes]; refine ⟨?_, h.is.told⟩; assumption)
        · rw [if_neg z4] at yes
          rw [if_neg z4]
          dsimp only
          rw [yes]
          exact ⟨rfl, h.is.told⟩
  · rw [if_neg z1]; exact no (by omega)
theorem q_lost {v : VS} (h : INV v) (w : Int) : (mo_lost (cl_lost v w).2 w).1 = (cl_lost v w).1 ∧ INV (mo_lost (cl_lost v w).2 w).2 := by
  have q := h.qq
  obtain ⟨b0, b1, b3, b4, bL, -⟩ := h.b0
  have no : (¬ (0 < v 33 2 ∧ (0 : Int) ≤ w ∧ w ≤ 7)) → (mo_lost v w).1 = -2 ∧ INV (mo_lost v w).2 := by
    intro z
    unfold mo_lost
    rw [bL]
    by_cases z1 : 0 < v 33 2
    · rw [if_pos z1, if_neg (fun g => z ⟨z1, g⟩)]; exact ⟨rfl, h.thr⟩
    · rw [if_neg z1]; exact ⟨rfl, h.thr⟩
  unfold cl_lost
  by_cases z1 : 0 < v 33 2
  · rw [if_pos z1]
    by_cases z2 : w < 0
    · rw [if_pos z2]; exact no (by omega)
    · rw [if_neg z2]
      by_cases z3 : w < 8
      · rw [if_pos z3]
        show (mo_lost (cl_asItIs v) w).1 = _ ∧ INV (mo_lost (cl_asItIs v) w).2
        unfold mo_lost
        rw [is_r (by omega), bL, if_pos z1, if_pos (by omega)]
        refine ⟨?_, h.is.told⟩
        dsimp only
        rw [q.rm.lo w.toNat (by omega)]
        exact (q.ra.lo w.toNat (by omega)).symm
      · rw [if_neg z3]; exact no (by omega)
  · rw [if_neg z1]; exact no (by omega)
theorem q_hour {v : VS} (h : INV v) (c s : Int) : (mo_hour (cl_hour v c s).2 c s).1 = (cl_hour v c s).1 ∧ INV (mo_hour (cl_hour v c s).2 c s).2 := by
  have q := h.qq
  obtain ⟨b0, b1, b3, b4, bL, -⟩ := h.b0
  have no : (¬ ((0 ≤ c ∧ c < v 33 0) ∧ (0 ≤ s ∧ s < v 33 1))) → (mo_hour v c s).1 = -2 ∧ INV (mo_hour v c s).2 := by
    intro z
    unfold mo_hour
    rw [b0, b1]
    by_cases z1 : 0 ≤ c ∧ c < v 33 0
    · rw [if_pos z1, if_neg (fun g => z ⟨z1, g⟩)]; exact ⟨rfl, h.thr⟩
    · rw [if_neg z1]; exact ⟨rfl, h.thr⟩
  unfold cl_hour
  by_cases z1 : 0 ≤ c ∧ c < v 33 0
  · rw [if_pos z1]
    by_cases z2 : 0 ≤ s ∧ s < v 33 1
    · rw [if_pos z2]
      show (mo_hour (cl_asItIs v) c s).1 = _ ∧ INV (mo_hour (cl_asItIs v) c s).2
      unfold mo_hour
      rw [is_r (by omega), b0, b1, if_pos z1, if_pos z2]
      refine ⟨?_, h.is.told⟩
      dsimp only
      exact (q.sl2 (by rw [is_r (by omega)]; exact z1) (by rw [is_r (by omega)]; exact z2)).symm
    · rw [if_neg z2]; exact no (fun g => z2 g.2)
  · rw [if_neg z1]; exact no (fun g => z1 g.1)
theorem many21 {A : SS} {P x u : VS} (h : QQ A P x u) {c : Int} : ∀ (f i : Nat), (i : Int) ≤ A.1 0 0 → A.1 0 0 < i + f → cl_many_21 f x c (acnt (A.1 2) c i) i = acnt (A.1 2) c (aN A) := by
  intro f
  induction f with
  | zero => intro i h1 h2; omega
  | succ f ih =>
    intro i h1 h2
    rw [cl_many_21, h.ra.n, toN, show ((i : Int) + 1) = ((i + 1 : Nat) : Int) by omega]
    by_cases q : (i : Int) < A.1 0 0
    · have g := ih (i + 1) (by omega) (by omega)
      rw [acnt] at g
      rw [if_pos q, (h.rd q).2.1]
      by_cases q1 : A.1 2 i = c
      · rw [if_pos q1]
        rw [if_pos q1] at g
        exact g
      · rw [if_neg q1]
        rw [if_neg q1, show acnt (A.1 2) c i + 0 = acnt (A.1 2) c i by omega] at g
        exact g
    · rw [if_neg q]
      have : aN A = i := by unfold aN; omega
      rw [this]
theorem q_many {v : VS} (h : INV v) (c : Int) : (mo_many (cl_many v c).2 c).1 = (cl_many v c).1 ∧ INV (mo_many (cl_many v c).2 c).2 := by
  have q := h.qq
  have hn := q.nb
  obtain ⟨b0, b1, b3, b4, bL, -⟩ := h.b0
  have hC : 0 ≤ v 33 0 ∧ v 33 0 ≤ 9 := h.i.x 33 0
  unfold cl_many
  by_cases z1 : 0 ≤ c ∧ c < v 33 0
  · rw [if_pos z1]
    show (mo_many (cl_asItIs v) c).1 = _ ∧ INV (mo_many (cl_asItIs v) c).2
    unfold mo_many
    rw [is_r (by omega), b0, if_pos z1]
    refine ⟨?_, h.is.told⟩
    dsimp only
    obtain ⟨c', rfl⟩ := Int.eq_ofNat_of_zero_le z1.1
    rw [toN, (q.rm.la c' (by omega)).2.2.2, q.aw.mn]
    exact (many21 q 301 0 (by omega) (by omega)).symm
  · rw [if_neg z1]
    show (mo_many v c).1 = _ ∧ INV (mo_many v c).2
    unfold mo_many
    rw [b0, if_neg z1]
    exact ⟨rfl, h.thr⟩
theorem q_quiet {v : VS} (h : INV v) : (mo_quiet (cl_quiet v).2).1 = (cl_quiet v).1 ∧ INV (mo_quiet (cl_quiet v).2).2 := by
  have q := h.qq
  have hn := q.nb
  obtain ⟨b0, b1, b3, b4, bL, -⟩ := h.b0
  unfold cl_quiet
  split
  · rename_i z
    show (mo_quiet (cl_asItIs v)).1 = _ ∧ INV (mo_quiet (cl_asItIs v)).2
    unfold mo_quiet
    rw [is_r (by omega), bL, if_pos z, q.rm.n]
    unfold cl_latest79
    rw [q.ra.n]
    by_cases y : (arun (tP v)).1 0 0 = 0
    · rw [if_pos y, if_pos y]; exact ⟨rfl, h.is.told⟩
    · rw [if_neg y, if_neg y]
      refine ⟨?_, h.is.told⟩
      dsimp only
      obtain ⟨j, hj⟩ : ∃ j : Nat, (arun (tP v)).1 0 0 - 1 = j := ⟨((arun (tP v)).1 0 0 - 1).toNat, by omega⟩
      rw [hj, toN]
      obtain ⟨x0, -, -, -, -, m0, -⟩ := q.rd (i := j) (by omega)
      rw [x0, m0]
  · rename_i z
    show (mo_quiet v).1 = _ ∧ INV (mo_quiet v).2
    unfold mo_quiet
    rw [bL, if_neg z]
    exact ⟨rfl, h.thr⟩
theorem q_passes {v : VS} (h : INV v) (c w : Int) : (mo_passes (cl_passes v c w).2 c w).1 = (cl_passes v c w).1 ∧ INV (mo_passes (cl_passes v c w).2 c w).2 := by
  have q := h.qq
  obtain ⟨b0, b1, b3, b4, bL, -⟩ := h.b0
  have hE : 0 ≤ v 37 0 ∧ v 37 0 ≤ 12 := h.i.x 37 0
  have no : (¬ ((0 ≤ c ∧ c < v 37 0) ∧ ((0 : Int) ≤ w ∧ w ≤ 2))) → (mo_passes v c w).1 = -2 ∧ INV (mo_passes v c w).2 := by
    intro z
    unfold mo_passes
    rw [b3]
    by_cases z1 : 0 ≤ c ∧ c < v 37 0
    · rw [if_pos z1, if_neg (fun g => z ⟨z1, g⟩)]; exact ⟨rfl, h.thr⟩
    · rw [if_neg z1]; exact ⟨rfl, h.thr⟩
  unfold cl_passes
  by_cases z1 : 0 ≤ c ∧ c < v 37 0
  · rw [if_pos z1]
    obtain ⟨p1, p2, p3⟩ := q.rm.pe c.toNat (by omega)
    have x7 := q.ra.pe 7 c.toNat (by omega) (by omega) (by omega)
    have x8 := q.ra.pe 8 c.toNat (by omega) (by omega) (by omega)
    have x9 := q.ra.pe 9 c.toNat (by omega) (by omega) (by omega)
    have yes : ∀ z2 : (0 : Int) ≤ w ∧ w ≤ 2, mo_passes (cl_asItIs v) c w = (if w = 0 then ((arun (tP v)).1 7 c.toNat, mo_told (v2 (cl_asItIs v) 203 0 0)) else if w = 1 then ((arun (tP v)).1 8 c.toNat, mo_told (v2 (cl_asItIs v) 203 0 0)) else ((arun (tP v)).1 9 c.toNat, mo_told (v2 (cl_asItIs v) 203 0 0))) := by
      intro z2
      unfold mo_passes
      rw [is_r (by omega), b3, if_pos z1, if_pos z2, p1, p2, p3]
    by_cases w0 : w = 0
    · rw [if_pos w0]
      dsimp only
      rw [yes (by omega), if_pos w0]
      exact ⟨x7.symm, h.is.told⟩
    · rw [if_neg w0]
      by_cases w1 : w = 1
      · rw [if_pos w1]
        dsimp only
        rw [yes (by omega), if_neg w0, if_pos w1]
        exact ⟨x8.symm, h.is.told⟩
      · rw [if_neg w1]
        by_cases w2 : w = 2
        · rw [if_pos w2]
          dsimp only
          rw [yes (by omega), if_neg w0, if_neg w1]
          exact ⟨x9.symm, h.is.told⟩
        · rw [if_neg w2]; exact no (by omega)
  · rw [if_neg z1]; exact no (fun g => z1 g.1)
theorem q_ship {v : VS} (h : INV v) (c o s : Int) : (mo_ship (cl_ship v c o s).2 c o s).1 = (cl_ship v c o s).1 ∧ INV (mo_ship (cl_ship v c o s).2 c o s).2 := by
  have q := h.qq
  obtain ⟨b0, b1, b3, b4, bL, -⟩ := h.b0
  have no : (¬ (((0 ≤ c ∧ c < v 33 0) ∧ (0 ≤ o ∧ o < v 33 0) ∧ c ≠ o) ∧ (0 ≤ s ∧ s < v 33 1))) → (mo_ship v c o s).1 = -2000000 ∧ INV (mo_ship v c o s).2 := by
    intro z
    unfold mo_ship
    rw [b0, b1]
    by_cases z1 : 0 ≤ c ∧ c < v 33 0
    · rw [if_pos z1]
      by_cases z2 : 0 ≤ o ∧ o < v 33 0
      · rw [if_pos z2]
        by_cases z3 : c = o
        · rw [if_pos z3]; exact ⟨rfl, h.thr⟩
        · rw [if_neg z3, if_neg (fun g => z ⟨⟨z1, z2, z3⟩, g⟩)]; exact ⟨rfl, h.thr⟩
      · rw [if_neg z2]; exact ⟨rfl, h.thr⟩
    · rw [if_neg z1]; exact ⟨rfl, h.thr⟩
  unfold cl_ship
  by_cases z1 : (0 ≤ c ∧ c < v 33 0) ∧ (0 ≤ o ∧ o < v 33 0) ∧ c ≠ o
  · rw [if_pos z1]
    by_cases z2 : 0 ≤ s ∧ s < v 33 1
    · rw [if_pos z2]
      show (mo_ship (cl_asItIs v) c o s).1 = _ ∧ INV (mo_ship (cl_asItIs v) c o s).2
      unfold mo_ship
      rw [is_r (by omega), b0, b1, if_pos z1.1, if_pos z1.2.1, if_neg z1.2.2, if_pos z2]
      refine ⟨?_, h.is.told⟩
      dsimp only
      rw [q.sl2 (by rw [is_r (by omega)]; exact z1.1) (by rw [is_r (by omega)]; exact z2), q.sl2 (by rw [is_r (by omega)]; exact z1.2.1) (by rw [is_r (by omega)]; exact z2)]
    · rw [if_neg z2]; exact no (fun g => z2 g.2)
  · rw [if_neg z1]; exact no (fun g => z1 g.1)
