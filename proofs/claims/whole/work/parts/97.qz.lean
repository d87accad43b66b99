
/-! hush -/
theorem popc_nn (T : Int) : 0 ≤ popc T := by
  have d : ∀ c : Int, 0 ≤ bt T c := fun c => by rcases bt_b T c with q | q <;> omega
  have := d 0
  have := d 1
  have := d 2
  have := d 3
  have := d 4
  have := d 5
  have := d 6
  have := d 7
  have := d 8
  have := d 9
  have := d 10
  have := d 11
  unfold popc
  clear d
  omega
theorem hushC {p : VS} (sg : SG p) {n : Int} (h6 : p 67 6 = p 33 1 - 1) (h7 : p 67 7 = -1) (h8 : p 67 8 = 300) (h9 : p 67 9 = n) (hn0 : 0 ≤ n) : n < (arun (pln (cP p))).1 0 0 ↔ ¬ (arun (cP p)).1 0 2 = 0 := by
  obtain ⟨u1, u2⟩ := uw_iff sg.pw (cP_stop h6)
  have hA := AW.run sg.pw.toPln
  have hT := sg.pw.toPln.T
  obtain ⟨c0, c1, c2, c3, c4, c5, c6, c7, c8, c9⟩ := cP_0 p
  have hn := hA.n
  constructor
  · intro q
    obtain ⟨m, hm⟩ : ∃ m : Nat, (arun (pln (cP p))).1 0 0 - 1 = m := ⟨((arun (pln (cP p))).1 0 0 - 1).toNat, by omega⟩
    have := u2.mpr ⟨m, by omega, Or.inr (Or.inr (by rw [c8, h9]; omega))⟩
    omega
  · intro q
    obtain ⟨i, i1, i2⟩ := u2.mp (by omega)
    have hs := hA.st i i1
    rcases i2 with i2 | i2 | i2
    · rw [c6, h7] at i2; omega
    · rw [c7, h8] at i2
      omega
    · rw [c8, h9] at i2; omega
theorem hush31 {v : VS} (h : INV v) {n : Int} (hn : 0 ≤ n ∧ n ≤ 300) {N : Nat} (hN : v 37 0 = N) : ∀ (f : Nat) (u : VS) (g : Int) (s : Nat), INV u → (∀ k, k ≠ 203 → k < 219 ∨ 231 < k → u k = v k) → RI (gdE v 9 n) N (v 33 5) g s → (s : Int) ≤ (2 : Int) ^ N → (2 : Int) ^ N - s < f → (∃ r, LSS (gdE v 9 n) N (v 33 5) r ∧ (mo_hush_31 f u n (if g = -1 then -1 else popc g) s).1 = if r = -1 then -1 else popc r) ∧ INV (mo_hush_31 f u n (if g = -1 then -1 else popc g) s).2 := by
  have h9 : 0 ≤ v 37 0 ∧ v 37 0 ≤ 12 := h.i.x 37 0
  have hM : 0 ≤ v 33 5 ∧ v 33 5 ≤ 4095 := h.i.x 33 5
  have p1 := pow_le12 (N := N) (by omega)
  obtain ⟨b0, b1, b3, b4, bL, b9, b10⟩ := h.b0
  obtain ⟨a0, a1, a4, a5, a6, a7, a8, a9, a68⟩ := asTold_r v
  intro f
  induction f with
  | zero => intro u g s hu e ri s1 hf; omega
  | succ f ih =>
    intro u g s hu e ri s1 hf
    rw [mo_hush_31, e 210 (by omega) (by omega), b3, b10, hN, toN, show ((s : Int) + 1) = ((s + 1 : Nat) : Int) by omega]
    by_cases q : (s : Int) < (2 : Int) ^ N
    · rw [if_pos q]
      by_cases d : pm_and (s : Int) (v 33 5) = 0
      · rw [if_pos d]
        have dj := (and_dsj (by omega) (by omega)).mp d
        obtain ⟨t1, t2, t3, t4, sg, s6, fe⟩ := sE h hu e (j0 := 9) (x0 := n) (s := (s : Int)) (by omega) (show (0 : Int) ≤ n ∧ n ≤ 300 by omega) (by omega)
        have qc := hushC sg (n := n) s6 (by rw [fe 7 (by omega), if_neg (by omega), a7]) (by rw [fe 8 (by omega), if_neg (by omega), a8]) (by rw [fe 9 (by omega), if_pos rfl]) hn.1
        have en : (mo_strikesBy u 0 s).1 = (arun (pln (cP (fQ v 9 n 1 (pm_or (v 33 5) s))))).1 0 0 := by rw [t2, t1.n]
        rw [en, size_eq (show 0 ≤ (s : Int) ∧ (s : Int) < 4096 by omega), size_eq (show 0 ≤ (s : Int) ∧ (s : Int) < 4096 by omega)]
        have yes := fun (gd : gdE v 9 n s) (hl : g = -1 ∨ popc s < popc g) => ih _ (s : Int) (s + 1) t3 t4 (ri.yes (by omega) dj gd hl) (by omega) (by omega)
        rw [if_neg (show ¬ (s : Int) = -1 by omega)] at yes
        have no := fun (gd : ¬ gdE v 9 n s) => ih _ g (s + 1) t3 t4 (ri.no (Or.inl (fun y => gd y.2))) (by omega) (by omega)
        by_cases g1 : g = -1
        · rw [if_pos g1] at no ⊢
          rw [if_pos rfl]
          by_cases gd : gdE v 9 n s
          · rw [if_neg (fun y => (qc.mp y) gd)]
            exact yes gd (Or.inl g1)
          · rw [if_pos (qc.mpr gd)]
            exact no gd
        · have pg := popc_nn g
          rw [if_neg g1] at no ⊢
          rw [if_neg (show ¬ popc g = -1 by omega)]
          by_cases g2 : popc s < popc g
          · rw [if_pos g2]
            by_cases gd : gdE v 9 n s
            · rw [if_neg (fun y => (qc.mp y) gd)]
              exact yes gd (Or.inr g2)
            · rw [if_pos (qc.mpr gd)]
              exact no gd
          · rw [if_neg g2]
            have r := ih _ g (s + 1) hu e (ri.no (Or.inr ⟨g1, by omega⟩)) (by omega) (by omega)
            rw [if_neg g1] at r
            exact r
      · rw [if_neg d]
        exact ih _ g (s + 1) hu e (ri.no (Or.inl (fun y => d ((and_dsj (by omega) (by omega)).mpr y.1)))) (by omega) (by omega)
    · rw [if_neg q]
      rw [show (s : Int) = (2 : Int) ^ N by omega] at ri
      exact ⟨⟨g, ri.end, rfl⟩, hu⟩
theorem q_hush {v : VS} (h : INV v) (n : Int) : (mo_hush (cl_hush v n).2 n).1 = (cl_hush v n).1 ∧ INV (mo_hush (cl_hush v n).2 n).2 := by
  have hE : 0 ≤ v 37 0 ∧ v 37 0 ≤ 12 := h.i.x 37 0
  obtain ⟨b0, b1, b3, b4, bL, b9, b10⟩ := h.b0
  by_cases z : 0 < v 33 2 ∧ (0 ≤ n ∧ n ≤ 300)
  · obtain ⟨N, hN⟩ : ∃ N : Nat, v 37 0 = N := ⟨(v 37 0).toNat, by omega⟩
    have p1 := pow_le12 (N := N) (by omega)
    obtain ⟨k1, k2⟩ := l_fewE h (j0 := 9) (x0 := n) (by omega) (show (0 : Int) ≤ n ∧ n ≤ 300 by omega) hN
    obtain ⟨r, hr⟩ : ∃ r, r = (cl_fewestEars (v2 (cl_asTold v) 67 9 n)).1 := ⟨_, rfl⟩
    obtain ⟨x, hx⟩ : ∃ x, x = (cl_fewestEars (v2 (cl_asTold v) 67 9 n)).2 := ⟨_, rfl⟩
    have ec : cl_hush v n = (cl_setAnswer x r 0, x) := by
      unfold cl_hush
      rw [if_pos z.1, if_neg (by omega), if_neg (by omega), hr, hx]
    rw [← hr] at k1
    rw [← hx] at k2
    rw [ec]
    dsimp only
    have e33 : x 33 = v 33 := k2.e 33 (by omega)
    obtain ⟨c0, c1, c3, c4, cL, c9, c10⟩ := k2.i.b0
    have m := hush31 k2.i (n := n) (N := N) z.2 (by rw [k2.e 37 (by omega)]; exact hN) 4097 (v2 x 203 0 0) (-1) 0 k2.i.thr (fun k a b => v2_row a) (Or.inl ⟨rfl, fun T t1 t2 => by omega⟩) (by omega) (by omega)
    rw [gdE_of (fun k a b => k2.e k (by omega)), e33, show ((0 : Nat) : Int) = 0 from rfl, if_pos rfl] at m
    obtain ⟨⟨r', m1, m2⟩, m3⟩ := m
    have er := m1.uniq k1
    have em : mo_hush x n = ((mo_hush_31 4097 (v2 x 203 0 0) n (-1) 0).1, (mo_hush_31 4097 (v2 x 203 0 0) n (-1) 0).2) := by
      unfold mo_hush
      rw [cL, e33, if_pos z.1, if_pos z.2]
    rw [em]
    refine ⟨?_, m3⟩
    dsimp only
    rw [m2, er]
    unfold cl_setAnswer
    by_cases y : r = -1
    · rw [if_pos y, if_pos y, y]
    · rw [if_neg y, if_neg y, if_neg (by omega), popc_eq]
      rcases k1 with ⟨a, _⟩ | ⟨a, _⟩
      · exact absurd a y
      · omega
  · have ec : cl_hush v n = (-2, v) := by
      unfold cl_hush
      by_cases a : 0 < v 33 2
      · rw [if_pos a]
        by_cases b : n < 0
        · rw [if_pos b]
        · rw [if_neg b, if_pos (by omega)]
      · rw [if_neg a]
    rw [ec]
    show (mo_hush v n).1 = -2 ∧ INV (mo_hush v n).2
    have em : mo_hush v n = (-2, v2 v 203 0 0) := by
      unfold mo_hush
      rw [bL]
      by_cases a : 0 < v 33 2
      · rw [if_pos a, if_neg (by omega)]
      · rw [if_neg a]
    rw [em]
    exact ⟨rfl, h.thr⟩
