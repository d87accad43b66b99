
/-! night -/
theorem and_nat {a b : Nat} (ha : a < 4096) (hb : b < 4096) : pm_and (a : Int) (b : Int) = ((a &&& b : Nat) : Int) := by
  have hlt : a &&& b < 2 ^ 12 := Nat.and_lt_two_pow _ (by omega)
  unfold pm_and
  have e : Int32.ofInt (a : Int) &&& Int32.ofInt (b : Int) = Int32.ofInt ((a &&& b : Nat) : Int) := by
    apply Int32.toBitVec_inj.1
    rw [Int32.toBitVec_and, Int32.toBitVec_ofInt, Int32.toBitVec_ofInt, Int32.toBitVec_ofInt, BitVec.ofInt_natCast, BitVec.ofInt_natCast, BitVec.ofInt_natCast, BitVec.ofNat_and]
  rw [e, w32_of, w32_id (by omega) (by omega)]
theorem and_dsj {s m : Int} (hs : 0 ≤ s ∧ s < 4096) (hm : 0 ≤ m ∧ m < 4096) : pm_and s m = 0 ↔ dsj s m := by
  obtain ⟨a, rfl⟩ : ∃ a : Nat, s = a := ⟨s.toNat, by omega⟩
  obtain ⟨b, rfl⟩ : ∃ b : Nat, m = b := ⟨m.toNat, by omega⟩
  rw [and_nat (by omega) (by omega)]
  constructor
  · intro q i hi h1
    have q : a &&& b = 0 := by omega
    have t : (a &&& b).testBit i = false := by rw [q]; simp
    rw [Nat.testBit_and] at t
    rw [bt_test] at h1 ⊢
    by_cases x : a.testBit i = true
    · rw [x] at t
      have : b.testBit i = false := by simpa using t
      rw [this]; rfl
    · rw [if_neg x] at h1; omega
  · intro h
    have : a &&& b = 0 := by
      apply Nat.eq_of_testBit_eq
      intro i
      rw [Nat.testBit_and, Nat.zero_testBit]
      by_cases x : a.testBit i = true
      · rcases Nat.lt_or_ge i 12 with y | y
        · have := h i y (by rw [bt_test, if_pos x])
          rw [bt_test] at this
          by_cases z : b.testBit i = true
          · rw [if_pos z] at this; omega
          · simp [z]
        · have p : 2 ^ 12 ≤ 2 ^ i := Nat.pow_le_pow_right (by omega) y
          rw [Nat.testBit_lt_two_pow (show b < 2 ^ i by omega)]
          simp
      · simp [x]
    rw [this]
    rfl
theorem quietC {p : VS} (sg : SG p) {t : Int} (h6 : p 67 6 = p 33 1 - 1) (h7 : p 67 7 = -1) (h8 : p 67 8 = t) (h9 : p 67 9 = 300) {u : VS} (rm : RM (arun (pln (cP p))) u) : mo_isQuiet u t = 0 ↔ ¬ (arun (cP p)).1 0 2 = 0 := by
  obtain ⟨u1, u2⟩ := uw_iff sg.pw (cP_stop h6)
  have hA := AW.run sg.pw.toPln
  obtain ⟨c0, c1, c2, c3, c4, c5, c6, c7, c8, c9⟩ := cP_0 p
  have hn := hA.n
  have key : (arun (cP p)).1 0 2 = 1 ↔ ∃ i : Nat, (i : Int) < (arun (pln (cP p))).1 0 0 ∧ t ≤ (arun (pln (cP p))).1 1 i := by
    rw [u2]
    constructor
    · rintro ⟨i, i1, i2⟩
      have hs := (hA.st i i1).2.1
      rcases i2 with i2 | i2 | i2
      · rw [c6, h7] at i2; omega
      · rw [c7, h8] at i2; exact ⟨i, i1, i2⟩
      · rw [c8, h9] at i2; omega
    · rintro ⟨i, i1, i2⟩
      exact ⟨i, i1, Or.inr (Or.inl (by rw [c7, h8]; exact i2))⟩
  unfold mo_isQuiet
  rw [rm.n]
  by_cases z : (arun (pln (cP p))).1 0 0 = 0
  · rw [if_pos z]
    refine ⟨fun q => by omega, fun q => ?_⟩
    obtain ⟨i, i1, _⟩ := key.mp (by omega)
    omega
  · rw [if_neg z]
    obtain ⟨m, hm⟩ : ∃ m : Nat, (arun (pln (cP p))).1 0 0 - 1 = m := ⟨((arun (pln (cP p))).1 0 0 - 1).toNat, by omega⟩
    have ea : mo_at u ((arun (pln (cP p))).1 0 0 - 1) 0 = (arun (pln (cP p))).1 1 m := by
      unfold mo_at
      rw [hm, show (5 * (m : Int) + 0).toNat = 5 * m + 0 by omega, rm.st 0 m (by omega) (by omega)]
    rw [ea]
    by_cases y : (arun (pln (cP p))).1 1 m < t
    · rw [if_pos y]
      refine ⟨fun q => by omega, fun q => ?_⟩
      obtain ⟨i, i1, i2⟩ := key.mp (by omega)
      have := hA.srt i m (by omega) (by omega)
      omega
    · rw [if_neg y]
      refine ⟨fun _ q => ?_, fun _ => rfl⟩
      have := key.mpr ⟨m, by omega, by omega⟩
      omega
theorem night32 {v : VS} (h : INV v) {t w : Int} (ht : 0 ≤ t ∧ t < v 33 1) {N : Nat} (hN : v 33 0 = N) : ∀ (f : Nat) (u : VS) (g : Int) (s : Nat), INV u → (∀ k, k ≠ 203 → k < 219 ∨ 231 < k → u k = v k) → RI (gdC v t) N (v 33 4) g s → (s : Int) ≤ (2 : Int) ^ N → (2 : Int) ^ N - s < f → LSS (gdC v t) N (v 33 4) (mo_night_32 f u t w g s).1 ∧ INV (mo_night_32 f u t w g s).2 := by
  have h9 : 0 ≤ v 33 0 ∧ v 33 0 ≤ 9 := h.i.x 33 0
  have hS : 0 ≤ v 33 1 ∧ v 33 1 ≤ 300 := h.i.x 33 1
  have hM : 0 ≤ v 33 4 ∧ v 33 4 ≤ 511 := h.i.x 33 4
  have p1 := pow_le12 (N := N) (by omega)
  have p2 := pow9 (N := N) (by omega)
  obtain ⟨b0, b1, b3, b4, bL, b9, b10⟩ := h.b0
  obtain ⟨o1, o2⟩ := h.or0
  obtain ⟨r1, r2⟩ := h.r9
  obtain ⟨a0, a1, a4, a5, a6, a7, a8, a9, a68⟩ := asTold_r v
  intro f
  induction f with
  | zero => intro u g s hu e ri s1 hf; omega
  | succ f ih =>
    intro u g s hu e ri s1 hf
    rw [mo_night_32, e 210 (by omega) (by omega), b0, b9, hN, toN, show ((s : Int) + 1) = ((s + 1 : Nat) : Int) by omega]
    by_cases q : (s : Int) < (2 : Int) ^ N
    · rw [if_pos q]
      have hy := or_in9 hM (s := (s : Int)) (by omega)
      have gg : g = -1 ∨ (0 ≤ g ∧ g < 4096) := by
        rcases ri with ⟨x, _⟩ | ⟨x, _⟩
        · exact Or.inl x
        · exact Or.inr (by omega)
      by_cases d : pm_and (s : Int) (v 33 4) = 0
      · rw [if_pos d]
        have dj := (and_dsj (by omega) (by omega)).mp d
        obtain ⟨sg, s6⟩ := fQ_sg h (j0 := 8) (r := 0) (x0 := t) (y := pm_or (v 33 4) s) (by omega) (by omega) (show 0 ≤ t ∧ t ≤ 300 by omega) hy
        have sp : SP v (fQ v 8 t 0 (pm_or (v 33 4) s)) := ((SP.told h).put (j := 8) (by omega) (show 0 ≤ t ∧ t ≤ 300 by omega)).put (j := 0) (by omega) hy
        have fe : ∀ j, j ≠ 0 → j ≠ 8 → fQ v 8 t 0 (pm_or (v 33 4) s) 67 j = (cl_asTold v) 67 j := fun j j0 j8 => by
          unfold fQ
          rw [v2_eq, if_neg (fun z => j0 z.2), v2_eq, if_neg (fun z => j8 z.2)]
        have f0 : fQ v 8 t 0 (pm_or (v 33 4) s) 67 0 = pm_or (v 33 4) s := by unfold fQ; rw [v2_eq, if_pos ⟨rfl, rfl⟩]
        have f8 : fQ v 8 t 0 (pm_or (v 33 4) s) 67 8 = t := by unfold fQ; rw [v2_eq, if_neg (by omega), v2_eq, if_pos ⟨rfl, rfl⟩]
        obtain ⟨t1, t2, t3, t4⟩ := sBy (p := fQ v 8 t 0 (pm_or (v 33 4) s)) (m := (s : Int)) (k := 0) h hu e (by rw [b9]; exact hy) (by rw [o2]; exact r2) sp (by rw [f0, b9]; exact fun c _ => rfl) (by rw [o2, fe 1 (by omega) (by omega), a1, b10]; exact fun c _ => rfl) (by rw [fe 4 (by omega) (by omega), a4]) (by rw [fe 5 (by omega) (by omega), a5]) (fun j hj => by unfold fQ; rw [v2_row (by omega), v2_row (by omega), asTold_72 v j hj])
        have qc := quietC sg (t := t) s6 (by rw [fe 7 (by omega) (by omega), a7]) f8 (by rw [fe 9 (by omega) (by omega), a9]) t1
        have go : ∀ hl : g = -1 ∨ popc s < popc g, LSS (gdC v t) N (v 33 4) (if mo_isQuiet (mo_strikesBy u s 0).2 t = 0 then mo_night_32 f (mo_strikesBy u s 0).2 t w g ((s + 1 : Nat) : Int) else mo_night_32 f (mo_strikesBy u s 0).2 t w s ((s + 1 : Nat) : Int)).1 ∧ INV (if mo_isQuiet (mo_strikesBy u s 0).2 t = 0 then mo_night_32 f (mo_strikesBy u s 0).2 t w g ((s + 1 : Nat) : Int) else mo_night_32 f (mo_strikesBy u s 0).2 t w s ((s + 1 : Nat) : Int)).2 := fun hl => by
          by_cases gd : gdC v t s
          · rw [if_neg (fun y => (qc.mp y) gd)]
            exact ih _ _ (s + 1) t3 t4 (ri.yes (by omega) dj gd hl) (by omega) (by omega)
          · rw [if_pos (qc.mpr gd)]
            exact ih _ _ (s + 1) t3 t4 (ri.no (Or.inl (fun y => gd y.2))) (by omega) (by omega)
        by_cases g1 : g = -1
        · rw [if_pos g1]
          exact go (Or.inl g1)
        · rw [if_neg g1, sizeOf_eq (by omega), sizeOf_eq (gg.elim (fun y => absurd y g1) id)]
          by_cases g2 : popc s < popc g
          · rw [if_pos g2]
            exact go (Or.inr g2)
          · rw [if_neg g2]
            exact ih _ _ (s + 1) hu e (ri.no (Or.inr ⟨g1, by omega⟩)) (by omega) (by omega)
      · rw [if_neg d]
        exact ih _ _ (s + 1) hu e (ri.no (Or.inl (fun y => d ((and_dsj (by omega) (by omega)).mpr y.1)))) (by omega) (by omega)
    · rw [if_neg q]
      rw [show (s : Int) = (2 : Int) ^ N by omega] at ri
      exact ⟨ri.end, hu⟩
