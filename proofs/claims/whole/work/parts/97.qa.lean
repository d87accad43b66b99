/-! rows of numbers -/
theorem INV.slots {v w : VS} (h : INV v) (hx : XI w) (hs : SLQ w) (e : ∀ k, k < 107 ∨ 114 < k → k < 203 ∨ 207 < k → w k = v k) (e2 : ∀ j, j ≠ 0 → w 203 j = v 203 j) : INV w := by
  have eT : tP w = tP v := tP_of (fun k a b => e k (by omega) (by omega))
  refine ⟨⟨hx, h.i.c.of (fun k a b => e k (by omega) (by omega)), ?_, h.i.t.of (by rw [e 0 (by omega) (by omega)]) (e 1 (by omega) (by omega)) (e 2 (by omega) (by omega)) (e 208 (by omega) (by omega)) (e2 6 (by omega)) (e2 14 (by omega)) (e2 15 (by omega)), hs, h.i.i.of (by rw [e 0 (by omega) (by omega)]) (fun j a b => e j (by omega) (by omega)) (fun j a b => e j (by omega) (by omega)), h.i.b.of (fun j a b => e j (by omega) (by omega)) (fun j a b => e j (by omega) (by omega)), h.i.g.of (fun j a b => e j (by omega) (by omega))⟩, h.a.of (fun k a b => e k (by omega) (by omega)), fun g => ?_⟩
  · have := h.i.z
    unfold WZ at *
    rw [e 73 (by omega) (by omega), e 74 (by omega) (by omega)]
    exact this
  · rw [e 0 (by omega) (by omega)] at g
    obtain ⟨g1, g2⟩ := h.r g
    rw [eT]
    refine ⟨g1.of (fun k a b => e k (by omega) (by omega)) rfl, fun c t hc ht => ?_⟩
    rw [e 33 (by omega) (by omega)] at hc ht
    rw [e 105 (by omega) (by omega)]
    exact g2.c c t hc ht
theorem row57 {s : Nat} {n : Int} : ∀ (f k : Nat) (v : VS), n < k + f → ∀ j : Nat, (mo_row_57 f v s n k) 206 j = if 60 * s + k ≤ j ∧ (j : Int) < 60 * s + n then 0 else v 206 j := by
  intro f
  induction f with
  | zero => intro k v hf j; rw [if_neg (by omega)]; rfl
  | succ f ih =>
    intro k v hf j
    rw [mo_row_57, show (60 * (s : Int) + (k : Int)).toNat = 60 * s + k by omega, show ((k : Int) + 1) = ((k + 1 : Nat) : Int) by omega]
    by_cases q : (k : Int) < n
    · rw [if_pos q, ih (k + 1) _ (by omega) j, v2_eq]
      by_cases z : j = 60 * s + k
      · rw [if_neg (by omega), if_pos ⟨rfl, z⟩, if_pos (by omega)]
      · by_cases y : 60 * s + (k + 1) ≤ j ∧ (j : Int) < 60 * s + n
        · rw [if_pos y, if_pos (by omega)]
        · rw [if_neg y, if_neg (fun g => z g.2), if_neg (by omega)]
    · rw [if_neg q, if_neg (by omega)]
theorem q_row {v : VS} (h : INV v) (s w n : Int) (h1 : R32 s) (h2 : R32 w) (h3 : R32 n) : (mo_row (cl_row v s w n).2 s w n).1 = (cl_row v s w n).1 ∧ INV (mo_row (cl_row v s w n).2 s w n).2 := by
  have hx := i_mo_row (i_cl_row h.i.x h1 h2 h3) h1 h2 h3
  by_cases z : (0 ≤ s ∧ s < 4) ∧ (0 ≤ w ∧ w ≤ 3) ∧ (0 ≤ n ∧ n ≤ 60)
  · obtain ⟨s, rfl⟩ := Int.eq_ofNat_of_zero_le z.1.1
    have hs4 : s < 4 := by omega
    have ec : cl_row v s w n = (0, cl_lay v s w n) := by
      unfold cl_row
      rw [if_pos z.1, if_neg (by omega), if_neg (by omega), if_neg (by omega), if_neg (by omega), toN]
    rw [ec] at hx ⊢
    have em : mo_row (cl_lay v s w n) s w n = (0, mo_row_57 61 (v2 (v2 (v2 (cl_lay v s w n) 203 0 0) 204 s w) 205 s n) s n 0) := by
      unfold mo_row
      rw [if_pos (by omega), if_pos (by omega), if_neg (by omega), if_neg (by omega), toN]
    dsimp only at hx ⊢
    rw [em] at hx ⊢
    dsimp only at hx ⊢
    have r206 := row57 (s := s) (n := n) 61 0 (v2 (v2 (v2 (cl_lay v s w n) 203 0 0) 204 s w) 205 s n) (by omega)
    have ro : ∀ k, k ≠ 206 → (mo_row_57 61 (v2 (v2 (v2 (cl_lay v s w n) 203 0 0) 204 s w) 205 s n) s n 0) k = (v2 (v2 (v2 (cl_lay v s w n) 203 0 0) 204 s w) 205 s n) k := fun k hk => o_mo_row_57 (by omega)
    have rl : ∀ k, k < 107 ∨ 114 < k → (cl_lay v s w n) k = v k := fun k hk => o_cl_lay (by omega)
    have l7 : ∀ q j : Nat, (cl_lay v s w n) (107 + 2 * q) j = if q = s then (if j = 2 then min n 60 else if j = 1 then w else if j = 0 then 1 else v (107 + 2 * q) j) else v (107 + 2 * q) j := by
      intro q j
      unfold cl_lay jfl
      rw [fset_at, if_neg (by omega), v2_eq, v2_eq, v2_eq]
      by_cases y : q = s
      · rw [if_pos y]
        by_cases j2 : j = 2
        · rw [if_pos ⟨by omega, j2⟩, if_pos j2]
        · rw [if_neg (fun g => j2 g.2), if_neg j2]
          by_cases j1 : j = 1
          · rw [if_pos ⟨by omega, j1⟩, if_pos j1]
          · rw [if_neg (fun g => j1 g.2), if_neg j1]
            by_cases j0 : j = 0
            · rw [if_pos ⟨by omega, j0⟩, if_pos j0]
            · rw [if_neg (fun g => j0 g.2), if_neg j0]
      · rw [if_neg y, if_neg (by omega), if_neg (by omega), if_neg (by omega)]
    have l8 : ∀ q j : Nat, (cl_lay v s w n) (108 + 2 * q) j = if q = s ∧ j < 60 then 0 else v (108 + 2 * q) j := by
      intro q j
      unfold cl_lay jfl
      rw [fset_at]
      by_cases y : q = s
      · rw [if_pos (by omega)]
        by_cases j2 : j < 60
        · rw [if_pos j2, if_pos ⟨y, j2⟩]
        · rw [if_neg j2, if_neg (fun g => j2 g.2), v2_row (by omega), v2_row (by omega), v2_row (by omega), y]
      · rw [if_neg (by omega), if_neg (fun g => y g.1), v2_row (by omega), v2_row (by omega), v2_row (by omega)]
    obtain ⟨u, hu⟩ : ∃ u, u = mo_row_57 61 (v2 (v2 (v2 (cl_lay v s w n) 203 0 0) 204 s w) 205 s n) s n 0 := ⟨_, rfl⟩
    rw [show ((0 : Nat) : Int) = 0 from rfl] at r206
    rw [← hu] at hx r206 ro ⊢
    have u7 : ∀ q j : Nat, q < 4 → u (107 + 2 * q) j = (cl_lay v s w n) (107 + 2 * q) j := fun q j hq => by rw [ro _ (by omega), v2_row (by omega), v2_row (by omega), v2_row (by omega)]
    have u8 : ∀ q j : Nat, q < 4 → u (108 + 2 * q) j = (cl_lay v s w n) (108 + 2 * q) j := fun q j hq => by rw [ro _ (by omega), v2_row (by omega), v2_row (by omega), v2_row (by omega)]
    have u4 : ∀ q : Nat, u 204 q = if q = s then w else v 204 q := fun q => by
      rw [ro _ (by omega), v2_row (by omega), v2_eq]
      by_cases y : q = s
      · rw [if_pos ⟨rfl, y⟩, if_pos y]
      · rw [if_neg (fun g => y g.2), if_neg y, v2_row (by omega), rl 204 (by omega)]
    have u5 : ∀ q : Nat, u 205 q = if q = s then n else v 205 q := fun q => by
      rw [ro _ (by omega), v2_eq]
      by_cases y : q = s
      · rw [if_pos ⟨rfl, y⟩, if_pos y]
      · rw [if_neg (fun g => y g.2), if_neg y, v2_row (by omega), v2_row (by omega), rl 205 (by omega)]
    have u6 : ∀ j : Nat, u 206 j = if 60 * s + 0 ≤ j ∧ (j : Int) < 60 * s + n then 0 else v 206 j := fun j => by
      rw [r206 j, v2_row (by omega), v2_row (by omega), v2_row (by omega), rl 206 (by omega)]
    refine ⟨rfl, h.slots hx ⟨fun q hq => ?_, fun q hq => ?_, fun q j hq => ?_⟩ (fun k k1 k2 => by rw [ro k (by omega), v2_row (by omega), v2_row (by omega), v2_row (by omega), rl k k1]) (fun j hj => by rw [ro 203 (by omega), v2_row (by omega), v2_row (by omega), v2_eq, if_neg (fun g => hj g.2), rl 203 (by omega)])⟩
    · rw [u7 q 0 hq, l7, u4]
      by_cases y : q = s
      · simp only [if_pos y]
        simp
        omega
      · rw [if_neg y, if_neg y]; exact h.i.s.has q hq
    · rw [u7 q 0 hq, u7 q 1 hq, u7 q 2 hq, l7, l7, l7, u4, u5]
      by_cases y : q = s
      · simp only [if_pos y]
        simp
        omega
      · simp only [if_neg y]; exact h.i.s.wd q hq
    · rw [u7 q 0 hq, u7 q 2 hq, l7, l7, u8 q j hq, l8, u6]
      by_cases y : q = s
      · simp only [if_pos y]
        intro _ hj
        simp at hj
        rw [if_pos ⟨y, by omega⟩, if_pos (by omega)]
      · simp only [if_neg y]
        intro g1 g2
        have hl := h.i.x.len hq
        rw [if_neg (fun g => y g.1), if_neg (by omega)]
        exact h.i.s.ce q j hq g1 g2
  · have ec : (cl_row v s w n).2 = v ∧ (cl_row v s w n).1 = (mo_row v s w n).1 ∧ (mo_row v s w n).2 = v2 v 203 0 0 := by
      unfold cl_row mo_row
      by_cases a1 : 0 ≤ s ∧ s < 4
      · rw [if_pos a1, if_pos (show 0 ≤ s ∧ s ≤ 3 by omega)]
        by_cases a2 : 0 ≤ w ∧ w ≤ 3
        · rw [if_neg (by omega), if_neg (by omega), if_pos a2]
          by_cases a3 : 60 < n
          · rw [if_pos a3, if_pos a3]; exact ⟨rfl, rfl, rfl⟩
          · rw [if_neg a3, if_neg a3, if_pos (by omega), if_pos (by omega)]; exact ⟨rfl, rfl, rfl⟩
        · rw [if_neg a2]
          by_cases a4 : w < 0
          · rw [if_pos a4]; exact ⟨rfl, rfl, rfl⟩
          · rw [if_neg a4, if_pos (by omega)]; exact ⟨rfl, rfl, rfl⟩
      · rw [if_neg a1, if_neg (by omega)]; exact ⟨rfl, rfl, rfl⟩
    rw [ec.1, ec.2.1, ec.2.2]
    exact ⟨rfl, h.thr⟩
theorem q_write {v : VS} (h : INV v) (s i y : Int) (h1 : R32 s) (h2 : R32 i) (h3 : R64 y) : (mo_write (cl_write v s i y).2 s i y).1 = (cl_write v s i y).1 ∧ INV (mo_write (cl_write v s i y).2 s i y).2 := by
  have hx := i_mo_write (i_cl_write h.i.x h1 h2 h3) h1 h2 h3
  by_cases a1 : 0 ≤ s ∧ s < 4
  · obtain ⟨s, rfl⟩ := Int.eq_ofNat_of_zero_le a1.1
    have hs4 : s < 4 := by omega
    have hh := h.i.s.has s hs4
    have hl := h.i.x.len hs4
    by_cases a2 : v (107 + 2 * s) 0 = 0
    · have ec : cl_write v s i y = (-6, v) := by unfold cl_write; rw [if_pos a1, toN, if_pos a2]
      rw [ec]
      show (mo_write v s i y).1 = -6 ∧ INV (mo_write v s i y).2
      unfold mo_write
      rw [if_pos (by omega), toN, if_pos (hh.mp a2)]
      exact ⟨rfl, h.thr⟩
    · obtain ⟨w1, w2⟩ := h.i.s.wd s hs4 a2
      by_cases a3 : 0 ≤ i ∧ i < v (107 + 2 * s) 2
      · obtain ⟨i, rfl⟩ := Int.eq_ofNat_of_zero_le a3.1
        have ec : cl_write v s i y = (0, v2 v (108 + 2 * s) i (cl_narrow v s y)) := by
          unfold cl_write
          rw [if_pos a1, toN, if_neg a2, if_neg (by omega), if_pos a3.2, toN]
        have e6 : (60 * (s : Int) + (i : Int)).toNat = 60 * s + i := by omega
        have em : mo_write (v2 v (108 + 2 * s) i (cl_narrow v s y)) s i y = (0, v2 (v2 (v2 v (108 + 2 * s) i (cl_narrow v s y)) 203 0 0) 206 (60 * s + i) (cl_narrow v s y)) := by
          unfold mo_write
          rw [v2_row (show 204 ≠ 108 + 2 * s by omega), v2_row (show 205 ≠ 108 + 2 * s by omega), if_pos (by omega), toN, if_neg (fun g => a2 (hh.mpr g)), if_pos (by omega), e6]
          have : mo_cutL (v2 (v2 v (108 + 2 * s) i (cl_narrow v s y)) 203 0 0) y (v 204 s) = cl_narrow v s y := by
            unfold mo_cutL cl_narrow
            rw [w1]
          rw [this]
        rw [ec] at hx ⊢
        dsimp only at hx ⊢
        rw [em] at hx ⊢
        dsimp only at hx ⊢
        obtain ⟨z, hz⟩ : ∃ z, z = cl_narrow v s y := ⟨_, rfl⟩
        rw [← hz] at hx ⊢
        have r : ∀ k, k ≠ 203 → k ≠ 206 → k ≠ 108 + 2 * s → (v2 (v2 (v2 v (108 + 2 * s) i z) 203 0 0) 206 (60 * s + i) z) k = v k := fun k k1 k2 k3 => by rw [v2_row k2, v2_row k1, v2_row k3]
        have r8 : ∀ q j : Nat, q < 4 → (v2 (v2 (v2 v (108 + 2 * s) i z) 203 0 0) 206 (60 * s + i) z) (108 + 2 * q) j = if q = s ∧ j = i then z else v (108 + 2 * q) j := fun q j hq => by
          rw [v2_row (by omega), v2_row (by omega), v2_eq]
          by_cases g : q = s ∧ j = i
          · rw [if_pos (by omega), if_pos g]
          · rw [if_neg (by omega), if_neg g]
        have r6 : ∀ j : Nat, (v2 (v2 (v2 v (108 + 2 * s) i z) 203 0 0) 206 (60 * s + i) z) 206 j = if j = 60 * s + i then z else v 206 j := fun j => by
          rw [v2_eq, v2_row (by omega), v2_row (by omega)]
          by_cases g : j = 60 * s + i
          · rw [if_pos ⟨rfl, g⟩, if_pos g]
          · rw [if_neg (fun y => g y.2), if_neg g]
        refine ⟨rfl, h.slots hx ⟨fun q hq => ?_, fun q hq => ?_, fun q j hq => ?_⟩ (fun k k1 k2 => r k (by omega) (by omega) (by omega)) (fun j hj => by rw [v2_row (by omega), v2_eq, if_neg (fun g => hj g.2), v2_row (by omega)])⟩
        · rw [r (107 + 2 * q) (by omega) (by omega) (by omega), r 204 (by omega) (by omega) (by omega)]; exact h.i.s.has q hq
        · rw [r (107 + 2 * q) (by omega) (by omega) (by omega), r 204 (by omega) (by omega) (by omega), r 205 (by omega) (by omega) (by omega)]; exact h.i.s.wd q hq
        · rw [r (107 + 2 * q) (by omega) (by omega) (by omega), r8 q j hq, r6]
          intro g1 g2
          have hl := h.i.x.len hq
          by_cases g : q = s ∧ j = i
          · rw [if_pos g, if_pos (by omega)]
          · rw [if_neg g, if_neg (by omega)]
            exact h.i.s.ce q j hq g1 g2
      · have ec : cl_write v s i y = (-7, v) := by
          unfold cl_write
          rw [if_pos a1, toN, if_neg a2]
          by_cases b : i < 0
          · rw [if_pos b]
          · rw [if_neg b, if_neg (by omega)]
        rw [ec]
        show (mo_write v s i y).1 = -7 ∧ INV (mo_write v s i y).2
        unfold mo_write
        rw [if_pos (by omega), toN, if_neg (fun g => a2 (hh.mpr g)), if_neg (by omega)]
        exact ⟨rfl, h.thr⟩
  · have ec : cl_write v s i y = (-2, v) := by unfold cl_write; rw [if_neg a1]
    rw [ec]
    show (mo_write v s i y).1 = -2 ∧ INV (mo_write v s i y).2
    unfold mo_write
    rw [if_neg (by omega)]
    exact ⟨rfl, h.thr⟩
theorem p118 {s i o k n : Int} {b : Nat} (hb : 60 * s + i = b) : ∀ (f x : Nat) (v : VS), n < x + f → (∀ j : Nat, x ≤ j → (j : Int) < n → (mo_paste_118 f v s i o k n x) 207 j = v 206 (b + j)) ∧ (∀ j : Nat, j < x → (mo_paste_118 f v s i o k n x) 207 j = v 207 j) := by
  intro f
  induction f with
  | zero => intro x v hf; exact ⟨fun j j1 j2 => by omega, fun j _ => rfl⟩
  | succ f ih =>
    intro x v hf
    rw [mo_paste_118, toN, show (60 * s + i + (x : Int)).toNat = b + x by omega, show ((x : Int) + 1) = ((x + 1 : Nat) : Int) by omega]
    by_cases q : (x : Int) < n
    · rw [if_pos q]
      obtain ⟨i1, i2⟩ := ih (x + 1) (v2 v 207 x (v 206 (b + x))) (by omega)
      refine ⟨fun j j1 j2 => ?_, fun j j1 => ?_⟩
      · by_cases e : j = x
        · rw [i2 j (by omega), v2_eq, if_pos ⟨rfl, e⟩, e]
        · rw [i1 j (by omega) j2, v2_row (by omega)]
      · rw [i2 j (by omega), v2_eq, if_neg (by omega)]
    · rw [if_neg q]
      exact ⟨fun j j1 j2 => by omega, fun j _ => rfl⟩
theorem p155 {o k n : Int} {b : Nat} (hb : 60 * o + k = b) : ∀ (f x : Nat) (v : VS), n < x + f → ∀ j : Nat, (mo_paste_155 f v o k n x) 206 j = if b + x ≤ j ∧ (j : Int) < b + n then v 207 (j - b) else v 206 j := by
  intro f
  induction f with
  | zero => intro x v hf j; rw [if_neg (by omega)]; rfl
  | succ f ih =>
    intro x v hf j
    rw [mo_paste_155, toN, show (60 * o + k + (x : Int)).toNat = b + x by omega, show ((x : Int) + 1) = ((x + 1 : Nat) : Int) by omega]
    by_cases q : (x : Int) < n
    · rw [if_pos q, ih (x + 1) _ (by omega) j, v2_row (show 207 ≠ 206 by omega), v2_eq]
      by_cases z : j = b + x
      · rw [if_neg (by omega), if_pos ⟨rfl, z⟩, if_pos (by omega), z, show b + x - b = x by omega]
      · by_cases y : b + (x + 1) ≤ j ∧ (j : Int) < b + n
        · rw [if_pos y, if_pos (by omega)]
        · rw [if_neg y, if_neg (fun g => z g.2), if_neg (by omega)]
    · rw [if_neg q, if_neg (by omega)]
theorem q_paste {v : VS} (h : INV v) (s i o k n : Int) (h1 : R32 s) (h2 : R32 i) (h3 : R32 o) (h4 : R32 k) (h5 : R32 n) : (mo_paste (cl_paste v s i o k n).2 s i o k n).1 = (cl_paste v s i o k n).1 ∧ INV (mo_paste (cl_paste v s i o k n).2 s i o k n).2 := by
  have hx := i_mo_paste (i_cl_paste h.i.x h1 h2 h3 h4 h5) h1 h2 h3 h4 h5
  by_cases a1 : (0 ≤ s ∧ s < 4) ∧ (0 ≤ o ∧ o < 4)
  · obtain ⟨s, rfl⟩ := Int.eq_ofNat_of_zero_le a1.1.1
    obtain ⟨o, rfl⟩ := Int.eq_ofNat_of_zero_le a1.2.1
    have hs4 : s < 4 := by omega
    have ho4 : o < 4 := by omega
    have hhs := h.i.s.has s hs4
    have hho := h.i.s.has o ho4
    have hls := h.i.x.len hs4
    have hlo := h.i.x.len ho4
    by_cases a2 : v (107 + 2 * s) 0 ≠ 0 ∧ v (107 + 2 * o) 0 ≠ 0
    · obtain ⟨ws1, ws2⟩ := h.i.s.wd s hs4 a2.1
      obtain ⟨wo1, wo2⟩ := h.i.s.wd o ho4 a2.2
      have ns : ¬ v 204 s = -1 := fun g => a2.1 (hhs.mpr g)
      have no : ¬ v 204 o = -1 := fun g => a2.2 (hho.mpr g)
      by_cases a3 : v (107 + 2 * s) 1 = v (107 + 2 * o) 1
      · by_cases a4 : (0 ≤ i ∧ 0 ≤ n ∧ i + n ≤ v (107 + 2 * s) 2) ∧ (0 ≤ k ∧ 0 ≤ n ∧ k + n ≤ v (107 + 2 * o) 2)
        · have ec : cl_paste v s i o k n = (0, vcp v (108 + 2 * s) (108 + 2 * o) i.toNat k.toNat n.toNat) := by
            unfold cl_paste
            rw [if_pos a1.1, if_pos a1.2, toN, toN, if_neg a2.1, if_neg a2.2, if_pos a3, if_pos a4.1, if_pos a4.2]
          obtain ⟨i, rfl⟩ := Int.eq_ofNat_of_zero_le a4.1.1
          obtain ⟨k, rfl⟩ := Int.eq_ofNat_of_zero_le a4.2.1
          obtain ⟨n, rfl⟩ := Int.eq_ofNat_of_zero_le a4.1.2.1
          rw [toN, toN, toN] at ec
          have rv : ∀ j, j ≠ 108 + 2 * o → (vcp v (108 + 2 * s) (108 + 2 * o) i k n) j = v j := fun j hj => by unfold vcp; rw [fset_at, if_neg hj]
          have rv8 : ∀ j, (vcp v (108 + 2 * s) (108 + 2 * o) i k n) (108 + 2 * o) j = if k ≤ j ∧ j < k + n then v (108 + 2 * s) (i + (j - k)) else v (108 + 2 * o) j := fun j => by
            unfold vcp va_cpy
            rw [fset_at, if_pos rfl]
          obtain ⟨u, hu⟩ : ∃ u, u = vcp v (108 + 2 * s) (108 + 2 * o) i k n := ⟨_, rfl⟩
          rw [← hu] at ec rv rv8
          have em : mo_paste u s i o k n = (0, mo_paste_155 61 (mo_paste_118 61 (v2 u 203 0 0) s i o k n 0) o k n 0) := by
            unfold mo_paste mo_paste_152
            rw [rv 204 (by omega), rv 205 (by omega), if_pos (by omega), if_pos (by omega), toN, toN, if_neg ns, if_neg no, if_pos (by rw [← ws1, ← wo1]; exact a3), if_neg (by omega), if_neg (by omega), if_neg (by omega), if_neg (by rw [← ws2]; omega), if_neg (by rw [← wo2]; omega)]
          rw [ec] at hx ⊢
          dsimp only at hx ⊢
          rw [em] at hx ⊢
          dsimp only at hx ⊢
          have p1 := p118 (s := (s : Int)) (i := (i : Int)) (o := (o : Int)) (k := (k : Int)) (n := (n : Int)) (b := 60 * s + i) (by omega) 61 0 (v2 u 203 0 0) (by omega)
          have p2 := p155 (o := (o : Int)) (k := (k : Int)) (n := (n : Int)) (b := 60 * o + k) (by omega) 61 0 (mo_paste_118 61 (v2 u 203 0 0) s i o k n 0) (by omega)
          rw [show ((0 : Nat) : Int) = 0 from rfl] at p1 p2
          have r : ∀ j, j ≠ 203 → j ≠ 206 → j ≠ 207 → (mo_paste_155 61 (mo_paste_118 61 (v2 u 203 0 0) s i o k n 0) o k n 0) j = u j := fun j j1 j2 j3 => by rw [o_mo_paste_155 (by omega), o_mo_paste_118 (by omega), v2_row j1]
          obtain ⟨w, hw⟩ : ∃ w, w = mo_paste_155 61 (mo_paste_118 61 (v2 u 203 0 0) s i o k n 0) o k n 0 := ⟨_, rfl⟩
          have w203 : w 203 = (v2 u 203 0 0) 203 := by rw [hw, o_mo_paste_155 (by omega), o_mo_paste_118 (by omega)]
          have w6 : ∀ j : Nat, w 206 j = if 60 * o + k ≤ j ∧ j < 60 * o + k + n then v 206 (60 * s + i + (j - (60 * o + k))) else v 206 j := fun j => by
            rw [hw, p2 j]
            by_cases g : 60 * o + k ≤ j ∧ j < 60 * o + k + n
            · rw [if_pos (by omega), if_pos g, p1.1 _ (by omega) (by omega), v2_row (by omega), rv 206 (by omega)]
            · rw [if_neg (by omega), if_neg g, o_mo_paste_118 (by omega), v2_row (by omega), rv 206 (by omega)]
          rw [← hw] at hx r ⊢
          refine ⟨rfl, h.slots hx ⟨fun q hq => ?_, fun q hq => ?_, fun q j hq => ?_⟩ (fun j j1 j2 => by rw [r j (by omega) (by omega) (by omega), rv j (by omega)]) (fun j hj => by rw [w203, v2_eq, if_neg (fun g => hj g.2), rv 203 (by omega)])⟩
          · rw [r (107 + 2 * q) (by omega) (by omega) (by omega), r 204 (by omega) (by omega) (by omega), rv _ (by omega), rv _ (by omega)]; exact h.i.s.has q hq
          · rw [r (107 + 2 * q) (by omega) (by omega) (by omega), r 204 (by omega) (by omega) (by omega), r 205 (by omega) (by omega) (by omega), rv _ (by omega), rv _ (by omega), rv _ (by omega)]; exact h.i.s.wd q hq
          · rw [r (107 + 2 * q) (by omega) (by omega) (by omega), rv (107 + 2 * q) (by omega), r (108 + 2 * q) (by omega) (by omega) (by omega), w6]
            intro g1 g2
            have hlq := h.i.x.len hq
            by_cases y : q = o
            · subst y
              rw [rv8]
              by_cases g : k ≤ j ∧ j < k + n
              · rw [if_pos g, if_pos (by omega), h.i.s.num hs4 a2.1 (by omega)]
                congr 1
                omega
              · rw [if_neg g, if_neg (by omega)]
                exact h.i.s.ce q j hq g1 g2
            · rw [rv _ (by omega), if_neg (by omega)]
              exact h.i.s.ce q j hq g1 g2
        · have ec : cl_paste v s i o k n = (-7, v) := by
            unfold cl_paste
            rw [if_pos a1.1, if_pos a1.2, toN, toN, if_neg a2.1, if_neg a2.2, if_pos a3]
            by_cases b : 0 ≤ i ∧ 0 ≤ n ∧ i + n ≤ v (107 + 2 * s) 2
            · rw [if_pos b, if_neg (fun g => a4 ⟨b, g⟩)]
            · rw [if_neg b]
          rw [ec]
          show (mo_paste v s i o k n).1 = -7 ∧ INV (mo_paste v s i o k n).2
          have em : mo_paste v s i o k n = (-7, v2 v 203 0 0) := by
            unfold mo_paste
            rw [if_pos (by omega), if_pos (by omega), toN, toN, if_neg ns, if_neg no, if_pos (by rw [← ws1, ← wo1]; exact a3), ← ws2, ← wo2]
            repeat' split
            all_goals first | rfl | (exfalso; omega)
          rw [em]
          exact ⟨rfl, h.thr⟩
      · have ec : cl_paste v s i o k n = (-8, v) := by
          unfold cl_paste
          rw [if_pos a1.1, if_pos a1.2, toN, toN, if_neg a2.1, if_neg a2.2, if_neg a3]
        rw [ec]
        show (mo_paste v s i o k n).1 = -8 ∧ INV (mo_paste v s i o k n).2
        unfold mo_paste
        rw [if_pos (by omega), if_pos (by omega), toN, toN, if_neg ns, if_neg no, if_neg (by rw [← ws1, ← wo1]; exact a3)]
        exact ⟨rfl, h.thr⟩
    · have ec : cl_paste v s i o k n = (-6, v) := by
        unfold cl_paste
        rw [if_pos a1.1, if_pos a1.2, toN, toN]
        by_cases b : v (107 + 2 * s) 0 = 0
        · rw [if_pos b]
        · rw [if_neg b, if_pos (by omega)]
      rw [ec]
      show (mo_paste v s i o k n).1 = -6 ∧ INV (mo_paste v s i o k n).2
      unfold mo_paste
      rw [if_pos (by omega), if_pos (by omega), toN, toN]
      by_cases b : v (107 + 2 * s) 0 = 0
      · rw [if_pos (hhs.mp b)]; exact ⟨rfl, h.thr⟩
      · rw [if_neg (fun g => b (hhs.mpr g)), if_pos (hho.mp (by omega))]; exact ⟨rfl, h.thr⟩
  · have ec : cl_paste v s i o k n = (-2, v) := by
      unfold cl_paste
      by_cases b : 0 ≤ s ∧ s < 4
      · rw [if_pos b, if_neg (fun g => a1 ⟨b, g⟩)]
      · rw [if_neg b]
    rw [ec]
    show (mo_paste v s i o k n).1 = -2 ∧ INV (mo_paste v s i o k n).2
    unfold mo_paste
    by_cases b : 0 ≤ s ∧ s ≤ 3
    · rw [if_pos b, if_neg (by omega)]; exact ⟨rfl, h.thr⟩
    · rw [if_neg b]; exact ⟨rfl, h.thr⟩
