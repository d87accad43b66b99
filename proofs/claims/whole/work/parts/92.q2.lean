/-! calls that ask about strikes, II -/
theorem QQ.by {A : SS} {P x u : VS} (h : QQ A P x u) {i : Nat} (hi : (i : Int) < A.1 0 0) : x 83 i = A.1 4 i ∧ mo_at u i 3 = A.1 4 i ∧ -1 ≤ A.1 4 i ∧ A.1 4 i < i := by
  obtain ⟨-, -, -, x3, -, -, -, -, m3, -⟩ := h.rd hi
  have := (h.aw.st i hi).2.2.2.1
  exact ⟨x3, m3, this.1, this.2⟩
theorem comes5 {A : SS} {P x u : VS} (h : QQ A P x u) {o : Int} (ho : 0 ≤ o) : ∀ (f g : Nat) (a s : Int), -1 ≤ a → a < A.1 0 0 → 0 ≤ s → s + a < A.1 0 0 → a + 1 < f → a + 1 < g → cl_comesOf79_5 f x o a s = if mo_comesOf_2 g u o a = o then 1 else 0 := by
  intro f
  induction f with
  | zero => intro g a s h1 h2 h3 h4 h5 h6; omega
  | succ f ih =>
    intro g a s h1 h2 h3 h4 h5 h6
    cases g with
    | zero => omega
    | succ g =>
      rw [cl_comesOf79_5, mo_comesOf_2, h.ra.n]
      by_cases q : o < a
      · obtain ⟨j, rfl⟩ := Int.eq_ofNat_of_zero_le (show 0 ≤ a by omega)
        obtain ⟨x3, m3, b1, b2⟩ := h.by h2
        rw [if_pos (show s < A.1 0 0 by omega), if_pos q, if_pos q, toN, x3, m3]
        exact ih g _ _ b1 (by omega) (by omega) (by omega) (by omega) (by omega)
      · rw [if_neg q, if_neg q]
        split <;> rfl
theorem QQ.cm {A : SS} {P x u : VS} (h : QQ A P x u) {j o : Int} (ho : 0 ≤ o) (hj : 0 ≤ j ∧ j < A.1 0 0) : cl_comesOf79 x j o = mo_comesOf u j o := by
  have hn := h.nb
  unfold cl_comesOf79 mo_comesOf
  exact comes5 h ho 301 302 j 0 (by omega) hj.2 (by omega) (by omega) (by omega) (by omega)
theorem wave30 {A : SS} {P x u : VS} (h : QQ A P x u) {i : Int} (hi : 0 ≤ i) : ∀ (f : Nat) (n j : Int), 0 ≤ j → cl_wave_30 f x i n j = mo_wave_41 f u i n j := by
  intro f
  induction f with
  | zero => intro n j _; rfl
  | succ f ih =>
    intro n j hj
    rw [cl_wave_30, mo_wave_41, h.ra.n, h.rm.n]
    split
    · rename_i q
      rw [h.cm hi ⟨hj, q⟩]
      split
      · rw [show n + 0 = n by omega]; exact ih _ _ (by omega)
      · exact ih _ _ (by omega)
    · rfl
theorem q_wave {v : VS} (h : INV v) (i : Int) : (mo_wave (cl_wave v i).2 i).1 = (cl_wave v i).1 ∧ INV (mo_wave (cl_wave v i).2 i).2 := by
  have q := h.qq
  obtain ⟨b0, b1, b3, b4, bL, -⟩ := h.b0
  obtain ⟨i0, i1, i3, i4, iL⟩ := h.isb
  have en := q.ra.n
  have em := q.rm.n
  refine q_wrap (OK := 0 < v 33 2) (mo := fun s => mo_wave s i) (err := -2) (ac := if 0 ≤ i ∧ i < (arun (tP v)).1 0 0 then cl_wave_30 301 (cl_asItIs v) i 0 i else -1) (am := if 0 ≤ i ∧ i < (arun (tP v)).1 0 0 then mo_wave_41 301 (mo_told (v2 (cl_asItIs v) 203 0 0)) i 0 i else -1) h ?_ (fun z => ?_) (fun z => ?_) (fun z => ?_)
  · unfold cl_wave
    repeat' split
    all_goals first | rfl | (exfalso; omega)
  · show mo_wave (cl_asItIs v) i = _
    unfold mo_wave
    repeat' split
    all_goals first | rfl | (exfalso; omega)
  · show mo_wave v i = _
    unfold mo_wave
    repeat' split
    all_goals first | rfl | (exfalso; omega)
  · split
    · rename_i y
      exact (wave30 q y.1 301 0 i y.1).symm
    · rfl
theorem depth4 {A : SS} {P x u : VS} (h : QQ A P x u) : ∀ (f : Nat) (s a : Int), 0 ≤ a → a < A.1 0 0 → s + a < A.1 0 0 → cl_stepsOf79_4 f x s a = mo_depth_41 f u s a := by
  intro f
  induction f with
  | zero => intro s a _ _ _; rfl
  | succ f ih =>
    intro s a h0 h1 h2
    obtain ⟨j, rfl⟩ := Int.eq_ofNat_of_zero_le h0
    obtain ⟨x3, m3, b1, b2⟩ := h.by h1
    rw [cl_stepsOf79_4, mo_depth_41, toN, x3, m3, h.ra.n]
    by_cases q : A.1 4 j = -1
    · rw [if_pos q, if_pos q]
    · rw [if_neg q, if_neg q, if_pos (by omega)]
      exact ih _ _ (by omega) (by omega) (by omega)
theorem source4 {A : SS} {P x u : VS} (h : QQ A P x u) : ∀ (f : Nat) (a s : Int), 0 ≤ a → a < A.1 0 0 → s + a < A.1 0 0 → cl_startOf79_4 f x a s = mo_source_39 f u a := by
  intro f
  induction f with
  | zero => intro a s _ _ _; rfl
  | succ f ih =>
    intro a s h0 h1 h2
    obtain ⟨j, rfl⟩ := Int.eq_ofNat_of_zero_le h0
    obtain ⟨x3, m3, b1, b2⟩ := h.by h1
    rw [cl_startOf79_4, mo_source_39, toN, x3, m3, h.ra.n, if_pos (by omega)]
    by_cases q : A.1 4 j = -1
    · rw [if_pos q, if_pos q]
    · rw [if_neg q, if_neg q]
      exact ih _ _ (by omega) (by omega) (by omega)
theorem q_depth {v : VS} (h : INV v) (i : Int) : (mo_depth (cl_depth v i).2 i).1 = (cl_depth v i).1 ∧ INV (mo_depth (cl_depth v i).2 i).2 := by
  have q := h.qq
  obtain ⟨b0, b1, b3, b4, bL, -⟩ := h.b0
  obtain ⟨i0, i1, i3, i4, iL⟩ := h.isb
  have en := q.ra.n
  have em := q.rm.n
  refine q_wrap (OK := 0 < v 33 2) (mo := fun s => mo_depth s i) (err := -2) (ac := if 0 ≤ i ∧ i < (arun (tP v)).1 0 0 then cl_stepsOf79 (cl_asItIs v) i else -1) (am := if 0 ≤ i ∧ i < (arun (tP v)).1 0 0 then mo_depth_41 301 (mo_told (v2 (cl_asItIs v) 203 0 0)) 0 i else -1) h ?_ (fun z => ?_) (fun z => ?_) (fun z => ?_)
  · unfold cl_depth
    repeat' split
    all_goals first | rfl | (exfalso; omega)
  · show mo_depth (cl_asItIs v) i = _
    unfold mo_depth
    repeat' split
    all_goals first | rfl | (exfalso; omega)
  · show mo_depth v i = _
    unfold mo_depth
    repeat' split
    all_goals first | rfl | (exfalso; omega)
  · split
    · rename_i y
      exact (depth4 q 301 0 i y.1 y.2 (by omega)).symm
    · rfl
theorem q_source {v : VS} (h : INV v) (i : Int) : (mo_source (cl_source v i).2 i).1 = (cl_source v i).1 ∧ INV (mo_source (cl_source v i).2 i).2 := by
  have q := h.qq
  obtain ⟨b0, b1, b3, b4, bL, -⟩ := h.b0
  obtain ⟨i0, i1, i3, i4, iL⟩ := h.isb
  have en := q.ra.n
  have em := q.rm.n
  refine q_wrap (OK := 0 < v 33 2) (mo := fun s => mo_source s i) (err := -2) (ac := if 0 ≤ i ∧ i < (arun (tP v)).1 0 0 then cl_startOf79 (cl_asItIs v) i else -1) (am := if 0 ≤ i ∧ i < (arun (tP v)).1 0 0 then mo_source_39 301 (mo_told (v2 (cl_asItIs v) 203 0 0)) i else -1) h ?_ (fun z => ?_) (fun z => ?_) (fun z => ?_)
  · unfold cl_source
    repeat' split
    all_goals first | rfl | (exfalso; omega)
  · show mo_source (cl_asItIs v) i = _
    unfold mo_source
    repeat' split
    all_goals first | rfl | (exfalso; omega)
  · show mo_source v i = _
    unfold mo_source
    repeat' split
    all_goals first | rfl | (exfalso; omega)
  · split
    · rename_i y
      exact (source4 q 301 i 0 y.1 y.2 (by omega)).symm
    · rfl
theorem lap35 {A : SS} {P x u : VS} (h : QQ A P x u) {c a : Int} (ha : 0 ≤ a ∧ a < A.1 0 0) : ∀ (f : Nat) (j : Int), 0 ≤ j → (cl_lap_35 f x c a j).1 = (mo_lap_32 f u c a j).1 ∧ (cl_lap_35 f x c a j).2 = x ∧ (mo_lap_32 f u c a j).2 = u := by
  obtain ⟨b, rfl⟩ := Int.eq_ofNat_of_zero_le ha.1
  obtain ⟨ax0, -, -, -, -, am0, -⟩ := h.rd ha.2
  intro f
  induction f with
  | zero => intro j _; exact ⟨rfl, rfl, rfl⟩
  | succ f ih =>
    intro j hj
    obtain ⟨m, rfl⟩ := Int.eq_ofNat_of_zero_le hj
    rw [cl_lap_35, mo_lap_32, h.ra.n, h.rm.n, if_neg (show ¬ ((b : Int) = -1) by omega)]
    split
    · rename_i q
      obtain ⟨x0, x1, -, -, -, m0, m1, -⟩ := h.rd q
      rw [toN, toN, x0, x1, m0, m1, ax0, am0, h.cm ha.1 ⟨hj, q⟩]
      split
      · split
        · exact ih _ (by omega)
        · exact ⟨rfl, rfl, rfl⟩
      · exact ih _ (by omega)
    · exact ⟨rfl, rfl, rfl⟩
theorem q_lap {v : VS} (h : INV v) (c : Int) : (mo_lap (cl_lap v c).2 c).1 = (cl_lap v c).1 ∧ INV (mo_lap (cl_lap v c).2 c).2 := by
  have q := h.qq
  have hC : 0 ≤ v 33 0 ∧ v 33 0 ≤ 9 := h.i.x 33 0
  obtain ⟨b0, b1, b3, b4, bL, -⟩ := h.b0
  obtain ⟨i0, i1, i3, i4, iL⟩ := h.isb
  unfold cl_lap
  by_cases z1 : 0 ≤ c ∧ c < v 33 0
  · rw [if_pos z1]
    obtain ⟨c, rfl⟩ := Int.eq_ofNat_of_zero_le z1.1
    rw [q.nx c]
    have em : mo_lap (cl_asItIs v) c = mo_lap_32 301 (mo_told (v2 (cl_asItIs v) 203 0 0)) c ((arun (tP v)).1 13 c) ((arun (tP v)).1 13 c + 1) := by
      unfold mo_lap
      rw [i0, if_pos z1, toN, q.f0 (by omega)]
    rcases q.f1 c with g | ⟨g1, g2, -⟩
    · rw [if_pos g]
      show (mo_lap (cl_asItIs v) c).1 = _ ∧ INV (mo_lap (cl_asItIs v) c).2
      rw [em, g, mo_lap_32, if_pos rfl]
      exact ⟨rfl, h.is.told⟩
    · rw [if_neg (by omega)]
      obtain ⟨e1, e2, e3⟩ := lap35 q (c := (c : Int)) ⟨g1, g2⟩ 301 ((arun (tP v)).1 13 c + 1) (by omega)
      rw [e2, em, e3]
      exact ⟨e1.symm, h.is.told⟩
  · rw [if_neg z1]
    show (mo_lap v c).1 = -2 ∧ INV (mo_lap v c).2
    unfold mo_lap
    rw [b0, if_neg z1]
    exact ⟨rfl, h.thr⟩
theorem gap24 {A : SS} {P x u : VS} (h : QQ A P x u) {c : Int} : ∀ (f : Nat) (g p i : Int), 0 ≤ i → cl_gap_24 f x c g p i = mo_gap_28 f u c g p i := by
  intro f
  induction f with
  | zero => intro g p i _; rfl
  | succ f ih =>
    intro g p i hi
    obtain ⟨m, rfl⟩ := Int.eq_ofNat_of_zero_le hi
    rw [cl_gap_24, mo_gap_28, h.ra.n, h.rm.n]
    split
    · rename_i q
      obtain ⟨x0, x1, -, -, -, m0, m1, -⟩ := h.rd q
      rw [toN, x0, x1, m0, m1]
      split
      · split
        · exact ih _ _ _ (by omega)
        · split
          · rename_i y
            rw [show max g (A.1 1 m - p) = A.1 1 m - p by omega]
            exact ih _ _ _ (by omega)
          · rename_i y
            rw [show max g (A.1 1 m - p) = g by omega]
            exact ih _ _ _ (by omega)
      · exact ih _ _ _ (by omega)
    · rfl
theorem q_gap {v : VS} (h : INV v) (c : Int) : (mo_gap (cl_gap v c).2 c).1 = (cl_gap v c).1 ∧ INV (mo_gap (cl_gap v c).2 c).2 := by
  have q := h.qq
  obtain ⟨b0, b1, b3, b4, bL, -⟩ := h.b0
  obtain ⟨i0, i1, i3, i4, iL⟩ := h.isb
  refine q_wrap (OK := 0 ≤ c ∧ c < v 33 0) (mo := fun s => mo_gap s c) (err := -2) h ?_ (fun z => ?_) (fun z => ?_) (fun z => (gap24 q (c := c) 301 (-1) (-1) 0 (by omega)).symm)
  · unfold cl_gap
    repeat' split
    all_goals first | rfl | (exfalso; omega)
  · show mo_gap (cl_asItIs v) c = _
    unfold mo_gap
    repeat' split
    all_goals first | rfl | (exfalso; omega)
  · show mo_gap v c = _
    unfold mo_gap
    repeat' split
    all_goals first | rfl | (exfalso; omega)
theorem waits27 {A : SS} {P x u : VS} (h : QQ A P x u) {c s : Int} : ∀ (f : Nat) (i : Int), 0 ≤ i → (cl_waits_27 f x c s i).1 = (mo_waits_32 f u c s i).1 ∧ (cl_waits_27 f x c s i).2 = x ∧ (mo_waits_32 f u c s i).2 = u := by
  intro f
  induction f with
  | zero => intro i _; exact ⟨rfl, rfl, rfl⟩
  | succ f ih =>
    intro i hi
    obtain ⟨m, rfl⟩ := Int.eq_ofNat_of_zero_le hi
    rw [cl_waits_27, mo_waits_32, h.ra.n, h.rm.n]
    split
    · rename_i q
      obtain ⟨x0, x1, -, -, -, m0, m1, -⟩ := h.rd q
      rw [toN, x0, x1, m0, m1]
      split
      · split
        · exact ih _ (by omega)
        · exact ⟨rfl, rfl, rfl⟩
      · exact ih _ (by omega)
    · exact ⟨rfl, rfl, rfl⟩
theorem q_waits {v : VS} (h : INV v) (c s : Int) : (mo_waits (cl_waits v c s).2 c s).1 = (cl_waits v c s).1 ∧ INV (mo_waits (cl_waits v c s).2 c s).2 := by
  have q := h.qq
  obtain ⟨b0, b1, b3, b4, bL, -⟩ := h.b0
  obtain ⟨i0, i1, i3, i4, iL⟩ := h.isb
  obtain ⟨e1, e2, e3⟩ := waits27 q (c := c) (s := s) 301 0 (by omega)
  refine q_wrap (OK := (0 ≤ c ∧ c < v 33 0) ∧ (0 ≤ s ∧ s < v 33 1)) (mo := fun s' => mo_waits s' c s) (err := -2) h ?_ (fun z => ?_) (fun z => ?_) (fun z => e1.symm)
  · unfold cl_waits
    repeat' split
    all_goals first | rfl | (exfalso; omega) | (exact Prod.ext rfl e2)
  · show mo_waits (cl_asItIs v) c s = _
    unfold mo_waits
    repeat' split
    all_goals first | rfl | (exfalso; omega) | (exact Prod.ext rfl e3)
  · show mo_waits v c s = _
    unfold mo_waits
    repeat' split
    all_goals first | rfl | (exfalso; omega)
theorem rank36 {A : SS} {P x u : VS} (h : QQ A P x u) {c : Nat} (hc : c < 9) (hg : A.1 13 c ≠ -1) : ∀ (f j : Nat) (n : Int), cl_rank_36 f x (A.1 13 c) n j = mo_rank_37 f u c n j := by
  have h9 := h.C9
  intro f
  induction f with
  | zero => intro j n; rfl
  | succ f ih =>
    intro j n
    rw [cl_rank_36, mo_rank_37, h.bC, show ((j : Int) + 1) = ((j + 1 : Nat) : Int) by omega, show n + 0 = n by omega]
    split
    · rename_i q
      have hj : j < 9 := by omega
      rw [h.nx j, toN, h.f0 hj, h.fa hj, h.fa hc]
      rcases h.f1 j with g | ⟨g1, g2, g3, -⟩
      · rw [if_pos g, if_pos g]
        exact ih _ _
      · rw [if_neg (show ¬ A.1 13 j = -1 by omega), if_neg (show ¬ A.1 13 j = -1 by omega), if_neg (show ¬ A.1 13 j = -1 by omega), if_neg hg]
        rcases h.f1 c with k | ⟨k1, k2, k3, -⟩
        · exact absurd k hg
        · obtain ⟨a, ha⟩ : ∃ a : Nat, A.1 13 j = a := ⟨(A.1 13 j).toNat, by omega⟩
          obtain ⟨b, hb⟩ : ∃ b : Nat, A.1 13 c = b := ⟨(A.1 13 c).toNat, by omega⟩
          rw [ha, toN] at g3
          rw [hb, toN] at k3
          have o1 := h.aw.od a b
          have o2 := h.aw.od b a
          have o3 : a = b → j = c := fun e => by rw [e, k3] at g3; omega
          rw [ha, hb, toN, toN]
          rcases Nat.lt_trichotomy a b with z | z | z
          · have o := o1 z (by omega)
            rw [if_pos (by omega)]
            by_cases y : A.1 1 a < A.1 1 b
            · rw [if_pos y]
              have := ih (j + 1) (n + 1)
              rw [hb] at this
              exact this
            · rw [if_neg y, if_pos (by omega), if_pos (by omega)]
              have := ih (j + 1) (n + 1)
              rw [hb] at this
              exact this
          · have e := o3 z
            subst z
            rw [if_neg (by omega), if_neg (by omega), if_pos rfl, if_neg (by omega)]
            have := ih (j + 1) n
            rw [hb] at this
            exact this
          · have o := o2 z (by omega)
            rw [if_neg (by omega), if_neg (by omega)]
            have i := ih (j + 1) n
            rw [hb] at i
            by_cases y : A.1 1 a = A.1 1 b
            · rw [if_pos y, if_neg (by omega)]; exact i
            · rw [if_neg y]; exact i
    · rfl
theorem q_rank {v : VS} (h : INV v) (c : Int) : (mo_rank (cl_rank v c).2 c).1 = (cl_rank v c).1 ∧ INV (mo_rank (cl_rank v c).2 c).2 := by
  have q := h.qq
  have hC : 0 ≤ v 33 0 ∧ v 33 0 ≤ 9 := h.i.x 33 0
  obtain ⟨b0, b1, b3, b4, bL, -⟩ := h.b0
  obtain ⟨i0, i1, i3, i4, iL⟩ := h.isb
  refine q_wrap (OK := 0 ≤ c ∧ c < v 33 0) (mo := fun s => mo_rank s c) (err := -2) (ac := if cl_nextOf79 (cl_asItIs v) c 0 = -1 then -1 else cl_rank_36 10 (cl_asItIs v) (cl_nextOf79 (cl_asItIs v) c 0) 0 0) (am := if (mo_told (v2 (cl_asItIs v) 203 0 0)) 230 c.toNat = -1 then -1 else mo_rank_37 10 (mo_told (v2 (cl_asItIs v) 203 0 0)) c 0 0) h ?_ (fun z => ?_) (fun z => ?_) (fun z => ?_)
  · unfold cl_rank
    repeat' split
    all_goals first | rfl | (exfalso; omega)
  · show mo_rank (cl_asItIs v) c = _
    unfold mo_rank
    repeat' split
    all_goals first | rfl | (exfalso; omega)
  · show mo_rank v c = _
    unfold mo_rank
    repeat' split
    all_goals first | rfl | (exfalso; omega)
  · obtain ⟨c, rfl⟩ := Int.eq_ofNat_of_zero_le z.1
    rw [q.nx c, toN, q.f0 (by omega)]
    split
    · rfl
    · rename_i y
      exact (rank36 q (by omega) y 10 0 0).symm
theorem spread34 {A : SS} {P x u : VS} (h : QQ A P x u) {c : Int} : ∀ (f i : Nat) (a e : Int), (i : Int) ≤ A.1 0 0 → A.1 0 0 < i + f →
    ((∀ j : Nat, i ≤ j → (j : Int) < A.1 0 0 → A.1 3 j ≠ c) → mo_spread_34 f u c a e i = (a, e)) ∧
    (∀ j : Nat, i ≤ j → (j : Int) < A.1 0 0 → A.1 3 j = c → (∀ k : Nat, j < k → (k : Int) < A.1 0 0 → A.1 3 k ≠ c) → (mo_spread_34 f u c a e i).2 = A.1 1 j) ∧
    (a ≠ -1 → (mo_spread_34 f u c a e i).1 = a) ∧
    (a = -1 → ∀ j : Nat, i ≤ j → (j : Int) < A.1 0 0 → A.1 3 j = c → (∀ k : Nat, i ≤ k → k < j → A.1 3 k ≠ c) → (mo_spread_34 f u c a e i).1 = A.1 1 j) := by
  intro f
  induction f with
  | zero => intro i a e h1 h2; omega
  | succ f ih =>
    intro i a e h1 h2
    rw [mo_spread_34, h.rm.n, show ((i : Int) + 1) = ((i + 1 : Nat) : Int) by omega]
    by_cases q : (i : Int) < A.1 0 0
    · have hs := (h.aw.st i q).1
      rw [if_pos q, (h.rd q).2.2.2.2.2.2.2.1, (h.rd q).2.2.2.2.2.1]
      by_cases q1 : A.1 3 i = c
      · rw [if_pos q1]
        by_cases z : a = -1
        · rw [if_pos z]
          obtain ⟨k2, k3, k4, k5⟩ := ih (i + 1) (A.1 1 i) (A.1 1 i) (by omega) (by omega)
          refine ⟨fun y => absurd q1 (y i (Nat.le_refl _) q), fun j j1 j2 j3 j4 => ?_, fun y => absurd z y, fun _ j j1 j2 j3 j4 => ?_⟩
          · by_cases e1 : j = i
            · rw [e1] at j4 ⊢
              rw [k2 (fun k a b => j4 k (by omega) b)]
            · exact k3 j (by omega) j2 j3 j4
          · rw [k4 (by omega)]
            by_cases e1 : j = i
            · rw [e1]
            · exact absurd q1 (j4 i (Nat.le_refl _) (by omega))
        · rw [if_neg z]
          obtain ⟨k2, k3, k4, k5⟩ := ih (i + 1) a (A.1 1 i) (by omega) (by omega)
          refine ⟨fun y => absurd q1 (y i (Nat.le_refl _) q), fun j j1 j2 j3 j4 => ?_, fun _ => k4 z, fun y => absurd y z⟩
          by_cases e1 : j = i
          · rw [e1] at j4 ⊢
            rw [k2 (fun k a b => j4 k (by omega) b)]
          · exact k3 j (by omega) j2 j3 j4
      · rw [if_neg q1]
        obtain ⟨k2, k3, k4, k5⟩ := ih (i + 1) a e (by omega) (by omega)
        have ne : ∀ j : Nat, A.1 3 j = c → j ≠ i := fun j hj e => q1 (by rw [← e]; exact hj)
        refine ⟨fun y => k2 (fun j a b => y j (by omega) b), fun j j1 j2 j3 j4 => k3 j (by have := ne j j3; omega) j2 j3 j4, k4, fun y j j1 j2 j3 j4 => k5 y j (by have := ne j j3; omega) j2 j3 (fun k a b => j4 k (by omega) b)⟩
    · rw [if_neg q]
      exact ⟨fun _ => rfl, fun j j1 j2 => by omega, fun _ => rfl, fun _ j j1 j2 => by omega⟩
theorem l_spread {A : SS} {P x u : VS} (h : QQ A P x u) {c : Int} :
    (if (mo_spread_34 301 u c (-1) (-1) 0).1 = -1 then -1 else (mo_spread_34 301 u c (-1) (-1) 0).2 - (mo_spread_34 301 u c (-1) (-1) 0).1) =
    (if cl_earliestOf79 x c = -1 then -1 else if cl_latestOf79 x c = -1 then -1 else x 80 (cl_latestOf79 x c).toNat - x 80 (cl_earliestOf79 x c).toNat) := by
  have hn := h.nb
  have s34 := spread34 h (c := c) 301 0 (-1) (-1) (by omega) (by omega)
  have e3 := eo_spec h (c := c) 301 0 (by omega) (by omega)
  have l3 := lo_spec h (c := c) 302 (A.1 0 0 - 1) (by omega) (by omega) (by omega)
  rw [show ((0 : Nat) : Int) = 0 from rfl] at s34 e3
  obtain ⟨n2, n3, n4, n5⟩ := s34
  unfold cl_latestOf79 cl_earliestOf79
  rw [h.ra.n]
  rcases e3 with ⟨e1, e2⟩ | ⟨j, e1, -, e4, e5, e6⟩
  · rw [n2 e2, if_pos rfl, e1, if_pos rfl]
  · rcases l3 with ⟨l1, l2⟩ | ⟨k, l1, l2, l4, l5⟩
    · exact absurd e5 (l2 j (by omega))
    · have hs := (h.aw.st j e4).1
      rw [l1, e1, if_neg (show ¬ ((k : Int) = -1) by omega), if_neg (show ¬ ((j : Int) = -1) by omega), toN, toN, n3 k (by omega) (by omega) l4 (fun m a b => l5 m a (by omega)), n5 rfl j (by omega) e4 e5 e6, if_neg (by omega), (h.rd e4).1, (h.rd (i := k) (by omega)).1]
theorem q_spread {v : VS} (h : INV v) (c : Int) : (mo_spread (cl_spread v c).2 c).1 = (cl_spread v c).1 ∧ INV (mo_spread (cl_spread v c).2 c).2 := by
  have q := h.qq
  obtain ⟨b0, b1, b3, b4, bL, -⟩ := h.b0
  obtain ⟨i0, i1, i3, i4, iL⟩ := h.isb
  refine q_wrap (OK := 0 < v 33 2 ∧ (1 ≤ c ∧ c ≤ 99)) (mo := fun s => mo_spread s c) (err := -2) h ?_ (fun z => ?_) (fun z => ?_) (fun z => l_spread (c := c) q)
  · unfold cl_spread
    repeat' split
    all_goals first | rfl | (exfalso; omega)
  · show mo_spread (cl_asItIs v) c = _
    unfold mo_spread
    repeat' split
    all_goals first | rfl | (exfalso; omega)
  · show mo_spread v c = _
    unfold mo_spread
    repeat' split
    all_goals first | rfl | (exfalso; omega)
theorem first2 {A : SS} {P x u : VS} (h : QQ A P x u) {c g : Int} : ∀ (f i : Nat), (i : Int) ≤ A.1 0 0 → A.1 0 0 < i + f →
    (cl_earliestBy79_2 f x c g i = -1 ∧ mo_firstOf_2 f u c g i = -1) ∨ (∃ j : Nat, cl_earliestBy79_2 f x c g i = j ∧ (j : Int) < A.1 0 0 ∧ mo_firstOf_2 f u c g i = A.1 1 j) := by
  intro f
  induction f with
  | zero => intro i h1 h2; omega
  | succ f ih =>
    intro i h1 h2
    rw [cl_earliestBy79_2, mo_firstOf_2, h.ra.n, h.rm.n, toN, show ((i : Int) + 1) = ((i + 1 : Nat) : Int) by omega]
    by_cases q : (i : Int) < A.1 0 0
    · obtain ⟨x0, x1, x2, -, -, m0, m1, m2, -⟩ := h.rd q
      rw [if_pos q, if_pos q, x1, x2, m0, m1, m2]
      by_cases q1 : A.1 2 i = c
      · rw [if_pos q1, if_pos q1]
        by_cases q2 : A.1 3 i = g
        · rw [if_pos q2, if_pos q2]
          exact Or.inr ⟨i, rfl, q, rfl⟩
        · rw [if_neg q2, if_neg q2]
          exact ih (i + 1) (by omega) (by omega)
      · rw [if_neg q1, if_neg q1]
        exact ih (i + 1) (by omega) (by omega)
    · rw [if_neg q, if_neg q]
      exact Or.inl ⟨rfl, rfl⟩
theorem QQ.eb {A : SS} {P x u : VS} (h : QQ A P x u) (c g : Int) : (cl_earliestBy79 x c g = -1 ↔ mo_firstOf u c g = -1) ∧ (cl_earliestBy79 x c g ≠ -1 → x 80 (cl_earliestBy79 x c g).toNat = mo_firstOf u c g) := by
  have hn := h.nb
  unfold cl_earliestBy79 mo_firstOf
  have s := first2 h (c := c) (g := g) 301 0 (by omega) (by omega)
  rw [show ((0 : Nat) : Int) = 0 from rfl] at s
  rcases s with ⟨s1, s2⟩ | ⟨j, s1, s2, s3⟩
  · rw [s1, s2]
    exact ⟨Iff.rfl, fun g => absurd rfl g⟩
  · have hs := (h.aw.st j s2).1
    rw [s1, s3, toN, (h.rd s2).1]
    exact ⟨⟨fun g => by omega, fun g => by omega⟩, fun _ => rfl⟩
theorem behind36 {A : SS} {P x u : VS} (h : QQ A P x u) {c o w : Int} : ∀ (f : Nat) (a n g : Int), cl_behind_36 f x c o w a n g = mo_behind_55 f u c o w a n g := by
  intro f
  induction f with
  | zero => intro a n g; rfl
  | succ f ih =>
    intro a n g
    obtain ⟨e1, e2⟩ := h.eb c g
    obtain ⟨e3, e4⟩ := h.eb o g
    rw [cl_behind_36, mo_behind_55]
    split
    · rfl
    · by_cases z1 : cl_earliestBy79 x c g = -1
      · rw [if_pos z1, if_pos (e1.mp z1)]; exact ih _ _ _
      · rw [if_neg z1, if_neg (fun y => z1 (e1.mpr y))]
        by_cases z2 : cl_earliestBy79 x o g = -1
        · rw [if_pos z2, if_pos (e3.mp z2)]; exact ih _ _ _
        · rw [if_neg z2, if_neg (fun y => z2 (e3.mpr y)), e2 z1, e4 z2]; exact ih _ _ _
theorem q_behind {v : VS} (h : INV v) (c o w : Int) : (mo_behind (cl_behind v c o w).2 c o w).1 = (cl_behind v c o w).1 ∧ INV (mo_behind (cl_behind v c o w).2 c o w).2 := by
  have q := h.qq
  obtain ⟨b0, b1, b3, b4, bL, -⟩ := h.b0
  obtain ⟨i0, i1, i3, i4, iL⟩ := h.isb
  have e := behind36 q (c := c) (o := o) (w := w) 101 0 0 1
  refine q_wrap (OK := ((0 ≤ c ∧ c < v 33 0) ∧ (0 ≤ o ∧ o < v 33 0) ∧ c ≠ o) ∧ (0 ≤ w ∧ w ≤ 1)) (mo := fun s => mo_behind s c o w) (err := -2000000) (ac := if w = 0 then (cl_behind_36 101 (cl_asItIs v) c o w 0 0 1).1 else (cl_behind_36 101 (cl_asItIs v) c o w 0 0 1).2) (am := if w = 0 then (mo_behind_55 101 (mo_told (v2 (cl_asItIs v) 203 0 0)) c o w 0 0 1).1 else (mo_behind_55 101 (mo_told (v2 (cl_asItIs v) 203 0 0)) c o w 0 0 1).2) h ?_ (fun z => ?_) (fun z => ?_) (fun z => by rw [e])
  · unfold cl_behind
    repeat' split
    all_goals first | rfl | (exfalso; omega)
  · show mo_behind (cl_asItIs v) c o w = _
    unfold mo_behind
    repeat' split
    all_goals first | rfl | (exfalso; omega)
  · show mo_behind v c o w = _
    unfold mo_behind
    repeat' split
    all_goals first | rfl | (exfalso; omega)
