/-! a run is played -/
theorem shr_eq {x c : Int} (hx : 0 ≤ x ∧ x ≤ 511) (hc : 0 ≤ c ∧ c < 9) : pm_shr x c = x / 2 ^ c.toNat := by
  obtain ⟨n, rfl⟩ := Int.eq_ofNat_of_zero_le hx.1
  obtain ⟨m, rfl⟩ := Int.eq_ofNat_of_zero_le hc.1
  have e : (List.range 512).all (fun n => (List.range 9).all (fun m => decide (pm_shr (n : Int) (m : Int) = (n : Int) / 2 ^ m))) = true := by decide +kernel
  have q := List.all_eq_true.mp (List.all_eq_true.mp e n (List.mem_range.mpr (by omega))) m (List.mem_range.mpr (by omega))
  simpa using q
theorem shr_in {x : Int} (c : Nat) (hx : 0 ≤ x ∧ x ≤ 511) : 0 ≤ x / 2 ^ c ∧ x / 2 ^ c ≤ 511 := by
  have hp : (0 : Int) < 2 ^ c := Int.pow_pos (by omega)
  refine ⟨Int.ediv_nonneg hx.1 (by omega), ?_⟩
  have := Int.ediv_le_self (a := x) (2 ^ c) hx.1
  omega
def xin (R : Nat) (v : VS) (s c : Int) : VS :=
  if bt (v 74 s.toNat) c = 1 then (if (xstr R v s c).1 = 0 then (xstr R v s c).2 else xgo R (xring R (xstr R v s c).2 s c) ((xring R (xstr R v s c).2 s c) R 4 - 1)) else v
def xinL (R : Nat) (s : Int) : Nat → Int → VS → VS
  | 0, _, v => v
  | f + 1, c, v => if c < v 33 0 ∧ v 74 s.toNat / 2 ^ c.toNat ≠ 0 ∧ v R 17 = 0 then xinL R s f (c + 1) (xin R v s c) else v
def xoutL (R : Nat) : Nat → Int → VS → VS
  | 0, _, v => v
  | f + 1, s, v => if s ≤ v 73 6 ∧ s ≤ v 67 6 ∧ v R 17 = 0 then xoutL R f (s + 1) (xinL R s 10 0 v) else v
def xplay (R : Nat) (v : VS) : VS := xoutL R 301 (xbegin R v 73 5) (xbegin R v)
theorem xstr_row {R : Nat} {v : VS} {s c : Int} {k : Nat} (h : k ≠ R + 6) : (xstr R v s c).2 k = v k := by
  unfold xstr
  split
  · exact (v2_row h).trans (v2_row h)
  · split
    · exact (v2_row h).trans (v2_row h)
    · split
      · exact (v2_row h).trans (v2_row h)
      · exact v2_row h
theorem xring_row {R : Nat} {v : VS} {s c : Int} {k : Nat} (h0 : k < R ∨ R + 11 < k) : xring R v s c k = v k := by
  unfold xring
  rw [v2_row (by omega), v2_row (by omega), v2_row (by omega), v2_row (by omega), v2_row (by omega), v2_row (by omega), v2_row (by omega), v2_row (by omega), v2_row (by omega), v2_row (by omega), v2_row (by omega)]
theorem xin_row {R : Nat} {v : VS} {s c : Int} {k : Nat} (hk : k < 73 ∨ 78 < k) (h : k < R ∨ R + 11 < k) : xin R v s c k = v k := by
  unfold xin
  split
  · split
    · rw [xstr_row (by omega)]
    · rw [xgo_row hk (by omega), xring_row h, xstr_row (by omega)]
  · rfl
theorem xinL_row {R : Nat} {s : Int} {k : Nat} (hk : k < 73 ∨ 78 < k) (h : k < R ∨ R + 11 < k) : ∀ (f : Nat) (c : Int) (v : VS), xinL R s f c v k = v k := by
  intro f
  induction f with
  | zero => intro c v; rfl
  | succ f ih =>
    intro c v
    rw [xinL]
    split
    · rw [ih, xin_row hk h]
    · rfl
theorem xoutL_row {R : Nat} {k : Nat} (hk : k < 73 ∨ 78 < k) (h : k < R ∨ R + 11 < k) : ∀ (f : Nat) (s : Int) (v : VS), xoutL R f s v k = v k := by
  intro f
  induction f with
  | zero => intro c v; rfl
  | succ f ih =>
    intro c v
    rw [xoutL]
    split
    · rw [ih, xinL_row hk h]
    · rfl
theorem XI_str79 {v : VS} {s c : Int} (hX : XI v) : XI (xstr 79 v s c).2 := by
  simp only [xstr, Nat.reduceAdd]
  split
  · refine XI.put (XI.put hX ?_) ?_ <;> exact trivial
  · split
    · refine XI.put (XI.put hX ?_) ?_ <;> exact trivial
    · split
      · refine XI.put (XI.put hX ?_) ?_ <;> exact trivial
      · refine XI.put hX ?_
        exact trivial
theorem xstr_lt79 {v : VS} {s c : Int} (h : (xstr 79 v s c).1 ≠ 0) : v 79 4 < 300 := by
  unfold xstr at h
  split at h
  · exact absurd rfl h
  · split at h
    · exact absurd rfl h
    · split at h
      · exact absurd rfl h
      · apply Int.lt_of_not_ge
        intro hh
        rw [if_neg (by omega)] at h
        exact h rfl
theorem xstr01_79 {v : VS} {s c : Int} : (xstr 79 v s c).1 = 0 ∨ (xstr 79 v s c).1 = 1 := by
  unfold xstr
  split
  · exact Or.inl rfl
  · split
    · exact Or.inl rfl
    · split
      · exact Or.inl rfl
      · show (if v 79 4 < 300 then (1 : Int) else 0) = 0 ∨ (if v 79 4 < 300 then (1 : Int) else 0) = 1
        split
        · exact Or.inr rfl
        · exact Or.inl rfl
theorem XI_ring79 {v : VS} {s c : Int} (hX : XI v) (hs : 0 ≤ s ∧ s < 300) (hc : 0 ≤ c ∧ c < 9) (ht : v 79 4 < 300) : XI (xring 79 v s c) := by
  have h1 : 0 ≤ v 75 (s * 9 + c).toNat ∧ v 75 (s * 9 + c).toNat ≤ 99 := hX 75 _
  have h2 : -1 ≤ v 76 (s * 9 + c).toNat ∧ v 76 (s * 9 + c).toNat ≤ 299 := hX 76 _
  have h3 : -1 ≤ v 77 (s * 9 + c).toNat ∧ v 77 (s * 9 + c).toNat ≤ 11 := hX 77 _
  have h4 : 0 ≤ v 79 4 ∧ v 79 4 ≤ 300 := hX 79 4
  have h5 : 0 ≤ v 79 16 ∧ v 79 16 ≤ 511 := hX 79 16
  have h6 := setb_in (x := v 79 16) (c := c) (k := 9) (by omega) (by omega)
  simp only [xring, Nat.reduceAdd]
  refine XI.put (XI.put (XI.put (XI.put (XI.put (XI.put (XI.put (XI.put (XI.put (XI.put (XI.put hX ?_) ?_) ?_) ?_) ?_) ?_) ?_) ?_) ?_) ?_) ?_
  · exact (show 0 ≤ s ∧ s ≤ 299 by omega)
  · exact (show 0 ≤ c ∧ c ≤ 8 by omega)
  · exact h1
  · exact h2
  · exact h3
  · exact (show 0 ≤ s ∧ s ≤ 299 by omega)
  · exact h1
  · exact (show 0 ≤ setb (v 79 16) c ∧ setb (v 79 16) c ≤ 511 by omega)
  · exact (show 0 ≤ v 79 4 + 1 ∧ v 79 4 + 1 ≤ 300 by omega)
  · show (0 : Int) ≤ (if _ then 1 else 0) ∧ (if _ then 1 else 0) ≤ (1 : Int)
    split <;> omega
  · show (0 : Int) ≤ (if _ then 1 else 0) ∧ (if _ then 1 else 0) ≤ (1 : Int)
    split <;> omega
theorem xring_4_79 {v : VS} {s c : Int} : xring 79 v s c 79 4 = v 79 4 + 1 := by
  simp [xring, v2_eq]
theorem XI_in79 {v : VS} {s c : Int} (hX : XI v) (hs : 0 ≤ s ∧ s < 300) (hc : 0 ≤ c ∧ c < 9) : XI (xin 79 v s c) := by
  unfold xin
  split
  · split
    · exact XI_str79 hX
    · rename_i h
      have ht := xstr_lt79 h
      have hv : (xstr 79 v s c).2 79 4 = v 79 4 := by rw [xstr_row (by omega)]
      have h4 : 0 ≤ v 79 4 ∧ v 79 4 ≤ 300 := hX 79 4
      refine XI_go79 (XI_ring79 (XI_str79 hX) hs hc (by omega)) ?_
      rw [xring_4_79]
      omega
  · exact hX
theorem XI_inL79 {s : Int} (hs : 0 ≤ s ∧ s < 300) : ∀ (f : Nat) (c : Int) (v : VS), XI v → 0 ≤ c → XI (xinL 79 s f c v) := by
  intro f
  induction f with
  | zero => intro c v hX hc; exact hX
  | succ f ih =>
    intro c v hX hc
    have h33 : 0 ≤ v 33 0 ∧ v 33 0 ≤ 9 := hX 33 0
    rw [xinL]
    split
    · exact ih _ _ (XI_in79 hX hs (by omega)) (by omega)
    · exact hX
theorem XI_outL79 : ∀ (f : Nat) (s : Int) (v : VS), XI v → 0 ≤ s → XI (xoutL 79 f s v) := by
  intro f
  induction f with
  | zero => intro s v hX hs; exact hX
  | succ f ih =>
    intro s v hX hs
    have h73 : -1 ≤ v 73 6 ∧ v 73 6 ≤ 299 := hX 73 6
    rw [xoutL]
    split
    · exact ih _ _ (XI_inL79 (by omega) _ _ _ hX (by omega)) (by omega)
    · exact hX
theorem XI_play79 {v : VS} (hX : XI v) : XI (xplay 79 v) := by
  have h := XI_begin79 hX
  have h2 : 0 ≤ xbegin 79 v 73 5 ∧ xbegin 79 v 73 5 ≤ 300 := h 73 5
  exact XI_outL79 _ _ _ h h2.1

theorem x_inL79 {X : PX} {d b : Nat} {s : Int} {Q : Option PV → Nat → VS → Prop} (hs : 0 ≤ s ∧ s < 300) : ∀ (f : Nat) (u : VS) (c : Int), 0 ≤ c ∧ c ≤ 9 → XI u → 9 < c + f → (∀ c' : Int, WV X (d + 1 + 1 + 1 + 1 + 1) 74 123 [some (.inr (.inr (some 79))), some (.inl s), some (.inl c')] [] b (xinL 79 s f c u) Q) → WV X (d + 1 + 1 + 1 + 1 + 1) 74 43 [some (.inr (.inr (some 79))), some (.inl s), some (.inl c)] [] b u Q := by
  intro f
  induction f with
  | zero =>
    intro u c h0 hX h1 hK
    have h33 : 0 ≤ u 33 0 ∧ u 33 0 ≤ 9 := hX 33 0
    refine r_ex 4 (pc' := 51) (lo' := [some (.inr (.inr (some 79))), some (.inl s), some (.inl c)]) (st' := [.inl (u 33 0), .inl c]) rfl ?_
    refine r_ic_ge (pc0 := 51) (len := 3) (t := 123) rfl (by first | assumption | (unfold R32 at *; omega) | omega) (by first | assumption | (unfold R32 at *; omega) | omega) (fun h_51 => ?_) (fun h_51 => ?_)
    · exact hK c
    · omega
  | succ f ih =>
    intro u c h0 hX h1 hK
    refine r_ex 4 (pc' := 51) (lo' := [some (.inr (.inr (some 79))), some (.inl s), some (.inl c)]) (st' := [.inl (u 33 0), .inl c]) rfl ?_
    have hb_1 : 0 ≤ (u 33 0) ∧ (u 33 0) ≤ 9 := hX 33 0
    refine r_ic_ge (pc0 := 51) (len := 3) (t := 123) rfl (by first | assumption | (unfold R32 at *; omega) | omega) (by first | assumption | (unfold R32 at *; omega) | omega) (fun h_51 => ?_) (fun h_51 => ?_)
    · show WV _ _ _ 123 _ _ _ _ _
      have e1 : xinL 79 s (f + 1) c u = u := by
        rw [xinL, if_neg (by
          rintro ⟨g1, g2, g3⟩
          (first | omega | (rw [← shr_eq (by omega) (by omega)] at g2; omega))
      )]
      rw [e1] at hK
      exact hK c
    · show WV _ _ _ 54 _ _ _ _ _
      refine r_ex 4 (pc' := 62) (lo' := [some (.inr (.inr (some 79))), some (.inl s), some (.inl c)]) (st' := [.inl s, .inr (.inr (some 74))]) rfl ?_
      refine r_iald2 (j := 0) (x := (u 74 ((s).toNat))) (pc' := 63) (pc0 := 62) (len := 1) rfl (s_74 _) (by first | assumption | (unfold R32 at *; omega) | omega) (by decide) rfl rfl ?_
      have hb_2 : 0 ≤ (u 74 ((s).toNat)) ∧ (u 74 ((s).toNat)) ≤ 511 := hX 74 ((s).toNat)
      refine r_ex 2 (pc' := 65) (lo' := [some (.inr (.inr (some 79))), some (.inl s), some (.inl c)]) (st' := [.inl (pm_shr (u 74 ((s).toNat)) c)]) rfl ?_
      refine r_if_eq (pc0 := 65) (len := 3) (t := 123) rfl (by rw [shr_eq (by omega) (by omega)]; have := shr_in (c).toNat (x := u 74 (s).toNat) (by omega); unfold R32; omega) (fun h_65 => ?_) (fun h_65 => ?_)
      · show WV _ _ _ 123 _ _ _ _ _
        have e1 : xinL 79 s (f + 1) c u = u := by
          rw [xinL, if_neg (by
            rintro ⟨g1, g2, g3⟩
            (first | omega | (rw [← shr_eq (by omega) (by omega)] at g2; omega))
        )]
        rw [e1] at hK
        exact hK c
      · show WV _ _ _ 68 _ _ _ _ _
        refine r_ex 2 (pc' := 72) (lo' := [some (.inr (.inr (some 79))), some (.inl s), some (.inl c)]) (st' := [.inl (u 79 17)]) rfl ?_
        have hb_3 : 0 ≤ (u 79 17) ∧ (u 79 17) ≤ 1 := hX 79 17
        refine r_if_ne (pc0 := 72) (len := 3) (t := 123) rfl (by first | assumption | (unfold R32 at *; omega) | omega) (fun h_72 => ?_) (fun h_72 => ?_)
        · show WV _ _ _ 123 _ _ _ _ _
          have e1 : xinL 79 s (f + 1) c u = u := by
            rw [xinL, if_neg (by
              rintro ⟨g1, g2, g3⟩
              (first | omega | (rw [← shr_eq (by omega) (by omega)] at g2; omega))
          )]
          rw [e1] at hK
          exact hK c
        · show WV _ _ _ 75 _ _ _ _ _
          refine r_ex 4 (pc' := 83) (lo' := [some (.inr (.inr (some 79))), some (.inl s), some (.inl c)]) (st' := [.inl s, .inr (.inr (some 74))]) rfl ?_
          refine r_iald2 (j := 0) (x := (u 74 ((s).toNat))) (pc' := 84) (pc0 := 83) (len := 1) rfl (s_74 _) (by first | assumption | (unfold R32 at *; omega) | omega) (by decide) rfl rfl ?_
          have hb_4 : 0 ≤ (u 74 ((s).toNat)) ∧ (u 74 ((s).toNat)) ≤ 511 := hX 74 ((s).toNat)
          refine r_ex 1 (pc' := 85) (lo' := [some (.inr (.inr (some 79))), some (.inl s), some (.inl c)]) (st' := [.inl c, .inl (u 74 ((s).toNat))]) rfl ?_
          refine r_call (m := 63) (args := [.inl (u 74 ((s).toNat)), .inl c]) (n' := 74) (pc' := 88) (lo' := [some (.inr (.inr (some 79))), some (.inl s), some (.inl c)]) (st' := []) (I := .invokestatic 63) (pc0 := 85) (len := 3) rfl rfl rfl (x_bitb (by omega) (by omega)) ?_
          show WV _ _ _ 88 _ [.inl (bt (u 74 ((s).toNat)) c)] _ u _
          have hb_5 := bt01 (u 74 ((s).toNat)) c
          refine r_ex 1 (pc' := 89) (lo' := [some (.inr (.inr (some 79))), some (.inl s), some (.inl c)]) (st' := [.inl 1, .inl (bt (u 74 ((s).toNat)) c)]) rfl ?_
          refine r_ic_ne (pc0 := 89) (len := 3) (t := 117) rfl (by first | assumption | (unfold R32 at *; omega) | omega) (by first | assumption | (unfold R32 at *; omega) | omega) (fun h_89 => ?_) (fun h_89 => ?_)
          · show WV _ _ _ 117 _ _ _ _ _
            refine r_ex 2 (pc' := 43) (lo' := [some (.inr (.inr (some 79))), some (.inl s), some (.inl (c + 1))]) (st' := []) rfl ?_
            have e1 : xinL 79 s (f + 1) c u = xinL 79 s f (c + 1) u := by
              rw [xinL, if_pos ⟨by omega, by rw [← shr_eq (by omega) (by omega)]; omega, by omega⟩]
              congr 1
              unfold xin
              (first | (rw [if_neg (by omega)]; done) | (rw [if_pos (by omega), if_pos (by omega)]; done) | (rw [if_pos (by omega), if_neg (by omega)]; done))
            rw [e1] at hK
            refine ih _ (c + 1) (by omega) ?_ (by omega) hK
            (first | exact hX | exact hXs | exact XI_go79 hXr (by rw [xring_4_79] at *; omega))
          · show WV _ _ _ 92 _ _ _ _ _
            refine r_ex 3 (pc' := 95) (lo' := [some (.inr (.inr (some 79))), some (.inl s), some (.inl c)]) (st' := [.inl c, .inl s, .inr (.inr (some 79))]) rfl ?_
            refine r_call (m := 78) (args := [.inr (.inr (some 79)), .inl s, .inl c]) (n' := 74) (pc' := 98) (lo' := [some (.inr (.inr (some 79))), some (.inl s), some (.inl c)]) (st' := []) (I := .invokevirtual 78) (pc0 := 95) (len := 3) rfl rfl rfl (x_isStruck79 hX (by omega) (by omega)) ?_
            show WV _ _ _ 98 _ [.inl ((xstr 79 u s c).1)] _ (xstr 79 u s c).2 _
            have hXs := XI_str79 (s := s) (c := c) hX
            have hst := xstr01_79 (v := u) (s := s) (c := c)
            refine r_if_eq (pc0 := 98) (len := 3) (t := 117) rfl (by first | assumption | (unfold R32 at *; omega) | omega) (fun h_98 => ?_) (fun h_98 => ?_)
            · show WV _ _ _ 117 _ _ _ _ _
              refine r_ex 2 (pc' := 43) (lo' := [some (.inr (.inr (some 79))), some (.inl s), some (.inl (c + 1))]) (st' := []) rfl ?_
              have e1 : xinL 79 s (f + 1) c u = xinL 79 s f (c + 1) (xstr 79 u s c).2 := by
                rw [xinL, if_pos ⟨by omega, by rw [← shr_eq (by omega) (by omega)]; omega, by omega⟩]
                congr 1
                unfold xin
                (first | (rw [if_neg (by omega)]; done) | (rw [if_pos (by omega), if_pos (by omega)]; done) | (rw [if_pos (by omega), if_neg (by omega)]; done))
              rw [e1] at hK
              refine ih _ (c + 1) (by omega) ?_ (by omega) hK
              (first | exact hX | exact hXs | exact XI_go79 hXr (by rw [xring_4_79] at *; omega))
            · show WV _ _ _ 101 _ _ _ _ _
              have hlt := xstr_lt79 (v := u) (s := s) (c := c) (by omega)
              have hs4 : (xstr 79 u s c).2 79 4 = u 79 4 := by rw [xstr_row (by omega)]
              have hr4 := xring_4_79 (v := (xstr 79 u s c).2) (s := s) (c := c)
              have hu4 : 0 ≤ u 79 4 ∧ u 79 4 ≤ 300 := hX 79 4
              refine r_ex 3 (pc' := 104) (lo' := [some (.inr (.inr (some 79))), some (.inl s), some (.inl c)]) (st' := [.inl c, .inl s, .inr (.inr (some 79))]) rfl ?_
              refine r_call (m := 80) (args := [.inr (.inr (some 79)), .inl s, .inl c]) (n' := 74) (pc' := 107) (lo' := [some (.inr (.inr (some 79))), some (.inl s), some (.inl c)]) (st' := []) (I := .invokevirtual 80) (pc0 := 104) (len := 3) rfl rfl rfl (x_ring79 hXs (by omega) (by omega) (by omega)) ?_
              show WV _ _ _ 107 _ [] _ (xring 79 ((xstr 79 u s c).2) s c) _
              have hXr := XI_ring79 (s := s) (c := c) hXs (by omega) (by omega) (by omega)
              refine r_ex 5 (pc' := 114) (lo' := [some (.inr (.inr (some 79))), some (.inl s), some (.inl c)]) (st' := [.inl (((xring 79 ((xstr 79 u s c).2) s c) 79 4) - 1), .inr (.inr (some 79))]) rfl ?_
              have hb_6 : 0 ≤ ((xring 79 ((xstr 79 u s c).2) s c) 79 4) ∧ ((xring 79 ((xstr 79 u s c).2) s c) 79 4) ≤ 300 := hXr 79 4
              refine r_call (m := 81) (args := [.inr (.inr (some 79)), .inl (((xring 79 ((xstr 79 u s c).2) s c) 79 4) - 1)]) (n' := 74) (pc' := 117) (lo' := [some (.inr (.inr (some 79))), some (.inl s), some (.inl c)]) (st' := []) (I := .invokevirtual 81) (pc0 := 114) (len := 3) rfl rfl rfl (x_go79 hXr (by omega)) ?_
              show WV _ _ _ 117 _ [] _ (xgo 79 (xring 79 ((xstr 79 u s c).2) s c) (((xring 79 ((xstr 79 u s c).2) s c) 79 4) - 1)) _
              refine r_ex 2 (pc' := 43) (lo' := [some (.inr (.inr (some 79))), some (.inl s), some (.inl (c + 1))]) (st' := []) rfl ?_
              have e1 : xinL 79 s (f + 1) c u = xinL 79 s f (c + 1) (xgo 79 (xring 79 ((xstr 79 u s c).2) s c) (((xring 79 ((xstr 79 u s c).2) s c) 79 4) - 1)) := by
                rw [xinL, if_pos ⟨by omega, by rw [← shr_eq (by omega) (by omega)]; omega, by omega⟩]
                congr 1
                unfold xin
                (first | (rw [if_neg (by omega)]; done) | (rw [if_pos (by omega), if_pos (by omega)]; done) | (rw [if_pos (by omega), if_neg (by omega)]; done))
              rw [e1] at hK
              refine ih _ (c + 1) (by omega) ?_ (by omega) hK
              (first | exact hX | exact hXs | exact XI_go79 hXr (by rw [xring_4_79] at *; omega))

theorem x_outL79 {X : PX} {d b : Nat} : ∀ (f : Nat) (u : VS) (s : Int) (o : Option PV), 0 ≤ s ∧ s ≤ 300 → XI u → 300 < s + f → WV X (d + 1 + 1 + 1 + 1 + 1) 74 12 [some (.inr (.inr (some 79))), some (.inl s), o] [] b u (fun r b' v' => r = none ∧ b' = b ∧ v' = xoutL 79 f s u) := by
  intro f
  induction f with
  | zero =>
    intro u s o h0 hX h1
    have h73 : -1 ≤ u 73 6 ∧ u 73 6 ≤ 299 := hX 73 6
    refine r_ex 4 (pc' := 20) (lo' := [some (.inr (.inr (some 79))), some (.inl s), o]) (st' := [.inl (u 73 6), .inl s]) rfl ?_
    refine r_ic_gt (pc0 := 20) (len := 3) (t := 129) rfl (by first | assumption | (unfold R32 at *; omega) | omega) (by first | assumption | (unfold R32 at *; omega) | omega) (fun h_20 => ?_) (fun h_20 => ?_)
    · exact r_ret (rr := none) (I := .return_) (pc0 := 129) (len := 1) rfl rfl ⟨rfl, rfl, rfl⟩
    · omega
  | succ f ih =>
    intro u s o h0 hX h1
    refine r_ex 4 (pc' := 20) (lo' := [some (.inr (.inr (some 79))), some (.inl s), o]) (st' := [.inl (u 73 6), .inl s]) rfl ?_
    have hb_1 : -1 ≤ (u 73 6) ∧ (u 73 6) ≤ 299 := hX 73 6
    refine r_ic_gt (pc0 := 20) (len := 3) (t := 129) rfl (by first | assumption | (unfold R32 at *; omega) | omega) (by first | assumption | (unfold R32 at *; omega) | omega) (fun h_20 => ?_) (fun h_20 => ?_)
    · show WV _ _ _ 129 _ _ _ _ _
      refine r_ret (rr := none) (I := .return_) (pc0 := 129) (len := 1) rfl rfl ?_
      refine ⟨rfl, rfl, ?_⟩
      rw [xoutL, if_neg (by omega)]
    · show WV _ _ _ 23 _ _ _ _ _
      refine r_ex 4 (pc' := 31) (lo' := [some (.inr (.inr (some 79))), some (.inl s), o]) (st' := [.inl (u 67 6), .inl s]) rfl ?_
      have hb_2 : -1 ≤ (u 67 6) ∧ (u 67 6) ≤ 299 := hX 67 6
      refine r_ic_gt (pc0 := 31) (len := 3) (t := 129) rfl (by first | assumption | (unfold R32 at *; omega) | omega) (by first | assumption | (unfold R32 at *; omega) | omega) (fun h_31 => ?_) (fun h_31 => ?_)
      · show WV _ _ _ 129 _ _ _ _ _
        refine r_ret (rr := none) (I := .return_) (pc0 := 129) (len := 1) rfl rfl ?_
        refine ⟨rfl, rfl, ?_⟩
        rw [xoutL, if_neg (by omega)]
      · show WV _ _ _ 34 _ _ _ _ _
        refine r_ex 2 (pc' := 38) (lo' := [some (.inr (.inr (some 79))), some (.inl s), o]) (st' := [.inl (u 79 17)]) rfl ?_
        have hb_3 : 0 ≤ (u 79 17) ∧ (u 79 17) ≤ 1 := hX 79 17
        refine r_if_ne (pc0 := 38) (len := 3) (t := 129) rfl (by first | assumption | (unfold R32 at *; omega) | omega) (fun h_38 => ?_) (fun h_38 => ?_)
        · show WV _ _ _ 129 _ _ _ _ _
          refine r_ret (rr := none) (I := .return_) (pc0 := 129) (len := 1) rfl rfl ?_
          refine ⟨rfl, rfl, ?_⟩
          rw [xoutL, if_neg (by omega)]
        · show WV _ _ _ 41 _ _ _ _ _
          refine r_ex 2 (pc' := 43) (lo' := [some (.inr (.inr (some 79))), some (.inl s), some (.inl 0)]) (st' := []) rfl ?_
          refine x_inL79 (by omega) 10 u 0 (by omega) hX (by omega) (fun c2 => ?_)
          refine r_ex 2 (pc' := 12) (lo' := [some (.inr (.inr (some 79))), some (.inl (s + 1)), some (.inl c2)]) (st' := []) rfl ?_
          have e1 : xoutL 79 (f + 1) s u = xoutL 79 f (s + 1) (xinL 79 s 10 0 u) := by
            rw [xoutL, if_pos ⟨by omega, by omega, by omega⟩]
          rw [e1]
          exact ih _ (s + 1) (some (.inl c2)) (by omega) (XI_inL79 (by omega) _ _ _ hX (by omega)) (by omega)

theorem x_play79 {X : PX} {d b : Nat} {v : VS}  (hX : XI v) : EvV X (d + 1 + 1 + 1 + 1 + 1) 74 [.inr (.inr (some 79))] b v (none) b (xplay 79 v) := by
  refine EvV.of ?_
  show WV _ _ _ 0 [some (.inr (.inr (some 79))), none, none] [] _ _ _
  refine r_ex 1 (pc' := 1) (lo' := [some (.inr (.inr (some 79))), none, none]) (st' := [.inr (.inr (some 79))]) rfl ?_
  refine r_call (m := 75) (args := [.inr (.inr (some 79))]) (n' := 74) (pc' := 4) (lo' := [some (.inr (.inr (some 79))), none, none]) (st' := []) (I := .invokevirtual 75) (pc0 := 1) (len := 3) rfl rfl rfl (x_begin79 hX) ?_
  show WV _ _ _ 4 _ [] _ (xbegin 79 v) _
  have hXb := XI_begin79 hX
  refine r_ex 4 (pc' := 12) (lo' := [some (.inr (.inr (some 79))), some (.inl ((xbegin 79 v) 73 5)), none]) (st' := []) rfl ?_
  have hb_1 : 0 ≤ ((xbegin 79 v) 73 5) ∧ ((xbegin 79 v) 73 5) ≤ 300 := hXb 73 5
  have h5 : 0 ≤ xbegin 79 v 73 5 ∧ xbegin 79 v 73 5 ≤ 300 := hXb 73 5
  exact x_outL79 301 (xbegin 79 v) (xbegin 79 v 73 5) none h5 hXb (by omega)

theorem XI_str91 {v : VS} {s c : Int} (hX : XI v) : XI (xstr 91 v s c).2 := by
  simp only [xstr, Nat.reduceAdd]
  split
  · refine XI.put (XI.put hX ?_) ?_ <;> exact trivial
  · split
    · refine XI.put (XI.put hX ?_) ?_ <;> exact trivial
    · split
      · refine XI.put (XI.put hX ?_) ?_ <;> exact trivial
      · refine XI.put hX ?_
        exact trivial
theorem xstr_lt91 {v : VS} {s c : Int} (h : (xstr 91 v s c).1 ≠ 0) : v 91 4 < 300 := by
  unfold xstr at h
  split at h
  · exact absurd rfl h
  · split at h
    · exact absurd rfl h
    · split at h
      · exact absurd rfl h
      · apply Int.lt_of_not_ge
        intro hh
        rw [if_neg (by omega)] at h
        exact h rfl
theorem xstr01_91 {v : VS} {s c : Int} : (xstr 91 v s c).1 = 0 ∨ (xstr 91 v s c).1 = 1 := by
  unfold xstr
  split
  · exact Or.inl rfl
  · split
    · exact Or.inl rfl
    · split
      · exact Or.inl rfl
      · show (if v 91 4 < 300 then (1 : Int) else 0) = 0 ∨ (if v 91 4 < 300 then (1 : Int) else 0) = 1
        split
        · exact Or.inr rfl
        · exact Or.inl rfl
theorem XI_ring91 {v : VS} {s c : Int} (hX : XI v) (hs : 0 ≤ s ∧ s < 300) (hc : 0 ≤ c ∧ c < 9) (ht : v 91 4 < 300) : XI (xring 91 v s c) := by
  have h1 : 0 ≤ v 75 (s * 9 + c).toNat ∧ v 75 (s * 9 + c).toNat ≤ 99 := hX 75 _
  have h2 : -1 ≤ v 76 (s * 9 + c).toNat ∧ v 76 (s * 9 + c).toNat ≤ 299 := hX 76 _
  have h3 : -1 ≤ v 77 (s * 9 + c).toNat ∧ v 77 (s * 9 + c).toNat ≤ 11 := hX 77 _
  have h4 : 0 ≤ v 91 4 ∧ v 91 4 ≤ 300 := hX 91 4
  have h5 : 0 ≤ v 91 16 ∧ v 91 16 ≤ 511 := hX 91 16
  have h6 := setb_in (x := v 91 16) (c := c) (k := 9) (by omega) (by omega)
  simp only [xring, Nat.reduceAdd]
  refine XI.put (XI.put (XI.put (XI.put (XI.put (XI.put (XI.put (XI.put (XI.put (XI.put (XI.put hX ?_) ?_) ?_) ?_) ?_) ?_) ?_) ?_) ?_) ?_) ?_
  · exact (show 0 ≤ s ∧ s ≤ 299 by omega)
  · exact (show 0 ≤ c ∧ c ≤ 8 by omega)
  · exact h1
  · exact h2
  · exact h3
  · exact (show 0 ≤ s ∧ s ≤ 299 by omega)
  · exact h1
  · exact (show 0 ≤ setb (v 91 16) c ∧ setb (v 91 16) c ≤ 511 by omega)
  · exact (show 0 ≤ v 91 4 + 1 ∧ v 91 4 + 1 ≤ 300 by omega)
  · show (0 : Int) ≤ (if _ then 1 else 0) ∧ (if _ then 1 else 0) ≤ (1 : Int)
    split <;> omega
  · show (0 : Int) ≤ (if _ then 1 else 0) ∧ (if _ then 1 else 0) ≤ (1 : Int)
    split <;> omega
theorem xring_4_91 {v : VS} {s c : Int} : xring 91 v s c 91 4 = v 91 4 + 1 := by
  simp [xring, v2_eq]
theorem XI_in91 {v : VS} {s c : Int} (hX : XI v) (hs : 0 ≤ s ∧ s < 300) (hc : 0 ≤ c ∧ c < 9) : XI (xin 91 v s c) := by
  unfold xin
  split
  · split
    · exact XI_str91 hX
    · rename_i h
      have ht := xstr_lt91 h
      have hv : (xstr 91 v s c).2 91 4 = v 91 4 := by rw [xstr_row (by omega)]
      have h4 : 0 ≤ v 91 4 ∧ v 91 4 ≤ 300 := hX 91 4
      refine XI_go91 (XI_ring91 (XI_str91 hX) hs hc (by omega)) ?_
      rw [xring_4_91]
      omega
  · exact hX
theorem XI_inL91 {s : Int} (hs : 0 ≤ s ∧ s < 300) : ∀ (f : Nat) (c : Int) (v : VS), XI v → 0 ≤ c → XI (xinL 91 s f c v) := by
  intro f
  induction f with
  | zero => intro c v hX hc; exact hX
  | succ f ih =>
    intro c v hX hc
    have h33 : 0 ≤ v 33 0 ∧ v 33 0 ≤ 9 := hX 33 0
    rw [xinL]
    split
    · exact ih _ _ (XI_in91 hX hs (by omega)) (by omega)
    · exact hX
theorem XI_outL91 : ∀ (f : Nat) (s : Int) (v : VS), XI v → 0 ≤ s → XI (xoutL 91 f s v) := by
  intro f
  induction f with
  | zero => intro s v hX hs; exact hX
  | succ f ih =>
    intro s v hX hs
    have h73 : -1 ≤ v 73 6 ∧ v 73 6 ≤ 299 := hX 73 6
    rw [xoutL]
    split
    · exact ih _ _ (XI_inL91 (by omega) _ _ _ hX (by omega)) (by omega)
    · exact hX
theorem XI_play91 {v : VS} (hX : XI v) : XI (xplay 91 v) := by
  have h := XI_begin91 hX
  have h2 : 0 ≤ xbegin 91 v 73 5 ∧ xbegin 91 v 73 5 ≤ 300 := h 73 5
  exact XI_outL91 _ _ _ h h2.1

theorem x_inL91 {X : PX} {d b : Nat} {s : Int} {Q : Option PV → Nat → VS → Prop} (hs : 0 ≤ s ∧ s < 300) : ∀ (f : Nat) (u : VS) (c : Int), 0 ≤ c ∧ c ≤ 9 → XI u → 9 < c + f → (∀ c' : Int, WV X (d + 1 + 1 + 1 + 1 + 1) 74 123 [some (.inr (.inr (some 91))), some (.inl s), some (.inl c')] [] b (xinL 91 s f c u) Q) → WV X (d + 1 + 1 + 1 + 1 + 1) 74 43 [some (.inr (.inr (some 91))), some (.inl s), some (.inl c)] [] b u Q := by
  intro f
  induction f with
  | zero =>
    intro u c h0 hX h1 hK
    have h33 : 0 ≤ u 33 0 ∧ u 33 0 ≤ 9 := hX 33 0
    refine r_ex 4 (pc' := 51) (lo' := [some (.inr (.inr (some 91))), some (.inl s), some (.inl c)]) (st' := [.inl (u 33 0), .inl c]) rfl ?_
    refine r_ic_ge (pc0 := 51) (len := 3) (t := 123) rfl (by first | assumption | (unfold R32 at *; omega) | omega) (by first | assumption | (unfold R32 at *; omega) | omega) (fun h_51 => ?_) (fun h_51 => ?_)
    · exact hK c
    · omega
  | succ f ih =>
    intro u c h0 hX h1 hK
    refine r_ex 4 (pc' := 51) (lo' := [some (.inr (.inr (some 91))), some (.inl s), some (.inl c)]) (st' := [.inl (u 33 0), .inl c]) rfl ?_
    have hb_1 : 0 ≤ (u 33 0) ∧ (u 33 0) ≤ 9 := hX 33 0
    refine r_ic_ge (pc0 := 51) (len := 3) (t := 123) rfl (by first | assumption | (unfold R32 at *; omega) | omega) (by first | assumption | (unfold R32 at *; omega) | omega) (fun h_51 => ?_) (fun h_51 => ?_)
    · show WV _ _ _ 123 _ _ _ _ _
      have e1 : xinL 91 s (f + 1) c u = u := by
        rw [xinL, if_neg (by
          rintro ⟨g1, g2, g3⟩
          (first | omega | (rw [← shr_eq (by omega) (by omega)] at g2; omega))
      )]
      rw [e1] at hK
      exact hK c
    · show WV _ _ _ 54 _ _ _ _ _
      refine r_ex 4 (pc' := 62) (lo' := [some (.inr (.inr (some 91))), some (.inl s), some (.inl c)]) (st' := [.inl s, .inr (.inr (some 74))]) rfl ?_
      refine r_iald2 (j := 0) (x := (u 74 ((s).toNat))) (pc' := 63) (pc0 := 62) (len := 1) rfl (s_74 _) (by first | assumption | (unfold R32 at *; omega) | omega) (by decide) rfl rfl ?_
      have hb_2 : 0 ≤ (u 74 ((s).toNat)) ∧ (u 74 ((s).toNat)) ≤ 511 := hX 74 ((s).toNat)
      refine r_ex 2 (pc' := 65) (lo' := [some (.inr (.inr (some 91))), some (.inl s), some (.inl c)]) (st' := [.inl (pm_shr (u 74 ((s).toNat)) c)]) rfl ?_
      refine r_if_eq (pc0 := 65) (len := 3) (t := 123) rfl (by rw [shr_eq (by omega) (by omega)]; have := shr_in (c).toNat (x := u 74 (s).toNat) (by omega); unfold R32; omega) (fun h_65 => ?_) (fun h_65 => ?_)
      · show WV _ _ _ 123 _ _ _ _ _
        have e1 : xinL 91 s (f + 1) c u = u := by
          rw [xinL, if_neg (by
            rintro ⟨g1, g2, g3⟩
            (first | omega | (rw [← shr_eq (by omega) (by omega)] at g2; omega))
        )]
        rw [e1] at hK
        exact hK c
      · show WV _ _ _ 68 _ _ _ _ _
        refine r_ex 2 (pc' := 72) (lo' := [some (.inr (.inr (some 91))), some (.inl s), some (.inl c)]) (st' := [.inl (u 91 17)]) rfl ?_
        have hb_3 : 0 ≤ (u 91 17) ∧ (u 91 17) ≤ 1 := hX 91 17
        refine r_if_ne (pc0 := 72) (len := 3) (t := 123) rfl (by first | assumption | (unfold R32 at *; omega) | omega) (fun h_72 => ?_) (fun h_72 => ?_)
        · show WV _ _ _ 123 _ _ _ _ _
          have e1 : xinL 91 s (f + 1) c u = u := by
            rw [xinL, if_neg (by
              rintro ⟨g1, g2, g3⟩
              (first | omega | (rw [← shr_eq (by omega) (by omega)] at g2; omega))
          )]
          rw [e1] at hK
          exact hK c
        · show WV _ _ _ 75 _ _ _ _ _
          refine r_ex 4 (pc' := 83) (lo' := [some (.inr (.inr (some 91))), some (.inl s), some (.inl c)]) (st' := [.inl s, .inr (.inr (some 74))]) rfl ?_
          refine r_iald2 (j := 0) (x := (u 74 ((s).toNat))) (pc' := 84) (pc0 := 83) (len := 1) rfl (s_74 _) (by first | assumption | (unfold R32 at *; omega) | omega) (by decide) rfl rfl ?_
          have hb_4 : 0 ≤ (u 74 ((s).toNat)) ∧ (u 74 ((s).toNat)) ≤ 511 := hX 74 ((s).toNat)
          refine r_ex 1 (pc' := 85) (lo' := [some (.inr (.inr (some 91))), some (.inl s), some (.inl c)]) (st' := [.inl c, .inl (u 74 ((s).toNat))]) rfl ?_
          refine r_call (m := 63) (args := [.inl (u 74 ((s).toNat)), .inl c]) (n' := 74) (pc' := 88) (lo' := [some (.inr (.inr (some 91))), some (.inl s), some (.inl c)]) (st' := []) (I := .invokestatic 63) (pc0 := 85) (len := 3) rfl rfl rfl (x_bitb (by omega) (by omega)) ?_
          show WV _ _ _ 88 _ [.inl (bt (u 74 ((s).toNat)) c)] _ u _
          have hb_5 := bt01 (u 74 ((s).toNat)) c
          refine r_ex 1 (pc' := 89) (lo' := [some (.inr (.inr (some 91))), some (.inl s), some (.inl c)]) (st' := [.inl 1, .inl (bt (u 74 ((s).toNat)) c)]) rfl ?_
          refine r_ic_ne (pc0 := 89) (len := 3) (t := 117) rfl (by first | assumption | (unfold R32 at *; omega) | omega) (by first | assumption | (unfold R32 at *; omega) | omega) (fun h_89 => ?_) (fun h_89 => ?_)
          · show WV _ _ _ 117 _ _ _ _ _
            refine r_ex 2 (pc' := 43) (lo' := [some (.inr (.inr (some 91))), some (.inl s), some (.inl (c + 1))]) (st' := []) rfl ?_
            have e1 : xinL 91 s (f + 1) c u = xinL 91 s f (c + 1) u := by
              rw [xinL, if_pos ⟨by omega, by rw [← shr_eq (by omega) (by omega)]; omega, by omega⟩]
              congr 1
              unfold xin
              (first | (rw [if_neg (by omega)]; done) | (rw [if_pos (by omega), if_pos (by omega)]; done) | (rw [if_pos (by omega), if_neg (by omega)]; done))
            rw [e1] at hK
            refine ih _ (c + 1) (by omega) ?_ (by omega) hK
            (first | exact hX | exact hXs | exact XI_go91 hXr (by rw [xring_4_91] at *; omega))
          · show WV _ _ _ 92 _ _ _ _ _
            refine r_ex 3 (pc' := 95) (lo' := [some (.inr (.inr (some 91))), some (.inl s), some (.inl c)]) (st' := [.inl c, .inl s, .inr (.inr (some 91))]) rfl ?_
            refine r_call (m := 78) (args := [.inr (.inr (some 91)), .inl s, .inl c]) (n' := 74) (pc' := 98) (lo' := [some (.inr (.inr (some 91))), some (.inl s), some (.inl c)]) (st' := []) (I := .invokevirtual 78) (pc0 := 95) (len := 3) rfl rfl rfl (x_isStruck91 hX (by omega) (by omega)) ?_
            show WV _ _ _ 98 _ [.inl ((xstr 91 u s c).1)] _ (xstr 91 u s c).2 _
            have hXs := XI_str91 (s := s) (c := c) hX
            have hst := xstr01_91 (v := u) (s := s) (c := c)
            refine r_if_eq (pc0 := 98) (len := 3) (t := 117) rfl (by first | assumption | (unfold R32 at *; omega) | omega) (fun h_98 => ?_) (fun h_98 => ?_)
            · show WV _ _ _ 117 _ _ _ _ _
              refine r_ex 2 (pc' := 43) (lo' := [some (.inr (.inr (some 91))), some (.inl s), some (.inl (c + 1))]) (st' := []) rfl ?_
              have e1 : xinL 91 s (f + 1) c u = xinL 91 s f (c + 1) (xstr 91 u s c).2 := by
                rw [xinL, if_pos ⟨by omega, by rw [← shr_eq (by omega) (by omega)]; omega, by omega⟩]
                congr 1
                unfold xin
                (first | (rw [if_neg (by omega)]; done) | (rw [if_pos (by omega), if_pos (by omega)]; done) | (rw [if_pos (by omega), if_neg (by omega)]; done))
              rw [e1] at hK
              refine ih _ (c + 1) (by omega) ?_ (by omega) hK
              (first | exact hX | exact hXs | exact XI_go91 hXr (by rw [xring_4_91] at *; omega))
            · show WV _ _ _ 101 _ _ _ _ _
              have hlt := xstr_lt91 (v := u) (s := s) (c := c) (by omega)
              have hs4 : (xstr 91 u s c).2 91 4 = u 91 4 := by rw [xstr_row (by omega)]
              have hr4 := xring_4_91 (v := (xstr 91 u s c).2) (s := s) (c := c)
              have hu4 : 0 ≤ u 91 4 ∧ u 91 4 ≤ 300 := hX 91 4
              refine r_ex 3 (pc' := 104) (lo' := [some (.inr (.inr (some 91))), some (.inl s), some (.inl c)]) (st' := [.inl c, .inl s, .inr (.inr (some 91))]) rfl ?_
              refine r_call (m := 80) (args := [.inr (.inr (some 91)), .inl s, .inl c]) (n' := 74) (pc' := 107) (lo' := [some (.inr (.inr (some 91))), some (.inl s), some (.inl c)]) (st' := []) (I := .invokevirtual 80) (pc0 := 104) (len := 3) rfl rfl rfl (x_ring91 hXs (by omega) (by omega) (by omega)) ?_
              show WV _ _ _ 107 _ [] _ (xring 91 ((xstr 91 u s c).2) s c) _
              have hXr := XI_ring91 (s := s) (c := c) hXs (by omega) (by omega) (by omega)
              refine r_ex 5 (pc' := 114) (lo' := [some (.inr (.inr (some 91))), some (.inl s), some (.inl c)]) (st' := [.inl (((xring 91 ((xstr 91 u s c).2) s c) 91 4) - 1), .inr (.inr (some 91))]) rfl ?_
              have hb_6 : 0 ≤ ((xring 91 ((xstr 91 u s c).2) s c) 91 4) ∧ ((xring 91 ((xstr 91 u s c).2) s c) 91 4) ≤ 300 := hXr 91 4
              refine r_call (m := 81) (args := [.inr (.inr (some 91)), .inl (((xring 91 ((xstr 91 u s c).2) s c) 91 4) - 1)]) (n' := 74) (pc' := 117) (lo' := [some (.inr (.inr (some 91))), some (.inl s), some (.inl c)]) (st' := []) (I := .invokevirtual 81) (pc0 := 114) (len := 3) rfl rfl rfl (x_go91 hXr (by omega)) ?_
              show WV _ _ _ 117 _ [] _ (xgo 91 (xring 91 ((xstr 91 u s c).2) s c) (((xring 91 ((xstr 91 u s c).2) s c) 91 4) - 1)) _
              refine r_ex 2 (pc' := 43) (lo' := [some (.inr (.inr (some 91))), some (.inl s), some (.inl (c + 1))]) (st' := []) rfl ?_
              have e1 : xinL 91 s (f + 1) c u = xinL 91 s f (c + 1) (xgo 91 (xring 91 ((xstr 91 u s c).2) s c) (((xring 91 ((xstr 91 u s c).2) s c) 91 4) - 1)) := by
                rw [xinL, if_pos ⟨by omega, by rw [← shr_eq (by omega) (by omega)]; omega, by omega⟩]
                congr 1
                unfold xin
                (first | (rw [if_neg (by omega)]; done) | (rw [if_pos (by omega), if_pos (by omega)]; done) | (rw [if_pos (by omega), if_neg (by omega)]; done))
              rw [e1] at hK
              refine ih _ (c + 1) (by omega) ?_ (by omega) hK
              (first | exact hX | exact hXs | exact XI_go91 hXr (by rw [xring_4_91] at *; omega))

theorem x_outL91 {X : PX} {d b : Nat} : ∀ (f : Nat) (u : VS) (s : Int) (o : Option PV), 0 ≤ s ∧ s ≤ 300 → XI u → 300 < s + f → WV X (d + 1 + 1 + 1 + 1 + 1) 74 12 [some (.inr (.inr (some 91))), some (.inl s), o] [] b u (fun r b' v' => r = none ∧ b' = b ∧ v' = xoutL 91 f s u) := by
  intro f
  induction f with
  | zero =>
    intro u s o h0 hX h1
    have h73 : -1 ≤ u 73 6 ∧ u 73 6 ≤ 299 := hX 73 6
    refine r_ex 4 (pc' := 20) (lo' := [some (.inr (.inr (some 91))), some (.inl s), o]) (st' := [.inl (u 73 6), .inl s]) rfl ?_
    refine r_ic_gt (pc0 := 20) (len := 3) (t := 129) rfl (by first | assumption | (unfold R32 at *; omega) | omega) (by first | assumption | (unfold R32 at *; omega) | omega) (fun h_20 => ?_) (fun h_20 => ?_)
    · exact r_ret (rr := none) (I := .return_) (pc0 := 129) (len := 1) rfl rfl ⟨rfl, rfl, rfl⟩
    · omega
  | succ f ih =>
    intro u s o h0 hX h1
    refine r_ex 4 (pc' := 20) (lo' := [some (.inr (.inr (some 91))), some (.inl s), o]) (st' := [.inl (u 73 6), .inl s]) rfl ?_
    have hb_1 : -1 ≤ (u 73 6) ∧ (u 73 6) ≤ 299 := hX 73 6
    refine r_ic_gt (pc0 := 20) (len := 3) (t := 129) rfl (by first | assumption | (unfold R32 at *; omega) | omega) (by first | assumption | (unfold R32 at *; omega) | omega) (fun h_20 => ?_) (fun h_20 => ?_)
    · show WV _ _ _ 129 _ _ _ _ _
      refine r_ret (rr := none) (I := .return_) (pc0 := 129) (len := 1) rfl rfl ?_
      refine ⟨rfl, rfl, ?_⟩
      rw [xoutL, if_neg (by omega)]
    · show WV _ _ _ 23 _ _ _ _ _
      refine r_ex 4 (pc' := 31) (lo' := [some (.inr (.inr (some 91))), some (.inl s), o]) (st' := [.inl (u 67 6), .inl s]) rfl ?_
      have hb_2 : -1 ≤ (u 67 6) ∧ (u 67 6) ≤ 299 := hX 67 6
      refine r_ic_gt (pc0 := 31) (len := 3) (t := 129) rfl (by first | assumption | (unfold R32 at *; omega) | omega) (by first | assumption | (unfold R32 at *; omega) | omega) (fun h_31 => ?_) (fun h_31 => ?_)
      · show WV _ _ _ 129 _ _ _ _ _
        refine r_ret (rr := none) (I := .return_) (pc0 := 129) (len := 1) rfl rfl ?_
        refine ⟨rfl, rfl, ?_⟩
        rw [xoutL, if_neg (by omega)]
      · show WV _ _ _ 34 _ _ _ _ _
        refine r_ex 2 (pc' := 38) (lo' := [some (.inr (.inr (some 91))), some (.inl s), o]) (st' := [.inl (u 91 17)]) rfl ?_
        have hb_3 : 0 ≤ (u 91 17) ∧ (u 91 17) ≤ 1 := hX 91 17
        refine r_if_ne (pc0 := 38) (len := 3) (t := 129) rfl (by first | assumption | (unfold R32 at *; omega) | omega) (fun h_38 => ?_) (fun h_38 => ?_)
        · show WV _ _ _ 129 _ _ _ _ _
          refine r_ret (rr := none) (I := .return_) (pc0 := 129) (len := 1) rfl rfl ?_
          refine ⟨rfl, rfl, ?_⟩
          rw [xoutL, if_neg (by omega)]
        · show WV _ _ _ 41 _ _ _ _ _
          refine r_ex 2 (pc' := 43) (lo' := [some (.inr (.inr (some 91))), some (.inl s), some (.inl 0)]) (st' := []) rfl ?_
          refine x_inL91 (by omega) 10 u 0 (by omega) hX (by omega) (fun c2 => ?_)
          refine r_ex 2 (pc' := 12) (lo' := [some (.inr (.inr (some 91))), some (.inl (s + 1)), some (.inl c2)]) (st' := []) rfl ?_
          have e1 : xoutL 91 (f + 1) s u = xoutL 91 f (s + 1) (xinL 91 s 10 0 u) := by
            rw [xoutL, if_pos ⟨by omega, by omega, by omega⟩]
          rw [e1]
          exact ih _ (s + 1) (some (.inl c2)) (by omega) (XI_inL91 (by omega) _ _ _ hX (by omega)) (by omega)

theorem x_play91 {X : PX} {d b : Nat} {v : VS}  (hX : XI v) : EvV X (d + 1 + 1 + 1 + 1 + 1) 74 [.inr (.inr (some 91))] b v (none) b (xplay 91 v) := by
  refine EvV.of ?_
  show WV _ _ _ 0 [some (.inr (.inr (some 91))), none, none] [] _ _ _
  refine r_ex 1 (pc' := 1) (lo' := [some (.inr (.inr (some 91))), none, none]) (st' := [.inr (.inr (some 91))]) rfl ?_
  refine r_call (m := 75) (args := [.inr (.inr (some 91))]) (n' := 74) (pc' := 4) (lo' := [some (.inr (.inr (some 91))), none, none]) (st' := []) (I := .invokevirtual 75) (pc0 := 1) (len := 3) rfl rfl rfl (x_begin91 hX) ?_
  show WV _ _ _ 4 _ [] _ (xbegin 91 v) _
  have hXb := XI_begin91 hX
  refine r_ex 4 (pc' := 12) (lo' := [some (.inr (.inr (some 91))), some (.inl ((xbegin 91 v) 73 5)), none]) (st' := []) rfl ?_
  have hb_1 : 0 ≤ ((xbegin 91 v) 73 5) ∧ ((xbegin 91 v) 73 5) ≤ 300 := hXb 73 5
  have h5 : 0 ≤ xbegin 91 v 73 5 ∧ xbegin 91 v 73 5 ≤ 300 := hXb 73 5
  exact x_outL91 301 (xbegin 91 v) (xbegin 91 v 73 5) none h5 hXb (by omega)
