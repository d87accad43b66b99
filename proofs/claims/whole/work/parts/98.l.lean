
/-! one call -/
def INVb (_ : Nat) (v : VS) : Prop := INV v
theorem R64_lor (a b : Int) : R64 (pm_lor a b) := ⟨Int64.le_toInt _, Int64.toInt_lt _⟩
theorem INV.sm {v : VS} (h : INV v) : SM (mo_told (v2 v 203 0 0)) := by
  have pw := h.i.pw
  have aw := AW.run pw
  have rm := told_RM (v := v) (u := v2 v 203 0 0) h.i h.a (fun k a b => v2_row (by omega)) h.thr.i.x
  generalize (mo_told (v2 v 203 0 0)) = u at rm ⊢
  generalize arun (tP v) = A at rm aw
  have hC := pw.C
  have hT := pw.T
  refine ⟨fun j hj => ?_, fun c hc => ?_⟩
  · rw [rm.n] at hj
    have s := aw.st j hj
    have m := fun k hk => rm.st k j hk hj
    have m0 : u 220 (5 * j) = A.1 1 j := m 0 (by omega)
    have m1 : u 220 (5 * j + 1) = A.1 2 j := m 1 (by omega)
    have m2 : u 220 (5 * j + 2) = A.1 3 j := m 2 (by omega)
    have m3 : u 220 (5 * j + 3) = A.1 4 j := m 3 (by omega)
    rw [m0, m1, m2, m3]
    omega
  · rw [(rm.la c hc).2.2.1, rm.n]
    rcases aw.b c with g | g
    · rw [(aw.no c g).2.2.1]
      have := aw.n
      omega
    · exact (aw.ye c g).2.1.2
theorem led33_2 : ∀ (f : Nat) (v : VS) (k a s : Int), (cl_led_33 f v k a s).2 = v := by
  intro f
  induction f with
  | zero => intro v k a s; rfl
  | succ f ih =>
    intro v k a s
    rw [cl_led_33]
    repeat' split
    all_goals first | rfl | exact ih _ _ _ _
theorem lap35_2 : ∀ (f : Nat) (v : VS) (c a j : Int), (cl_lap_35 f v c a j).2 = v := by
  intro f
  induction f with
  | zero => intro v c a j; rfl
  | succ f ih =>
    intro v c a j
    rw [cl_lap_35]
    repeat' split
    all_goals first | rfl | exact ih _ _ _ _
theorem iv_led {v : VS} (h : INV v) (c k : Int) : INV (cl_led v c k).2 := by
  unfold cl_led
  repeat' split
  · exact h
  · rw [led33_2]; exact h.is
  · exact h
theorem iv_lap {v : VS} (h : INV v) (c : Int) : INV (cl_lap v c).2 := by
  unfold cl_lap
  repeat' split
  · exact h.is
  · rw [lap35_2]; exact h.is
  · exact h
theorem iv_wave {v : VS} (h : INV v) (i : Int) : INV (cl_wave v i).2 := by
  unfold cl_wave
  repeat' split
  · exact h.is
  · exact h.is
  · exact h
theorem iv_depth {v : VS} (h : INV v) (i : Int) : INV (cl_depth v i).2 := by
  unfold cl_depth
  repeat' split
  · exact h.is
  · exact h.is
  · exact h
theorem iv_source {v : VS} (h : INV v) (i : Int) : INV (cl_source v i).2 := by
  unfold cl_source
  repeat' split
  · exact h.is
  · exact h.is
  · exact h
theorem iv_splits {v : VS} (h : INV v) : INV (cl_splits v).2 := by
  unfold cl_splits
  split
  · exact h.is
  · exact h
theorem b_feed (X : PX) (x0 : Int) (x1 : Int) (x2 : Int) (x3 : Int) (x4 : Int) (h0 : R32 x0) (h1 : R32 x1) (h2 : R32 x2) (h3 : R32 x3) (h4 : R32 x4) : Both INVb X 13 206 [.inl x0, .inl x1, .inl x2, .inl x3, .inl x4] := by
  intro b v h
  have h : INV v := h
  have q := q_feed h x0 x1 x2 x3 x4
  have hx : XI (cl_feed v x0 x1 x2 x3 x4).2 := i_cl_feed h.i.x
  refine ⟨(cl_feed v x0 x1 x2 x3 x4).1, b, (cl_feed v x0 x1 x2 x3 x4).2, (mo_feed (cl_feed v x0 x1 x2 x3 x4).2 x0 x1 x2 x3 x4).2, e_cl_feed (d := 11) h.i.x, ?_, q.2⟩
  rw [← q.1]
  exact e_mo_feed (d := 11) hx
theorem b_end (X : PX) (x0 : Int) (h0 : R32 x0) : Both INVb X 15 208 [.inl x0] := by
  intro b v h
  have h : INV v := h
  have q := q_end h x0 h0
  have hx : XI (cl_end v x0).2 := i_cl_end h.i.x h0
  refine ⟨(cl_end v x0).1, b, (cl_end v x0).2, (mo_end (cl_end v x0).2 x0).2, e_cl_end (d := 12) h.i.x h0, ?_, q.2⟩
  rw [← q.1]
  exact e_mo_end (d := 11) hx h0
theorem b_bay (X : PX) : Both INVb X 16 210 [] := by
  intro b v h
  have h : INV v := h
  have q := q_bay h
  have hx : XI (cl_bay v).2 := i_cl_bay h.i.x
  have hc : CF (cl_bay v).2 := h.i.c.of (fun k a b => o_cl_bay (by omega))
  refine ⟨(cl_bay v).1, 1, (cl_bay v).2, (mo_bay (cl_bay v).2).2, e_cl_bay (d := 2) h.i.x, ?_, q.2⟩
  rw [← q.1]
  exact e_mo_bay (d := 5) hx hc
theorem b_fault (X : PX) (x0 : Int) (h0 : R32 x0) : Both INVb X 60 209 [.inl x0] := by
  intro b v h
  have h : INV v := h
  have q := q_fault h x0
  have hx := h.i.x
  refine ⟨cl_fault v x0, b, v, (mo_fault v x0).2, e_cl_fault (d := 12) h.i.x h0, ?_, q.2⟩
  rw [← q.1]
  exact e_mo_fault (d := 12) hx h0
theorem b_church (X : PX) (x0 : Int) (x1 : Int) (h0 : R32 x0) (h1 : R32 x1) : Both INVb X 61 235 [.inl x0, .inl x1] := by
  intro b v h
  have h : INV v := h
  have q := q_church h x0 x1
  have hx := h.i.x
  refine ⟨cl_church v x0 x1, b, v, (mo_church v x0 x1).2, e_cl_church (d := 11) h.i.x h0 h1, ?_, q.2⟩
  rw [← q.1]
  exact e_mo_church (d := 10) hx h0 h1
theorem b_ear (X : PX) (x0 : Int) (x1 : Int) (h0 : R32 x0) (h1 : R32 x1) : Both INVb X 64 237 [.inl x0, .inl x1] := by
  intro b v h
  have h : INV v := h
  have q := q_ear h x0 x1
  have hx := h.i.x
  refine ⟨cl_ear v x0 x1, b, v, (mo_ear v x0 x1).2, e_cl_ear (d := 11) h.i.x h0 h1, ?_, q.2⟩
  rw [← q.1]
  exact e_mo_ear (d := 10) hx h0 h1
theorem b_takes (X : PX) (x0 : Int) (x1 : Int) (h0 : R32 x0) (h1 : R32 x1) : Both INVb X 66 239 [.inl x0, .inl x1] := by
  intro b v h
  have h : INV v := h
  have q := q_takes h x0 x1 h0 h1
  have hx := h.i.x
  have hc := h.i.c
  refine ⟨cl_takes v x0 x1, b, v, (mo_takes v x0 x1).2, e_cl_takes (d := 10) h.i.x h0 h1, ?_, q.2⟩
  rw [← q.1]
  exact e_mo_takes (d := 10) hx h0 h1 hc
theorem b_strikes (X : PX) : Both INVb X 70 244 [] := by
  intro b v h
  have h : INV v := h
  have q := q_strikes h
  have hx : XI (cl_strikes v).2 := i_cl_strikes h.i.x
  have hc : CF (cl_strikes v).2 := h.i.c.of (fun k a b => o_cl_strikes (by omega))
  refine ⟨(cl_strikes v).1, b, (cl_strikes v).2, (mo_strikes (cl_strikes v).2).2, e_cl_strikes (d := 5) h.i.x, ?_, q.2⟩
  rw [← q.1]
  exact e_mo_strikes (d := 6) hx hc
theorem b_strike (X : PX) (x0 : Int) (x1 : Int) (h0 : R32 x0) (h1 : R32 x1) : Both INVb X 86 253 [.inl x0, .inl x1] := by
  intro b v h
  have h : INV v := h
  have q := q_strike h x0 x1
  have hx : XI (cl_strike v x0 x1).2 := i_cl_strike h.i.x h0 h1
  have hc : CF (cl_strike v x0 x1).2 := h.i.c.of (fun k a b => o_cl_strike (by omega))
  refine ⟨(cl_strike v x0 x1).1, b, (cl_strike v x0 x1).2, (mo_strike (cl_strike v x0 x1).2 x0 x1).2, e_cl_strike (d := 5) h.i.x h0 h1, ?_, q.2⟩
  rw [← q.1]
  exact e_mo_strike (d := 6) hx h0 h1 hc
theorem b_lost (X : PX) (x0 : Int) (h0 : R32 x0) : Both INVb X 88 255 [.inl x0] := by
  intro b v h
  have h : INV v := h
  have q := q_lost h x0
  have hx : XI (cl_lost v x0).2 := i_cl_lost h.i.x h0
  have hc : CF (cl_lost v x0).2 := h.i.c.of (fun k a b => o_cl_lost (by omega))
  refine ⟨(cl_lost v x0).1, b, (cl_lost v x0).2, (mo_lost (cl_lost v x0).2 x0).2, e_cl_lost (d := 5) h.i.x h0, ?_, q.2⟩
  rw [← q.1]
  exact e_mo_lost (d := 6) hx h0 hc
theorem b_hour (X : PX) (x0 : Int) (x1 : Int) (h0 : R32 x0) (h1 : R32 x1) : Both INVb X 89 256 [.inl x0, .inl x1] := by
  intro b v h
  have h : INV v := h
  have q := q_hour h x0 x1
  have hx : XI (cl_hour v x0 x1).2 := i_cl_hour h.i.x h0 h1
  have hc : CF (cl_hour v x0 x1).2 := h.i.c.of (fun k a b => o_cl_hour (by omega))
  refine ⟨(cl_hour v x0 x1).1, b, (cl_hour v x0 x1).2, (mo_hour (cl_hour v x0 x1).2 x0 x1).2, e_cl_hour (d := 5) h.i.x h0 h1, ?_, q.2⟩
  rw [← q.1]
  exact e_mo_hour (d := 6) hx h0 h1 hc
theorem b_many (X : PX) (x0 : Int) (h0 : R32 x0) : Both INVb X 91 258 [.inl x0] := by
  intro b v h
  have h : INV v := h
  have q := q_many h x0
  have hx : XI (cl_many v x0).2 := i_cl_many h.i.x h0
  have hc : CF (cl_many v x0).2 := h.i.c.of (fun k a b => o_cl_many (by omega))
  refine ⟨(cl_many v x0).1, b, (cl_many v x0).2, (mo_many (cl_many v x0).2 x0).2, e_cl_many (d := 5) h.i.x h0, ?_, q.2⟩
  rw [← q.1]
  exact e_mo_many (d := 6) hx h0 hc
theorem b_when (X : PX) (x0 : Int) (x1 : Int) (h0 : R32 x0) (h1 : R32 x1) : Both INVb X 92 259 [.inl x0, .inl x1] := by
  intro b v h
  have h : INV v := h
  have q := q_when h x0 x1
  have hx : XI (cl_when v x0 x1).2 := i_cl_when h.i.x h0 h1
  have hc : CF (cl_when v x0 x1).2 := h.i.c.of (fun k a b => o_cl_when (by omega))
  refine ⟨(cl_when v x0 x1).1, b, (cl_when v x0 x1).2, (mo_when (cl_when v x0 x1).2 x0 x1).2, e_cl_when (d := 5) h.i.x h0 h1, ?_, q.2⟩
  rw [← q.1]
  exact e_mo_when (d := 6) hx h0 h1 hc
theorem b_led (X : PX) (x0 : Int) (x1 : Int) (h0 : R32 x0) (h1 : R32 x1) : Both INVb X 94 261 [.inl x0, .inl x1] := by
  intro b v h
  have h : INV v := h
  have q := q_led h x0 x1
  have hx : XI (cl_led v x0 x1).2 := i_cl_led h.i.x h0 h1
  have hc : CF (cl_led v x0 x1).2 := h.i.c.of (fun k a b => o_cl_led (by omega))
  have hs := (iv_led h x0 x1).sm
  refine ⟨(cl_led v x0 x1).1, b, (cl_led v x0 x1).2, (mo_led (cl_led v x0 x1).2 x0 x1).2, e_cl_led (d := 5) h.i.x h0 h1, ?_, q.2⟩
  rw [← q.1]
  exact e_mo_led (d := 6) hx h0 h1 hc hs
theorem b_agree (X : PX) (x0 : Int) (h0 : R32 x0) : Both INVb X 95 262 [.inl x0] := by
  intro b v h
  have h : INV v := h
  have q := q_agree h x0
  have hx : XI (cl_agree v x0).2 := i_cl_agree h.i.x h0
  have hc : CF (cl_agree v x0).2 := h.i.c.of (fun k a b => o_cl_agree (by omega))
  refine ⟨(cl_agree v x0).1, b, (cl_agree v x0).2, (mo_agree (cl_agree v x0).2 x0).2, e_cl_agree (d := 5) h.i.x h0, ?_, q.2⟩
  rw [← q.1]
  exact e_mo_agree (d := 6) hx h0 hc
theorem b_noon (X : PX) (x0 : Int) (x1 : Int) (h0 : R32 x0) (h1 : R32 x1) : Both INVb X 97 263 [.inl x0, .inl x1] := by
  intro b v h
  have h : INV v := h
  have q := q_noon h x0 x1
  have hx : XI (cl_noon v x0 x1).2 := i_cl_noon h.i.x h0 h1
  have hc : CF (cl_noon v x0 x1).2 := h.i.c.of (fun k a b => o_cl_noon (by omega))
  refine ⟨(cl_noon v x0 x1).1, b, (cl_noon v x0 x1).2, (mo_noon (cl_noon v x0 x1).2 x0 x1).2, e_cl_noon (d := 5) h.i.x h0 h1, ?_, q.2⟩
  rw [← q.1]
  exact e_mo_noon (d := 6) hx h0 h1 hc
theorem b_ship (X : PX) (x0 : Int) (x1 : Int) (x2 : Int) (h0 : R32 x0) (h1 : R32 x1) (h2 : R32 x2) : Both INVb X 102 265 [.inl x0, .inl x1, .inl x2] := by
  intro b v h
  have h : INV v := h
  have q := q_ship h x0 x1 x2
  have hx : XI (cl_ship v x0 x1 x2).2 := i_cl_ship h.i.x h0 h1 h2
  have hc : CF (cl_ship v x0 x1 x2).2 := h.i.c.of (fun k a b => o_cl_ship (by omega))
  refine ⟨(cl_ship v x0 x1 x2).1, b, (cl_ship v x0 x1 x2).2, (mo_ship (cl_ship v x0 x1 x2).2 x0 x1 x2).2, e_cl_ship (d := 5) h.i.x h0 h1 h2, ?_, q.2⟩
  rw [← q.1]
  exact e_mo_ship (d := 6) hx h0 h1 h2 hc
theorem b_quiet (X : PX) : Both INVb X 104 266 [] := by
  intro b v h
  have h : INV v := h
  have q := q_quiet h
  have hx : XI (cl_quiet v).2 := i_cl_quiet h.i.x
  have hc : CF (cl_quiet v).2 := h.i.c.of (fun k a b => o_cl_quiet (by omega))
  refine ⟨(cl_quiet v).1, b, (cl_quiet v).2, (mo_quiet (cl_quiet v).2).2, e_cl_quiet (d := 5) h.i.x, ?_, q.2⟩
  rw [← q.1]
  exact e_mo_quiet (d := 6) hx hc
theorem b_muffle (X : PX) (x0 : Int) (x1 : Int) (h0 : R32 x0) (h1 : R32 x1) : Both INVb X 106 267 [.inl x0, .inl x1] := by
  intro b v h
  have h : INV v := h
  have q := q_muffle h x0 x1 h0 h1
  have hx : XI (cl_muffle v x0 x1).2 := i_cl_muffle h.i.x h0 h1
  refine ⟨(cl_muffle v x0 x1).1, b, (cl_muffle v x0 x1).2, (mo_muffle (cl_muffle v x0 x1).2 x0 x1).2, e_cl_muffle (d := 11) h.i.x h0 h1, ?_, q.2⟩
  rw [← q.1]
  exact e_mo_muffle (d := 10) hx h0 h1
theorem b_cut (X : PX) (x0 : Int) (x1 : Int) (h0 : R32 x0) (h1 : R32 x1) : Both INVb X 108 269 [.inl x0, .inl x1] := by
  intro b v h
  have h : INV v := h
  have q := q_cut h x0 x1 h0 h1
  have hx : XI (cl_cut v x0 x1).2 := i_cl_cut h.i.x h0 h1
  refine ⟨(cl_cut v x0 x1).1, b, (cl_cut v x0 x1).2, (mo_cut (cl_cut v x0 x1).2 x0 x1).2, e_cl_cut (d := 11) h.i.x h0 h1, ?_, q.2⟩
  rw [← q.1]
  exact e_mo_cut (d := 10) hx h0 h1
theorem b_night (X : PX) (x0 : Int) (x1 : Int) (h0 : R32 x0) (h1 : R32 x1) : Both INVb X 109 270 [.inl x0, .inl x1] := by
  intro b v h
  have h : INV v := h
  have q := q_night h x0 x1
  have hx : XI (cl_night v x0 x1).2 := i_cl_night h.i.x h0 h1
  have hc : CF (cl_night v x0 x1).2 := h.i.c.of (fun k a b => o_cl_night (by omega))
  refine ⟨(cl_night v x0 x1).1, b, (cl_night v x0 x1).2, (mo_night (cl_night v x0 x1).2 x0 x1).2, e_cl_night (d := 5) h.i.x h0 h1, ?_, q.2⟩
  rw [← q.1]
  exact e_mo_night (d := 6) hx h0 h1 hc
theorem b_spare (X : PX) (x0 : Int) (x1 : Int) (h0 : R32 x0) (h1 : R32 x1) : Both INVb X 118 274 [.inl x0, .inl x1] := by
  intro b v h
  have h : INV v := h
  have q := q_spare h x0 x1
  have hx : XI (cl_spare v x0 x1).2 := i_cl_spare h.i.x h0 h1
  have hc : CF (cl_spare v x0 x1).2 := h.i.c.of (fun k a b => o_cl_spare (by omega))
  refine ⟨(cl_spare v x0 x1).1, b, (cl_spare v x0 x1).2, (mo_spare (cl_spare v x0 x1).2 x0 x1).2, e_cl_spare (d := 5) h.i.x h0 h1, ?_, q.2⟩
  rw [← q.1]
  exact e_mo_spare (d := 6) hx h0 h1 hc mna
theorem b_needs (X : PX) (x0 : Int) (h0 : R32 x0) : Both INVb X 122 275 [.inl x0] := by
  intro b v h
  have h : INV v := h
  have q := q_needs h x0
  have hx : XI (cl_needs v x0).2 := i_cl_needs h.i.x h0
  have hc : CF (cl_needs v x0).2 := h.i.c.of (fun k a b => o_cl_needs (by omega))
  refine ⟨(cl_needs v x0).1, b, (cl_needs v x0).2, (mo_needs (cl_needs v x0).2 x0).2, e_cl_needs (d := 5) h.i.x h0, ?_, q.2⟩
  rw [← q.1]
  exact e_mo_needs (d := 6) hx h0 hc mna
theorem b_harm (X : PX) (x0 : Int) (h0 : R32 x0) : Both INVb X 124 276 [.inl x0] := by
  intro b v h
  have h : INV v := h
  have q := q_harm h x0
  have hx : XI (cl_harm v x0).2 := i_cl_harm h.i.x h0
  have hc : CF (cl_harm v x0).2 := h.i.c.of (fun k a b => o_cl_harm (by omega))
  refine ⟨(cl_harm v x0).1, b, (cl_harm v x0).2, (mo_harm (cl_harm v x0).2 x0).2, e_cl_harm (d := 5) h.i.x h0, ?_, q.2⟩
  rw [← q.1]
  exact e_mo_harm (d := 6) hx h0 hc
theorem b_pan (X : PX) (x0 : Int) (x1 : Int) (x2 : Int) (h0 : R32 x0) (h1 : R32 x1) (h2 : R32 x2) : Both INVb X 125 277 [.inl x0, .inl x1, .inl x2] := by
  intro b v h
  have h : INV v := h
  have q := q_pan h x0 x1 x2
  have hx : XI (cl_pan v x0 x1 x2).2 := i_cl_pan h.i.x h0 h1 h2
  have hc : CF (cl_pan v x0 x1 x2).2 := h.i.c.of (fun k a b => o_cl_pan (by omega))
  refine ⟨(cl_pan v x0 x1 x2).1, b, (cl_pan v x0 x1 x2).2, (mo_pan (cl_pan v x0 x1 x2).2 x0 x1 x2).2, e_cl_pan (d := 5) h.i.x h0 h1 h2, ?_, q.2⟩
  rw [← q.1]
  exact e_mo_pan (d := 5) hx h0 h1 h2 hc
theorem b_boy (X : PX) (x0 : Int) (x1 : Int) (h0 : R32 x0) (h1 : R32 x1) : Both INVb X 127 279 [.inl x0, .inl x1] := by
  intro b v h
  have h : INV v := h
  have q := q_boy h x0 x1
  have hx : XI (cl_boy v x0 x1).2 := i_cl_boy h.i.x h0 h1
  have hc : CF (cl_boy v x0 x1).2 := h.i.c.of (fun k a b => o_cl_boy (by omega))
  refine ⟨(cl_boy v x0 x1).1, b, (cl_boy v x0 x1).2, (mo_boy (cl_boy v x0 x1).2 x0 x1).2, e_cl_boy (d := 5) h.i.x h0 h1, ?_, q.2⟩
  rw [← q.1]
  exact e_mo_boy (d := 5) hx h0 h1 hc
theorem b_gain (X : PX) (x0 : Int) (h0 : R32 x0) : Both INVb X 128 280 [.inl x0] := by
  intro b v h
  have h : INV v := h
  have q := q_gain h x0
  have hx : XI (cl_gain v x0).2 := i_cl_gain h.i.x h0
  have hc : CF (cl_gain v x0).2 := h.i.c.of (fun k a b => o_cl_gain (by omega))
  refine ⟨(cl_gain v x0).1, b, (cl_gain v x0).2, (mo_gain (cl_gain v x0).2 x0).2, e_cl_gain (d := 5) h.i.x h0, ?_, q.2⟩
  rw [← q.1]
  exact e_mo_gain (d := 5) hx h0 hc
theorem b_passes (X : PX) (x0 : Int) (x1 : Int) (h0 : R32 x0) (h1 : R32 x1) : Both INVb X 132 283 [.inl x0, .inl x1] := by
  intro b v h
  have h : INV v := h
  have q := q_passes h x0 x1
  have hx : XI (cl_passes v x0 x1).2 := i_cl_passes h.i.x h0 h1
  have hc : CF (cl_passes v x0 x1).2 := h.i.c.of (fun k a b => o_cl_passes (by omega))
  refine ⟨(cl_passes v x0 x1).1, b, (cl_passes v x0 x1).2, (mo_passes (cl_passes v x0 x1).2 x0 x1).2, e_cl_passes (d := 5) h.i.x h0 h1, ?_, q.2⟩
  rw [← q.1]
  exact e_mo_passes (d := 6) hx h0 h1 hc
theorem b_wave (X : PX) (x0 : Int) (h0 : R32 x0) : Both INVb X 133 284 [.inl x0] := by
  intro b v h
  have h : INV v := h
  have q := q_wave h x0
  have hx : XI (cl_wave v x0).2 := i_cl_wave h.i.x h0
  have hc : CF (cl_wave v x0).2 := h.i.c.of (fun k a b => o_cl_wave (by omega))
  have hs := (iv_wave h x0).sm
  refine ⟨(cl_wave v x0).1, b, (cl_wave v x0).2, (mo_wave (cl_wave v x0).2 x0).2, e_cl_wave (d := 5) h.i.x h0, ?_, q.2⟩
  rw [← q.1]
  exact e_mo_wave (d := 6) hx h0 hc hs
theorem b_depth (X : PX) (x0 : Int) (h0 : R32 x0) : Both INVb X 135 286 [.inl x0] := by
  intro b v h
  have h : INV v := h
  have q := q_depth h x0
  have hx : XI (cl_depth v x0).2 := i_cl_depth h.i.x h0
  have hc : CF (cl_depth v x0).2 := h.i.c.of (fun k a b => o_cl_depth (by omega))
  have hs := (iv_depth h x0).sm
  refine ⟨(cl_depth v x0).1, b, (cl_depth v x0).2, (mo_depth (cl_depth v x0).2 x0).2, e_cl_depth (d := 5) h.i.x h0, ?_, q.2⟩
  rw [← q.1]
  exact e_mo_depth (d := 6) hx h0 hc hs
theorem b_source (X : PX) (x0 : Int) (h0 : R32 x0) : Both INVb X 137 287 [.inl x0] := by
  intro b v h
  have h : INV v := h
  have q := q_source h x0
  have hx : XI (cl_source v x0).2 := i_cl_source h.i.x h0
  have hc : CF (cl_source v x0).2 := h.i.c.of (fun k a b => o_cl_source (by omega))
  have hs := (iv_source h x0).sm
  refine ⟨(cl_source v x0).1, b, (cl_source v x0).2, (mo_source (cl_source v x0).2 x0).2, e_cl_source (d := 5) h.i.x h0, ?_, q.2⟩
  rw [← q.1]
  exact e_mo_source (d := 6) hx h0 hc hs
theorem b_lap (X : PX) (x0 : Int) (h0 : R32 x0) : Both INVb X 139 288 [.inl x0] := by
  intro b v h
  have h : INV v := h
  have q := q_lap h x0
  have hx : XI (cl_lap v x0).2 := i_cl_lap h.i.x h0
  have hc : CF (cl_lap v x0).2 := h.i.c.of (fun k a b => o_cl_lap (by omega))
  have hs := (iv_lap h x0).sm
  refine ⟨(cl_lap v x0).1, b, (cl_lap v x0).2, (mo_lap (cl_lap v x0).2 x0).2, e_cl_lap (d := 5) h.i.x h0, ?_, q.2⟩
  rw [← q.1]
  exact e_mo_lap (d := 6) hx h0 hc hs
theorem b_gap (X : PX) (x0 : Int) (h0 : R32 x0) : Both INVb X 140 289 [.inl x0] := by
  intro b v h
  have h : INV v := h
  have q := q_gap h x0
  have hx : XI (cl_gap v x0).2 := i_cl_gap h.i.x h0
  have hc : CF (cl_gap v x0).2 := h.i.c.of (fun k a b => o_cl_gap (by omega))
  refine ⟨(cl_gap v x0).1, b, (cl_gap v x0).2, (mo_gap (cl_gap v x0).2 x0).2, e_cl_gap (d := 5) h.i.x h0, ?_, q.2⟩
  rw [← q.1]
  exact e_mo_gap (d := 6) hx h0 hc
theorem b_waits (X : PX) (x0 : Int) (x1 : Int) (h0 : R32 x0) (h1 : R32 x1) : Both INVb X 141 290 [.inl x0, .inl x1] := by
  intro b v h
  have h : INV v := h
  have q := q_waits h x0 x1
  have hx : XI (cl_waits v x0 x1).2 := i_cl_waits h.i.x h0 h1
  have hc : CF (cl_waits v x0 x1).2 := h.i.c.of (fun k a b => o_cl_waits (by omega))
  refine ⟨(cl_waits v x0 x1).1, b, (cl_waits v x0 x1).2, (mo_waits (cl_waits v x0 x1).2 x0 x1).2, e_cl_waits (d := 5) h.i.x h0 h1, ?_, q.2⟩
  rw [← q.1]
  exact e_mo_waits (d := 6) hx h0 h1 hc
theorem b_rank (X : PX) (x0 : Int) (h0 : R32 x0) : Both INVb X 142 291 [.inl x0] := by
  intro b v h
  have h : INV v := h
  have q := q_rank h x0
  have hx : XI (cl_rank v x0).2 := i_cl_rank h.i.x h0
  have hc : CF (cl_rank v x0).2 := h.i.c.of (fun k a b => o_cl_rank (by omega))
  refine ⟨(cl_rank v x0).1, b, (cl_rank v x0).2, (mo_rank (cl_rank v x0).2 x0).2, e_cl_rank (d := 5) h.i.x h0, ?_, q.2⟩
  rw [← q.1]
  exact e_mo_rank (d := 6) hx h0 hc
theorem b_common (X : PX) (x0 : Int) (h0 : R32 x0) : Both INVb X 143 292 [.inl x0] := by
  intro b v h
  have h : INV v := h
  have q := q_common h x0 h0
  have hx : XI (cl_common v x0).2 := i_cl_common h.i.x h0
  have hc : CF (cl_common v x0).2 := h.i.c.of (fun k a b => o_cl_common (by omega))
  refine ⟨(cl_common v x0).1, b, (cl_common v x0).2, (mo_common (cl_common v x0).2 x0).2, e_cl_common (d := 5) h.i.x h0, ?_, q.2⟩
  rw [← q.1]
  exact e_mo_common (d := 6) hx h0 hc
theorem b_strayed (X : PX) (x0 : Int) (h0 : R32 x0) : Both INVb X 146 294 [.inl x0] := by
  intro b v h
  have h : INV v := h
  have q := q_strayed h x0 h0
  have hx : XI (cl_strayed v x0).2 := i_cl_strayed h.i.x h0
  have hc : CF (cl_strayed v x0).2 := h.i.c.of (fun k a b => o_cl_strayed (by omega))
  refine ⟨(cl_strayed v x0).1, b, (cl_strayed v x0).2, (mo_strayed (cl_strayed v x0).2 x0).2, e_cl_strayed (d := 5) h.i.x h0, ?_, q.2⟩
  rw [← q.1]
  exact e_mo_strayed (d := 6) hx h0 hc
theorem b_splits (X : PX) : Both INVb X 147 295 [] := by
  intro b v h
  have h : INV v := h
  have q := q_splits h
  have hx : XI (cl_splits v).2 := i_cl_splits h.i.x
  have hc : CF (cl_splits v).2 := h.i.c.of (fun k a b => o_cl_splits (by omega))
  have hs := (iv_splits h).sm
  refine ⟨(cl_splits v).1, b, (cl_splits v).2, (mo_splits (cl_splits v).2).2, e_cl_splits (d := 5) h.i.x, ?_, q.2⟩
  rw [← q.1]
  exact e_mo_splits (d := 6) hx hc hs
theorem b_silence (X : PX) (x0 : Int) (h0 : R32 x0) : Both INVb X 149 296 [.inl x0] := by
  intro b v h
  have h : INV v := h
  have q := q_silence h x0
  have hx : XI (cl_silence v x0).2 := i_cl_silence h.i.x h0
  have hc : CF (cl_silence v x0).2 := h.i.c.of (fun k a b => o_cl_silence (by omega))
  refine ⟨(cl_silence v x0).1, b, (cl_silence v x0).2, (mo_silence (cl_silence v x0).2 x0).2, e_cl_silence (d := 5) h.i.x h0, ?_, q.2⟩
  rw [← q.1]
  exact e_mo_silence (d := 6) hx h0 hc
theorem b_spread (X : PX) (x0 : Int) (h0 : R32 x0) : Both INVb X 150 298 [.inl x0] := by
  intro b v h
  have h : INV v := h
  have q := q_spread h x0
  have hx : XI (cl_spread v x0).2 := i_cl_spread h.i.x h0
  have hc : CF (cl_spread v x0).2 := h.i.c.of (fun k a b => o_cl_spread (by omega))
  refine ⟨(cl_spread v x0).1, b, (cl_spread v x0).2, (mo_spread (cl_spread v x0).2 x0).2, e_cl_spread (d := 5) h.i.x h0, ?_, q.2⟩
  rw [← q.1]
  exact e_mo_spread (d := 6) hx h0 hc
theorem b_without (X : PX) (x0 : Int) (h0 : R32 x0) : Both INVb X 151 299 [.inl x0] := by
  intro b v h
  have h : INV v := h
  have q := q_without h x0
  have hx : XI (cl_without v x0).2 := i_cl_without h.i.x h0
  have hc : CF (cl_without v x0).2 := h.i.c.of (fun k a b => o_cl_without (by omega))
  refine ⟨(cl_without v x0).1, b, (cl_without v x0).2, (mo_without (cl_without v x0).2 x0).2, e_cl_without (d := 5) h.i.x h0, ?_, q.2⟩
  rw [← q.1]
  exact e_mo_without (d := 6) hx h0 hc
theorem b_unheard (X : PX) (x0 : Int) (h0 : R32 x0) : Both INVb X 152 300 [.inl x0] := by
  intro b v h
  have h : INV v := h
  have q := q_unheard h x0
  have hx : XI (cl_unheard v x0).2 := i_cl_unheard h.i.x h0
  have hc : CF (cl_unheard v x0).2 := h.i.c.of (fun k a b => o_cl_unheard (by omega))
  refine ⟨(cl_unheard v x0).1, b, (cl_unheard v x0).2, (mo_unheard (cl_unheard v x0).2 x0).2, e_cl_unheard (d := 5) h.i.x h0, ?_, q.2⟩
  rw [← q.1]
  exact e_mo_unheard (d := 5) hx h0 hc
theorem b_key (X : PX) : Both INVb X 154 302 [] := by
  intro b v h
  have h : INV v := h
  have q := q_key h
  have hx : XI (cl_key v).2 := i_cl_key h.i.x
  have hc : CF (cl_key v).2 := h.i.c.of (fun k a b => o_cl_key (by omega))
  refine ⟨(cl_key v).1, b, (cl_key v).2, (mo_key (cl_key v).2).2, e_cl_key (d := 5) h.i.x, ?_, q.2⟩
  rw [← q.1]
  exact e_mo_key (d := 5) hx hc
theorem b_wise (X : PX) : Both INVb X 131 303 [] := by
  intro b v h
  have h : INV v := h
  have q := q_wise h
  have hx : XI (cl_wise v).2 := i_cl_wise h.i.x
  have hc : CF (cl_wise v).2 := h.i.c.of (fun k a b => o_cl_wise (by omega))
  refine ⟨(cl_wise v).1, b, (cl_wise v).2, (mo_wise (cl_wise v).2).2, e_cl_wise (d := 5) h.i.x, ?_, q.2⟩
  rw [← q.1]
  exact e_mo_wise (d := 5) hx hc
theorem b_behind (X : PX) (x0 : Int) (x1 : Int) (x2 : Int) (h0 : R32 x0) (h1 : R32 x1) (h2 : R32 x2) : Both INVb X 155 304 [.inl x0, .inl x1, .inl x2] := by
  intro b v h
  have h : INV v := h
  have q := q_behind h x0 x1 x2
  have hx : XI (cl_behind v x0 x1 x2).2 := i_cl_behind h.i.x h0 h1 h2
  have hc : CF (cl_behind v x0 x1 x2).2 := h.i.c.of (fun k a b => o_cl_behind (by omega))
  refine ⟨(cl_behind v x0 x1 x2).1, b, (cl_behind v x0 x1 x2).2, (mo_behind (cl_behind v x0 x1 x2).2 x0 x1 x2).2, e_cl_behind (d := 5) h.i.x h0 h1 h2, ?_, q.2⟩
  rw [← q.1]
  exact e_mo_behind (d := 6) hx h0 h1 h2 hc
theorem b_log (X : PX) (x0 : Int) (h0 : R32 x0) : Both INVb X 161 306 [.inl x0] := by
  intro b v h
  have h : INV v := h
  have q := q_log h x0
  have hx : XI (cl_log v x0).2 := i_cl_log h.i.x h0
  have hc : CF (cl_log v x0).2 := h.i.c.of (fun k a b => o_cl_log (by omega))
  refine ⟨(cl_log v x0).1, b, (cl_log v x0).2, (mo_log (cl_log v x0).2 x0).2, e_cl_log (d := 5) h.i.x h0, ?_, q.2⟩
  rw [← q.1]
  exact e_mo_log (d := 6) hx h0 hc
theorem b_tune (X : PX) (x0 : Int) (x1 : Int) (h0 : R32 x0) (h1 : R32 x1) : Both INVb X 157 308 [.inl x0, .inl x1] := by
  intro b v h
  have h : INV v := h
  have q := q_tune h x0 x1 h0 h1
  have hx : XI (cl_tune v x0 x1).2 := i_cl_tune h.i.x h0 h1
  have hc : CF (cl_tune v x0 x1).2 := h.i.c.of (fun k a b => o_cl_tune (by omega))
  refine ⟨(cl_tune v x0 x1).1, b, (cl_tune v x0 x1).2, (mo_tune (cl_tune v x0 x1).2 x0 x1).2, e_cl_tune (d := 11) h.i.x h0 h1, ?_, q.2⟩
  rw [← q.1]
  exact e_mo_tune (d := 10) hx h0 h1 hc
theorem b_shift (X : PX) (x0 : Int) (x1 : Int) (h0 : R32 x0) (h1 : R32 x1) : Both INVb X 158 309 [.inl x0, .inl x1] := by
  intro b v h
  have h : INV v := h
  have q := q_shift h x0 x1 h0 h1
  have hx : XI (cl_shift v x0 x1).2 := i_cl_shift h.i.x h0 h1
  have hc : CF (cl_shift v x0 x1).2 := h.i.c.of (fun k a b => o_cl_shift (by omega))
  refine ⟨(cl_shift v x0 x1).1, b, (cl_shift v x0 x1).2, (mo_shift (cl_shift v x0 x1).2 x0 x1).2, e_cl_shift (d := 11) h.i.x h0 h1, ?_, q.2⟩
  rw [← q.1]
  exact e_mo_shift (d := 10) hx h0 h1 hc
theorem b_soon (X : PX) (x0 : Int) (h0 : R32 x0) : Both INVb X 160 311 [.inl x0] := by
  intro b v h
  have h : INV v := h
  have q := q_soon h x0
  have hx : XI (cl_soon v x0).2 := i_cl_soon h.i.x h0
  have hc : CF (cl_soon v x0).2 := h.i.c.of (fun k a b => o_cl_soon (by omega))
  refine ⟨(cl_soon v x0).1, b, (cl_soon v x0).2, (mo_soon (cl_soon v x0).2 x0).2, e_cl_soon (d := 6) h.i.x h0, ?_, q.2⟩
  rw [← q.1]
  exact e_mo_soon (d := 6) hx h0 hc
theorem b_hush (X : PX) (x0 : Int) (h0 : R32 x0) : Both INVb X 121 312 [.inl x0] := by
  intro b v h
  have h : INV v := h
  have q := q_hush h x0
  have hx : XI (cl_hush v x0).2 := i_cl_hush h.i.x h0
  have hc : CF (cl_hush v x0).2 := h.i.c.of (fun k a b => o_cl_hush (by omega))
  refine ⟨(cl_hush v x0).1, b, (cl_hush v x0).2, (mo_hush (cl_hush v x0).2 x0).2, e_cl_hush (d := 5) h.i.x h0, ?_, q.2⟩
  rw [← q.1]
  exact e_mo_hush (d := 6) hx h0 hc
theorem b_began (X : PX) (x0 : Int) (x1 : Int) (x2 : Int) (h0 : R32 x0) (h1 : R32 x1) (h2 : R32 x2) : Both INVb X 166 313 [.inl x0, .inl x1, .inl x2] := by
  intro b v h
  have h : INV v := h
  have q := q_began h x0 x1 x2
  have hx : XI (cl_began v x0 x1 x2).2 := i_cl_began h.i.x h0 h1 h2
  have hc : CF (cl_began v x0 x1 x2).2 := h.i.c.of (fun k a b => o_cl_began (by omega))
  refine ⟨(cl_began v x0 x1 x2).1, b, (cl_began v x0 x1 x2).2, (mo_began (cl_began v x0 x1 x2).2 x0 x1 x2).2, e_cl_began (d := 5) h.i.x h0 h1 h2, ?_, q.2⟩
  rw [← q.1]
  exact e_mo_began (d := 6) hx h0 h1 h2 hc
theorem b_first (X : PX) (x0 : Int) (x1 : Int) (x2 : Int) (x3 : Int) (h0 : R32 x0) (h1 : R32 x1) (h2 : R32 x2) (h3 : R32 x3) : Both INVb X 176 318 [.inl x0, .inl x1, .inl x2, .inl x3] := by
  intro b v h
  have h : INV v := h
  have q := q_first h x0 x1 x2 x3
  have hx : XI (cl_first v x0 x1 x2 x3).2 := i_cl_first h.i.x h0 h1 h2 h3
  have hc : CF (cl_first v x0 x1 x2 x3).2 := h.i.c.of (fun k a b => o_cl_first (by omega))
  refine ⟨(cl_first v x0 x1 x2 x3).1, b, (cl_first v x0 x1 x2 x3).2, (mo_first (cl_first v x0 x1 x2 x3).2 x0 x1 x2 x3).2, e_cl_first (d := 5) h.i.x h0 h1 h2 h3, ?_, q.2⟩
  rw [← q.1]
  exact e_mo_first (d := 6) hx h0 h1 h2 h3 hc
theorem b_sure (X : PX) (x0 : Int) (x1 : Int) (x2 : Int) (h0 : R32 x0) (h1 : R32 x1) (h2 : R32 x2) : Both INVb X 177 319 [.inl x0, .inl x1, .inl x2] := by
  intro b v h
  have h : INV v := h
  have q := q_sure h x0 x1 x2
  have hx : XI (cl_sure v x0 x1 x2).2 := i_cl_sure h.i.x h0 h1 h2
  have hc : CF (cl_sure v x0 x1 x2).2 := h.i.c.of (fun k a b => o_cl_sure (by omega))
  refine ⟨(cl_sure v x0 x1 x2).1, b, (cl_sure v x0 x1 x2).2, (mo_sure (cl_sure v x0 x1 x2).2 x0 x1 x2).2, e_cl_sure (d := 5) h.i.x h0 h1 h2, ?_, q.2⟩
  rw [← q.1]
  exact e_mo_sure (d := 6) hx h0 h1 h2 hc
theorem b_odd (X : PX) (x0 : Int) (h0 : R32 x0) : Both INVb X 178 320 [.inl x0] := by
  intro b v h
  have h : INV v := h
  have q := q_odd h x0
  have hx : XI (cl_odd v x0).2 := i_cl_odd h.i.x h0
  have hc : CF (cl_odd v x0).2 := h.i.c.of (fun k a b => o_cl_odd (by omega))
  refine ⟨(cl_odd v x0).1, b, (cl_odd v x0).2, (mo_odd (cl_odd v x0).2 x0).2, e_cl_odd (d := 5) h.i.x h0, ?_, q.2⟩
  rw [← q.1]
  exact e_mo_odd (d := 6) hx h0 hc
theorem b_drawn (X : PX) (x0 : Int) (x1 : Int) (x2 : Int) (h0 : R32 x0) (h1 : R32 x1) (h2 : R32 x2) : Both INVb X 179 321 [.inl x0, .inl x1, .inl x2] := by
  intro b v h
  have h : INV v := h
  have q := q_drawn h x0 x1 x2
  have hx : XI (cl_drawn v x0 x1 x2).2 := i_cl_drawn h.i.x h0 h1 h2
  have hc : CF (cl_drawn v x0 x1 x2).2 := h.i.c.of (fun k a b => o_cl_drawn (by omega))
  refine ⟨(cl_drawn v x0 x1 x2).1, b, (cl_drawn v x0 x1 x2).2, (mo_drawn (cl_drawn v x0 x1 x2).2 x0 x1 x2).2, e_cl_drawn (d := 5) h.i.x h0 h1 h2, ?_, q.2⟩
  rw [← q.1]
  exact e_mo_drawn (d := 6) hx h0 h1 h2 hc mna
theorem b_chance (X : PX) (x0 : Int) (x1 : Int) (x2 : Int) (x3 : Int) (x4 : Int) (h0 : R32 x0) (h1 : R32 x1) (h2 : R32 x2) (h3 : R32 x3) (h4 : R32 x4) : Both INVb X 183 324 [.inl x0, .inl x1, .inl x2, .inl x3, .inl x4] := by
  intro b v h
  have h : INV v := h
  have q := q_chance h x0 x1 x2 x3 x4
  have hx : XI (cl_chance v x0 x1 x2 x3 x4).2 := i_cl_chance h.i.x h0 h1 h2 h3 h4
  have hc : CF (cl_chance v x0 x1 x2 x3 x4).2 := h.i.c.of (fun k a b => o_cl_chance (by omega))
  refine ⟨(cl_chance v x0 x1 x2 x3 x4).1, b, (cl_chance v x0 x1 x2 x3 x4).2, (mo_chance (cl_chance v x0 x1 x2 x3 x4).2 x0 x1 x2 x3 x4).2, e_cl_chance (d := 5) h.i.x h0 h1 h2 h3 h4, ?_, q.2⟩
  rw [← q.1]
  exact e_mo_chance (d := 6) hx h0 h1 h2 h3 h4 hc
theorem b_bets (X : PX) (x0 : Int) (h0 : R32 x0) : Both INVb X 184 325 [.inl x0] := by
  intro b v h
  have h : INV v := h
  have q := q_bets h x0
  have hx : XI (cl_bets v x0).2 := i_cl_bets h.i.x h0
  have hc : CF (cl_bets v x0).2 := h.i.c.of (fun k a b => o_cl_bets (by omega))
  refine ⟨(cl_bets v x0).1, b, (cl_bets v x0).2, (mo_bets (cl_bets v x0).2 x0).2, e_cl_bets (d := 4) h.i.x h0, ?_, q.2⟩
  rw [← q.1]
  exact e_mo_bets (d := 6) hx h0 hc
theorem b_count (X : PX) (x0 : Int) (h0 : R32 x0) : Both INVb X 188 326 [.inl x0] := by
  intro b v h
  have h : INV v := h
  have q := q_count h x0
  have hx := h.i.x
  refine ⟨cl_count v x0, b, v, (mo_count v x0).2, e_cl_count (d := 11) h.i.x h0, ?_, q.2⟩
  rw [← q.1]
  exact e_mo_count (d := 12) hx h0
theorem b_keep (X : PX) (x0 : Int) (h0 : R32 x0) : Both INVb X 190 327 [.inl x0] := by
  intro b v h
  have h : INV v := h
  have q := q_keep h x0 h0
  have hx : XI (cl_keep v x0).2 := i_cl_keep h.i.x h0
  have hc : CF (cl_keep v x0).2 := h.i.c.of (fun k a b => o_cl_keep (by omega))
  refine ⟨(cl_keep v x0).1, b, (cl_keep v x0).2, (mo_keep (cl_keep v x0).2 x0).2, e_cl_keep (d := 10) h.i.x h0, ?_, q.2⟩
  rw [← q.1]
  exact e_mo_keep (d := 10) hx h0 hc
theorem b_back (X : PX) (x0 : Int) (h0 : R32 x0) : Both INVb X 191 328 [.inl x0] := by
  intro b v h
  have h : INV v := h
  have q := q_back h x0 h0
  have hx : XI (cl_back v x0).2 := i_cl_back h.i.x h0
  have hc : CF (cl_back v x0).2 := h.i.c.of (fun k a b => o_cl_back (by omega))
  refine ⟨(cl_back v x0).1, b, (cl_back v x0).2, (mo_back (cl_back v x0).2 x0).2, e_cl_back (d := 8) h.i.x h0, ?_, q.2⟩
  rw [← q.1]
  exact e_mo_back (d := 10) hx h0 hc
theorem b_row (X : PX) (x0 : Int) (x1 : Int) (x2 : Int) (h0 : R32 x0) (h1 : R32 x1) (h2 : R32 x2) : Both INVb X 192 200 [.inl x0, .inl x1, .inl x2] := by
  intro b v h
  have h : INV v := h
  have q := q_row h x0 x1 x2 h0 h1 h2
  have hx : XI (cl_row v x0 x1 x2).2 := i_cl_row h.i.x h0 h1 h2
  refine ⟨(cl_row v x0 x1 x2).1, b, (cl_row v x0 x1 x2).2, (mo_row (cl_row v x0 x1 x2).2 x0 x1 x2).2, e_cl_row (d := 10) h.i.x h0 h1 h2, ?_, q.2⟩
  rw [← q.1]
  exact e_mo_row (d := 10) hx h0 h1 h2
theorem b_write (X : PX) (x0 : Int) (x1 : Int) (x2 : Int) (h0 : R32 x0) (h1 : R32 x1) (h2 : R64 x2) : Both INVb X 195 203 [.inl x0, .inl x1, .inr (.inl x2)] := by
  intro b v h
  have h : INV v := h
  have q := q_write h x0 x1 x2 h0 h1 h2
  have hx : XI (cl_write v x0 x1 x2).2 := i_cl_write h.i.x h0 h1 h2
  refine ⟨(cl_write v x0 x1 x2).1, b, (cl_write v x0 x1 x2).2, (mo_write (cl_write v x0 x1 x2).2 x0 x1 x2).2, e_cl_write (d := 11) h.i.x h0 h1 h2, ?_, q.2⟩
  rw [← q.1]
  exact e_mo_write (d := 10) hx h0 h1 h2
theorem b_paste (X : PX) (x0 : Int) (x1 : Int) (x2 : Int) (x3 : Int) (x4 : Int) (h0 : R32 x0) (h1 : R32 x1) (h2 : R32 x2) (h3 : R32 x3) (h4 : R32 x4) : Both INVb X 197 205 [.inl x0, .inl x1, .inl x2, .inl x3, .inl x4] := by
  intro b v h
  have h : INV v := h
  have q := q_paste h x0 x1 x2 x3 x4 h0 h1 h2 h3 h4
  have hx : XI (cl_paste v x0 x1 x2 x3 x4).2 := i_cl_paste h.i.x h0 h1 h2 h3 h4
  refine ⟨(cl_paste v x0 x1 x2 x3 x4).1, b, (cl_paste v x0 x1 x2 x3 x4).2, (mo_paste (cl_paste v x0 x1 x2 x3 x4).2 x0 x1 x2 x3 x4).2, e_cl_paste (d := 11) h.i.x h0 h1 h2 h3 h4, ?_, q.2⟩
  rw [← q.1]
  exact e_mo_paste (d := 10) hx h0 h1 h2 h3 h4
theorem steps (X : PX) : Steps INVb X := by
  intro k q hq a b c d e ha hb hc hd he
  cases k with
  | zero => cases hq; exact b_feed X a b c d e ha hb hc hd he
  | succ k =>
  cases k with
  | zero => cases hq; exact b_end X a ha
  | succ k =>
  cases k with
  | zero => cases hq; exact b_bay X 
  | succ k =>
  cases k with
  | zero => cases hq; exact b_fault X a ha
  | succ k =>
  cases k with
  | zero => cases hq; exact b_church X a b ha hb
  | succ k =>
  cases k with
  | zero => cases hq; exact b_ear X a b ha hb
  | succ k =>
  cases k with
  | zero => cases hq; exact b_takes X a b ha hb
  | succ k =>
  cases k with
  | zero => cases hq; exact b_strikes X 
  | succ k =>
  cases k with
  | zero => cases hq; exact b_strike X a b ha hb
  | succ k =>
  cases k with
  | zero => cases hq; exact b_lost X a ha
  | succ k =>
  cases k with
  | zero => cases hq; exact b_hour X a b ha hb
  | succ k =>
  cases k with
  | zero => cases hq; exact b_many X a ha
  | succ k =>
  cases k with
  | zero => cases hq; exact b_when X a b ha hb
  | succ k =>
  cases k with
  | zero => cases hq; exact b_led X a b ha hb
  | succ k =>
  cases k with
  | zero => cases hq; exact b_agree X a ha
  | succ k =>
  cases k with
  | zero => cases hq; exact b_noon X a b ha hb
  | succ k =>
  cases k with
  | zero => cases hq; exact b_ship X a b c ha hb hc
  | succ k =>
  cases k with
  | zero => cases hq; exact b_quiet X 
  | succ k =>
  cases k with
  | zero => cases hq; exact b_muffle X a b ha hb
  | succ k =>
  cases k with
  | zero => cases hq; exact b_cut X a b ha hb
  | succ k =>
  cases k with
  | zero => cases hq; exact b_night X a b ha hb
  | succ k =>
  cases k with
  | zero => cases hq; exact b_spare X a b ha hb
  | succ k =>
  cases k with
  | zero => cases hq; exact b_needs X a ha
  | succ k =>
  cases k with
  | zero => cases hq; exact b_harm X a ha
  | succ k =>
  cases k with
  | zero => cases hq; exact b_pan X a b c ha hb hc
  | succ k =>
  cases k with
  | zero => cases hq; exact b_boy X a b ha hb
  | succ k =>
  cases k with
  | zero => cases hq; exact b_gain X a ha
  | succ k =>
  cases k with
  | zero => cases hq; exact b_passes X a b ha hb
  | succ k =>
  cases k with
  | zero => cases hq; exact b_wave X a ha
  | succ k =>
  cases k with
  | zero => cases hq; exact b_depth X a ha
  | succ k =>
  cases k with
  | zero => cases hq; exact b_source X a ha
  | succ k =>
  cases k with
  | zero => cases hq; exact b_lap X a ha
  | succ k =>
  cases k with
  | zero => cases hq; exact b_gap X a ha
  | succ k =>
  cases k with
  | zero => cases hq; exact b_waits X a b ha hb
  | succ k =>
  cases k with
  | zero => cases hq; exact b_rank X a ha
  | succ k =>
  cases k with
  | zero => cases hq; exact b_common X a ha
  | succ k =>
  cases k with
  | zero => cases hq; exact b_strayed X a ha
  | succ k =>
  cases k with
  | zero => cases hq; exact b_splits X 
  | succ k =>
  cases k with
  | zero => cases hq; exact b_silence X a ha
  | succ k =>
  cases k with
  | zero => cases hq; exact b_spread X a ha
  | succ k =>
  cases k with
  | zero => cases hq; exact b_without X a ha
  | succ k =>
  cases k with
  | zero => cases hq; exact b_unheard X a ha
  | succ k =>
  cases k with
  | zero => cases hq; exact b_key X 
  | succ k =>
  cases k with
  | zero => cases hq; exact b_wise X 
  | succ k =>
  cases k with
  | zero => cases hq; exact b_behind X a b c ha hb hc
  | succ k =>
  cases k with
  | zero => cases hq; exact b_log X a ha
  | succ k =>
  cases k with
  | zero => cases hq; exact b_tune X a b ha hb
  | succ k =>
  cases k with
  | zero => cases hq; exact b_shift X a b ha hb
  | succ k =>
  cases k with
  | zero => cases hq; exact b_soon X a ha
  | succ k =>
  cases k with
  | zero => cases hq; exact b_hush X a ha
  | succ k =>
  cases k with
  | zero => cases hq; exact b_began X a b c ha hb hc
  | succ k =>
  cases k with
  | zero => cases hq; exact b_first X a b c d ha hb hc hd
  | succ k =>
  cases k with
  | zero => cases hq; exact b_sure X a b c ha hb hc
  | succ k =>
  cases k with
  | zero => cases hq; exact b_odd X a ha
  | succ k =>
  cases k with
  | zero => cases hq; exact b_drawn X a b c ha hb hc
  | succ k =>
  cases k with
  | zero => cases hq; exact b_chance X a b c d e ha hb hc hd he
  | succ k =>
  cases k with
  | zero => cases hq; exact b_bets X a ha
  | succ k =>
  cases k with
  | zero => cases hq; exact b_count X a ha
  | succ k =>
  cases k with
  | zero => cases hq; exact b_keep X a ha
  | succ k =>
  cases k with
  | zero => cases hq; exact b_back X a ha
  | succ k =>
  cases k with
  | zero => cases hq; exact b_row X a b c ha hb hc
  | succ k =>
  cases k with
  | zero => cases hq; exact b_write X a b _ ha hb (R64_lor _ _)
  | succ k =>
  cases k with
  | zero => cases hq; exact b_paste X a b c d e ha hb hc hd he
  | succ k =>
  cases hq
