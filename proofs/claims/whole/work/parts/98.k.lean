
theorem isOver_at (b : VS) : (mo_isOver b) 203 6 = 0 ∧ (mo_isOver b) 203 14 = b 203 12 ∧ (mo_isOver b) 203 15 = (if b 203 12 = 0 then -1 else b 203 13) := by
  unfold mo_isOver
  by_cases z : b 203 12 = 0
  · rw [if_pos z, if_pos z]
    simp [v2_eq]
  · rw [if_neg z, if_neg z]
    simp [v2_eq]
theorem bay_dead {v W : VS} (h : INV v) (hx : XI W) (hc : CF W) (w0 : ∀ j, W 0 j = if j = 1 then 0 else v 0 j) (wk : ∀ k, k = 1 ∨ (31 < k ∧ k < 203) ∨ (204 ≤ k ∧ k ≤ 208) ∨ k = 218 → W k = v k) (f6 : W 203 6 = 0) (f : W 2 1 = W 203 14) (p : W 2 2 = W 203 15) (m : ∀ r : Nat, r ≤ 3 → RCB r r W v) : INV W := by
  have t33 : BT 33 v := h.i.x.bt (by omega)
  have c33 : CPB 33 33 W v := CPB.refl (fun j a b => wk j (by omega))
  have eT : tP W = tP v := tP_of (fun k a b => wk k (by omega))
  refine ⟨⟨hx, hc, ?_, ⟨by rw [w0, if_pos rfl, f6], fun j hj => ?_, f, p⟩, h.i.s.of (fun j a b => wk j (by omega)) (fun j a b => wk j (by omega)), h.i.i.of3 h.i.x (by rw [w0, if_neg (by omega)]) (fun j a b => wk j (by omega)) (wk 218 (by omega)) (fun r _ r2 => m r r2), h.i.b.cp t33 c33 (m 0 (by omega)), h.i.g.cp t33 c33⟩, h.a.of (fun k a b => wk k (by omega)), fun g => ?_⟩
  · have := h.i.z
    unfold WZ at *
    rw [wk 73 (by omega), wk 74 (by omega)]
    exact this
  · rw [w0, if_pos rfl] at hj; omega
  · rw [w0, if_neg (by omega)] at g
    obtain ⟨g1, g2⟩ := h.r g
    rw [eT]
    refine ⟨g1.of (fun k a b => wk k (by omega)) rfl, fun c t hc ht => ?_⟩
    rw [wk 33 (by omega)] at hc ht
    rw [wk 105 (by omega)]
    exact g2.c c t hc ht
theorem bay_live {v W : VS} (h : INV v) (hx : XI W) (hc : CF W) (w0 : ∀ j, W 0 j = if j = 10 then 1 else if j = 1 then 0 else v 0 j) (wk : ∀ k, k = 1 ∨ (67 ≤ k ∧ k < 203) ∨ (204 ≤ k ∧ k ≤ 208) ∨ k = 218 → W k = v k) (f6 : W 203 6 = 0) (f : W 2 1 = W 203 14) (p : W 2 2 = W 203 15) (m : ∀ r : Nat, 1 ≤ r → r ≤ 3 → RCB r r W v) (b : BQ 33 0 W) (g : VB 33 W) (a : AIR W) : INV W := by
  refine ⟨⟨hx, hc, ?_, ⟨by rw [w0, if_neg (by omega), if_pos rfl, f6], fun j hj => ?_, f, p⟩, h.i.s.of (fun j a b => wk j (by omega)) (fun j a b => wk j (by omega)), h.i.i.of3 h.i.x (by rw [w0, if_neg (by omega), if_neg (by omega)]) (fun j a b => wk j (by omega)) (wk 218 (by omega)) m, b, g⟩, a, fun z => ?_⟩
  · have := h.i.z
    unfold WZ at *
    rw [wk 73 (by omega), wk 74 (by omega)]
    exact this
  · rw [w0, if_neg (by omega), if_pos rfl] at hj; omega
  · rw [w0, if_pos rfl] at z; omega
/-- the class's draft beside what the reference has read -/
def mixs (a b : VS) : VS := fun k => if k < 203 then a k else b k
theorem mixs_lo {a b : VS} {k : Nat} (h : k < 203) : mixs a b k = a k := if_pos h
theorem mixs_hi {a b : VS} {k : Nat} (h : ¬ k < 203) : mixs a b k = b k := if_neg h
theorem dq_bq {a b : VS} (d : DQ a b) : BQ 3 4 (mixs a b) ∧ VB 3 (mixs a b) ∧ BT 3 (mixs a b) := by
  have l : ∀ k, k < 203 → mixs a b k = a k := fun k hk => mixs_lo hk
  have g : ∀ k, ¬ k < 203 → mixs a b k = b k := fun k hk => mixs_hi hk
  have e3 := l 3 (by omega)
  have e4 := l 4 (by omega)
  have e5 := l 5 (by omega)
  have e6 := l 6 (by omega)
  have e7 := l 7 (by omega)
  have e8 := l 8 (by omega)
  have e9 := l 9 (by omega)
  have e10 := l 10 (by omega)
  have e11 := l 11 (by omega)
  have e12 := l 12 (by omega)
  have e13 := l 13 (by omega)
  have e14 := l 14 (by omega)
  have e15 := l 15 (by omega)
  have e16 := l 16 (by omega)
  have e17 := l 17 (by omega)
  have e18 := l 18 (by omega)
  have e20 := l 20 (by omega)
  have e21 := l 21 (by omega)
  have e22 := l 22 (by omega)
  have e23 := l 23 (by omega)
  have e24 := l 24 (by omega)
  have e25 := l 25 (by omega)
  have e26 := l 26 (by omega)
  have e27 := l 27 (by omega)
  have e28 := l 28 (by omega)
  have e29 := l 29 (by omega)
  have e30 := l 30 (by omega)
  have e31 := l 31 (by omega)
  have g9 := g 209 (by omega)
  have g10 := g 210 (by omega)
  have g11 := g 211 (by omega)
  have g12 := g 212 (by omega)
  have g13 := g 213 (by omega)
  have g14 := g 214 (by omega)
  have g15 := g 215 (by omega)
  have g16 := g 216 (by omega)
  have g17 := g 217 (by omega)
  refine ⟨⟨?_, ?_, ?_, ?_, ?_, ?_, fun c hc => ?_, ?_, fun e he => ?_, ?_, fun e he => ?_, ?_, fun e he => ?_, ?_, fun e he => ?_, ?_, fun e he => ?_, ?_, fun e he => ?_⟩, ⟨?_, ?_, fun e he => ?_, fun e he => ?_, fun e he => ?_, fun e he => ?_, fun e he => ?_⟩, ?_⟩
  · show mixs a b 3 0 = mixs a b 210 44; rw [e3, g10]; exact d.C.1
  · show mixs a b 3 1 = mixs a b 210 45; rw [e3, g10]; exact d.S.1
  · show mixs a b 3 2 = mixs a b 209 4; rw [e3, g9]; exact d.L
  · show mixs a b 3 3 = mixs a b 210 46; rw [e3, g10]; exact d.D.1
  · show mixs a b 3 4 = mixs a b 210 53; rw [e3, g10]; exact d.M
  · show mixs a b 3 5 = mixs a b 210 54; rw [e3, g10]; exact d.X
  · show mixs a b 4 c = mixs a b 211 (108 + 3 * c) ∧ mixs a b 5 c = mixs a b 211 (108 + 3 * c + 1) ∧ mixs a b 6 c = mixs a b 211 (108 + 3 * c + 2)
    rw [e4, e5, e6, g11]; exact d.ch c hc
  · show mixs a b 7 0 = mixs a b 210 47; rw [e7, g10]; exact d.E.1
  · have he : (e : Int) < mixs a b 7 0 := he
    rw [e7] at he
    show mixs a b 8 e = mixs a b 212 (192 + 4 * e) ∧ mixs a b 9 e = mixs a b 212 (192 + 4 * e + 1) ∧ mixs a b 10 e = mixs a b 212 (192 + 4 * e + 2) ∧ mixs a b 11 e = mixs a b 212 (192 + 4 * e + 3)
    rw [e8, e9, e10, e11, g12]; exact (d.ea e he).1
  · show mixs a b 12 0 = mixs a b 210 48; rw [e12, g10]; exact d.T.1
  · have he : (e : Int) < mixs a b 12 0 := he
    rw [e12] at he
    show mixs a b 13 e = mixs a b 213 (60 + 3 * e) ∧ mixs a b 14 e = mixs a b 213 (60 + 3 * e + 1) ∧ mixs a b 15 e = mixs a b 213 (60 + 3 * e + 2)
    rw [e13, e14, e15, g13]; exact (d.st e he).1
  · show mixs a b 16 0 = mixs a b 210 49; rw [e16, g10]; exact d.W.1
  · have he : (e : Int) < mixs a b 16 0 := he
    rw [e16] at he
    show mixs a b 17 e = mixs a b 214 (48 + 2 * e + 1) ∧ mixs a b 18 e = mixs a b 214 (48 + 2 * e)
    rw [e17, e18, g14]; exact d.wi e he
  · show mixs a b 20 0 = mixs a b 210 50; rw [e20, g10]; exact d.F.1
  · have he : (e : Int) < mixs a b 20 0 := he
    rw [e20] at he
    show mixs a b 21 e = mixs a b 215 (72 + 3 * e) ∧ mixs a b 22 e = mixs a b 215 (72 + 3 * e + 1) ∧ mixs a b 23 e = mixs a b 215 (72 + 3 * e + 2)
    rw [e21, e22, e23, g15]; exact (d.fo e he).1
  · show mixs a b 24 0 = mixs a b 210 51; rw [e24, g10]; exact d.G.1
  · have he : (e : Int) < mixs a b 24 0 := he
    rw [e24] at he
    show mixs a b 25 e = mixs a b 216 (72 + 3 * e) ∧ mixs a b 26 e = mixs a b 216 (72 + 3 * e + 1) ∧ mixs a b 27 e = mixs a b 216 (72 + 3 * e + 2)
    rw [e25, e26, e27, g16]; exact (d.de e he).1
  · show mixs a b 28 0 = mixs a b 210 52; rw [e28, g10]; exact d.H.1
  · have he : (e : Int) < mixs a b 28 0 := he
    rw [e28] at he
    show mixs a b 29 e = mixs a b 217 (72 + 3 * e) ∧ mixs a b 30 e = mixs a b 217 (72 + 3 * e + 1) ∧ mixs a b 31 e = mixs a b 217 (72 + 3 * e + 2)
    rw [e29, e30, e31, g17]; exact (d.fu e he).1
  · rw [e3]; exact d.ps
  · show mixs a b 3 2 = 0 → mixs a b 3 0 = 0 ∧ mixs a b 3 1 = 0 ∧ mixs a b 7 0 = 0 ∧ mixs a b 12 0 = 0
    rw [e3, e7, e12]
    intro z
    obtain ⟨n1, n2, _, n4, n5, _⟩ := d.nl z
    exact ⟨n1, n2, n4, n5⟩
  · have he : (e : Int) < mixs a b 7 0 := he
    rw [e7] at he
    show mixs a b 8 e < mixs a b 3 0 ∧ mixs a b 9 e < mixs a b 3 0 ∧ 1 ≤ mixs a b 10 e
    rw [e8, e9, e10, e3]; exact (d.ea e he).2
  · have he : (e : Int) < mixs a b 12 0 := he
    rw [e12] at he
    show mixs a b 13 e < mixs a b 3 0 ∧ mixs a b 14 e < mixs a b 3 1 ∧ 1 ≤ mixs a b 15 e
    rw [e13, e14, e15, e3]; exact (d.st e he).2
  · have he : (e : Int) < mixs a b 20 0 := he
    rw [e20] at he
    show mixs a b 21 e < mixs a b 7 0 ∧ mixs a b 23 e < mixs a b 3 1
    rw [e21, e23, e7, e3]; exact (d.fo e he).2
  · have he : (e : Int) < mixs a b 24 0 := he
    rw [e24] at he
    show mixs a b 25 e < mixs a b 3 0 ∧ mixs a b 27 e < mixs a b 3 1
    rw [e25, e27, e3]; exact (d.de e he).2
  · have he : (e : Int) < mixs a b 28 0 := he
    rw [e28] at he
    show mixs a b 29 e < mixs a b 3 0 ∧ mixs a b 31 e < mixs a b 3 1
    rw [e29, e31, e3]; exact (d.fu e he).2
  · have := d.E
    have := d.T
    have := d.W
    have := d.F
    have := d.G
    have := d.H
    show mixs a b 7 0 ≤ 12 ∧ mixs a b 12 0 ≤ 5 ∧ mixs a b 16 0 ≤ 6 ∧ mixs a b 20 0 ≤ 6 ∧ mixs a b 24 0 ≤ 6 ∧ mixs a b 28 0 ≤ 6
    rw [e7, e12, e16, e20, e24, e28]
    omega
theorem q_bay {v : VS} (h : INV v) : (mo_bay (cl_bay v).2).1 = (cl_bay v).1 ∧ INV (mo_bay (cl_bay v).2).2 := by
  have hx1 := i_cl_bay h.i.x
  have hc1 : CF (cl_bay v).2 := h.i.c.of (fun k a b => o_cl_bay (by omega))
  have hx := i_mo_bay hx1 hc1
  have hc := n_mo_bay hx1 hc1
  have hb : 0 ≤ v 0 1 ∧ v 0 1 ≤ 2000 := h.i.x 0 1
  have W3 : ∀ k, 203 ≤ k → (cl_bay v).2 k = v k := fun k hk => o_cl_bay (by omega)
  have ow : ∀ k, k < 203 → (mo_bay (cl_bay v).2).2 k = (cl_bay v).2 k := fun k hk => o_mo_bay (by omega)
  obtain ⟨n, a', b', e1, e2, r, fr, d⟩ := bay_core h W3
  have hxa : XI a' := by
    have := i_cl_read h.i.x hb
    rw [e1] at this
    exact this
  have ra : ∀ k, k < 2 ∨ 31 < k → a' k = v k := fun k hk => by
    have := o_cl_read (v := v) (n := v 0 1) hk
    rw [e1] at this
    exact this
  have hxu : XI (v2 a' 0 1 0) := XI.put hxa (show (0 : Int) ≤ 0 ∧ (0 : Int) ≤ 2000 by omega)
  obtain ⟨p6, p14, p15⟩ := isOver_at b'
  by_cases al : a' 2 1 = 0
  · have bl : b' 203 12 = 0 := by rw [← r.f]; exact al
    have ec : cl_bay v = ((v2 (cl_blow (cpy (v2 a' 0 1 0) 3 33)) 0 10 1) 33 2, v2 (cl_blow (cpy (v2 a' 0 1 0) 3 33)) 0 10 1) := by
      unfold cl_bay
      rw [e1, if_pos al]
      rfl
    have hxs : XI (cpy (v2 a' 0 1 0) 3 33) := i_cl_copy33_3 hxu
    rw [if_pos bl] at e2
    rw [if_pos bl] at p15
    obtain ⟨q1, q2, q3⟩ := dq_bq (d al)
    rw [e2] at hx hc ow ⊢
    dsimp only at hx hc ow ⊢
    have o9 : ∀ k, k < 209 ∨ 217 < k → (mo_copyBay (mo_isOver b') 4 0) k = (mo_isOver b') k := fun k hk => o_mo_copyBay hk
    obtain ⟨m0, m9, m10, m11, m12, m13, m14, m15, m16, m17⟩ := copyBay_ok (v := mo_isOver b') (i := 4) (o := 0) (by omega)
    have e0' : ((0 : Nat) : Int) = 0 := rfl
    have e4' : ((4 : Nat) : Int) = 4 := rfl
    rw [e0', e4'] at m0 m9 m10 m11 m12 m13 m14 m15 m16 m17
    have ob : ∀ k, k ≠ 203 → (mo_isOver b') k = b' k := fun k hk => o_mo_isOver (by omega)
    rw [ec] at ow fr ⊢
    dsimp only at ow fr ⊢
    have W3' : ∀ k, 203 ≤ k → (v2 (cl_blow (cpy (v2 a' 0 1 0) 3 33)) 0 10 1) k = v k := fun k hk => by rw [v2_row (by omega), o_cl_blow (by omega), cpy_row (by omega), v2_row (by omega), ra k (by omega)]
    have rc : ∀ r : Nat, 1 ≤ r → r ≤ 3 → RCB r r (mo_copyBay (mo_isOver b') 4 0) v := fun r r1 r2 => by
      obtain ⟨k9, k10, k11, k12, k13, k14, k15, k16, k17⟩ := fr.rcb (v := v) (fun k k1 k2 => W3' k (by omega)) (r := r) (by omega)
      refine ⟨?_, fun i hi => ?_, fun i hi => ?_, fun i hi => ?_, fun i hi => ?_, fun i hi => ?_, fun i hi => ?_, fun i hi => ?_, fun i hi => ?_⟩
      · rw [m9 r (by omega), ob 209 (by omega)]; exact k9
      · rw [m10 _ (by omega), ob 210 (by omega)]; exact k10 i hi
      · rw [m11 _ (by omega), ob 211 (by omega)]; exact k11 i hi
      · rw [m12 _ (by omega), ob 212 (by omega)]; exact k12 i hi
      · rw [m13 _ (by omega), ob 213 (by omega)]; exact k13 i hi
      · rw [m14 _ (by omega), ob 214 (by omega)]; exact k14 i hi
      · rw [m15 _ (by omega), ob 215 (by omega)]; exact k15 i hi
      · rw [m16 _ (by omega), ob 216 (by omega)]; exact k16 i hi
      · rw [m17 _ (by omega), ob 217 (by omega)]; exact k17 i hi
    have cp : CPB 33 3 (mo_copyBay (mo_isOver b') 4 0) (mixs a' b') := by
      intro e i hd hi
      rw [ow (33 + e) (by omega), v2_row (by omega), o_cl_blow (by omega), mixs_lo (by omega)]
      have := cpy_ok (v := v2 a' 0 1 0) (p := 3) (q := 33) (by omega) e i hd hi
      rw [this, v2_row (by omega)]
    have new : RCB 0 4 (mo_copyBay (mo_isOver b') 4 0) (mixs a' b') := by
      obtain ⟨n9, n10, n11, n12, n13, n14, n15, n16, n17⟩ := m0
      have X : ∀ k, 209 ≤ k → (mo_isOver b') k = mixs a' b' k := fun k hk => by rw [mixs_hi (by omega), ob k (by omega)]
      rw [X 209 (by omega)] at n9
      rw [X 210 (by omega)] at n10
      rw [X 211 (by omega)] at n11
      rw [X 212 (by omega)] at n12
      rw [X 213 (by omega)] at n13
      rw [X 214 (by omega)] at n14
      rw [X 215 (by omega)] at n15
      rw [X 216 (by omega)] at n16
      rw [X 217 (by omega)] at n17
      exact ⟨n9, n10, n11, n12, n13, n14, n15, n16, n17⟩
    have bq := q1.cp q3 cp new
    refine ⟨?_, bay_live h hx hc (fun j => ?_) (fun k hk => ?_) (by rw [o9 203 (by omega), p6]) ?_ ?_ rc bq (q2.cp q3 cp) ((AIR.blow hxs).of (fun k k1 k2 => by rw [ow k (by omega), v2_row (by omega)]))⟩
    · rw [← ow 33 (by omega)]
      exact bq.L.symm
    · rw [ow 0 (by omega), v2_eq]
      by_cases z : j = 10
      · rw [if_pos ⟨rfl, z⟩, if_pos z]
      · rw [if_neg (fun g => z g.2), if_neg z, o_cl_blow (by omega), cpy_row (by omega), v2_eq]
        by_cases y : j = 1
        · rw [if_pos ⟨rfl, y⟩, if_pos y]
        · rw [if_neg (fun g => y g.2), if_neg y, ra 0 (by omega)]
    · by_cases z : k < 203
      · rw [ow k z, v2_row (by omega), o_cl_blow (by omega), cpy_row (by omega), v2_row (by omega), ra k (by omega)]
      · rw [o9 k (by omega), ob k (by omega), fr.o k (by omega), W3' k (by omega)]
    · rw [ow 2 (by omega), v2_row (by omega), o_cl_blow (by omega), cpy_row (by omega), v2_row (by omega), o9 203 (by omega), p14]; exact r.f
    · rw [ow 2 (by omega), v2_row (by omega), o_cl_blow (by omega), cpy_row (by omega), v2_row (by omega), o9 203 (by omega), p15]; exact r.z al
  · have bl : b' 203 12 ≠ 0 := by rw [← r.f]; exact al
    have ec : cl_bay v = (-4, v2 a' 0 1 0) := by
      unfold cl_bay
      rw [e1, if_neg al]
      rfl
    rw [if_neg bl] at e2
    rw [if_neg bl] at p15
    have ob : ∀ k, k ≠ 203 → (mo_isOver b') k = b' k := fun k hk => o_mo_isOver (by omega)
    rw [e2] at hx hc ow ⊢
    dsimp only at hx hc ow ⊢
    rw [ec] at ow fr ⊢
    dsimp only at ow fr ⊢
    have W3' : ∀ k, 203 ≤ k → (v2 a' 0 1 0) k = v k := fun k hk => by rw [v2_row (by omega), ra k (by omega)]
    refine ⟨rfl, bay_dead h hx hc (fun j => ?_) (fun k hk => ?_) p6 ?_ ?_ (fun r hr => ?_)⟩
    · rw [ow 0 (by omega), v2_eq]
      by_cases y : j = 1
      · rw [if_pos ⟨rfl, y⟩, if_pos y]
      · rw [if_neg (fun g => y g.2), if_neg y, ra 0 (by omega)]
    · by_cases z : k < 203
      · rw [ow k z, v2_row (by omega), ra k (by omega)]
      · rw [ob k (by omega), fr.o k (by omega), W3' k (by omega)]
    · rw [ow 2 (by omega), v2_row (by omega), p14]; exact r.f
    · rw [ow 2 (by omega), v2_row (by omega), p15]; exact r.p al
    · have q := fr.rcb (v := v) (fun k k1 k2 => W3' k (by omega)) hr
      unfold RCB at *
      rw [ob 209 (by omega), ob 210 (by omega), ob 211 (by omega), ob 212 (by omega), ob 213 (by omega), ob 214 (by omega), ob 215 (by omega), ob 216 (by omega), ob 217 (by omega)]
      exact q
