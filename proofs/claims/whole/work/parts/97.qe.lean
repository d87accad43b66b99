/-! runs of a trial -/
theorem INV.trial {v w : VS} (h : INV v) (hx : XI w) (hz : WZ w) (e : ∀ k, k < 67 ∨ 104 < k ∨ (79 ≤ k ∧ k ≤ 90) → w k = v k) : INV w := by
  have eT : tP w = tP v := tP_of (fun k a b => e k (by omega))
  refine ⟨⟨hx, h.i.c.of (fun k a b => e k (by omega)), hz, h.i.t.of (by rw [e 0 (by omega)]) (e 1 (by omega)) (e 2 (by omega)) (e 208 (by omega)) (by rw [e 203 (by omega)]) (by rw [e 203 (by omega)]) (by rw [e 203 (by omega)]), h.i.s.of (fun j a b => e j (by omega)) (fun j a b => e j (by omega)), h.i.i.of (by rw [e 0 (by omega)]) (fun j a b => e j (by omega)) (fun j a b => e j (by omega)), h.i.b.of (fun j a b => e j (by omega)) (fun j a b => e j (by omega)), h.i.g.of (fun j a b => e j (by omega))⟩, h.a.of (fun k a b => e k (by omega)), fun g => ?_⟩
  rw [e 0 (by omega)] at g
  obtain ⟨g1, g2⟩ := h.r g
  rw [eT]
  refine ⟨g1.of (fun k a b => e k (by omega)) rfl, fun c t hc ht => ?_⟩
  rw [e 33 (by omega)] at hc ht
  rw [e 105 (by omega)]
  exact g2.c c t hc ht
/-- the class plays what is supposed -/
theorem INV.play {s p : VS} (h : INV s) (e : ∀ k, k < 67 ∨ 72 < k → p k = s k) (hs : SG p) : INV (xplay 91 p) ∧ RA 91 (arun (cP p)) (xplay 91 p) ∧ (∀ k, k < 67 ∨ (78 < k ∧ k < 91) ∨ 102 < k → xplay 91 p k = s k) := by
  have hz : WZ p := by
    have := h.i.z
    unfold WZ at *
    rw [e 73 (by omega), e 74 (by omega)]
    exact this
  have hr := hs.play hz (R := 91) (Or.inr rfl)
  have er : ∀ k, k < 67 ∨ (78 < k ∧ k < 91) ∨ 102 < k → xplay 91 p k = s k := fun k hk => by rw [xplay_row (by omega) (by omega), e k (by omega)]
  exact ⟨h.trial hr.X hr.D.wz (fun k hk => er k (by omega)), hr.A, er⟩
theorem SG.mod {q p : VS} (h : SG q) (hx : XI p) (e : ∀ k, 33 ≤ k → k ≤ 61 → p k = q k) (e2 : ∀ k, 68 ≤ k → k ≤ 71 → p k = q k) (e6 : p 67 6 = q 67 6) : SG p := by
  refine ⟨hx, h.g.of (fun j a b => e j (by omega) (by omega)), by rw [e6, e 33 (by omega) (by omega)]; exact h.u, ?_⟩
  rw [e2 68 (by omega) (by omega), e2 69 (by omega) (by omega), e2 70 (by omega) (by omega), e2 71 (by omega) (by omega), e 33 (by omega) (by omega)]
  exact h.st
/-- one number of what is supposed is another -/
theorem INV.sup {s : VS} (h : INV s) {j : Nat} {x : Int} (hj : j ≠ 6) (hx : inn (bd 67 j) x) : SG (v2 (cl_asTold s) 67 j x) ∧ ∀ k, k < 67 ∨ 72 < k → (v2 (cl_asTold s) 67 j x) k = s k := by
  refine ⟨h.i.sg.mod (h.i.sg.x.put hx) (fun k a b => v2_row (by omega)) (fun k a b => v2_row (by omega)) (by rw [v2_eq, if_neg (by omega)]), fun k hk => ?_⟩
  rw [v2_row (by omega), o_cl_asTold (by omega)]
def SP (v : VS) (p : VS) : Prop :=
  (SG p) ∧
  (∀ k : Nat, 33 ≤ k → k ≤ 66 → p k = v k) ∧
  (p 68 0 = v 42 0) ∧
  (∀ k : Nat, k < 5 → p 69 k = v 43 k ∧ p 70 k = v 44 k ∧ p 71 k = v 45 k)
theorem SP.g {v : VS} {p : VS} (h : SP v p) : SG p := h.1
theorem SP.e {v : VS} {p : VS} (h : SP v p) : ∀ k : Nat, 33 ≤ k → k ≤ 66 → p k = v k := h.2.1
theorem SP.n {v : VS} {p : VS} (h : SP v p) : p 68 0 = v 42 0 := h.2.2.1
theorem SP.s {v : VS} {p : VS} (h : SP v p) : ∀ k : Nat, k < 5 → p 69 k = v 43 k ∧ p 70 k = v 44 k ∧ p 71 k = v 45 k := h.2.2.2
theorem SP.told {v : VS} (h : INV v) : SP v (cl_asTold v) := ⟨h.i.sg, fun k a b => o_cl_asTold (by omega), (asTold_r v).2.2.2.2.2.2.2.2, fun k hk => asTold_s v k hk⟩
theorem SP.of {v v' p : VS} (h : SP v p) (e : ∀ k, 33 ≤ k → k ≤ 66 → v' k = v k) : SP v' p := by
  obtain ⟨h1, h2, h3, h4⟩ := h
  refine ⟨h1, fun k a b => by rw [e k a b]; exact h2 k a b, by rw [e 42 (by omega) (by omega)]; exact h3, ?_⟩
  rw [e 43 (by omega) (by omega), e 44 (by omega) (by omega), e 45 (by omega) (by omega)]
  exact h4
theorem SP.put {v p : VS} (h : SP v p) {j : Nat} {x : Int} (hj : j ≠ 6) (hx : inn (bd 67 j) x) : SP v (v2 p 67 j x) := by
  obtain ⟨h1, h2, h3, h4⟩ := h
  refine ⟨h1.mod (h1.x.put hx) (fun k a b => v2_row (by omega)) (fun k a b => v2_row (by omega)) (by rw [v2_eq, if_neg (by omega)]), fun k a b => by rw [v2_row (by omega)]; exact h2 k a b, by rw [v2_row (by omega)]; exact h3, ?_⟩
  rw [v2_row (by omega), v2_row (by omega), v2_row (by omega)]
  exact h4
theorem pln_cP {p : VS} (h6 : p 67 6 = p 33 1 - 1) (h7 : p 67 7 = -1) (h8 : p 67 8 = 300) (h9 : p 67 9 = 300) : pln (cP p) = cP p := by
  obtain ⟨c0, c1, c2, c3, c4, c5, c6, c7, c8, c9⟩ := cP_0 p
  exact pln_id (by rw [c1, c2, h6]; omega) (by rw [c6, h7]) (by rw [c7, h8]) (by rw [c8, h9])
/-- what the reference is to play, where its own object differs from what is plain -/
theorem BR.mod {v p u y : VS} (h : INV v) (e : ∀ k, k ≠ 203 → k < 219 ∨ 231 < k → u k = v k) (hx : XI y) (sp : SP v p) (ey : ∀ k, k ≠ 203 → y k = (mo_plainly u) k) (hmu : ∀ c : Nat, c < 9 → bt (p 67 0) c = bt (y 203 30) c) (hcu : ∀ e : Nat, e < 12 → bt (p 67 1) e = bt (y 203 31) e) (hla : p 67 4 = y 203 34) (hdu : p 67 5 = y 203 35) (h28 : y 203 28 = -1) (h27 : ∀ j, j < 10 → p 72 j = y 203 27) (h32 : y 203 32 = 0) (h33 : y 203 33 = v 210 4) : BR p y := by
  have r2 : ∀ k, k ≠ 203 → k < 219 ∨ 231 < k → y k = v k := fun k a b => by rw [ey k a, o_mo_plainly (by omega), e k a b]
  have hb : BQ 33 0 y := h.i.b.of (fun j a b => r2 j (by omega) (by omega)) (fun j a b => r2 j (by omega) (by omega))
  have ha : AIR y := h.a.of (fun k a b => r2 k (by omega) (by omega))
  obtain ⟨-, -, -, b4, -⟩ := h.b0
  have hN : 0 ≤ v 42 0 ∧ v 42 0 ≤ 4 := h.i.x 42 0
  refine ⟨fun k a b => by rw [sp.e k a b, r2 k (by omega) (by omega)], hb.ex, hx, ha, hmu, hcu, hla, hdu, by rw [h33, h32, sp.n, b4]; omega, by rw [h32]; exact Int.le_refl _, fun k hk => ?_, ?_⟩
  · rw [sp.n] at hk
    obtain ⟨x1, x2, x3⟩ := sp.s k (by omega)
    obtain ⟨-, -, hst⟩ := h.che
    obtain ⟨q1, q2, q3⟩ := hst k hk
    rw [h32, x1, x2, x3, r2 213 (by omega) (by omega), show (0 : Int).toNat + k = k by omega, q1, q2, q3]
    exact ⟨rfl, rfl, rfl⟩
  · exact wi0 hx hb.ex ha (by rw [sp.e 63 (by omega) (by omega), r2 63 (by omega) (by omega)]) hla h28 h27
theorem INV.run {v y : VS} (h : INV v) (hx : XI y) (hc : CF y) (e : ∀ k, k < 203 ∨ (203 < k ∧ k < 219) → y k = v k) (f : ∀ j, j = 6 ∨ j = 14 ∨ j = 15 → y 203 j = v 203 j) : INV (mo_run y) := by
  refine h.ref (i_mo_run hx hc) (fun j hj => by rw [o_mo_run (by omega), e j hj]) ?_ ?_ ?_
  · rw [f_run (by omega), f 6 (by omega)]
  · rw [f_run (by omega), f 14 (by omega)]
  · rw [f_run (by omega), f 15 (by omega)]
/-! strikes with others muffled, others cut -/
theorem plainly_x {u : VS} (hx : XI u) {j : Nat} {x : Int} (hx2 : inn (bd 203 j) x) : XI (v2 (mo_plainly u) 203 j x) := (i_mo_plainly hx).put hx2
theorem sB_eq (u : VS) (m k : Int) : mo_strikesBy u m k = ((mo_run (v2 (v2 (mo_plainly u) 203 30 (pm_or (u 210 9) m)) 203 31 (pm_or (u 210 10) k))) 203 37, mo_run (v2 (v2 (mo_plainly u) 203 30 (pm_or (u 210 9) m)) 203 31 (pm_or (u 210 10) k))) := by
  obtain ⟨-, -, p30, p31, -⟩ := plainly_r u
  unfold mo_strikesBy
  rw [p30, p31]
/-- strikesBy, beside a run of the class: it holds the run of the bay, and all stays as it was -/
theorem sBy {v p u : VS} (h : INV v) (hu : INV u) (e : ∀ k, k ≠ 203 → k < 219 ∨ 231 < k → u k = v k) {m k : Int} (hm : 0 ≤ pm_or (v 210 9) m ∧ pm_or (v 210 9) m ≤ 511) (hk : 0 ≤ pm_or (v 210 10) k ∧ pm_or (v 210 10) k ≤ 4095) (sp : SP v p) (hmu : ∀ c : Nat, c < 9 → bt (p 67 0) c = bt (pm_or (v 210 9) m) c) (hcu : ∀ e : Nat, e < 12 → bt (p 67 1) e = bt (pm_or (v 210 10) k) e) (hla : p 67 4 = -1) (hdu : p 67 5 = -1) (h72 : ∀ j, j < 10 → p 72 j = 0) : RM (arun (pln (cP p))) (mo_strikesBy u m k).2 ∧ (mo_strikesBy u m k).1 = (mo_strikesBy u m k).2 203 37 ∧ INV (mo_strikesBy u m k).2 ∧ (∀ k', k' ≠ 203 → k' < 219 ∨ 231 < k' → (mo_strikesBy u m k).2 k' = v k') := by
  rw [sB_eq, e 210 (by omega) (by omega)]
  obtain ⟨y, hy⟩ : ∃ y, y = v2 (v2 (mo_plainly u) 203 30 (pm_or (v 210 9) m)) 203 31 (pm_or (v 210 10) k) := ⟨_, rfl⟩
  obtain ⟨p27, p28, p30, p31, p32, p33, p34, p35⟩ := plainly_r u
  have hx : XI y := by
    rw [hy]
    exact XI.put (k := 203) (j := 31) (XI.put (k := 203) (j := 30) (i_mo_plainly hu.i.x) hm) hk
  have f : ∀ j, j ≠ 30 → j ≠ 31 → y 203 j = (mo_plainly u) 203 j := fun j a b => by rw [hy, v2_eq, if_neg (fun g => b g.2), v2_eq, if_neg (fun g => a g.2)]
  have y30 : y 203 30 = pm_or (v 210 9) m := by rw [hy, v2_eq, if_neg (by omega), v2_eq, if_pos ⟨rfl, rfl⟩]
  have y31 : y 203 31 = pm_or (v 210 10) k := by rw [hy, v2_eq, if_pos ⟨rfl, rfl⟩]
  have yr : ∀ k, k ≠ 203 → y k = (mo_plainly u) k := fun k hk => by rw [hy, v2_row hk, v2_row hk]
  have yr2 : ∀ k, k ≠ 203 → y k = u k := fun k hk => by rw [yr k hk, o_mo_plainly (by omega)]
  rw [← hy]
  have b := BR.mod h e hx sp yr (by rw [y30]; exact hmu) (by rw [y31]; exact hcu) (by rw [f 34 (by omega) (by omega), p34]; exact hla) (by rw [f 35 (by omega) (by omega), p35]; exact hdu) (by rw [f 28 (by omega) (by omega), p28]) (by rw [f 27 (by omega) (by omega), p27]; exact h72) (by rw [f 32 (by omega) (by omega), p32]) (by rw [f 33 (by omega) (by omega), p33, e 210 (by omega) (by omega)])
  refine ⟨b.run sp.g, rfl, hu.run hx (hu.i.c.of (fun k a b => yr2 k (by omega))) (fun k hk => yr2 k (by omega)) (fun j hj => by rw [f j (by omega) (by omega), plainly_f (by omega)]), fun k' a b => ?_⟩
  show (mo_run y) k' = _
  rw [o_mo_run (by omega), yr2 k' a, e k' a b]
theorem INV.r9 {v : VS} (h : INV v) : (0 ≤ v 210 9 ∧ v 210 9 ≤ 511) ∧ (0 ≤ v 210 10 ∧ v 210 10 ≤ 4095) := ⟨h.i.x 210 9, h.i.x 210 10⟩
theorem INV.or0 {v : VS} (h : INV v) : pm_or (v 210 9) 0 = v 210 9 ∧ pm_or (v 210 10) 0 = v 210 10 := by
  obtain ⟨a, b⟩ := h.r9
  exact ⟨or_0 ⟨by omega, by omega⟩, or_0 ⟨by omega, by omega⟩⟩
/-- plain strikesBy(0, 0) is the bay as told -/
theorem sB00 {v u : VS} (h : INV v) (hu : INV u) (e : ∀ k, k ≠ 203 → k < 219 ∨ 231 < k → u k = v k) : RM (arun (tP v)) (mo_strikesBy u 0 0).2 ∧ (mo_strikesBy u 0 0).1 = (arun (tP v)).1 0 0 ∧ INV (mo_strikesBy u 0 0).2 ∧ (∀ k', k' ≠ 203 → k' < 219 ∨ 231 < k' → (mo_strikesBy u 0 0).2 k' = v k') := by
  obtain ⟨o1, o2⟩ := h.or0
  obtain ⟨q1, q2⟩ := h.r9
  obtain ⟨a0, a1, a4, a5, a6, a7, a8, a9, a68⟩ := asTold_r v
  obtain ⟨-, -, -, -, -, b9, b10⟩ := h.b0
  obtain ⟨s1, s2, s3, s4⟩ := sBy (p := cl_asTold v) (m := 0) (k := 0) h hu e (by rw [o1]; exact q1) (by rw [o2]; exact q2) (SP.told h) (by rw [o1, a0, b9]; exact fun c _ => rfl) (by rw [o2, a1, b10]; exact fun c _ => rfl) a4 a5 (fun j hj => asTold_72 v j hj)
  have e1 : pln (cP (cl_asTold v)) = tP v := tP_pln v
  rw [e1] at s1
  exact ⟨s1, by rw [s2, s1.n], s3, s4⟩
theorem bt_pow {e c : Nat} (he : e < 12) : bt ((2 : Int) ^ e) c = if e = c then 1 else 0 := by
  have e1 : ((2 : Int) ^ e) = ((2 ^ e : Nat) : Int) := by simp
  rw [e1, bt_test, Nat.testBit_two_pow]
  by_cases q : e = c
  · simp [q]
  · simp [q]
theorem bt_or {a b c : Nat} (ha : a < 4096) (hb : b < 4096) : bt (pm_or (a : Int) (b : Int)) c = if bt (a : Int) c = 1 ∨ bt (b : Int) c = 1 then 1 else 0 := by
  rw [or_nat ha hb, bt_test, bt_test, bt_test, Nat.testBit_or]
  by_cases q1 : a.testBit c <;> by_cases q2 : b.testBit c <;> simp [q1, q2]
theorem pow12 {e : Nat} (he : e < 12) : 0 ≤ (2 : Int) ^ e ∧ (2 : Int) ^ e < 4096 := by
  have : e = 0 ∨ e = 1 ∨ e = 2 ∨ e = 3 ∨ e = 4 ∨ e = 5 ∨ e = 6 ∨ e = 7 ∨ e = 8 ∨ e = 9 ∨ e = 10 ∨ e = 11 := by omega
  rcases this with rfl | rfl | rfl | rfl | rfl | rfl | rfl | rfl | rfl | rfl | rfl | rfl <;> omega
/-- a play of the class with one number supposed, on the bay as told -/
theorem INV.play1 {s : VS} (h : INV s) {j : Nat} {x : Int} (hj : j = 0 ∨ j = 1 ∨ j = 4 ∨ j = 5) (hx : inn (bd 67 j) x) : INV (xplay 91 (v2 (cl_asTold s) 67 j x)) ∧ RA 91 (arun (cP (v2 (cl_asTold s) 67 j x))) (xplay 91 (v2 (cl_asTold s) 67 j x)) ∧ (∀ k, k < 67 ∨ (78 < k ∧ k < 91) ∨ 102 < k → (xplay 91 (v2 (cl_asTold s) 67 j x)) k = s k) ∧ SP (xplay 91 (v2 (cl_asTold s) 67 j x)) (v2 (cl_asTold s) 67 j x) ∧ pln (cP (v2 (cl_asTold s) 67 j x)) = cP (v2 (cl_asTold s) 67 j x) := by
  have sp := (SP.told h).put (j := j) (x := x) (by omega) hx
  obtain ⟨g1, g2, g3⟩ := h.play (p := v2 (cl_asTold s) 67 j x) (fun k hk => by rw [v2_row (by omega), o_cl_asTold (by omega)]) sp.g
  obtain ⟨a0, a1, a4, a5, a6, a7, a8, a9, a68⟩ := asTold_r s
  have f : ∀ i, i ≠ j → (v2 (cl_asTold s) 67 j x) 67 i = (cl_asTold s) 67 i := fun i hi => by rw [v2_eq, if_neg (fun g => hi g.2)]
  refine ⟨g1, g2, g3, sp.of (fun k a b => g3 k (by omega)), pln_cP ?_ ?_ ?_ ?_⟩
  · rw [f 6 (by omega), a6, v2_row (by omega), o_cl_asTold (by omega)]
  · rw [f 7 (by omega), a7]
  · rw [f 8 (by omega), a8]
  · rw [f 9 (by omega), a9]
theorem setb_pow {x : Int} {c : Nat} (hx : 0 ≤ x ∧ x ≤ 4095) (hc : c < 12) : pm_or x ((2 : Int) ^ c) = setb x c ∧ (0 ≤ setb x c ∧ setb x c ≤ 4095) := by
  have e1 : ((2 : Int) ^ c) = ((2 ^ c : Nat) : Int) := by simp
  have p := pow12 hc
  obtain ⟨n, rfl⟩ := Int.eq_ofNat_of_zero_le hx.1
  have q := setb_in (x := (n : Int)) (c := (c : Int)) (k := 12) (by omega) (by omega)
  refine ⟨?_, by omega⟩
  rw [setb_or (by omega) hc, e1, or_nat (by omega) (by omega)]
/-! harm -/
theorem q_harm {v : VS} (h : INV v) (c : Int) : (mo_harm (cl_harm v c).2 c).1 = (cl_harm v c).1 ∧ INV (mo_harm (cl_harm v c).2 c).2 := by
  obtain ⟨b0, b1, b3, b4, bL, b9, b10⟩ := h.b0
  have hE : 0 ≤ v 37 0 ∧ v 37 0 ≤ 12 := h.i.x 37 0
  by_cases z : 0 ≤ c ∧ c < v 37 0
  · obtain ⟨c, rfl⟩ := Int.eq_ofNat_of_zero_le z.1
    have hc : c < 12 := by omega
    have hi := h.is
    have q := h.qq
    obtain ⟨a0, a1, a4, a5, a6, a7, a8, a9, a68⟩ := asTold_r (cl_asItIs v)
    have i33 : 0 ≤ (cl_asItIs v) 33 5 ∧ (cl_asItIs v) 33 5 ≤ 4095 := hi.i.x 33 5
    obtain ⟨sb1, sb2⟩ := setb_pow i33 hc
    obtain ⟨hI, hA, hr, sp, pl⟩ := hi.play1 (j := 1) (x := setb ((cl_asTold (cl_asItIs v)) 67 1) c) (by omega) (by rw [a1]; exact sb2)
    obtain ⟨p, hp⟩ : ∃ p, p = v2 (cl_asTold (cl_asItIs v)) 67 1 (setb ((cl_asTold (cl_asItIs v)) 67 1) c) := ⟨_, rfl⟩
    have ec : cl_harm v c = ((cl_asItIs v) 79 4 - (xplay 91 p) 91 4, xplay 91 p) := by
      unfold cl_harm
      rw [if_pos z, ← hp]
    rw [← hp] at hI hA hr sp pl
    have hpj : ∀ j, j ≠ 1 → p 67 j = (cl_asTold (cl_asItIs v)) 67 j := fun j hj => by rw [hp, v2_eq, if_neg (fun g => hj g.2)]
    have hp1 : p 67 1 = setb ((cl_asItIs v) 33 5) c := by rw [hp, v2_eq, if_pos ⟨rfl, rfl⟩, a1]
    rw [ec]
    dsimp only
    obtain ⟨x, hx⟩ : ∃ x, x = xplay 91 p := ⟨_, rfl⟩
    rw [← hx] at hI hA hr sp ⊢
    obtain ⟨c0, c1, c3, c4, cL, c9, c10⟩ := hI.b0
    have em : mo_harm x c = ((mo_strikesBy (v2 x 203 0 0) 0 0).1 - (mo_strikesBy (mo_strikesBy (v2 x 203 0 0) 0 0).2 0 ((2 : Int) ^ c)).1, (mo_strikesBy (mo_strikesBy (v2 x 203 0 0) 0 0).2 0 ((2 : Int) ^ c)).2) := by
      unfold mo_harm
      rw [c3, hr 37 (by omega), is_r (by omega), if_pos z, toN]
    rw [em]
    obtain ⟨s1, s2, s3, s4⟩ := sB00 hI hI.thr (u := v2 x 203 0 0) (fun k a b => v2_row a)
    have x5 : x 210 10 = (cl_asItIs v) 33 5 := by rw [c10, hr 33 (by omega)]
    have x4 : x 210 9 = (cl_asItIs v) 33 4 := by rw [c9, hr 33 (by omega)]
    obtain ⟨o1, o2⟩ := hI.or0
    obtain ⟨q1, q2⟩ := hI.r9
    obtain ⟨t1, t2, t3, t4⟩ := sBy (p := p) (m := 0) (k := (2 : Int) ^ c) hI s3 s4 (by rw [o1]; exact q1) (by rw [x5, sb1]; exact sb2) sp (by rw [o1, x4, hpj 0 (by omega), a0]; exact fun c _ => rfl) (by rw [x5, sb1, hp1]; exact fun c _ => rfl) (by rw [hpj 4 (by omega), a4]) (by rw [hpj 5 (by omega), a5]) (fun j hj => by rw [hp, v2_row (by omega), asTold_72 _ j hj])
    have tx : tP x = tP v := by
      rw [tP_of (v := cl_asItIs v) (v' := x) (fun k a b => hr k (by omega))]
      exact tP_of (fun k a b => is_r (by omega))
    refine ⟨?_, t3⟩
    rw [pl] at t1
    dsimp only
    rw [s2, t2, t1.n, tx, q.ra.n, hA.n]
  · have ec : cl_harm v c = (-2000000, v) := by unfold cl_harm; rw [if_neg z]
    rw [ec]
    show (mo_harm v c).1 = -2000000 ∧ INV (mo_harm v c).2
    unfold mo_harm
    rw [b3, if_neg z]
    exact ⟨rfl, h.thr⟩
/-! a run of the reference with one number of its own other than plain -/
theorem mR1 {v p u : VS} (h : INV v) (hu : INV u) (e : ∀ k, k ≠ 203 → k < 219 ∨ 231 < k → u k = v k) {j : Nat} {x : Int} (hj : j = 27 ∨ j = 34 ∨ j = 35) (hx : inn (bd 203 j) x) (sp : SP v p) (hmu : p 67 0 = v 33 4) (hcu : p 67 1 = v 33 5) (hla : p 67 4 = if j = 34 then x else -1) (hdu : p 67 5 = if j = 35 then x else -1) (h72 : ∀ i, i < 10 → p 72 i = if j = 27 then x else 0) : RM (arun (pln (cP p))) (mo_run (v2 (mo_plainly u) 203 j x)) ∧ INV (mo_run (v2 (mo_plainly u) 203 j x)) ∧ (∀ k', k' ≠ 203 → k' < 219 ∨ 231 < k' → (mo_run (v2 (mo_plainly u) 203 j x)) k' = v k') := by
  obtain ⟨p27, p28, p30, p31, p32, p33, p34, p35⟩ := plainly_r u
  obtain ⟨y, hy⟩ : ∃ y, y = v2 (mo_plainly u) 203 j x := ⟨_, rfl⟩
  have hX : XI y := by rw [hy]; exact plainly_x hu.i.x hx
  have f : ∀ i, i ≠ j → y 203 i = (mo_plainly u) 203 i := fun i hi => by rw [hy, v2_eq, if_neg (fun g => hi g.2)]
  have fj : y 203 j = x := by rw [hy, v2_eq, if_pos ⟨rfl, rfl⟩]
  have yr : ∀ k, k ≠ 203 → y k = (mo_plainly u) k := fun k hk => by rw [hy, v2_row hk]
  have yr2 : ∀ k, k ≠ 203 → y k = u k := fun k hk => by rw [yr k hk, o_mo_plainly (by omega)]
  obtain ⟨-, -, -, -, -, b9, b10⟩ := h.b0
  rw [← hy]
  have b := BR.mod h e hX sp yr (by rw [f 30 (by omega), p30, e 210 (by omega) (by omega), b9, hmu]; exact fun c _ => rfl) (by rw [f 31 (by omega), p31, e 210 (by omega) (by omega), b10, hcu]; exact fun c _ => rfl) (by
      rw [hla]
      by_cases z : j = 34
      · rw [if_pos z, ← z, fj]
      · rw [if_neg z, f 34 (by omega), p34]) (by
      rw [hdu]
      by_cases z : j = 35
      · rw [if_pos z, ← z, fj]
      · rw [if_neg z, f 35 (by omega), p35]) (by rw [f 28 (by omega), p28]) (fun i hi => by
      rw [h72 i hi]
      by_cases z : j = 27
      · rw [if_pos z, ← z, fj]
      · rw [if_neg z, f 27 (by omega), p27]) (by rw [f 32 (by omega), p32]) (by rw [f 33 (by omega), p33, e 210 (by omega) (by omega)])
  refine ⟨b.run sp.g, hu.run hX (hu.i.c.of (fun k a b => yr2 k (by omega))) (fun k hk => yr2 k (by omega)) (fun i hi => by rw [f i (by omega), plainly_f (by omega)]), fun k' a b => ?_⟩
  rw [o_mo_run (by omega), yr2 k' a, e k' a b]
theorem INV.fld {v : VS} (h : INV v) {j : Nat} {x : Int} (hj : j ≠ 6 ∧ j ≠ 14 ∧ j ≠ 15) (hx : inn (bd 203 j) x) : INV (v2 v 203 j x) := h.ref (h.i.x.put hx) (fun k hk => v2_row (by omega)) (by rw [v2_eq, if_neg (by omega)]) (by rw [v2_eq, if_neg (by omega)]) (by rw [v2_eq, if_neg (by omega)])
theorem q_without {v : VS} (h : INV v) (w : Int) : (mo_without (cl_without v w).2 w).1 = (cl_without v w).1 ∧ INV (mo_without (cl_without v w).2 w).2 := by
  obtain ⟨b0, b1, b3, b4, bL, b9, b10⟩ := h.b0
  by_cases z : 0 < v 33 2 ∧ (0 ≤ w ∧ w ≤ 6)
  · have hi := h.is
    have q := h.qq
    obtain ⟨a0, a1, a4, a5, a6, a7, a8, a9, a68⟩ := asTold_r (cl_asItIs v)
    obtain ⟨hI, hA, hr, sp, pl⟩ := hi.play1 (j := 4) (x := w) (by omega) (show (-1 : Int) ≤ w ∧ w ≤ 6 by omega)
    obtain ⟨p, hp⟩ : ∃ p, p = v2 (cl_asTold (cl_asItIs v)) 67 4 w := ⟨_, rfl⟩
    have ec : cl_without v w = ((xplay 91 p) 91 4 - (cl_asItIs v) 79 4, xplay 91 p) := by
      unfold cl_without
      rw [if_pos z.1, if_neg (by omega), if_neg (by omega), ← hp]
    rw [← hp] at hI hA hr sp pl
    have hpj : ∀ j, j ≠ 4 → p 67 j = (cl_asTold (cl_asItIs v)) 67 j := fun j hj => by rw [hp, v2_eq, if_neg (fun g => hj g.2)]
    have hp1 : p 67 4 = w := by rw [hp, v2_eq, if_pos ⟨rfl, rfl⟩]
    rw [ec]
    dsimp only
    obtain ⟨x, hx⟩ : ∃ x, x = xplay 91 p := ⟨_, rfl⟩
    rw [← hx] at hI hA hr sp ⊢
    obtain ⟨c0, c1, c3, c4, cL, c9, c10⟩ := hI.b0
    have em : mo_without x w = ((mo_run (v2 (mo_plainly (mo_strikesBy (v2 x 203 0 0) 0 0).2) 203 34 w)) 203 37 - (mo_strikesBy (v2 x 203 0 0) 0 0).1, v2 (mo_run (v2 (mo_plainly (mo_strikesBy (v2 x 203 0 0) 0 0).2) 203 34 w)) 203 34 (-1)) := by
      unfold mo_without
      rw [cL, hr 33 (by omega), INV.is33, if_pos z.1, if_pos z.2]
    rw [em]
    obtain ⟨s1, s2, s3, s4⟩ := sB00 hI hI.thr (u := v2 x 203 0 0) (fun k a b => v2_row a)
    obtain ⟨t1, t3, t4⟩ := mR1 (p := p) (j := 34) (x := w) hI s3 s4 (by omega) (show (-1 : Int) ≤ w ∧ w ≤ 6 by omega) sp (by rw [hpj 0 (by omega), a0, hr 33 (by omega)]) (by rw [hpj 1 (by omega), a1, hr 33 (by omega)]) (by rw [if_pos rfl]; exact hp1) (by rw [if_neg (by omega), hpj 5 (by omega), a5]) (fun j hj => by rw [if_neg (by omega), hp, v2_row (by omega), asTold_72 _ j hj])
    have tx : tP x = tP v := by
      rw [tP_of (v := cl_asItIs v) (v' := x) (fun k a b => hr k (by omega))]
      exact tP_of (fun k a b => is_r (by omega))
    refine ⟨?_, t3.fld (by omega) (show (-1 : Int) ≤ -1 ∧ (-1 : Int) ≤ 6 by omega)⟩
    rw [pl] at t1
    dsimp only
    rw [s2, t1.n, tx, q.ra.n, hA.n]
  · have ec : cl_without v w = (-2000000, v) := by
      unfold cl_without
      repeat' split
      all_goals first | rfl | (exfalso; omega)
    rw [ec]
    show (mo_without v w).1 = -2000000 ∧ INV (mo_without v w).2
    have em : mo_without v w = (-2000000, v2 v 203 0 0) := by
      unfold mo_without
      repeat' split
      all_goals first | rfl | (exfalso; omega)
    rw [em]
    exact ⟨rfl, h.thr⟩
