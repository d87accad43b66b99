
/-! spare, hush -/
theorem l_fewE {v : VS} (h : INV v) {j0 : Nat} {x0 : Int} (h0 : j0 = 7 ∨ j0 = 8 ∨ j0 = 9) (hj : inn (bd 67 j0) x0) {N : Nat} (hN : v 37 0 = N) : LSS (gdE v j0 x0) N (v 33 5) (cl_fewestEars (v2 (cl_asTold v) 67 j0 x0)).1 ∧ FK v (cl_fewestEars (v2 (cl_asTold v) 67 j0 x0)).2 j0 x0 1 := by
  have h9 : 0 ≤ v 37 0 ∧ v 37 0 ≤ 12 := h.i.x 37 0
  obtain ⟨a0, a1, a4, a5, a6, a7, a8, a9, a68⟩ := asTold_r v
  have fk := FK.init h (j0 := j0) (r := 1) (x0 := x0) hj
  obtain ⟨x, hx⟩ : ∃ x, x = v2 (cl_asTold v) 67 j0 x0 := ⟨_, rfl⟩
  have x37 : x 37 = v 37 := by rw [hx, v2_row (by omega), o_cl_asTold (by omega)]
  have x67 : x 67 1 = v 33 5 := by rw [hx, v2_eq, if_neg (by omega), a1]
  rw [← hx] at fk ⊢
  obtain ⟨q1, q2⟩ := openFirst_ok (v := x) (n := x 37 0) (N := N) (by rw [x37, hN]) (by omega)
  have ox : XI (cl_openFirst x (x 37 0)) := i_cl_openFirst fk.i.i.x (by rw [x37]; omega)
  have e : cl_fewestEars x = cl_fewestEars_40 54001 (cl_openFirst x (x 37 0)) (v 33 5) 0 ((0 : Nat) : Int) := by
    unfold cl_fewestEars
    rw [o_cl_openFirst (by omega), x37, if_neg (by omega), x67]
    rfl
  rw [e]
  exact fewE h h0 hj hN 54001 _ 0 0 (fk.of104 ox (fun j hj => o_cl_openFirst (by omega))) (SI.init (by omega) q1 q2) (by omega) (by omega) (by have := pow_le12 (N := N) (by omega); omega) (fuel12 (by omega))
theorem gdE_of {v x : VS} {j0 : Nat} {x0 : Int} (e : ∀ k, 33 ≤ k → k ≤ 66 → x k = v k) : gdE x j0 x0 = gdE v j0 x0 := by
  funext s
  unfold gdE fQ
  rw [e 33 (by omega) (by omega), mP2_of (fun k a b => e k (by omega) (by omega))]
/-- the reference with more cut, beside what the class supposes -/
theorem sE {v u : VS} (h : INV v) (hu : INV u) (e : ∀ k, k ≠ 203 → k < 219 ∨ 231 < k → u k = v k) {j0 : Nat} {x0 s : Int} (h0 : j0 = 7 ∨ j0 = 8 ∨ j0 = 9) (hj : inn (bd 67 j0) x0) (hs : 0 ≤ s ∧ s < 4096) : RM (arun (pln (cP (fQ v j0 x0 1 (pm_or (v 33 5) s))))) (mo_strikesBy u 0 s).2 ∧ (mo_strikesBy u 0 s).1 = (mo_strikesBy u 0 s).2 203 37 ∧ INV (mo_strikesBy u 0 s).2 ∧ (∀ k', k' ≠ 203 → k' < 219 ∨ 231 < k' → (mo_strikesBy u 0 s).2 k' = v k') ∧ SG (fQ v j0 x0 1 (pm_or (v 33 5) s)) ∧ fQ v j0 x0 1 (pm_or (v 33 5) s) 67 6 = fQ v j0 x0 1 (pm_or (v 33 5) s) 33 1 - 1 ∧ (∀ j, j ≠ 1 → fQ v j0 x0 1 (pm_or (v 33 5) s) 67 j = if j = j0 then x0 else (cl_asTold v) 67 j) := by
  have hM : 0 ≤ v 33 5 ∧ v 33 5 ≤ 4095 := h.i.x 33 5
  obtain ⟨b0, b1, b3, b4, bL, b9, b10⟩ := h.b0
  obtain ⟨o1, o2⟩ := h.or0
  obtain ⟨r1, r2⟩ := h.r9
  obtain ⟨a0, a1, a4, a5, a6, a7, a8, a9, a68⟩ := asTold_r v
  have hy := or_in12 hM hs
  obtain ⟨sg, s6⟩ := fQ_sg h (j0 := j0) (r := 1) (x0 := x0) (y := pm_or (v 33 5) s) h0 (by omega) hj hy
  have sp : SP v (fQ v j0 x0 1 (pm_or (v 33 5) s)) := ((SP.told h).put (j := j0) (by omega) hj).put (j := 1) (by omega) hy
  have fe : ∀ j, j ≠ 1 → fQ v j0 x0 1 (pm_or (v 33 5) s) 67 j = if j = j0 then x0 else (cl_asTold v) 67 j := fun j j1 => by
    unfold fQ
    rw [v2_eq, if_neg (fun z => j1 z.2), v2_eq]
    by_cases q : j = j0
    · rw [if_pos ⟨rfl, q⟩, if_pos q]
    · rw [if_neg (fun z => q z.2), if_neg q]
  have f1 : fQ v j0 x0 1 (pm_or (v 33 5) s) 67 1 = pm_or (v 33 5) s := by unfold fQ; rw [v2_eq, if_pos ⟨rfl, rfl⟩]
  obtain ⟨t1, t2, t3, t4⟩ := sBy (p := fQ v j0 x0 1 (pm_or (v 33 5) s)) (m := 0) (k := s) h hu e (by rw [o1]; exact r1) (by rw [b10]; exact hy) sp (by rw [o1, fe 0 (by omega), if_neg (by omega), a0, b9]; exact fun c _ => rfl) (by rw [f1, b10]; exact fun c _ => rfl) (by rw [fe 4 (by omega), if_neg (by omega), a4]) (by rw [fe 5 (by omega), if_neg (by omega), a5]) (fun j hj => by unfold fQ; rw [v2_row (by omega), v2_row (by omega), asTold_72 v j hj])
  exact ⟨t1, t2, t3, t4, sg, s6, fe⟩
theorem spare32 {v : VS} (h : INV v) {c : Nat} {w : Int} (hc : c < 9) {N : Nat} (hN : v 37 0 = N) : ∀ (f : Nat) (u : VS) (g : Int) (s : Nat), INV u → (∀ k, k ≠ 203 → k < 219 ∨ 231 < k → u k = v k) → RI (gdE v 7 c) N (v 33 5) g s → (s : Int) ≤ (2 : Int) ^ N → (2 : Int) ^ N - s < f → LSS (gdE v 7 c) N (v 33 5) (mo_spare_32 f u (c : Int) w g s).1 ∧ INV (mo_spare_32 f u (c : Int) w g s).2 := by
  have h9 : 0 ≤ v 37 0 ∧ v 37 0 ≤ 12 := h.i.x 37 0
  have hM : 0 ≤ v 33 5 ∧ v 33 5 ≤ 4095 := h.i.x 33 5
  have p1 := pow_le12 (N := N) (by omega)
  obtain ⟨b0, b1, b3, b4, bL, b9, b10⟩ := h.b0
  obtain ⟨a0, a1, a4, a5, a6, a7, a8, a9, a68⟩ := asTold_r v
  intro f
  induction f with
  | zero => intro u g s hu e ri s1 hf; omega
  | succ f ih =>
    intro u g s hu e ri s1 hf
    rw [mo_spare_32, e 210 (by omega) (by omega), b3, b10, hN, toN, toN, show ((s : Int) + 1) = ((s + 1 : Nat) : Int) by omega]
    by_cases q : (s : Int) < (2 : Int) ^ N
    · rw [if_pos q]
      have gg : g = -1 ∨ (0 ≤ g ∧ g < 4096) := by
        rcases ri with ⟨x, _⟩ | ⟨x, _⟩
        · exact Or.inl x
        · exact Or.inr (by omega)
      by_cases d : pm_and (s : Int) (v 33 5) = 0
      · rw [if_pos d]
        have dj := (and_dsj (by omega) (by omega)).mp d
        obtain ⟨t1, t2, t3, t4, sg, s6, fe⟩ := sE h hu e (j0 := 7) (x0 := (c : Int)) (s := (s : Int)) (by omega) (show (-1 : Int) ≤ (c : Int) ∧ (c : Int) ≤ 8 by omega) (by omega)
        have qc := stopC sg (c := c) s6 (by rw [fe 7 (by omega), if_pos rfl]) (by rw [fe 8 (by omega), if_neg (by omega), a8]) (by rw [fe 9 (by omega), if_neg (by omega), a9])
        have er := (t1.la c hc).2.2.2
        have go : ∀ hl : g = -1 ∨ popc s < popc g, LSS (gdE v 7 c) N (v 33 5) (if (mo_strikesBy u 0 s).2 231 c = 0 then mo_spare_32 f (mo_strikesBy u 0 s).2 c w s ((s + 1 : Nat) : Int) else mo_spare_32 f (mo_strikesBy u 0 s).2 c w g ((s + 1 : Nat) : Int)).1 ∧ INV (if (mo_strikesBy u 0 s).2 231 c = 0 then mo_spare_32 f (mo_strikesBy u 0 s).2 c w s ((s + 1 : Nat) : Int) else mo_spare_32 f (mo_strikesBy u 0 s).2 c w g ((s + 1 : Nat) : Int)).2 := fun hl => by
          rw [er]
          by_cases gd : gdE v 7 c s
          · rw [if_pos (qc.mp gd)]
            exact ih _ _ (s + 1) t3 t4 (ri.yes (by omega) dj gd hl) (by omega) (by omega)
          · rw [if_neg (fun y => gd (qc.mpr y))]
            exact ih _ _ (s + 1) t3 t4 (ri.no (Or.inl (fun y => gd y.2))) (by omega) (by omega)
        by_cases g1 : g = -1
        · rw [if_pos g1]
          exact go (Or.inl g1)
        · rw [if_neg g1, sizeOf_eq (by omega), sizeOf_eq (gg.elim (fun y => absurd y g1) id)]
          by_cases g2 : popc s < popc g
          · rw [if_pos g2]
            exact go (Or.inr g2)
          · rw [if_neg g2]
            exact ih _ _ (s + 1) hu e (ri.no (Or.inr ⟨g1, by omega⟩)) (by omega) (by omega)
      · rw [if_neg d]
        exact ih _ _ (s + 1) hu e (ri.no (Or.inl (fun y => d ((and_dsj (by omega) (by omega)).mpr y.1)))) (by omega) (by omega)
    · rw [if_neg q]
      rw [show (s : Int) = (2 : Int) ^ N by omega] at ri
      exact ⟨ri.end, hu⟩
theorem q_spare {v : VS} (h : INV v) (c w : Int) : (mo_spare (cl_spare v c w).2 c w).1 = (cl_spare v c w).1 ∧ INV (mo_spare (cl_spare v c w).2 c w).2 := by
  have h9 : 0 ≤ v 33 0 ∧ v 33 0 ≤ 9 := h.i.x 33 0
  have hE : 0 ≤ v 37 0 ∧ v 37 0 ≤ 12 := h.i.x 37 0
  obtain ⟨b0, b1, b3, b4, bL, b9, b10⟩ := h.b0
  by_cases z : (0 ≤ c ∧ c < v 33 0) ∧ (0 ≤ w ∧ w ≤ 1)
  · obtain ⟨N, hN⟩ : ∃ N : Nat, v 37 0 = N := ⟨(v 37 0).toNat, by omega⟩
    obtain ⟨d, rfl⟩ : ∃ d : Nat, c = d := ⟨c.toNat, by omega⟩
    have p1 := pow_le12 (N := N) (by omega)
    obtain ⟨k1, k2⟩ := l_fewE h (j0 := 7) (x0 := (d : Int)) (by omega) (show (-1 : Int) ≤ (d : Int) ∧ (d : Int) ≤ 8 by omega) hN
    obtain ⟨r, hr⟩ : ∃ r, r = (cl_fewestEars (v2 (cl_asTold v) 67 7 (d : Int))).1 := ⟨_, rfl⟩
    obtain ⟨x, hx⟩ : ∃ x, x = (cl_fewestEars (v2 (cl_asTold v) 67 7 (d : Int))).2 := ⟨_, rfl⟩
    have ec : cl_spare v (d : Int) w = (cl_setAnswer x r w, x) := by
      unfold cl_spare
      rw [if_pos z.1, if_neg (by omega), if_neg (by omega), hr, hx]
    rw [← hr] at k1
    rw [← hx] at k2
    rw [ec]
    dsimp only
    have e33 : x 33 = v 33 := k2.e 33 (by omega)
    obtain ⟨c0, c1, c3, c4, cL, c9, c10⟩ := k2.i.b0
    have m := spare32 k2.i (c := d) (w := w) (N := N) (by omega) (by rw [k2.e 37 (by omega)]; exact hN) 4097 (v2 x 203 0 0) (-1) 0 k2.i.thr (fun k a b => v2_row a) (Or.inl ⟨rfl, fun T t1 t2 => by omega⟩) (by omega) (by omega)
    rw [gdE_of (fun k a b => k2.e k (by omega)), e33, show ((0 : Nat) : Int) = 0 from rfl] at m
    have er := m.1.uniq k1
    have em : mo_spare x (d : Int) w = ((if r = -1 then r else if w = 1 then r else popc r), (mo_spare_32 4097 (v2 x 203 0 0) (d : Int) w (-1) 0).2) := by
      unfold mo_spare
      rw [c0, e33, if_pos z.1, if_pos z.2, er]
      by_cases y : r = -1
      · rw [if_pos y, if_pos y]
      · rw [if_neg y, if_neg y]
        by_cases y2 : w = 1
        · rw [if_pos y2, if_pos y2]
        · rw [if_neg y2, if_neg y2, sizeOf_eq]
          rcases k1 with ⟨a, _⟩ | ⟨a, _⟩
          · exact absurd a y
          · omega
    rw [em]
    refine ⟨?_, m.2⟩
    dsimp only
    unfold cl_setAnswer
    by_cases y : r = -1
    · rw [if_pos y, if_pos y]
    · rw [if_neg y, if_neg y, popc_eq]
      rcases k1 with ⟨a, _⟩ | ⟨a, _⟩
      · exact absurd a y
      · omega
  · have ec : cl_spare v c w = (-2, v) := by
      unfold cl_spare
      by_cases a : 0 ≤ c ∧ c < v 33 0
      · rw [if_pos a]
        by_cases b : w < 0
        · rw [if_pos b]
        · rw [if_neg b, if_pos (by omega)]
      · rw [if_neg a]
    rw [ec]
    show (mo_spare v c w).1 = -2 ∧ INV (mo_spare v c w).2
    have em : mo_spare v c w = (-2, v2 v 203 0 0) := by
      unfold mo_spare
      rw [b0]
      by_cases a : 0 ≤ c ∧ c < v 33 0
      · rw [if_pos a, if_neg (by omega)]
      · rw [if_neg a]
    rw [em]
    exact ⟨rfl, h.thr⟩
