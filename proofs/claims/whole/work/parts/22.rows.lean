/-! more rows over v -/
section VR2
variable {X : PX} {d n pc pc0 len b : Nat} {lo : List (Option PV)} {st r : List PV} {v : VS} {Q : Option PV → Nat → VS → Prop}
theorem r_if_eq {t x : Int} (hf : fe n pc = some (pc0, .ifCond .eq t, len)) (hx : R32 x) (k1 : x = 0 → WV X d n t.toNat lo r b v Q) (k2 : ¬ (x = 0) → WV X d n (pc + len) lo r b v Q) : WV X d n pc lo (.inl x :: r) b v Q := by
  refine r_if hf hx (fun h => k1 ?_) (fun h => k2 ?_)
  all_goals (simp only [pm_cond, Bool.not_eq_true', decide_eq_true_eq, decide_eq_false_iff_not] at h; omega)
theorem r_ic_eq {t x y : Int} (hf : fe n pc = some (pc0, .if_icmp .eq t, len)) (hx : R32 x) (hy : R32 y) (k1 : x = y → WV X d n t.toNat lo r b v Q) (k2 : ¬ (x = y) → WV X d n (pc + len) lo r b v Q) : WV X d n pc lo (.inl y :: .inl x :: r) b v Q := by
  refine r_ic hf hx hy (fun h => k1 ?_) (fun h => k2 ?_)
  all_goals (simp only [pm_cond, Bool.not_eq_true', decide_eq_true_eq, decide_eq_false_iff_not] at h; omega)
theorem r_if_ne {t x : Int} (hf : fe n pc = some (pc0, .ifCond .ne t, len)) (hx : R32 x) (k1 : ¬ x = 0 → WV X d n t.toNat lo r b v Q) (k2 : ¬ (¬ x = 0) → WV X d n (pc + len) lo r b v Q) : WV X d n pc lo (.inl x :: r) b v Q := by
  refine r_if hf hx (fun h => k1 ?_) (fun h => k2 ?_)
  all_goals (simp only [pm_cond, Bool.not_eq_true', decide_eq_true_eq, decide_eq_false_iff_not] at h; omega)
theorem r_ic_ne {t x y : Int} (hf : fe n pc = some (pc0, .if_icmp .ne t, len)) (hx : R32 x) (hy : R32 y) (k1 : ¬ x = y → WV X d n t.toNat lo r b v Q) (k2 : ¬ (¬ x = y) → WV X d n (pc + len) lo r b v Q) : WV X d n pc lo (.inl y :: .inl x :: r) b v Q := by
  refine r_ic hf hx hy (fun h => k1 ?_) (fun h => k2 ?_)
  all_goals (simp only [pm_cond, Bool.not_eq_true', decide_eq_true_eq, decide_eq_false_iff_not] at h; omega)
theorem r_if_lt {t x : Int} (hf : fe n pc = some (pc0, .ifCond .lt t, len)) (hx : R32 x) (k1 : x < 0 → WV X d n t.toNat lo r b v Q) (k2 : ¬ (x < 0) → WV X d n (pc + len) lo r b v Q) : WV X d n pc lo (.inl x :: r) b v Q := by
  refine r_if hf hx (fun h => k1 ?_) (fun h => k2 ?_)
  all_goals (simp only [pm_cond, Bool.not_eq_true', decide_eq_true_eq, decide_eq_false_iff_not] at h; omega)
theorem r_ic_lt {t x y : Int} (hf : fe n pc = some (pc0, .if_icmp .lt t, len)) (hx : R32 x) (hy : R32 y) (k1 : x < y → WV X d n t.toNat lo r b v Q) (k2 : ¬ (x < y) → WV X d n (pc + len) lo r b v Q) : WV X d n pc lo (.inl y :: .inl x :: r) b v Q := by
  refine r_ic hf hx hy (fun h => k1 ?_) (fun h => k2 ?_)
  all_goals (simp only [pm_cond, Bool.not_eq_true', decide_eq_true_eq, decide_eq_false_iff_not] at h; omega)
theorem r_if_ge {t x : Int} (hf : fe n pc = some (pc0, .ifCond .ge t, len)) (hx : R32 x) (k1 : ¬ x < 0 → WV X d n t.toNat lo r b v Q) (k2 : ¬ (¬ x < 0) → WV X d n (pc + len) lo r b v Q) : WV X d n pc lo (.inl x :: r) b v Q := by
  refine r_if hf hx (fun h => k1 ?_) (fun h => k2 ?_)
  all_goals (simp only [pm_cond, Bool.not_eq_true', decide_eq_true_eq, decide_eq_false_iff_not] at h; omega)
theorem r_ic_ge {t x y : Int} (hf : fe n pc = some (pc0, .if_icmp .ge t, len)) (hx : R32 x) (hy : R32 y) (k1 : ¬ x < y → WV X d n t.toNat lo r b v Q) (k2 : ¬ (¬ x < y) → WV X d n (pc + len) lo r b v Q) : WV X d n pc lo (.inl y :: .inl x :: r) b v Q := by
  refine r_ic hf hx hy (fun h => k1 ?_) (fun h => k2 ?_)
  all_goals (simp only [pm_cond, Bool.not_eq_true', decide_eq_true_eq, decide_eq_false_iff_not] at h; omega)
theorem r_if_gt {t x : Int} (hf : fe n pc = some (pc0, .ifCond .gt t, len)) (hx : R32 x) (k1 : 0 < x → WV X d n t.toNat lo r b v Q) (k2 : ¬ (0 < x) → WV X d n (pc + len) lo r b v Q) : WV X d n pc lo (.inl x :: r) b v Q := by
  refine r_if hf hx (fun h => k1 ?_) (fun h => k2 ?_)
  all_goals (simp only [pm_cond, Bool.not_eq_true', decide_eq_true_eq, decide_eq_false_iff_not] at h; omega)
theorem r_ic_gt {t x y : Int} (hf : fe n pc = some (pc0, .if_icmp .gt t, len)) (hx : R32 x) (hy : R32 y) (k1 : y < x → WV X d n t.toNat lo r b v Q) (k2 : ¬ (y < x) → WV X d n (pc + len) lo r b v Q) : WV X d n pc lo (.inl y :: .inl x :: r) b v Q := by
  refine r_ic hf hx hy (fun h => k1 ?_) (fun h => k2 ?_)
  all_goals (simp only [pm_cond, Bool.not_eq_true', decide_eq_true_eq, decide_eq_false_iff_not] at h; omega)
theorem r_if_le {t x : Int} (hf : fe n pc = some (pc0, .ifCond .le t, len)) (hx : R32 x) (k1 : ¬ 0 < x → WV X d n t.toNat lo r b v Q) (k2 : ¬ (¬ 0 < x) → WV X d n (pc + len) lo r b v Q) : WV X d n pc lo (.inl x :: r) b v Q := by
  refine r_if hf hx (fun h => k1 ?_) (fun h => k2 ?_)
  all_goals (simp only [pm_cond, Bool.not_eq_true', decide_eq_true_eq, decide_eq_false_iff_not] at h; omega)
theorem r_ic_le {t x y : Int} (hf : fe n pc = some (pc0, .if_icmp .le t, len)) (hx : R32 x) (hy : R32 y) (k1 : ¬ y < x → WV X d n t.toNat lo r b v Q) (k2 : ¬ (¬ y < x) → WV X d n (pc + len) lo r b v Q) : WV X d n pc lo (.inl y :: .inl x :: r) b v Q := by
  refine r_ic hf hx hy (fun h => k1 ?_) (fun h => k2 ?_)
  all_goals (simp only [pm_cond, Bool.not_eq_true', decide_eq_true_eq, decide_eq_false_iff_not] at h; omega)
theorem r_callb {m n' pc' : Nat} {args : List PV} {lo' : List (Option PV)} {st' : List PV} {P : Prop} {hd : Decidable P} {I : Instr} (hf : fe n pc = some (pc0, I, len)) (hs : pm_step X I len n pc lo st (hp b v) = some (.inr (.inr (m, args, (n', pc', lo', st'))))) (hp' : pm_prim m args = none) (hc : EvV X d m args b v (some (.inl (@ite Int P hd 1 0))) b v) (k1 : P → WV X (d + 1) n' pc' lo' (.inl 1 :: st') b v Q) (k2 : ¬ P → WV X (d + 1) n' pc' lo' (.inl 0 :: st') b v Q) : WV X (d + 1) n pc lo st b v Q := by
  refine r_call hf hs hp' hc ?_
  by_cases h : P
  · rw [if_pos h]; exact k1 h
  · rw [if_neg h]; exact k2 h
theorem r_puti2 {k c e j pc' : Nat} {fs : List (Nat ⊕ Option Nat)} {x : Int} {z : Nat} (hf : fe n pc = some (pc0, .putfield e, len)) (hs : sh b k = some (.inr (.inr (c, fs)))) (hc : c = e / 100) (he : e % 100 = j) (hj : fs[j]? = some (.inl z)) (hz : z = 0 ∨ z = 1) (hok : pm_okv (pm_fty e) (.inl x) = true) (hpc : pc + len = pc') (kk : WV X d n pc' lo r b (v2 v k j x) Q) : WV X d n pc lo (.inl x :: .inr (.inr (some k)) :: r) b v Q := by
  subst he; subst hpc
  exact r_puti hf hs hc hj hz hok kk
theorem r_putl2 {k c e j pc' : Nat} {fs : List (Nat ⊕ Option Nat)} {x : Int} (hf : fe n pc = some (pc0, .putfield e, len)) (hs : sh b k = some (.inr (.inr (c, fs)))) (hc : c = e / 100) (he : e % 100 = j) (hj : fs[j]? = some (.inl 2)) (hok : pm_fty e = 2) (hpc : pc + len = pc') (kk : WV X d n pc' lo r b (v2 v k j x) Q) : WV X d n pc lo (.inr (.inl x) :: .inr (.inr (some k)) :: r) b v Q := by
  subst he; subst hpc
  have hl : e % 100 < (flds fs (v k) 0).length := by rw [flds_len]; exact (List.getElem?_eq_some_iff.mp hj).1
  have e2 : (flds fs (v k) 0).set (e % 100) (.inr (.inl x)) = flds fs (fset (v k) (e % 100) x) 0 := flds_set fs (v k) (e % 100) x (.inr (.inl x)) (Or.inr (Or.inr ⟨hj, rfl⟩))
  refine wp_step hf (h' := hp b (v2 v k (e % 100) x)) ?_ kk
  simp only [pm_step, pm_nx, hp_at hs, cellOf]
  rw [if_pos ⟨hc, hl, by rw [hok]; rfl⟩, e2]
  have e3 := hp_set (v := v) (w := fset (v k) (e % 100) x) hs
  simp only [cellOf] at e3
  rw [e3]
  rfl
theorem r_iald2 {k m j pc' : Nat} {i x : Int} (hf : fe n pc = some (pc0, .iaload, len)) (hs : sh b k = some (.inl (0, m))) (h01 : 0 ≤ i ∧ i < m) (hm : m ≤ 1000000) (hx : v k i.toNat = x) (hpc : pc + len = pc') (kk : WV X d n pc' lo (.inl x :: r) b v Q) : WV X d n pc lo (.inl i :: .inr (.inr (some k)) :: r) b v Q := by
  subst hx; subst hpc
  exact r_iald hf hs h01.1 h01.2 hm kk
theorem r_iast2 {k m pc' : Nat} {i x : Int} (hf : fe n pc = some (pc0, .iastore, len)) (hs : sh b k = some (.inl (0, m))) (h01 : 0 ≤ i ∧ i < m) (hm : m ≤ 1000000) (hpc : pc + len = pc') (kk : WV X d n pc' lo r b (v2 v k i.toNat x) Q) : WV X d n pc lo (.inl x :: .inl i :: .inr (.inr (some k)) :: r) b v Q := by
  subst hpc
  exact r_iast hf hs h01.1 h01.2 hm kk
theorem r_bald2 {k m t pc' : Nat} {i x : Int} (hf : fe n pc = some (pc0, .baload, len)) (hs : sh b k = some (.inl (t, m))) (ht : t = 1 ∨ t = 2) (h01 : 0 ≤ i ∧ i < m) (hm : m ≤ 1000000) (hx : v k i.toNat = x) (hpc : pc + len = pc') (kk : WV X d n pc' lo (.inl x :: r) b v Q) : WV X d n pc lo (.inl i :: .inr (.inr (some k)) :: r) b v Q := by
  subst hx; subst hpc
  obtain ⟨e1, e2⟩ := idx_ok h01.1 h01.2 hm
  refine wp_step hf ?_ kk
  simp only [pm_step, pm_nx, pm_arr, hp_at hs, cellOf, e1, e2, ht, and_self, if_true]
theorem r_bast2 {k m pc' : Nat} {i x : Int} (hf : fe n pc = some (pc0, .bastore, len)) (hs : sh b k = some (.inl (1, m))) (h01 : 0 ≤ i ∧ i < m) (hm : m ≤ 1000000) (hpc : pc + len = pc') (kk : WV X d n pc' lo r b (v2 v k i.toNat (w8 x)) Q) : WV X d n pc lo (.inl x :: .inl i :: .inr (.inr (some k)) :: r) b v Q := by
  subst hpc
  obtain ⟨e1, e2⟩ := idx_ok h01.1 h01.2 hm
  refine wp_step hf (h' := hp b (v2 v k i.toNat (w8 x))) ?_ kk
  simp only [pm_step, pm_nx, hp_at hs, cellOf, e1, e2, and_self, if_true]
  have e3 := hp_set (v := v) (w := fset (v k) i.toNat (w8 x)) hs
  simp only [cellOf] at e3
  rw [e3]
  rfl
theorem r_zast2 {k m pc' : Nat} {i x : Int} (hf : fe n pc = some (pc0, .bastore, len)) (hs : sh b k = some (.inl (2, m))) (h01 : 0 ≤ i ∧ i < m) (hm : m ≤ 1000000) (hok : pm_okv 1 (.inl x) = true) (hpc : pc + len = pc') (kk : WV X d n pc' lo r b (v2 v k i.toNat x) Q) : WV X d n pc lo (.inl x :: .inl i :: .inr (.inr (some k)) :: r) b v Q := by
  subst hpc
  obtain ⟨e1, e2⟩ := idx_ok h01.1 h01.2 hm
  refine wp_step hf (h' := hp b (v2 v k i.toNat x)) ?_ kk
  simp only [pm_step, pm_nx, hp_at hs, cellOf, e1, e2, hok, and_self, if_true, show ¬ (2 : Nat) = 1 by omega, false_and, if_false]
  have e3 := hp_set (v := v) (w := fset (v k) i.toNat x) hs
  simp only [cellOf] at e3
  rw [e3]
  rfl
theorem r_lald2 {k m pc' : Nat} {i x : Int} (hf : fe n pc = some (pc0, .laload, len)) (hs : sh b k = some (.inl (3, m))) (h01 : 0 ≤ i ∧ i < m) (hm : m ≤ 1000000) (hx : v k i.toNat = x) (hpc : pc + len = pc') (kk : WV X d n pc' lo (.inr (.inl x) :: r) b v Q) : WV X d n pc lo (.inl i :: .inr (.inr (some k)) :: r) b v Q := by
  subst hx; subst hpc
  obtain ⟨e1, e2⟩ := idx_ok h01.1 h01.2 hm
  refine wp_step hf ?_ kk
  simp only [pm_step, pm_nx, pm_arr, hp_at hs, cellOf, e1, e2, and_self, if_true]
theorem r_last2 {k m pc' : Nat} {i x : Int} (hf : fe n pc = some (pc0, .lastore, len)) (hs : sh b k = some (.inl (3, m))) (h01 : 0 ≤ i ∧ i < m) (hm : m ≤ 1000000) (hpc : pc + len = pc') (kk : WV X d n pc' lo r b (v2 v k i.toNat x) Q) : WV X d n pc lo (.inr (.inl x) :: .inl i :: .inr (.inr (some k)) :: r) b v Q := by
  subst hpc
  obtain ⟨e1, e2⟩ := idx_ok h01.1 h01.2 hm
  refine wp_step hf (h' := hp b (v2 v k i.toNat x)) ?_ kk
  simp only [pm_step, pm_nx, hp_at hs, cellOf, e1, e2, and_self, if_true]
  have e3 := hp_set (v := v) (w := fset (v k) i.toNat x) hs
  simp only [cellOf] at e3
  rw [e3]
  rfl
theorem r_aald2 {k m t pc' : Nat} {i : Int} {l : List (Option Nat)} {z : Option Nat} (hf : fe n pc = some (pc0, .aaload, len)) (hs : sh b k = some (.inr (.inl (t, m, l)))) (ht : t = 4 ∨ t = 5) (h01 : 0 ≤ i ∧ i < m) (hm : m ≤ 1000000) (hz : l.getD i.toNat none = z) (hpc : pc + len = pc') (kk : WV X d n pc' lo (.inr (.inr z) :: r) b v Q) : WV X d n pc lo (.inl i :: .inr (.inr (some k)) :: r) b v Q := by
  subst hz; subst hpc
  obtain ⟨e1, e2⟩ := idx_ok h01.1 h01.2 hm
  refine wp_step hf ?_ kk
  simp only [pm_step, pm_nx, hp_at hs, cellOf, e1, e2, ht, and_self, if_true]
theorem r_copy2 {k0 k1 m0 m1 t pc' : Nat} {c dp sp : Int} (hf : fe n pc = some (pc0, .invokedynamic 0, len)) (hs0 : sh b k0 = some (.inl (t, m0))) (hs1 : sh b k1 = some (.inl (t, m1))) (ht : t = 0 ∨ t = 3) (hc : 0 ≤ c ∧ 0 ≤ dp ∧ 0 ≤ sp ∧ sp + c ≤ m0 ∧ dp + c ≤ m1) (hm : m0 ≤ 1000000 ∧ m1 ≤ 1000000) (hcat : pcats r ≤ 8) (hpc : pc + len = pc') (kk : WV X d n pc' lo r b (fset v k1 (va_cpy (v k0) (v k1) sp.toNat dp.toNat c.toNat)) Q) : WV X d n pc lo (.inl c :: .inl dp :: .inr (.inr (some k1)) :: .inl sp :: .inr (.inr (some k0)) :: r) b v Q := by
  subst hpc
  have e1 : w32 c = c := w32_id (by omega) (by omega)
  have e2 : w32 dp = dp := w32_id (by omega) (by omega)
  have e3 : w32 sp = sp := w32_id (by omega) (by omega)
  refine wp_step hf (h' := hp b (fset v k1 (va_cpy (v k0) (v k1) sp.toNat dp.toNat c.toNat))) ?_ kk
  simp only [pm_step, pm_nx, hp_at hs0, hp_at hs1, cellOf, e1, e2, e3]
  rw [if_pos ⟨trivial, ht, hc.1, hc.2.1, hc.2.2.1, hc.2.2.2.1, hc.2.2.2.2, hcat⟩]
  have e4 := hp_set (v := v) (w := va_cpy (v k0) (v k1) sp.toNat dp.toNat c.toNat) hs1
  simp only [cellOf] at e4
  rw [e4]
theorem r_geti2 {k c e j pc' : Nat} {fs : List (Nat ⊕ Option Nat)} {z : Nat} {x : Int} (hf : fe n pc = some (pc0, .getfield e, len)) (hs : sh b k = some (.inr (.inr (c, fs)))) (hc : c = e / 100) (he : e % 100 = j) (hj : fs[j]? = some (.inl z)) (hz : z ≠ 2) (hx : v k j = x) (hpc : pc + len = pc') (kk : WV X d n pc' lo (.inl x :: r) b v Q) : WV X d n pc lo (.inr (.inr (some k)) :: r) b v Q := by
  subst he; subst hx; subst hpc
  exact r_geti hf hs hc hj hz kk
theorem r_getr2 {k c e pc' : Nat} {fs : List (Nat ⊕ Option Nat)} {z : Option Nat} (hf : fe n pc = some (pc0, .getfield e, len)) (hs : sh b k = some (.inr (.inr (c, fs)))) (hc : c = e / 100) (hj : fs[e % 100]? = some (.inr z)) (hpc : pc + len = pc') (kk : WV X d n pc' lo (.inr (.inr z) :: r) b v Q) : WV X d n pc lo (.inr (.inr (some k)) :: r) b v Q := by
  subst hpc
  exact r_getr hf hs hc hj kk
theorem r_alen2 {k m t pc' : Nat} (hf : fe n pc = some (pc0, .arraylength, len)) (hs : sh b k = some (.inl (t, m))) (hpc : pc + len = pc') (kk : WV X d n pc' lo (.inl (m : Int) :: r) b v Q) : WV X d n pc lo (.inr (.inr (some k)) :: r) b v Q := by
  subst hpc
  exact r_alen hf hs kk
end VR2
