
/-! the law from its entry -/
theorem nil_lz : h_nil = lz_h (0, []) := by
  unfold h_nil lz_h
  simp
theorem fx_0 : fe 329 0 = some (0, .new 11, 3) := by decide +kernel
theorem fx_3 : fe 329 3 = some (3, .dup, 1) := by decide +kernel
theorem fx_4 : fe 329 4 = some (4, .invokespecial 0, 3) := by decide +kernel
theorem fx_7 : fe 329 7 = some (7, .astore 1, 1) := by decide +kernel
theorem fx_8 : fe 329 8 = some (8, .new 12, 3) := by decide +kernel
theorem fx_11 : fe 329 11 = some (11, .dup, 1) := by decide +kernel
theorem fx_12 : fe 329 12 = some (12, .invokespecial 199, 3) := by decide +kernel
theorem fx_15 : fe 329 15 = some (15, .astore 2, 1) := by decide +kernel
theorem fx_16 : fe 329 16 = some (16, .iconst 0, 1) := by decide +kernel
theorem fx_17 : fe 329 17 = some (17, .istore 3, 1) := by decide +kernel
theorem pm_m0 : pm_m 0 = (1, (pm_m 0).2.1, 11, 9) ∧ 1 ≤ (pm_m 0).2.1 := by decide +kernel
theorem pm_m199 : pm_m 199 = (1, (pm_m 199).2.1, 12, 9) ∧ 1 ≤ (pm_m 199).2.1 := by decide +kernel
theorem call_init {X : PX} {len n pc m c k : Nat} {lo : List (Option PV)} {h : PH} {fs : List PV} (hm : pm_m m = (1, (pm_m m).2.1, c, 9) ∧ 1 ≤ (pm_m m).2.1) (hc : c < 99) (hk : h.2.2 k = some (.inr (.inr (c, fs)))) : pm_step X (.invokespecial m) len n pc lo [.inr (.inr (some k)), .inr (.inr (some k))] h = some (.inr (.inr (m, [.inr (.inr (some k))], (n, pc + len, lo, [.inr (.inr (some k))])))) := by
  obtain ⟨h1, h2⟩ := hm
  have a1 : (pm_m m).1 = 1 := by rw [h1]
  have a3 : (pm_m m).2.2.1 = c := by rw [h1]
  simp only [pm_step, pm_call, a1, a3]
  refine if_pos ⟨rfl, h2, (show (1 : Nat) ≤ 8 by omega), Or.inr ?_⟩
  show pm_recv c h [.inr (.inr (some k))] = true
  simp only [pm_recv, hk]
  rw [if_neg (by omega)]
  first | rfl | simp
theorem entry_ok {X : PX} {h1 h3 : LZH} {Q : Option PV → PH → Prop} (n1 : h1.2.length = 203 ∧ h1.1 < 1000000) (e1 : Ev X 12 0 [.inr (.inr (some 0))] (lz_h lz_0) none (lz_h h1)) (e3 : Ev X 12 199 [.inr (.inr (some 203))] (lz_h (h1.1 + (pm_ftys.getD 12 []).length, h1.2 ++ [.inr (.inr (12, (pm_ftys.getD 12 []).map pm_dflt))])) none (lz_h h3)) (k : Wp X 13 329 18 [some (.inr (.inr (some 100000))), some (.inr (.inr (some 0))), some (.inr (.inr (some 203))), some (.inl 0)] [] (lz_h h3) Q) : Wp X 13 329 0 [some (.inr (.inr (some 100000))), none, none, none] [] h_nil Q := by
  rw [nil_lz]
  have z0 : lz_h (0 + (pm_ftys.getD 11 []).length, ([] : List LZ) ++ [.inr (.inr (11, (pm_ftys.getD 11 []).map pm_dflt))]) = lz_h lz_0 := by
    unfold lz_0
    rw [Nat.zero_add, List.nil_append]
  have t0 := lz_new (X := X) (len := 3) (n := 329) (pc := 0) (lo := [some (.inr (.inr (some 100000))), none, none, none]) (st := []) (h := (0, [])) (c := 11) ⟨by decide, by decide, by decide⟩
  rw [z0] at t0
  refine wp_step (n' := 329) (pc' := 3) (lo' := [some (.inr (.inr (some 100000))), none, none, none]) (st' := [.inr (.inr (some 0))]) (h' := lz_h lz_0) fx_0 t0 ?_
  refine wp_step (n' := 329) (pc' := 4) (lo' := [some (.inr (.inr (some 100000))), none, none, none]) (st' := [.inr (.inr (some 0)), .inr (.inr (some 0))]) (h' := lz_h lz_0) fx_3 rfl ?_
  have r0 : (lz_h lz_0).2.2 0 = some (.inr (.inr (11, (pm_ftys.getD 11 []).map pm_dflt))) := rfl
  refine wp_call (rr := none) (h1 := lz_h h1) fx_4 (call_init (c := 11) pm_m0 (by omega) r0) rfl e1 ?_
  refine wp_step (n' := 329) (pc' := 8) (lo' := [some (.inr (.inr (some 100000))), some (.inr (.inr (some 0))), none, none]) (st' := []) (h' := lz_h h1) fx_7 rfl ?_
  have t1 := lz_new (X := X) (len := 3) (n := 329) (pc := 8) (lo := [some (.inr (.inr (some 100000))), some (.inr (.inr (some 0))), none, none]) (st := []) (h := h1) (c := 12) ⟨by rw [n1.1]; omega, n1.2, by decide⟩
  rw [n1.1] at t1
  refine wp_step (n' := 329) (pc' := 11) (lo' := [some (.inr (.inr (some 100000))), some (.inr (.inr (some 0))), none, none]) (st' := [.inr (.inr (some 203))]) (h' := lz_h (h1.1 + (pm_ftys.getD 12 []).length, h1.2 ++ [.inr (.inr (12, (pm_ftys.getD 12 []).map pm_dflt))])) fx_8 t1 ?_
  have r203 : (lz_h (h1.1 + (pm_ftys.getD 12 []).length, h1.2 ++ [.inr (.inr (12, (pm_ftys.getD 12 []).map pm_dflt))])).2.2 203 = some (.inr (.inr (12, (pm_ftys.getD 12 []).map pm_dflt))) := by
    refine lz_at (h := (h1.1 + (pm_ftys.getD 12 []).length, h1.2 ++ [.inr (.inr (12, (pm_ftys.getD 12 []).map pm_dflt))])) (c := .inr (.inr (12, (pm_ftys.getD 12 []).map pm_dflt))) ?_
    show (h1.2 ++ [Sum.inr (Sum.inr (12, (pm_ftys.getD 12 []).map pm_dflt))])[203]? = _
    rw [List.getElem?_append_right (by omega), n1.1]
    rfl
  generalize lz_h (h1.1 + (pm_ftys.getD 12 []).length, h1.2 ++ [.inr (.inr (12, (pm_ftys.getD 12 []).map pm_dflt))]) = H at r203 e3 ⊢
  refine wp_step (n' := 329) (pc' := 12) (lo' := [some (.inr (.inr (some 100000))), some (.inr (.inr (some 0))), none, none]) (st' := [.inr (.inr (some 203)), .inr (.inr (some 203))]) (h' := H) fx_11 rfl ?_
  refine wp_call (rr := none) (h1 := lz_h h3) fx_12 (call_init (c := 12) pm_m199 (by omega) r203) rfl e3 ?_
  refine wp_step (n' := 329) (pc' := 16) (lo' := [some (.inr (.inr (some 100000))), some (.inr (.inr (some 0))), some (.inr (.inr (some 203))), none]) (st' := []) (h' := lz_h h3) fx_15 rfl ?_
  refine wp_step (n' := 329) (pc' := 17) (lo' := [some (.inr (.inr (some 100000))), some (.inr (.inr (some 0))), some (.inr (.inr (some 203))), none]) (st' := [.inl 0]) (h' := lz_h h3) fx_16 rfl ?_
  exact wp_step (n' := 329) (pc' := 18) (lo' := [some (.inr (.inr (some 100000))), some (.inr (.inr (some 0))), some (.inr (.inr (some 203))), some (.inl 0)]) (st' := []) (h' := lz_h h3) fx_17 rfl k
theorem entry_329 : pm_entry 329 [.inr (.inr (some 100000))] = (329, 0, [some (.inr (.inr (some 100000))), none, none, none], []) := by
  have e : (pm_m 329).2.1 = 4 := by decide +kernel
  unfold pm_entry
  rw [e]
  rfl
theorem the_run (L : Nat) (xs : Nat → Int) (fm : Option Nat) (hL : L ≤ 3072) (hR : ∀ j, R32 (xs j)) : ∃ (f : Nat) (h' : PH), pm_run pm_K (L, xs, fm) f 13 (pm_entry 329 [.inr (.inr (some 100000))]) h_nil = some (some (.inl 1), h') ∧ h'.2.1 ≤ 7302250 := by
  have w := law_loop (INV := INVb) (X := (L, xs, fm)) (steps _) hR hL 3079 32 v00 0 (by omega) (by omega) (by omega) INV_00
  unfold WV at w
  rw [← lz_hp] at w
  obtain ⟨f, r, h', e, b', v', rfl, rfl⟩ := entry_ok lz_n1 (lz_ev lz_e1) (lz_ev lz_e3) w
  refine ⟨f, hp b' v', ?_, ?_⟩
  · rw [entry_329]; exact e
  · show 49807 ≤ 7302250
    omega
