theorem st_ne_at {i j : Nat} (hi : i < 24) (hj : j < 24) (hij : i ≠ j) : fl_pl ((st_ne.getD j []).getD i 0) (.not (.eq (st_t j) (st_t i))) = true ∨ fl_pl ((st_ne.getD i []).getD j 0) (.not (.eq (st_t i) (st_t j))) = true := by
  have key : ∀ (a : Nat), (List.range' a 6).all (fun i => (List.range 24).all (fun j => decide (i = j) || (if (st_ne.getD i []).getD j 0 = 0 then fl_pl ((st_ne.getD j []).getD i 0) (.not (.eq (st_t j) (st_t i))) else fl_pl ((st_ne.getD i []).getD j 0) (.not (.eq (st_t i) (st_t j)))))) = true → a ≤ i → i < a + 6 → fl_pl ((st_ne.getD j []).getD i 0) (.not (.eq (st_t j) (st_t i))) = true ∨ fl_pl ((st_ne.getD i []).getD j 0) (.not (.eq (st_t i) (st_t j))) = true := by
    intro a ha h1 h2
    have q := List.all_eq_true.mp ha i (List.mem_range'_1.mpr ⟨h1, h2⟩)
    have q := List.all_eq_true.mp q j (List.mem_range.mpr hj)
    simp only [Bool.or_eq_true, decide_eq_true_eq] at q
    rcases q with q | q
    · exact absurd q hij
    · split at q
      · exact Or.inl q
      · exact Or.inr q
  rcases (show i < 6 ∨ (6 ≤ i ∧ i < 12) ∨ (12 ≤ i ∧ i < 18) ∨ (18 ≤ i ∧ i < 24) by omega) with h | h | h | h
  · exact key 0 st_ne_ok0 (by omega) (by omega)
  · exact key 6 st_ne_ok6 (by omega) (by omega)
  · exact key 12 st_ne_ok12 (by omega) (by omega)
  · exact key 18 st_ne_ok18 (by omega) (by omega)
theorem st_strs {args : Array Value} {s : State} (h : (Jvm.Cond.and given_1 narrow_1).before args s = true) : ∃ adK adV : Nat → Nat, vk_S 24 pm_lens pm_bytI adK adV (fun q => s.heap.size ≤ q) s s.heap ∧ ∀ i : Nat, i < 24 → (st_t i).eval args s none [] s = some (.ref (adK i)) := by
  refine vk_Sof (args := args) (tm := st_t) ?_ ?_ ?_ ?_ ?_ ?_ ?_ (fun a ha => Nat.not_le.mpr ha)
  · have e : (List.range 24).all (fun i => decide (pm_lens.getD i 0 < 2 ^ 31)) = true := by decide +kernel
    intro i hi
    simpa using List.all_eq_true.mp e i (List.mem_range.mpr hi)
  · exact fun i hi => fl_use h (List.all_eq_true.mp st_ex_ok i (List.mem_range.mpr hi))
  · exact fun i hi => fl_use h (List.all_eq_true.mp st_co_ok i (List.mem_range.mpr hi))
  · exact fun i hi => fl_use h (List.all_eq_true.mp st_ar_ok i (List.mem_range.mpr hi))
  · exact fun i hi => fl_use h (List.all_eq_true.mp st_le_ok i (List.mem_range.mpr hi))
  · exact fun i hi j hj => fl_use h (List.all_eq_true.mp (List.all_eq_true.mp st_el_ok i (List.mem_range.mpr hi)) j (List.mem_range.mpr hj))
  · intro i j hi hj hij
    rcases st_ne_at hi hj hij with q | q
    · exact Or.inr (fl_use h q)
    · exact Or.inl (fl_use h q)
def ns_p : List ((Nat × Nat × Nat × Nat) × Nat) := [((11, 19, (2, 1)), 146), ((4, 11, (3, 1)), 152), ((1, 23, (4, 1)), 158), ((1, 30, (5, 1)), 193), ((1, 37, (6, 1)), 221), ((11, 26, (3, 1)), 359), ((11, 33, (7, 1)), 362), ((11, 40, (8, 1)), 386), ((10, 11, (5, 1)), 391), ((11, 47, (9, 1)), 447), ((11, 83, (12, 1)), 597), ((5, 90, (63, 1)), 961), ((6, 90, (63, 1)), 1120)]
theorem ns_p_ok : ns_p.all (fun z => decide (lw_tbl[z.2]? = some (.methodLinkNest (pm_cn z.1.1) z.1.2.1 (pm_y z.1.2.2.1) "BellBay"))) = true := by decide +kernel
theorem ns_p_eq : ns_p.map (fun z => z.1) = pm_tM.filter (fun q => Nat.beq q.2.2.2 1) := by decide +kernel
theorem ns_use {q : Nat × Nat × Nat × Nat} (hq : q ∈ pm_tM) (h1 : q.2.2.2 = 1) : (Jvm.Cond.methodLinkNest (pm_cn q.1) q.2.1 (pm_y q.2.2.1) "BellBay") ∈ lw_tbl := by
  have hm : q ∈ pm_tM.filter (fun q => Nat.beq q.2.2.2 1) := List.mem_filter.mpr ⟨hq, by rw [h1]; rfl⟩
  rw [← ns_p_eq] at hm
  obtain ⟨z, hz, rfl⟩ := List.mem_map.mp hm
  have e := List.all_eq_true.mp ns_p_ok z hz
  simp only [decide_eq_true_eq] at e
  exact List.mem_of_getElem? e
def sr_p : List ((Nat × Nat × Nat) × Nat) := [((4, 157, 0), 716), ((4, 159, 1), 777), ((4, 163, 2), 782), ((4, 90, 3), 787), ((4, 173, 4), 796), ((4, 175, 5), 797), ((4, 177, 6), 798), ((4, 179, 7), 799), ((4, 95, 8), 804), ((4, 185, 9), 809), ((4, 187, 10), 810), ((4, 196, 11), 815), ((4, 198, 12), 816), ((4, 200, 13), 817), ((4, 100, 14), 822), ((4, 150, 15), 827), ((4, 105, 16), 832), ((4, 120, 17), 833), ((4, 207, 18), 838), ((4, 208, 19), 839), ((4, 137, 20), 840), ((4, 145, 21), 841), ((4, 152, 22), 842), ((4, 215, 23), 847)]
theorem sr_p_ok : sr_p.all (fun z => decide (lw_tbl[z.2]? = some (.stringRef (pm_cn z.1.1) z.1.2.1 (pm_txts.getD z.1.2.2 ""))) && decide (st_o.getD z.1.2.2 ("", 0) = (pm_cn z.1.1, z.1.2.1))) = true := by decide +kernel
theorem sr_p_eq : sr_p.map (fun z => z.1) = pm_tS := by decide +kernel
theorem sr_use {q : Nat × Nat × Nat} (hq : q ∈ pm_tS) : (Jvm.Cond.stringRef (pm_cn q.1) q.2.1 (pm_txts.getD q.2.2 "")) ∈ lw_tbl ∧ st_t q.2.2 = .string (pm_cn q.1) q.2.1 := by
  rw [← sr_p_eq] at hq
  obtain ⟨z, hz, rfl⟩ := List.mem_map.mp hq
  have e := List.all_eq_true.mp sr_p_ok z hz
  simp only [Bool.and_eq_true, decide_eq_true_eq] at e
  refine ⟨List.mem_of_getElem? e.1, ?_⟩
  unfold st_t
  rw [e.2]
theorem st_w0 : (Jvm.Cond.arrayOver (.object "BellBay$Slot")) ∈ lw_tbl := List.mem_of_getElem? (i := 595) (by decide +kernel)
theorem st_w1 : (Jvm.Cond.arrayOver (.object "BellBay$Bay")) ∈ lw_tbl := List.mem_of_getElem? (i := 621) (by decide +kernel)
theorem st_w2 : (Jvm.Cond.laysStatic "java/lang/String" "COMPACT_STRINGS" "Z") ∈ lw_tbl := List.mem_of_getElem? (i := 734) (by decide +kernel)
theorem st_w3 : (Jvm.Cond.laysStatic "jdk/internal/util/Preconditions" "SIOOBE_FORMATTER" "Ljava/util/function/BiFunction;") ∈ lw_tbl := List.mem_of_getElem? (i := 750) (by decide +kernel)
theorem st_w4 : (Jvm.Cond.initialized "java/lang/String") ∈ lw_tbl := List.mem_of_getElem? (i := 130) (by decide +kernel)
theorem st_w5 : (Jvm.Cond.initialized "jdk/internal/util/Preconditions") ∈ lw_tbl := List.mem_of_getElem? (i := 132) (by decide +kernel)
theorem st_w6 : fl_pl 4 (.eq (.static "java/lang/String" "COMPACT_STRINGS" "Z") (.int 1)) = true := by decide +kernel
theorem st_w7 : fl_pl 5 (.isRef (.static "jdk/internal/util/Preconditions" "SIOOBE_FORMATTER" "Ljava/util/function/BiFunction;")) = true := by decide +kernel
def ad_of (base b fm : Nat) (adK adV : Nat → Nat) (k : Nat) : Nat := if k < 1000 then base + k else if k = 100000 then b else if k = 99999 then fm else if k % 2 = 1 then adK ((k - 100001) / 2) else adV ((k - 100002) / 2)
theorem ad_K {base b fm : Nat} {adK adV : Nat → Nat} (i : Nat) : ad_of base b fm adK adV (100001 + 2 * i) = adK i := by
  unfold ad_of
  rw [if_neg (by omega), if_neg (by omega), if_neg (by omega), if_pos (by omega), show (100001 + 2 * i - 100001) / 2 = i by omega]
theorem ad_V {base b fm : Nat} {adK adV : Nat → Nat} (i : Nat) : ad_of base b fm adK adV (100002 + 2 * i) = adV i := by
  unfold ad_of
  rw [if_neg (by omega), if_neg (by omega), if_neg (by omega), if_neg (by omega), show (100002 + 2 * i - 100002) / 2 = i by omega]
theorem arr_of {s : State} {args : Array Value} {ty : FieldType} (h : (Jvm.Cond.arrayClass ty).before args s = true) : ∃ cA, ArrOfT s cA ty ∧ s.vm.findClass ("[" ++ ty.toString) = some cA := by
  obtain ⟨c, k, comp, h1, h2, h3⟩ := Cond.arrayClass_spec h
  exact ⟨c, fun n z => ⟨fun k h => (by cases h), k, h2, comp, h3⟩, h1⟩
theorem arq_of {s : State} {C : String} (h : va_AO C s) : ∃ cA, ArrOfT s cA (.object C) ∧ va_RA s cA (.object C) := by
  obtain ⟨comp, c, k, h1, h2, h3, h4, h5⟩ := Cond.arrayOver_spec h
  exact ⟨c, fun n z => ⟨fun k h => (by cases h), k, h3, comp, h4⟩, k, comp, h3, h4, h1, h5⟩
theorem start_KK {s : State} {b L : Nat} {xs : Nat → Int32} (hts : ∀ w ∈ lw_tbl, w.before #[Value.ref b] s = true) (hX : va_X b L xs s s.heap) (hgv : (Jvm.Cond.and given_1 narrow_1).before #[Value.ref b] s = true) :
    ∃ (D : va_G) (aC : Nat → ClassId) (ad : Nat → Nat) (fm : Option Nat), (∀ k : Nat, k < 1000 → ad k = s.heap.size + k) ∧ ad 100000 = b ∧ KK (L, (fun j => (xs j).toInt), fm) D aC ad s.heap.size s.heap s := by
  have htG : ∀ w ∈ GT, w.before #[Value.ref b] s = true := fun w hw => hts w (List.mem_filter.mp hw).1
  have hA : ∀ a : Nat, a < s.heap.size → ¬ (fun q => s.heap.size ≤ q) a := fun a ha => Nat.not_le.mpr ha
  obtain ⟨adK, adV, hS, hev⟩ := st_strs hgv
  have hcl : ∀ c : Nat, ∃ q : ClassId × (Nat → Nat), c < 13 → u_Kn s (pm_cn c) (pm_T c) (pm_N c) q.1 q.2 := by
    intro c
    by_cases hc : c < 13
    · obtain ⟨cC, iS, h⟩ := u_known (n := pm_N c) htG (tf_c hc).1 (htG _ (tf_c hc).2.1)
      exact ⟨(cC, iS), fun _ => h⟩
    · exact ⟨(0, fun _ => 0), fun h => absurd h hc⟩
  obtain ⟨dd, hdd⟩ := Classical.axiomOfChoice hcl
  obtain ⟨a0, h0, g0⟩ := arr_of (htG _ tf_j0)
  obtain ⟨a1, h1, g1⟩ := arr_of (htG _ tf_j1)
  obtain ⟨a2, h2, g2⟩ := arr_of (htG _ tf_j2)
  obtain ⟨a3, h3, g3⟩ := arr_of (htG _ tf_j3)
  have o0 : va_AO "BellBay$Slot" s := va_AO.of (hts _ st_w0)
  have o1 : va_AO "BellBay$Bay" s := va_AO.of (hts _ st_w1)
  obtain ⟨a4, h4, g4⟩ := arq_of o0
  obtain ⟨a5, h5, g5⟩ := arq_of o1
  have hz : va_Z "java/lang/String" "COMPACT_STRINGS" "Z" (.int 1) (fun q => s.heap.size ≤ q) s s.heap := va_Zof (hts _ st_w2) (hts _ st_w4) (va_eqi (fl_use hgv st_w6)) hA
  have hq : va_Zq "jdk/internal/util/Preconditions" "SIOOBE_FORMATTER" "Ljava/util/function/BiFunction;" (fun q => s.heap.size ≤ q) s s.heap := va_Zqof (hts _ st_w3) (hts _ st_w5) (fl_use hgv st_w7) hA
  have hfm : ∃ (fm : Option Nat) (fa : Nat), va_Z "jdk/internal/util/Preconditions" "SIOOBE_FORMATTER" "Ljava/util/function/BiFunction;" (up_v (ad_of s.heap.size b fa adK adV) (.inr (.inr fm))) (fun q => s.heap.size ≤ q) s s.heap := by
    rcases hq with h | ⟨t, h⟩
    · exact ⟨none, 0, h⟩
    · refine ⟨some 99999, t, ?_⟩
      have e : up_v (ad_of s.heap.size b t adK adV) (.inr (.inr (some 99999))) = .ref t := by
        show Value.ref (ad_of s.heap.size b t adK adV 99999) = _
        unfold ad_of
        rw [if_neg (by omega), if_neg (by omega), if_pos rfl]
      rw [e]
      exact h
  obtain ⟨fm, fa, hfm⟩ := hfm
  refine ⟨(fun c => (dd c).1, fun c => (dd c).2), (fun t => [a0, a1, a2, a3, a4, a5].getD t 0), ad_of s.heap.size b fa adK adV, fm, fun k hk => by unfold ad_of; rw [if_pos hk], by unfold ad_of; rw [if_neg (by omega), if_pos rfl], ⟨?_, ?_⟩, ?_, ⟨o0, o1⟩, ?_, ?_, hz, hfm, ?_⟩
  · intro c q hq
    have hc : c < 13 := by
      have := (List.getElem?_eq_some_iff.mp hq).1
      simpa [pm_cl] using this
    rw [pm_cl_at hc] at hq
    cases hq
    exact hdd c hc
  · intro k q hk
    match k, hk with
    | 0, hk => cases hk; exact ⟨h0, g0⟩
    | 1, hk => cases hk; exact ⟨h1, g1⟩
    | 2, hk => cases hk; exact ⟨h2, g2⟩
    | 3, hk => cases hk; exact ⟨h3, g3⟩
    | 4, hk => cases hk; exact ⟨h4, g4⟩
    | 5, hk => cases hk; exact ⟨h5, g5⟩
    | k + 6, hk => simp [pm_tys] at hk
  · exact fun q hq h1 => va_Nw.of rfl (hts _ (ns_use hq h1))
  · intro q hq
    obtain ⟨e1, e2⟩ := sr_use hq
    have e3 := hev q.2.2 (tf_S hq)
    rw [e2] at e3
    rw [ad_K]
    exact vk_R.of (hts _ e1) e3
  · have e1 : (fun i => ad_of s.heap.size b fa adK adV (100001 + 2 * i)) = adK := funext fun i => ad_K i
    have e2 : (fun i => ad_of s.heap.size b fa adK adV (100002 + 2 * i)) = adV := funext fun i => ad_V i
    rw [e1, e2]
    exact hS
  · have e1 : ad_of s.heap.size b fa adK adV 100000 = b := by unfold ad_of; rw [if_neg (by omega), if_pos rfl]
    have e2 : (fun j => Int32.ofInt ((xs j).toInt)) = xs := funext fun j => Int32.ofInt_toInt _
    show va_X _ L (fun j => Int32.ofInt ((xs j).toInt)) s s.heap
    rw [e1, e2]
    exact hX
