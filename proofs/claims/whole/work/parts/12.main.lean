/-! calls, and the whole run -/
section CALLS
variable {p : Program} {l : Launch} {e : Env} {R : Room} {s : State} {m : MethodId} {args : Array Value} {below : List Frame} {meth : Method} {c : Code} {Q : State → Prop}
variable {X : PX} {D : va_G} {aC : Nat → ClassId} {ad : Nat → Nat} {base : Nat} {H0 : Heap} {c0 s0 nL : Nat}
variable {cc : ByteArray} {pc : Nat} {lo : List (Option PV)} {st r0 : List PV} {h h1 : PH} {r : Option PV}
theorem run_go {H : Heap} {locs : List Loc} {cells slots mc ms : Nat} {ls : Array Slot} {st0 rest : List Value} {a : Array Value} (hr : va_Run p l e R s m args below meth c H locs cells slots mc ms (F0 m pc ls st0) rest (QcM D aC ad base H0 r h1 a) (fun q => base ≤ q))
    (kk : ∀ (H1 : Heap) (L : List Loc), HR D aC ad base H0 h1 H1 → (∀ q ∈ L, base ≤ q.base) → W p l e R s m args below meth c H1 (locs ++ L) (cells + mc) (slots + ms) Q (F0 m (pc + 3) ls ((r.map (up_v ad)).toList ++ rest))) : W p l e R s m args below meth c H locs cells slots Q (F0 m pc ls st0) := by
  intro T hT X'
  obtain ⟨v, st₀, t, T', L, h0, X1, hL, e1, e2, ⟨hv, hh⟩, st⟩ := hr T hT X'
  cases hv
  obtain ⟨t2, a1, b1⟩ := kk T'.heap L (by rw [e1]; exact hh) hL T' rfl X1
  exact ⟨t2, st t2 a1, b1⟩
theorem up_sum (ad : Nat → Nat) (r0 : List PV) : ((r0.map (up_v ad)).map fun v => v.category).sum = pcats r0 := by
  have e : ((r0.map (up_v ad)).map fun v => v.category) = r0.map pcat := by
    rw [List.map_map]
    exact List.map_congr_left (fun v _ => up_cat ad v)
  rw [e]
  rfl
theorem up_ret (ad : Nat → Nat) (r : Option PV) (r0 : List PV) : (r.toList ++ r0).map (up_v ad) = (r.map (up_v ad)).toList ++ r0.map (up_v ad) := by cases r <;> rfl
theorem go_on {H1 : Heap} {locs L : List Loc} {ls : Array Slot} (hc0 : c0 ≤ h.1) (hs0 : s0 ≤ h.2.1) (hm1 : h.1 ≤ h1.1) (hm2 : h.2.1 ≤ h1.2.1) (kk : Kon p l e R s m args below meth c Q D aC ad base H0 c0 s0 nL (pc + 3) (lo) (r.toList ++ r0) (h1)) (hR : HR D aC ad base H0 h1 H1) (hl : LR ad nL lo ls) (hq : ∀ q ∈ locs, base ≤ q.base) (hL : ∀ q ∈ L, base ≤ q.base) :
    W p l e R s m args below meth c H1 (locs ++ L) (h.1 - c0 + (h1.1 - h.1)) (h.2.1 - s0 + (h1.2.1 - h.2.1)) Q (F0 m (pc + 3) ls ((r.map (up_v ad)).toList ++ r0.map (up_v ad))) := by
  have q := kk H1 (locs ++ L) ls hR hl (t_lL hq hL)
  rw [up_ret, show h1.1 - c0 = h.1 - c0 + (h1.1 - h.1) by omega, show h1.2.1 - s0 = h.2.1 - s0 + (h1.2.1 - h.2.1) by omega] at q
  exact q
theorem sj_callS (hx : p.tables.exec = Jvm.exec) (hb : c.code = cc) (hKK : KK X D aC ad base H0 s) (hts : ∀ w ∈ GT, w.before args s = true) {own : String} (hown : s.vm.findClass own = some m.cls) (hml : c.maxLocals = nL) {k i d : Nat} {As : List PV} (hY : pp_Y.any (fun z => Nat.beq z.1 k) = true) (h98 : (pm_m k).2.2.1 = 98) (hlink : (Jvm.Cond.methodLink own i (pm_y k)).before args s = true ∨ va_Nw (.methodLinkNest own i (pm_y k) "BellBay") s)
    (hM : Met l (pm_y k) (WS k) (rm_of d (h1.1 - h.1) (h1.2.1 - h.2.1)) (PcM X D aC ad base H0 As h) (QcM D aC ad base H0 r h1) (h1.1 - h.1) (h1.2.1 - h.2.1) (fun q => base ≤ q)) (hna : As.length = (pm_m k).1) (hcat : pcats r0 ≤ 8) (hd : decode cc pc = .ok (.invokestatic i, 3)) (hRf : d + 2 ≤ R.frames) (hRl : 37 * (d + 2) ≤ R.locals)
    (hc0 : c0 ≤ h.1) (hs0 : s0 ≤ h.2.1) (hm1 : h.1 ≤ h1.1) (hm2 : h.2.1 ≤ h1.2.1) (hrc : h1.1 - c0 ≤ R.cells) (hrs : h1.2.1 - s0 ≤ R.slots) (kk : Kon p l e R s m args below meth c Q D aC ad base H0 c0 s0 nL (pc + 3) (lo) (r.toList ++ r0) (h1)) : Kon p l e R s m args below meth c Q D aC ad base H0 c0 s0 nL (pc) (lo) (As.reverse ++ r0) (h) := by
  intro H locs ls hH hl hq
  obtain ⟨y1, y2, y3, y4, y5, y6, y7, y8, y9, -⟩ := tf_Y hY
  rw [if_pos h98] at y8
  have hpre : PreS s H (PcM X D aC ad base H0 As h) (As.map (up_v ad)) := ⟨PcM.blind, fun U hU hW => ⟨rfl, by rw [hU]; exact hH, KK.moved hW hKK⟩⟩
  have hst : (F0 m pc ls ((As.reverse ++ r0).map (up_v ad))).stack = (As.map (up_v ad)).reverse ++ r0.map (up_v ad) := by
    show (As.reverse ++ r0).map (up_v ad) = _
    rw [List.map_append, List.map_reverse]
  have hroom : (rm_of d (h1.1 - h.1) (h1.2.1 - h.2.1)).frames + 1 ≤ R.frames ∧ 8 + ((pm_m k).2.1 + 11) + (rm_of d (h1.1 - h.1) (h1.2.1 - h.2.1)).locals ≤ R.locals := ⟨by show d + 1 + 1 ≤ _; omega, by show 8 + ((pm_m k).2.1 + 11) + 37 * (d + 1) ≤ _; omega⟩
  rcases hlink with hlink | hlink
  · refine run_go (va_runS (n := (pm_m k).1) (rest := r0.map (up_v ad)) ⟨hx, hb, hml, hown, hts⟩ hM ⟨callB_of (pm_m k).1 hts (ws_good hY) rfl rfl rfl (hts _ y2) hlink ⟨y6.1, y6.2, y8⟩ hroom, hts _ (y9 h98)⟩ hpre rfl (by rw [List.length_map]; exact hna) hl.2.1 hst (lv_room (by rw [up_sum]; exact hcat)) hd ⟨by omega, by omega⟩) (fun H1 L hR hL => ?_)
    exact go_on hc0 hs0 hm1 hm2 kk hR hl hq hL
  · refine run_go (va_runSN (n := (pm_m k).1) (rest := r0.map (up_v ad)) ⟨hx, hb, hml, hown, hts⟩ hM ⟨va_cnB (pm_m k).1 hts (ws_good hY) rfl rfl rfl hlink (hts _ y2) ⟨y6.1, y6.2, y8⟩ hroom, hts _ (y9 h98), trivial⟩ hpre rfl (by rw [List.length_map]; exact hna) hl.2.1 hst (lv_room (by rw [up_sum]; exact hcat)) hd ⟨by omega, by omega⟩) (fun H1 L hR hL => ?_)
    exact go_on hc0 hs0 hm1 hm2 kk hR hl hq hL
theorem sj_callI (hx : p.tables.exec = Jvm.exec) (hb : c.code = cc) (hKK : KK X D aC ad base H0 s) (hts : ∀ w ∈ GT, w.before args s = true) {own : String} (hown : s.vm.findClass own = some m.cls) (hml : c.maxLocals = nL) {k i d b : Nat} {As : List PV} (hY : pp_Y.any (fun z => Nat.beq z.1 k) = true) (h98 : ¬ (pm_m k).2.2.1 = 98) (hini : (pm_y k).name = "<init>") (hlink : (Jvm.Cond.methodLink own i (pm_y k)).before args s = true ∨ va_Nw (.methodLinkNest own i (pm_y k) "BellBay") s)
    (hM : Met l (pm_y k) (WS k) (rm_of d (h1.1 - h.1) (h1.2.1 - h.2.1)) (PcM X D aC ad base H0 (.inr (.inr (some b)) :: As) h) (QcM D aC ad base H0 r h1) (h1.1 - h.1) (h1.2.1 - h.2.1) (fun q => base ≤ q)) (hna : As.length + 1 = (pm_m k).1) (hcat : pcats r0 ≤ 8) (hd : decode cc pc = .ok (.invokespecial i, 3)) (hRf : d + 2 ≤ R.frames) (hRl : 37 * (d + 2) ≤ R.locals)
    (hc0 : c0 ≤ h.1) (hs0 : s0 ≤ h.2.1) (hm1 : h.1 ≤ h1.1) (hm2 : h.2.1 ≤ h1.2.1) (hrc : h1.1 - c0 ≤ R.cells) (hrs : h1.2.1 - s0 ≤ R.slots) (kk : Kon p l e R s m args below meth c Q D aC ad base H0 c0 s0 nL (pc + 3) (lo) (r.toList ++ r0) (h1)) : Kon p l e R s m args below meth c Q D aC ad base H0 c0 s0 nL (pc) (lo) ((.inr (.inr (some b)) :: As).reverse ++ r0) (h) := by
  intro H locs ls hH hl hq
  obtain ⟨y1, y2, y3, y4, y5, y6, y7, y8, -, y9⟩ := tf_Y hY
  rw [if_neg h98] at y8
  obtain ⟨z1, z2, z3, z4, z5, z6⟩ := y9 h98
  have hpre : PreS s H (PcM X D aC ad base H0 (.inr (.inr (some b)) :: As) h) (.ref (ad b) :: As.map (up_v ad)) := ⟨PcM.blind, fun U hU hW => ⟨rfl, by rw [hU]; exact hH, KK.moved hW hKK⟩⟩
  have hst : (F0 m pc ls (((.inr (.inr (some b)) :: As).reverse ++ r0).map (up_v ad))).stack = (As.map (up_v ad)).reverse ++ .ref (ad b) :: r0.map (up_v ad) := by
    show ((.inr (.inr (some b)) :: As).reverse ++ r0).map (up_v ad) = _
    rw [List.map_append, List.map_reverse, List.map_cons, List.reverse_cons, List.append_assoc]
    rfl
  have hroom : (rm_of d (h1.1 - h.1) (h1.2.1 - h.2.1)).frames + 1 ≤ R.frames ∧ 8 + ((pm_m k).2.1 + 11) + (rm_of d (h1.1 - h.1) (h1.2.1 - h.2.1)).locals ≤ R.locals := ⟨by show d + 1 + 1 ≤ _; omega, by show 8 + ((pm_m k).2.1 + 11) + 37 * (d + 1) ≤ _; omega⟩
  have hws : WS k = Jvm.Cond.code (pm_y k) (pm_by k) (pm_m k).2.1 none :: GT := by unfold WS; rw [z3 hini]
  rcases hlink with hlink | hlink
  · refine run_go (va_runI (n := (pm_m k).1 - 1) (rest := r0.map (up_v ad)) ⟨hx, hb, hml, hown, hts⟩ hM ⟨callB_of ((pm_m k).1 - 1) hts (ws_good hY) hws rfl rfl (hts _ y2) hlink ⟨y6.1, y6.2, y8⟩ hroom, hini, hts _ z2⟩ hpre rfl (by rw [List.length_map]; omega) hl.2.1 hst (lv_room (by rw [up_sum]; exact hcat)) hd ⟨by omega, by omega⟩) (fun H1 L hR hL => ?_)
    exact go_on hc0 hs0 hm1 hm2 kk hR hl hq hL
  · refine run_go (va_runIN (n := (pm_m k).1 - 1) (rest := r0.map (up_v ad)) ⟨hx, hb, hml, hown, hts⟩ hM ⟨va_cnB ((pm_m k).1 - 1) hts (ws_good hY) hws rfl rfl hlink (hts _ y2) ⟨y6.1, y6.2, y8⟩ hroom, hini, hts _ z2⟩ hpre rfl (by rw [List.length_map]; omega) hl.2.1 hst (lv_room (by rw [up_sum]; exact hcat)) hd ⟨by omega, by omega⟩) (fun H1 L hR hL => ?_)
    exact go_on hc0 hs0 hm1 hm2 kk hR hl hq hL
theorem sj_callV (hx : p.tables.exec = Jvm.exec) (hb : c.code = cc) (had : ∀ k : Nat, k < 1000 → ad k = base + k) (hKK : KK X D aC ad base H0 s) (hts : ∀ w ∈ GT, w.before args s = true) {own : String} (hown : s.vm.findClass own = some m.cls) (hml : c.maxLocals = nL) (hsz : s.heap.size = base + c0) (hag : ∀ q : Nat, q < base → s.heap[q]? = H0[q]?) {k i d b : Nat} {As : List PV} (hY : pp_Y.any (fun z => Nat.beq z.1 k) = true) (h98 : ¬ (pm_m k).2.2.1 = 98) (hini : ¬ (pm_y k).name = "<init>") (hlink : (Jvm.Cond.methodLink own i (pm_y k)).before args s = true ∨ va_Nw (.methodLinkNest own i (pm_y k) "BellBay") s) (hrv : pm_recv (pm_m k).2.2.1 h (.inr (.inr (some b)) :: As) = true)
    (hM : Met l (pm_y k) (WS k) (rm_of d (h1.1 - h.1) (h1.2.1 - h.2.1)) (PcM X D aC ad base H0 (.inr (.inr (some b)) :: As) h) (QcM D aC ad base H0 r h1) (h1.1 - h.1) (h1.2.1 - h.2.1) (fun q => base ≤ q)) (hna : As.length + 1 = (pm_m k).1) (hcat : pcats r0 ≤ 8) (hd : decode cc pc = .ok (.invokevirtual i, 3)) (hRf : d + 2 ≤ R.frames) (hRl : 37 * (d + 2) ≤ R.locals)
    (hc0 : c0 ≤ h.1) (hs0 : s0 ≤ h.2.1) (hm1 : h.1 ≤ h1.1) (hm2 : h.2.1 ≤ h1.2.1) (hrc : h1.1 - c0 ≤ R.cells) (hrs : h1.2.1 - s0 ≤ R.slots) (kk : Kon p l e R s m args below meth c Q D aC ad base H0 c0 s0 nL (pc + 3) (lo) (r.toList ++ r0) (h1)) : Kon p l e R s m args below meth c Q D aC ad base H0 c0 s0 nL (pc) (lo) ((.inr (.inr (some b)) :: As).reverse ++ r0) (h) := by
  intro H locs ls hH hl hq
  obtain ⟨y1, y2, y3, y4, y5, y6, y7, y8, -, y9⟩ := tf_Y hY
  rw [if_neg h98] at y8
  obtain ⟨z1, z2, z3, z4, z5, z6⟩ := y9 h98
  have hcell : ∃ cellB : Cell, H[ad b]? = some cellB ∧ cellB.vm.isStatics = false ∧ s.vm.findClass (pm_y k).cls = some cellB.cls := by
    by_cases h99 : (pm_m k).2.2.1 = 99
    · simp only [pm_recv, h99, if_true, Bool.and_eq_true] at hrv
      obtain ⟨j, rfl, hj⟩ := pm_isStr_at hrv.1
      rw [z5 h99]
      exact vk_recv (i := j) (adK := fun i => ad (100001 + 2 * i)) (adV := fun i => ad (100002 + 2 * i)) (hKK.2.2.2.2.1.kept (H1 := s.heap) (fun a g1 g2 => hag a (Nat.not_le.mp g2))) hj (va_Sof hsz hag hc0 hH hq)
    · obtain ⟨hcn, hcl⟩ := z6 h99
      simp only [pm_recv, if_neg h99] at hrv
      split at hrv
      · rename_i c' fs hk
        have hc' : c' = (pm_m k).2.2.1 := by simpa using hrv
        subst hc'
        rw [hH.ad had hk, hcl]
        obtain ⟨cell, g1, g2, g3, -⟩ := at_obj hcn (hH.2.2.2 b _ hk).2
        exact ⟨cell, g1, by rw [g3]; rfl, by rw [g2]; exact (hKK.1.1 _ _ (pm_cl_at hcn)).2.1⟩
      · cases hrv
  have hpre : PreV s H (pm_y k).cls (ad b) (PcM X D aC ad base H0 (.inr (.inr (some b)) :: As) h) (As.map (up_v ad)) := ⟨PcM.blind, hcell, fun U hU hW => ⟨rfl, by rw [hU]; exact hH, KK.moved hW hKK⟩⟩
  have hst : (F0 m pc ls (((.inr (.inr (some b)) :: As).reverse ++ r0).map (up_v ad))).stack = (As.map (up_v ad)).reverse ++ .ref (ad b) :: r0.map (up_v ad) := by
    show ((.inr (.inr (some b)) :: As).reverse ++ r0).map (up_v ad) = _
    rw [List.map_append, List.map_reverse, List.map_cons, List.reverse_cons, List.append_assoc]
    rfl
  have hroom : (rm_of d (h1.1 - h.1) (h1.2.1 - h.2.1)).frames + 1 ≤ R.frames ∧ 8 + ((pm_m k).2.1 + 11) + (rm_of d (h1.1 - h.1) (h1.2.1 - h.2.1)).locals ≤ R.locals := ⟨by show d + 1 + 1 ≤ _; omega, by show 8 + ((pm_m k).2.1 + 11) + 37 * (d + 1) ≤ _; omega⟩
  rcases hlink with hlink | hlink
  · refine run_go (va_runV (n := (pm_m k).1 - 1) (rest := r0.map (up_v ad)) ⟨hx, hb, hml, hown, hts⟩ hM ⟨callB_of ((pm_m k).1 - 1) hts (ws_good hY) rfl rfl rfl (hts _ y2) hlink ⟨y6.1, y6.2, y8⟩ hroom, hts _ z2, hts _ (z4 hini)⟩ hpre rfl (by rw [List.length_map]; omega) hl.2.1 hst (lv_room (by rw [up_sum]; exact hcat)) hd ⟨by omega, by omega⟩) (fun H1 L hR hL => ?_)
    exact go_on hc0 hs0 hm1 hm2 kk hR hl hq hL
  · refine run_go (va_runVN (n := (pm_m k).1 - 1) (rest := r0.map (up_v ad)) ⟨hx, hb, hml, hown, hts⟩ hM ⟨va_cnB ((pm_m k).1 - 1) hts (ws_good hY) rfl rfl rfl hlink (hts _ y2) ⟨y6.1, y6.2, y8⟩ hroom, hts _ z2, hts _ (z4 hini)⟩ hpre rfl (by rw [List.length_map]; omega) hl.2.1 hst (lv_room (by rw [up_sum]; exact hcat)) hd ⟨by omega, by omega⟩) (fun H1 L hR hL => ?_)
    exact go_on hc0 hs0 hm1 hm2 kk hR hl hq hL
theorem n32_if {a b x y : Int} : (if Int32.ofInt a < Int32.ofInt b then Int32.ofInt x else Int32.ofInt y) = Int32.ofInt (if w32 a < w32 b then x else y) := by
  simp only [n32_lt]
  split <;> rfl
theorem n64_if {a b x y : Int} : (if Int64.ofInt a < Int64.ofInt b then Int64.ofInt x else Int64.ofInt y) = Int64.ofInt (if w64 a < w64 b then x else y) := by
  simp only [n64_lt]
  split <;> rfl
/-- whole-number helpers of the JDK -/
theorem sj_math (hx : p.tables.exec = Jvm.exec) (hb : c.code = cc) (hts : ∀ w ∈ GT, w.before args s = true) {own : String} (hown : s.vm.findClass own = some m.cls) (hml : c.maxLocals = nL) {k i : Nat} {As : List PV} {v : PV} (hp : pm_prim k As = some v) (hlink : (Jvm.Cond.methodLink own i (pm_y k)).before args s = true) (hcat : pcats r0 ≤ 8) (hd : decode cc pc = .ok (.invokestatic i, 3)) (hfr : 1 ≤ R.frames) (hlo : 37 ≤ R.locals) (hrc : h.1 - c0 ≤ R.cells) (hrs : h.2.1 - s0 ≤ R.slots) (kk : Kon p l e R s m args below meth c Q D aC ad base H0 c0 s0 nL (pc + 3) (lo) (v :: r0) (h)) : Kon p l e R s m args below meth c Q D aC ad base H0 c0 s0 nL (pc) (lo) (As.reverse ++ r0) (h) := by
  intro H locs ls hH hl hq
  have q := kk H locs ls hH hl hq
  have hml' : c.maxLocals = ls.size := by rw [hml]; exact hl.2.1.symm
  have hsum : ((r0.map (up_v ad)).map fun v => v.category).sum ≤ 8 := by rw [up_sum]; exact hcat
  unfold pm_prim at hp
  split at hp
  · cases hp
    obtain ⟨t1, t2, t3⟩ := tf_m0
    rw [t3] at hlink
    refine va_mmin (rest := r0.map (up_v ad)) hx hb hml' hown hlink (hts _ t1) (hts _ tf_mi) (hts _ t2) hfr (by omega) hrc hrs hd ?_
    rw [n32_if]
    exact q
  · cases hp
    obtain ⟨t1, t2, t3⟩ := tf_m1
    rw [t3] at hlink
    refine va_mmax (rest := r0.map (up_v ad)) hx hb hml' hown hlink (hts _ t1) (hts _ tf_mi) (hts _ t2) hfr (by omega) hrc hrs hd ?_
    rw [n32_if]
    exact q
  · cases hp
    obtain ⟨t1, t2, t3⟩ := tf_m3
    rw [t3] at hlink
    refine va_mmin_long (rest := r0.map (up_v ad)) hx hb hml' hown hlink (hts _ t1) (hts _ tf_mi) (hts _ t2) hfr (by omega) hrc hrs hd ?_
    rw [n64_if]
    exact q
  · cases hp
    obtain ⟨t1, t2, t3⟩ := tf_m4
    rw [t3] at hlink
    refine va_mmax_long (rest := r0.map (up_v ad)) hx hb hml' hown hlink (hts _ t1) (hts _ tf_mi) (hts _ t2) hfr (by omega) hrc hrs hd ?_
    rw [n64_if]
    exact q
  · cases hp
    obtain ⟨t1, t2, t3⟩ := tf_m2
    rw [t3] at hlink
    refine va_mabs (rest := r0.map (up_v ad)) hx hb hml' hown hlink (hts _ t1) (hts _ tf_mi) (hts _ t2) hfr (by omega) hrc hrs hd ?_
    have e1 : ∀ x : Int, (if (0 : Int32) ≤ Int32.ofInt x then Int32.ofInt x else 0 - Int32.ofInt x) = Int32.ofInt (if 0 ≤ w32 x then x else 0 - x) := by
      intro x
      simp only [n32_0, n32_le, w32_0, ← Int32.ofInt_sub]
      split <;> rfl
    rw [e1]
    exact q
  · cases hp
end CALLS
