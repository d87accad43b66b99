/-! one instruction of the plain machine is one of the true one -/
def Kon (p : Program) (l : Launch) (e : Env) (R : Room) (s : State) (m : MethodId) (args : Array Value) (below : List Frame) (meth : Method) (c : Code) (Q : State → Prop) (D : va_G) (aC : Nat → ClassId) (ad : Nat → Nat) (base : Nat) (H0 : Heap) (c0 s0 nL : Nat) (pc : Nat) (lo : List (Option PV)) (st : List PV) (h : PH) : Prop :=
  ∀ (H : Heap) (locs : List Loc) (ls : Array Slot), HR D aC ad base H0 h H → LR ad nL lo ls → (∀ q ∈ locs, base ≤ q.base) → W p l e R s m args below meth c H locs (h.1 - c0) (h.2.1 - s0) Q (F0 m pc ls (st.map (up_v ad)))
section SIM
variable {p : Program} {l : Launch} {e : Env} {R : Room} {s : State} {m : MethodId} {args : Array Value} {below : List Frame} {meth : Method} {c : Code} {Q : State → Prop}
variable {X : PX} {D : va_G} {aC : Nat → ClassId} {ad : Nat → Nat} {base : Nat} {H0 : Heap} {c0 s0 nL : Nat}
variable {cc : ByteArray} {pc : Nat} {lo : List (Option PV)} {st r : List PV} {h : PH}
theorem sj_iconst (hx : p.tables.exec = Jvm.exec) (hb : c.code = cc) {v : Int} (hd : decode cc pc = .ok (.iconst v, 1)) (k : Kon p l e R s m args below meth c Q D aC ad base H0 c0 s0 nL (pc + 1) (lo) (.inl v :: st) (h)) : Kon p l e R s m args below meth c Q D aC ad base H0 c0 s0 nL (pc) (lo) (st) (h) :=
  fun H locs ls hH hl hq => lv_iconst hx hb hd rfl (k H locs ls hH hl hq)
theorem sj_bipush (hx : p.tables.exec = Jvm.exec) (hb : c.code = cc) {v : Int} (hd : decode cc pc = .ok (.bipush v, 2)) (h1 : -128 ≤ v ∧ v < 128) (k : Kon p l e R s m args below meth c Q D aC ad base H0 c0 s0 nL (pc + 2) (lo) (.inl v :: st) (h)) : Kon p l e R s m args below meth c Q D aC ad base H0 c0 s0 nL (pc) (lo) (st) (h) :=
  fun H locs ls hH hl hq => lv_bipush hx hb hd (n32_bi h1.1 h1.2) (k H locs ls hH hl hq)
theorem sj_sipush (hx : p.tables.exec = Jvm.exec) (hb : c.code = cc) {v : Int} (hd : decode cc pc = .ok (.sipush v, 3)) (h1 : -32768 ≤ v ∧ v < 32768) (k : Kon p l e R s m args below meth c Q D aC ad base H0 c0 s0 nL (pc + 3) (lo) (.inl v :: st) (h)) : Kon p l e R s m args below meth c Q D aC ad base H0 c0 s0 nL (pc) (lo) (st) (h) :=
  fun H locs ls hH hl hq => lv_sipush hx hb hd (n32_si h1.1 h1.2) (k H locs ls hH hl hq)
theorem sj_lconst (hx : p.tables.exec = Jvm.exec) (hb : c.code = cc) {v : Fin 2} (hd : decode cc pc = .ok (.lconst v, 1)) (k : Kon p l e R s m args below meth c Q D aC ad base H0 c0 s0 nL (pc + 1) (lo) (.inr (.inl ((v : Nat) : Int)) :: st) (h)) : Kon p l e R s m args below meth c Q D aC ad base H0 c0 s0 nL (pc) (lo) (st) (h) :=
  fun H locs ls hH hl hq => lv_lconst hx hb hd (n64_nat _) (k H locs ls hH hl hq)
theorem sj_ldc (hx : p.tables.exec = Jvm.exec) (hb : c.code = cc) {own : String} {i : Nat} {v : Int} (hown : s.vm.findClass own = some m.cls) (hw : (Jvm.Cond.constant own i (Int32.ofInt v)).before args s = true) (hd : decode cc pc = .ok (.ldc i, 2)) (k : Kon p l e R s m args below meth c Q D aC ad base H0 c0 s0 nL (pc + 2) (lo) (.inl v :: st) (h)) : Kon p l e R s m args below meth c Q D aC ad base H0 c0 s0 nL (pc) (lo) (st) (h) :=
  fun H locs ls hH hl hq => lv_ldc hx hb hown hw hd (k H locs ls hH hl hq)
theorem sj_ldcw (hx : p.tables.exec = Jvm.exec) (hb : c.code = cc) {own : String} {i : Nat} {v : Int} (hown : s.vm.findClass own = some m.cls) (hw : (Jvm.Cond.constant own i (Int32.ofInt v)).before args s = true) (hd : decode cc pc = .ok (.ldc_w i, 3)) (k : Kon p l e R s m args below meth c Q D aC ad base H0 c0 s0 nL (pc + 3) (lo) (.inl v :: st) (h)) : Kon p l e R s m args below meth c Q D aC ad base H0 c0 s0 nL (pc) (lo) (st) (h) :=
  fun H locs ls hH hl hq => lv_ldcw hx hb hown hw hd (k H locs ls hH hl hq)
theorem sj_ldc2 (hx : p.tables.exec = Jvm.exec) (hb : c.code = cc) {own : String} {i : Nat} {v : Int} (hown : s.vm.findClass own = some m.cls) (hw : (Jvm.Cond.constantLong own i (Int64.ofInt v)).before args s = true) (hd : decode cc pc = .ok (.ldc2_w i, 3)) (k : Kon p l e R s m args below meth c Q D aC ad base H0 c0 s0 nL (pc + 3) (lo) (.inr (.inl v) :: st) (h)) : Kon p l e R s m args below meth c Q D aC ad base H0 c0 s0 nL (pc) (lo) (st) (h) :=
  fun H locs ls hH hl hq => lv_ldc2 hx hb hown hw hd (k H locs ls hH hl hq)
theorem sj_ldcS (hx : p.tables.exec = Jvm.exec) (hb : c.code = cc) {own tx : String} {i a : Nat} (hown : s.vm.findClass own = some m.cls) (hZ : vk_R own i tx (ad a) s) (hd : decode cc pc = .ok (.ldc i, 2)) (k : Kon p l e R s m args below meth c Q D aC ad base H0 c0 s0 nL (pc + 2) (lo) (.inr (.inr (some a)) :: st) (h)) : Kon p l e R s m args below meth c Q D aC ad base H0 c0 s0 nL (pc) (lo) (st) (h) :=
  fun H locs ls hH hl hq => va_ldcS hx hb hown hZ hd (k H locs ls hH hl hq)
theorem sj_iload_n (hx : p.tables.exec = Jvm.exec) (hb : c.code = cc) {k : Fin 4} {x : Int} (hd : decode cc pc = .ok (.iload_n k, 1)) (hi : lo[(k : Nat)]? = some (some (.inl x))) (kk : Kon p l e R s m args below meth c Q D aC ad base H0 c0 s0 nL (pc + 1) (lo) (.inl x :: st) (h)) : Kon p l e R s m args below meth c Q D aC ad base H0 c0 s0 nL (pc) (lo) (st) (h) :=
  fun H locs ls hH hl hq => lv_iload_n hx hb hd rfl (hl.2.2.2 _ _ hi) (kk H locs ls hH hl hq)
theorem sj_iload (hx : p.tables.exec = Jvm.exec) (hb : c.code = cc) {i : Nat} {x : Int} (hd : decode cc pc = .ok (.iload i, 2)) (hi : lo[i]? = some (some (.inl x))) (kk : Kon p l e R s m args below meth c Q D aC ad base H0 c0 s0 nL (pc + 2) (lo) (.inl x :: st) (h)) : Kon p l e R s m args below meth c Q D aC ad base H0 c0 s0 nL (pc) (lo) (st) (h) :=
  fun H locs ls hH hl hq => lv_iload hx hb hd (hl.2.2.2 _ _ hi) (kk H locs ls hH hl hq)
theorem sj_istore_n (hx : p.tables.exec = Jvm.exec) (hb : c.code = cc) {k : Fin 4} {x : Int} (hd : decode cc pc = .ok (.istore_n k, 1)) (hi : (k : Nat) < lo.length) (kk : Kon p l e R s m args below meth c Q D aC ad base H0 c0 s0 nL (pc + 1) (pset lo (k : Nat) (.inl x)) (r) (h)) : Kon p l e R s m args below meth c Q D aC ad base H0 c0 s0 nL (pc) (lo) (.inl x :: r) (h) := by
  intro H locs ls hH hl hq
  refine lv_istore_n hx hb hd rfl hl.has (by rw [← hl.1]; exact hi) rfl (fun ls' hl' => ?_)
  exact kk H locs ls' hH (hl.set1 rfl hl') hq
theorem sj_istore (hx : p.tables.exec = Jvm.exec) (hb : c.code = cc) {i : Nat} {x : Int} (hd : decode cc pc = .ok (.istore i, 2)) (hi : i < lo.length) (kk : Kon p l e R s m args below meth c Q D aC ad base H0 c0 s0 nL (pc + 2) (pset lo i (.inl x)) (r) (h)) : Kon p l e R s m args below meth c Q D aC ad base H0 c0 s0 nL (pc) (lo) (.inl x :: r) (h) := by
  intro H locs ls hH hl hq
  refine lv_istore hx hb hd hl.has (by rw [← hl.1]; exact hi) rfl (fun ls' hl' => ?_)
  exact kk H locs ls' hH (hl.set1 rfl hl') hq
theorem sj_lload_n (hx : p.tables.exec = Jvm.exec) (hb : c.code = cc) {k : Fin 4} {x : Int} (hd : decode cc pc = .ok (.lload_n k, 1)) (hi : lo[(k : Nat)]? = some (some (.inr (.inl x)))) (kk : Kon p l e R s m args below meth c Q D aC ad base H0 c0 s0 nL (pc + 1) (lo) (.inr (.inl x) :: st) (h)) : Kon p l e R s m args below meth c Q D aC ad base H0 c0 s0 nL (pc) (lo) (st) (h) :=
  fun H locs ls hH hl hq => lv_lload_n hx hb hd rfl (hl.2.2.2 _ _ hi) (kk H locs ls hH hl hq)
theorem sj_lload (hx : p.tables.exec = Jvm.exec) (hb : c.code = cc) {i : Nat} {x : Int} (hd : decode cc pc = .ok (.lload i, 2)) (hi : lo[i]? = some (some (.inr (.inl x)))) (kk : Kon p l e R s m args below meth c Q D aC ad base H0 c0 s0 nL (pc + 2) (lo) (.inr (.inl x) :: st) (h)) : Kon p l e R s m args below meth c Q D aC ad base H0 c0 s0 nL (pc) (lo) (st) (h) :=
  fun H locs ls hH hl hq => lv_lload hx hb hd (hl.2.2.2 _ _ hi) (kk H locs ls hH hl hq)
theorem sj_lstore_n (hx : p.tables.exec = Jvm.exec) (hb : c.code = cc) {k : Fin 4} {x : Int} (hd : decode cc pc = .ok (.lstore_n k, 1)) (hi : (k : Nat) + 1 < lo.length) (kk : Kon p l e R s m args below meth c Q D aC ad base H0 c0 s0 nL (pc + 1) (pset lo (k : Nat) (.inr (.inl x))) (r) (h)) : Kon p l e R s m args below meth c Q D aC ad base H0 c0 s0 nL (pc) (lo) (.inr (.inl x) :: r) (h) := by
  intro H locs ls hH hl hq
  refine lv_lstore_n hx hb hd rfl hl.has (by rw [← hl.1]; exact hi) rfl (fun ls' hl' => ?_)
  exact kk H locs ls' hH (hl.set2 rfl hl') hq
theorem sj_lstore (hx : p.tables.exec = Jvm.exec) (hb : c.code = cc) {i : Nat} {x : Int} (hd : decode cc pc = .ok (.lstore i, 2)) (hi : i + 1 < lo.length) (kk : Kon p l e R s m args below meth c Q D aC ad base H0 c0 s0 nL (pc + 2) (pset lo i (.inr (.inl x))) (r) (h)) : Kon p l e R s m args below meth c Q D aC ad base H0 c0 s0 nL (pc) (lo) (.inr (.inl x) :: r) (h) := by
  intro H locs ls hH hl hq
  refine lv_lstore hx hb hd hl.has (by rw [← hl.1]; exact hi) rfl (fun ls' hl' => ?_)
  exact kk H locs ls' hH (hl.set2 rfl hl') hq
theorem sj_aload_n (hx : p.tables.exec = Jvm.exec) (hb : c.code = cc) {k : Fin 4} {x : Nat} (hd : decode cc pc = .ok (.aload_n k, 1)) (hi : lo[(k : Nat)]? = some (some (.inr (.inr (some x))))) (kk : Kon p l e R s m args below meth c Q D aC ad base H0 c0 s0 nL (pc + 1) (lo) (.inr (.inr (some x)) :: st) (h)) : Kon p l e R s m args below meth c Q D aC ad base H0 c0 s0 nL (pc) (lo) (st) (h) :=
  fun H locs ls hH hl hq => lv_aload_n hx hb hd rfl (hl.2.2.2 _ _ hi) (kk H locs ls hH hl hq)
theorem sj_aload (hx : p.tables.exec = Jvm.exec) (hb : c.code = cc) {i : Nat} {x : Nat} (hd : decode cc pc = .ok (.aload i, 2)) (hi : lo[i]? = some (some (.inr (.inr (some x))))) (kk : Kon p l e R s m args below meth c Q D aC ad base H0 c0 s0 nL (pc + 2) (lo) (.inr (.inr (some x)) :: st) (h)) : Kon p l e R s m args below meth c Q D aC ad base H0 c0 s0 nL (pc) (lo) (st) (h) :=
  fun H locs ls hH hl hq => lv_aload hx hb hd (hl.2.2.2 _ _ hi) (kk H locs ls hH hl hq)
theorem sj_astore_n (hx : p.tables.exec = Jvm.exec) (hb : c.code = cc) {k : Fin 4} {x : Nat} (hd : decode cc pc = .ok (.astore_n k, 1)) (hi : (k : Nat) < lo.length) (kk : Kon p l e R s m args below meth c Q D aC ad base H0 c0 s0 nL (pc + 1) (pset lo (k : Nat) (.inr (.inr (some x)))) (r) (h)) : Kon p l e R s m args below meth c Q D aC ad base H0 c0 s0 nL (pc) (lo) (.inr (.inr (some x)) :: r) (h) := by
  intro H locs ls hH hl hq
  refine lv_astore_n hx hb hd rfl hl.has (by rw [← hl.1]; exact hi) rfl (fun ls' hl' => ?_)
  exact kk H locs ls' hH (hl.set1 rfl hl') hq
theorem sj_astore (hx : p.tables.exec = Jvm.exec) (hb : c.code = cc) {i : Nat} {x : Nat} (hd : decode cc pc = .ok (.astore i, 2)) (hi : i < lo.length) (kk : Kon p l e R s m args below meth c Q D aC ad base H0 c0 s0 nL (pc + 2) (pset lo i (.inr (.inr (some x)))) (r) (h)) : Kon p l e R s m args below meth c Q D aC ad base H0 c0 s0 nL (pc) (lo) (.inr (.inr (some x)) :: r) (h) := by
  intro H locs ls hH hl hq
  refine lv_astore hx hb hd hl.has (by rw [← hl.1]; exact hi) rfl (fun ls' hl' => ?_)
  exact kk H locs ls' hH (hl.set1 rfl hl') hq
theorem sj_iinc (hx : p.tables.exec = Jvm.exec) (hb : c.code = cc) {i : Nat} {d x : Int} (hd : decode cc pc = .ok (.iinc i d, 3)) (hi : lo[i]? = some (some (.inl x))) (k : Kon p l e R s m args below meth c Q D aC ad base H0 c0 s0 nL (pc + 3) (pset lo i (.inl (x + d))) (st) (h)) : Kon p l e R s m args below meth c Q D aC ad base H0 c0 s0 nL (pc) (lo) (st) (h) := by
  intro H locs ls hH hl hq
  obtain ⟨j, hj⟩ := List.getElem?_of_mem (pl_mem (ad := ad) hi)
  have hn : i < nL := by rw [← hl.1]; exact (List.getElem?_eq_some_iff.mp hi).1
  refine lv_iinc (k := j) (v := Int32.ofInt (x + d)) hx hb hd hl.has hj (by rw [Int32.ofInt_add]) hn rfl (fun ls' hl' => ?_)
  exact k H locs ls' hH (hl.set1 rfl hl') hq
theorem sj_iadd (hx : p.tables.exec = Jvm.exec) (hb : c.code = cc) {x y : Int} (hd : decode cc pc = .ok (.iadd, 1)) (k : Kon p l e R s m args below meth c Q D aC ad base H0 c0 s0 nL (pc + 1) (lo) (.inl (x + y) :: r) (h)) : Kon p l e R s m args below meth c Q D aC ad base H0 c0 s0 nL (pc) (lo) (.inl y :: .inl x :: r) (h) := by
  intro H locs ls hH hl hq
  refine lv_iadd hx hb hd ?_
  have q := k H locs ls hH hl hq
  simp only [List.map_cons, up_v, Int32.ofInt_add] at q
  exact q
theorem sj_isub (hx : p.tables.exec = Jvm.exec) (hb : c.code = cc) {x y : Int} (hd : decode cc pc = .ok (.isub, 1)) (k : Kon p l e R s m args below meth c Q D aC ad base H0 c0 s0 nL (pc + 1) (lo) (.inl (x - y) :: r) (h)) : Kon p l e R s m args below meth c Q D aC ad base H0 c0 s0 nL (pc) (lo) (.inl y :: .inl x :: r) (h) := by
  intro H locs ls hH hl hq
  refine lv_isub hx hb hd ?_
  have q := k H locs ls hH hl hq
  simp only [List.map_cons, up_v, Int32.ofInt_sub] at q
  exact q
theorem sj_imul (hx : p.tables.exec = Jvm.exec) (hb : c.code = cc) {x y : Int} (hd : decode cc pc = .ok (.imul, 1)) (k : Kon p l e R s m args below meth c Q D aC ad base H0 c0 s0 nL (pc + 1) (lo) (.inl (x * y) :: r) (h)) : Kon p l e R s m args below meth c Q D aC ad base H0 c0 s0 nL (pc) (lo) (.inl y :: .inl x :: r) (h) := by
  intro H locs ls hH hl hq
  refine lv_imul hx hb hd ?_
  have q := k H locs ls hH hl hq
  simp only [List.map_cons, up_v, Int32.ofInt_mul] at q
  exact q
theorem sj_iand (hx : p.tables.exec = Jvm.exec) (hb : c.code = cc) {x y : Int} (hd : decode cc pc = .ok (.iand, 1)) (k : Kon p l e R s m args below meth c Q D aC ad base H0 c0 s0 nL (pc + 1) (lo) (.inl (pm_and x y) :: r) (h)) : Kon p l e R s m args below meth c Q D aC ad base H0 c0 s0 nL (pc) (lo) (.inl y :: .inl x :: r) (h) := by
  intro H locs ls hH hl hq
  refine lv_iand hx hb hd ?_
  have q := k H locs ls hH hl hq
  simp only [List.map_cons, up_v, pm_and, Int32.ofInt_toInt] at q
  exact q
theorem sj_ior (hx : p.tables.exec = Jvm.exec) (hb : c.code = cc) {x y : Int} (hd : decode cc pc = .ok (.ior, 1)) (k : Kon p l e R s m args below meth c Q D aC ad base H0 c0 s0 nL (pc + 1) (lo) (.inl (pm_or x y) :: r) (h)) : Kon p l e R s m args below meth c Q D aC ad base H0 c0 s0 nL (pc) (lo) (.inl y :: .inl x :: r) (h) := by
  intro H locs ls hH hl hq
  refine lv_ior hx hb hd ?_
  have q := k H locs ls hH hl hq
  simp only [List.map_cons, up_v, pm_or, Int32.ofInt_toInt] at q
  exact q
theorem sj_ixor (hx : p.tables.exec = Jvm.exec) (hb : c.code = cc) {x y : Int} (hd : decode cc pc = .ok (.ixor, 1)) (k : Kon p l e R s m args below meth c Q D aC ad base H0 c0 s0 nL (pc + 1) (lo) (.inl (pm_xor x y) :: r) (h)) : Kon p l e R s m args below meth c Q D aC ad base H0 c0 s0 nL (pc) (lo) (.inl y :: .inl x :: r) (h) := by
  intro H locs ls hH hl hq
  refine lv_ixor hx hb hd ?_
  have q := k H locs ls hH hl hq
  simp only [List.map_cons, up_v, pm_xor, Int32.ofInt_toInt] at q
  exact q
theorem sj_ishl (hx : p.tables.exec = Jvm.exec) (hb : c.code = cc) {x y : Int} (hd : decode cc pc = .ok (.ishl, 1)) (k : Kon p l e R s m args below meth c Q D aC ad base H0 c0 s0 nL (pc + 1) (lo) (.inl (pm_shl x y) :: r) (h)) : Kon p l e R s m args below meth c Q D aC ad base H0 c0 s0 nL (pc) (lo) (.inl y :: .inl x :: r) (h) := by
  intro H locs ls hH hl hq
  refine lv_ishl hx hb hd ?_
  have q := k H locs ls hH hl hq
  simp only [List.map_cons, up_v, pm_shl, Int32.ofInt_toInt] at q
  exact q
theorem sj_ishr (hx : p.tables.exec = Jvm.exec) (hb : c.code = cc) {x y : Int} (hd : decode cc pc = .ok (.ishr, 1)) (k : Kon p l e R s m args below meth c Q D aC ad base H0 c0 s0 nL (pc + 1) (lo) (.inl (pm_shr x y) :: r) (h)) : Kon p l e R s m args below meth c Q D aC ad base H0 c0 s0 nL (pc) (lo) (.inl y :: .inl x :: r) (h) := by
  intro H locs ls hH hl hq
  refine lv_ishr hx hb hd ?_
  have q := k H locs ls hH hl hq
  simp only [List.map_cons, up_v, pm_shr, Int32.ofInt_toInt] at q
  exact q
theorem sj_iushr (hx : p.tables.exec = Jvm.exec) (hb : c.code = cc) {x y : Int} (hd : decode cc pc = .ok (.iushr, 1)) (k : Kon p l e R s m args below meth c Q D aC ad base H0 c0 s0 nL (pc + 1) (lo) (.inl (pm_ushr x y) :: r) (h)) : Kon p l e R s m args below meth c Q D aC ad base H0 c0 s0 nL (pc) (lo) (.inl y :: .inl x :: r) (h) := by
  intro H locs ls hH hl hq
  refine lv_iushr hx hb hd rfl ?_
  have q := k H locs ls hH hl hq
  simp only [List.map_cons, up_v, pm_ushr, Int32.ofInt_toInt] at q
  exact q
theorem sj_ladd (hx : p.tables.exec = Jvm.exec) (hb : c.code = cc) {x y : Int} (hd : decode cc pc = .ok (.ladd, 1)) (k : Kon p l e R s m args below meth c Q D aC ad base H0 c0 s0 nL (pc + 1) (lo) (.inr (.inl (x + y)) :: r) (h)) : Kon p l e R s m args below meth c Q D aC ad base H0 c0 s0 nL (pc) (lo) (.inr (.inl y) :: .inr (.inl x) :: r) (h) := by
  intro H locs ls hH hl hq
  refine lv_ladd hx hb hd ?_
  have q := k H locs ls hH hl hq
  simp only [List.map_cons, up_v, Int64.ofInt_add] at q
  exact q
theorem sj_lsub (hx : p.tables.exec = Jvm.exec) (hb : c.code = cc) {x y : Int} (hd : decode cc pc = .ok (.lsub, 1)) (k : Kon p l e R s m args below meth c Q D aC ad base H0 c0 s0 nL (pc + 1) (lo) (.inr (.inl (x - y)) :: r) (h)) : Kon p l e R s m args below meth c Q D aC ad base H0 c0 s0 nL (pc) (lo) (.inr (.inl y) :: .inr (.inl x) :: r) (h) := by
  intro H locs ls hH hl hq
  refine lv_lsub hx hb hd ?_
  have q := k H locs ls hH hl hq
  simp only [List.map_cons, up_v, Int64.ofInt_sub] at q
  exact q
theorem sj_lmul (hx : p.tables.exec = Jvm.exec) (hb : c.code = cc) {x y : Int} (hd : decode cc pc = .ok (.lmul, 1)) (k : Kon p l e R s m args below meth c Q D aC ad base H0 c0 s0 nL (pc + 1) (lo) (.inr (.inl (x * y)) :: r) (h)) : Kon p l e R s m args below meth c Q D aC ad base H0 c0 s0 nL (pc) (lo) (.inr (.inl y) :: .inr (.inl x) :: r) (h) := by
  intro H locs ls hH hl hq
  refine lv_lmul hx hb hd ?_
  have q := k H locs ls hH hl hq
  simp only [List.map_cons, up_v, Int64.ofInt_mul] at q
  exact q
theorem sj_land (hx : p.tables.exec = Jvm.exec) (hb : c.code = cc) {x y : Int} (hd : decode cc pc = .ok (.land, 1)) (k : Kon p l e R s m args below meth c Q D aC ad base H0 c0 s0 nL (pc + 1) (lo) (.inr (.inl (pm_land x y)) :: r) (h)) : Kon p l e R s m args below meth c Q D aC ad base H0 c0 s0 nL (pc) (lo) (.inr (.inl y) :: .inr (.inl x) :: r) (h) := by
  intro H locs ls hH hl hq
  refine lv_land hx hb hd ?_
  have q := k H locs ls hH hl hq
  simp only [List.map_cons, up_v, pm_land, Int64.ofInt_toInt] at q
  exact q
theorem sj_lor (hx : p.tables.exec = Jvm.exec) (hb : c.code = cc) {x y : Int} (hd : decode cc pc = .ok (.lor, 1)) (k : Kon p l e R s m args below meth c Q D aC ad base H0 c0 s0 nL (pc + 1) (lo) (.inr (.inl (pm_lor x y)) :: r) (h)) : Kon p l e R s m args below meth c Q D aC ad base H0 c0 s0 nL (pc) (lo) (.inr (.inl y) :: .inr (.inl x) :: r) (h) := by
  intro H locs ls hH hl hq
  refine lv_lor hx hb hd ?_
  have q := k H locs ls hH hl hq
  simp only [List.map_cons, up_v, pm_lor, Int64.ofInt_toInt] at q
  exact q
theorem sj_ineg (hx : p.tables.exec = Jvm.exec) (hb : c.code = cc) {x : Int} (hd : decode cc pc = .ok (.ineg, 1)) (k : Kon p l e R s m args below meth c Q D aC ad base H0 c0 s0 nL (pc + 1) (lo) (.inl (-x) :: r) (h)) : Kon p l e R s m args below meth c Q D aC ad base H0 c0 s0 nL (pc) (lo) (.inl x :: r) (h) := by
  intro H locs ls hH hl hq
  refine lv_ineg hx hb hd ?_
  have q := k H locs ls hH hl hq
  simp only [List.map_cons, up_v, Int32.ofInt_neg] at q
  exact q
theorem sj_idiv (hx : p.tables.exec = Jvm.exec) (hb : c.code = cc) {x y : Int} (hd : decode cc pc = .ok (.idiv, 1)) (hy : ¬ w32 y = 0) (k : Kon p l e R s m args below meth c Q D aC ad base H0 c0 s0 nL (pc + 1) (lo) (.inl (pm_div x y) :: r) (h)) : Kon p l e R s m args below meth c Q D aC ad base H0 c0 s0 nL (pc) (lo) (.inl y :: .inl x :: r) (h) := by
  intro H locs ls hH hl hq
  refine lv_idiv hx hb hd (fun q => hy (by rw [n32_0, n32_eq, w32_0] at q; exact q)) ?_
  have q := k H locs ls hH hl hq
  simp only [List.map_cons, up_v, pm_div, Int32.ofInt_toInt] at q
  exact q
theorem sj_irem (hx : p.tables.exec = Jvm.exec) (hb : c.code = cc) {x y : Int} (hd : decode cc pc = .ok (.irem, 1)) (hy : ¬ w32 y = 0) (k : Kon p l e R s m args below meth c Q D aC ad base H0 c0 s0 nL (pc + 1) (lo) (.inl (pm_rem x y) :: r) (h)) : Kon p l e R s m args below meth c Q D aC ad base H0 c0 s0 nL (pc) (lo) (.inl y :: .inl x :: r) (h) := by
  intro H locs ls hH hl hq
  refine lv_irem hx hb hd (fun q => hy (by rw [n32_0, n32_eq, w32_0] at q; exact q)) ?_
  have q := k H locs ls hH hl hq
  simp only [List.map_cons, up_v, pm_rem, Int32.ofInt_toInt] at q
  exact q
theorem sj_ldiv (hx : p.tables.exec = Jvm.exec) (hb : c.code = cc) {x y : Int} (hd : decode cc pc = .ok (.ldiv, 1)) (hy : ¬ w64 y = 0) (k : Kon p l e R s m args below meth c Q D aC ad base H0 c0 s0 nL (pc + 1) (lo) (.inr (.inl (pm_ldiv x y)) :: r) (h)) : Kon p l e R s m args below meth c Q D aC ad base H0 c0 s0 nL (pc) (lo) (.inr (.inl y) :: .inr (.inl x) :: r) (h) := by
  intro H locs ls hH hl hq
  refine lv_ldiv hx hb hd (fun q => hy (by rw [show (0 : Int64) = Int64.ofInt 0 from rfl, n64_eq, show w64 0 = 0 from rfl] at q; exact q)) ?_
  have q := k H locs ls hH hl hq
  simp only [List.map_cons, up_v, pm_ldiv, Int64.ofInt_toInt] at q
  exact q
theorem sj_lrem (hx : p.tables.exec = Jvm.exec) (hb : c.code = cc) {x y : Int} (hd : decode cc pc = .ok (.lrem, 1)) (hy : ¬ w64 y = 0) (k : Kon p l e R s m args below meth c Q D aC ad base H0 c0 s0 nL (pc + 1) (lo) (.inr (.inl (pm_lrem x y)) :: r) (h)) : Kon p l e R s m args below meth c Q D aC ad base H0 c0 s0 nL (pc) (lo) (.inr (.inl y) :: .inr (.inl x) :: r) (h) := by
  intro H locs ls hH hl hq
  refine lv_lrem hx hb hd (fun q => hy (by rw [show (0 : Int64) = Int64.ofInt 0 from rfl, n64_eq, show w64 0 = 0 from rfl] at q; exact q)) ?_
  have q := k H locs ls hH hl hq
  simp only [List.map_cons, up_v, pm_lrem, Int64.ofInt_toInt] at q
  exact q
theorem sj_lshl (hx : p.tables.exec = Jvm.exec) (hb : c.code = cc) {x y : Int} (hd : decode cc pc = .ok (.lshl, 1)) (k : Kon p l e R s m args below meth c Q D aC ad base H0 c0 s0 nL (pc + 1) (lo) (.inr (.inl (pm_lshl x y)) :: r) (h)) : Kon p l e R s m args below meth c Q D aC ad base H0 c0 s0 nL (pc) (lo) (.inl y :: .inr (.inl x) :: r) (h) := by
  intro H locs ls hH hl hq
  refine lv_lshl hx hb hd rfl ?_
  have q := k H locs ls hH hl hq
  simp only [List.map_cons, up_v, pm_lshl, Int64.ofInt_toInt] at q
  exact q
theorem sj_lcmp (hx : p.tables.exec = Jvm.exec) (hb : c.code = cc) {x y : Int} (hd : decode cc pc = .ok (.lcmp, 1)) (k : Kon p l e R s m args below meth c Q D aC ad base H0 c0 s0 nL (pc + 1) (lo) (.inl (if w64 x < w64 y then -1 else if w64 x = w64 y then 0 else 1) :: r) (h)) : Kon p l e R s m args below meth c Q D aC ad base H0 c0 s0 nL (pc) (lo) (.inr (.inl y) :: .inr (.inl x) :: r) (h) := by
  intro H locs ls hH hl hq
  refine W.lcmp hx hb hd ?_
  rw [n64_cmp]
  exact k H locs ls hH hl hq
theorem sj_i2l (hx : p.tables.exec = Jvm.exec) (hb : c.code = cc) {x : Int} (hd : decode cc pc = .ok (.i2l, 1)) (k : Kon p l e R s m args below meth c Q D aC ad base H0 c0 s0 nL (pc + 1) (lo) (.inr (.inl (w32 x)) :: r) (h)) : Kon p l e R s m args below meth c Q D aC ad base H0 c0 s0 nL (pc) (lo) (.inl x :: r) (h) :=
  fun H locs ls hH hl hq => lv_i2l hx hb hd (n32_i2l x) (k H locs ls hH hl hq)
theorem sj_l2i (hx : p.tables.exec = Jvm.exec) (hb : c.code = cc) {x : Int} (hd : decode cc pc = .ok (.l2i, 1)) (k : Kon p l e R s m args below meth c Q D aC ad base H0 c0 s0 nL (pc + 1) (lo) (.inl x :: r) (h)) : Kon p l e R s m args below meth c Q D aC ad base H0 c0 s0 nL (pc) (lo) (.inr (.inl x) :: r) (h) :=
  fun H locs ls hH hl hq => lv_l2i hx hb hd (n64_l2i x) (k H locs ls hH hl hq)
theorem sj_i2b (hx : p.tables.exec = Jvm.exec) (hb : c.code = cc) {x : Int} (hd : decode cc pc = .ok (.i2b, 1)) (k : Kon p l e R s m args below meth c Q D aC ad base H0 c0 s0 nL (pc + 1) (lo) (.inl (w8 x) :: r) (h)) : Kon p l e R s m args below meth c Q D aC ad base H0 c0 s0 nL (pc) (lo) (.inl x :: r) (h) :=
  fun H locs ls hH hl hq => lv_i2b hx hb hd (n32_i2b x) (k H locs ls hH hl hq)
theorem sj_i2s (hx : p.tables.exec = Jvm.exec) (hb : c.code = cc) {x : Int} (hd : decode cc pc = .ok (.i2s, 1)) (k : Kon p l e R s m args below meth c Q D aC ad base H0 c0 s0 nL (pc + 1) (lo) (.inl (w16 x) :: r) (h)) : Kon p l e R s m args below meth c Q D aC ad base H0 c0 s0 nL (pc) (lo) (.inl x :: r) (h) :=
  fun H locs ls hH hl hq => lv_i2s hx hb hd (n32_i2s x) (k H locs ls hH hl hq)
theorem sj_i2c (hx : p.tables.exec = Jvm.exec) (hb : c.code = cc) {x : Int} (hd : decode cc pc = .ok (.i2c, 1)) (k : Kon p l e R s m args below meth c Q D aC ad base H0 c0 s0 nL (pc + 1) (lo) (.inl (x % 65536) :: r) (h)) : Kon p l e R s m args below meth c Q D aC ad base H0 c0 s0 nL (pc) (lo) (.inl x :: r) (h) :=
  fun H locs ls hH hl hq => lv_i2c hx hb hd (n32_i2c x) (k H locs ls hH hl hq)
theorem sj_dup (hx : p.tables.exec = Jvm.exec) (hb : c.code = cc) {v : PV} (hd : decode cc pc = .ok (.dup, 1)) (hv : pcat v = 1) (k : Kon p l e R s m args below meth c Q D aC ad base H0 c0 s0 nL (pc + 1) (lo) (v :: v :: r) (h)) : Kon p l e R s m args below meth c Q D aC ad base H0 c0 s0 nL (pc) (lo) (v :: r) (h) :=
  fun H locs ls hH hl hq => lv_dup hx hb hd (by rw [up_cat]; exact hv) (k H locs ls hH hl hq)
theorem sj_pop (hx : p.tables.exec = Jvm.exec) (hb : c.code = cc) {v : PV} (hd : decode cc pc = .ok (.pop, 1)) (hv : pcat v = 1) (k : Kon p l e R s m args below meth c Q D aC ad base H0 c0 s0 nL (pc + 1) (lo) (r) (h)) : Kon p l e R s m args below meth c Q D aC ad base H0 c0 s0 nL (pc) (lo) (v :: r) (h) :=
  fun H locs ls hH hl hq => lv_pop hx hb hd (by rw [up_cat]; exact hv) (k H locs ls hH hl hq)
theorem sj_dup2 (hx : p.tables.exec = Jvm.exec) (hb : c.code = cc) {v w : PV} (hd : decode cc pc = .ok (.dup2, 1)) (hv : pcat v = 1) (hw : pcat w = 1) (k : Kon p l e R s m args below meth c Q D aC ad base H0 c0 s0 nL (pc + 1) (lo) (v :: w :: v :: w :: r) (h)) : Kon p l e R s m args below meth c Q D aC ad base H0 c0 s0 nL (pc) (lo) (v :: w :: r) (h) :=
  fun H locs ls hH hl hq => lv_dup2_11 hx hb hd (by rw [up_cat]; exact hv) (by rw [up_cat]; exact hw) (k H locs ls hH hl hq)
theorem sj_goto (hx : p.tables.exec = Jvm.exec) (hb : c.code = cc) {o : Int} (hd : decode cc pc = .ok (.goto o, 3)) (ho : 0 ≤ (pc : Int) + o) (k : Kon p l e R s m args below meth c Q D aC ad base H0 c0 s0 nL (((pc : Int) + o).toNat) (lo) (st) (h)) : Kon p l e R s m args below meth c Q D aC ad base H0 c0 s0 nL (pc) (lo) (st) (h) :=
  fun H locs ls hH hl hq => lv_goto hx hb hd (by omega) (k H locs ls hH hl hq)
theorem sj_if_eq (hx : p.tables.exec = Jvm.exec) (hb : c.code = cc) {x o : Int} (hd : decode cc pc = .ok (.ifCond .eq o, 3)) (ho : 0 ≤ (pc : Int) + o) (k1 : pm_cond .eq (w32 x) 0 = true → Kon p l e R s m args below meth c Q D aC ad base H0 c0 s0 nL (((pc : Int) + o).toNat) (lo) (r) (h)) (k2 : ¬ pm_cond .eq (w32 x) 0 = true → Kon p l e R s m args below meth c Q D aC ad base H0 c0 s0 nL (pc + 3) (lo) (r) (h)) : Kon p l e R s m args below meth c Q D aC ad base H0 c0 s0 nL (pc) (lo) (.inl x :: r) (h) := by
  intro H locs ls hH hl hq
  refine lv_if_eq (tgt := ((pc : Int) + o).toNat) hx hb hd (by omega) (fun z => k1 ?_ H locs ls hH hl hq) (fun z => k2 ?_ H locs ls hH hl hq)
  all_goals (simp only [n32_0, n32_eq, n32_lt, n32_le, w32_0] at z; simp only [pm_cond, Bool.not_eq_true', decide_eq_true_eq, decide_eq_false_iff_not]; omega)
theorem sj_icmp_eq (hx : p.tables.exec = Jvm.exec) (hb : c.code = cc) {x y o : Int} (hd : decode cc pc = .ok (.if_icmp .eq o, 3)) (ho : 0 ≤ (pc : Int) + o) (k1 : pm_cond .eq (w32 x) (w32 y) = true → Kon p l e R s m args below meth c Q D aC ad base H0 c0 s0 nL (((pc : Int) + o).toNat) (lo) (r) (h)) (k2 : ¬ pm_cond .eq (w32 x) (w32 y) = true → Kon p l e R s m args below meth c Q D aC ad base H0 c0 s0 nL (pc + 3) (lo) (r) (h)) : Kon p l e R s m args below meth c Q D aC ad base H0 c0 s0 nL (pc) (lo) (.inl y :: .inl x :: r) (h) := by
  intro H locs ls hH hl hq
  refine lv_icmp_eq (tgt := ((pc : Int) + o).toNat) hx hb hd (by omega) (fun z => k1 ?_ H locs ls hH hl hq) (fun z => k2 ?_ H locs ls hH hl hq)
  all_goals (simp only [n32_0, n32_eq, n32_lt, n32_le, w32_0] at z; simp only [pm_cond, Bool.not_eq_true', decide_eq_true_eq, decide_eq_false_iff_not]; omega)
theorem sj_if_ne (hx : p.tables.exec = Jvm.exec) (hb : c.code = cc) {x o : Int} (hd : decode cc pc = .ok (.ifCond .ne o, 3)) (ho : 0 ≤ (pc : Int) + o) (k1 : pm_cond .ne (w32 x) 0 = true → Kon p l e R s m args below meth c Q D aC ad base H0 c0 s0 nL (((pc : Int) + o).toNat) (lo) (r) (h)) (k2 : ¬ pm_cond .ne (w32 x) 0 = true → Kon p l e R s m args below meth c Q D aC ad base H0 c0 s0 nL (pc + 3) (lo) (r) (h)) : Kon p l e R s m args below meth c Q D aC ad base H0 c0 s0 nL (pc) (lo) (.inl x :: r) (h) := by
  intro H locs ls hH hl hq
  refine lv_if_ne (tgt := ((pc : Int) + o).toNat) hx hb hd (by omega) (fun z => k1 ?_ H locs ls hH hl hq) (fun z => k2 ?_ H locs ls hH hl hq)
  all_goals (simp only [n32_0, n32_eq, n32_lt, n32_le, w32_0] at z; simp only [pm_cond, Bool.not_eq_true', decide_eq_true_eq, decide_eq_false_iff_not]; omega)
theorem sj_icmp_ne (hx : p.tables.exec = Jvm.exec) (hb : c.code = cc) {x y o : Int} (hd : decode cc pc = .ok (.if_icmp .ne o, 3)) (ho : 0 ≤ (pc : Int) + o) (k1 : pm_cond .ne (w32 x) (w32 y) = true → Kon p l e R s m args below meth c Q D aC ad base H0 c0 s0 nL (((pc : Int) + o).toNat) (lo) (r) (h)) (k2 : ¬ pm_cond .ne (w32 x) (w32 y) = true → Kon p l e R s m args below meth c Q D aC ad base H0 c0 s0 nL (pc + 3) (lo) (r) (h)) : Kon p l e R s m args below meth c Q D aC ad base H0 c0 s0 nL (pc) (lo) (.inl y :: .inl x :: r) (h) := by
  intro H locs ls hH hl hq
  refine lv_icmp_ne (tgt := ((pc : Int) + o).toNat) hx hb hd (by omega) (fun z => k1 ?_ H locs ls hH hl hq) (fun z => k2 ?_ H locs ls hH hl hq)
  all_goals (simp only [n32_0, n32_eq, n32_lt, n32_le, w32_0] at z; simp only [pm_cond, Bool.not_eq_true', decide_eq_true_eq, decide_eq_false_iff_not]; omega)
theorem sj_if_lt (hx : p.tables.exec = Jvm.exec) (hb : c.code = cc) {x o : Int} (hd : decode cc pc = .ok (.ifCond .lt o, 3)) (ho : 0 ≤ (pc : Int) + o) (k1 : pm_cond .lt (w32 x) 0 = true → Kon p l e R s m args below meth c Q D aC ad base H0 c0 s0 nL (((pc : Int) + o).toNat) (lo) (r) (h)) (k2 : ¬ pm_cond .lt (w32 x) 0 = true → Kon p l e R s m args below meth c Q D aC ad base H0 c0 s0 nL (pc + 3) (lo) (r) (h)) : Kon p l e R s m args below meth c Q D aC ad base H0 c0 s0 nL (pc) (lo) (.inl x :: r) (h) := by
  intro H locs ls hH hl hq
  refine lv_if_lt (tgt := ((pc : Int) + o).toNat) hx hb hd (by omega) (fun z => k1 ?_ H locs ls hH hl hq) (fun z => k2 ?_ H locs ls hH hl hq)
  all_goals (simp only [n32_0, n32_eq, n32_lt, n32_le, w32_0] at z; simp only [pm_cond, Bool.not_eq_true', decide_eq_true_eq, decide_eq_false_iff_not]; omega)
theorem sj_icmp_lt (hx : p.tables.exec = Jvm.exec) (hb : c.code = cc) {x y o : Int} (hd : decode cc pc = .ok (.if_icmp .lt o, 3)) (ho : 0 ≤ (pc : Int) + o) (k1 : pm_cond .lt (w32 x) (w32 y) = true → Kon p l e R s m args below meth c Q D aC ad base H0 c0 s0 nL (((pc : Int) + o).toNat) (lo) (r) (h)) (k2 : ¬ pm_cond .lt (w32 x) (w32 y) = true → Kon p l e R s m args below meth c Q D aC ad base H0 c0 s0 nL (pc + 3) (lo) (r) (h)) : Kon p l e R s m args below meth c Q D aC ad base H0 c0 s0 nL (pc) (lo) (.inl y :: .inl x :: r) (h) := by
  intro H locs ls hH hl hq
  refine lv_icmp_lt (tgt := ((pc : Int) + o).toNat) hx hb hd (by omega) (fun z => k1 ?_ H locs ls hH hl hq) (fun z => k2 ?_ H locs ls hH hl hq)
  all_goals (simp only [n32_0, n32_eq, n32_lt, n32_le, w32_0] at z; simp only [pm_cond, Bool.not_eq_true', decide_eq_true_eq, decide_eq_false_iff_not]; omega)
theorem sj_if_ge (hx : p.tables.exec = Jvm.exec) (hb : c.code = cc) {x o : Int} (hd : decode cc pc = .ok (.ifCond .ge o, 3)) (ho : 0 ≤ (pc : Int) + o) (k1 : pm_cond .ge (w32 x) 0 = true → Kon p l e R s m args below meth c Q D aC ad base H0 c0 s0 nL (((pc : Int) + o).toNat) (lo) (r) (h)) (k2 : ¬ pm_cond .ge (w32 x) 0 = true → Kon p l e R s m args below meth c Q D aC ad base H0 c0 s0 nL (pc + 3) (lo) (r) (h)) : Kon p l e R s m args below meth c Q D aC ad base H0 c0 s0 nL (pc) (lo) (.inl x :: r) (h) := by
  intro H locs ls hH hl hq
  refine lv_if_ge (tgt := ((pc : Int) + o).toNat) hx hb hd (by omega) (fun z => k1 ?_ H locs ls hH hl hq) (fun z => k2 ?_ H locs ls hH hl hq)
  all_goals (simp only [n32_0, n32_eq, n32_lt, n32_le, w32_0] at z; simp only [pm_cond, Bool.not_eq_true', decide_eq_true_eq, decide_eq_false_iff_not]; omega)
theorem sj_icmp_ge (hx : p.tables.exec = Jvm.exec) (hb : c.code = cc) {x y o : Int} (hd : decode cc pc = .ok (.if_icmp .ge o, 3)) (ho : 0 ≤ (pc : Int) + o) (k1 : pm_cond .ge (w32 x) (w32 y) = true → Kon p l e R s m args below meth c Q D aC ad base H0 c0 s0 nL (((pc : Int) + o).toNat) (lo) (r) (h)) (k2 : ¬ pm_cond .ge (w32 x) (w32 y) = true → Kon p l e R s m args below meth c Q D aC ad base H0 c0 s0 nL (pc + 3) (lo) (r) (h)) : Kon p l e R s m args below meth c Q D aC ad base H0 c0 s0 nL (pc) (lo) (.inl y :: .inl x :: r) (h) := by
  intro H locs ls hH hl hq
  refine lv_icmp_ge (tgt := ((pc : Int) + o).toNat) hx hb hd (by omega) (fun z => k1 ?_ H locs ls hH hl hq) (fun z => k2 ?_ H locs ls hH hl hq)
  all_goals (simp only [n32_0, n32_eq, n32_lt, n32_le, w32_0] at z; simp only [pm_cond, Bool.not_eq_true', decide_eq_true_eq, decide_eq_false_iff_not]; omega)
theorem sj_if_gt (hx : p.tables.exec = Jvm.exec) (hb : c.code = cc) {x o : Int} (hd : decode cc pc = .ok (.ifCond .gt o, 3)) (ho : 0 ≤ (pc : Int) + o) (k1 : pm_cond .gt (w32 x) 0 = true → Kon p l e R s m args below meth c Q D aC ad base H0 c0 s0 nL (((pc : Int) + o).toNat) (lo) (r) (h)) (k2 : ¬ pm_cond .gt (w32 x) 0 = true → Kon p l e R s m args below meth c Q D aC ad base H0 c0 s0 nL (pc + 3) (lo) (r) (h)) : Kon p l e R s m args below meth c Q D aC ad base H0 c0 s0 nL (pc) (lo) (.inl x :: r) (h) := by
  intro H locs ls hH hl hq
  refine lv_if_gt (tgt := ((pc : Int) + o).toNat) hx hb hd (by omega) (fun z => k1 ?_ H locs ls hH hl hq) (fun z => k2 ?_ H locs ls hH hl hq)
  all_goals (simp only [n32_0, n32_eq, n32_lt, n32_le, w32_0] at z; simp only [pm_cond, Bool.not_eq_true', decide_eq_true_eq, decide_eq_false_iff_not]; omega)
theorem sj_icmp_gt (hx : p.tables.exec = Jvm.exec) (hb : c.code = cc) {x y o : Int} (hd : decode cc pc = .ok (.if_icmp .gt o, 3)) (ho : 0 ≤ (pc : Int) + o) (k1 : pm_cond .gt (w32 x) (w32 y) = true → Kon p l e R s m args below meth c Q D aC ad base H0 c0 s0 nL (((pc : Int) + o).toNat) (lo) (r) (h)) (k2 : ¬ pm_cond .gt (w32 x) (w32 y) = true → Kon p l e R s m args below meth c Q D aC ad base H0 c0 s0 nL (pc + 3) (lo) (r) (h)) : Kon p l e R s m args below meth c Q D aC ad base H0 c0 s0 nL (pc) (lo) (.inl y :: .inl x :: r) (h) := by
  intro H locs ls hH hl hq
  refine lv_icmp_gt (tgt := ((pc : Int) + o).toNat) hx hb hd (by omega) (fun z => k1 ?_ H locs ls hH hl hq) (fun z => k2 ?_ H locs ls hH hl hq)
  all_goals (simp only [n32_0, n32_eq, n32_lt, n32_le, w32_0] at z; simp only [pm_cond, Bool.not_eq_true', decide_eq_true_eq, decide_eq_false_iff_not]; omega)
theorem sj_if_le (hx : p.tables.exec = Jvm.exec) (hb : c.code = cc) {x o : Int} (hd : decode cc pc = .ok (.ifCond .le o, 3)) (ho : 0 ≤ (pc : Int) + o) (k1 : pm_cond .le (w32 x) 0 = true → Kon p l e R s m args below meth c Q D aC ad base H0 c0 s0 nL (((pc : Int) + o).toNat) (lo) (r) (h)) (k2 : ¬ pm_cond .le (w32 x) 0 = true → Kon p l e R s m args below meth c Q D aC ad base H0 c0 s0 nL (pc + 3) (lo) (r) (h)) : Kon p l e R s m args below meth c Q D aC ad base H0 c0 s0 nL (pc) (lo) (.inl x :: r) (h) := by
  intro H locs ls hH hl hq
  refine lv_if_le (tgt := ((pc : Int) + o).toNat) hx hb hd (by omega) (fun z => k1 ?_ H locs ls hH hl hq) (fun z => k2 ?_ H locs ls hH hl hq)
  all_goals (simp only [n32_0, n32_eq, n32_lt, n32_le, w32_0] at z; simp only [pm_cond, Bool.not_eq_true', decide_eq_true_eq, decide_eq_false_iff_not]; omega)
theorem sj_icmp_le (hx : p.tables.exec = Jvm.exec) (hb : c.code = cc) {x y o : Int} (hd : decode cc pc = .ok (.if_icmp .le o, 3)) (ho : 0 ≤ (pc : Int) + o) (k1 : pm_cond .le (w32 x) (w32 y) = true → Kon p l e R s m args below meth c Q D aC ad base H0 c0 s0 nL (((pc : Int) + o).toNat) (lo) (r) (h)) (k2 : ¬ pm_cond .le (w32 x) (w32 y) = true → Kon p l e R s m args below meth c Q D aC ad base H0 c0 s0 nL (pc + 3) (lo) (r) (h)) : Kon p l e R s m args below meth c Q D aC ad base H0 c0 s0 nL (pc) (lo) (.inl y :: .inl x :: r) (h) := by
  intro H locs ls hH hl hq
  refine lv_icmp_le (tgt := ((pc : Int) + o).toNat) hx hb hd (by omega) (fun z => k1 ?_ H locs ls hH hl hq) (fun z => k2 ?_ H locs ls hH hl hq)
  all_goals (simp only [n32_0, n32_eq, n32_lt, n32_le, w32_0] at z; simp only [pm_cond, Bool.not_eq_true', decide_eq_true_eq, decide_eq_false_iff_not]; omega)
theorem sj_table (hx : p.tables.exec = Jvm.exec) (hb : c.code = cc) {d lw hg : Int} {os : Array Int} {len : Nat} {x : Int} (hd : decode cc pc = .ok (.tableswitch d lw hg os, len)) (hp : 0 ≤ (pc : Int) + d ∧ os.all (fun o => decide (0 ≤ (pc : Int) + o)) = true)
    (k1 : w32 x < lw ∨ hg < w32 x → Kon p l e R s m args below meth c Q D aC ad base H0 c0 s0 nL (((pc : Int) + d).toNat) (lo) (r) (h)) (k2 : ¬ (w32 x < lw ∨ hg < w32 x) → ∃ t, (os.map (fun o => (pc : Int) + o))[(w32 x - lw).toNat]? = some t ∧ Kon p l e R s m args below meth c Q D aC ad base H0 c0 s0 nL (t.toNat) (lo) (r) (h)) : Kon p l e R s m args below meth c Q D aC ad base H0 c0 s0 nL (pc) (lo) (.inl x :: r) (h) := by
  intro H locs ls hH hl hq
  by_cases hc : w32 x < lw ∨ hg < w32 x
  · exact lv_tableOut hx hb hd (by rw [w32_of]; exact hc) (tgt := ((pc : Int) + d).toNat) (by omega) (k1 hc H locs ls hH hl hq)
  · obtain ⟨t, ht, kk⟩ := k2 hc
    rw [Array.getElem?_map] at ht
    obtain ⟨o, ho, rfl⟩ := Option.map_eq_some_iff.mp ht
    have hpo : 0 ≤ (pc : Int) + o := by
      have := (Array.all_eq_true_iff_forall_mem.mp hp.2) o (Array.mem_of_getElem? ho)
      simpa using this
    exact lv_tableIn hx hb hd (by rw [w32_of]; omega) (by rw [w32_of]; omega) (off := o) (by rw [w32_of]; exact ho) (tgt := ((pc : Int) + o).toNat) (by omega) (kk H locs ls hH hl hq)
end SIM
