/-! makings, texts, statics, copying -/
section SIMN
variable {p : Program} {l : Launch} {e : Env} {R : Room} {s : State} {m : MethodId} {args : Array Value} {below : List Frame} {meth : Method} {c : Code} {Q : State → Prop}
variable {X : PX} {D : va_G} {aC : Nat → ClassId} {ad : Nat → Nat} {base : Nat} {H0 : Heap} {c0 s0 nL : Nat}
variable {cc : ByteArray} {pc : Nat} {lo : List (Option PV)} {st r : List PV} {h : PH}
theorem sj_new (hx : p.tables.exec = Jvm.exec) (hb : c.code = cc) (had : ∀ k : Nat, k < 1000 → ad k = base + k) (hKK : KK X D aC ad base H0 s) {own : String} {i cn : Nat} (hts : ∀ w ∈ GT, w.before args s = true) (hown : s.vm.findClass own = some m.cls) (hcn : cn < 13) (hin : ∀ w ∈ u_ws (pm_cn cn) (pm_T cn) (pm_N cn), w ∈ GT) (hty : ∀ k, k < pm_N cn → parseFieldDescriptor (pm_T cn k).2.2.1 = some (pm_ftyp cn k)) (hkd : ∀ k, k < pm_N cn → (pm_ftys.getD cn [])[k]? = some (kd_of (pm_ftyp cn k)) ∧ kd_of (pm_ftyp cn k) < 4) (hlen : (pm_ftys.getD cn []).length = pm_N cn)
    (hcl : (Jvm.Cond.classLink own i (pm_cn cn)).before args s = true) (hins : (Jvm.Cond.instantiable (pm_cn cn) (pm_N cn)).before args s = true) (hini : (Jvm.Cond.initialized (pm_cn cn)).before args s = true) (hc0 : c0 ≤ h.1) (hs0 : s0 ≤ h.2.1) (hl1 : h.1 < 1000) (hrc : h.1 + 1 - c0 ≤ R.cells) (hrs : h.2.1 + (pm_ftys.getD cn []).length - s0 ≤ R.slots) (hd : decode cc pc = .ok (.new i, 3))
    (kk : Kon p l e R s m args below meth c Q D aC ad base H0 c0 s0 nL (pc + 3) (lo) (.inr (.inr (some h.1)) :: st) ((h.1 + 1, h.2.1 + (pm_ftys.getD cn []).length, fset h.2.2 h.1 (some (.inr (.inr (cn, (pm_ftys.getD cn []).map pm_dflt))))))) : Kon p l e R s m args below meth c Q D aC ad base H0 c0 s0 nL (pc) (lo) (st) (h) := by
  intro H locs ls hH hl hq
  have hc := pm_cl_at hcn
  have hKn := hKK.1.1 cn _ hc
  refine W.newcK hx hb hown hcl hins hini rfl hd (by omega) (by omega) hKn.2.1 hH.1 fun H1 kC hkC e1 z1 o1 => ?_
  have hR : HR D aC ad base H0 (h.1 + 1, h.2.1 + (pm_ftys.getD cn []).length, fset h.2.2 h.1 (some (.inr (.inr (cn, (pm_ftys.getD cn []).map pm_dflt))))) H1 := by
    refine hH.push hl1 (by rw [z1, hH.1]) (fun q hq => o1 q (by rw [← hH.1]; exact hq)) (obj_at hcn ?_) trivial
    refine (u_born (pm_ftyp cn) hts hin hKn hkC e1 hty).to (fun j hj => ?_)
    obtain ⟨g1, g2⟩ := hkd j hj
    simp only [vp_V, List.getD_eq_getElem?_getD, List.getElem?_map, List.map_map]
    rw [← List.getD_eq_getElem?_getD (l := pm_ftys), g1]
    exact dflt_of g2
  have q := kk H1 locs ls hR hl hq
  have e2 : (h.1 + 1, h.2.1 + (pm_ftys.getD cn []).length, fset h.2.2 h.1 (some (Sum.inr (Sum.inr (cn, (pm_ftys.getD cn []).map pm_dflt))) : Option PE)).1 - c0 = h.1 - c0 + 1 := by show h.1 + 1 - c0 = _; omega
  have e3 : (h.1 + 1, h.2.1 + (pm_ftys.getD cn []).length, fset h.2.2 h.1 (some (Sum.inr (Sum.inr (cn, (pm_ftys.getD cn []).map pm_dflt))) : Option PE)).2.1 - s0 = h.2.1 - s0 + pm_N cn := by show h.2.1 + (pm_ftys.getD cn []).length - s0 = _; omega
  rw [e2, e3] at q
  have e4 : up_v ad (.inr (.inr (some h.1))) = .ref (base + h.1) := by show Value.ref (ad h.1) = _; rw [had _ hl1]
  rw [List.map_cons, e4] at q
  exact q
theorem sj_newarr (hx : p.tables.exec = Jvm.exec) (hb : c.code = cc) (had : ∀ k : Nat, k < 1000 → ad k = base + k) (hKK : KK X D aC ad base H0 s) {t : ArrayType} {ty : Nat} {v : Int} (hts : ∀ w ∈ GT, w.before args s = true) (hty : pm_aty t = some ty) (hw : (Jvm.Cond.arrayClass (newarray.typeOf t)) ∈ GT) (hc0 : c0 ≤ h.1) (hs0 : s0 ≤ h.2.1) (hl1 : h.1 < 1000) (hv : pm_idx v 1000000 = true) (hrc : h.1 + 1 - c0 ≤ R.cells) (hrs : h.2.1 + (w32 v).toNat - s0 ≤ R.slots) (hd : decode cc pc = .ok (.newarray t, 2))
    (kk : Kon p l e R s m args below meth c Q D aC ad base H0 c0 s0 nL (pc + 2) (lo) (.inr (.inr (some h.1)) :: r) ((h.1 + 1, h.2.1 + (w32 v).toNat, fset h.2.2 h.1 (some (.inl (ty, (w32 v).toNat, fun _ => 0)))))) : Kon p l e R s m args below meth c Q D aC ad base H0 c0 s0 nL (pc) (lo) (.inl v :: r) (h) := by
  intro H locs ls hH hl hq
  unfold pm_idx at hv
  simp only [Bool.and_eq_true, decide_eq_true_eq] at hv
  refine va_newaK hx hb (hts _ hw) rfl hd rfl (fun q => by rw [n32_0, n32_lt, w32_0] at q; omega) (n32_clamp v) (by cases t <;> simp [newarray.typeOf, componentBytes] <;> omega) (by omega) (by omega) hH.1 fun H1 cA e1 z1 o1 hAr hNm => ?_
  have hcell : va_at D pm_cl (base + h.1, up_e aC ad (.inl (ty, (w32 v).toNat, fun _ => 0))) H1 ∧ ty < 4 := by
    cases t <;> simp [pm_aty] at hty
    all_goals subst hty
    · have hcA : cA = aC 2 := Option.some.inj (hNm.symm.trans (hKK.1.2 2 _ rfl).2)
      subst hcA
      exact ⟨arr_at (by show ¬ (2 : Nat) = 3; omega) e1, by omega⟩
    · have hcA : cA = aC 1 := Option.some.inj (hNm.symm.trans (hKK.1.2 1 _ rfl).2)
      subst hcA
      exact ⟨arr_at (by show ¬ (1 : Nat) = 3; omega) e1, by omega⟩
    · have hcA : cA = aC 0 := Option.some.inj (hNm.symm.trans (hKK.1.2 0 _ rfl).2)
      subst hcA
      exact ⟨arr_at (by show ¬ (0 : Nat) = 3; omega) e1, by omega⟩
    · have hcA : cA = aC 3 := Option.some.inj (hNm.symm.trans (hKK.1.2 3 _ rfl).2)
      subst hcA
      exact ⟨arl_at rfl e1, by omega⟩
  have hR : HR D aC ad base H0 (h.1 + 1, h.2.1 + (w32 v).toNat, fset h.2.2 h.1 (some (.inl (ty, (w32 v).toNat, fun _ => 0)))) H1 :=
    hH.push hl1 (by rw [z1, hH.1]) (fun q hq => o1 q (by rw [← hH.1]; exact hq)) hcell.1 hcell.2
  have q := kk H1 locs ls hR hl hq
  have e2 : (h.1 + 1, h.2.1 + (w32 v).toNat, fset h.2.2 h.1 (some (Sum.inl (ty, (w32 v).toNat, fun _ => 0)) : Option PE)).1 - c0 = h.1 - c0 + 1 := by show h.1 + 1 - c0 = _; omega
  have e3 : (h.1 + 1, h.2.1 + (w32 v).toNat, fset h.2.2 h.1 (some (Sum.inl (ty, (w32 v).toNat, fun _ => 0)) : Option PE)).2.1 - s0 = h.2.1 - s0 + (w32 v).toNat := by show h.2.1 + (w32 v).toNat - s0 = _; omega
  rw [e2, e3] at q
  have e4 : up_v ad (.inr (.inr (some h.1))) = .ref (base + h.1) := by show Value.ref (ad h.1) = _; rw [had _ hl1]
  rw [List.map_cons, e4] at q
  exact q
theorem sj_anew (hx : p.tables.exec = Jvm.exec) (hb : c.code = cc) (had : ∀ k : Nat, k < 1000 → ad k = base + k) (hKK : KK X D aC ad base H0 s) {own : String} {i ty : Nat} {C : String} {v : Int} (hown : s.vm.findClass own = some m.cls) (hty : (ty = 4 ∧ C = "BellBay$Slot") ∨ (ty = 5 ∧ C = "BellBay$Bay")) (hcl : (Jvm.Cond.classLink own i C).before args s = true) (hc0 : c0 ≤ h.1) (hs0 : s0 ≤ h.2.1) (hl1 : h.1 < 1000) (hv : pm_idx v 1000000 = true) (hrc : h.1 + 1 - c0 ≤ R.cells) (hrs : h.2.1 + (w32 v).toNat - s0 ≤ R.slots) (hd : decode cc pc = .ok (.anewarray i, 3))
    (kk : Kon p l e R s m args below meth c Q D aC ad base H0 c0 s0 nL (pc + 3) (lo) (.inr (.inr (some h.1)) :: r) ((h.1 + 1, h.2.1 + (w32 v).toNat, fset h.2.2 h.1 (some (.inr (.inl (ty, (w32 v).toNat, fun _ => none))))))) : Kon p l e R s m args below meth c Q D aC ad base H0 c0 s0 nL (pc) (lo) (.inl v :: r) (h) := by
  intro H locs ls hH hl hq
  unfold pm_idx at hv
  simp only [Bool.and_eq_true, decide_eq_true_eq] at hv
  have hover : va_AO C s := by
    rcases hty with ⟨-, rfl⟩ | ⟨-, rfl⟩
    · exact hKK.2.2.1.1
    · exact hKK.2.2.1.2
  refine W.anew hx hb hown hcl (va_AO.use hover) rfl hd rfl (fun q => by rw [n32_0, n32_lt, w32_0] at q; omega) (by rw [n32_clamp]; omega) (by omega) (by rw [n32_clamp]; omega) fun cA kA comp f1 f2 f3 f4 => ?_
  rw [n32_clamp]
  generalize hH1 : H.push ({ cls := cA, slots := Array.replicate (w32 v).toNat .null, vm := .none } : Cell) = H1
  have z1 : H1.size = H.size + 1 := by rw [← hH1, Array.size_push]
  have e1 : H1[H.size]? = some (arrV cA (w32 v).toNat (fun _ => .null)) := by rw [← hH1, Array.getElem?_push_size, ← arrV_new]
  have o1 : ∀ q : Nat, q < H.size → H1[q]? = H[q]? := fun q hq => by rw [← hH1, Array.getElem?_push, if_neg (Nat.ne_of_lt hq)]
  have hcA : cA = aC ty := by
    rcases hty with ⟨rfl, rfl⟩ | ⟨rfl, rfl⟩
    · obtain ⟨kA', comp', g1, g2, g3, g4⟩ := (hKK.1.2 4 _ rfl).2
      exact Option.some.inj (f1.symm.trans g4)
    · obtain ⟨kA', comp', g1, g2, g3, g4⟩ := (hKK.1.2 5 _ rfl).2
      exact Option.some.inj (f1.symm.trans g4)
  subst hcA
  have hR : HR D aC ad base H0 (h.1 + 1, h.2.1 + (w32 v).toNat, fset h.2.2 h.1 (some (.inr (.inl (ty, (w32 v).toNat, fun _ => none))))) H1 :=
    hH.push hl1 z1 o1 (by show H1[base + h.1]? = some (vp_cell _ _); rw [← hH.1]; exact e1) trivial
  have q := kk H1 locs ls hR hl hq
  have e2 : (h.1 + 1, h.2.1 + (w32 v).toNat, fset h.2.2 h.1 (some (Sum.inr (Sum.inl (ty, (w32 v).toNat, fun _ => none))) : Option PE)).1 - c0 = h.1 - c0 + 1 := by show h.1 + 1 - c0 = _; omega
  have e3 : (h.1 + 1, h.2.1 + (w32 v).toNat, fset h.2.2 h.1 (some (Sum.inr (Sum.inl (ty, (w32 v).toNat, fun _ => none))) : Option PE)).2.1 - s0 = h.2.1 - s0 + (w32 v).toNat := by show h.2.1 + (w32 v).toNat - s0 = _; omega
  rw [e2, e3] at q
  have e4 : up_v ad (.inr (.inr (some h.1))) = .ref H.size := by show Value.ref (ad h.1) = _; rw [had _ hl1, hH.1]
  rw [List.map_cons, e4] at q
  exact q
theorem sj_aast (hx : p.tables.exec = Jvm.exec) (hb : c.code = cc) (had : ∀ k : Nat, k < 1000 → ad k = base + k) (hKK : KK X D aC ad base H0 s) {k v cn : Nat} {i : Int} {vs : List PV} {a : Nat × Nat × (Nat → Option Nat)} (hk : h.2.2 k = some (.inr (.inl a))) (hv : h.2.2 v = some (.inr (.inr (cn, vs)))) (h4 : (a.1 = 4 ∧ cn = 7) ∨ (a.1 = 5 ∧ cn = 1)) (hi : pm_idx i a.2.1 = true) (hd : decode cc pc = .ok (.aastore, 1))
    (kk : Kon p l e R s m args below meth c Q D aC ad base H0 c0 s0 nL (pc + 1) (lo) (r) ((h.1, h.2.1, fset h.2.2 k (some (.inr (.inl (a.1, a.2.1, fset a.2.2 (w32 i).toNat (some v)))))))) : Kon p l e R s m args below meth c Q D aC ad base H0 c0 s0 nL (pc) (lo) (.inr (.inr (some v)) :: .inl i :: .inr (.inr (some k)) :: r) (h) := by
  intro H locs ls hH hl hq
  have ha := hH.ad had hk
  have hav := hH.ad had hv
  have hat := (hH.2.2.2 k _ hk).2
  have hcn : cn < 13 := by omega
  obtain ⟨cellV, g1, g2, g3, -⟩ := at_obj hcn (hH.2.2.2 v _ hv).2
  have hc := pm_cl_at hcn
  have hcls := (hKK.1.1 cn _ hc).2
  show W p l e R s m args below meth c H locs (h.1 - c0) (h.2.1 - s0) Q (F0 m pc ls (.ref (ad v) :: .int (Int32.ofInt i) :: .ref (ad k) :: r.map (up_v ad)))
  have hRA : ∃ (kA : Class) (comp : ClassId) (C : String), s.vm.classes[aC a.1]? = some kA ∧ kA.kind = .array comp (.object C) ∧ s.vm.findClass C = some comp ∧ C = pm_cn cn := by
    rcases h4 with ⟨h4, rfl⟩ | ⟨h4, rfl⟩
    · obtain ⟨kA, comp, k1, k2, k3, -⟩ := (hKK.1.2 4 _ rfl).2
      exact ⟨kA, comp, _, by rw [h4]; exact k1, k2, k3, rfl⟩
    · obtain ⟨kA, comp, k1, k2, k3, -⟩ := (hKK.1.2 5 _ rfl).2
      exact ⟨kA, comp, _, by rw [h4]; exact k1, k2, k3, rfl⟩
  obtain ⟨kA, comp, C, k1, k2, k3, rfl⟩ := hRA
  have hcomp : comp = D.1 cn := Option.some.inj (k3.symm.trans hcls.1)
  subst hcomp
  obtain ⟨kC, hkC, -⟩ := hcls.2
  unfold pm_idx at hi
  simp only [Bool.and_eq_true, decide_eq_true_eq] at hi
  have hneg : ¬ Int32.ofInt i < 0 := fun q => by rw [n32_0, n32_lt, w32_0] at q; omega
  have hlt : (Int32.ofInt i).toNatClampNeg < a.2.1 := by rw [n32_clamp]; omega
  rw [ha, hav]
  refine W.aast hx hb hat (fun q h => by cases h) (fun h => by cases h) k1 k2 rfl hkC ⟨hneg, by show _ < (arrV _ _ _).slots.size; rw [arrV_size]; exact hlt⟩ g1 (fun q h => by rw [g3] at h; cases h) (by rw [g2]; exact hkC) (by rw [g2]; exact va_assign hcls) rfl rfl hd fun H' e1 e2 e3 => ?_
  refine kk H' _ ls (hH.set hk e2 e3 ?_ trivial) hl (t_lc hq (Nat.le_add_right _ _))
  rw [n32_clamp] at e1
  show H'[base + k]? = some (vp_cell _ _)
  rw [e1, vp_cell_q, arrV_store]
  show _ = some (vp_cell (aC a.1) (a.2.1, .inr (.inr (.inr (.inr (fun j => (fset a.2.2 (w32 i).toNat (some v) j).map ad))))))
  rw [vp_cell_q]
  congr 2
  funext q
  by_cases hq : q = (w32 i).toNat
  · subst hq; simp [updV, fset, va_rf, hav]
  · simp [updV, fset, hq]
theorem wm_copyI (hx : p.tables.exec = Jvm.exec) (hb : c.code = cc) (had : ∀ k : Nat, k < 1000 → ad k = base + k) (hKK : KK X D aC ad base H0 s) {H : Heap} {locs : List Loc} {cells slots : Nat} {ls : Array Slot} {rest : List Value} {b0 b1 : Nat} {n0 n1 : Nat} {f g : Nat → Int32} {t0 : Nat} {c1 : ClassId} (hml : c.maxLocals = ls.size) {own : String} {index : Nat} (hown : s.vm.findClass own = some m.cls) (hlink : (Jvm.Cond.methodLink own index arraycopyName).before args s = true) (hnat : (Jvm.Cond.native arraycopyName).before args s = true) (hstat : (Jvm.Cond.static arraycopyName).before args s = true) (hini : (Jvm.Cond.initialized "java/lang/System").before args s = true)
    (ht0 : (pm_tys aC)[t0]? = some (c1, .int)) (hc0 : H[b0]? = some (arrV c1 n0 (fun j => .int (f j)))) (hc1 : H[b1]? = some (arrV c1 n1 (fun j => .int (g j)))) {sp dp n : Int} (h1 : 0 ≤ w32 sp) (h2 : 0 ≤ w32 dp) (h3 : 0 ≤ w32 n) (h4 : w32 sp + w32 n ≤ n0) (h5 : w32 dp + w32 n ≤ n1) (hsum : (rest.map fun v => v.category).sum ≤ 8) (hfr : 1 ≤ R.frames) (hlo : 37 ≤ R.locals) (hd : decode cc pc = .ok (.invokestatic index, 3))
    (kk : ∀ (H1 : Heap) (L : List Loc), (∀ q ∈ L, q.base = b1) → H1[b1]? = some (arrV c1 n1 (fun j => .int (va_cpy f g (w32 sp).toNat (w32 dp).toNat (w32 n).toNat j))) → H1.size = H.size → (∀ q, q ≠ b1 → H1[q]? = H[q]?) → W p l e R s m args below meth c H1 (locs ++ L) cells slots Q (F0 m (pc + 3) ls rest)) : W p l e R s m args below meth c H locs cells slots Q (F0 m pc ls (.int (Int32.ofInt n) :: .int (Int32.ofInt dp) :: .ref b1 :: .int (Int32.ofInt sp) :: .ref b0 :: rest)) := by
  have ng : ∀ z : Int, 0 ≤ w32 z → ¬ Int32.ofInt z < 0 := fun z hz q => by rw [n32_0, n32_lt, w32_0] at q; omega
  intro T hT X'
  obtain ⟨-, k0, hk0, cm0, hkk0⟩ := (hKK.1.2 t0 _ ht0).1 n0 (fun j => .int (f j))
  obtain ⟨vm', X1, step⟩ := X'.arraycopy hx hown hlink hnat hstat hini (src := b0) (dst := b1) (cs := arrV c1 n0 (fun j => .int (f j))) (cd := arrV c1 n1 (fun j => .int (g j))) (srcPos := Int32.ofInt sp) (destPos := Int32.ofInt dp) (n := Int32.ofInt n) (by rw [hT]; exact hc0) (by rw [hT]; exact hc1)
    (fun _ h => by cases h) (fun _ h => by cases h) (fun h => by cases h) (fun h => by cases h) hk0 hk0 hkk0 hkk0 (by simp [refKind]) (ng _ h1) (ng _ h2) (ng _ h3)
    (by rw [w32_of, w32_of, arrV_size]; omega)
    (by rw [w32_of, w32_of, arrV_size]; omega)
    (fun vm₁ _ i hi => by
      rw [n32_clamp] at hi
      have e : (arrV c1 n0 (fun j => .int (f j))).slots.getD ((Int32.ofInt sp).toNatClampNeg + i) .null = .int (f ((Int32.ofInt sp).toNatClampNeg + i)) := by
        rw [Array.getD_eq_getD_getElem?, arrV_read _ _ (by rw [n32_clamp]; omega)]
        rfl
      refine ⟨?_, ?_⟩
      · rw [e]
        rfl
      · rw [e]
        exact trivial)
    (g := F0 m pc ls (.int (Int32.ofInt n) :: .int (Int32.ofInt dp) :: .ref b1 :: .int (Int32.ofInt sp) :: .ref b0 :: rest)) rfl (by rw [hml]) (rest := rest) rfl (by rw [hb]; exact hd) hfr (by
      have e5 : nativeFrameWords "java/lang/System" "arraycopy" 5 ≤ 18 := by decide
      show 2 * 0 + _ + _ ≤ _; omega)
  have e1 : copied (arrV c1 n0 (fun j => .int (f j))) (arrV c1 n1 (fun j => .int (g j))) (Int32.ofInt sp) (Int32.ofInt dp) (Int32.ofInt n) = arrV c1 n1 (fun j => .int (va_cpy f g (w32 sp).toNat (w32 dp).toNat (w32 n).toNat j)) := by
    have q := va_copied (fun z => Value.int z) c1 c1 (n1 := n1) (dp := (w32 dp).toNat) f g (show (w32 sp).toNat + (w32 n).toNat ≤ n0 by omega)
    unfold copied
    rw [n32_clamp, n32_clamp, n32_clamp]
    exact q
  rw [e1] at X1 step
  have hl : b1 < H.size := (Array.getElem?_eq_some_iff.mp hc1).1
  have hheap : ((T.setVm vm').setCell b1 (arrV c1 n1 (fun j => .int (va_cpy f g (w32 sp).toNat (w32 dp).toNat (w32 n).toNat j)))).heap = H.setIfInBounds b1 (arrV c1 n1 (fun j => .int (va_cpy f g (w32 sp).toNat (w32 dp).toNat (w32 n).toNat j))) := by rw [← hT]; rfl
  obtain ⟨t, a1, b2⟩ := kk _ _ (fun q hq => by obtain ⟨z, -, hz⟩ := List.mem_map.mp hq; rw [← hz]) (by simp [Array.getElem?_setIfInBounds, hl]) (by simp) (fun q hq => by simp [Array.getElem?_setIfInBounds, Ne.symm hq]) _ hheap X1
  exact ⟨t, step t a1, b2⟩
theorem wm_copyL (hx : p.tables.exec = Jvm.exec) (hb : c.code = cc) (had : ∀ k : Nat, k < 1000 → ad k = base + k) (hKK : KK X D aC ad base H0 s) {H : Heap} {locs : List Loc} {cells slots : Nat} {ls : Array Slot} {rest : List Value} {b0 b1 : Nat} {n0 n1 : Nat} {f g : Nat → Int64} {t0 : Nat} {c1 : ClassId} (hml : c.maxLocals = ls.size) {own : String} {index : Nat} (hown : s.vm.findClass own = some m.cls) (hlink : (Jvm.Cond.methodLink own index arraycopyName).before args s = true) (hnat : (Jvm.Cond.native arraycopyName).before args s = true) (hstat : (Jvm.Cond.static arraycopyName).before args s = true) (hini : (Jvm.Cond.initialized "java/lang/System").before args s = true)
    (ht0 : (pm_tys aC)[t0]? = some (c1, .long)) (hc0 : H[b0]? = some (arrV c1 n0 (fun j => .long (f j)))) (hc1 : H[b1]? = some (arrV c1 n1 (fun j => .long (g j)))) {sp dp n : Int} (h1 : 0 ≤ w32 sp) (h2 : 0 ≤ w32 dp) (h3 : 0 ≤ w32 n) (h4 : w32 sp + w32 n ≤ n0) (h5 : w32 dp + w32 n ≤ n1) (hsum : (rest.map fun v => v.category).sum ≤ 8) (hfr : 1 ≤ R.frames) (hlo : 37 ≤ R.locals) (hd : decode cc pc = .ok (.invokestatic index, 3))
    (kk : ∀ (H1 : Heap) (L : List Loc), (∀ q ∈ L, q.base = b1) → H1[b1]? = some (arrV c1 n1 (fun j => .long (va_cpy f g (w32 sp).toNat (w32 dp).toNat (w32 n).toNat j))) → H1.size = H.size → (∀ q, q ≠ b1 → H1[q]? = H[q]?) → W p l e R s m args below meth c H1 (locs ++ L) cells slots Q (F0 m (pc + 3) ls rest)) : W p l e R s m args below meth c H locs cells slots Q (F0 m pc ls (.int (Int32.ofInt n) :: .int (Int32.ofInt dp) :: .ref b1 :: .int (Int32.ofInt sp) :: .ref b0 :: rest)) := by
  have ng : ∀ z : Int, 0 ≤ w32 z → ¬ Int32.ofInt z < 0 := fun z hz q => by rw [n32_0, n32_lt, w32_0] at q; omega
  intro T hT X'
  obtain ⟨-, k0, hk0, cm0, hkk0⟩ := (hKK.1.2 t0 _ ht0).1 n0 (fun j => .long (f j))
  obtain ⟨vm', X1, step⟩ := X'.arraycopy hx hown hlink hnat hstat hini (src := b0) (dst := b1) (cs := arrV c1 n0 (fun j => .long (f j))) (cd := arrV c1 n1 (fun j => .long (g j))) (srcPos := Int32.ofInt sp) (destPos := Int32.ofInt dp) (n := Int32.ofInt n) (by rw [hT]; exact hc0) (by rw [hT]; exact hc1)
    (fun _ h => by cases h) (fun _ h => by cases h) (fun h => by cases h) (fun h => by cases h) hk0 hk0 hkk0 hkk0 (by simp [refKind]) (ng _ h1) (ng _ h2) (ng _ h3)
    (by rw [w32_of, w32_of, arrV_size]; omega)
    (by rw [w32_of, w32_of, arrV_size]; omega)
    (fun vm₁ _ i hi => by
      rw [n32_clamp] at hi
      have e : (arrV c1 n0 (fun j => .long (f j))).slots.getD ((Int32.ofInt sp).toNatClampNeg + i) .null = .long (f ((Int32.ofInt sp).toNatClampNeg + i)) := by
        rw [Array.getD_eq_getD_getElem?, arrV_read _ _ (by rw [n32_clamp]; omega)]
        rfl
      refine ⟨?_, ?_⟩
      · rw [e]
        rfl
      · rw [e]
        exact trivial)
    (g := F0 m pc ls (.int (Int32.ofInt n) :: .int (Int32.ofInt dp) :: .ref b1 :: .int (Int32.ofInt sp) :: .ref b0 :: rest)) rfl (by rw [hml]) (rest := rest) rfl (by rw [hb]; exact hd) hfr (by
      have e5 : nativeFrameWords "java/lang/System" "arraycopy" 5 ≤ 18 := by decide
      show 2 * 0 + _ + _ ≤ _; omega)
  have e1 : copied (arrV c1 n0 (fun j => .long (f j))) (arrV c1 n1 (fun j => .long (g j))) (Int32.ofInt sp) (Int32.ofInt dp) (Int32.ofInt n) = arrV c1 n1 (fun j => .long (va_cpy f g (w32 sp).toNat (w32 dp).toNat (w32 n).toNat j)) := by
    have q := va_copied (fun z => Value.long z) c1 c1 (n1 := n1) (dp := (w32 dp).toNat) f g (show (w32 sp).toNat + (w32 n).toNat ≤ n0 by omega)
    unfold copied
    rw [n32_clamp, n32_clamp, n32_clamp]
    exact q
  rw [e1] at X1 step
  have hl : b1 < H.size := (Array.getElem?_eq_some_iff.mp hc1).1
  have hheap : ((T.setVm vm').setCell b1 (arrV c1 n1 (fun j => .long (va_cpy f g (w32 sp).toNat (w32 dp).toNat (w32 n).toNat j)))).heap = H.setIfInBounds b1 (arrV c1 n1 (fun j => .long (va_cpy f g (w32 sp).toNat (w32 dp).toNat (w32 n).toNat j))) := by rw [← hT]; rfl
  obtain ⟨t, a1, b2⟩ := kk _ _ (fun q hq => by obtain ⟨z, -, hz⟩ := List.mem_map.mp hq; rw [← hz]) (by simp [Array.getElem?_setIfInBounds, hl]) (by simp) (fun q hq => by simp [Array.getElem?_setIfInBounds, Ne.symm hq]) _ hheap X1
  exact ⟨t, step t a1, b2⟩
theorem sj_copy (hx : p.tables.exec = Jvm.exec) (hb : c.code = cc) (had : ∀ k : Nat, k < 1000 → ad k = base + k) (hKK : KK X D aC ad base H0 s) {own : String} {i : Nat} {n dp sp : Int} {k0 k1 : Nat} {a0 a1 : Nat × Nat × (Nat → Int)} (hml : c.maxLocals = nL) (hown : s.vm.findClass own = some m.cls) (hlink : (Jvm.Cond.methodLink own i arraycopyName).before args s = true) (hnat : (Jvm.Cond.native arraycopyName).before args s = true) (hstat : (Jvm.Cond.static arraycopyName).before args s = true) (hini : (Jvm.Cond.initialized "java/lang/System").before args s = true)
    (hk0 : h.2.2 k0 = some (.inl a0)) (hk1 : h.2.2 k1 = some (.inl a1)) (ht : a0.1 = a1.1) (h03 : a0.1 = 0 ∨ a0.1 = 3) (h1 : 0 ≤ w32 n) (h2 : 0 ≤ w32 dp) (h3 : 0 ≤ w32 sp) (h4 : w32 sp + w32 n ≤ a0.2.1) (h5 : w32 dp + w32 n ≤ a1.2.1) (h6 : pcats r ≤ 8) (hfr : 1 ≤ R.frames) (hlo : 37 ≤ R.locals) (hd : decode cc pc = .ok (.invokestatic i, 3))
    (kk : Kon p l e R s m args below meth c Q D aC ad base H0 c0 s0 nL (pc + 3) (lo) (r) ((h.1, h.2.1, fset h.2.2 k1 (some (.inl (a1.1, a1.2.1, va_cpy a0.2.2 a1.2.2 (w32 sp).toNat (w32 dp).toNat (w32 n).toNat)))))) : Kon p l e R s m args below meth c Q D aC ad base H0 c0 s0 nL (pc) (lo) (.inl n :: .inl dp :: .inr (.inr (some k1)) :: .inl sp :: .inr (.inr (some k0)) :: r) (h) := by
  intro H locs ls hH hl hq
  have ha0 := hH.ad had hk0
  have ha1 := hH.ad had hk1
  have hsum : ((r.map (up_v ad)).map fun v => v.category).sum ≤ 8 := by
    have e : ((r.map (up_v ad)).map fun v => v.category) = r.map pcat := by
      rw [List.map_map]
      exact List.map_congr_left (fun v _ => up_cat ad v)
    rw [e]
    exact h6
  show W p l e R s m args below meth c H locs (h.1 - c0) (h.2.1 - s0) Q (F0 m pc ls (.int (Int32.ofInt n) :: .int (Int32.ofInt dp) :: .ref (ad k1) :: .int (Int32.ofInt sp) :: .ref (ad k0) :: r.map (up_v ad)))
  rw [ha0, ha1]
  have hml' : c.maxLocals = ls.size := by rw [hml]; exact hl.2.1.symm
  rcases h03 with h0 | h0
  · have hat0 : H[base + k0]? = some (arrV (aC a0.1) a0.2.1 (fun j => .int (Int32.ofInt (a0.2.2 j)))) := at_arr (by omega) (hH.2.2.2 k0 _ hk0).2
    have hat1 : H[base + k1]? = some (arrV (aC a1.1) a1.2.1 (fun j => .int (Int32.ofInt (a1.2.2 j)))) := at_arr (by omega) (hH.2.2.2 k1 _ hk1).2
    rw [← ht] at hat1
    refine wm_copyI hx hb had hKK (t0 := 0) (c1 := aC a0.1) hml' hown hlink hnat hstat hini (by rw [h0]; rfl) hat0 hat1 h3 h2 h1 h4 h5 hsum hfr hlo hd fun H1 L hL e1 e2 e3 => ?_
    refine kk H1 _ ls (hH.set hk1 e2 e3 (arr_at (by show ¬ a1.1 = 3; omega) ?_) (by show a1.1 < 4; omega)) hl (t_lL hq (fun q z => by rw [hL q z]; exact Nat.le_add_right _ _))
    show H1[base + k1]? = some (vp_cell _ _)
    rw [e1, vp_cell_i, ← ht]
    congr 2
    funext q
    by_cases hc : (w32 dp).toNat ≤ q ∧ q < (w32 dp).toNat + (w32 n).toNat <;> simp only [va_cpy, hc, if_true, if_false, and_self]
  · have hat0 : H[base + k0]? = some (arrV (aC a0.1) a0.2.1 (fun j => .long (Int64.ofInt (a0.2.2 j)))) := at_arl h0 (hH.2.2.2 k0 _ hk0).2
    have hat1 : H[base + k1]? = some (arrV (aC a1.1) a1.2.1 (fun j => .long (Int64.ofInt (a1.2.2 j)))) := at_arl (by omega) (hH.2.2.2 k1 _ hk1).2
    rw [← ht] at hat1
    refine wm_copyL hx hb had hKK (t0 := 3) (c1 := aC a0.1) hml' hown hlink hnat hstat hini (by rw [h0]; rfl) hat0 hat1 h3 h2 h1 h4 h5 hsum hfr hlo hd fun H1 L hL e1 e2 e3 => ?_
    refine kk H1 _ ls (hH.set hk1 e2 e3 (arl_at (by show a1.1 = 3; omega) ?_) (by show a1.1 < 4; omega)) hl (t_lL hq (fun q z => by rw [hL q z]; exact Nat.le_add_right _ _))
    show H1[base + k1]? = some (vp_cell _ _)
    rw [e1, vp_cell_l, ← ht]
    congr 2
    funext q
    by_cases hc : (w32 dp).toNat ≤ q ∧ q < (w32 dp).toNat + (w32 n).toNat <;> simp only [va_cpy, hc, if_true, if_false, and_self]
theorem sj_objInit (hx : p.tables.exec = Jvm.exec) (hb : c.code = cc) (had : ∀ k : Nat, k < 1000 → ad k = base + k) (hKK : KK X D aC ad base H0 s) {own : String} {i k : Nat} (hml : c.maxLocals = nL) (hown : s.vm.findClass own = some m.cls) (hlink : (Jvm.Cond.methodLink own i Lib.objectInit).before args s = true) (hinst : (Jvm.Cond.instanceMethod Lib.objectInit).before args s = true) (hcode : (Jvm.Cond.code Lib.objectInit ⟨#[0xb1]⟩ 1 none).before args s = true) (h6 : pcats r ≤ 8) (hfr : 1 ≤ R.frames) (hlo : 37 ≤ R.locals) (hd : decode cc pc = .ok (.invokespecial i, 3))
    (kk : Kon p l e R s m args below meth c Q D aC ad base H0 c0 s0 nL (pc + 3) (lo) (r) (h)) : Kon p l e R s m args below meth c Q D aC ad base H0 c0 s0 nL (pc) (lo) (.inr (.inr (some k)) :: r) (h) := by
  intro H locs ls hH hl hq
  have hsum : ((r.map (up_v ad)).map fun v => v.category).sum ≤ 8 := by
    have e : ((r.map (up_v ad)).map fun v => v.category) = r.map pcat := by
      rw [List.map_map]
      exact List.map_congr_left (fun v _ => up_cat ad v)
    rw [e]
    exact h6
  refine W.objInit hx hb hown hlink hinst hcode rfl (by rw [hml]; exact hl.2.1) rfl hd hfr (by show 2 * 0 + _ + 12 ≤ _; omega) ?_
  exact kk H locs ls hH hl hq
/-- rows outside the heap, and texts -/
theorem sj_slen (hx : p.tables.exec = Jvm.exec) (hb : c.code = cc) (had : ∀ k : Nat, k < 1000 → ad k = base + k) (hKK : KK X D aC ad base H0 s) (hH0 : H0.size = base) (hbl : ad 100000 < base) (hd : decode cc pc = .ok (.arraylength, 1)) (kk : Kon p l e R s m args below meth c Q D aC ad base H0 c0 s0 nL (pc + 1) (lo) (.inl (X.1 : Int) :: r) (h)) : Kon p l e R s m args below meth c Q D aC ad base H0 c0 s0 nL (pc) (lo) (.inr (.inr (some 100000)) :: r) (h) := by
  intro H locs ls hH hl hq
  have hS : va_S (fun q => base ≤ q) H0 H locs := ⟨by rw [hH0, hH.1]; omega, fun q h1 h2 => hH.2.2.1 q (Nat.not_le.mp h2), hq⟩
  refine va_slen (A := fun q => base ≤ q) hx hb hKK.2.2.2.2.2.2.2 (by rw [hH0]; exact hbl) (Nat.not_le.mpr hbl) hS hd ?_
  rw [n32_nat]
  exact kk H locs ls hH hl hq
theorem sj_sld (hx : p.tables.exec = Jvm.exec) (hb : c.code = cc) (had : ∀ k : Nat, k < 1000 → ad k = base + k) (hKK : KK X D aC ad base H0 s) {i : Int} (hH0 : H0.size = base) (hbl : ad 100000 < base) (hi : pm_idx i X.1 = true) (hd : decode cc pc = .ok (.iaload, 1)) (kk : Kon p l e R s m args below meth c Q D aC ad base H0 c0 s0 nL (pc + 1) (lo) (.inl (X.2.1 (w32 i).toNat) :: r) (h)) : Kon p l e R s m args below meth c Q D aC ad base H0 c0 s0 nL (pc) (lo) (.inl i :: .inr (.inr (some 100000)) :: r) (h) := by
  intro H locs ls hH hl hq
  have hS : va_S (fun q => base ≤ q) H0 H locs := ⟨by rw [hH0, hH.1]; omega, fun q h1 h2 => hH.2.2.1 q (Nat.not_le.mp h2), hq⟩
  refine va_sld (A := fun q => base ≤ q) hx hb hKK.2.2.2.2.2.2.2 (by rw [hH0]; exact hbl) (Nat.not_le.mpr hbl) hS (n32_in hi) hd ?_
  rw [n32_clamp]
  exact kk H locs ls hH hl hq
theorem len_at {j : Nat} {t : List Int} (hj : pm_strs[j]? = some t) : pm_lens.getD j 0 = t.length := by
  simp [pm_lens, List.getD_eq_getElem?_getD, List.getElem?_map, hj]
theorem byt_at {j : Nat} {t : List Int} (hj : pm_strs[j]? = some t) (q : Nat) : (pm_bytI.getD j []).getD q 0 = Int32.ofInt (t.getD q 0) := by
  simp only [pm_bytI, List.getD_eq_getElem?_getD, List.getElem?_map, hj, Option.map_some, Option.getD_some]
  cases t[q]? <;> rfl
theorem sj_tlen (hx : p.tables.exec = Jvm.exec) (hb : c.code = cc) (had : ∀ k : Nat, k < 1000 → ad k = base + k) (hKK : KK X D aC ad base H0 s) {j : Nat} {t : List Int} (hsz : s.heap.size = base + c0) (hag : ∀ q : Nat, q < base → s.heap[q]? = H0[q]?) (hH0 : H0.size = base) (hc0 : c0 ≤ h.1) (hj : pm_strs[j]? = some t) (hj24 : j < 24) (hd : decode cc pc = .ok (.arraylength, 1)) (kk : Kon p l e R s m args below meth c Q D aC ad base H0 c0 s0 nL (pc + 1) (lo) (.inl (t.length : Int) :: r) (h)) : Kon p l e R s m args below meth c Q D aC ad base H0 c0 s0 nL (pc) (lo) (.inr (.inr (some (100002 + 2 * j))) :: r) (h) := by
  intro H locs ls hH hl hq
  have hT := ((hKK.2.2.2.2.1.kept (H1 := s.heap) (fun a h1 h2 => hag a (Nat.not_le.mp h2))).1 j hj24).2.2.2
  refine va_tlen hx hb hT (va_Sof hsz hag hc0 hH hq) (v := Int32.ofInt (t.length : Int)) ?_ hd (kk H locs ls hH hl hq)
  rw [len_at hj]
  exact n32_nat _
theorem sj_tld (hx : p.tables.exec = Jvm.exec) (hb : c.code = cc) (had : ∀ k : Nat, k < 1000 → ad k = base + k) (hKK : KK X D aC ad base H0 s) {j : Nat} {i : Int} {t : List Int} (hsz : s.heap.size = base + c0) (hag : ∀ q : Nat, q < base → s.heap[q]? = H0[q]?) (hH0 : H0.size = base) (hc0 : c0 ≤ h.1) (hj : pm_strs[j]? = some t) (hj24 : j < 24) (hi : pm_idx i t.length = true) (hd : decode cc pc = .ok (.baload, 1)) (kk : Kon p l e R s m args below meth c Q D aC ad base H0 c0 s0 nL (pc + 1) (lo) (.inl (t.getD (w32 i).toNat 0) :: r) (h)) : Kon p l e R s m args below meth c Q D aC ad base H0 c0 s0 nL (pc) (lo) (.inl i :: .inr (.inr (some (100002 + 2 * j))) :: r) (h) := by
  intro H locs ls hH hl hq
  have hT := ((hKK.2.2.2.2.1.kept (H1 := s.heap) (fun a h1 h2 => hag a (Nat.not_le.mp h2))).1 j hj24).2.2.2
  refine va_tb hx hb hT (va_Sof hsz hag hc0 hH hq) (by rw [len_at hj]; exact n32_in hi) (v := .int (Int32.ofInt (t.getD (w32 i).toNat 0))) ?_ hd (kk H locs ls hH hl hq)
  show Value.int _ = _
  rw [byt_at hj, n32_clamp]
theorem sj_tval (hx : p.tables.exec = Jvm.exec) (hb : c.code = cc) (had : ∀ k : Nat, k < 1000 → ad k = base + k) (hKK : KK X D aC ad base H0 s) {own : String} {i j : Nat} (hsz : s.heap.size = base + c0) (hag : ∀ q : Nat, q < base → s.heap[q]? = H0[q]?) (hc0 : c0 ≤ h.1) (hown : s.vm.findClass own = some m.cls) (hlink : (Jvm.Cond.fieldLink own i "java/lang/String" "value" "[B").before args s = true) (hj24 : j < 24) (hd : decode cc pc = .ok (.getfield i, 3)) (kk : Kon p l e R s m args below meth c Q D aC ad base H0 c0 s0 nL (pc + 3) (lo) (.inr (.inr (some (100002 + 2 * j))) :: r) (h)) : Kon p l e R s m args below meth c Q D aC ad base H0 c0 s0 nL (pc) (lo) (.inr (.inr (some (100001 + 2 * j))) :: r) (h) := by
  intro H locs ls hH hl hq
  have hT := ((hKK.2.2.2.2.1.kept (H1 := s.heap) (fun a h1 h2 => hag a (Nat.not_le.mp h2))).1 j hj24).2.2.1
  exact vk_getf hx hb hT (va_Sof hsz hag hc0 hH hq) hown hlink (fun _ q => q) hd (kk H locs ls hH hl hq)
theorem sj_tcod (hx : p.tables.exec = Jvm.exec) (hb : c.code = cc) (had : ∀ k : Nat, k < 1000 → ad k = base + k) (hKK : KK X D aC ad base H0 s) {own : String} {i j : Nat} (hsz : s.heap.size = base + c0) (hag : ∀ q : Nat, q < base → s.heap[q]? = H0[q]?) (hc0 : c0 ≤ h.1) (hown : s.vm.findClass own = some m.cls) (hlink : (Jvm.Cond.fieldLink own i "java/lang/String" "coder" "B").before args s = true) (hj24 : j < 24) (hd : decode cc pc = .ok (.getfield i, 3)) (kk : Kon p l e R s m args below meth c Q D aC ad base H0 c0 s0 nL (pc + 3) (lo) (.inl 0 :: r) (h)) : Kon p l e R s m args below meth c Q D aC ad base H0 c0 s0 nL (pc) (lo) (.inr (.inr (some (100001 + 2 * j))) :: r) (h) := by
  intro H locs ls hH hl hq
  have hT := ((hKK.2.2.2.2.1.kept (H1 := s.heap) (fun a h1 h2 => hag a (Nat.not_le.mp h2))).1 j hj24).2.1
  exact vk_getf hx hb hT (va_Sof hsz hag hc0 hH hq) hown hlink (fun _ q => q) hd (kk H locs ls hH hl hq)
theorem sj_gets0 (hx : p.tables.exec = Jvm.exec) (hb : c.code = cc) (had : ∀ k : Nat, k < 1000 → ad k = base + k) (hKK : KK X D aC ad base H0 s) {own : String} {i : Nat} (hsz : s.heap.size = base + c0) (hag : ∀ q : Nat, q < base → s.heap[q]? = H0[q]?) (hc0 : c0 ≤ h.1) (hown : s.vm.findClass own = some m.cls) (hlink : (Jvm.Cond.fieldLink own i "java/lang/String" "COMPACT_STRINGS" "Z").before args s = true) (hd : decode cc pc = .ok (.getstatic i, 3)) (kk : Kon p l e R s m args below meth c Q D aC ad base H0 c0 s0 nL (pc + 3) (lo) (.inl 1 :: st) (h)) : Kon p l e R s m args below meth c Q D aC ad base H0 c0 s0 nL (pc) (lo) (st) (h) := by
  intro H locs ls hH hl hq
  have hT := hKK.2.2.2.2.2.1.kept (H1 := s.heap) (fun a h1 h2 => hag a (Nat.not_le.mp h2))
  exact va_gets hx hb hT (va_Sof hsz hag hc0 hH hq) hown hlink (fun _ q => q) hd (kk H locs ls hH hl hq)
theorem sj_gets3 (hx : p.tables.exec = Jvm.exec) (hb : c.code = cc) (had : ∀ k : Nat, k < 1000 → ad k = base + k) (hKK : KK X D aC ad base H0 s) {own : String} {i : Nat} (hsz : s.heap.size = base + c0) (hag : ∀ q : Nat, q < base → s.heap[q]? = H0[q]?) (hc0 : c0 ≤ h.1) (hown : s.vm.findClass own = some m.cls) (hlink : (Jvm.Cond.fieldLink own i "jdk/internal/util/Preconditions" "SIOOBE_FORMATTER" "Ljava/util/function/BiFunction;").before args s = true) (hd : decode cc pc = .ok (.getstatic i, 3)) (kk : Kon p l e R s m args below meth c Q D aC ad base H0 c0 s0 nL (pc + 3) (lo) (.inr (.inr X.2.2) :: st) (h)) : Kon p l e R s m args below meth c Q D aC ad base H0 c0 s0 nL (pc) (lo) (st) (h) := by
  intro H locs ls hH hl hq
  have hT := hKK.2.2.2.2.2.2.1.kept (H1 := s.heap) (fun a h1 h2 => hag a (Nat.not_le.mp h2))
  exact va_gets hx hb hT (va_Sof hsz hag hc0 hH hq) hown hlink (fun _ q => q) hd (kk H locs ls hH hl hq)
end SIMN
