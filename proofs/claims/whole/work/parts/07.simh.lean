/-! instructions that touch the heap -/
theorem pm_cl_at {k : Nat} (h : k < 13) : pm_cl[k]? = some (pm_cn k, pm_T k, pm_N k) := by
  simp [pm_cl, h]
theorem vp1 {D : va_G} {cl : List vw_C} {q : Nat × va_E} {H : Heap} (h : va_at D cl q H) : va_P D cl [q] H := by
  intro k x hx
  match k, hx with
  | 0, hx => cases hx; exact h
  | k + 1, hx => simp at hx
def kd_of : FieldType → Nat
  | .int => 0
  | .boolean => 1
  | .long => 2
  | .object _ => 3
  | .array _ => 3
  | _ => 9
theorem okv_fits {ad : Nat → Nat} {ty : FieldType} {v : PV} (h : pm_okv (kd_of ty) v = true) : narrow ty (up_v ad v) = up_v ad v ∧ fits ty (up_v ad v) = true := by
  match v with
  | .inl x =>
    cases ty <;> first | exact ⟨rfl, rfl⟩ | (simp [kd_of, pm_okv] at h; done) | skip
    simp only [kd_of, pm_okv, Bool.or_eq_true, decide_eq_true_eq] at h
    rcases h with rfl | rfl
    · exact ⟨(by decide : narrow FieldType.boolean (.int (Int32.ofInt 0)) = .int (Int32.ofInt 0)), (by decide : fits FieldType.boolean (.int (Int32.ofInt 0)) = true)⟩
    · exact ⟨(by decide : narrow FieldType.boolean (.int (Int32.ofInt 1)) = .int (Int32.ofInt 1)), (by decide : fits FieldType.boolean (.int (Int32.ofInt 1)) = true)⟩
  | .inr (.inl x) => cases ty <;> first | exact ⟨rfl, rfl⟩ | simp [kd_of, pm_okv] at h
  | .inr (.inr (some x)) => cases ty <;> first | exact ⟨rfl, rfl⟩ | simp [kd_of, pm_okv] at h
  | .inr (.inr none) => cases ty <;> first | exact ⟨rfl, rfl⟩ | simp [kd_of, pm_okv] at h
theorem dflt_of {ad : Nat → Nat} {ty : FieldType} (h : kd_of ty < 4) : defaultValue ty = up_v ad (pm_dflt (kd_of ty)) := by
  cases ty <;> first | rfl | (simp [kd_of] at h; done)
section SIMH
variable {p : Program} {l : Launch} {e : Env} {R : Room} {s : State} {m : MethodId} {args : Array Value} {below : List Frame} {meth : Method} {c : Code} {Q : State → Prop}
variable {X : PX} {D : va_G} {aC : Nat → ClassId} {ad : Nat → Nat} {base : Nat} {H0 : Heap} {c0 s0 nL : Nat}
variable {cc : ByteArray} {pc : Nat} {lo : List (Option PV)} {st r : List PV} {h : PH}
/-- the frame, as the kit has it -/
theorem va_Sof (hsz : s.heap.size = base + c0) (hag : ∀ q : Nat, q < base → s.heap[q]? = H0[q]?) {H : Heap} {locs : List Loc} (hc : c0 ≤ h.1) (hH : HR D aC ad base H0 h H) (hq : ∀ q ∈ locs, base ≤ q.base) : va_S (fun q => base ≤ q) s.heap H locs := by
  refine ⟨by rw [hsz, hH.1]; omega, fun q h1 h2 => ?_, hq⟩
  have h3 : q < base := Nat.not_le.mp h2
  rw [hH.2.2.1 q h3, hag q h3]
theorem sj_get (hx : p.tables.exec = Jvm.exec) (hb : c.code = cc) (had : ∀ k : Nat, k < 1000 → ad k = base + k) (hKK : KK X D aC ad base H0 s) {own : String} {i cn k kf : Nat} {fs : List PV} {v : PV} (hts : ∀ w ∈ GT, w.before args s = true) (hown : s.vm.findClass own = some m.cls) (hcn : cn < 13) (hin : ∀ w ∈ u_ws (pm_cn cn) (pm_T cn) (pm_N cn), w ∈ GT) (hkf : kf < pm_N cn)
    (hlink : (Jvm.Cond.fieldLink own i (pm_T cn kf).1 (pm_T cn kf).2.1 (pm_T cn kf).2.2.1).before args s = true) (hk : h.2.2 k = some (.inr (.inr (cn, fs)))) (hv : fs[kf]? = some v) (hd : decode cc pc = .ok (.getfield i, 3))
    (kk : Kon p l e R s m args below meth c Q D aC ad base H0 c0 s0 nL (pc + 3) (lo) (v :: r) (h)) : Kon p l e R s m args below meth c Q D aC ad base H0 c0 s0 nL (pc) (lo) (.inr (.inr (some k)) :: r) (h) := by
  intro H locs ls hH hl hq
  have ha := hH.ad had hk
  have hat := (hH.2.2.2 k _ hk).2
  show W p l e R s m args below meth c H locs (h.1 - c0) (h.2.1 - s0) Q (F0 m pc ls (.ref (ad k) :: r.map (up_v ad)))
  rw [ha]
  exact va_get (ci := cn) (fs := fs.map (up_v ad)) (v := up_v ad v) hx hb hts hin hown hKK.1 (vp1 hat) 0 rfl (pm_cl_at hcn) kf hkf hlink (fun _ q => q) (by rw [List.getElem?_map, hv]; rfl) hd (kk H locs ls hH hl hq)
theorem at_obj {cn k : Nat} {fs : List PV} {H : Heap} (hcn : cn < 13) (hat : va_at D pm_cl (base + k, up_e aC ad (.inr (.inr (cn, fs)))) H) : t_OB (base + k) (D.1 cn) (pm_N cn) (D.2 cn) H (vp_V (fs.map (up_v ad))) := by
  obtain ⟨r, h1, h2⟩ := hat
  have h1 : pm_cl[cn]? = some r := h1
  rw [pm_cl_at hcn] at h1
  cases h1
  exact h2
theorem obj_at {cn k : Nat} {fs : List PV} {H : Heap} (hcn : cn < 13) (h2 : t_OB (base + k) (D.1 cn) (pm_N cn) (D.2 cn) H (vp_V (fs.map (up_v ad)))) : va_at D pm_cl (base + k, up_e aC ad (.inr (.inr (cn, fs)))) H := ⟨_, pm_cl_at hcn, h2⟩
theorem sj_put (hx : p.tables.exec = Jvm.exec) (hb : c.code = cc) (had : ∀ k : Nat, k < 1000 → ad k = base + k) (hKK : KK X D aC ad base H0 s) {own : String} {i cn k kf : Nat} {fs : List PV} {v : PV} (hts : ∀ w ∈ GT, w.before args s = true) (hown : s.vm.findClass own = some m.cls) (hcn : cn < 13) (hin : ∀ w ∈ u_ws (pm_cn cn) (pm_T cn) (pm_N cn), w ∈ GT) (hty : ∀ k, k < pm_N cn → parseFieldDescriptor (pm_T cn k).2.2.1 = some (pm_ftyp cn k)) (hnm : ∀ a, a < pm_N cn → ∀ b, b < pm_N cn → a ≠ b → (pm_T cn a).2.1 ≠ (pm_T cn b).2.1) (hkf : kf < pm_N cn)
    (hlink : (Jvm.Cond.fieldLink own i (pm_T cn kf).1 (pm_T cn kf).2.1 (pm_T cn kf).2.2.1).before args s = true) (hfin : (pm_T cn kf).2.2.2 = true → meth.name = "<init>" ∧ (pm_T cn kf).1 = own) (hk : h.2.2 k = some (.inr (.inr (cn, fs)))) (hlen : kf < fs.length) (hv : pm_okv (kd_of (pm_ftyp cn kf)) v = true) (hd : decode cc pc = .ok (.putfield i, 3))
    (kk : Kon p l e R s m args below meth c Q D aC ad base H0 c0 s0 nL (pc + 3) (lo) (r) ((h.1, h.2.1, fset h.2.2 k (some (.inr (.inr (cn, fs.set kf v))))))) : Kon p l e R s m args below meth c Q D aC ad base H0 c0 s0 nL (pc) (lo) (v :: .inr (.inr (some k)) :: r) (h) := by
  intro H locs ls hH hl hq
  have ha := hH.ad had hk
  have hat := at_obj hcn (hH.2.2.2 k _ hk).2
  have hc := pm_cl_at hcn
  have hfit := okv_fits (ad := ad) hv
  show W p l e R s m args below meth c H locs (h.1 - c0) (h.2.1 - s0) Q (F0 m pc ls (up_v ad v :: .ref (ad k) :: r.map (up_v ad)))
  rw [ha]
  have hap := va_apart (own := own) hts hin (pm_ftyp cn) hty hnm hKK.1 hc
  obtain ⟨cell, q1, q2, q3, q4⟩ := hat
  obtain ⟨hS, hfc, kC, hkC, hkind⟩ := hKK.1.1 cn _ hc
  obtain ⟨cf, kf', fi, f, hi, hsl⟩ := hS kf hkf
  have hst := (u_facts hfc hkC (u_lays hts hin hkf) hi).1
  have new : ∀ H' : Heap, H'[base + k]? = some (cell.setSlot f.slot (up_v ad v)) → H'.size = H.size → (∀ q, q ≠ base + k → H'[q]? = H[q]?) → W p l e R s m args below meth c H' (locs ++ [⟨base + k, f.slot⟩]) (h.1 - c0) (h.2.1 - s0) Q (F0 m (pc + 3) ls (r.map (up_v ad))) := by
    intro H' e1 e2 e3
    rw [hsl] at e1
    refine kk H' _ ls (hH.set hk e2 e3 (obj_at hcn ?_) trivial) hl (t_lc hq (Nat.le_add_right _ _))
    rw [List.map_set]
    exact t_OB.to (V := updV (vp_V (fs.map (up_v ad))) kf (up_v ad v)) ⟨_, e1, q2, q3, t_set q4 hap hkf _⟩ (fun j _ => vp_updV_set (by rw [List.length_map]; exact hlen) _ j)
  by_cases hf : (pm_T cn kf).2.2.2 = true
  · obtain ⟨hin2, hdecl⟩ := hfin hf
    have hlay := hts _ (hin _ (u_in_lay hkf))
    unfold u_lay at hlay
    rw [if_pos hf] at hlay
    have hcf : m.cls = cf := by
      obtain ⟨_, _, c', _, _, _, -, -, hf', -, -, -, hown2, -⟩ := Cond.laysFinal_spec hlay
      have e1 : c' = cf := by have := hi.symm.trans hf'; simp at this; exact this.1.symm
      rw [hdecl] at hown2
      rw [← e1]; exact Option.some.inj (hown.symm.trans hown2)
    have h6 := u_fits hfc hkC hkind (u_lays hts hin hkf) hi (hty kf hkf) hfit.1 hfit.2
    exact W.putFinK hx hb hown hlink hi hst hcf hin2 (by rw [q2]; exact h6) q1 q3 (by rw [hsl]; exact k2_hasslot (q4 kf hkf)) rfl rfl hd new
  · have hlay := hts _ (hin _ (u_in_lay hkf))
    unfold u_lay at hlay
    rw [if_neg hf] at hlay
    have h6 := u_store hfc hkC hkind hlay hi (hty kf hkf) hfit.1 hfit.2
    exact W.putK hx hb (f := f) ⟨hown, hlink, ⟨_, _, _, hi⟩, hst⟩ (by rw [q2]; exact h6) q1 q3 (by rw [hsl]; exact k2_hasslot (q4 kf hkf)) rfl rfl hd new
theorem tys_at {t : Nat} (h : t < 4) : ∃ ty, (pm_tys aC)[t]? = some (aC t, ty) := by
  rcases (show t = 0 ∨ t = 1 ∨ t = 2 ∨ t = 3 by omega) with rfl | rfl | rfl | rfl <;> exact ⟨_, rfl⟩
theorem up_e_arr (aC : Nat → ClassId) (ad : Nat → Nat) (a : Nat × Nat × (Nat → Int)) : up_e aC ad (.inl a) = .inl (aC a.1, a.2.1, if a.1 = 3 then .inr (.inl (fun j => Int64.ofInt (a.2.2 j))) else .inl (fun j => Int32.ofInt (a.2.2 j))) := rfl
theorem at_arr {k : Nat} {a : Nat × Nat × (Nat → Int)} {H : Heap} (h3 : ¬ a.1 = 3) (hat : va_at D pm_cl (base + k, up_e aC ad (.inl a)) H) : va_at D pm_cl (base + k, .inl (aC a.1, a.2.1, .inl (fun j => Int32.ofInt (a.2.2 j)))) H := by
  rw [up_e_arr, if_neg h3] at hat
  exact hat
theorem at_arl {k : Nat} {a : Nat × Nat × (Nat → Int)} {H : Heap} (h3 : a.1 = 3) (hat : va_at D pm_cl (base + k, up_e aC ad (.inl a)) H) : va_at D pm_cl (base + k, .inl (aC a.1, a.2.1, .inr (.inl (fun j => Int64.ofInt (a.2.2 j))))) H := by
  rw [up_e_arr, if_pos h3] at hat
  exact hat
theorem arr_at {k : Nat} {a : Nat × Nat × (Nat → Int)} {H : Heap} (h3 : ¬ a.1 = 3) (hat : va_at D pm_cl (base + k, .inl (aC a.1, a.2.1, .inl (fun j => Int32.ofInt (a.2.2 j)))) H) : va_at D pm_cl (base + k, up_e aC ad (.inl a)) H := by
  rw [up_e_arr, if_neg h3]
  exact hat
theorem arl_at {k : Nat} {a : Nat × Nat × (Nat → Int)} {H : Heap} (h3 : a.1 = 3) (hat : va_at D pm_cl (base + k, .inl (aC a.1, a.2.1, .inr (.inl (fun j => Int64.ofInt (a.2.2 j))))) H) : va_at D pm_cl (base + k, up_e aC ad (.inl a)) H := by
  rw [up_e_arr, if_pos h3]
  exact hat
theorem sj_alen (hx : p.tables.exec = Jvm.exec) (hb : c.code = cc) (had : ∀ k : Nat, k < 1000 → ad k = base + k) (hKK : KK X D aC ad base H0 s) {k : Nat} {a : Nat × Nat × (Nat → Int)} (hk : h.2.2 k = some (.inl a)) (h4 : a.1 < 4) (hd : decode cc pc = .ok (.arraylength, 1)) (kk : Kon p l e R s m args below meth c Q D aC ad base H0 c0 s0 nL (pc + 1) (lo) (.inl (a.2.1 : Int) :: r) (h)) : Kon p l e R s m args below meth c Q D aC ad base H0 c0 s0 nL (pc) (lo) (.inr (.inr (some k)) :: r) (h) := by
  intro H locs ls hH hl hq
  have ha := hH.ad had hk
  have hat := (hH.2.2.2 k _ hk).2
  obtain ⟨ty, hty⟩ := tys_at (aC := aC) h4
  show W p l e R s m args below meth c H locs (h.1 - c0) (h.2.1 - s0) Q (F0 m pc ls (.ref (ad k) :: r.map (up_v ad)))
  rw [ha]
  by_cases h3 : a.1 = 3
  · exact va_alen hx hb hKK.1 (vp1 (at_arl h3 hat)) 0 a.1 rfl hty (n32_nat _) hd (kk H locs ls hH hl hq)
  · exact va_alen hx hb hKK.1 (vp1 (at_arr h3 hat)) 0 a.1 rfl hty (n32_nat _) hd (kk H locs ls hH hl hq)
theorem sj_iald (hx : p.tables.exec = Jvm.exec) (hb : c.code = cc) (had : ∀ k : Nat, k < 1000 → ad k = base + k) (hKK : KK X D aC ad base H0 s) {k : Nat} {i : Int} {a : Nat × Nat × (Nat → Int)} (hk : h.2.2 k = some (.inl a)) (h4 : a.1 = 0) (hi : pm_idx i a.2.1 = true) (hd : decode cc pc = .ok (.iaload, 1)) (kk : Kon p l e R s m args below meth c Q D aC ad base H0 c0 s0 nL (pc + 1) (lo) (.inl (a.2.2 (w32 i).toNat) :: r) (h)) : Kon p l e R s m args below meth c Q D aC ad base H0 c0 s0 nL (pc) (lo) (.inl i :: .inr (.inr (some k)) :: r) (h) := by
  intro H locs ls hH hl hq
  have ha := hH.ad had hk
  have hat := at_arr (by omega) (hH.2.2.2 k _ hk).2
  show W p l e R s m args below meth c H locs (h.1 - c0) (h.2.1 - s0) Q (F0 m pc ls (.int (Int32.ofInt i) :: .ref (ad k) :: r.map (up_v ad)))
  rw [ha]
  refine va_iald hx hb hKK.1 (vp1 hat) 0 0 rfl (by rw [h4]; rfl) (n32_in hi) hd ?_
  rw [n32_clamp]
  exact kk H locs ls hH hl hq
theorem sj_bald (hx : p.tables.exec = Jvm.exec) (hb : c.code = cc) (had : ∀ k : Nat, k < 1000 → ad k = base + k) (hKK : KK X D aC ad base H0 s) {k : Nat} {i : Int} {a : Nat × Nat × (Nat → Int)} (hk : h.2.2 k = some (.inl a)) (h4 : a.1 = 1 ∨ a.1 = 2) (hi : pm_idx i a.2.1 = true) (hd : decode cc pc = .ok (.baload, 1)) (kk : Kon p l e R s m args below meth c Q D aC ad base H0 c0 s0 nL (pc + 1) (lo) (.inl (a.2.2 (w32 i).toNat) :: r) (h)) : Kon p l e R s m args below meth c Q D aC ad base H0 c0 s0 nL (pc) (lo) (.inl i :: .inr (.inr (some k)) :: r) (h) := by
  intro H locs ls hH hl hq
  have ha := hH.ad had hk
  have hat := at_arr (by omega) (hH.2.2.2 k _ hk).2
  show W p l e R s m args below meth c H locs (h.1 - c0) (h.2.1 - s0) Q (F0 m pc ls (.int (Int32.ofInt i) :: .ref (ad k) :: r.map (up_v ad)))
  rw [ha]
  rcases h4 with h4 | h4
  · refine va_bald hx hb hKK.1 (vp1 hat) 0 1 rfl (by rw [h4]; rfl) (n32_in hi) hd ?_
    rw [n32_clamp]
    exact kk H locs ls hH hl hq
  · refine va_zald hx hb hKK.1 (vp1 hat) 0 2 rfl (by rw [h4]; rfl) (n32_in hi) hd ?_
    rw [n32_clamp]
    exact kk H locs ls hH hl hq
theorem sj_lald (hx : p.tables.exec = Jvm.exec) (hb : c.code = cc) (had : ∀ k : Nat, k < 1000 → ad k = base + k) (hKK : KK X D aC ad base H0 s) {k : Nat} {i : Int} {a : Nat × Nat × (Nat → Int)} (hk : h.2.2 k = some (.inl a)) (h4 : a.1 = 3) (hi : pm_idx i a.2.1 = true) (hd : decode cc pc = .ok (.laload, 1)) (kk : Kon p l e R s m args below meth c Q D aC ad base H0 c0 s0 nL (pc + 1) (lo) (.inr (.inl (a.2.2 (w32 i).toNat)) :: r) (h)) : Kon p l e R s m args below meth c Q D aC ad base H0 c0 s0 nL (pc) (lo) (.inl i :: .inr (.inr (some k)) :: r) (h) := by
  intro H locs ls hH hl hq
  have ha := hH.ad had hk
  have hat := at_arl h4 (hH.2.2.2 k _ hk).2
  show W p l e R s m args below meth c H locs (h.1 - c0) (h.2.1 - s0) Q (F0 m pc ls (.int (Int32.ofInt i) :: .ref (ad k) :: r.map (up_v ad)))
  rw [ha]
  refine va_lald hx hb hKK.1 (vp1 hat) 0 3 rfl (by rw [h4]; rfl) (n32_in hi) hd ?_
  rw [n32_clamp]
  exact kk H locs ls hH hl hq
theorem sj_aald (hx : p.tables.exec = Jvm.exec) (hb : c.code = cc) (had : ∀ k : Nat, k < 1000 → ad k = base + k) (hKK : KK X D aC ad base H0 s) {k : Nat} {i : Int} {a : Nat × Nat × (Nat → Option Nat)} (hk : h.2.2 k = some (.inr (.inl a))) (h4 : a.1 = 4 ∨ a.1 = 5) (hi : pm_idx i a.2.1 = true) (hd : decode cc pc = .ok (.aaload, 1)) (kk : Kon p l e R s m args below meth c Q D aC ad base H0 c0 s0 nL (pc + 1) (lo) (.inr (.inr (a.2.2 (w32 i).toNat)) :: r) (h)) : Kon p l e R s m args below meth c Q D aC ad base H0 c0 s0 nL (pc) (lo) (.inl i :: .inr (.inr (some k)) :: r) (h) := by
  intro H locs ls hH hl hq
  have ha := hH.ad had hk
  have hat := (hH.2.2.2 k _ hk).2
  show W p l e R s m args below meth c H locs (h.1 - c0) (h.2.1 - s0) Q (F0 m pc ls (.int (Int32.ofInt i) :: .ref (ad k) :: r.map (up_v ad)))
  rw [ha]
  have fin : W p l e R s m args below meth c H locs (h.1 - c0) (h.2.1 - s0) Q (F0 m (pc + 1) ls (va_rf ((a.2.2 (Int32.ofInt i).toNatClampNeg).map ad) :: r.map (up_v ad))) := by
    rw [n32_clamp]
    have q := kk H locs ls hH hl hq
    cases hz : a.2.2 (w32 i).toNat with
    | none => rw [hz] at q; exact q
    | some z => rw [hz] at q; exact q
  rcases h4 with h4 | h4
  · exact va_aldq hx hb hKK.1 (vp1 hat) 0 4 (C := "BellBay$Slot") (f := fun j => (a.2.2 j).map ad) rfl (by rw [h4]; rfl) (n32_in hi) hd fin
  · exact va_aldq hx hb hKK.1 (vp1 hat) 0 5 (C := "BellBay$Bay") (f := fun j => (a.2.2 j).map ad) rfl (by rw [h4]; rfl) (n32_in hi) hd fin
theorem st_arr {k n : Nat} {cA : ClassId} {f : Nat → Int} {H' : Heap} {j : Nat} {x : Value} {v : Int} (hx : x = .int (Int32.ofInt v)) (e1 : H'[base + k]? = some ((vp_cell cA (n, .inl (fun j => Int32.ofInt (f j)))).setSlot j x)) : va_at D pm_cl (base + k, .inl (cA, n, .inl (fun q => Int32.ofInt (fset f j v q)))) H' := by
  show H'[base + k]? = some (vp_cell _ _)
  rw [e1, vp_cell_i, vp_cell_i, arrV_store, hx]
  congr 2
  funext q
  by_cases hq : q = j
  · subst hq; simp [updV, fset]
  · simp [updV, fset, hq]
theorem st_arl {k n : Nat} {cA : ClassId} {f : Nat → Int} {H' : Heap} {j : Nat} {v : Int} (e1 : H'[base + k]? = some ((vp_cell cA (n, .inr (.inl (fun j => Int64.ofInt (f j))))).setSlot j (.long (Int64.ofInt v)))) : va_at D pm_cl (base + k, .inl (cA, n, .inr (.inl (fun q => Int64.ofInt (fset f j v q))))) H' := by
  show H'[base + k]? = some (vp_cell _ _)
  rw [e1, vp_cell_l, vp_cell_l, arrV_store]
  congr 2
  funext q
  by_cases hq : q = j
  · subst hq; simp [updV, fset]
  · simp [updV, fset, hq]
theorem n32_nin {i : Int} {n : Nat} {cA : ClassId} {f : Nat → Value} (h : pm_idx i n = true) : ¬ (Int32.ofInt i < 0 ∨ (arrV cA n f).slots.size ≤ (Int32.ofInt i).toNatClampNeg) := by
  rw [arrV_size]
  exact n32_in h
theorem sj_iast (hx : p.tables.exec = Jvm.exec) (hb : c.code = cc) (had : ∀ k : Nat, k < 1000 → ad k = base + k) (hKK : KK X D aC ad base H0 s) {k : Nat} {i v : Int} {a : Nat × Nat × (Nat → Int)} (hk : h.2.2 k = some (.inl a)) (h4 : a.1 = 0) (hi : pm_idx i a.2.1 = true) (hd : decode cc pc = .ok (.iastore, 1)) (kk : Kon p l e R s m args below meth c Q D aC ad base H0 c0 s0 nL (pc + 1) (lo) (r) ((h.1, h.2.1, fset h.2.2 k (some (.inl (a.1, a.2.1, fset a.2.2 (w32 i).toNat v)))))) : Kon p l e R s m args below meth c Q D aC ad base H0 c0 s0 nL (pc) (lo) (.inl v :: .inl i :: .inr (.inr (some k)) :: r) (h) := by
  intro H locs ls hH hl hq
  have ha := hH.ad had hk
  have hat := at_arr (by omega) (hH.2.2.2 k _ hk).2
  show W p l e R s m args below meth c H locs (h.1 - c0) (h.2.1 - s0) Q (F0 m pc ls (.int (Int32.ofInt v) :: .int (Int32.ofInt i) :: .ref (ad k) :: r.map (up_v ad)))
  rw [ha]
  refine W.iast hx hb hat (by rw [h4]; exact (hKK.1.2 0 _ rfl).1 a.2.1 (fun j => .int (Int32.ofInt (a.2.2 j)))) (fun q => by cases q) (n32_nin hi) rfl rfl hd fun H' e1 e2 e3 => ?_
  rw [n32_clamp] at e1
  exact kk H' _ ls (hH.set hk e2 e3 (arr_at (a := (a.1, a.2.1, fset a.2.2 (w32 i).toNat v)) (by show ¬ a.1 = 3; omega) (st_arr rfl e1)) (by show a.1 < 4; omega)) hl (t_lc hq (Nat.le_add_right _ _))
theorem sj_last (hx : p.tables.exec = Jvm.exec) (hb : c.code = cc) (had : ∀ k : Nat, k < 1000 → ad k = base + k) (hKK : KK X D aC ad base H0 s) {k : Nat} {i v : Int} {a : Nat × Nat × (Nat → Int)} (hk : h.2.2 k = some (.inl a)) (h4 : a.1 = 3) (hi : pm_idx i a.2.1 = true) (hd : decode cc pc = .ok (.lastore, 1)) (kk : Kon p l e R s m args below meth c Q D aC ad base H0 c0 s0 nL (pc + 1) (lo) (r) ((h.1, h.2.1, fset h.2.2 k (some (.inl (a.1, a.2.1, fset a.2.2 (w32 i).toNat v)))))) : Kon p l e R s m args below meth c Q D aC ad base H0 c0 s0 nL (pc) (lo) (.inr (.inl v) :: .inl i :: .inr (.inr (some k)) :: r) (h) := by
  intro H locs ls hH hl hq
  have ha := hH.ad had hk
  have hat := at_arl h4 (hH.2.2.2 k _ hk).2
  show W p l e R s m args below meth c H locs (h.1 - c0) (h.2.1 - s0) Q (F0 m pc ls (.long (Int64.ofInt v) :: .int (Int32.ofInt i) :: .ref (ad k) :: r.map (up_v ad)))
  rw [ha]
  refine W.last hx hb hat (by rw [h4]; exact (hKK.1.2 3 _ rfl).1 a.2.1 (fun j => .long (Int64.ofInt (a.2.2 j)))) (fun q => by cases q) (n32_nin hi) rfl rfl hd fun H' e1 e2 e3 => ?_
  rw [n32_clamp] at e1
  exact kk H' _ ls (hH.set hk e2 e3 (arl_at (a := (a.1, a.2.1, fset a.2.2 (w32 i).toNat v)) h4 (st_arl e1)) (by show a.1 < 4; omega)) hl (t_lc hq (Nat.le_add_right _ _))
theorem sj_bast (hx : p.tables.exec = Jvm.exec) (hb : c.code = cc) (had : ∀ k : Nat, k < 1000 → ad k = base + k) (hKK : KK X D aC ad base H0 s) {k : Nat} {i v : Int} {a : Nat × Nat × (Nat → Int)} (hk : h.2.2 k = some (.inl a)) (h4 : a.1 = 1) (hi : pm_idx i a.2.1 = true) (hd : decode cc pc = .ok (.bastore, 1)) (kk : Kon p l e R s m args below meth c Q D aC ad base H0 c0 s0 nL (pc + 1) (lo) (r) ((h.1, h.2.1, fset h.2.2 k (some (.inl (a.1, a.2.1, fset a.2.2 (w32 i).toNat (w8 v))))))) : Kon p l e R s m args below meth c Q D aC ad base H0 c0 s0 nL (pc) (lo) (.inl v :: .inl i :: .inr (.inr (some k)) :: r) (h) := by
  intro H locs ls hH hl hq
  have ha := hH.ad had hk
  have hat := at_arr (by omega) (hH.2.2.2 k _ hk).2
  show W p l e R s m args below meth c H locs (h.1 - c0) (h.2.1 - s0) Q (F0 m pc ls (.int (Int32.ofInt v) :: .int (Int32.ofInt i) :: .ref (ad k) :: r.map (up_v ad)))
  rw [ha]
  refine W.bast hx hb hat (by rw [h4]; exact (hKK.1.2 1 _ rfl).1 a.2.1 (fun j => .int (Int32.ofInt (a.2.2 j)))) (fun q => by cases q) (n32_nin hi) rfl rfl hd fun H' e1 e2 e3 => ?_
  rw [n32_clamp] at e1
  exact kk H' _ ls (hH.set hk e2 e3 (arr_at (a := (a.1, a.2.1, fset a.2.2 (w32 i).toNat (w8 v))) (by show ¬ a.1 = 3; omega) (st_arr (by show Value.int _ = _; rw [n32_i2b]) e1)) (by show a.1 < 4; omega)) hl (t_lc hq (Nat.le_add_right _ _))
theorem sj_zast (hx : p.tables.exec = Jvm.exec) (hb : c.code = cc) (had : ∀ k : Nat, k < 1000 → ad k = base + k) (hKK : KK X D aC ad base H0 s) {k : Nat} {i v : Int} {a : Nat × Nat × (Nat → Int)} (hk : h.2.2 k = some (.inl a)) (h4 : a.1 = 2) (hi : pm_idx i a.2.1 = true) (hv : pm_okv 1 (.inl v) = true) (hd : decode cc pc = .ok (.bastore, 1)) (kk : Kon p l e R s m args below meth c Q D aC ad base H0 c0 s0 nL (pc + 1) (lo) (r) ((h.1, h.2.1, fset h.2.2 k (some (.inl (a.1, a.2.1, fset a.2.2 (w32 i).toNat v)))))) : Kon p l e R s m args below meth c Q D aC ad base H0 c0 s0 nL (pc) (lo) (.inl v :: .inl i :: .inr (.inr (some k)) :: r) (h) := by
  intro H locs ls hH hl hq
  have ha := hH.ad had hk
  have hat := at_arr (by omega) (hH.2.2.2 k _ hk).2
  show W p l e R s m args below meth c H locs (h.1 - c0) (h.2.1 - s0) Q (F0 m pc ls (.int (Int32.ofInt v) :: .int (Int32.ofInt i) :: .ref (ad k) :: r.map (up_v ad)))
  rw [ha]
  refine W.zast hx hb hat (by rw [h4]; exact (hKK.1.2 2 _ rfl).1 a.2.1 (fun j => .int (Int32.ofInt (a.2.2 j)))) (fun q => by cases q) (n32_nin hi) rfl rfl hd fun H' e1 e2 e3 => ?_
  rw [n32_clamp] at e1
  exact kk H' _ ls (hH.set hk e2 e3 (arr_at (a := (a.1, a.2.1, fset a.2.2 (w32 i).toNat v)) (by show ¬ a.1 = 3; omega) (st_arr (okv_fits (ad := ad) (ty := .boolean) (v := .inl v) hv).1 e1)) (by show a.1 < 4; omega)) hl (t_lc hq (Nat.le_add_right _ _))
end SIMH
