section RUNB
variable {K : PK} {X : PX} {D : va_G} {aC : Nat → ClassId} {ad : Nat → Nat} {base : Nat} {H0 : Heap} {l : Launch}
theorem met_of {f d k : Nat} (hRA : RunAt K X D aC ad base H0 l f) {As : List PV} {h h1 : PH} {r : Option PV} (hY : pp_Y.any (fun z => Nat.beq z.1 k) = true) (hlay : (pm_lay As).length ≤ (pm_m k).2.1) (hrun : pm_run K X f d (pm_entry k As) h = some (r, h1)) :
    Met l (pm_y k) (WS k) (rm_of d (h1.1 - h.1) (h1.2.1 - h.2.1)) (PcM X D aC ad base H0 As h) (QcM D aC ad base H0 r h1) (h1.1 - h.1) (h1.2.1 - h.2.1) (fun q => base ≤ q) := by
  obtain ⟨y1, y2, y3, y4, y5, y6, y7, y8, -, y9⟩ := tf_Y hY
  refine Met.ofW (cc := pm_by k) (maxL := (pm_m k).2.1) (ret := pm_rt k) y7 rfl ?_
  intro p e s m args below meth c s₁ B hml hv
  obtain ⟨rfl, hH, hKK⟩ := hv
  have hts0 := atoms_spec (ws := WS k) B.pre
  have hts : ∀ w ∈ GT, w.before ((As.map (up_v ad)).toArray) s = true := fun w hw => hts0 w (List.mem_cons_of_mem _ hw)
  have hown : s.vm.findClass (pm_cn (pm_ow k)) = some m.cls := by rw [← y3]; exact findClass_of_methodNamed B.named
  have hname : (pm_y k).name = "<init>" → meth.name = "<init>" := fun e => (name_of_methodNamed B.named B.method).1.trans e
  have hlocks := B.notSynchronized
  have hr := B.returns
  rw [lg_entry_eq]
  have hend : ∀ (pc' len : Nat) (lo' : List (Option PV)) (st' : List PV) (J : Instr), decode (pm_by k) pc' = .ok (J, len) → pm_ln J len = len → retOK k J st' r → Kon p l e (rm_of d (h1.1 - h.1) (h1.2.1 - h.2.1)) s m ((As.map (up_v ad)).toArray) below meth c (MQ below (QcM D aC ad base H0 r h1) ((As.map (up_v ad)).toArray) s (h1.1 - h.1) (h1.2.1 - h.2.1) (fun q => base ≤ q)) D aC ad base H0 h.1 h.2.1 (pm_m k).2.1 pc' lo' st' h1 := by
    intro pc' len lo' st' J hd hln hret H locs ls hH' hl hq
    have post : ∀ (v : Option Value), v = r.map (up_v ad) → ∀ t : State, t.heap = H → s.WarmedH t.vm → QcM D aC ad base H0 r h1 ((As.map (up_v ad)).toArray) s (.returned v) t := fun v hv t ht hW => ⟨by rw [hv], by rw [ht]; exact hH'⟩
    rcases hret with ⟨rfl, v, rfl, rfl, hok⟩ | ⟨rfl, v, rfl, rfl, hk⟩ | ⟨rfl, v, rfl, rfl, hk⟩ | ⟨rfl, rfl, rfl, hk⟩
    · have hln : 1 = len := hln
      subst hln
      rcases ret_kinds y5 with ⟨h1, h2⟩ | ⟨h1, h2⟩ | ⟨h1, h2⟩ | ⟨h1, -, h2⟩ | ⟨h1, h2⟩ | ⟨h1, h2⟩ | ⟨h1, h2⟩ <;> rw [h1] at hok
      · exact W.iret B.exec B.bytes (hr.trans h2) (post _ rfl) hq hd
      · exact W.zret (ty := .boolean) B.exec B.bytes (hr.trans h2) (okv_fits (ad := ad) (ty := .boolean) (v := .inl v) hok).1 (post _ rfl) hq hd
      · cases hok
      · cases hok
      · simp only [pm_okr, Bool.and_eq_true, decide_eq_true_eq] at hok
        refine W.zret (ty := .byte) B.exec B.bytes (hr.trans h2) ?_ (post _ rfl) hq hd
        show Value.int ((Int32.ofInt v).toInt8.toInt32) = _
        rw [n32_i2b]
        congr 2
        unfold w8
        omega
      · simp only [pm_okr, Bool.and_eq_true, decide_eq_true_eq] at hok
        refine W.zret (ty := .char) B.exec B.bytes (hr.trans h2) ?_ (post _ rfl) hq hd
        have e := n32_i2c v
        rw [show v % 65536 = v by omega, lg_i2c_nf] at e
        show Value.int ((Int32.ofInt v).toUInt32.toUInt16.toUInt32.toInt32) = _
        rw [e]
      · cases hok
    · have hln : 1 = len := hln
      subst hln
      rcases ret_kinds y5 with ⟨h1, h2⟩ | ⟨h1, h2⟩ | ⟨h1, h2⟩ | ⟨h1, -, h2⟩ | ⟨h1, h2⟩ | ⟨h1, h2⟩ | ⟨h1, h2⟩ <;> first | omega | skip
      exact W.lret B.exec B.bytes (hr.trans h2) (post _ rfl) hq hd
    · have hln : 1 = len := hln
      subst hln
      rcases ret_kinds y5 with ⟨h1, h2⟩ | ⟨h1, h2⟩ | ⟨h1, h2⟩ | ⟨h1, C, h2⟩ | ⟨h1, h2⟩ | ⟨h1, h2⟩ | ⟨h1, h2⟩ <;> first | omega | skip
      exact W.aret B.exec B.bytes (hr.trans h2) (Or.inl ⟨C, rfl⟩) (Or.inr ⟨ad v, rfl⟩) (post _ rfl) hq hd
    · have hln : 1 = len := hln
      subst hln
      rcases ret_kinds y5 with ⟨h1, h2⟩ | ⟨h1, h2⟩ | ⟨h1, h2⟩ | ⟨h1, C, h2⟩ | ⟨h1, h2⟩ | ⟨h1, h2⟩ | ⟨h1, h2⟩ <;> first | omega | skip
      exact W.vret B.exec B.bytes (hr.trans h2) (post _ rfl) hq hd
  have w := hRA d k 0 _ _ h r h1 hrun p e (rm_of d (h1.1 - h.1) (h1.2.1 - h.2.1)) s m _ below meth c (MQ below (QcM D aC ad base H0 r h1) ((As.map (up_v ad)).toArray) s (h1.1 - h.1) (h1.2.1 - h.2.1) (fun q => base ≤ q)) h.1 h.2.1 (pm_m k).2.1 B.exec B.bytes hKK hts hown hml hname hH.1 hH.2.2.1 (Nat.le_refl _) (Nat.le_refl _) (Nat.le_refl _) (Nat.le_refl _) (Nat.le_refl _) (Nat.le_refl _) hend s.heap [] _ hH (LR.entry hlay) (fun q hq => by cases hq)
  simp only [Nat.sub_self] at w
  exact w
end RUNB
