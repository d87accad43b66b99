set_option maxHeartbeats 4000000 in
theorem sim_step {p : Program} {l : Launch} {e : Env} {R : Room} {s : State} {m : MethodId} {args : Array Value} {below : List Frame} {meth : Method} {c : Code} {Q : State → Prop} {X : PX} {D : va_G} {aC : Nat → ClassId} {ad : Nat → Nat} {base : Nat} {H0 : Heap} {c0 s0 nL : Nat} {pc n len : Nat} {lo : List (Option PV)} {st : List PV} {h h' : PH} {fr : PF} {I J : Instr} (hx : p.tables.exec = Jvm.exec) (hb : c.code = pm_by n) (had : ∀ k : Nat, k < 1000 → ad k = base + k) (hKK : KK X D aC ad base H0 s) (hts : ∀ w ∈ GT, w.before args s = true) (hown : s.vm.findClass (pm_cn (pm_ow n)) = some m.cls) (hml : c.maxLocals = nL) (hname : (pm_y n).name = "<init>" → meth.name = "<init>") (hsz : s.heap.size = base + c0) (hag : ∀ q : Nat, q < base → s.heap[q]? = H0[q]?) (hH0 : H0.size = base) (hbl : ad 100000 < base) (hfr : 1 ≤ R.frames) (hlo : 37 ≤ R.locals) (hwf : ∀ (k : Nat) (x : PE), h.2.2 k = some x → k < 1000 ∧ pe_ok x)
    (hd : decode (pm_by n) pc = .ok (J, len)) (hln : pm_ln J len = len) (hr : pm_res (pm_ow n) pc J = some I) (hcf : pm_chkF n (pc, I, len) = true) (hs : pm_step X I len n pc lo st h = some (.inl (fr, h'))) (hrc : h'.1 - c0 ≤ R.cells) (hrs : h'.2.1 - s0 ≤ R.slots) (hc0 : c0 ≤ h.1) (hs0 : s0 ≤ h.2.1)
    (kk : Kon p l e R s m args below meth c Q D aC ad base H0 c0 s0 nL (fr.2.1) (fr.2.2.1) (fr.2.2.2) (h')) : fr.1 = n ∧ Kon p l e R s m args below meth c Q D aC ad base H0 c0 s0 nL (pc) (lo) (st) (h) := by
  cases J
  case iadd =>
    have hln : 1 = len := hln
    subst hln
    simp only [pm_res, Option.some.injEq] at hr
    subst hr
    simp only [pm_step, pm_nx] at hs
    split at hs
    · cases hs; exact ⟨rfl, sj_iadd hx hb hd kk⟩
    · cases hs
  case isub =>
    have hln : 1 = len := hln
    subst hln
    simp only [pm_res, Option.some.injEq] at hr
    subst hr
    simp only [pm_step, pm_nx] at hs
    split at hs
    · cases hs; exact ⟨rfl, sj_isub hx hb hd kk⟩
    · cases hs
  case imul =>
    have hln : 1 = len := hln
    subst hln
    simp only [pm_res, Option.some.injEq] at hr
    subst hr
    simp only [pm_step, pm_nx] at hs
    split at hs
    · cases hs; exact ⟨rfl, sj_imul hx hb hd kk⟩
    · cases hs
  case iand =>
    have hln : 1 = len := hln
    subst hln
    simp only [pm_res, Option.some.injEq] at hr
    subst hr
    simp only [pm_step, pm_nx] at hs
    split at hs
    · cases hs; exact ⟨rfl, sj_iand hx hb hd kk⟩
    · cases hs
  case ior =>
    have hln : 1 = len := hln
    subst hln
    simp only [pm_res, Option.some.injEq] at hr
    subst hr
    simp only [pm_step, pm_nx] at hs
    split at hs
    · cases hs; exact ⟨rfl, sj_ior hx hb hd kk⟩
    · cases hs
  case ixor =>
    have hln : 1 = len := hln
    subst hln
    simp only [pm_res, Option.some.injEq] at hr
    subst hr
    simp only [pm_step, pm_nx] at hs
    split at hs
    · cases hs; exact ⟨rfl, sj_ixor hx hb hd kk⟩
    · cases hs
  case ishl =>
    have hln : 1 = len := hln
    subst hln
    simp only [pm_res, Option.some.injEq] at hr
    subst hr
    simp only [pm_step, pm_nx] at hs
    split at hs
    · cases hs; exact ⟨rfl, sj_ishl hx hb hd kk⟩
    · cases hs
  case ishr =>
    have hln : 1 = len := hln
    subst hln
    simp only [pm_res, Option.some.injEq] at hr
    subst hr
    simp only [pm_step, pm_nx] at hs
    split at hs
    · cases hs; exact ⟨rfl, sj_ishr hx hb hd kk⟩
    · cases hs
  case iushr =>
    have hln : 1 = len := hln
    subst hln
    simp only [pm_res, Option.some.injEq] at hr
    subst hr
    simp only [pm_step, pm_nx] at hs
    split at hs
    · cases hs; exact ⟨rfl, sj_iushr hx hb hd kk⟩
    · cases hs
  case ladd =>
    have hln : 1 = len := hln
    subst hln
    simp only [pm_res, Option.some.injEq] at hr
    subst hr
    simp only [pm_step, pm_nx] at hs
    split at hs
    · cases hs; exact ⟨rfl, sj_ladd hx hb hd kk⟩
    · cases hs
  case lsub =>
    have hln : 1 = len := hln
    subst hln
    simp only [pm_res, Option.some.injEq] at hr
    subst hr
    simp only [pm_step, pm_nx] at hs
    split at hs
    · cases hs; exact ⟨rfl, sj_lsub hx hb hd kk⟩
    · cases hs
  case lmul =>
    have hln : 1 = len := hln
    subst hln
    simp only [pm_res, Option.some.injEq] at hr
    subst hr
    simp only [pm_step, pm_nx] at hs
    split at hs
    · cases hs; exact ⟨rfl, sj_lmul hx hb hd kk⟩
    · cases hs
  case land =>
    have hln : 1 = len := hln
    subst hln
    simp only [pm_res, Option.some.injEq] at hr
    subst hr
    simp only [pm_step, pm_nx] at hs
    split at hs
    · cases hs; exact ⟨rfl, sj_land hx hb hd kk⟩
    · cases hs
  case lor =>
    have hln : 1 = len := hln
    subst hln
    simp only [pm_res, Option.some.injEq] at hr
    subst hr
    simp only [pm_step, pm_nx] at hs
    split at hs
    · cases hs; exact ⟨rfl, sj_lor hx hb hd kk⟩
    · cases hs
  case lshl =>
    have hln : 1 = len := hln
    subst hln
    simp only [pm_res, Option.some.injEq] at hr
    subst hr
    simp only [pm_step, pm_nx] at hs
    split at hs
    · cases hs; exact ⟨rfl, sj_lshl hx hb hd kk⟩
    · cases hs
  case lcmp =>
    have hln : 1 = len := hln
    subst hln
    simp only [pm_res, Option.some.injEq] at hr
    subst hr
    simp only [pm_step, pm_nx] at hs
    split at hs
    · cases hs; exact ⟨rfl, sj_lcmp hx hb hd kk⟩
    · cases hs
  case ineg =>
    have hln : 1 = len := hln
    subst hln
    simp only [pm_res, Option.some.injEq] at hr
    subst hr
    simp only [pm_step, pm_nx] at hs
    split at hs
    · cases hs; exact ⟨rfl, sj_ineg hx hb hd kk⟩
    · cases hs
  case i2l =>
    have hln : 1 = len := hln
    subst hln
    simp only [pm_res, Option.some.injEq] at hr
    subst hr
    simp only [pm_step, pm_nx] at hs
    split at hs
    · cases hs; exact ⟨rfl, sj_i2l hx hb hd kk⟩
    · cases hs
  case l2i =>
    have hln : 1 = len := hln
    subst hln
    simp only [pm_res, Option.some.injEq] at hr
    subst hr
    simp only [pm_step, pm_nx] at hs
    split at hs
    · cases hs; exact ⟨rfl, sj_l2i hx hb hd kk⟩
    · cases hs
  case i2b =>
    have hln : 1 = len := hln
    subst hln
    simp only [pm_res, Option.some.injEq] at hr
    subst hr
    simp only [pm_step, pm_nx] at hs
    split at hs
    · cases hs; exact ⟨rfl, sj_i2b hx hb hd kk⟩
    · cases hs
  case i2s =>
    have hln : 1 = len := hln
    subst hln
    simp only [pm_res, Option.some.injEq] at hr
    subst hr
    simp only [pm_step, pm_nx] at hs
    split at hs
    · cases hs; exact ⟨rfl, sj_i2s hx hb hd kk⟩
    · cases hs
  case i2c =>
    have hln : 1 = len := hln
    subst hln
    simp only [pm_res, Option.some.injEq] at hr
    subst hr
    simp only [pm_step, pm_nx] at hs
    split at hs
    · cases hs; exact ⟨rfl, sj_i2c hx hb hd kk⟩
    · cases hs
  case idiv =>
    have hln : 1 = len := hln
    subst hln
    simp only [pm_res, Option.some.injEq] at hr
    subst hr
    simp only [pm_step, pm_nx] at hs
    split at hs
    · split at hs
      · cases hs
      · rename_i hy
        cases hs; exact ⟨rfl, sj_idiv hx hb hd hy kk⟩
    · cases hs
  case irem =>
    have hln : 1 = len := hln
    subst hln
    simp only [pm_res, Option.some.injEq] at hr
    subst hr
    simp only [pm_step, pm_nx] at hs
    split at hs
    · split at hs
      · cases hs
      · rename_i hy
        cases hs; exact ⟨rfl, sj_irem hx hb hd hy kk⟩
    · cases hs
  case ldiv =>
    have hln : 1 = len := hln
    subst hln
    simp only [pm_res, Option.some.injEq] at hr
    subst hr
    simp only [pm_step, pm_nx] at hs
    split at hs
    · split at hs
      · cases hs
      · rename_i hy
        cases hs; exact ⟨rfl, sj_ldiv hx hb hd hy kk⟩
    · cases hs
  case lrem =>
    have hln : 1 = len := hln
    subst hln
    simp only [pm_res, Option.some.injEq] at hr
    subst hr
    simp only [pm_step, pm_nx] at hs
    split at hs
    · split at hs
      · cases hs
      · rename_i hy
        cases hs; exact ⟨rfl, sj_lrem hx hb hd hy kk⟩
    · cases hs
  case iconst v =>
    have hln : 1 = len := hln
    subst hln
    simp only [pm_res, Option.some.injEq] at hr
    subst hr
    simp only [pm_step, pm_nx] at hs
    cases hs; exact ⟨rfl, sj_iconst hx hb hd kk⟩
  case bipush v =>
    have hln : 2 = len := hln
    subst hln
    simp only [pm_res] at hr
    split at hr
    rotate_left
    · cases hr
    rename_i hv
    cases hr
    simp only [pm_step, pm_nx] at hs
    cases hs; exact ⟨rfl, sj_bipush hx hb hd hv kk⟩
  case sipush v =>
    have hln : 3 = len := hln
    subst hln
    simp only [pm_res] at hr
    split at hr
    rotate_left
    · cases hr
    rename_i hv
    cases hr
    simp only [pm_step, pm_nx] at hs
    cases hs; exact ⟨rfl, sj_sipush hx hb hd hv kk⟩
  case lconst v =>
    have hln : 1 = len := hln
    subst hln
    simp only [pm_res, Option.some.injEq] at hr
    subst hr
    simp only [pm_step, pm_nx] at hs
    cases hs; exact ⟨rfl, sj_lconst hx hb hd kk⟩
  case ldc i =>
    have hln : 2 = len := hln
    subst hln
    simp only [pm_res] at hr
    split at hr
    · rename_i v hv
      cases hr
      simp only [pm_step, pm_nx] at hs
      cases hs
      exact ⟨rfl, sj_ldc hx hb hown (hts _ (tf_K (pm_fi_mem hv))) hd kk⟩
    · obtain ⟨j, hj, rfl⟩ := Option.map_eq_some_iff.mp hr
      simp only [pm_step, pm_nx] at hs
      split at hs
      · cases hs
        exact ⟨rfl, sj_ldcS hx hb hown (hKK.2.2.2.1 _ (pm_fi_mem hj)) hd kk⟩
      · cases hs
  case ldc_w i =>
    have hln : 3 = len := hln
    subst hln
    obtain ⟨v, hv, rfl⟩ := Option.map_eq_some_iff.mp hr
    simp only [pm_step, pm_nx] at hs
    cases hs; exact ⟨rfl, sj_ldcw hx hb hown (hts _ (tf_K (pm_fi_mem hv))) hd kk⟩
  case ldc2_w i =>
    have hln : 3 = len := hln
    subst hln
    obtain ⟨v, hv, rfl⟩ := Option.map_eq_some_iff.mp hr
    simp only [pm_step, pm_nx] at hs
    cases hs; exact ⟨rfl, sj_ldc2 hx hb hown (hts _ (tf_L (pm_fi_mem hv))) hd kk⟩
  case iload_n k =>
    have hln : 1 = len := hln
    subst hln
    simp only [pm_res, Option.some.injEq] at hr
    subst hr
    simp only [pm_step, pm_nx] at hs
    split at hs
    · rename_i x heq
      cases hs; exact ⟨rfl, sj_iload_n hx hb hd heq kk⟩
    · cases hs
  case iload i =>
    have hln : 2 = len := hln
    subst hln
    simp only [pm_res, Option.some.injEq] at hr
    subst hr
    simp only [pm_step, pm_nx] at hs
    split at hs
    · rename_i x heq
      cases hs; exact ⟨rfl, sj_iload hx hb hd heq kk⟩
    · cases hs
  case istore_n k =>
    have hln : 1 = len := hln
    subst hln
    simp only [pm_res, Option.some.injEq] at hr
    subst hr
    simp only [pm_step, pm_nx] at hs
    split at hs
    · split at hs
      · rename_i hi
        cases hs; exact ⟨rfl, sj_istore_n hx hb hd hi kk⟩
      · cases hs
    · cases hs
  case istore i =>
    have hln : 2 = len := hln
    subst hln
    simp only [pm_res, Option.some.injEq] at hr
    subst hr
    simp only [pm_step, pm_nx] at hs
    split at hs
    · split at hs
      · rename_i hi
        cases hs; exact ⟨rfl, sj_istore hx hb hd hi kk⟩
      · cases hs
    · cases hs
  case lload_n k =>
    have hln : 1 = len := hln
    subst hln
    simp only [pm_res, Option.some.injEq] at hr
    subst hr
    simp only [pm_step, pm_nx] at hs
    split at hs
    · rename_i x heq
      cases hs; exact ⟨rfl, sj_lload_n hx hb hd heq kk⟩
    · cases hs
  case lload i =>
    have hln : 2 = len := hln
    subst hln
    simp only [pm_res, Option.some.injEq] at hr
    subst hr
    simp only [pm_step, pm_nx] at hs
    split at hs
    · rename_i x heq
      cases hs; exact ⟨rfl, sj_lload hx hb hd heq kk⟩
    · cases hs
  case lstore_n k =>
    have hln : 1 = len := hln
    subst hln
    simp only [pm_res, Option.some.injEq] at hr
    subst hr
    simp only [pm_step, pm_nx] at hs
    split at hs
    · split at hs
      · rename_i hi
        cases hs; exact ⟨rfl, sj_lstore_n hx hb hd hi kk⟩
      · cases hs
    · cases hs
  case lstore i =>
    have hln : 2 = len := hln
    subst hln
    simp only [pm_res, Option.some.injEq] at hr
    subst hr
    simp only [pm_step, pm_nx] at hs
    split at hs
    · split at hs
      · rename_i hi
        cases hs; exact ⟨rfl, sj_lstore hx hb hd hi kk⟩
      · cases hs
    · cases hs
  case aload_n k =>
    have hln : 1 = len := hln
    subst hln
    simp only [pm_res, Option.some.injEq] at hr
    subst hr
    simp only [pm_step, pm_nx] at hs
    split at hs
    · rename_i x heq
      cases hs; exact ⟨rfl, sj_aload_n hx hb hd heq kk⟩
    · cases hs
  case aload i =>
    have hln : 2 = len := hln
    subst hln
    simp only [pm_res, Option.some.injEq] at hr
    subst hr
    simp only [pm_step, pm_nx] at hs
    split at hs
    · rename_i x heq
      cases hs; exact ⟨rfl, sj_aload hx hb hd heq kk⟩
    · cases hs
  case astore_n k =>
    have hln : 1 = len := hln
    subst hln
    simp only [pm_res, Option.some.injEq] at hr
    subst hr
    simp only [pm_step, pm_nx] at hs
    split at hs
    · split at hs
      · rename_i hi
        cases hs; exact ⟨rfl, sj_astore_n hx hb hd hi kk⟩
      · cases hs
    · cases hs
  case astore i =>
    have hln : 2 = len := hln
    subst hln
    simp only [pm_res, Option.some.injEq] at hr
    subst hr
    simp only [pm_step, pm_nx] at hs
    split at hs
    · split at hs
      · rename_i hi
        cases hs; exact ⟨rfl, sj_astore hx hb hd hi kk⟩
      · cases hs
    · cases hs
  case iinc i d =>
    have hln : 3 = len := hln
    subst hln
    simp only [pm_res, Option.some.injEq] at hr
    subst hr
    simp only [pm_step, pm_nx] at hs
    split at hs
    · rename_i x heq
      cases hs; exact ⟨rfl, sj_iinc hx hb hd heq kk⟩
    · cases hs
  case dup =>
    have hln : 1 = len := hln
    subst hln
    simp only [pm_res, Option.some.injEq] at hr
    subst hr
    simp only [pm_step, pm_nx] at hs
    split at hs
    · split at hs
      · rename_i hv
        cases hs; exact ⟨rfl, sj_dup hx hb hd hv kk⟩
      · cases hs
    · cases hs
  case pop =>
    have hln : 1 = len := hln
    subst hln
    simp only [pm_res, Option.some.injEq] at hr
    subst hr
    simp only [pm_step, pm_nx] at hs
    split at hs
    · split at hs
      · rename_i hv
        cases hs; exact ⟨rfl, sj_pop hx hb hd hv kk⟩
      · cases hs
    · cases hs
  case dup2 =>
    have hln : 1 = len := hln
    subst hln
    simp only [pm_res, Option.some.injEq] at hr
    subst hr
    simp only [pm_step, pm_nx] at hs
    split at hs
    · split at hs
      · rename_i hv
        cases hs; exact ⟨rfl, sj_dup2 hx hb hd hv.1 hv.2 kk⟩
      · cases hs
    · cases hs
  case goto o =>
    have hln : 3 = len := hln
    subst hln
    simp only [pm_res] at hr
    split at hr
    rotate_left
    · cases hr
    rename_i ho
    cases hr
    simp only [pm_step, pm_nx] at hs
    cases hs; exact ⟨rfl, sj_goto hx hb hd ho kk⟩
  case ifCond cnd o =>
    have hln : 3 = len := hln
    subst hln
    simp only [pm_res] at hr
    split at hr
    rotate_left
    · cases hr
    rename_i ho
    cases hr
    cases cnd
    · simp only [pm_step, pm_nx] at hs
      split at hs
      · split at hs
        · rename_i hc
          cases hs; exact ⟨rfl, sj_if_eq hx hb hd ho (fun _ => kk) (fun z => absurd hc z)⟩
        · rename_i hc
          cases hs; exact ⟨rfl, sj_if_eq hx hb hd ho (fun z => absurd z hc) (fun _ => kk)⟩
      · cases hs
    · simp only [pm_step, pm_nx] at hs
      split at hs
      · split at hs
        · rename_i hc
          cases hs; exact ⟨rfl, sj_if_ne hx hb hd ho (fun _ => kk) (fun z => absurd hc z)⟩
        · rename_i hc
          cases hs; exact ⟨rfl, sj_if_ne hx hb hd ho (fun z => absurd z hc) (fun _ => kk)⟩
      · cases hs
    · simp only [pm_step, pm_nx] at hs
      split at hs
      · split at hs
        · rename_i hc
          cases hs; exact ⟨rfl, sj_if_lt hx hb hd ho (fun _ => kk) (fun z => absurd hc z)⟩
        · rename_i hc
          cases hs; exact ⟨rfl, sj_if_lt hx hb hd ho (fun z => absurd z hc) (fun _ => kk)⟩
      · cases hs
    · simp only [pm_step, pm_nx] at hs
      split at hs
      · split at hs
        · rename_i hc
          cases hs; exact ⟨rfl, sj_if_ge hx hb hd ho (fun _ => kk) (fun z => absurd hc z)⟩
        · rename_i hc
          cases hs; exact ⟨rfl, sj_if_ge hx hb hd ho (fun z => absurd z hc) (fun _ => kk)⟩
      · cases hs
    · simp only [pm_step, pm_nx] at hs
      split at hs
      · split at hs
        · rename_i hc
          cases hs; exact ⟨rfl, sj_if_gt hx hb hd ho (fun _ => kk) (fun z => absurd hc z)⟩
        · rename_i hc
          cases hs; exact ⟨rfl, sj_if_gt hx hb hd ho (fun z => absurd z hc) (fun _ => kk)⟩
      · cases hs
    · simp only [pm_step, pm_nx] at hs
      split at hs
      · split at hs
        · rename_i hc
          cases hs; exact ⟨rfl, sj_if_le hx hb hd ho (fun _ => kk) (fun z => absurd hc z)⟩
        · rename_i hc
          cases hs; exact ⟨rfl, sj_if_le hx hb hd ho (fun z => absurd z hc) (fun _ => kk)⟩
      · cases hs
  case if_icmp cnd o =>
    have hln : 3 = len := hln
    subst hln
    simp only [pm_res] at hr
    split at hr
    rotate_left
    · cases hr
    rename_i ho
    cases hr
    cases cnd
    · simp only [pm_step, pm_nx] at hs
      split at hs
      · split at hs
        · rename_i hc
          cases hs; exact ⟨rfl, sj_icmp_eq hx hb hd ho (fun _ => kk) (fun z => absurd hc z)⟩
        · rename_i hc
          cases hs; exact ⟨rfl, sj_icmp_eq hx hb hd ho (fun z => absurd z hc) (fun _ => kk)⟩
      · cases hs
    · simp only [pm_step, pm_nx] at hs
      split at hs
      · split at hs
        · rename_i hc
          cases hs; exact ⟨rfl, sj_icmp_ne hx hb hd ho (fun _ => kk) (fun z => absurd hc z)⟩
        · rename_i hc
          cases hs; exact ⟨rfl, sj_icmp_ne hx hb hd ho (fun z => absurd z hc) (fun _ => kk)⟩
      · cases hs
    · simp only [pm_step, pm_nx] at hs
      split at hs
      · split at hs
        · rename_i hc
          cases hs; exact ⟨rfl, sj_icmp_lt hx hb hd ho (fun _ => kk) (fun z => absurd hc z)⟩
        · rename_i hc
          cases hs; exact ⟨rfl, sj_icmp_lt hx hb hd ho (fun z => absurd z hc) (fun _ => kk)⟩
      · cases hs
    · simp only [pm_step, pm_nx] at hs
      split at hs
      · split at hs
        · rename_i hc
          cases hs; exact ⟨rfl, sj_icmp_ge hx hb hd ho (fun _ => kk) (fun z => absurd hc z)⟩
        · rename_i hc
          cases hs; exact ⟨rfl, sj_icmp_ge hx hb hd ho (fun z => absurd z hc) (fun _ => kk)⟩
      · cases hs
    · simp only [pm_step, pm_nx] at hs
      split at hs
      · split at hs
        · rename_i hc
          cases hs; exact ⟨rfl, sj_icmp_gt hx hb hd ho (fun _ => kk) (fun z => absurd hc z)⟩
        · rename_i hc
          cases hs; exact ⟨rfl, sj_icmp_gt hx hb hd ho (fun z => absurd z hc) (fun _ => kk)⟩
      · cases hs
    · simp only [pm_step, pm_nx] at hs
      split at hs
      · split at hs
        · rename_i hc
          cases hs; exact ⟨rfl, sj_icmp_le hx hb hd ho (fun _ => kk) (fun z => absurd hc z)⟩
        · rename_i hc
          cases hs; exact ⟨rfl, sj_icmp_le hx hb hd ho (fun z => absurd z hc) (fun _ => kk)⟩
      · cases hs
  case tableswitch d lw hg os =>
    simp only [pm_res] at hr
    split at hr
    rotate_left
    · cases hr
    rename_i hp
    cases hr
    simp only [pm_step, pm_nx] at hs
    split at hs
    · split at hs
      · rename_i hc
        cases hs; exact ⟨rfl, sj_table hx hb hd hp (fun _ => kk) (fun z => absurd hc z)⟩
      · rename_i hc
        split at hs
        · rename_i t ht
          cases hs; exact ⟨rfl, sj_table hx hb hd hp (fun z => absurd z hc) (fun _ => ⟨t, ht, kk⟩)⟩
        · cases hs
    · cases hs
  case lookupswitch d ps =>
    simp only [pm_res] at hr
    split at hr
    rotate_left
    · cases hr
    rename_i hp
    cases hr
    simp only [pm_step, pm_nx] at hs
    split at hs
    · split at hs
      · rename_i q hq
        cases hs; exact ⟨rfl, sj_lookup hx hb hd hp.1 hp.2.1 hp.2.2 (fun q' h' => by rw [hq] at h'; cases h'; exact kk) (fun h' => by rw [hq] at h'; cases h')⟩
      · rename_i hq
        cases hs; exact ⟨rfl, sj_lookup hx hb hd hp.1 hp.2.1 hp.2.2 (fun q' h' => by rw [hq] at h'; cases h') (fun _ => kk)⟩
    · cases hs
  case getfield i =>
    have hln : 3 = len := hln
    subst hln
    simp only [pm_res] at hr
    split at hr
    · rename_i en hen
      cases hr
      obtain ⟨g1, g2, g3⟩ := tf_F (pm_fi_mem hen)
      simp only [pm_step, pm_nx] at hs
      split at hs
      · split at hs
        · rename_i hk
          split at hs
          · rename_i hcc
            split at hs
            · rename_i hv
              cases hs
              subst hcc
              exact ⟨rfl, sj_get hx hb had hKK hts hown g1 (tf_c g1).1 g2 (hts _ g3) hk hv hd kk⟩
            · cases hs
          · cases hs
        · cases hs
      · cases hs
    · split at hr
      · rename_i hi
        cases hr
        obtain ⟨ho, rfl⟩ := hi
        obtain ⟨k, r, rfl, hk, hR⟩ := gs_at1 hs
        obtain ⟨j, rfl, hj⟩ := pm_isStr_at hk
        cases hR
        rw [ho] at hown
        refine ⟨rfl, sj_tval hx hb had hKK hsz hag hc0 hown (hts _ tf_j4) hj hd ?_⟩
        rw [show 100001 + 2 * j + 1 = 100002 + 2 * j by omega] at kk
        exact kk
      · split at hr
        · rename_i hi
          cases hr
          obtain ⟨ho, rfl⟩ := hi
          obtain ⟨k, r, rfl, hk, hR⟩ := gs_at2 hs
          obtain ⟨j, rfl, hj⟩ := pm_isStr_at hk
          cases hR
          rw [ho] at hown
          exact ⟨rfl, sj_tcod hx hb had hKK hsz hag hc0 hown (hts _ tf_j5) hj hd kk⟩
        · cases hr
  case getstatic i =>
    have hln : 3 = len := hln
    subst hln
    simp only [pm_res] at hr
    split at hr
    · rename_i hi
      cases hr
      obtain ⟨ho, rfl⟩ := hi
      rw [ho] at hown
      have hs : some (Sum.inl ((n, pc + 3, lo, .inl 1 :: st), h)) = some (Sum.inl (fr, h')) := hs
      cases hs
      exact ⟨rfl, sj_gets0 hx hb had hKK hsz hag hc0 hown (hts _ tf_j6) hd kk⟩
    · split at hr
      · rename_i hi
        cases hr
        obtain ⟨ho, rfl⟩ := hi
        rw [ho] at hown
        have hs : some (Sum.inl ((n, pc + 3, lo, .inr (.inr X.2.2) :: st), h)) = some (Sum.inl (fr, h')) := hs
        cases hs
        exact ⟨rfl, sj_gets3 hx hb had hKK hsz hag hc0 hown (hts _ tf_j7) hd kk⟩
      · cases hr
  case putfield i =>
    have hln : 3 = len := hln
    subst hln
    obtain ⟨en, hen, rfl⟩ := Option.map_eq_some_iff.mp hr
    obtain ⟨g1, g2, g3⟩ := tf_F (pm_fi_mem hen)
    simp only [pm_step, pm_nx] at hs
    split at hs
    · split at hs
      · rename_i hk
        split at hs
        · rename_i hcc
          cases hs
          obtain ⟨hcc, hlen, hok⟩ := hcc
          subst hcc
          refine ⟨rfl, sj_put hx hb had hKK hts hown g1 (tf_c g1).1 (tf_ty g1).2.1 (tf_nm g1) g2 (hts _ g3) ?_ hk hlen ?_ hd kk⟩
          · intro hf
            simp only [pm_chkF, hf, Bool.not_true, Bool.false_or, Bool.and_eq_true, decide_eq_true_eq] at hcf
            exact ⟨hname hcf.1, hcf.2⟩
          · have q := ((tf_ty g1).2.2 _ g2).1
            unfold pm_fty at hok
            rw [List.getD_eq_getElem?_getD (l := pm_ftys.getD _ _), q] at hok
            exact hok
        · cases hs
      · cases hs
    · cases hs
  case arraylength =>
    have hln : 1 = len := hln
    subst hln
    simp only [pm_res, Option.some.injEq] at hr
    subst hr
    simp only [pm_step, pm_nx] at hs
    split at hs
    · rename_i k r
      split at hs
      · rename_i a ha
        cases hs
        unfold pm_arr at ha
        split at ha
        · rename_i a' ha'
          cases ha
          exact ⟨rfl, sj_alen hx hb had hKK ha' (hwf _ _ ha').2 hd kk⟩
        · cases ha
        · rcases pm_ext_str ha with ⟨rfl, rfl⟩ | ⟨j, t, rfl, hj, ht, rfl⟩
          · exact ⟨rfl, sj_slen hx hb had hKK hH0 hbl hd kk⟩
          · exact ⟨rfl, sj_tlen hx hb had hKK hsz hag hH0 hc0 ht hj hd kk⟩
      · cases hs
    · cases hs
  case iaload =>
    have hln : 1 = len := hln
    subst hln
    simp only [pm_res, Option.some.injEq] at hr
    subst hr
    simp only [pm_step, pm_nx] at hs
    split at hs
    · split at hs
      · rename_i a ha
        split at hs
        · rename_i hc
          cases hs
          unfold pm_arr at ha
          split at ha
          · rename_i a' ha'
            cases ha
            exact ⟨rfl, sj_iald hx hb had hKK ha' hc.1 hc.2 hd kk⟩
          · cases ha
          · rcases pm_ext_str ha with ⟨rfl, rfl⟩ | ⟨j, t, rfl, hj, ht, rfl⟩
            · exact ⟨rfl, sj_sld hx hb had hKK hH0 hbl hc.2 hd kk⟩
            · exact absurd hc.1 (show ¬ (1 : Nat) = 0 by omega)
        · cases hs
      · cases hs
    · cases hs
  case baload =>
    have hln : 1 = len := hln
    subst hln
    simp only [pm_res, Option.some.injEq] at hr
    subst hr
    simp only [pm_step, pm_nx] at hs
    split at hs
    · split at hs
      · rename_i a ha
        split at hs
        · rename_i hc
          cases hs
          unfold pm_arr at ha
          split at ha
          · rename_i a' ha'
            cases ha
            exact ⟨rfl, sj_bald hx hb had hKK ha' hc.1 hc.2 hd kk⟩
          · cases ha
          · rcases pm_ext_str ha with ⟨rfl, rfl⟩ | ⟨j, t, rfl, hj, ht, rfl⟩
            · exact absurd hc.1 (show ¬ ((0 : Nat) = 1 ∨ (0 : Nat) = 2) by omega)
            · exact ⟨rfl, sj_tld hx hb had hKK hsz hag hH0 hc0 ht hj hc.2 hd kk⟩
        · cases hs
      · cases hs
    · cases hs
  case laload =>
    have hln : 1 = len := hln
    subst hln
    simp only [pm_res, Option.some.injEq] at hr
    subst hr
    simp only [pm_step, pm_nx] at hs
    split at hs
    · split at hs
      · rename_i a ha
        split at hs
        · rename_i hc
          cases hs
          unfold pm_arr at ha
          split at ha
          · rename_i a' ha'
            cases ha
            exact ⟨rfl, sj_lald hx hb had hKK ha' hc.1 hc.2 hd kk⟩
          · cases ha
          · rcases pm_ext_str ha with ⟨rfl, rfl⟩ | ⟨j, t, rfl, hj, ht, rfl⟩
            · exact absurd hc.1 (show ¬ (0 : Nat) = 3 by omega)
            · exact absurd hc.1 (show ¬ (1 : Nat) = 3 by omega)
        · cases hs
      · cases hs
    · cases hs
  case aaload =>
    have hln : 1 = len := hln
    subst hln
    simp only [pm_res, Option.some.injEq] at hr
    subst hr
    simp only [pm_step, pm_nx] at hs
    split at hs
    · split at hs
      · rename_i a ha
        split at hs
        · rename_i hc
          cases hs
          exact ⟨rfl, sj_aald hx hb had hKK ha hc.1 hc.2 hd kk⟩
        · cases hs
      · cases hs
    · cases hs
  case iastore =>
    have hln : 1 = len := hln
    subst hln
    simp only [pm_res, Option.some.injEq] at hr
    subst hr
    simp only [pm_step, pm_nx] at hs
    split at hs
    · split at hs
      · rename_i a ha
        split at hs
        · rename_i hc
          cases hs
          exact ⟨rfl, sj_iast hx hb had hKK ha hc.1 hc.2 hd kk⟩
        · cases hs
      · cases hs
    · cases hs
  case lastore =>
    have hln : 1 = len := hln
    subst hln
    simp only [pm_res, Option.some.injEq] at hr
    subst hr
    simp only [pm_step, pm_nx] at hs
    split at hs
    · split at hs
      · rename_i a ha
        split at hs
        · rename_i hc
          cases hs
          exact ⟨rfl, sj_last hx hb had hKK ha hc.1 hc.2 hd kk⟩
        · cases hs
      · cases hs
    · cases hs
  case bastore =>
    have hln : 1 = len := hln
    subst hln
    simp only [pm_res, Option.some.injEq] at hr
    subst hr
    simp only [pm_step, pm_nx] at hs
    split at hs
    · split at hs
      · rename_i a ha
        split at hs
        · rename_i hc
          cases hs
          exact ⟨rfl, sj_bast hx hb had hKK ha hc.1 hc.2 hd kk⟩
        · split at hs
          · rename_i hc
            cases hs
            exact ⟨rfl, sj_zast hx hb had hKK ha hc.1 hc.2.1 hc.2.2 hd kk⟩
          · cases hs
      · cases hs
    · cases hs
  case aastore =>
    have hln : 1 = len := hln
    subst hln
    simp only [pm_res, Option.some.injEq] at hr
    subst hr
    simp only [pm_step, pm_nx] at hs
    split at hs
    · split at hs
      · rename_i ha hv
        split at hs
        · rename_i hc
          cases hs
          exact ⟨rfl, sj_aast hx hb had hKK ha hv hc.1 hc.2 hd kk⟩
        · cases hs
      · cases hs
    · cases hs
  case new i =>
    have hln : 3 = len := hln
    subst hln
    obtain ⟨en, hen, rfl⟩ := Option.map_eq_some_iff.mp hr
    obtain ⟨g1, g2⟩ := tf_C (pm_fi_mem hen)
    simp only [pm_step, pm_nx] at hs
    split at hs
    · rename_i hc
      cases hs
      exact ⟨rfl, sj_new hx hb had hKK hts hown g1 (tf_c g1).1 (tf_ty g1).2.1 (tf_ty g1).2.2 (tf_ty g1).1 (hts _ g2) (hts _ (tf_c g1).2.1) (hts _ (tf_c g1).2.2) hc0 hs0 hc.1 hrc hrs hd kk⟩
    · cases hs
  case newarray t =>
    have hln : 2 = len := hln
    subst hln
    simp only [pm_res, Option.some.injEq] at hr
    subst hr
    simp only [pm_step, pm_nx] at hs
    split at hs
    · rename_i v r ty hty
      split at hs
      · rename_i hc
        cases hs
        have hw : (Jvm.Cond.arrayClass (newarray.typeOf t)) ∈ GT := by
          cases t <;> simp [pm_aty] at hty
          · exact tf_j2
          · exact tf_j1
          · exact tf_j0
          · exact tf_j3
        exact ⟨rfl, sj_newarr hx hb had hKK hts hty hw hc0 hs0 hc.1 hc.2.2 hrc hrs hd kk⟩
      · cases hs
    · cases hs
  case anewarray i =>
    have hln : 3 = len := hln
    subst hln
    simp only [pm_res] at hr
    split at hr
    · rename_i cn hcn
      obtain ⟨g1, g2⟩ := tf_C (pm_fi_mem hcn)
      split at hr
      · rename_i h7
        cases hr
        simp only [pm_step, pm_nx] at hs
        split at hs
        · split at hs
          · rename_i hc
            cases hs
            subst h7
            exact ⟨rfl, sj_anew hx hb had hKK hown (Or.inl ⟨rfl, rfl⟩) (hts _ g2) hc0 hs0 hc.1 hc.2.2.2 hrc hrs hd kk⟩
          · cases hs
        · cases hs
      · split at hr
        · rename_i h7
          cases hr
          simp only [pm_step, pm_nx] at hs
          split at hs
          · split at hs
            · rename_i hc
              cases hs
              subst h7
              exact ⟨rfl, sj_anew hx hb had hKK hown (Or.inr ⟨rfl, rfl⟩) (hts _ g2) hc0 hs0 hc.1 hc.2.2.2 hrc hrs hd kk⟩
            · cases hs
          · cases hs
        · cases hr
    · cases hr
  case invokestatic i =>
    have hln : 3 = len := hln
    subst hln
    simp only [pm_res] at hr
    split at hr
    · rename_i q hq
      split at hr
      · cases hr
        simp only [pm_step, pm_call] at hs
        split at hs <;> cases hs
      · split at hr
        · rename_i hq2
          cases hr
          obtain ⟨c1, dp, sp, k1, k0, r, a0, a1, rfl, h0, h1, hc, hR⟩ := id_at0 hs
          cases hR
          exact ⟨rfl, sj_copy hx hb had hKK hml hown (hts _ ((tf_M (pm_fi_mem hq)).2.1 hq2)) (hts _ tf_k0) (hts _ tf_k1) (hts _ tf_k2) h0 h1 hc.1 hc.2.1 hc.2.2.1 hc.2.2.2.1 hc.2.2.2.2.1 hc.2.2.2.2.2.1 hc.2.2.2.2.2.2.1 hc.2.2.2.2.2.2.2 hfr hlo hd kk⟩
        · cases hr
    · cases hr
  case invokespecial i =>
    have hln : 3 = len := hln
    subst hln
    simp only [pm_res] at hr
    split at hr
    · rename_i q hq
      split at hr
      · cases hr
        simp only [pm_step, pm_call] at hs
        split at hs <;> cases hs
      · split at hr
        · rename_i hq2
          cases hr
          obtain ⟨k, r, rfl, hc, hR⟩ := id_at3 hs
          cases hR
          exact ⟨rfl, sj_objInit hx hb had hKK hml hown (hts _ ((tf_M (pm_fi_mem hq)).2.2 hq2)) (hts _ tf_k3) (hts _ tf_k4) hc hfr hlo hd kk⟩
        · cases hr
    · cases hr
  case invokevirtual i =>
    have hln : 3 = len := hln
    subst hln
    simp only [pm_res] at hr
    split at hr
    · split at hr
      · cases hr
        simp only [pm_step, pm_call] at hs
        split at hs <;> cases hs
      · cases hr
    · cases hr
  case ireturn =>
    simp only [pm_res, Option.some.injEq] at hr
    subst hr
    simp only [pm_step] at hs
    split at hs
    · split at hs <;> cases hs
    · cases hs
  case lreturn =>
    simp only [pm_res, Option.some.injEq] at hr
    subst hr
    simp only [pm_step] at hs
    split at hs
    · split at hs <;> cases hs
    · cases hs
  case areturn =>
    simp only [pm_res, Option.some.injEq] at hr
    subst hr
    simp only [pm_step] at hs
    split at hs
    · split at hs <;> cases hs
    · cases hs
  case return_ =>
    simp only [pm_res, Option.some.injEq] at hr
    subst hr
    simp only [pm_step] at hs
    split at hs
    · split at hs <;> cases hs
    · cases hs
  all_goals (simp only [pm_res] at hr; cases hr)
