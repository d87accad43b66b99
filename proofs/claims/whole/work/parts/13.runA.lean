/-! every run of the plain machine is one of the true machine -/
def KOK (K : PK) : Prop := (∀ n : Nat, ∀ q ∈ K n, pm_chk (pm_ow n) (pm_by n) q = true ∧ pm_chkF n q = true) ∧ ∀ n : Nat, pm_isM n = true → K n = []
theorem chk_at {K : PK} (hK : KOK K) {n pc : Nat} {q : Nat × Instr × Nat} (hq : (K n).find? (fun q => Nat.beq q.1 pc) = some q) : ∃ J : Instr, decode (pm_by n) pc = .ok (J, q.2.2) ∧ pm_ln J q.2.2 = q.2.2 ∧ pm_res (pm_ow n) pc J = some q.2.1 ∧ pm_chkF n (pc, q.2.1, q.2.2) = true := by
  have h1 := List.mem_of_find?_eq_some hq
  have h2 : q.1 = pc := Nat.eq_of_beq_eq_true (by have z := List.find?_some hq; exact z)
  obtain ⟨g1, g2⟩ := hK.1 n q h1
  obtain ⟨q1, q2, q3⟩ := q
  simp only at h2
  subst h2
  unfold pm_chk at g1
  split at g1
  · rename_i J len hd
    simp only [Bool.and_eq_true, decide_eq_true_eq] at g1
    obtain ⟨e1, e2, e3⟩ := g1
    have e2 := Nat.eq_of_beq_eq_true e2
    have e3 := Nat.eq_of_beq_eq_true e3
    simp only at e2 hd e1
    subst e2
    exact ⟨J, hd, e3, e1, g2⟩
  · cases g1
theorem pm_call_at {kind len n pc : Nat} {lo : List (Option PV)} {st : List PV} {h : PH} {m k : Nat} {As : List PV} {fr : PF} (hs : pm_call kind len n pc lo st h m = some (.inr (.inr (k, As, fr)))) : k = m ∧ fr = (n, pc + len, lo, st.drop (pm_m m).1) ∧ st = As.reverse ++ st.drop (pm_m m).1 ∧ As.length = (pm_m m).1 ∧ (pm_lay As).length ≤ (pm_m m).2.1 ∧ pcats (st.drop (pm_m m).1) ≤ 8 ∧ (kind = 1 ∨ pm_recv (pm_m m).2.2.1 h As = true) := by
  unfold pm_call at hs
  simp only at hs
  split at hs
  · rename_i hc
    cases hs
    refine ⟨rfl, rfl, ?_, hc.1, hc.2.1, hc.2.2.1, hc.2.2.2⟩
    rw [List.reverse_reverse, List.take_append_drop]
  · cases hs
theorem recv_at {c : Nat} {h : PH} {As : List PV} (hr : pm_recv c h As = true) : ∃ b As', As = .inr (.inr (some b)) :: As' := by
  match As, hr with
  | .inr (.inr (some b)) :: As', _ => exact ⟨b, As', rfl⟩
section RUN
variable {K : PK} {X : PX} {D : va_G} {aC : Nat → ClassId} {ad : Nat → Nat} {base : Nat} {H0 : Heap} {l : Launch}
/-- what a run that is shown at some fuel gives its caller -/
def RunAt (K : PK) (X : PX) (D : va_G) (aC : Nat → ClassId) (ad : Nat → Nat) (base : Nat) (H0 : Heap) (l : Launch) (f : Nat) : Prop :=
  ∀ (d n pc : Nat) (lo : List (Option PV)) (st : List PV) (h : PH) (r : Option PV) (h' : PH), pm_run K X f d (n, pc, lo, st) h = some (r, h') →
    ∀ (p : Program) (e : Env) (R : Room) (s : State) (m : MethodId) (args : Array Value) (below : List Frame) (meth : Method) (c : Code) (Q : State → Prop) (c0 s0 nL : Nat), p.tables.exec = Jvm.exec → c.code = pm_by n → KK X D aC ad base H0 s → (∀ w ∈ GT, w.before args s = true) → s.vm.findClass (pm_cn (pm_ow n)) = some m.cls → c.maxLocals = nL → ((pm_y n).name = "<init>" → meth.name = "<init>") → s.heap.size = base + c0 → (∀ q : Nat, q < base → s.heap[q]? = H0[q]?) → d + 1 ≤ R.frames → 37 * (d + 1) ≤ R.locals → h'.1 - c0 ≤ R.cells → h'.2.1 - s0 ≤ R.slots → c0 ≤ h.1 → s0 ≤ h.2.1 →
    (∀ (pc' len : Nat) (lo' : List (Option PV)) (st' : List PV) (J : Instr), decode (pm_by n) pc' = .ok (J, len) → pm_ln J len = len → retOK n J st' r → Kon p l e R s m args below meth c Q D aC ad base H0 c0 s0 nL pc' lo' st' h') → Kon p l e R s m args below meth c Q D aC ad base H0 c0 s0 nL pc lo st h
theorem ret_kinds {k : Nat} {rt : Option FieldType} (h : pm_rk k rt = true) : (k = 0 ∧ rt = some .int) ∨ (k = 1 ∧ rt = some .boolean) ∨ (k = 2 ∧ rt = some .long) ∨ (k = 3 ∧ ∃ C, rt = some (.object C)) ∨ (k = 4 ∧ rt = some .byte) ∨ (k = 5 ∧ rt = some .char) ∨ (k = 9 ∧ rt = none) := by
  unfold pm_rk at h
  split at h <;> first | (cases h; done) | simp
theorem link_of {own : Nat} {i : Nat} {q : Nat × Nat} {s : State} {args : Array Value} (hKK : KK X D aC ad base H0 s) (hts : ∀ w ∈ GT, w.before args s = true) (hq : pm_fi pm_tM own i = some q) (hlt : q.1 < 1000) : (Jvm.Cond.methodLink (pm_cn own) i (pm_y q.1)).before args s = true ∨ va_Nw (.methodLinkNest (pm_cn own) i (pm_y q.1) "BellBay") s := by
  have hm := pm_fi_mem hq
  rcases (tf_M hm).1 hlt with h | h
  · exact Or.inl (hts _ h.2)
  · exact Or.inr (hKK.2.1 _ hm h)
end RUN
set_option maxHeartbeats 2000000 in
theorem step_n {X : PX} {I : Instr} {len n pc : Nat} {lo : List (Option PV)} {st : List PV} {h h' : PH} {fr : PF} (hs : pm_step X I len n pc lo st h = some (.inl (fr, h'))) : fr.1 = n := by
  cases I <;> simp only [pm_step, pm_nx, pm_call] at hs <;> (repeat' split at hs) <;> first
    | (cases hs; done)
    | (cases hs; rfl)
set_option maxHeartbeats 2000000 in
theorem res_ret {own pc : Nat} {I J : Instr} (hr : pm_res own pc J = some I) (hI : I = .ireturn ∨ I = .lreturn ∨ I = .areturn ∨ I = .return_) : J = I := by
  cases J <;> simp only [pm_res] at hr <;> first
    | (cases hr; done)
    | (cases hr; rfl)
    | (exfalso; cases hr; rcases hI with h | h | h | h <;> cases h; done)
    | (exfalso; obtain ⟨v, -, rfl⟩ := Option.map_eq_some_iff.mp hr; rcases hI with h | h | h | h <;> cases h; done)
    | (exfalso; (repeat' split at hr) <;> first | (cases hr; done) | (cases hr; rcases hI with h | h | h | h <;> cases h; done) | (obtain ⟨v, -, rfl⟩ := Option.map_eq_some_iff.mp hr; rcases hI with h | h | h | h <;> cases h; done))
set_option maxHeartbeats 2000000 in
theorem ret_at {X : PX} {I J : Instr} {own len n pc : Nat} {lo : List (Option PV)} {st : List PV} {h : PH} {r : Option PV} (hr : pm_res own pc J = some I) (hs : pm_step X I len n pc lo st h = some (.inr (.inl r))) : retOK n J st r := by
  have key : (I = .ireturn ∧ ∃ v, st = [.inl v] ∧ r = some (.inl v) ∧ pm_okr (pm_m n).2.2.2 v = true) ∨ (I = .lreturn ∧ ∃ v, st = [.inr (.inl v)] ∧ r = some (.inr (.inl v)) ∧ (pm_m n).2.2.2 = 2) ∨ (I = .areturn ∧ ∃ v, st = [.inr (.inr (some v))] ∧ r = some (.inr (.inr (some v))) ∧ (pm_m n).2.2.2 = 3) ∨ (I = .return_ ∧ st = [] ∧ r = none ∧ (pm_m n).2.2.2 = 9) := by
    cases I
    case ireturn =>
      simp only [pm_step] at hs
      split at hs
      · split at hs
        · rename_i v hv
          cases hs
          exact Or.inl ⟨rfl, v, rfl, rfl, hv⟩
        · cases hs
      · cases hs
    case lreturn =>
      simp only [pm_step] at hs
      split at hs
      · split at hs
        · rename_i v hv
          cases hs
          exact Or.inr (Or.inl ⟨rfl, v, rfl, rfl, hv⟩)
        · cases hs
      · cases hs
    case areturn =>
      simp only [pm_step] at hs
      split at hs
      · split at hs
        · rename_i v hv
          cases hs
          exact Or.inr (Or.inr (Or.inl ⟨rfl, v, rfl, rfl, hv⟩))
        · cases hs
      · cases hs
    case return_ =>
      simp only [pm_step] at hs
      split at hs
      · split at hs
        · rename_i hv
          cases hs
          exact Or.inr (Or.inr (Or.inr ⟨rfl, rfl, rfl, hv⟩))
        · cases hs
      · cases hs
    all_goals (simp only [pm_step, pm_nx, pm_call] at hs; (repeat' split at hs) <;> (cases hs; done))
  rcases key with ⟨rfl, k⟩ | ⟨rfl, k⟩ | ⟨rfl, k⟩ | ⟨rfl, k⟩
  · exact Or.inl ⟨res_ret hr (Or.inl rfl), k⟩
  · exact Or.inr (Or.inl ⟨res_ret hr (Or.inr (Or.inl rfl)), k⟩)
  · exact Or.inr (Or.inr (Or.inl ⟨res_ret hr (Or.inr (Or.inr (Or.inl rfl))), k⟩))
  · exact Or.inr (Or.inr (Or.inr ⟨res_ret hr (Or.inr (Or.inr (Or.inr rfl))), k⟩))
set_option maxHeartbeats 2000000 in
theorem call_at {X : PX} {I J : Instr} {own len n pc k : Nat} {lo : List (Option PV)} {st : List PV} {h : PH} {As : List PV} {fr : PF} (hr : pm_res own pc J = some I) (hs : pm_step X I len n pc lo st h = some (.inr (.inr (k, As, fr)))) :
    ∃ (i : Nat) (q : Nat × Nat), pm_fi pm_tM own i = some q ∧ q.1 = k ∧ q.1 < 1000 ∧ ((J = .invokevirtual i ∧ I = .invokevirtual k ∧ pm_call 0 len n pc lo st h k = some (.inr (.inr (k, As, fr)))) ∨ (J = .invokestatic i ∧ I = .invokestatic k ∧ pm_call 1 len n pc lo st h k = some (.inr (.inr (k, As, fr)))) ∨ (J = .invokespecial i ∧ I = .invokespecial k ∧ pm_call 2 len n pc lo st h k = some (.inr (.inr (k, As, fr))))) := by
  cases J
  case invokevirtual i =>
    simp only [pm_res] at hr
    split at hr
    · rename_i q hq
      split at hr
      · rename_i hlt
        cases hr
        have hs : pm_call 0 len n pc lo st h q.1 = some (.inr (.inr (k, As, fr))) := hs
        have e := (pm_call_at hs).1
        subst e
        exact ⟨i, q, hq, rfl, hlt, Or.inl ⟨rfl, rfl, hs⟩⟩
      · cases hr
    · cases hr
  case invokestatic i =>
    simp only [pm_res] at hr
    split at hr
    · rename_i q hq
      split at hr
      · rename_i hlt
        cases hr
        have hs : pm_call 1 len n pc lo st h q.1 = some (.inr (.inr (k, As, fr))) := hs
        have e := (pm_call_at hs).1
        subst e
        exact ⟨i, q, hq, rfl, hlt, Or.inr (Or.inl ⟨rfl, rfl, hs⟩)⟩
      · split at hr
        · cases hr
          simp only [pm_step, pm_nx] at hs
          (repeat' split at hs) <;> (cases hs; done)
        · cases hr
    · cases hr
  case invokespecial i =>
    simp only [pm_res] at hr
    split at hr
    · rename_i q hq
      split at hr
      · rename_i hlt
        cases hr
        have hs : pm_call 2 len n pc lo st h q.1 = some (.inr (.inr (k, As, fr))) := hs
        have e := (pm_call_at hs).1
        subst e
        exact ⟨i, q, hq, rfl, hlt, Or.inr (Or.inr ⟨rfl, rfl, hs⟩)⟩
      · split at hr
        · cases hr
          simp only [pm_step, pm_nx] at hs
          (repeat' split at hs) <;> (cases hs; done)
        · cases hr
    · cases hr
  all_goals (exfalso; simp only [pm_res] at hr)
  all_goals first
    | (cases hr; done)
    | (cases hr; simp only [pm_step, pm_nx] at hs; (repeat' split at hs) <;> (cases hs; done))
    | (obtain ⟨v, -, rfl⟩ := Option.map_eq_some_iff.mp hr; simp only [pm_step, pm_nx] at hs; (repeat' split at hs) <;> (cases hs; done))
    | ((repeat' split at hr) <;> first | (cases hr; done) | (cases hr; simp only [pm_step, pm_nx] at hs; (repeat' split at hs) <;> (cases hs; done)) | (obtain ⟨v, -, rfl⟩ := Option.map_eq_some_iff.mp hr; simp only [pm_step, pm_nx] at hs; (repeat' split at hs) <;> (cases hs; done)))
