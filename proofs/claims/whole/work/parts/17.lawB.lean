def R_law : String := "BellBayLaw"
def lw_P (b : Addr) (xs : List Int32) (args : Array Value) (s : State) : Prop := args = #[.ref b] ∧ s.IntsAt b xs ∧ xs.length ≤ 3072 ∧ (Jvm.Cond.and given_1 narrow_1).before args s = true
def lw_Q (_ : Array Value) (s : State) (o : Outcome) (t : State) : Prop := o = .returned (some (.int 1)) ∧ Framed s o t [] 600000 7302250
def lw_Z (below : List Frame) (a : Array Value) (s : State) : State → Prop := fun t => ∃ o, t.status = .running ∧ Ended t below o ∧ lw_Q a s o t
/-- the law's own end, with 1 on the stack, nothing written that was there before, its room as the claim has it -/
theorem lw_ret {p : Program} {l : Launch} {e : Env} {s : State} {m : MethodId} {below : List Frame} {meth : Method} {c : Code} {b : Nat} (hx : p.tables.exec = Jvm.exec) (hb : c.code = code) (hr : meth.sig.returnType = ret) (hlocks : meth.locks = false) {pc : Nat} {H : Heap} {ls : Array Slot} (hdg : decode code pc = .ok (.ireturn, 1)) : W p l e room_1 s m #[Value.ref b] below meth c H [] 600000 7302250 (lw_Z below #[Value.ref b] s) (F0 m pc ls [.int 1]) := by
  intro T hT X
  obtain ⟨fs, hret, hrun, hended, hW, hframe⟩ := X.leave (v := some (.int 1)) (hlocks := hlocks) (fun h => by rw [hr] at h; cases h)
  have hmeth' : T.vm.method? m = some meth := X.method'
  refine ⟨T.setFrames fs, ?_, .returned (some (.int 1)), hrun, hended, rfl, ⟨_, rfl⟩, hW, hframe⟩
  jvm_step X.here [X.here.top, hx, hb, hdg, hmeth', hr, ret, narrow_b1]
  (try refine ⟨rfl, ?_⟩); (try refine ⟨rfl, ?_⟩)
  first | (intro acts; rw [hret _ acts rfl rfl rfl]) | rw [hret _ _ rfl rfl rfl]
  exact Steps.refl _
/-- what holds at the law's entry: the machine, the code, the tables' words (any of lw_tbl by 'hts w (by decide +kernel)'), the script of L ints xs at the cell b, what the Statement gives of the start (any of its parts by flat_of_before) -/
def lw_At (p : Program) (s : State) (m : MethodId) (meth : Method) (c : Code) (b L : Nat) (xs : Nat → Int32) : Prop :=
  p.tables.exec = Jvm.exec ∧ c.code = code ∧ meth.sig.returnType = ret ∧ c.maxLocals = 4 ∧ s.vm.findClass R_law = some m.cls ∧ (∀ w ∈ lw_tbl, w.before #[Value.ref b] s = true) ∧ va_X b L xs s s.heap ∧ b < s.heap.size ∧ meth.locks = false ∧ (Jvm.Cond.and given_1 narrow_1).before #[Value.ref b] s = true
/-! the claim out of a run of the plain machine -/
def h_nil : PH := (0, 0, fun _ => none)
/-- what is to be shown of the plain machine: the law answers 1 on every script -/
def Goal : Prop := ∀ (L : Nat) (xs : Nat → Int) (fm : Option Nat), L ≤ 3072 → ∃ (f : Nat) (h' : PH), pm_run pm_K (L, xs, fm) f 13 (pm_entry 329 [.inr (.inr (some 100000))]) h_nil = some (some (.inl 1), h') ∧ h'.2.1 ≤ 7302250
theorem whole_of (G : Goal) {p : Program} {e : Env} {s : State} {m : MethodId} {below : List Frame} {meth : Method} {c : Code} (l : Launch) {b L : Nat} {xs : Nat → Int32} (hL : L ≤ 3072) (C0 : lw_At p s m meth c b L xs) : W p l e room_1 s m #[Value.ref b] below meth c s.heap [] 0 0 (lw_Z below #[Value.ref b] s) (entryFrame m ([Value.ref b] : List Value).toArray 4) := by
  obtain ⟨hx, hb, hr, hml, hown, hts, hX, hbl, hlocks, hgv⟩ := C0
  obtain ⟨D, aC, ad, fm, had, h100, hKK⟩ := start_KK hts hX hgv
  obtain ⟨f, h', hrun, hsl⟩ := G L (fun j => (xs j).toInt) fm hL
  have htG : ∀ w ∈ GT, w.before #[Value.ref b] s = true := fun w hw => hts w (List.mem_filter.mp hw).1
  have hH : HR D aC ad s.heap.size s.heap h_nil s.heap := ⟨rfl, Nat.zero_le _, fun q _ => rfl, fun k x hk => by cases hk⟩
  have hname : (pm_y 329).name = "<init>" → meth.name = "<init>" := fun e => absurd e (by decide +kernel)
  have hend : ∀ (pc' len : Nat) (lo' : List (Option PV)) (st' : List PV) (J : Instr), decode (pm_by 329) pc' = .ok (J, len) → pm_ln J len = len → retOK 329 J st' (some (.inl 1)) → Kon p l e room_1 s m #[Value.ref b] below meth c (lw_Z below #[Value.ref b] s) D aC ad s.heap.size s.heap 0 0 4 pc' lo' st' h' := by
    intro pc' len lo' st' J hd hln hret H locs ls hH' hl hq
    rcases hret with ⟨rfl, v, rfl, hv, hok⟩ | ⟨rfl, v, rfl, hv, hk⟩ | ⟨rfl, v, rfl, hv, hk⟩ | ⟨rfl, rfl, hv, hk⟩
    · have hln : 1 = len := hln
      subst hln
      cases hv
      refine va_forget hq ?_
      refine W.widen (k := 600000) (n := 7302250) (by have := hH'.2.1; omega) (by omega) ?_
      exact lw_ret hx hb hr hlocks hd
    · cases hv
    · cases hv
    · cases hv
  have w := sim_run (l := l) (K := pm_K) (X := (L, (fun j => (xs j).toInt), fm)) (D := D) (aC := aC) (ad := ad) (base := s.heap.size) (H0 := s.heap) pm_K_ok had rfl (by rw [h100]; exact hbl) f 13 329 0 _ _ h_nil (some (.inl 1)) h' hrun p e room_1 s m #[Value.ref b] below meth c (lw_Z below #[Value.ref b] s) 0 0 4 hx hb hKK htG hown hml hname rfl (fun q _ => rfl) (by decide) (by decide) (by have := run_cells _ _ _ _ _ _ hrun (Nat.zero_le _); show h'.1 - 0 ≤ 600000; omega) (by show h'.2.1 - 0 ≤ 7302250; omega) (Nat.le_refl _) (Nat.le_refl _) hend s.heap [] _ hH (LR.entry (ad := ad) (n := 4) (args := [.inr (.inr (some 100000))]) (by decide)) (fun q hq => by cases hq)
  rw [lg_entry_eq]
  have e1 : ([.inr (.inr (some 100000))] : List PV).map (up_v ad) = [Value.ref b] := by
    show [Value.ref (ad 100000)] = _
    rw [h100]
  rw [e1] at w
  exact w
