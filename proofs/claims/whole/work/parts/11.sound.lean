/-! the plain machine's runs are the true machine's -/
def pm_prim (m : Nat) (args : List PV) : Option PV := match m, args with
  | 18, [.inl x, .inl y] => some (.inl (if w32 y < w32 x then y else x))
  | 69, [.inl x, .inl y] => some (.inl (if w32 x < w32 y then y else x))
  | 170, [.inr (.inl x), .inr (.inl y)] => some (.inr (.inl (if w64 y < w64 x then y else x)))
  | 172, [.inr (.inl x), .inr (.inl y)] => some (.inr (.inl (if w64 y < w64 x then x else y)))
  | 187, [.inl x] => some (.inl (if 0 ≤ w32 x then x else 0 - x))
  | _, _ => none
abbrev PK : Type := Nat → List (Nat × Instr × Nat)
def pm_run (K : PK) (X : PX) : Nat → Nat → PF → PH → Option (Option PV × PH)
  | 0, _, _, _ => none
  | f + 1, d, fr, h => match (K fr.1).find? (fun q => Nat.beq q.1 fr.2.1) with
    | none => none
    | some q => match pm_step X q.2.1 q.2.2 fr.1 fr.2.1 fr.2.2.1 fr.2.2.2 h with
      | none => none
      | some (.inl (fr', h')) => pm_run K X f d fr' h'
      | some (.inr (.inl r)) => some (r, h)
      | some (.inr (.inr (m, args, fr'))) => match d with
        | 0 => none
        | d' + 1 => match pm_prim m args with
          | some v => pm_run K X f (d' + 1) (fr'.1, fr'.2.1, fr'.2.2.1, v :: fr'.2.2.2) h
          | none => match pm_run K X f d' (pm_entry m args) h with
            | none => none
            | some (r, h') => pm_run K X f (d' + 1) (fr'.1, fr'.2.1, fr'.2.2.1, r.toList ++ fr'.2.2.2) h'
set_option maxHeartbeats 2000000 in
theorem step_mono {X : PX} {I : Instr} {len n pc : Nat} {lo : List (Option PV)} {st : List PV} {h h' : PH} {fr : PF} (hs : pm_step X I len n pc lo st h = some (.inl (fr, h'))) : h.1 ≤ h'.1 ∧ h.2.1 ≤ h'.2.1 := by
  cases I <;> simp only [pm_step, pm_nx, pm_call] at hs <;> (repeat' split at hs) <;> first
    | (cases hs; done)
    | (cases hs; exact ⟨Nat.le_refl _, Nat.le_refl _⟩)
    | (cases hs; exact ⟨Nat.le_succ _, Nat.le_add_right _ _⟩)
theorem run_mono {K : PK} {X : PX} : ∀ (f d : Nat) (fr : PF) (h : PH) (r : Option PV) (h' : PH), pm_run K X f d fr h = some (r, h') → h.1 ≤ h'.1 ∧ h.2.1 ≤ h'.2.1 := by
  intro f
  induction f with
  | zero => intro d fr h r h' e; cases e
  | succ f ih =>
    intro d fr h r h' e
    unfold pm_run at e
    split at e
    · cases e
    · split at e
      · cases e
      · rename_i hs
        have a := step_mono hs
        have b := ih _ _ _ _ _ e
        omega
      · cases e
        exact ⟨Nat.le_refl _, Nat.le_refl _⟩
      · split at e
        · cases e
        · split at e
          · exact ih _ _ _ _ _ e
          · split at e
            · cases e
            · rename_i hc
              have a := ih _ _ _ _ _ hc
              have b := ih _ _ _ _ _ e
              omega
def WS (n : Nat) : List Jvm.Cond := Jvm.Cond.code (pm_y n) (pm_by n) (pm_m n).2.1 (pm_rt n) :: GT
def rm_of (d mc ms : Nat) : Room := { frames := d + 1, cells := mc, slots := ms, locals := 37 * (d + 1) }
def PcM (X : PX) (D : va_G) (aC : Nat → ClassId) (ad : Nat → Nat) (base : Nat) (H0 : Heap) (args : List PV) (h : PH) : Array Value → State → Prop := fun a U => a = (args.map (up_v ad)).toArray ∧ HR D aC ad base H0 h U.heap ∧ KK X D aC ad base H0 U
def QcM (D : va_G) (aC : Nat → ClassId) (ad : Nat → Nat) (base : Nat) (H0 : Heap) (r : Option PV) (h : PH) : Array Value → State → Outcome → State → Prop := fun _ _ o t => o = .returned (r.map (up_v ad)) ∧ HR D aC ad base H0 h t.heap
theorem PcM.blind {X : PX} {D : va_G} {aC : Nat → ClassId} {ad : Nat → Nat} {base : Nat} {H0 : Heap} {args : List PV} {h : PH} : FrameBlind (PcM X D aC ad base H0 args h) := by
  intro a U g mk q
  exact ⟨q.1, q.2.1, KK.same (U := U.calling g mk a) rfl q.2.2⟩
/-- which methods are told of -/
theorem tf_Y {m : Nat} (h : pp_Y.any (fun z => Nat.beq z.1 m) = true) : (Jvm.Cond.code (pm_y m) (pm_by m) (pm_m m).2.1 (pm_rt m)) ∈ GT ∧ (Jvm.Cond.initialized (pm_y m).cls) ∈ GT ∧ (pm_y m).cls = pm_cn (pm_ow m) ∧ (pm_m m).2.1 ≤ 18 ∧ pm_rk (pm_m m).2.2.2 (pm_rt m) = true ∧ ((pm_y m).cls ≠ "java/lang/invoke/MethodHandle" ∧ (pm_y m).cls ≠ "java/lang/invoke/VarHandle") ∧ plainName (pm_y m).cls = true ∧ (parseMethodDescriptor (pm_y m).desc).map (fun d => d.parameters.length) = some (if (pm_m m).2.2.1 = 98 then (pm_m m).1 else (pm_m m).1 - 1) ∧
    ((pm_m m).2.2.1 = 98 → (Jvm.Cond.static (pm_y m)) ∈ GT) ∧ (¬ (pm_m m).2.2.1 = 98 → 1 ≤ (pm_m m).1 ∧ (Jvm.Cond.instanceMethod (pm_y m)) ∈ GT ∧ ((pm_y m).name = "<init>" → pm_rt m = none) ∧ (¬ (pm_y m).name = "<init>" → (Jvm.Cond.selects (pm_y m).cls (pm_y m) (pm_y m)) ∈ GT) ∧ ((pm_m m).2.2.1 = 99 → (pm_y m).cls = "java/lang/String") ∧ (¬ (pm_m m).2.2.1 = 99 → (pm_m m).2.2.1 < 13 ∧ (pm_y m).cls = pm_cn (pm_m m).2.2.1)) := by
  obtain ⟨z, hz, hm⟩ := List.any_eq_true.mp h
  have hm := Nat.eq_of_beq_eq_true hm
  have q := List.all_eq_true.mp pp_Y_ok z hz
  subst hm
  simp only [ck_Y, Bool.and_eq_true] at q
  obtain ⟨q1, q2, q3⟩ := q
  simp only [ck_Y1, Bool.and_eq_true, decide_eq_true_eq] at q1
  simp only [ck_Y2, Bool.and_eq_true, decide_eq_true_eq] at q2
  refine ⟨pl_good q1.1, pl_good q1.2.1, q1.2.2.1, q1.2.2.2.1, q1.2.2.2.2, q2.1, q2.2.1, q2.2.2, fun e => ?_, fun e => ?_⟩
  · simp only [ck_Y3] at q3
    rw [if_pos e] at q3
    exact pl_good q3
  · simp only [ck_Y3] at q3
    rw [if_neg e] at q3
    simp only [Bool.and_eq_true, decide_eq_true_eq] at q3
    refine ⟨q3.1, pl_good q3.2.1, fun e2 => ?_, fun e2 => ?_, fun e2 => ?_, fun e2 => ?_⟩
    · have := q3.2.2.1
      rw [if_pos e2] at this
      simpa using this
    · have := q3.2.2.1
      rw [if_neg e2] at this
      exact pl_good this
    · have := q3.2.2.2
      rw [if_pos e2] at this
      simpa using this
    · have := q3.2.2.2
      rw [if_neg e2] at this
      simpa using this
theorem ws_good {m : Nat} (h : pp_Y.any (fun z => Nat.beq z.1 m) = true) : GoodIn GT (WS m) := by
  intro w hw
  have hg : ∀ w ∈ GT, w ∈ GT ∧ ((w.onTables && w.keeps) = true ∨ ∃ ty, w = .arrayClass ty) := fun w hw => ⟨hw, good_of_word (List.mem_filter.mp hw).2⟩
  rcases List.mem_cons.mp hw with rfl | hw
  · exact hg _ (tf_Y h).1
  · exact hg _ hw
theorem lay_args {ad : Nat → Nat} : ∀ (args : List PV) (o i : Nat) (v : PV), (pm_lay args)[i]? = some (some v) → (o + i, up_v ad v) ∈ lv_args o (args.map (up_v ad)) := by
  intro args
  induction args with
  | nil => intro o i v h; simp [pm_lay] at h
  | cons a t ih =>
    intro o i v h
    by_cases hc : pcat a = 2
    · obtain ⟨x, rfl⟩ := pcat_long hc
      have h : (some (Sum.inr (Sum.inl x)) :: none :: pm_lay t)[i]? = some (some v) := h
      rw [List.map_cons, lv_args]
      match i, h with
      | 0, h => cases h; exact List.mem_cons_self
      | 1, h => cases h
      | i + 2, h =>
        have q := ih (o + 2) i v h
        refine List.mem_cons_of_mem _ ?_
        rw [if_pos (show (up_v ad (Sum.inr (Sum.inl x))).category = 2 from rfl), show o + (i + 2) = o + 2 + i by omega]
        exact q
    · have hl : pm_lay (a :: t) = some a :: pm_lay t := by
        match a, hc with
        | .inl _, _ => rfl
        | .inr (.inr _), _ => rfl
        | .inr (.inl _), hc => exact absurd rfl hc
      rw [hl] at h
      rw [List.map_cons, lv_args]
      match i, h with
      | 0, h => cases h; exact List.mem_cons_self
      | i + 1, h =>
        have q := ih (o + 1) i v h
        refine List.mem_cons_of_mem _ ?_
        rw [if_neg (by rw [up_cat]; exact hc), show o + (i + 1) = o + 1 + i by omega]
        exact q
theorem lay_len {ad : Nat → Nat} : ∀ args : List PV, (lg_sl (args.map (up_v ad))).length = (pm_lay args).length := by
  intro args
  induction args with
  | nil => rfl
  | cons a t ih =>
    have e : lg_sl ((a :: t).map (up_v ad)) = (if (up_v ad a).category = 2 then [.val (up_v ad a), .second] else [.val (up_v ad a)]) ++ lg_sl (t.map (up_v ad)) := rfl
    rw [e, List.length_append, ih]
    by_cases hc : pcat a = 2
    · obtain ⟨x, rfl⟩ := pcat_long hc
      show 2 + (pm_lay t).length = ((pm_lay t).length + 1) + 1
      omega
    · have hl : pm_lay (a :: t) = some a :: pm_lay t := by
        match a, hc with
        | .inl _, _ => rfl
        | .inr (.inr _), _ => rfl
        | .inr (.inl _), hc => exact absurd rfl hc
      rw [hl, if_neg (by rw [up_cat]; exact hc)]
      show 1 + (pm_lay t).length = (pm_lay t).length + 1
      omega
theorem LR.entry {ad : Nat → Nat} {n : Nat} {args : List PV} (h : (pm_lay args).length ≤ n) : LR ad n (pm_lay args ++ List.replicate (n - (pm_lay args).length) none) ((lg_sl (args.map (up_v ad)) ++ List.replicate (n - (lg_sl (args.map (up_v ad))).length) Slot.unset).toArray) := by
  have q := lv_entry (args.map (up_v ad)) (n := n) (by rw [lay_len]; exact h)
  refine ⟨by simp; omega, q.1, q.2.1, fun i v hi => ?_⟩
  refine q.2.2 (i, up_v ad v) ?_
  have h2 : (pm_lay args)[i]? = some (some v) := by
    by_cases hl : i < (pm_lay args).length
    · rw [List.getElem?_append_left hl] at hi
      exact hi
    · rw [List.getElem?_append_right (by omega)] at hi
      have := List.eq_of_mem_replicate (List.mem_of_getElem? hi)
      cases this
  have q2 := lay_args (ad := ad) args 0 i v h2
  rw [Nat.zero_add] at q2
  exact q2
def retOK (n : Nat) (J : Instr) (st : List PV) (r : Option PV) : Prop :=
  (J = .ireturn ∧ ∃ v, st = [.inl v] ∧ r = some (.inl v) ∧ pm_okr (pm_m n).2.2.2 v = true) ∨ (J = .lreturn ∧ ∃ v, st = [.inr (.inl v)] ∧ r = some (.inr (.inl v)) ∧ (pm_m n).2.2.2 = 2) ∨
  (J = .areturn ∧ ∃ v, st = [.inr (.inr (some v))] ∧ r = some (.inr (.inr (some v))) ∧ (pm_m n).2.2.2 = 3) ∨ (J = .return_ ∧ st = [] ∧ r = none ∧ (pm_m n).2.2.2 = 9)
