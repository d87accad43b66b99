/-! every instruction that the plain machine knows -/
theorem pm_fi_mem {α : Type} {t : List (Nat × Nat × α)} {a b : Nat} {v : α} (h : pm_fi t a b = some v) : (a, b, v) ∈ t := by
  unfold pm_fi at h
  obtain ⟨q, hq, rfl⟩ := Option.map_eq_some_iff.mp h
  have h1 := List.mem_of_find?_eq_some hq
  have h2 := List.find?_some hq
  simp only [Bool.and_eq_true] at h2
  have e1 := Nat.eq_of_beq_eq_true h2.1
  have e2 := Nat.eq_of_beq_eq_true h2.2
  obtain ⟨q1, q2, q3⟩ := q
  simp only at e1 e2
  rw [← e1, ← e2]
  exact h1
theorem pm_ext_str {X : PX} {k : Nat} {a : Nat × Nat × (Nat → Int)} (h : pm_ext X k = some a) : (k = 100000 ∧ a = (0, X.1, X.2.1)) ∨ ∃ (j : Nat) (t : List Int), k = 100002 + 2 * j ∧ j < 24 ∧ pm_strs[j]? = some t ∧ a = (1, t.length, fun q => t.getD q 0) := by
  unfold pm_ext at h
  split at h
  · rename_i hk
    cases h
    exact Or.inl ⟨hk, rfl⟩
  · split at h
    · cases h
    · split at h
      · rename_i h1 h2 h3
        obtain ⟨t, ht, rfl⟩ := Option.map_eq_some_iff.mp h
        have hj : (k - 100002) / 2 < pm_strs.length := (List.getElem?_eq_some_iff.mp ht).1
        have hl : pm_strs.length = 24 := rfl
        by_cases hk : k = 100001
        · omega
        · exact Or.inr ⟨(k - 100002) / 2, t, by omega, by omega, ht, rfl⟩
      · cases h
theorem pm_isStr_at {k : Nat} (h : pm_isStr k = true) : ∃ j, k = 100001 + 2 * j ∧ j < 24 := by
  unfold pm_isStr at h
  simp only [Bool.and_eq_true, decide_eq_true_eq] at h
  exact ⟨(k - 100001) / 2, by omega, by omega⟩
section SIML
variable {p : Program} {l : Launch} {e : Env} {R : Room} {s : State} {m : MethodId} {args : Array Value} {below : List Frame} {meth : Method} {c : Code} {Q : State → Prop}
variable {D : va_G} {aC : Nat → ClassId} {ad : Nat → Nat} {base : Nat} {H0 : Heap} {c0 s0 nL : Nat}
variable {cc : ByteArray} {pc : Nat} {lo : List (Option PV)} {st r : List PV} {h : PH}
theorem lk_off (ps : List (Int × Int)) (d x : Int) : Op.lookupswitch.offset ps d x = match ps.find? (fun q => decide (q.1 = x)) with
    | some q => q.2
    | none => d := by
  induction ps with
  | nil => rfl
  | cons a t ih =>
    obtain ⟨a1, a2⟩ := a
    rw [Op.lookupswitch.offset_cons, List.find?_cons]
    by_cases hx : a1 = x
    · simp [hx]
    · simp [hx, ih]
theorem sj_lookup (hx : p.tables.exec = Jvm.exec) (hb : c.code = cc) {d : Int} {ps : Array (Int × Int)} {len : Nat} {x : Int} (hd : decode cc pc = .ok (.lookupswitch d ps, len)) (h1 : 0 ≤ (pc : Int) + d) (h2 : ps.all (fun o => decide (0 ≤ (pc : Int) + o.2)) = true) (h3 : (ps.toList.zip (ps.toList.drop 1)).all (fun (a, next) => a.1 < next.1) = true)
    (k1 : ∀ q, (ps.map (fun o => (o.1, (pc : Int) + o.2))).toList.find? (fun q => decide (q.1 = w32 x)) = some q → Kon p l e R s m args below meth c Q D aC ad base H0 c0 s0 nL (q.2.toNat) (lo) (r) (h)) (k2 : (ps.map (fun o => (o.1, (pc : Int) + o.2))).toList.find? (fun q => decide (q.1 = w32 x)) = none → Kon p l e R s m args below meth c Q D aC ad base H0 c0 s0 nL (((pc : Int) + d).toNat) (lo) (r) (h)) : Kon p l e R s m args below meth c Q D aC ad base H0 c0 s0 nL (pc) (lo) (.inl x :: r) (h) := by
  intro H locs ls hH hl hq
  have hf : (ps.map (fun o => (o.1, (pc : Int) + o.2))).toList.find? (fun q => decide (q.1 = w32 x)) = (ps.toList.find? (fun q => decide (q.1 = w32 x))).map (fun o => (o.1, (pc : Int) + o.2)) := by
    rw [Array.toList_map, List.find?_map]
    rfl
  cases hz : ps.toList.find? (fun q => decide (q.1 = w32 x)) with
  | none =>
    rw [hz] at hf
    exact lv_lookup hx hb hd h3 (off := d) (by rw [w32_of, lk_off, hz]) (tgt := ((pc : Int) + d).toNat) (by omega) (k2 hf H locs ls hH hl hq)
  | some z =>
    rw [hz] at hf
    have hpo : 0 ≤ (pc : Int) + z.2 := by
      have := (Array.all_eq_true_iff_forall_mem.mp h2) z (Array.mem_toList_iff.mp (List.mem_of_find?_eq_some hz))
      simpa using this
    exact lv_lookup hx hb hd h3 (off := z.2) (by rw [w32_of, lk_off, hz]) (tgt := ((pc : Int) + z.2).toNat) (by omega) (k1 _ hf H locs ls hH hl hq)
end SIML
theorem gs_at1 {X : PX} {len n pc : Nat} {lo : List (Option PV)} {st : List PV} {h : PH} {R : PS} (hs : pm_step X (.getstatic 1) len n pc lo st h = some R) : ∃ k r, st = .inr (.inr (some k)) :: r ∧ pm_isStr k = true ∧ R = .inl ((n, pc + len, lo, .inr (.inr (some (k + 1))) :: r), h) := by
  match st, hs with
  | [], hs => have hs : (none : Option PS) = some R := hs; cases hs
  | .inl _ :: r, hs => have hs : (none : Option PS) = some R := hs; cases hs
  | .inr (.inl _) :: r, hs => have hs : (none : Option PS) = some R := hs; cases hs
  | .inr (.inr none) :: r, hs => have hs : (none : Option PS) = some R := hs; cases hs
  | .inr (.inr (some k)) :: r, hs =>
    have hs : (if pm_isStr k = true ∧ (h.2.2 k).isNone = true then pm_nx n (pc + len) lo (.inr (.inr (some (k + 1))) :: r) h else none) = some R := hs
    split at hs
    · rename_i hk
      cases hs
      exact ⟨k, r, rfl, hk.1, rfl⟩
    · cases hs
theorem gs_at2 {X : PX} {len n pc : Nat} {lo : List (Option PV)} {st : List PV} {h : PH} {R : PS} (hs : pm_step X (.getstatic 2) len n pc lo st h = some R) : ∃ k r, st = .inr (.inr (some k)) :: r ∧ pm_isStr k = true ∧ R = .inl ((n, pc + len, lo, .inl 0 :: r), h) := by
  match st, hs with
  | [], hs => have hs : (none : Option PS) = some R := hs; cases hs
  | .inl _ :: r, hs => have hs : (none : Option PS) = some R := hs; cases hs
  | .inr (.inl _) :: r, hs => have hs : (none : Option PS) = some R := hs; cases hs
  | .inr (.inr none) :: r, hs => have hs : (none : Option PS) = some R := hs; cases hs
  | .inr (.inr (some k)) :: r, hs =>
    have hs : (if pm_isStr k = true ∧ (h.2.2 k).isNone = true then pm_nx n (pc + len) lo (.inl 0 :: r) h else none) = some R := hs
    split at hs
    · rename_i hk
      cases hs
      exact ⟨k, r, rfl, hk.1, rfl⟩
    · cases hs
theorem id_at3 {X : PX} {len n pc : Nat} {lo : List (Option PV)} {st : List PV} {h : PH} {R : PS} (hs : pm_step X (.invokedynamic 3) len n pc lo st h = some R) : ∃ k r, st = .inr (.inr (some k)) :: r ∧ pcats r ≤ 8 ∧ R = .inl ((n, pc + len, lo, r), h) := by
  match st, hs with
  | [], hs => have hs : (none : Option PS) = some R := hs; cases hs
  | .inl _ :: r, hs => simp [pm_step] at hs
  | .inr (.inl _) :: r, hs => simp [pm_step] at hs
  | .inr (.inr none) :: r, hs => simp [pm_step] at hs
  | .inr (.inr (some k)) :: r, hs =>
    simp only [pm_step] at hs
    split at hs
    · cases hs
      exact ⟨k, r, rfl, by assumption, rfl⟩
    · cases hs
theorem id_at0 {X : PX} {len n pc : Nat} {lo : List (Option PV)} {st : List PV} {h : PH} {R : PS} (hs : pm_step X (.invokedynamic 0) len n pc lo st h = some R) : ∃ (c dp sp : Int) (k1 k0 : Nat) (r : List PV) (a0 a1 : Nat × Nat × (Nat → Int)), st = .inl c :: .inl dp :: .inr (.inr (some k1)) :: .inl sp :: .inr (.inr (some k0)) :: r ∧ h.2.2 k0 = some (.inl a0) ∧ h.2.2 k1 = some (.inl a1) ∧ (a0.1 = a1.1 ∧ (a0.1 = 0 ∨ a0.1 = 3) ∧ 0 ≤ w32 c ∧ 0 ≤ w32 dp ∧ 0 ≤ w32 sp ∧ w32 sp + w32 c ≤ a0.2.1 ∧ w32 dp + w32 c ≤ a1.2.1 ∧ pcats r ≤ 8) ∧ R = .inl ((n, pc + len, lo, r), (h.1, h.2.1, fset h.2.2 k1 (some (.inl (a1.1, a1.2.1, va_cpy a0.2.2 a1.2.2 (w32 sp).toNat (w32 dp).toNat (w32 c).toNat))))) := by
  simp only [pm_step] at hs
  split at hs
  · rename_i c dp k1 sp k0 r _
    split at hs
    · rename_i a0 a1 h0 h1
      split at hs
      · rename_i hc
        cases hs
        exact ⟨c, dp, sp, k1, k0, r, a0, a1, rfl, h0, h1, hc, rfl⟩
      · cases hs
    · cases hs
  · rename_i heq
    exact absurd heq (by omega)
  · cases hs
