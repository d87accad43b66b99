
/-! a heap as a list: what the constructors do -/
abbrev LZ : Type := (Nat × Nat × List (Nat × Int)) ⊕ ((Nat × Nat × List (Nat × Option Nat)) ⊕ (Nat × List PV))
abbrev LZH : Type := Nat × List LZ
def lz_a : List (Nat × Int) → Nat → Int
  | [] => fun _ => 0
  | q :: t => fset (lz_a t) q.1 q.2
def lz_r : List (Nat × Option Nat) → Nat → Option Nat
  | [] => fun _ => none
  | q :: t => fset (lz_r t) q.1 q.2
def lz_up : LZ → PE
  | .inl q => .inl (q.1, q.2.1, lz_a q.2.2)
  | .inr (.inl q) => .inr (.inl (q.1, q.2.1, lz_r q.2.2))
  | .inr (.inr q) => .inr (.inr q)
def lz_h (h : LZH) : PH := (h.2.length, h.1, fun k => (h.2[k]?).map lz_up)
abbrev LZS : Type := (PF × LZH) ⊕ (Option PV ⊕ (Nat × List PV × PF))
def lz_nx (n pc : Nat) (lo : List (Option PV)) (st : List PV) (h : LZH) : Option LZS := some (.inl ((n, pc, lo, st), h))
def lz_step (I : Instr) (len n pc : Nat) (lo : List (Option PV)) (st : List PV) (h : LZH) : Option LZS := match I with
  | .iconst v => lz_nx n (pc + len) lo (.inl v :: st) h
  | .iload i => match lo[i]? with
    | some (some (.inl x)) => lz_nx n (pc + len) lo (.inl x :: st) h
    | _ => none
  | .aload i => match lo[i]? with
    | some (some (.inr (.inr (some x)))) => lz_nx n (pc + len) lo (.inr (.inr (some x)) :: st) h
    | _ => none
  | .istore i => match st with
    | .inl x :: r => if i < lo.length then lz_nx n (pc + len) (pset lo i (.inl x)) r h else none
    | _ => none
  | .astore i => match st with
    | .inr (.inr (some x)) :: r => if i < lo.length then lz_nx n (pc + len) (pset lo i (.inr (.inr (some x)))) r h else none
    | _ => none
  | .iinc i k => match lo[i]? with
    | some (some (.inl x)) => lz_nx n (pc + len) (pset lo i (.inl (x + k))) st h
    | _ => none
  | .dup => match st with
    | v :: r => if pcat v = 1 then lz_nx n (pc + len) lo (v :: v :: r) h else none
    | _ => none
  | .goto t => lz_nx n t.toNat lo st h
  | .if_icmp c t => match st with
    | .inl y :: .inl x :: r => if pm_cond c (w32 x) (w32 y) = true then lz_nx n t.toNat lo r h else lz_nx n (pc + len) lo r h
    | _ => none
  | .getfield e => match st with
    | .inr (.inr (some k)) :: r => match h.2[k]? with
      | some (.inr (.inr (c, fs))) => if c = e / 100 then match fs[e % 100]? with
          | some v => lz_nx n (pc + len) lo (v :: r) h
          | none => none
        else none
      | _ => none
    | _ => none
  | .putfield e => match st with
    | v :: .inr (.inr (some k)) :: r => match h.2[k]? with
      | some (.inr (.inr (c, fs))) => if c = e / 100 ∧ e % 100 < fs.length ∧ pm_okv (pm_fty e) v = true then lz_nx n (pc + len) lo r (h.1, h.2.set k (.inr (.inr (c, fs.set (e % 100) v)))) else none
      | _ => none
    | _ => none
  | .iastore => match st with
    | .inl v :: .inl i :: .inr (.inr (some k)) :: r => match h.2[k]? with
      | some (.inl a) => if a.1 = 0 ∧ pm_idx i a.2.1 = true then lz_nx n (pc + len) lo r (h.1, h.2.set k (.inl (a.1, a.2.1, ((w32 i).toNat, v) :: a.2.2))) else none
      | _ => none
    | _ => none
  | .aastore => match st with
    | .inr (.inr (some v)) :: .inl i :: .inr (.inr (some k)) :: r => match h.2[k]?, h.2[v]? with
      | some (.inr (.inl a)), some (.inr (.inr (c, _))) => if ((a.1 = 4 ∧ c = 7) ∨ (a.1 = 5 ∧ c = 1)) ∧ pm_idx i a.2.1 = true then lz_nx n (pc + len) lo r (h.1, h.2.set k (.inr (.inl (a.1, a.2.1, ((w32 i).toNat, some v) :: a.2.2)))) else none
      | _, _ => none
    | _ => none
  | .new c => if h.2.length < 1000 ∧ h.1 < 1000000 ∧ c < 13 then lz_nx n (pc + len) lo (.inr (.inr (some h.2.length)) :: st) (h.1 + (pm_ftys.getD c []).length, h.2 ++ [.inr (.inr (c, (pm_ftys.getD c []).map pm_dflt))]) else none
  | .newarray t => match st, pm_aty t with
    | .inl v :: r, some ty => if h.2.length < 1000 ∧ h.1 < 1000000 ∧ pm_idx v 1000000 = true then lz_nx n (pc + len) lo (.inr (.inr (some h.2.length)) :: r) (h.1 + (w32 v).toNat, h.2 ++ [.inl (ty, (w32 v).toNat, [])]) else none
    | _, _ => none
  | .anewarray ty => match st with
    | .inl v :: r => if h.2.length < 1000 ∧ h.1 < 1000000 ∧ (ty = 4 ∨ ty = 5) ∧ pm_idx v 1000000 = true then lz_nx n (pc + len) lo (.inr (.inr (some h.2.length)) :: r) (h.1 + (w32 v).toNat, h.2 ++ [.inr (.inl (ty, (w32 v).toNat, []))]) else none
    | _ => none
  | .return_ => match st with
    | [] => if (pm_m n).2.2.2 = 9 then some (.inr (.inl none)) else none
    | _ => none
  | .invokespecial m => match pm_call 2 len n pc lo st (lz_h h) m with
    | some (.inr (.inr q)) => some (.inr (.inr q))
    | _ => none
  | .invokedynamic j => match j, st with
    | 3, .inr (.inr (some _)) :: r => if pcats r ≤ 8 then lz_nx n (pc + len) lo r h else none
    | _, _ => none
  | _ => none
def lz_c : LZS → PS
  | .inl q => .inl (q.1, lz_h q.2)
  | .inr q => .inr q
theorem lz_push (s : Nat) (L : List LZ) (c : LZ) : (L.length + 1, s, fset (fun k => (L[k]?).map lz_up) L.length (some (lz_up c))) = lz_h (s, L ++ [c]) := by
  unfold lz_h
  simp only [List.length_append, List.length_cons, List.length_nil]
  congr 2
  funext k
  unfold fset
  by_cases e : k = L.length
  · subst e
    simp
  · rw [if_neg e]
    show (L[k]?).map lz_up = ((L ++ [c])[k]?).map lz_up
    by_cases g : k < L.length
    · rw [List.getElem?_append_left g]
    · rw [List.getElem?_eq_none (l := L) (by omega), List.getElem?_eq_none (l := L ++ [c]) (by rw [List.length_append]; show L.length + 1 ≤ k; omega)]
theorem lz_set {s : Nat} {L : List LZ} {c : LZ} {k : Nat} (h : k < L.length) : (L.length, s, fset (fun k => (L[k]?).map lz_up) k (some (lz_up c))) = lz_h (s, L.set k c) := by
  unfold lz_h
  simp only [List.length_set]
  congr 2
  funext j
  unfold fset
  by_cases e : j = k
  · subst e
    simp [h]
  · rw [if_neg e, List.getElem?_set_ne (fun g => e g.symm)]
theorem lz_at {h : LZH} {k : Nat} {c : LZ} (e : h.2[k]? = some c) : (lz_h h).2.2 k = some (lz_up c) := by
  show (h.2[k]?).map lz_up = _
  rw [e]; rfl
theorem lz_lt {h : LZH} {k : Nat} {c : LZ} (e : h.2[k]? = some c) : k < h.2.length := (List.getElem?_eq_some_iff.mp e).1
section LZ1
variable {X : PX} {len n pc : Nat} {lo : List (Option PV)} {st r : List PV} {h : LZH}
theorem lz_aastore {v k c : Nat} {i : Int} {a : Nat × Nat × List (Nat × Option Nat)} {fs : List PV} (e1 : h.2[k]? = some (.inr (.inl a))) (e2 : h.2[v]? = some (.inr (.inr (c, fs)))) (hc : ((a.1 = 4 ∧ c = 7) ∨ (a.1 = 5 ∧ c = 1)) ∧ pm_idx i a.2.1 = true) : pm_step X .aastore len n pc lo (.inr (.inr (some v)) :: .inl i :: .inr (.inr (some k)) :: r) (lz_h h) = some (.inl ((n, pc + len, lo, r), lz_h (h.1, h.2.set k (.inr (.inl (a.1, a.2.1, ((w32 i).toNat, some v) :: a.2.2)))))) := by
  simp only [pm_step, pm_nx, lz_at e1, lz_at e2, lz_up]
  rw [if_pos hc, ← lz_set (lz_lt e1)]
  rfl
theorem lz_iastore {k : Nat} {i v : Int} {a : Nat × Nat × List (Nat × Int)} (e1 : h.2[k]? = some (.inl a)) (hc : a.1 = 0 ∧ pm_idx i a.2.1 = true) : pm_step X .iastore len n pc lo (.inl v :: .inl i :: .inr (.inr (some k)) :: r) (lz_h h) = some (.inl ((n, pc + len, lo, r), lz_h (h.1, h.2.set k (.inl (a.1, a.2.1, ((w32 i).toNat, v) :: a.2.2))))) := by
  simp only [pm_step, pm_nx, lz_at e1, lz_up]
  rw [if_pos hc, ← lz_set (lz_lt e1)]
  rfl
theorem lz_getfield {k c e : Nat} {fs : List PV} {v : PV} (e1 : h.2[k]? = some (.inr (.inr (c, fs)))) (hc : c = e / 100) (hv : fs[e % 100]? = some v) : pm_step X (.getfield e) len n pc lo (.inr (.inr (some k)) :: r) (lz_h h) = some (.inl ((n, pc + len, lo, v :: r), lz_h h)) := by
  simp only [pm_step, pm_nx, lz_at e1, lz_up]
  rw [if_pos hc]
  simp only [hv]
theorem lz_putfield {k c e : Nat} {fs : List PV} {v : PV} (e1 : h.2[k]? = some (.inr (.inr (c, fs)))) (hc : c = e / 100 ∧ e % 100 < fs.length ∧ pm_okv (pm_fty e) v = true) : pm_step X (.putfield e) len n pc lo (v :: .inr (.inr (some k)) :: r) (lz_h h) = some (.inl ((n, pc + len, lo, r), lz_h (h.1, h.2.set k (.inr (.inr (c, fs.set (e % 100) v)))))) := by
  simp only [pm_step, pm_nx, lz_at e1, lz_up]
  rw [if_pos hc, ← lz_set (lz_lt e1)]
  rfl
theorem lz_new {c : Nat} (hc : h.2.length < 1000 ∧ h.1 < 1000000 ∧ c < 13) : pm_step X (.new c) len n pc lo st (lz_h h) = some (.inl ((n, pc + len, lo, .inr (.inr (some h.2.length)) :: st), lz_h (h.1 + (pm_ftys.getD c []).length, h.2 ++ [.inr (.inr (c, (pm_ftys.getD c []).map pm_dflt))]))) := by
  rw [← lz_push]
  exact if_pos hc
theorem lz_newarray {t : ArrayType} {ty : Nat} {v : Int} (ht : pm_aty t = some ty) (hc : h.2.length < 1000 ∧ h.1 < 1000000 ∧ pm_idx v 1000000 = true) : pm_step X (.newarray t) len n pc lo (.inl v :: r) (lz_h h) = some (.inl ((n, pc + len, lo, .inr (.inr (some h.2.length)) :: r), lz_h (h.1 + (w32 v).toNat, h.2 ++ [.inl (ty, (w32 v).toNat, [])]))) := by
  rw [← lz_push]
  simp only [pm_step, ht]
  exact if_pos hc
theorem lz_anewarray {ty : Nat} {v : Int} (hc : h.2.length < 1000 ∧ h.1 < 1000000 ∧ (ty = 4 ∨ ty = 5) ∧ pm_idx v 1000000 = true) : pm_step X (.anewarray ty) len n pc lo (.inl v :: r) (lz_h h) = some (.inl ((n, pc + len, lo, .inr (.inr (some h.2.length)) :: r), lz_h (h.1 + (w32 v).toNat, h.2 ++ [.inr (.inl (ty, (w32 v).toNat, []))]))) := by
  rw [← lz_push]
  exact if_pos hc
end LZ1
set_option maxHeartbeats 2000000 in
theorem lz_ok {X : PX} {I : Instr} {len n pc : Nat} {lo : List (Option PV)} {st : List PV} {h : LZH} {r : LZS} (hs : lz_step I len n pc lo st h = some r) : pm_step X I len n pc lo st (lz_h h) = some (lz_c r) := by
  cases I <;> simp only [lz_step, lz_nx] at hs <;> (try (cases hs; done)) <;> (repeat' split at hs) <;> (try (cases hs; done)) <;> cases hs
  all_goals first
    | (simp only [pm_step, pm_nx, lz_c]; done)
    | (simp_all [pm_step, pm_nx, lz_c]; done)
    | exact lz_aastore (by assumption) (by assumption) (by assumption)
    | exact lz_iastore (by assumption) (by assumption)
    | exact lz_getfield (by assumption) (by assumption) (by assumption)
    | exact lz_putfield (by assumption) (by assumption)
    | exact lz_new (by assumption)
    | exact lz_newarray (by assumption) (by assumption)
    | exact lz_anewarray (by assumption)
    | skip
def lz_run : Nat → Nat → PF → LZH → Option (Option PV × LZH)
  | 0, _, _, _ => none
  | f + 1, d, fr, h => match (pm_K fr.1).find? (fun q => Nat.beq q.1 fr.2.1) with
    | none => none
    | some q => match lz_step q.2.1 q.2.2 fr.1 fr.2.1 fr.2.2.1 fr.2.2.2 h with
      | none => none
      | some (.inl (fr', h')) => lz_run f d fr' h'
      | some (.inr (.inl r)) => some (r, h)
      | some (.inr (.inr (m, args, fr'))) => match d with
        | 0 => none
        | d' + 1 => match pm_prim m args with
          | some _ => none
          | none => match lz_run f d' (pm_entry m args) h with
            | none => none
            | some (r, h') => lz_run f (d' + 1) (fr'.1, fr'.2.1, fr'.2.2.1, r.toList ++ fr'.2.2.2) h'
theorem lz_runs {X : PX} : ∀ (f d : Nat) (fr : PF) (h : LZH) (r : Option PV) (h' : LZH), lz_run f d fr h = some (r, h') → pm_run pm_K X f d fr (lz_h h) = some (r, lz_h h') := by
  intro f
  induction f with
  | zero => intro d fr h r h' e; cases e
  | succ f ih =>
    intro d fr h r h' e
    unfold lz_run at e
    unfold pm_run
    split at e
    · cases e
    · rename_i q hq
      rw [hq]
      simp only
      split at e
      · cases e
      · rename_i fr' h1 hs
        rw [lz_ok (X := X) hs]
        exact ih _ _ _ _ _ e
      · rename_i r1 hs
        rw [lz_ok (X := X) hs]
        cases e
        rfl
      · rename_i m args fr' hs
        rw [lz_ok (X := X) hs]
        simp only [lz_c]
        split at e
        · cases e
        · split at e
          · cases e
          · rename_i hp
            rw [hp]
            simp only
            split at e
            · cases e
            · rename_i r1 h1 hc
              rw [ih _ _ _ _ _ hc]
              exact ih _ _ _ _ _ e
theorem lz_ev {X : PX} {f d n : Nat} {args : List PV} {h h' : LZH} {r : Option PV} (e : lz_run f d (pm_entry n args) h = some (r, h')) : Ev X d n args (lz_h h) r (lz_h h') := ⟨f, lz_runs _ _ _ _ _ _ e⟩
