/-! runs, step by step -/
theorem run_succ {K : PK} {X : PX} : ∀ (f d : Nat) (fr : PF) (h : PH) (o : Option PV × PH), pm_run K X f d fr h = some o → pm_run K X (f + 1) d fr h = some o := by
  intro f
  induction f with
  | zero => intro d fr h o e; cases e
  | succ f ih =>
    intro d fr h o e
    unfold pm_run at e
    split at e
    · cases e
    · rename_i q hq
      unfold pm_run
      rw [hq]
      simp only
      split at e
      · cases e
      · rename_i fr' h' hs
        exact ih _ _ _ _ e
      · rename_i r hs
        exact e
      · rename_i m args fr' hs
        split at e
        · cases e
        · split at e
          · rename_i v hv
            exact ih _ _ _ _ e
          · rename_i hv
            split at e
            · cases e
            · rename_i r1 h1 hc
              rw [ih _ _ _ _ hc]
              exact ih _ _ _ _ e
theorem run_le {K : PK} {X : PX} {f g d : Nat} {fr : PF} {h : PH} {o : Option PV × PH} (hfg : f ≤ g) (e : pm_run K X f d fr h = some o) : pm_run K X g d fr h = some o := by
  obtain ⟨k, rfl⟩ := Nat.exists_eq_add_of_le hfg
  induction k with
  | zero => exact e
  | succ k ih => exact run_succ _ _ _ _ _ (ih (by omega))
def fe (n pc : Nat) : Option (Nat × Instr × Nat) := (pm_K n).find? (fun q => Nat.beq q.1 pc)
def Ev (X : PX) (d n : Nat) (args : List PV) (h : PH) (r : Option PV) (h' : PH) : Prop := ∃ f, pm_run pm_K X f d (pm_entry n args) h = some (r, h')
def Wp (X : PX) (d n pc : Nat) (lo : List (Option PV)) (st : List PV) (h : PH) (Q : Option PV → PH → Prop) : Prop := ∃ f r h', pm_run pm_K X f d (n, pc, lo, st) h = some (r, h') ∧ Q r h'
section WPS
variable {X : PX} {d n pc pc0 len : Nat} {lo : List (Option PV)} {st r : List PV} {h : PH} {Q : Option PV → PH → Prop} {I : Instr}
theorem Ev.of {args : List PV} {rr : Option PV} {h' : PH} (k : Wp X d n 0 (pm_lay args ++ List.replicate ((pm_m n).2.1 - (pm_lay args).length) none) [] h (fun a b => a = rr ∧ b = h')) : Ev X d n args h rr h' := by
  obtain ⟨f, r1, h1, e, rfl, rfl⟩ := k
  exact ⟨f, e⟩
theorem wp_step {n' pc' : Nat} {lo' : List (Option PV)} {st' : List PV} {h' : PH} (hf : fe n pc = some (pc0, I, len)) (hs : pm_step X I len n pc lo st h = some (.inl ((n', pc', lo', st'), h'))) (k : Wp X d n' pc' lo' st' h' Q) : Wp X d n pc lo st h Q := by
  obtain ⟨f, r1, h1, e, q⟩ := k
  refine ⟨f + 1, r1, h1, ?_, q⟩
  unfold fe at hf
  unfold pm_run
  simp only [hf, hs]
  exact e
theorem wp_ret {rr : Option PV} (hf : fe n pc = some (pc0, I, len)) (hs : pm_step X I len n pc lo st h = some (.inr (.inl rr))) (k : Q rr h) : Wp X d n pc lo st h Q := by
  refine ⟨1, rr, h, ?_, k⟩
  unfold fe at hf
  unfold pm_run
  simp only [hf, hs]
theorem wp_call {m n' pc' : Nat} {args : List PV} {lo' : List (Option PV)} {st' : List PV} {rr : Option PV} {h1 : PH} (hf : fe n pc = some (pc0, I, len)) (hs : pm_step X I len n pc lo st h = some (.inr (.inr (m, args, (n', pc', lo', st'))))) (hp : pm_prim m args = none) (hc : Ev X d m args h rr h1) (k : Wp X (d + 1) n' pc' lo' (rr.toList ++ st') h1 Q) : Wp X (d + 1) n pc lo st h Q := by
  obtain ⟨f1, e1⟩ := hc
  obtain ⟨f2, r2, h2, e2, q⟩ := k
  refine ⟨(f1 + f2) + 1, r2, h2, ?_, q⟩
  unfold fe at hf
  unfold pm_run
  simp only [hf, hs, hp, run_le (Nat.le_add_right f1 f2) e1]
  exact run_le (Nat.le_add_left f2 f1) e2
theorem wp_prim {m n' pc' : Nat} {args : List PV} {lo' : List (Option PV)} {st' : List PV} {v : PV} (hf : fe n pc = some (pc0, I, len)) (hs : pm_step X I len n pc lo st h = some (.inr (.inr (m, args, (n', pc', lo', st'))))) (hp : pm_prim m args = some v) (k : Wp X (d + 1) n' pc' lo' (v :: st') h Q) : Wp X (d + 1) n pc lo st h Q := by
  obtain ⟨f2, r2, h2, e2, q⟩ := k
  refine ⟨f2 + 1, r2, h2, ?_, q⟩
  unfold fe at hf
  unfold pm_run
  simp only [hf, hs, hp]
  exact e2
theorem Wp.mono {Q' : Option PV → PH → Prop} (k : Wp X d n pc lo st h Q) (hq : ∀ a b, Q a b → Q' a b) : Wp X d n pc lo st h Q' := by
  obtain ⟨f, r1, h1, e, q⟩ := k
  exact ⟨f, r1, h1, e, hq _ _ q⟩
end WPS
