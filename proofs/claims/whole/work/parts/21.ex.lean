/-! many plain steps at once -/
def pm_ex (X : PX) : Nat → PF → PH → Option (PF × PH)
  | 0, fr, h => some (fr, h)
  | k + 1, fr, h => match fe fr.1 fr.2.1 with
    | none => none
    | some q => match pm_step X q.2.1 q.2.2 fr.1 fr.2.1 fr.2.2.1 fr.2.2.2 h with
      | some (.inl (fr', h')) => pm_ex X k fr' h'
      | _ => none
theorem ex_run {X : PX} {d : Nat} {Q : Option PV → PH → Prop} : ∀ (k : Nat) (fr fr' : PF) (h h' : PH), pm_ex X k fr h = some (fr', h') → Wp X d fr'.1 fr'.2.1 fr'.2.2.1 fr'.2.2.2 h' Q → Wp X d fr.1 fr.2.1 fr.2.2.1 fr.2.2.2 h Q := by
  intro k
  induction k with
  | zero => intro fr fr' h h' e w; cases e; exact w
  | succ k ih =>
    intro fr fr' h h' e w
    unfold pm_ex at e
    split at e
    · cases e
    · rename_i q hq
      split at e
      · rename_i fr1 h1 hs
        obtain ⟨n1, pc1, lo1, st1⟩ := fr1
        obtain ⟨n0, pc0, lo0, st0⟩ := fr
        obtain ⟨q1, q2, q3⟩ := q
        exact wp_step hq hs (ih _ _ _ _ e w)
      · cases e
theorem r_ex {X : PX} {d n pc b pc' : Nat} {lo lo' : List (Option PV)} {st st' : List PV} {v : VS} {Q : Option PV → Nat → VS → Prop} (k : Nat) (hs : pm_ex X k (n, pc, lo, st) (hp b v) = some ((n, pc', lo', st'), hp b v)) (kk : WV X d n pc' lo' st' b v Q) : WV X d n pc lo st b v Q := ex_run k _ _ _ _ hs kk
