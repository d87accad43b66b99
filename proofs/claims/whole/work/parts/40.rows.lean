/-! rows for what is known of an answer -/
theorem r_callq {X : PX} {d n pc pc0 len b : Nat} {lo : List (Option PV)} {st : List PV} {v : VS} {Q Q0 : Option PV → Nat → VS → Prop} {m n' pc' : Nat} {args : List PV} {lo' : List (Option PV)} {st' : List PV} {I : Instr} (hf : fe n pc = some (pc0, I, len)) (hs : pm_step X I len n pc lo st (hp b v) = some (.inr (.inr (m, args, (n', pc', lo', st'))))) (hp' : pm_prim m args = none) (hc : EvQ X d m args b v Q0) (k : ∀ rr b' v', Q0 rr b' v' → WV X (d + 1) n' pc' lo' (rr.toList ++ st') b' v' Q) : WV X (d + 1) n pc lo st b v Q := by
  obtain ⟨rr, b', v', he, hq⟩ := hc
  exact r_call hf hs hp' he (k _ _ _ hq)
theorem EvV.q {X : PX} {d n b b' : Nat} {args : List PV} {v v' : VS} {r : Option PV} {Q : Option PV → Nat → VS → Prop} (h : EvV X d n args b v r b' v') (hq : Q r b' v') : EvQ X d n args b v Q := ⟨r, b', v', h, hq⟩
theorem EvQ.mono {X : PX} {d n b : Nat} {args : List PV} {v : VS} {Q Q' : Option PV → Nat → VS → Prop} (h : EvQ X d n args b v Q) (hq : ∀ r b v, Q r b v → Q' r b v) : EvQ X d n args b v Q' := by
  obtain ⟨r, b', v', he, h1⟩ := h
  exact ⟨r, b', v', he, hq _ _ _ h1⟩
