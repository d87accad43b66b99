/-! the claim, out of Goal2: the script's numbers are words of 32 bits -/
def Goal2 : Prop := ∀ (L : Nat) (xs : Nat → Int) (fm : Option Nat), L ≤ 3072 → (∀ j, R32 (xs j)) → ∃ (f : Nat) (h' : PH), pm_run pm_K (L, xs, fm) f 13 (pm_entry 329 [.inr (.inr (some 100000))]) h_nil = some (some (.inl 1), h') ∧ h'.2.1 ≤ 7302250
theorem whole_of2 (G : Goal2) {p : Program} {e : Env} {s : State} {m : MethodId} {below : List Frame} {meth : Method} {c : Code} (l : Launch) {b L : Nat} {xs : Nat → Int32} (hL : L ≤ 3072) (C0 : lw_At p s m meth c b L xs) : W p l e room_1 s m #[Value.ref b] below meth c s.heap [] 0 0 (lw_Z below #[Value.ref b] s) (entryFrame m ([Value.ref b] : List Value).toArray 4) := by
  obtain ⟨hx, hb, hr, hml, hown, hts, hX, hbl, hlocks, hgv⟩ := C0
  obtain ⟨D, aC, ad, fm, had, h100, hKK⟩ := start_KK hts hX hgv
  obtain ⟨f, h', hrun, hsl⟩ := G L (fun j => (xs j).toInt) fm hL (fun j => ⟨Int32.le_toInt _, Int32.toInt_lt _⟩)
  have htG : ∀ w ∈ GT, w.before #[Value.ref b] s = true := fun w hw => hts w (List.mem_filter.mp hw).1
  have hH : HR D aC ad s.heap.size s.heap h_nil s.heap := ⟨rfl, Nat.zero_le _, fun q _ => rfl, fun k x hk => by cases hk⟩
  have hname : (pm_y 329).name = "<init>" → meth.name = "<init>" := fun e => absurd e (by decide +kernel)
  have hend : ∀ (pc' len : Nat) (lo' : List (Option PV)) (st' : List PV) (J : Instr), decode (pm_by 329) pc' = .ok (J, len) → pm_ln J len = len → retOK 329 J st' (some (.inl 1)) → Kon p l e room_1 s m #[Value.ref b] below meth c (lw_Z below #[Value.ref b] s) D aC ad s.heap.size s.heap 0 0 4 pc' lo' st' h' := by
    intro pc' len lo' st' J hd hln hret H locs ls hH' hl hq
    rcases hret with ⟨rfl, v, rfl, hv, hok⟩ | ⟨rfl, v, rfl, hv, hk⟩ | ⟨rfl, v, rfl, hv, hk⟩ | ⟨rfl, rfl, hv, hk⟩
    · have hln : 1 = len := hln
      subst hln
      cases hv
      refine va_forget hq ?_
      refine W.widen (k := 600000) (n := 7302250) (by have := hH'.2.1; omega) (by omega) ?_
      exact lw_ret hx hb hr hlocks hd
    · cases hv
    · cases hv
    · cases hv
  have w := sim_run (l := l) (K := pm_K) (X := (L, (fun j => (xs j).toInt), fm)) (D := D) (aC := aC) (ad := ad) (base := s.heap.size) (H0 := s.heap) pm_K_ok had rfl (by rw [h100]; exact hbl) f 13 329 0 _ _ h_nil (some (.inl 1)) h' hrun p e room_1 s m #[Value.ref b] below meth c (lw_Z below #[Value.ref b] s) 0 0 4 hx hb hKK htG hown hml hname rfl (fun q _ => rfl) (by decide) (by decide) (by have := run_cells _ _ _ _ _ _ hrun (Nat.zero_le _); show h'.1 - 0 ≤ 600000; omega) (by show h'.2.1 - 0 ≤ 7302250; omega) (Nat.le_refl _) (Nat.le_refl _) hend s.heap [] _ hH (LR.entry (ad := ad) (n := 4) (args := [.inr (.inr (some 100000))]) (by decide)) (fun q hq => by cases hq)
  rw [lg_entry_eq]
  have e1 : ([.inr (.inr (some 100000))] : List PV).map (up_v ad) = [Value.ref b] := by
    show [Value.ref (ad 100000)] = _
    rw [h100]
  rw [e1] at w
  exact w
