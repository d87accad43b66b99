/-! rows over v -/
theorem flds_at : ∀ (fs : List (Nat ⊕ Option Nat)) (w : Nat → Int) (j i : Nat), (flds fs w j)[i]? = match fs[i]? with
    | some (.inl 2) => some (.inr (.inl (w (j + i))))
    | some (.inl _) => some (.inl (w (j + i)))
    | some (.inr r) => some (.inr (.inr r))
    | none => none := by
  intro fs
  induction fs with
  | nil => intro w j i; simp [flds]
  | cons a t ih =>
    intro w j i
    cases i with
    | zero =>
      rcases a with a | a
      · by_cases h : a = 2
        · subst h; rfl
        · rw [show flds (.inl a :: t) w j = .inl (w j) :: flds t w (j + 1) by rw [flds]; exact fun e => h e]
          simp
      · rfl
    | succ i =>
      have e : (flds (a :: t) w j)[i + 1]? = (flds t w (j + 1))[i]? := by
        rcases a with a | a
        · by_cases h : a = 2
          · subst h; rfl
          · rw [show flds (.inl a :: t) w j = .inl (w j) :: flds t w (j + 1) by rw [flds]; exact fun e => h e]
            rfl
        · rfl
      rw [e, ih, List.getElem?_cons_succ, show j + 1 + i = j + (i + 1) by omega]
theorem flds_len : ∀ (fs : List (Nat ⊕ Option Nat)) (w : Nat → Int) (j : Nat), (flds fs w j).length = fs.length := by
  intro fs
  induction fs with
  | nil => intro w j; rfl
  | cons a t ih =>
    intro w j
    rcases a with a | a
    · by_cases h : a = 2
      · subst h; simp [flds, ih]
      · rw [show flds (.inl a :: t) w j = .inl (w j) :: flds t w (j + 1) by rw [flds]; exact fun e => h e]
        simp [ih]
    · simp [flds, ih]
theorem flds_set (fs : List (Nat ⊕ Option Nat)) (w : Nat → Int) (i : Nat) (x : Int) (y : PV) (hy : (fs[i]? = some (.inl 0) ∧ y = .inl x) ∨ (fs[i]? = some (.inl 1) ∧ y = .inl x) ∨ (fs[i]? = some (.inl 2) ∧ y = .inr (.inl x))) : (flds fs w 0).set i y = flds fs (fset w i x) 0 := by
  apply List.ext_getElem?
  intro k
  rw [List.getElem?_set, flds_at, flds_at]
  simp only [Nat.zero_add]
  by_cases hk : i = k
  · subst hk
    have hl : i < fs.length := by rcases hy with ⟨h1, -⟩ | ⟨h1, -⟩ | ⟨h1, -⟩ <;> exact (List.getElem?_eq_some_iff.mp h1).1
    have hf : fset w i x i = x := by unfold fset; rw [if_pos rfl]
    rw [if_pos rfl, flds_len, if_pos hl, hf]
    rcases hy with ⟨h1, rfl⟩ | ⟨h1, rfl⟩ | ⟨h1, rfl⟩ <;> (rw [h1]; rfl)
  · rw [if_neg hk]
    have : ∀ z, fset w i z k = w k := fun z => by unfold fset; rw [if_neg (fun e => hk e.symm)]
    rw [this]
theorem hp_at {b k : Nat} {v : VS} {s : Sh} (h : sh b k = some s) : (hp b v).2.2 k = some (cellOf s (v k)) := by
  show (sh b k).map _ = _
  rw [h]
  rfl
theorem hp_set {b k : Nat} {v : VS} {s : Sh} {w : Nat → Int} (h : sh b k = some s) : ((hp b v).1, (hp b v).2.1, fset (hp b v).2.2 k (some (cellOf s w))) = hp b (fset v k w) := by
  unfold hp
  simp only
  congr 2
  funext j
  by_cases hj : j = k
  · subst hj
    simp [fset, h]
  · simp [fset, hj]
def EvV (X : PX) (d n : Nat) (args : List PV) (b : Nat) (v : VS) (r : Option PV) (b' : Nat) (v' : VS) : Prop := Ev X d n args (hp b v) r (hp b' v')
def WV (X : PX) (d n pc : Nat) (lo : List (Option PV)) (st : List PV) (b : Nat) (v : VS) (Q : Option PV → Nat → VS → Prop) : Prop := Wp X d n pc lo st (hp b v) (fun r h => ∃ b' v', h = hp b' v' ∧ Q r b' v')
def R32 (x : Int) : Prop := -2147483648 ≤ x ∧ x < 2147483648
theorem R32.w {x : Int} (h : R32 x) : w32 x = x := w32_id h.1 h.2
section VR
variable {X : PX} {d n pc pc0 len b : Nat} {lo : List (Option PV)} {st r : List PV} {v : VS} {Q : Option PV → Nat → VS → Prop}
theorem EvV.of {args : List PV} {rr : Option PV} {b' : Nat} {v' : VS} (k : WV X d n 0 (pm_lay args ++ List.replicate ((pm_m n).2.1 - (pm_lay args).length) none) [] b v (fun r1 b1 v1 => r1 = rr ∧ b1 = b' ∧ v1 = v')) : EvV X d n args b v rr b' v' := by
  refine Ev.of (Wp.mono k ?_)
  rintro a h ⟨b1, v1, rfl, rfl, rfl, rfl⟩
  exact ⟨rfl, rfl⟩
theorem r_go {lo' : List (Option PV)} {st' : List PV} {pc' : Nat} {I : Instr} (hf : fe n pc = some (pc0, I, len)) (hs : pm_step X I len n pc lo st (hp b v) = some (.inl ((n, pc', lo', st'), hp b v))) (k : WV X d n pc' lo' st' b v Q) : WV X d n pc lo st b v Q := wp_step hf hs k
theorem r_ret {rr : Option PV} {I : Instr} (hf : fe n pc = some (pc0, I, len)) (hs : pm_step X I len n pc lo st (hp b v) = some (.inr (.inl rr))) (k : Q rr b v) : WV X d n pc lo st b v Q := wp_ret hf hs ⟨b, v, rfl, k⟩
theorem r_call {m n' pc' b' : Nat} {args : List PV} {lo' : List (Option PV)} {st' : List PV} {rr : Option PV} {v' : VS} {I : Instr} (hf : fe n pc = some (pc0, I, len)) (hs : pm_step X I len n pc lo st (hp b v) = some (.inr (.inr (m, args, (n', pc', lo', st'))))) (hp' : pm_prim m args = none) (hc : EvV X d m args b v rr b' v') (k : WV X (d + 1) n' pc' lo' (rr.toList ++ st') b' v' Q) : WV X (d + 1) n pc lo st b v Q := wp_call hf hs hp' hc k
theorem r_prim {m n' pc' : Nat} {args : List PV} {lo' : List (Option PV)} {st' : List PV} {x : PV} {I : Instr} (hf : fe n pc = some (pc0, I, len)) (hs : pm_step X I len n pc lo st (hp b v) = some (.inr (.inr (m, args, (n', pc', lo', st'))))) (hp' : pm_prim m args = some x) (k : WV X (d + 1) n' pc' lo' (x :: st') b v Q) : WV X (d + 1) n pc lo st b v Q := wp_prim hf hs hp' k
theorem r_geti {k c e : Nat} {fs : List (Nat ⊕ Option Nat)} {z : Nat} (hf : fe n pc = some (pc0, .getfield e, len)) (hs : sh b k = some (.inr (.inr (c, fs)))) (hc : c = e / 100) (hj : fs[e % 100]? = some (.inl z)) (hz : z ≠ 2) (kk : WV X d n (pc + len) lo (.inl (v k (e % 100)) :: r) b v Q) : WV X d n pc lo (.inr (.inr (some k)) :: r) b v Q := by
  refine wp_step hf ?_ kk
  have e1 : (flds fs (v k) 0)[e % 100]? = some (.inl (v k (e % 100))) := by
    rw [flds_at, hj]
    simp only [Nat.zero_add]
  simp only [pm_step, pm_nx, hp_at hs, cellOf, hc, if_true, e1]
theorem r_getr {k c e : Nat} {fs : List (Nat ⊕ Option Nat)} {z : Option Nat} (hf : fe n pc = some (pc0, .getfield e, len)) (hs : sh b k = some (.inr (.inr (c, fs)))) (hc : c = e / 100) (hj : fs[e % 100]? = some (.inr z)) (kk : WV X d n (pc + len) lo (.inr (.inr z) :: r) b v Q) : WV X d n pc lo (.inr (.inr (some k)) :: r) b v Q := by
  refine wp_step hf ?_ kk
  have e1 : (flds fs (v k) 0)[e % 100]? = some (.inr (.inr z)) := by
    rw [flds_at, hj]
  simp only [pm_step, pm_nx, hp_at hs, cellOf, hc, if_true, e1]
theorem r_puti {k c e : Nat} {fs : List (Nat ⊕ Option Nat)} {x : Int} {z : Nat} (hf : fe n pc = some (pc0, .putfield e, len)) (hs : sh b k = some (.inr (.inr (c, fs)))) (hc : c = e / 100) (hj : fs[e % 100]? = some (.inl z)) (hz : z = 0 ∨ z = 1) (hok : pm_okv (pm_fty e) (.inl x) = true) (kk : WV X d n (pc + len) lo r b (v2 v k (e % 100) x) Q) : WV X d n pc lo (.inl x :: .inr (.inr (some k)) :: r) b v Q := by
  have hl : e % 100 < (flds fs (v k) 0).length := by rw [flds_len]; exact (List.getElem?_eq_some_iff.mp hj).1
  have e2 : (flds fs (v k) 0).set (e % 100) (.inl x) = flds fs (fset (v k) (e % 100) x) 0 := flds_set fs (v k) (e % 100) x (.inl x) (by rcases hz with rfl | rfl; exact Or.inl ⟨hj, rfl⟩; exact Or.inr (Or.inl ⟨hj, rfl⟩))
  refine wp_step hf (h' := hp b (v2 v k (e % 100) x)) ?_ kk
  simp only [pm_step, pm_nx, hp_at hs, cellOf]
  rw [if_pos ⟨hc, hl, hok⟩, e2]
  have e3 := hp_set (v := v) (w := fset (v k) (e % 100) x) hs
  simp only [cellOf] at e3
  rw [e3]
  rfl
theorem idx_ok {i : Int} {m : Nat} (h0 : 0 ≤ i) (h1 : i < m) (hm : m ≤ 1000000) : pm_idx i m = true ∧ w32 i = i := by
  have e : w32 i = i := w32_id (by omega) (by omega)
  refine ⟨?_, e⟩
  unfold pm_idx
  rw [e]
  simp only [Bool.and_eq_true, decide_eq_true_eq]
  exact ⟨h0, h1⟩
theorem r_iald {k m : Nat} {i : Int} (hf : fe n pc = some (pc0, .iaload, len)) (hs : sh b k = some (.inl (0, m))) (h0 : 0 ≤ i) (h1 : i < m) (hm : m ≤ 1000000) (kk : WV X d n (pc + len) lo (.inl (v k i.toNat) :: r) b v Q) : WV X d n pc lo (.inl i :: .inr (.inr (some k)) :: r) b v Q := by
  obtain ⟨e1, e2⟩ := idx_ok h0 h1 hm
  refine wp_step hf ?_ kk
  simp only [pm_step, pm_nx, pm_arr, hp_at hs, cellOf, e1, e2, and_self, if_true]
theorem r_iast {k m : Nat} {i x : Int} (hf : fe n pc = some (pc0, .iastore, len)) (hs : sh b k = some (.inl (0, m))) (h0 : 0 ≤ i) (h1 : i < m) (hm : m ≤ 1000000) (kk : WV X d n (pc + len) lo r b (v2 v k i.toNat x) Q) : WV X d n pc lo (.inl x :: .inl i :: .inr (.inr (some k)) :: r) b v Q := by
  obtain ⟨e1, e2⟩ := idx_ok h0 h1 hm
  refine wp_step hf (h' := hp b (v2 v k i.toNat x)) ?_ kk
  simp only [pm_step, pm_nx, hp_at hs, cellOf, e1, e2, and_self, if_true]
  have e3 := hp_set (v := v) (w := fset (v k) i.toNat x) hs
  simp only [cellOf] at e3
  rw [e3]
  rfl
theorem r_alen {k m t : Nat} (hf : fe n pc = some (pc0, .arraylength, len)) (hs : sh b k = some (.inl (t, m))) (kk : WV X d n (pc + len) lo (.inl (m : Int) :: r) b v Q) : WV X d n pc lo (.inr (.inr (some k)) :: r) b v Q := by
  refine wp_step hf ?_ kk
  simp only [pm_step, pm_nx, pm_arr, hp_at hs, cellOf]
theorem r_if {c : Jvm.ClassFile.Cond} {t x : Int} (hf : fe n pc = some (pc0, .ifCond c t, len)) (hx : R32 x) (k1 : pm_cond c x 0 = true → WV X d n t.toNat lo r b v Q) (k2 : ¬ pm_cond c x 0 = true → WV X d n (pc + len) lo r b v Q) : WV X d n pc lo (.inl x :: r) b v Q := by
  by_cases hc : pm_cond c x 0 = true
  · refine wp_step hf ?_ (k1 hc)
    simp only [pm_step, pm_nx, hx.w, hc, if_true]
  · refine wp_step hf ?_ (k2 hc)
    simp only [pm_step, pm_nx, hx.w, if_neg hc]
theorem r_ic {c : Jvm.ClassFile.Cond} {t x y : Int} (hf : fe n pc = some (pc0, .if_icmp c t, len)) (hx : R32 x) (hy : R32 y) (k1 : pm_cond c x y = true → WV X d n t.toNat lo r b v Q) (k2 : ¬ pm_cond c x y = true → WV X d n (pc + len) lo r b v Q) : WV X d n pc lo (.inl y :: .inl x :: r) b v Q := by
  by_cases hc : pm_cond c x y = true
  · refine wp_step hf ?_ (k1 hc)
    simp only [pm_step, pm_nx, hx.w, hy.w, hc, if_true]
  · refine wp_step hf ?_ (k2 hc)
    simp only [pm_step, pm_nx, hx.w, hy.w, if_neg hc]
end VR
