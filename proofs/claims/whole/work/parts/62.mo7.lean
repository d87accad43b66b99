/-! the reference: bays copied -/
theorem bd210 : (List.range 5).all (fun a => (List.range 5).all (fun b => (List.range 11).all (fun k => decide (bd 210 (11 * b + k) = bd 210 (11 * a + k))))) = true := by decide +kernel
theorem cp210 {v : VS} (hX : XI v) {a b k : Int} (ha : 0 ≤ a ∧ a ≤ 4) (hb : 0 ≤ b ∧ b ≤ 4) (hk : 0 ≤ k ∧ k < 11) : inn (bd 210 (11 * b + k).toNat) (v 210 (11 * a + k).toNat) := by
  have q := of_decide_eq_true (List.all_eq_true.mp (List.all_eq_true.mp (List.all_eq_true.mp bd210 a.toNat (List.mem_range.mpr (by omega))) b.toNat (List.mem_range.mpr (by omega))) k.toNat (List.mem_range.mpr (by omega)))
  rw [show (11 * b + k).toNat = 11 * b.toNat + k.toNat by omega, q, show (11 * a + k).toNat = 11 * a.toNat + k.toNat by omega]
  exact hX 210 _

def mo_cr209_3 : Nat → VS → Int → Int → Int → VS
  | 0, v, i, o, k => v
  | f + 1, v, i, o, k => (if k < 1 then (mo_cr209_3 f (v2 v 209 ((((1 * o) + k)).toNat) (v 209 ((((1 * i) + k)).toNat))) i o (k + 1)) else v)
def mo_cr209 (v : VS) (i : Int) (o : Int) : VS :=
  (mo_cr209_3 2 v i o 0)
theorem l_mo_cr209_3 {X : PX} {d b : Nat} {Q : Option PV → Nat → VS → Prop}  : ∀ (f : Nat) (v : VS) (i : Int) (o : Int) (k : Int), XI v → (0 ≤ k ∧ k ≤ 1) → (0 ≤ i ∧ i ≤ 4) → (0 ≤ o ∧ o ≤ 4) → (1 < k + f) → (XI (mo_cr209_3 f v i o k) → Q none b (mo_cr209_3 f v i o k)) → WV X d 234 3 [some (.inr (.inr (some 209))), some (.inl 1), some (.inl i), some (.inl o), some (.inl k)] [] b v Q := by
  intro f
  induction f with
  | zero =>
    intro v i o k hX hi_0 hi_1 hi_2 hf hQ
    exfalso
    omega
  | succ f ih =>
    intro v i o k hX hi_0 hi_1 hi_2 hf hQ
    rw [mo_cr209_3] at hQ
    refine r_ex 2 (pc' := 6) (lo' := [some (.inr (.inr (some 209))), some (.inl 1), some (.inl i), some (.inl o), some (.inl k)]) (st' := [.inl 1, .inl k]) rfl ?_
    refine n_ic_ge (pc0 := 6) (len := 3) (t := 31) rfl (by first | assumption | omega | (unfold R32 at *; omega) | (unfold R64 at *; omega) | (simp only [R32, R64] at *; omega)) (by first | assumption | omega | (unfold R32 at *; omega) | (unfold R64 at *; omega) | (simp only [R32, R64] at *; omega)) (fun h_6 => ?_) (fun h_6 => ?_)
    · show WV _ _ _ 31 _ _ _ _ _
      rw [if_neg h_6] at hQ
      refine r_ret (rr := none) (I := .return_) (pc0 := 31) (len := 1) rfl rfl ?_
      exact hQ hX 
    · show WV _ _ _ 9 _ _ _ _ _
      rw [if_pos h_6] at hQ
      refine r_ex 12 (pc' := 23) (lo' := [some (.inr (.inr (some 209))), some (.inl 1), some (.inl i), some (.inl o), some (.inl k)]) (st' := [.inl ((1 * i) + k), .inr (.inr (some 209)), .inl ((1 * o) + k), .inr (.inr (some 209))]) rfl ?_
      refine r_iald2 (j := 0) (x := (v 209 ((((1 * i) + k)).toNat))) (pc' := 24) (pc0 := 23) (len := 1) rfl (s_209 _) (by first | assumption | omega | (unfold R32 at *; omega) | (unfold R64 at *; omega) | (simp only [R32, R64] at *; omega)) (by decide) rfl rfl ?_
      have hb_1 : 0 ≤ (v 209 ((((1 * i) + k)).toNat)) ∧ (v 209 ((((1 * i) + k)).toNat)) ≤ 2001 := hX 209 ((((1 * i) + k)).toNat)
      refine r_iast2 (pc' := 25) (pc0 := 24) (len := 1) rfl (s_209 _) (by first | assumption | omega | (unfold R32 at *; omega) | (unfold R64 at *; omega) | (simp only [R32, R64] at *; omega)) (by decide) rfl ?_
      have hX_2 : XI (v2 v 209 ((((1 * o) + k)).toNat) (v 209 ((((1 * i) + k)).toNat))) := XI.put hX (show 0 ≤ (v 209 ((((1 * i) + k)).toNat)) ∧ (v 209 ((((1 * i) + k)).toNat)) ≤ 2001 from (by first | assumption | omega | (unfold R32 at *; omega) | (unfold R64 at *; omega) | (simp only [R32, R64] at *; omega)))
      refine r_ex 2 (pc' := 3) (lo' := [some (.inr (.inr (some 209))), some (.inl 1), some (.inl i), some (.inl o), some (.inl (k + 1))]) (st' := []) rfl ?_
      refine ih (v2 v 209 ((((1 * o) + k)).toNat) (v 209 ((((1 * i) + k)).toNat))) i o (k + 1)  hX_2 (by first | assumption | omega | (unfold R32 at *; omega) | (unfold R64 at *; omega) | (simp only [R32, R64] at *; omega)) (by first | assumption | omega | (unfold R32 at *; omega) | (unfold R64 at *; omega) | (simp only [R32, R64] at *; omega)) (by first | assumption | omega | (unfold R32 at *; omega) | (unfold R64 at *; omega) | (simp only [R32, R64] at *; omega)) (by first | assumption | omega | (unfold R32 at *; omega) | (unfold R64 at *; omega) | (simp only [R32, R64] at *; omega)) hQ

theorem of_mo_cr209_3 {rk : Nat} (hk : (rk < 209 ∨ 209 < rk)) : ∀ (f : Nat) {v : VS} {i : Int} {o : Int} {k : Int}, (mo_cr209_3 f v i o k) rk = v rk := by
  intro f
  induction f with
  | zero => intro v i o k; rfl
  | succ f ih =>
    intro v i o k
    rw [mo_cr209_3]
    by_cases hc_ : k < 1
    · rw [if_pos hc_] <;> clear hc_
      all_goals (rw [ih, v2_row (by omega)])
    · rw [if_neg hc_] <;> clear hc_
      all_goals (show v rk = _)
      all_goals rfl
theorem o_mo_cr209_3 {rk : Nat} {f : Nat} {v : VS} {i : Int} {o : Int} {k : Int} (hk : (rk < 209 ∨ 209 < rk)) : (mo_cr209_3 f v i o k) rk = v rk := of_mo_cr209_3 hk f

theorem w_mo_cr209 {X : PX} {d b : Nat} {v : VS} {i : Int} {o : Int} (hX : XI v) (hp_a : 0 ≤ i ∧ i ≤ 4) (hp_b : 0 ≤ o ∧ o ≤ 4) {Q : Option PV → Nat → VS → Prop} (hQ : XI (mo_cr209 v i o) → Q none b (mo_cr209 v i o)) : WV X d 234 0 [some (.inr (.inr (some 209))), some (.inl 1), some (.inl i), some (.inl o), none] [] b v Q := by
  rw [mo_cr209] at hQ
  refine r_ex 2 (pc' := 3) (lo' := [some (.inr (.inr (some 209))), some (.inl 1), some (.inl i), some (.inl o), some (.inl 0)]) (st' := []) rfl ?_
  exact l_mo_cr209_3 2 v i o 0  hX (by first | assumption | omega | (unfold R32 at *; omega) | (unfold R64 at *; omega) | (simp only [R32, R64] at *; omega)) (by first | assumption | omega | (unfold R32 at *; omega) | (unfold R64 at *; omega) | (simp only [R32, R64] at *; omega)) (by first | assumption | omega | (unfold R32 at *; omega) | (unfold R64 at *; omega) | (simp only [R32, R64] at *; omega)) (by first | assumption | omega | (unfold R32 at *; omega) | (unfold R64 at *; omega) | (simp only [R32, R64] at *; omega)) hQ

theorem e_mo_cr209 {X : PX} {d b : Nat} {v : VS} {i : Int} {o : Int} (hX : XI v) (hp_a : 0 ≤ i ∧ i ≤ 4) (hp_b : 0 ≤ o ∧ o ≤ 4) : EvV X d 234 [.inr (.inr (some 209)), .inl 1, .inl i, .inl o] b v none b (mo_cr209 v i o) := EvV.of (w_mo_cr209 hX hp_a hp_b (fun _ => ⟨rfl, rfl, rfl⟩))

theorem i_mo_cr209 {v : VS} {i : Int} {o : Int} (hX : XI v) (hp_a : 0 ≤ i ∧ i ≤ 4) (hp_b : 0 ≤ o ∧ o ≤ 4) : XI (mo_cr209 v i o) := by
  have q : WV (0, fun _ => 0, none) 0 234 0 [some (.inr (.inr (some 209))), some (.inl 1), some (.inl i), some (.inl o), none] [] 1 v (fun _ _ _ => XI (mo_cr209 v i o)) := w_mo_cr209 (X := (0, fun _ => 0, none)) (d := 0) (b := 1) hX hp_a hp_b (fun q => q)
  obtain ⟨_, _, _, _, _, _, _, q⟩ := q
  exact q

theorem o_mo_cr209 {rk : Nat} {v : VS} {i : Int} {o : Int} (hk : (rk < 209 ∨ 209 < rk)) : (mo_cr209 v i o) rk = v rk := by
  unfold mo_cr209
  all_goals (rw [o_mo_cr209_3 (by omega)])

def mo_cr210_3 : Nat → VS → Int → Int → Int → VS
  | 0, v, i, o, k => v
  | f + 1, v, i, o, k => (if k < 11 then (mo_cr210_3 f (v2 v 210 ((((11 * o) + k)).toNat) (v 210 ((((11 * i) + k)).toNat))) i o (k + 1)) else v)
def mo_cr210 (v : VS) (i : Int) (o : Int) : VS :=
  (mo_cr210_3 12 v i o 0)
theorem l_mo_cr210_3 {X : PX} {d b : Nat} {Q : Option PV → Nat → VS → Prop}  : ∀ (f : Nat) (v : VS) (i : Int) (o : Int) (k : Int), XI v → (0 ≤ k ∧ k ≤ 11) → (0 ≤ i ∧ i ≤ 4) → (0 ≤ o ∧ o ≤ 4) → (11 < k + f) → (XI (mo_cr210_3 f v i o k) → Q none b (mo_cr210_3 f v i o k)) → WV X d 234 3 [some (.inr (.inr (some 210))), some (.inl 11), some (.inl i), some (.inl o), some (.inl k)] [] b v Q := by
  intro f
  induction f with
  | zero =>
    intro v i o k hX hi_0 hi_1 hi_2 hf hQ
    exfalso
    omega
  | succ f ih =>
    intro v i o k hX hi_0 hi_1 hi_2 hf hQ
    rw [mo_cr210_3] at hQ
    refine r_ex 2 (pc' := 6) (lo' := [some (.inr (.inr (some 210))), some (.inl 11), some (.inl i), some (.inl o), some (.inl k)]) (st' := [.inl 11, .inl k]) rfl ?_
    refine n_ic_ge (pc0 := 6) (len := 3) (t := 31) rfl (by first | assumption | omega | (unfold R32 at *; omega) | (unfold R64 at *; omega) | (simp only [R32, R64] at *; omega)) (by first | assumption | omega | (unfold R32 at *; omega) | (unfold R64 at *; omega) | (simp only [R32, R64] at *; omega)) (fun h_6 => ?_) (fun h_6 => ?_)
    · show WV _ _ _ 31 _ _ _ _ _
      rw [if_neg h_6] at hQ
      refine r_ret (rr := none) (I := .return_) (pc0 := 31) (len := 1) rfl rfl ?_
      exact hQ hX 
    · show WV _ _ _ 9 _ _ _ _ _
      rw [if_pos h_6] at hQ
      refine r_ex 12 (pc' := 23) (lo' := [some (.inr (.inr (some 210))), some (.inl 11), some (.inl i), some (.inl o), some (.inl k)]) (st' := [.inl ((11 * i) + k), .inr (.inr (some 210)), .inl ((11 * o) + k), .inr (.inr (some 210))]) rfl ?_
      refine r_iald2 (j := 0) (x := (v 210 ((((11 * i) + k)).toNat))) (pc' := 24) (pc0 := 23) (len := 1) rfl (s_210 _) (by first | assumption | omega | (unfold R32 at *; omega) | (unfold R64 at *; omega) | (simp only [R32, R64] at *; omega)) (by decide) rfl rfl ?_
      refine r_iast2 (pc' := 25) (pc0 := 24) (len := 1) rfl (s_210 _) (by first | assumption | omega | (unfold R32 at *; omega) | (unfold R64 at *; omega) | (simp only [R32, R64] at *; omega)) (by decide) rfl ?_
      have hX_1 : XI (v2 v 210 ((((11 * o) + k)).toNat) (v 210 ((((11 * i) + k)).toNat))) := XI.put hX (cp210 hX (by omega) (by omega) (by omega))
      refine r_ex 2 (pc' := 3) (lo' := [some (.inr (.inr (some 210))), some (.inl 11), some (.inl i), some (.inl o), some (.inl (k + 1))]) (st' := []) rfl ?_
      refine ih (v2 v 210 ((((11 * o) + k)).toNat) (v 210 ((((11 * i) + k)).toNat))) i o (k + 1)  hX_1 (by first | assumption | omega | (unfold R32 at *; omega) | (unfold R64 at *; omega) | (simp only [R32, R64] at *; omega)) (by first | assumption | omega | (unfold R32 at *; omega) | (unfold R64 at *; omega) | (simp only [R32, R64] at *; omega)) (by first | assumption | omega | (unfold R32 at *; omega) | (unfold R64 at *; omega) | (simp only [R32, R64] at *; omega)) (by first | assumption | omega | (unfold R32 at *; omega) | (unfold R64 at *; omega) | (simp only [R32, R64] at *; omega)) hQ

theorem of_mo_cr210_3 {rk : Nat} (hk : (rk < 210 ∨ 210 < rk)) : ∀ (f : Nat) {v : VS} {i : Int} {o : Int} {k : Int}, (mo_cr210_3 f v i o k) rk = v rk := by
  intro f
  induction f with
  | zero => intro v i o k; rfl
  | succ f ih =>
    intro v i o k
    rw [mo_cr210_3]
    by_cases hc_ : k < 11
    · rw [if_pos hc_] <;> clear hc_
      all_goals (rw [ih, v2_row (by omega)])
    · rw [if_neg hc_] <;> clear hc_
      all_goals (show v rk = _)
      all_goals rfl
theorem o_mo_cr210_3 {rk : Nat} {f : Nat} {v : VS} {i : Int} {o : Int} {k : Int} (hk : (rk < 210 ∨ 210 < rk)) : (mo_cr210_3 f v i o k) rk = v rk := of_mo_cr210_3 hk f

theorem w_mo_cr210 {X : PX} {d b : Nat} {v : VS} {i : Int} {o : Int} (hX : XI v) (hp_a : 0 ≤ i ∧ i ≤ 4) (hp_b : 0 ≤ o ∧ o ≤ 4) {Q : Option PV → Nat → VS → Prop} (hQ : XI (mo_cr210 v i o) → Q none b (mo_cr210 v i o)) : WV X d 234 0 [some (.inr (.inr (some 210))), some (.inl 11), some (.inl i), some (.inl o), none] [] b v Q := by
  rw [mo_cr210] at hQ
  refine r_ex 2 (pc' := 3) (lo' := [some (.inr (.inr (some 210))), some (.inl 11), some (.inl i), some (.inl o), some (.inl 0)]) (st' := []) rfl ?_
  exact l_mo_cr210_3 12 v i o 0  hX (by first | assumption | omega | (unfold R32 at *; omega) | (unfold R64 at *; omega) | (simp only [R32, R64] at *; omega)) (by first | assumption | omega | (unfold R32 at *; omega) | (unfold R64 at *; omega) | (simp only [R32, R64] at *; omega)) (by first | assumption | omega | (unfold R32 at *; omega) | (unfold R64 at *; omega) | (simp only [R32, R64] at *; omega)) (by first | assumption | omega | (unfold R32 at *; omega) | (unfold R64 at *; omega) | (simp only [R32, R64] at *; omega)) hQ

theorem e_mo_cr210 {X : PX} {d b : Nat} {v : VS} {i : Int} {o : Int} (hX : XI v) (hp_a : 0 ≤ i ∧ i ≤ 4) (hp_b : 0 ≤ o ∧ o ≤ 4) : EvV X d 234 [.inr (.inr (some 210)), .inl 11, .inl i, .inl o] b v none b (mo_cr210 v i o) := EvV.of (w_mo_cr210 hX hp_a hp_b (fun _ => ⟨rfl, rfl, rfl⟩))

theorem i_mo_cr210 {v : VS} {i : Int} {o : Int} (hX : XI v) (hp_a : 0 ≤ i ∧ i ≤ 4) (hp_b : 0 ≤ o ∧ o ≤ 4) : XI (mo_cr210 v i o) := by
  have q : WV (0, fun _ => 0, none) 0 234 0 [some (.inr (.inr (some 210))), some (.inl 11), some (.inl i), some (.inl o), none] [] 1 v (fun _ _ _ => XI (mo_cr210 v i o)) := w_mo_cr210 (X := (0, fun _ => 0, none)) (d := 0) (b := 1) hX hp_a hp_b (fun q => q)
  obtain ⟨_, _, _, _, _, _, _, q⟩ := q
  exact q

theorem o_mo_cr210 {rk : Nat} {v : VS} {i : Int} {o : Int} (hk : (rk < 210 ∨ 210 < rk)) : (mo_cr210 v i o) rk = v rk := by
  unfold mo_cr210
  all_goals (rw [o_mo_cr210_3 (by omega)])

def mo_cr211_3 : Nat → VS → Int → Int → Int → VS
  | 0, v, i, o, k => v
  | f + 1, v, i, o, k => (if k < 27 then (mo_cr211_3 f (v2 v 211 ((((27 * o) + k)).toNat) (v 211 ((((27 * i) + k)).toNat))) i o (k + 1)) else v)
def mo_cr211 (v : VS) (i : Int) (o : Int) : VS :=
  (mo_cr211_3 28 v i o 0)
theorem l_mo_cr211_3 {X : PX} {d b : Nat} {Q : Option PV → Nat → VS → Prop}  : ∀ (f : Nat) (v : VS) (i : Int) (o : Int) (k : Int), XI v → (0 ≤ k ∧ k ≤ 27) → (0 ≤ i ∧ i ≤ 4) → (0 ≤ o ∧ o ≤ 4) → (CF v) → (27 < k + f) → (XI (mo_cr211_3 f v i o k) → (CF (mo_cr211_3 f v i o k)) → Q none b (mo_cr211_3 f v i o k)) → WV X d 234 3 [some (.inr (.inr (some 211))), some (.inl 27), some (.inl i), some (.inl o), some (.inl k)] [] b v Q := by
  intro f
  induction f with
  | zero =>
    intro v i o k hX hi_0 hi_1 hi_2 hi_3 hf hQ
    exfalso
    omega
  | succ f ih =>
    intro v i o k hX hi_0 hi_1 hi_2 hi_3 hf hQ
    rw [mo_cr211_3] at hQ
    refine r_ex 2 (pc' := 6) (lo' := [some (.inr (.inr (some 211))), some (.inl 27), some (.inl i), some (.inl o), some (.inl k)]) (st' := [.inl 27, .inl k]) rfl ?_
    refine n_ic_ge (pc0 := 6) (len := 3) (t := 31) rfl (by first | assumption | omega | (unfold R32 at *; omega) | (unfold R64 at *; omega) | (simp only [R32, R64] at *; omega)) (by first | assumption | omega | (unfold R32 at *; omega) | (unfold R64 at *; omega) | (simp only [R32, R64] at *; omega)) (fun h_6 => ?_) (fun h_6 => ?_)
    · show WV _ _ _ 31 _ _ _ _ _
      rw [if_neg h_6] at hQ
      refine r_ret (rr := none) (I := .return_) (pc0 := 31) (len := 1) rfl rfl ?_
      exact hQ hX (hi_3)
    · show WV _ _ _ 9 _ _ _ _ _
      rw [if_pos h_6] at hQ
      refine r_ex 12 (pc' := 23) (lo' := [some (.inr (.inr (some 211))), some (.inl 27), some (.inl i), some (.inl o), some (.inl k)]) (st' := [.inl ((27 * i) + k), .inr (.inr (some 211)), .inl ((27 * o) + k), .inr (.inr (some 211))]) rfl ?_
      refine r_iald2 (j := 0) (x := (v 211 ((((27 * i) + k)).toNat))) (pc' := 24) (pc0 := 23) (len := 1) rfl (s_211 _) (by first | assumption | omega | (unfold R32 at *; omega) | (unfold R64 at *; omega) | (simp only [R32, R64] at *; omega)) (by decide) rfl rfl ?_
      have hb_1 : 0 ≤ (v 211 ((((27 * i) + k)).toNat)) ∧ (v 211 ((((27 * i) + k)).toNat)) ≤ 99 := hX 211 ((((27 * i) + k)).toNat)
      have hcf := hi_3.2.2.2 (((27 * i) + k)).toNat (by omega)
      refine r_iast2 (pc' := 25) (pc0 := 24) (len := 1) rfl (s_211 _) (by first | assumption | omega | (unfold R32 at *; omega) | (unfold R64 at *; omega) | (simp only [R32, R64] at *; omega)) (by decide) rfl ?_
      have hX_2 : XI (v2 v 211 ((((27 * o) + k)).toNat) (v 211 ((((27 * i) + k)).toNat))) := XI.put hX (show 0 ≤ (v 211 ((((27 * i) + k)).toNat)) ∧ (v 211 ((((27 * i) + k)).toNat)) ≤ 99 from (by first | assumption | omega | (unfold R32 at *; omega) | (unfold R64 at *; omega) | (simp only [R32, R64] at *; omega)))
      refine r_ex 2 (pc' := 3) (lo' := [some (.inr (.inr (some 211))), some (.inl 27), some (.inl i), some (.inl o), some (.inl (k + 1))]) (st' := []) rfl ?_
      refine ih (v2 v 211 ((((27 * o) + k)).toNat) (v 211 ((((27 * i) + k)).toNat))) i o (k + 1)  hX_2 (by first | assumption | omega | (unfold R32 at *; omega) | (unfold R64 at *; omega) | (simp only [R32, R64] at *; omega)) (by first | assumption | omega | (unfold R32 at *; omega) | (unfold R64 at *; omega) | (simp only [R32, R64] at *; omega)) (by first | assumption | omega | (unfold R32 at *; omega) | (unfold R64 at *; omega) | (simp only [R32, R64] at *; omega)) (show CF (v2 v 211 ((((27 * o) + k)).toNat) (v 211 ((((27 * i) + k)).toNat))) from (show CF (v2 v 211 ((((27 * o) + k)).toNat) (v 211 ((((27 * i) + k)).toNat))) from CF.p211 hi_3 (by omega))) (by first | assumption | omega | (unfold R32 at *; omega) | (unfold R64 at *; omega) | (simp only [R32, R64] at *; omega)) hQ

theorem of_mo_cr211_3 {rk : Nat} (hk : (rk < 211 ∨ 211 < rk)) : ∀ (f : Nat) {v : VS} {i : Int} {o : Int} {k : Int}, (mo_cr211_3 f v i o k) rk = v rk := by
  intro f
  induction f with
  | zero => intro v i o k; rfl
  | succ f ih =>
    intro v i o k
    rw [mo_cr211_3]
    by_cases hc_ : k < 27
    · rw [if_pos hc_] <;> clear hc_
      all_goals (rw [ih, v2_row (by omega)])
    · rw [if_neg hc_] <;> clear hc_
      all_goals (show v rk = _)
      all_goals rfl
theorem o_mo_cr211_3 {rk : Nat} {f : Nat} {v : VS} {i : Int} {o : Int} {k : Int} (hk : (rk < 211 ∨ 211 < rk)) : (mo_cr211_3 f v i o k) rk = v rk := of_mo_cr211_3 hk f

theorem w_mo_cr211 {X : PX} {d b : Nat} {v : VS} {i : Int} {o : Int} (hX : XI v) (hp_a : 0 ≤ i ∧ i ≤ 4) (hp_b : 0 ≤ o ∧ o ≤ 4) (hp_c : CF v) {Q : Option PV → Nat → VS → Prop} (hQ : XI (mo_cr211 v i o) → (CF (mo_cr211 v i o)) → Q none b (mo_cr211 v i o)) : WV X d 234 0 [some (.inr (.inr (some 211))), some (.inl 27), some (.inl i), some (.inl o), none] [] b v Q := by
  rw [mo_cr211] at hQ
  refine r_ex 2 (pc' := 3) (lo' := [some (.inr (.inr (some 211))), some (.inl 27), some (.inl i), some (.inl o), some (.inl 0)]) (st' := []) rfl ?_
  exact l_mo_cr211_3 28 v i o 0  hX (by first | assumption | omega | (unfold R32 at *; omega) | (unfold R64 at *; omega) | (simp only [R32, R64] at *; omega)) (by first | assumption | omega | (unfold R32 at *; omega) | (unfold R64 at *; omega) | (simp only [R32, R64] at *; omega)) (by first | assumption | omega | (unfold R32 at *; omega) | (unfold R64 at *; omega) | (simp only [R32, R64] at *; omega)) (hp_c) (by first | assumption | omega | (unfold R32 at *; omega) | (unfold R64 at *; omega) | (simp only [R32, R64] at *; omega)) hQ

theorem e_mo_cr211 {X : PX} {d b : Nat} {v : VS} {i : Int} {o : Int} (hX : XI v) (hp_a : 0 ≤ i ∧ i ≤ 4) (hp_b : 0 ≤ o ∧ o ≤ 4) (hp_c : CF v) : EvV X d 234 [.inr (.inr (some 211)), .inl 27, .inl i, .inl o] b v none b (mo_cr211 v i o) := EvV.of (w_mo_cr211 hX hp_a hp_b hp_c (fun _ _ => ⟨rfl, rfl, rfl⟩))

theorem i_mo_cr211 {v : VS} {i : Int} {o : Int} (hX : XI v) (hp_a : 0 ≤ i ∧ i ≤ 4) (hp_b : 0 ≤ o ∧ o ≤ 4) (hp_c : CF v) : XI (mo_cr211 v i o) := by
  have q : WV (0, fun _ => 0, none) 0 234 0 [some (.inr (.inr (some 211))), some (.inl 27), some (.inl i), some (.inl o), none] [] 1 v (fun _ _ _ => XI (mo_cr211 v i o)) := w_mo_cr211 (X := (0, fun _ => 0, none)) (d := 0) (b := 1) hX hp_a hp_b hp_c (fun q _ => q)
  obtain ⟨_, _, _, _, _, _, _, q⟩ := q
  exact q

theorem n_mo_cr211 {v : VS} {i : Int} {o : Int} (hX : XI v) (hp_a : 0 ≤ i ∧ i ≤ 4) (hp_b : 0 ≤ o ∧ o ≤ 4) (hp_c : CF v) : CF (mo_cr211 v i o) := by
  have q : WV (0, fun _ => 0, none) 0 234 0 [some (.inr (.inr (some 211))), some (.inl 27), some (.inl i), some (.inl o), none] [] 1 v (fun _ _ _ => CF (mo_cr211 v i o)) := w_mo_cr211 (X := (0, fun _ => 0, none)) (d := 0) (b := 1) hX hp_a hp_b hp_c (fun _ q => q)
  obtain ⟨_, _, _, _, _, _, _, q⟩ := q
  exact q

theorem o_mo_cr211 {rk : Nat} {v : VS} {i : Int} {o : Int} (hk : (rk < 211 ∨ 211 < rk)) : (mo_cr211 v i o) rk = v rk := by
  unfold mo_cr211
  all_goals (rw [o_mo_cr211_3 (by omega)])

def mo_cr212_3 : Nat → VS → Int → Int → Int → VS
  | 0, v, i, o, k => v
  | f + 1, v, i, o, k => (if k < 48 then (mo_cr212_3 f (v2 v 212 ((((48 * o) + k)).toNat) (v 212 ((((48 * i) + k)).toNat))) i o (k + 1)) else v)
def mo_cr212 (v : VS) (i : Int) (o : Int) : VS :=
  (mo_cr212_3 49 v i o 0)
theorem l_mo_cr212_3 {X : PX} {d b : Nat} {Q : Option PV → Nat → VS → Prop}  : ∀ (f : Nat) (v : VS) (i : Int) (o : Int) (k : Int), XI v → (0 ≤ k ∧ k ≤ 48) → (0 ≤ i ∧ i ≤ 4) → (0 ≤ o ∧ o ≤ 4) → (CF v) → (48 < k + f) → (XI (mo_cr212_3 f v i o k) → (CF (mo_cr212_3 f v i o k)) → Q none b (mo_cr212_3 f v i o k)) → WV X d 234 3 [some (.inr (.inr (some 212))), some (.inl 48), some (.inl i), some (.inl o), some (.inl k)] [] b v Q := by
  intro f
  induction f with
  | zero =>
    intro v i o k hX hi_0 hi_1 hi_2 hi_3 hf hQ
    exfalso
    omega
  | succ f ih =>
    intro v i o k hX hi_0 hi_1 hi_2 hi_3 hf hQ
    rw [mo_cr212_3] at hQ
    refine r_ex 2 (pc' := 6) (lo' := [some (.inr (.inr (some 212))), some (.inl 48), some (.inl i), some (.inl o), some (.inl k)]) (st' := [.inl 48, .inl k]) rfl ?_
    refine n_ic_ge (pc0 := 6) (len := 3) (t := 31) rfl (by first | assumption | omega | (unfold R32 at *; omega) | (unfold R64 at *; omega) | (simp only [R32, R64] at *; omega)) (by first | assumption | omega | (unfold R32 at *; omega) | (unfold R64 at *; omega) | (simp only [R32, R64] at *; omega)) (fun h_6 => ?_) (fun h_6 => ?_)
    · show WV _ _ _ 31 _ _ _ _ _
      rw [if_neg h_6] at hQ
      refine r_ret (rr := none) (I := .return_) (pc0 := 31) (len := 1) rfl rfl ?_
      exact hQ hX (hi_3)
    · show WV _ _ _ 9 _ _ _ _ _
      rw [if_pos h_6] at hQ
      refine r_ex 12 (pc' := 23) (lo' := [some (.inr (.inr (some 212))), some (.inl 48), some (.inl i), some (.inl o), some (.inl k)]) (st' := [.inl ((48 * i) + k), .inr (.inr (some 212)), .inl ((48 * o) + k), .inr (.inr (some 212))]) rfl ?_
      refine r_iald2 (j := 0) (x := (v 212 ((((48 * i) + k)).toNat))) (pc' := 24) (pc0 := 23) (len := 1) rfl (s_212 _) (by first | assumption | omega | (unfold R32 at *; omega) | (unfold R64 at *; omega) | (simp only [R32, R64] at *; omega)) (by decide) rfl rfl ?_
      have hb_1 : 0 ≤ (v 212 ((((48 * i) + k)).toNat)) ∧ (v 212 ((((48 * i) + k)).toNat)) ≤ 60 := hX 212 ((((48 * i) + k)).toNat)
      have hcf := hi_3.1 (((48 * i) + k)).toNat (by omega)
      refine r_iast2 (pc' := 25) (pc0 := 24) (len := 1) rfl (s_212 _) (by first | assumption | omega | (unfold R32 at *; omega) | (unfold R64 at *; omega) | (simp only [R32, R64] at *; omega)) (by decide) rfl ?_
      have hX_2 : XI (v2 v 212 ((((48 * o) + k)).toNat) (v 212 ((((48 * i) + k)).toNat))) := XI.put hX (show 0 ≤ (v 212 ((((48 * i) + k)).toNat)) ∧ (v 212 ((((48 * i) + k)).toNat)) ≤ 60 from (by first | assumption | omega | (unfold R32 at *; omega) | (unfold R64 at *; omega) | (simp only [R32, R64] at *; omega)))
      refine r_ex 2 (pc' := 3) (lo' := [some (.inr (.inr (some 212))), some (.inl 48), some (.inl i), some (.inl o), some (.inl (k + 1))]) (st' := []) rfl ?_
      refine ih (v2 v 212 ((((48 * o) + k)).toNat) (v 212 ((((48 * i) + k)).toNat))) i o (k + 1)  hX_2 (by first | assumption | omega | (unfold R32 at *; omega) | (unfold R64 at *; omega) | (simp only [R32, R64] at *; omega)) (by first | assumption | omega | (unfold R32 at *; omega) | (unfold R64 at *; omega) | (simp only [R32, R64] at *; omega)) (by first | assumption | omega | (unfold R32 at *; omega) | (unfold R64 at *; omega) | (simp only [R32, R64] at *; omega)) (show CF (v2 v 212 ((((48 * o) + k)).toNat) (v 212 ((((48 * i) + k)).toNat))) from (show CF (v2 v 212 ((((48 * o) + k)).toNat) (v 212 ((((48 * i) + k)).toNat))) from CF.p212 hi_3 (by omega))) (by first | assumption | omega | (unfold R32 at *; omega) | (unfold R64 at *; omega) | (simp only [R32, R64] at *; omega)) hQ

theorem of_mo_cr212_3 {rk : Nat} (hk : (rk < 212 ∨ 212 < rk)) : ∀ (f : Nat) {v : VS} {i : Int} {o : Int} {k : Int}, (mo_cr212_3 f v i o k) rk = v rk := by
  intro f
  induction f with
  | zero => intro v i o k; rfl
  | succ f ih =>
    intro v i o k
    rw [mo_cr212_3]
    by_cases hc_ : k < 48
    · rw [if_pos hc_] <;> clear hc_
      all_goals (rw [ih, v2_row (by omega)])
    · rw [if_neg hc_] <;> clear hc_
      all_goals (show v rk = _)
      all_goals rfl
theorem o_mo_cr212_3 {rk : Nat} {f : Nat} {v : VS} {i : Int} {o : Int} {k : Int} (hk : (rk < 212 ∨ 212 < rk)) : (mo_cr212_3 f v i o k) rk = v rk := of_mo_cr212_3 hk f

theorem w_mo_cr212 {X : PX} {d b : Nat} {v : VS} {i : Int} {o : Int} (hX : XI v) (hp_a : 0 ≤ i ∧ i ≤ 4) (hp_b : 0 ≤ o ∧ o ≤ 4) (hp_c : CF v) {Q : Option PV → Nat → VS → Prop} (hQ : XI (mo_cr212 v i o) → (CF (mo_cr212 v i o)) → Q none b (mo_cr212 v i o)) : WV X d 234 0 [some (.inr (.inr (some 212))), some (.inl 48), some (.inl i), some (.inl o), none] [] b v Q := by
  rw [mo_cr212] at hQ
  refine r_ex 2 (pc' := 3) (lo' := [some (.inr (.inr (some 212))), some (.inl 48), some (.inl i), some (.inl o), some (.inl 0)]) (st' := []) rfl ?_
  exact l_mo_cr212_3 49 v i o 0  hX (by first | assumption | omega | (unfold R32 at *; omega) | (unfold R64 at *; omega) | (simp only [R32, R64] at *; omega)) (by first | assumption | omega | (unfold R32 at *; omega) | (unfold R64 at *; omega) | (simp only [R32, R64] at *; omega)) (by first | assumption | omega | (unfold R32 at *; omega) | (unfold R64 at *; omega) | (simp only [R32, R64] at *; omega)) (hp_c) (by first | assumption | omega | (unfold R32 at *; omega) | (unfold R64 at *; omega) | (simp only [R32, R64] at *; omega)) hQ

theorem e_mo_cr212 {X : PX} {d b : Nat} {v : VS} {i : Int} {o : Int} (hX : XI v) (hp_a : 0 ≤ i ∧ i ≤ 4) (hp_b : 0 ≤ o ∧ o ≤ 4) (hp_c : CF v) : EvV X d 234 [.inr (.inr (some 212)), .inl 48, .inl i, .inl o] b v none b (mo_cr212 v i o) := EvV.of (w_mo_cr212 hX hp_a hp_b hp_c (fun _ _ => ⟨rfl, rfl, rfl⟩))

theorem i_mo_cr212 {v : VS} {i : Int} {o : Int} (hX : XI v) (hp_a : 0 ≤ i ∧ i ≤ 4) (hp_b : 0 ≤ o ∧ o ≤ 4) (hp_c : CF v) : XI (mo_cr212 v i o) := by
  have q : WV (0, fun _ => 0, none) 0 234 0 [some (.inr (.inr (some 212))), some (.inl 48), some (.inl i), some (.inl o), none] [] 1 v (fun _ _ _ => XI (mo_cr212 v i o)) := w_mo_cr212 (X := (0, fun _ => 0, none)) (d := 0) (b := 1) hX hp_a hp_b hp_c (fun q _ => q)
  obtain ⟨_, _, _, _, _, _, _, q⟩ := q
  exact q

theorem n_mo_cr212 {v : VS} {i : Int} {o : Int} (hX : XI v) (hp_a : 0 ≤ i ∧ i ≤ 4) (hp_b : 0 ≤ o ∧ o ≤ 4) (hp_c : CF v) : CF (mo_cr212 v i o) := by
  have q : WV (0, fun _ => 0, none) 0 234 0 [some (.inr (.inr (some 212))), some (.inl 48), some (.inl i), some (.inl o), none] [] 1 v (fun _ _ _ => CF (mo_cr212 v i o)) := w_mo_cr212 (X := (0, fun _ => 0, none)) (d := 0) (b := 1) hX hp_a hp_b hp_c (fun _ q => q)
  obtain ⟨_, _, _, _, _, _, _, q⟩ := q
  exact q

theorem o_mo_cr212 {rk : Nat} {v : VS} {i : Int} {o : Int} (hk : (rk < 212 ∨ 212 < rk)) : (mo_cr212 v i o) rk = v rk := by
  unfold mo_cr212
  all_goals (rw [o_mo_cr212_3 (by omega)])

def mo_cr213_3 : Nat → VS → Int → Int → Int → VS
  | 0, v, i, o, k => v
  | f + 1, v, i, o, k => (if k < 15 then (mo_cr213_3 f (v2 v 213 ((((15 * o) + k)).toNat) (v 213 ((((15 * i) + k)).toNat))) i o (k + 1)) else v)
def mo_cr213 (v : VS) (i : Int) (o : Int) : VS :=
  (mo_cr213_3 16 v i o 0)
theorem l_mo_cr213_3 {X : PX} {d b : Nat} {Q : Option PV → Nat → VS → Prop}  : ∀ (f : Nat) (v : VS) (i : Int) (o : Int) (k : Int), XI v → (0 ≤ k ∧ k ≤ 15) → (0 ≤ i ∧ i ≤ 4) → (0 ≤ o ∧ o ≤ 4) → (CF v) → (15 < k + f) → (XI (mo_cr213_3 f v i o k) → (CF (mo_cr213_3 f v i o k)) → Q none b (mo_cr213_3 f v i o k)) → WV X d 234 3 [some (.inr (.inr (some 213))), some (.inl 15), some (.inl i), some (.inl o), some (.inl k)] [] b v Q := by
  intro f
  induction f with
  | zero =>
    intro v i o k hX hi_0 hi_1 hi_2 hi_3 hf hQ
    exfalso
    omega
  | succ f ih =>
    intro v i o k hX hi_0 hi_1 hi_2 hi_3 hf hQ
    rw [mo_cr213_3] at hQ
    refine r_ex 2 (pc' := 6) (lo' := [some (.inr (.inr (some 213))), some (.inl 15), some (.inl i), some (.inl o), some (.inl k)]) (st' := [.inl 15, .inl k]) rfl ?_
    refine n_ic_ge (pc0 := 6) (len := 3) (t := 31) rfl (by first | assumption | omega | (unfold R32 at *; omega) | (unfold R64 at *; omega) | (simp only [R32, R64] at *; omega)) (by first | assumption | omega | (unfold R32 at *; omega) | (unfold R64 at *; omega) | (simp only [R32, R64] at *; omega)) (fun h_6 => ?_) (fun h_6 => ?_)
    · show WV _ _ _ 31 _ _ _ _ _
      rw [if_neg h_6] at hQ
      refine r_ret (rr := none) (I := .return_) (pc0 := 31) (len := 1) rfl rfl ?_
      exact hQ hX (hi_3)
    · show WV _ _ _ 9 _ _ _ _ _
      rw [if_pos h_6] at hQ
      refine r_ex 12 (pc' := 23) (lo' := [some (.inr (.inr (some 213))), some (.inl 15), some (.inl i), some (.inl o), some (.inl k)]) (st' := [.inl ((15 * i) + k), .inr (.inr (some 213)), .inl ((15 * o) + k), .inr (.inr (some 213))]) rfl ?_
      refine r_iald2 (j := 0) (x := (v 213 ((((15 * i) + k)).toNat))) (pc' := 24) (pc0 := 23) (len := 1) rfl (s_213 _) (by first | assumption | omega | (unfold R32 at *; omega) | (unfold R64 at *; omega) | (simp only [R32, R64] at *; omega)) (by decide) rfl rfl ?_
      have hb_1 : 0 ≤ (v 213 ((((15 * i) + k)).toNat)) ∧ (v 213 ((((15 * i) + k)).toNat)) ≤ 299 := hX 213 ((((15 * i) + k)).toNat)
      have hcf := hi_3.2.1 (((15 * i) + k)).toNat (by omega)
      refine r_iast2 (pc' := 25) (pc0 := 24) (len := 1) rfl (s_213 _) (by first | assumption | omega | (unfold R32 at *; omega) | (unfold R64 at *; omega) | (simp only [R32, R64] at *; omega)) (by decide) rfl ?_
      have hX_2 : XI (v2 v 213 ((((15 * o) + k)).toNat) (v 213 ((((15 * i) + k)).toNat))) := XI.put hX (show 0 ≤ (v 213 ((((15 * i) + k)).toNat)) ∧ (v 213 ((((15 * i) + k)).toNat)) ≤ 299 from (by first | assumption | omega | (unfold R32 at *; omega) | (unfold R64 at *; omega) | (simp only [R32, R64] at *; omega)))
      refine r_ex 2 (pc' := 3) (lo' := [some (.inr (.inr (some 213))), some (.inl 15), some (.inl i), some (.inl o), some (.inl (k + 1))]) (st' := []) rfl ?_
      refine ih (v2 v 213 ((((15 * o) + k)).toNat) (v 213 ((((15 * i) + k)).toNat))) i o (k + 1)  hX_2 (by first | assumption | omega | (unfold R32 at *; omega) | (unfold R64 at *; omega) | (simp only [R32, R64] at *; omega)) (by first | assumption | omega | (unfold R32 at *; omega) | (unfold R64 at *; omega) | (simp only [R32, R64] at *; omega)) (by first | assumption | omega | (unfold R32 at *; omega) | (unfold R64 at *; omega) | (simp only [R32, R64] at *; omega)) (show CF (v2 v 213 ((((15 * o) + k)).toNat) (v 213 ((((15 * i) + k)).toNat))) from (show CF (v2 v 213 ((((15 * o) + k)).toNat) (v 213 ((((15 * i) + k)).toNat))) from CF.p213 hi_3 (by omega))) (by first | assumption | omega | (unfold R32 at *; omega) | (unfold R64 at *; omega) | (simp only [R32, R64] at *; omega)) hQ

theorem of_mo_cr213_3 {rk : Nat} (hk : (rk < 213 ∨ 213 < rk)) : ∀ (f : Nat) {v : VS} {i : Int} {o : Int} {k : Int}, (mo_cr213_3 f v i o k) rk = v rk := by
  intro f
  induction f with
  | zero => intro v i o k; rfl
  | succ f ih =>
    intro v i o k
    rw [mo_cr213_3]
    by_cases hc_ : k < 15
    · rw [if_pos hc_] <;> clear hc_
      all_goals (rw [ih, v2_row (by omega)])
    · rw [if_neg hc_] <;> clear hc_
      all_goals (show v rk = _)
      all_goals rfl
theorem o_mo_cr213_3 {rk : Nat} {f : Nat} {v : VS} {i : Int} {o : Int} {k : Int} (hk : (rk < 213 ∨ 213 < rk)) : (mo_cr213_3 f v i o k) rk = v rk := of_mo_cr213_3 hk f

theorem w_mo_cr213 {X : PX} {d b : Nat} {v : VS} {i : Int} {o : Int} (hX : XI v) (hp_a : 0 ≤ i ∧ i ≤ 4) (hp_b : 0 ≤ o ∧ o ≤ 4) (hp_c : CF v) {Q : Option PV → Nat → VS → Prop} (hQ : XI (mo_cr213 v i o) → (CF (mo_cr213 v i o)) → Q none b (mo_cr213 v i o)) : WV X d 234 0 [some (.inr (.inr (some 213))), some (.inl 15), some (.inl i), some (.inl o), none] [] b v Q := by
  rw [mo_cr213] at hQ
  refine r_ex 2 (pc' := 3) (lo' := [some (.inr (.inr (some 213))), some (.inl 15), some (.inl i), some (.inl o), some (.inl 0)]) (st' := []) rfl ?_
  exact l_mo_cr213_3 16 v i o 0  hX (by first | assumption | omega | (unfold R32 at *; omega) | (unfold R64 at *; omega) | (simp only [R32, R64] at *; omega)) (by first | assumption | omega | (unfold R32 at *; omega) | (unfold R64 at *; omega) | (simp only [R32, R64] at *; omega)) (by first | assumption | omega | (unfold R32 at *; omega) | (unfold R64 at *; omega) | (simp only [R32, R64] at *; omega)) (hp_c) (by first | assumption | omega | (unfold R32 at *; omega) | (unfold R64 at *; omega) | (simp only [R32, R64] at *; omega)) hQ

theorem e_mo_cr213 {X : PX} {d b : Nat} {v : VS} {i : Int} {o : Int} (hX : XI v) (hp_a : 0 ≤ i ∧ i ≤ 4) (hp_b : 0 ≤ o ∧ o ≤ 4) (hp_c : CF v) : EvV X d 234 [.inr (.inr (some 213)), .inl 15, .inl i, .inl o] b v none b (mo_cr213 v i o) := EvV.of (w_mo_cr213 hX hp_a hp_b hp_c (fun _ _ => ⟨rfl, rfl, rfl⟩))

theorem i_mo_cr213 {v : VS} {i : Int} {o : Int} (hX : XI v) (hp_a : 0 ≤ i ∧ i ≤ 4) (hp_b : 0 ≤ o ∧ o ≤ 4) (hp_c : CF v) : XI (mo_cr213 v i o) := by
  have q : WV (0, fun _ => 0, none) 0 234 0 [some (.inr (.inr (some 213))), some (.inl 15), some (.inl i), some (.inl o), none] [] 1 v (fun _ _ _ => XI (mo_cr213 v i o)) := w_mo_cr213 (X := (0, fun _ => 0, none)) (d := 0) (b := 1) hX hp_a hp_b hp_c (fun q _ => q)
  obtain ⟨_, _, _, _, _, _, _, q⟩ := q
  exact q

theorem n_mo_cr213 {v : VS} {i : Int} {o : Int} (hX : XI v) (hp_a : 0 ≤ i ∧ i ≤ 4) (hp_b : 0 ≤ o ∧ o ≤ 4) (hp_c : CF v) : CF (mo_cr213 v i o) := by
  have q : WV (0, fun _ => 0, none) 0 234 0 [some (.inr (.inr (some 213))), some (.inl 15), some (.inl i), some (.inl o), none] [] 1 v (fun _ _ _ => CF (mo_cr213 v i o)) := w_mo_cr213 (X := (0, fun _ => 0, none)) (d := 0) (b := 1) hX hp_a hp_b hp_c (fun _ q => q)
  obtain ⟨_, _, _, _, _, _, _, q⟩ := q
  exact q

theorem o_mo_cr213 {rk : Nat} {v : VS} {i : Int} {o : Int} (hk : (rk < 213 ∨ 213 < rk)) : (mo_cr213 v i o) rk = v rk := by
  unfold mo_cr213
  all_goals (rw [o_mo_cr213_3 (by omega)])

def mo_cr214_3 : Nat → VS → Int → Int → Int → VS
  | 0, v, i, o, k => v
  | f + 1, v, i, o, k => (if k < 12 then (mo_cr214_3 f (v2 v 214 ((((12 * o) + k)).toNat) (v 214 ((((12 * i) + k)).toNat))) i o (k + 1)) else v)
def mo_cr214 (v : VS) (i : Int) (o : Int) : VS :=
  (mo_cr214_3 13 v i o 0)
theorem l_mo_cr214_3 {X : PX} {d b : Nat} {Q : Option PV → Nat → VS → Prop}  : ∀ (f : Nat) (v : VS) (i : Int) (o : Int) (k : Int), XI v → (0 ≤ k ∧ k ≤ 12) → (0 ≤ i ∧ i ≤ 4) → (0 ≤ o ∧ o ≤ 4) → (CF v) → (12 < k + f) → (XI (mo_cr214_3 f v i o k) → (CF (mo_cr214_3 f v i o k)) → Q none b (mo_cr214_3 f v i o k)) → WV X d 234 3 [some (.inr (.inr (some 214))), some (.inl 12), some (.inl i), some (.inl o), some (.inl k)] [] b v Q := by
  intro f
  induction f with
  | zero =>
    intro v i o k hX hi_0 hi_1 hi_2 hi_3 hf hQ
    exfalso
    omega
  | succ f ih =>
    intro v i o k hX hi_0 hi_1 hi_2 hi_3 hf hQ
    rw [mo_cr214_3] at hQ
    refine r_ex 2 (pc' := 6) (lo' := [some (.inr (.inr (some 214))), some (.inl 12), some (.inl i), some (.inl o), some (.inl k)]) (st' := [.inl 12, .inl k]) rfl ?_
    refine n_ic_ge (pc0 := 6) (len := 3) (t := 31) rfl (by first | assumption | omega | (unfold R32 at *; omega) | (unfold R64 at *; omega) | (simp only [R32, R64] at *; omega)) (by first | assumption | omega | (unfold R32 at *; omega) | (unfold R64 at *; omega) | (simp only [R32, R64] at *; omega)) (fun h_6 => ?_) (fun h_6 => ?_)
    · show WV _ _ _ 31 _ _ _ _ _
      rw [if_neg h_6] at hQ
      refine r_ret (rr := none) (I := .return_) (pc0 := 31) (len := 1) rfl rfl ?_
      exact hQ hX (hi_3)
    · show WV _ _ _ 9 _ _ _ _ _
      rw [if_pos h_6] at hQ
      refine r_ex 12 (pc' := 23) (lo' := [some (.inr (.inr (some 214))), some (.inl 12), some (.inl i), some (.inl o), some (.inl k)]) (st' := [.inl ((12 * i) + k), .inr (.inr (some 214)), .inl ((12 * o) + k), .inr (.inr (some 214))]) rfl ?_
      refine r_iald2 (j := 0) (x := (v 214 ((((12 * i) + k)).toNat))) (pc' := 24) (pc0 := 23) (len := 1) rfl (s_214 _) (by first | assumption | omega | (unfold R32 at *; omega) | (unfold R64 at *; omega) | (simp only [R32, R64] at *; omega)) (by decide) rfl rfl ?_
      have hb_1 : -20 ≤ (v 214 ((((12 * i) + k)).toNat)) ∧ (v 214 ((((12 * i) + k)).toNat)) ≤ 299 := hX 214 ((((12 * i) + k)).toNat)
      have hcf := hi_3.2.2.1 (((12 * i) + k)).toNat (by omega)
      refine r_iast2 (pc' := 25) (pc0 := 24) (len := 1) rfl (s_214 _) (by first | assumption | omega | (unfold R32 at *; omega) | (unfold R64 at *; omega) | (simp only [R32, R64] at *; omega)) (by decide) rfl ?_
      have hX_2 : XI (v2 v 214 ((((12 * o) + k)).toNat) (v 214 ((((12 * i) + k)).toNat))) := XI.put hX (show -20 ≤ (v 214 ((((12 * i) + k)).toNat)) ∧ (v 214 ((((12 * i) + k)).toNat)) ≤ 299 from (by first | assumption | omega | (unfold R32 at *; omega) | (unfold R64 at *; omega) | (simp only [R32, R64] at *; omega)))
      refine r_ex 2 (pc' := 3) (lo' := [some (.inr (.inr (some 214))), some (.inl 12), some (.inl i), some (.inl o), some (.inl (k + 1))]) (st' := []) rfl ?_
      refine ih (v2 v 214 ((((12 * o) + k)).toNat) (v 214 ((((12 * i) + k)).toNat))) i o (k + 1)  hX_2 (by first | assumption | omega | (unfold R32 at *; omega) | (unfold R64 at *; omega) | (simp only [R32, R64] at *; omega)) (by first | assumption | omega | (unfold R32 at *; omega) | (unfold R64 at *; omega) | (simp only [R32, R64] at *; omega)) (by first | assumption | omega | (unfold R32 at *; omega) | (unfold R64 at *; omega) | (simp only [R32, R64] at *; omega)) (show CF (v2 v 214 ((((12 * o) + k)).toNat) (v 214 ((((12 * i) + k)).toNat))) from (show CF (v2 v 214 ((((12 * o) + k)).toNat) (v 214 ((((12 * i) + k)).toNat))) from CF.p214 hi_3 (by omega))) (by first | assumption | omega | (unfold R32 at *; omega) | (unfold R64 at *; omega) | (simp only [R32, R64] at *; omega)) hQ

theorem of_mo_cr214_3 {rk : Nat} (hk : (rk < 214 ∨ 214 < rk)) : ∀ (f : Nat) {v : VS} {i : Int} {o : Int} {k : Int}, (mo_cr214_3 f v i o k) rk = v rk := by
  intro f
  induction f with
  | zero => intro v i o k; rfl
  | succ f ih =>
    intro v i o k
    rw [mo_cr214_3]
    by_cases hc_ : k < 12
    · rw [if_pos hc_] <;> clear hc_
      all_goals (rw [ih, v2_row (by omega)])
    · rw [if_neg hc_] <;> clear hc_
      all_goals (show v rk = _)
      all_goals rfl
theorem o_mo_cr214_3 {rk : Nat} {f : Nat} {v : VS} {i : Int} {o : Int} {k : Int} (hk : (rk < 214 ∨ 214 < rk)) : (mo_cr214_3 f v i o k) rk = v rk := of_mo_cr214_3 hk f

theorem w_mo_cr214 {X : PX} {d b : Nat} {v : VS} {i : Int} {o : Int} (hX : XI v) (hp_a : 0 ≤ i ∧ i ≤ 4) (hp_b : 0 ≤ o ∧ o ≤ 4) (hp_c : CF v) {Q : Option PV → Nat → VS → Prop} (hQ : XI (mo_cr214 v i o) → (CF (mo_cr214 v i o)) → Q none b (mo_cr214 v i o)) : WV X d 234 0 [some (.inr (.inr (some 214))), some (.inl 12), some (.inl i), some (.inl o), none] [] b v Q := by
  rw [mo_cr214] at hQ
  refine r_ex 2 (pc' := 3) (lo' := [some (.inr (.inr (some 214))), some (.inl 12), some (.inl i), some (.inl o), some (.inl 0)]) (st' := []) rfl ?_
  exact l_mo_cr214_3 13 v i o 0  hX (by first | assumption | omega | (unfold R32 at *; omega) | (unfold R64 at *; omega) | (simp only [R32, R64] at *; omega)) (by first | assumption | omega | (unfold R32 at *; omega) | (unfold R64 at *; omega) | (simp only [R32, R64] at *; omega)) (by first | assumption | omega | (unfold R32 at *; omega) | (unfold R64 at *; omega) | (simp only [R32, R64] at *; omega)) (hp_c) (by first | assumption | omega | (unfold R32 at *; omega) | (unfold R64 at *; omega) | (simp only [R32, R64] at *; omega)) hQ

theorem e_mo_cr214 {X : PX} {d b : Nat} {v : VS} {i : Int} {o : Int} (hX : XI v) (hp_a : 0 ≤ i ∧ i ≤ 4) (hp_b : 0 ≤ o ∧ o ≤ 4) (hp_c : CF v) : EvV X d 234 [.inr (.inr (some 214)), .inl 12, .inl i, .inl o] b v none b (mo_cr214 v i o) := EvV.of (w_mo_cr214 hX hp_a hp_b hp_c (fun _ _ => ⟨rfl, rfl, rfl⟩))

theorem i_mo_cr214 {v : VS} {i : Int} {o : Int} (hX : XI v) (hp_a : 0 ≤ i ∧ i ≤ 4) (hp_b : 0 ≤ o ∧ o ≤ 4) (hp_c : CF v) : XI (mo_cr214 v i o) := by
  have q : WV (0, fun _ => 0, none) 0 234 0 [some (.inr (.inr (some 214))), some (.inl 12), some (.inl i), some (.inl o), none] [] 1 v (fun _ _ _ => XI (mo_cr214 v i o)) := w_mo_cr214 (X := (0, fun _ => 0, none)) (d := 0) (b := 1) hX hp_a hp_b hp_c (fun q _ => q)
  obtain ⟨_, _, _, _, _, _, _, q⟩ := q
  exact q

theorem n_mo_cr214 {v : VS} {i : Int} {o : Int} (hX : XI v) (hp_a : 0 ≤ i ∧ i ≤ 4) (hp_b : 0 ≤ o ∧ o ≤ 4) (hp_c : CF v) : CF (mo_cr214 v i o) := by
  have q : WV (0, fun _ => 0, none) 0 234 0 [some (.inr (.inr (some 214))), some (.inl 12), some (.inl i), some (.inl o), none] [] 1 v (fun _ _ _ => CF (mo_cr214 v i o)) := w_mo_cr214 (X := (0, fun _ => 0, none)) (d := 0) (b := 1) hX hp_a hp_b hp_c (fun _ q => q)
  obtain ⟨_, _, _, _, _, _, _, q⟩ := q
  exact q

theorem o_mo_cr214 {rk : Nat} {v : VS} {i : Int} {o : Int} (hk : (rk < 214 ∨ 214 < rk)) : (mo_cr214 v i o) rk = v rk := by
  unfold mo_cr214
  all_goals (rw [o_mo_cr214_3 (by omega)])

def mo_cr215_3 : Nat → VS → Int → Int → Int → VS
  | 0, v, i, o, k => v
  | f + 1, v, i, o, k => (if k < 18 then (mo_cr215_3 f (v2 v 215 ((((18 * o) + k)).toNat) (v 215 ((((18 * i) + k)).toNat))) i o (k + 1)) else v)
def mo_cr215 (v : VS) (i : Int) (o : Int) : VS :=
  (mo_cr215_3 19 v i o 0)
theorem l_mo_cr215_3 {X : PX} {d b : Nat} {Q : Option PV → Nat → VS → Prop}  : ∀ (f : Nat) (v : VS) (i : Int) (o : Int) (k : Int), XI v → (0 ≤ k ∧ k ≤ 18) → (0 ≤ i ∧ i ≤ 4) → (0 ≤ o ∧ o ≤ 4) → (18 < k + f) → (XI (mo_cr215_3 f v i o k) → Q none b (mo_cr215_3 f v i o k)) → WV X d 234 3 [some (.inr (.inr (some 215))), some (.inl 18), some (.inl i), some (.inl o), some (.inl k)] [] b v Q := by
  intro f
  induction f with
  | zero =>
    intro v i o k hX hi_0 hi_1 hi_2 hf hQ
    exfalso
    omega
  | succ f ih =>
    intro v i o k hX hi_0 hi_1 hi_2 hf hQ
    rw [mo_cr215_3] at hQ
    refine r_ex 2 (pc' := 6) (lo' := [some (.inr (.inr (some 215))), some (.inl 18), some (.inl i), some (.inl o), some (.inl k)]) (st' := [.inl 18, .inl k]) rfl ?_
    refine n_ic_ge (pc0 := 6) (len := 3) (t := 31) rfl (by first | assumption | omega | (unfold R32 at *; omega) | (unfold R64 at *; omega) | (simp only [R32, R64] at *; omega)) (by first | assumption | omega | (unfold R32 at *; omega) | (unfold R64 at *; omega) | (simp only [R32, R64] at *; omega)) (fun h_6 => ?_) (fun h_6 => ?_)
    · show WV _ _ _ 31 _ _ _ _ _
      rw [if_neg h_6] at hQ
      refine r_ret (rr := none) (I := .return_) (pc0 := 31) (len := 1) rfl rfl ?_
      exact hQ hX 
    · show WV _ _ _ 9 _ _ _ _ _
      rw [if_pos h_6] at hQ
      refine r_ex 12 (pc' := 23) (lo' := [some (.inr (.inr (some 215))), some (.inl 18), some (.inl i), some (.inl o), some (.inl k)]) (st' := [.inl ((18 * i) + k), .inr (.inr (some 215)), .inl ((18 * o) + k), .inr (.inr (some 215))]) rfl ?_
      refine r_iald2 (j := 0) (x := (v 215 ((((18 * i) + k)).toNat))) (pc' := 24) (pc0 := 23) (len := 1) rfl (s_215 _) (by first | assumption | omega | (unfold R32 at *; omega) | (unfold R64 at *; omega) | (simp only [R32, R64] at *; omega)) (by decide) rfl rfl ?_
      have hb_1 : 0 ≤ (v 215 ((((18 * i) + k)).toNat)) ∧ (v 215 ((((18 * i) + k)).toNat)) ≤ 299 := hX 215 ((((18 * i) + k)).toNat)
      refine r_iast2 (pc' := 25) (pc0 := 24) (len := 1) rfl (s_215 _) (by first | assumption | omega | (unfold R32 at *; omega) | (unfold R64 at *; omega) | (simp only [R32, R64] at *; omega)) (by decide) rfl ?_
      have hX_2 : XI (v2 v 215 ((((18 * o) + k)).toNat) (v 215 ((((18 * i) + k)).toNat))) := XI.put hX (show 0 ≤ (v 215 ((((18 * i) + k)).toNat)) ∧ (v 215 ((((18 * i) + k)).toNat)) ≤ 299 from (by first | assumption | omega | (unfold R32 at *; omega) | (unfold R64 at *; omega) | (simp only [R32, R64] at *; omega)))
      refine r_ex 2 (pc' := 3) (lo' := [some (.inr (.inr (some 215))), some (.inl 18), some (.inl i), some (.inl o), some (.inl (k + 1))]) (st' := []) rfl ?_
      refine ih (v2 v 215 ((((18 * o) + k)).toNat) (v 215 ((((18 * i) + k)).toNat))) i o (k + 1)  hX_2 (by first | assumption | omega | (unfold R32 at *; omega) | (unfold R64 at *; omega) | (simp only [R32, R64] at *; omega)) (by first | assumption | omega | (unfold R32 at *; omega) | (unfold R64 at *; omega) | (simp only [R32, R64] at *; omega)) (by first | assumption | omega | (unfold R32 at *; omega) | (unfold R64 at *; omega) | (simp only [R32, R64] at *; omega)) (by first | assumption | omega | (unfold R32 at *; omega) | (unfold R64 at *; omega) | (simp only [R32, R64] at *; omega)) hQ

theorem of_mo_cr215_3 {rk : Nat} (hk : (rk < 215 ∨ 215 < rk)) : ∀ (f : Nat) {v : VS} {i : Int} {o : Int} {k : Int}, (mo_cr215_3 f v i o k) rk = v rk := by
  intro f
  induction f with
  | zero => intro v i o k; rfl
  | succ f ih =>
    intro v i o k
    rw [mo_cr215_3]
    by_cases hc_ : k < 18
    · rw [if_pos hc_] <;> clear hc_
      all_goals (rw [ih, v2_row (by omega)])
    · rw [if_neg hc_] <;> clear hc_
      all_goals (show v rk = _)
      all_goals rfl
theorem o_mo_cr215_3 {rk : Nat} {f : Nat} {v : VS} {i : Int} {o : Int} {k : Int} (hk : (rk < 215 ∨ 215 < rk)) : (mo_cr215_3 f v i o k) rk = v rk := of_mo_cr215_3 hk f

theorem w_mo_cr215 {X : PX} {d b : Nat} {v : VS} {i : Int} {o : Int} (hX : XI v) (hp_a : 0 ≤ i ∧ i ≤ 4) (hp_b : 0 ≤ o ∧ o ≤ 4) {Q : Option PV → Nat → VS → Prop} (hQ : XI (mo_cr215 v i o) → Q none b (mo_cr215 v i o)) : WV X d 234 0 [some (.inr (.inr (some 215))), some (.inl 18), some (.inl i), some (.inl o), none] [] b v Q := by
  rw [mo_cr215] at hQ
  refine r_ex 2 (pc' := 3) (lo' := [some (.inr (.inr (some 215))), some (.inl 18), some (.inl i), some (.inl o), some (.inl 0)]) (st' := []) rfl ?_
  exact l_mo_cr215_3 19 v i o 0  hX (by first | assumption | omega | (unfold R32 at *; omega) | (unfold R64 at *; omega) | (simp only [R32, R64] at *; omega)) (by first | assumption | omega | (unfold R32 at *; omega) | (unfold R64 at *; omega) | (simp only [R32, R64] at *; omega)) (by first | assumption | omega | (unfold R32 at *; omega) | (unfold R64 at *; omega) | (simp only [R32, R64] at *; omega)) (by first | assumption | omega | (unfold R32 at *; omega) | (unfold R64 at *; omega) | (simp only [R32, R64] at *; omega)) hQ

theorem e_mo_cr215 {X : PX} {d b : Nat} {v : VS} {i : Int} {o : Int} (hX : XI v) (hp_a : 0 ≤ i ∧ i ≤ 4) (hp_b : 0 ≤ o ∧ o ≤ 4) : EvV X d 234 [.inr (.inr (some 215)), .inl 18, .inl i, .inl o] b v none b (mo_cr215 v i o) := EvV.of (w_mo_cr215 hX hp_a hp_b (fun _ => ⟨rfl, rfl, rfl⟩))

theorem i_mo_cr215 {v : VS} {i : Int} {o : Int} (hX : XI v) (hp_a : 0 ≤ i ∧ i ≤ 4) (hp_b : 0 ≤ o ∧ o ≤ 4) : XI (mo_cr215 v i o) := by
  have q : WV (0, fun _ => 0, none) 0 234 0 [some (.inr (.inr (some 215))), some (.inl 18), some (.inl i), some (.inl o), none] [] 1 v (fun _ _ _ => XI (mo_cr215 v i o)) := w_mo_cr215 (X := (0, fun _ => 0, none)) (d := 0) (b := 1) hX hp_a hp_b (fun q => q)
  obtain ⟨_, _, _, _, _, _, _, q⟩ := q
  exact q

theorem o_mo_cr215 {rk : Nat} {v : VS} {i : Int} {o : Int} (hk : (rk < 215 ∨ 215 < rk)) : (mo_cr215 v i o) rk = v rk := by
  unfold mo_cr215
  all_goals (rw [o_mo_cr215_3 (by omega)])

def mo_cr216_3 : Nat → VS → Int → Int → Int → VS
  | 0, v, i, o, k => v
  | f + 1, v, i, o, k => (if k < 18 then (mo_cr216_3 f (v2 v 216 ((((18 * o) + k)).toNat) (v 216 ((((18 * i) + k)).toNat))) i o (k + 1)) else v)
def mo_cr216 (v : VS) (i : Int) (o : Int) : VS :=
  (mo_cr216_3 19 v i o 0)
theorem l_mo_cr216_3 {X : PX} {d b : Nat} {Q : Option PV → Nat → VS → Prop}  : ∀ (f : Nat) (v : VS) (i : Int) (o : Int) (k : Int), XI v → (0 ≤ k ∧ k ≤ 18) → (0 ≤ i ∧ i ≤ 4) → (0 ≤ o ∧ o ≤ 4) → (18 < k + f) → (XI (mo_cr216_3 f v i o k) → Q none b (mo_cr216_3 f v i o k)) → WV X d 234 3 [some (.inr (.inr (some 216))), some (.inl 18), some (.inl i), some (.inl o), some (.inl k)] [] b v Q := by
  intro f
  induction f with
  | zero =>
    intro v i o k hX hi_0 hi_1 hi_2 hf hQ
    exfalso
    omega
  | succ f ih =>
    intro v i o k hX hi_0 hi_1 hi_2 hf hQ
    rw [mo_cr216_3] at hQ
    refine r_ex 2 (pc' := 6) (lo' := [some (.inr (.inr (some 216))), some (.inl 18), some (.inl i), some (.inl o), some (.inl k)]) (st' := [.inl 18, .inl k]) rfl ?_
    refine n_ic_ge (pc0 := 6) (len := 3) (t := 31) rfl (by first | assumption | omega | (unfold R32 at *; omega) | (unfold R64 at *; omega) | (simp only [R32, R64] at *; omega)) (by first | assumption | omega | (unfold R32 at *; omega) | (unfold R64 at *; omega) | (simp only [R32, R64] at *; omega)) (fun h_6 => ?_) (fun h_6 => ?_)
    · show WV _ _ _ 31 _ _ _ _ _
      rw [if_neg h_6] at hQ
      refine r_ret (rr := none) (I := .return_) (pc0 := 31) (len := 1) rfl rfl ?_
      exact hQ hX 
    · show WV _ _ _ 9 _ _ _ _ _
      rw [if_pos h_6] at hQ
      refine r_ex 12 (pc' := 23) (lo' := [some (.inr (.inr (some 216))), some (.inl 18), some (.inl i), some (.inl o), some (.inl k)]) (st' := [.inl ((18 * i) + k), .inr (.inr (some 216)), .inl ((18 * o) + k), .inr (.inr (some 216))]) rfl ?_
      refine r_iald2 (j := 0) (x := (v 216 ((((18 * i) + k)).toNat))) (pc' := 24) (pc0 := 23) (len := 1) rfl (s_216 _) (by first | assumption | omega | (unfold R32 at *; omega) | (unfold R64 at *; omega) | (simp only [R32, R64] at *; omega)) (by decide) rfl rfl ?_
      have hb_1 : 0 ≤ (v 216 ((((18 * i) + k)).toNat)) ∧ (v 216 ((((18 * i) + k)).toNat)) ≤ 299 := hX 216 ((((18 * i) + k)).toNat)
      refine r_iast2 (pc' := 25) (pc0 := 24) (len := 1) rfl (s_216 _) (by first | assumption | omega | (unfold R32 at *; omega) | (unfold R64 at *; omega) | (simp only [R32, R64] at *; omega)) (by decide) rfl ?_
      have hX_2 : XI (v2 v 216 ((((18 * o) + k)).toNat) (v 216 ((((18 * i) + k)).toNat))) := XI.put hX (show 0 ≤ (v 216 ((((18 * i) + k)).toNat)) ∧ (v 216 ((((18 * i) + k)).toNat)) ≤ 299 from (by first | assumption | omega | (unfold R32 at *; omega) | (unfold R64 at *; omega) | (simp only [R32, R64] at *; omega)))
      refine r_ex 2 (pc' := 3) (lo' := [some (.inr (.inr (some 216))), some (.inl 18), some (.inl i), some (.inl o), some (.inl (k + 1))]) (st' := []) rfl ?_
      refine ih (v2 v 216 ((((18 * o) + k)).toNat) (v 216 ((((18 * i) + k)).toNat))) i o (k + 1)  hX_2 (by first | assumption | omega | (unfold R32 at *; omega) | (unfold R64 at *; omega) | (simp only [R32, R64] at *; omega)) (by first | assumption | omega | (unfold R32 at *; omega) | (unfold R64 at *; omega) | (simp only [R32, R64] at *; omega)) (by first | assumption | omega | (unfold R32 at *; omega) | (unfold R64 at *; omega) | (simp only [R32, R64] at *; omega)) (by first | assumption | omega | (unfold R32 at *; omega) | (unfold R64 at *; omega) | (simp only [R32, R64] at *; omega)) hQ

theorem of_mo_cr216_3 {rk : Nat} (hk : (rk < 216 ∨ 216 < rk)) : ∀ (f : Nat) {v : VS} {i : Int} {o : Int} {k : Int}, (mo_cr216_3 f v i o k) rk = v rk := by
  intro f
  induction f with
  | zero => intro v i o k; rfl
  | succ f ih =>
    intro v i o k
    rw [mo_cr216_3]
    by_cases hc_ : k < 18
    · rw [if_pos hc_] <;> clear hc_
      all_goals (rw [ih, v2_row (by omega)])
    · rw [if_neg hc_] <;> clear hc_
      all_goals (show v rk = _)
      all_goals rfl
theorem o_mo_cr216_3 {rk : Nat} {f : Nat} {v : VS} {i : Int} {o : Int} {k : Int} (hk : (rk < 216 ∨ 216 < rk)) : (mo_cr216_3 f v i o k) rk = v rk := of_mo_cr216_3 hk f

theorem w_mo_cr216 {X : PX} {d b : Nat} {v : VS} {i : Int} {o : Int} (hX : XI v) (hp_a : 0 ≤ i ∧ i ≤ 4) (hp_b : 0 ≤ o ∧ o ≤ 4) {Q : Option PV → Nat → VS → Prop} (hQ : XI (mo_cr216 v i o) → Q none b (mo_cr216 v i o)) : WV X d 234 0 [some (.inr (.inr (some 216))), some (.inl 18), some (.inl i), some (.inl o), none] [] b v Q := by
  rw [mo_cr216] at hQ
  refine r_ex 2 (pc' := 3) (lo' := [some (.inr (.inr (some 216))), some (.inl 18), some (.inl i), some (.inl o), some (.inl 0)]) (st' := []) rfl ?_
  exact l_mo_cr216_3 19 v i o 0  hX (by first | assumption | omega | (unfold R32 at *; omega) | (unfold R64 at *; omega) | (simp only [R32, R64] at *; omega)) (by first | assumption | omega | (unfold R32 at *; omega) | (unfold R64 at *; omega) | (simp only [R32, R64] at *; omega)) (by first | assumption | omega | (unfold R32 at *; omega) | (unfold R64 at *; omega) | (simp only [R32, R64] at *; omega)) (by first | assumption | omega | (unfold R32 at *; omega) | (unfold R64 at *; omega) | (simp only [R32, R64] at *; omega)) hQ

theorem e_mo_cr216 {X : PX} {d b : Nat} {v : VS} {i : Int} {o : Int} (hX : XI v) (hp_a : 0 ≤ i ∧ i ≤ 4) (hp_b : 0 ≤ o ∧ o ≤ 4) : EvV X d 234 [.inr (.inr (some 216)), .inl 18, .inl i, .inl o] b v none b (mo_cr216 v i o) := EvV.of (w_mo_cr216 hX hp_a hp_b (fun _ => ⟨rfl, rfl, rfl⟩))

theorem i_mo_cr216 {v : VS} {i : Int} {o : Int} (hX : XI v) (hp_a : 0 ≤ i ∧ i ≤ 4) (hp_b : 0 ≤ o ∧ o ≤ 4) : XI (mo_cr216 v i o) := by
  have q : WV (0, fun _ => 0, none) 0 234 0 [some (.inr (.inr (some 216))), some (.inl 18), some (.inl i), some (.inl o), none] [] 1 v (fun _ _ _ => XI (mo_cr216 v i o)) := w_mo_cr216 (X := (0, fun _ => 0, none)) (d := 0) (b := 1) hX hp_a hp_b (fun q => q)
  obtain ⟨_, _, _, _, _, _, _, q⟩ := q
  exact q

theorem o_mo_cr216 {rk : Nat} {v : VS} {i : Int} {o : Int} (hk : (rk < 216 ∨ 216 < rk)) : (mo_cr216 v i o) rk = v rk := by
  unfold mo_cr216
  all_goals (rw [o_mo_cr216_3 (by omega)])

def mo_cr217_3 : Nat → VS → Int → Int → Int → VS
  | 0, v, i, o, k => v
  | f + 1, v, i, o, k => (if k < 18 then (mo_cr217_3 f (v2 v 217 ((((18 * o) + k)).toNat) (v 217 ((((18 * i) + k)).toNat))) i o (k + 1)) else v)
def mo_cr217 (v : VS) (i : Int) (o : Int) : VS :=
  (mo_cr217_3 19 v i o 0)
theorem l_mo_cr217_3 {X : PX} {d b : Nat} {Q : Option PV → Nat → VS → Prop}  : ∀ (f : Nat) (v : VS) (i : Int) (o : Int) (k : Int), XI v → (0 ≤ k ∧ k ≤ 18) → (0 ≤ i ∧ i ≤ 4) → (0 ≤ o ∧ o ≤ 4) → (18 < k + f) → (XI (mo_cr217_3 f v i o k) → Q none b (mo_cr217_3 f v i o k)) → WV X d 234 3 [some (.inr (.inr (some 217))), some (.inl 18), some (.inl i), some (.inl o), some (.inl k)] [] b v Q := by
  intro f
  induction f with
  | zero =>
    intro v i o k hX hi_0 hi_1 hi_2 hf hQ
    exfalso
    omega
  | succ f ih =>
    intro v i o k hX hi_0 hi_1 hi_2 hf hQ
    rw [mo_cr217_3] at hQ
    refine r_ex 2 (pc' := 6) (lo' := [some (.inr (.inr (some 217))), some (.inl 18), some (.inl i), some (.inl o), some (.inl k)]) (st' := [.inl 18, .inl k]) rfl ?_
    refine n_ic_ge (pc0 := 6) (len := 3) (t := 31) rfl (by first | assumption | omega | (unfold R32 at *; omega) | (unfold R64 at *; omega) | (simp only [R32, R64] at *; omega)) (by first | assumption | omega | (unfold R32 at *; omega) | (unfold R64 at *; omega) | (simp only [R32, R64] at *; omega)) (fun h_6 => ?_) (fun h_6 => ?_)
    · show WV _ _ _ 31 _ _ _ _ _
      rw [if_neg h_6] at hQ
      refine r_ret (rr := none) (I := .return_) (pc0 := 31) (len := 1) rfl rfl ?_
      exact hQ hX 
    · show WV _ _ _ 9 _ _ _ _ _
      rw [if_pos h_6] at hQ
      refine r_ex 12 (pc' := 23) (lo' := [some (.inr (.inr (some 217))), some (.inl 18), some (.inl i), some (.inl o), some (.inl k)]) (st' := [.inl ((18 * i) + k), .inr (.inr (some 217)), .inl ((18 * o) + k), .inr (.inr (some 217))]) rfl ?_
      refine r_iald2 (j := 0) (x := (v 217 ((((18 * i) + k)).toNat))) (pc' := 24) (pc0 := 23) (len := 1) rfl (s_217 _) (by first | assumption | omega | (unfold R32 at *; omega) | (unfold R64 at *; omega) | (simp only [R32, R64] at *; omega)) (by decide) rfl rfl ?_
      have hb_1 : 0 ≤ (v 217 ((((18 * i) + k)).toNat)) ∧ (v 217 ((((18 * i) + k)).toNat)) ≤ 299 := hX 217 ((((18 * i) + k)).toNat)
      refine r_iast2 (pc' := 25) (pc0 := 24) (len := 1) rfl (s_217 _) (by first | assumption | omega | (unfold R32 at *; omega) | (unfold R64 at *; omega) | (simp only [R32, R64] at *; omega)) (by decide) rfl ?_
      have hX_2 : XI (v2 v 217 ((((18 * o) + k)).toNat) (v 217 ((((18 * i) + k)).toNat))) := XI.put hX (show 0 ≤ (v 217 ((((18 * i) + k)).toNat)) ∧ (v 217 ((((18 * i) + k)).toNat)) ≤ 299 from (by first | assumption | omega | (unfold R32 at *; omega) | (unfold R64 at *; omega) | (simp only [R32, R64] at *; omega)))
      refine r_ex 2 (pc' := 3) (lo' := [some (.inr (.inr (some 217))), some (.inl 18), some (.inl i), some (.inl o), some (.inl (k + 1))]) (st' := []) rfl ?_
      refine ih (v2 v 217 ((((18 * o) + k)).toNat) (v 217 ((((18 * i) + k)).toNat))) i o (k + 1)  hX_2 (by first | assumption | omega | (unfold R32 at *; omega) | (unfold R64 at *; omega) | (simp only [R32, R64] at *; omega)) (by first | assumption | omega | (unfold R32 at *; omega) | (unfold R64 at *; omega) | (simp only [R32, R64] at *; omega)) (by first | assumption | omega | (unfold R32 at *; omega) | (unfold R64 at *; omega) | (simp only [R32, R64] at *; omega)) (by first | assumption | omega | (unfold R32 at *; omega) | (unfold R64 at *; omega) | (simp only [R32, R64] at *; omega)) hQ

theorem of_mo_cr217_3 {rk : Nat} (hk : (rk < 217 ∨ 217 < rk)) : ∀ (f : Nat) {v : VS} {i : Int} {o : Int} {k : Int}, (mo_cr217_3 f v i o k) rk = v rk := by
  intro f
  induction f with
  | zero => intro v i o k; rfl
  | succ f ih =>
    intro v i o k
    rw [mo_cr217_3]
    by_cases hc_ : k < 18
    · rw [if_pos hc_] <;> clear hc_
      all_goals (rw [ih, v2_row (by omega)])
    · rw [if_neg hc_] <;> clear hc_
      all_goals (show v rk = _)
      all_goals rfl
theorem o_mo_cr217_3 {rk : Nat} {f : Nat} {v : VS} {i : Int} {o : Int} {k : Int} (hk : (rk < 217 ∨ 217 < rk)) : (mo_cr217_3 f v i o k) rk = v rk := of_mo_cr217_3 hk f

theorem w_mo_cr217 {X : PX} {d b : Nat} {v : VS} {i : Int} {o : Int} (hX : XI v) (hp_a : 0 ≤ i ∧ i ≤ 4) (hp_b : 0 ≤ o ∧ o ≤ 4) {Q : Option PV → Nat → VS → Prop} (hQ : XI (mo_cr217 v i o) → Q none b (mo_cr217 v i o)) : WV X d 234 0 [some (.inr (.inr (some 217))), some (.inl 18), some (.inl i), some (.inl o), none] [] b v Q := by
  rw [mo_cr217] at hQ
  refine r_ex 2 (pc' := 3) (lo' := [some (.inr (.inr (some 217))), some (.inl 18), some (.inl i), some (.inl o), some (.inl 0)]) (st' := []) rfl ?_
  exact l_mo_cr217_3 19 v i o 0  hX (by first | assumption | omega | (unfold R32 at *; omega) | (unfold R64 at *; omega) | (simp only [R32, R64] at *; omega)) (by first | assumption | omega | (unfold R32 at *; omega) | (unfold R64 at *; omega) | (simp only [R32, R64] at *; omega)) (by first | assumption | omega | (unfold R32 at *; omega) | (unfold R64 at *; omega) | (simp only [R32, R64] at *; omega)) (by first | assumption | omega | (unfold R32 at *; omega) | (unfold R64 at *; omega) | (simp only [R32, R64] at *; omega)) hQ

theorem e_mo_cr217 {X : PX} {d b : Nat} {v : VS} {i : Int} {o : Int} (hX : XI v) (hp_a : 0 ≤ i ∧ i ≤ 4) (hp_b : 0 ≤ o ∧ o ≤ 4) : EvV X d 234 [.inr (.inr (some 217)), .inl 18, .inl i, .inl o] b v none b (mo_cr217 v i o) := EvV.of (w_mo_cr217 hX hp_a hp_b (fun _ => ⟨rfl, rfl, rfl⟩))

theorem i_mo_cr217 {v : VS} {i : Int} {o : Int} (hX : XI v) (hp_a : 0 ≤ i ∧ i ≤ 4) (hp_b : 0 ≤ o ∧ o ≤ 4) : XI (mo_cr217 v i o) := by
  have q : WV (0, fun _ => 0, none) 0 234 0 [some (.inr (.inr (some 217))), some (.inl 18), some (.inl i), some (.inl o), none] [] 1 v (fun _ _ _ => XI (mo_cr217 v i o)) := w_mo_cr217 (X := (0, fun _ => 0, none)) (d := 0) (b := 1) hX hp_a hp_b (fun q => q)
  obtain ⟨_, _, _, _, _, _, _, q⟩ := q
  exact q

theorem o_mo_cr217 {rk : Nat} {v : VS} {i : Int} {o : Int} (hk : (rk < 217 ∨ 217 < rk)) : (mo_cr217 v i o) rk = v rk := by
  unfold mo_cr217
  all_goals (rw [o_mo_cr217_3 (by omega)])

def mo_copyBay (v : VS) (i : Int) (o : Int) : VS :=
  (mo_cr217 (mo_cr216 (mo_cr215 (mo_cr214 (mo_cr213 (mo_cr212 (mo_cr211 (mo_cr210 (mo_cr209 v i o) i o) i o) i o) i o) i o) i o) i o) i o)
theorem w_mo_copyBay {X : PX} {d b : Nat} {v : VS} {i : Int} {o : Int} (hX : XI v) (hp_a : 0 ≤ i ∧ i ≤ 4) (hp_b : 0 ≤ o ∧ o ≤ 4) (hp_c : CF v) {Q : Option PV → Nat → VS → Prop} (hQ : XI (mo_copyBay v i o) → (CF (mo_copyBay v i o)) → Q none b (mo_copyBay v i o)) : WV X (d + 1) 233 0 [some (.inr (.inr (some 203))), some (.inl i), some (.inl o)] [] b v Q := by
  rw [mo_copyBay] at hQ
  refine r_ex 5 (pc' := 7) (lo' := [some (.inr (.inr (some 203))), some (.inl i), some (.inl o)]) (st' := [.inl o, .inl i, .inl 1, .inr (.inr (some 209))]) rfl ?_
  have hp_1 : 0 ≤ i ∧ i ≤ 4 := (by first | assumption | omega | (unfold R32 at *; omega) | (unfold R64 at *; omega) | (simp only [R32, R64] at *; omega))
  have hp_2 : 0 ≤ o ∧ o ≤ 4 := (by first | assumption | omega | (unfold R32 at *; omega) | (unfold R64 at *; omega) | (simp only [R32, R64] at *; omega))
  refine r_call (m := 234) (args := [.inr (.inr (some 209)), .inl 1, .inl i, .inl o]) (n' := 233) (pc' := 10) (lo' := [some (.inr (.inr (some 203))), some (.inl i), some (.inl o)]) (st' := []) (I := .invokestatic 234) (pc0 := 7) (len := 3) rfl rfl rfl (e_mo_cr209 hX hp_1 hp_2) ?_
  show WV _ _ _ 10 _ [] _ (mo_cr209 v i o) _
  have hX_3 : XI (mo_cr209 v i o) := i_mo_cr209 (v := v) (i := i) (o := o) hX hp_1 hp_2
  refine r_ex 5 (pc' := 18) (lo' := [some (.inr (.inr (some 203))), some (.inl i), some (.inl o)]) (st' := [.inl o, .inl i, .inl 11, .inr (.inr (some 210))]) rfl ?_
  have hp_4 : 0 ≤ i ∧ i ≤ 4 := (by first | assumption | omega | (unfold R32 at *; omega) | (unfold R64 at *; omega) | (simp only [R32, R64] at *; omega))
  have hp_5 : 0 ≤ o ∧ o ≤ 4 := (by first | assumption | omega | (unfold R32 at *; omega) | (unfold R64 at *; omega) | (simp only [R32, R64] at *; omega))
  refine r_call (m := 234) (args := [.inr (.inr (some 210)), .inl 11, .inl i, .inl o]) (n' := 233) (pc' := 21) (lo' := [some (.inr (.inr (some 203))), some (.inl i), some (.inl o)]) (st' := []) (I := .invokestatic 234) (pc0 := 18) (len := 3) rfl rfl rfl (e_mo_cr210 hX_3 hp_4 hp_5) ?_
  show WV _ _ _ 21 _ [] _ (mo_cr210 (mo_cr209 v i o) i o) _
  have hX_6 : XI (mo_cr210 (mo_cr209 v i o) i o) := i_mo_cr210 (v := (mo_cr209 v i o)) (i := i) (o := o) hX_3 hp_4 hp_5
  refine r_ex 5 (pc' := 29) (lo' := [some (.inr (.inr (some 203))), some (.inl i), some (.inl o)]) (st' := [.inl o, .inl i, .inl 27, .inr (.inr (some 211))]) rfl ?_
  have hp_7 : 0 ≤ i ∧ i ≤ 4 := (by first | assumption | omega | (unfold R32 at *; omega) | (unfold R64 at *; omega) | (simp only [R32, R64] at *; omega))
  have hp_8 : 0 ≤ o ∧ o ≤ 4 := (by first | assumption | omega | (unfold R32 at *; omega) | (unfold R64 at *; omega) | (simp only [R32, R64] at *; omega))
  have hp_9 : CF (mo_cr210 (mo_cr209 v i o) i o) := show CF (mo_cr210 (mo_cr209 v i o) i o) from (show CF (mo_cr210 (mo_cr209 v i o) i o) from CF.of hp_c (fun k h1 h2 => by rw [o_mo_cr210 (by omega), o_mo_cr209 (by omega)]))
  refine r_call (m := 234) (args := [.inr (.inr (some 211)), .inl 27, .inl i, .inl o]) (n' := 233) (pc' := 32) (lo' := [some (.inr (.inr (some 203))), some (.inl i), some (.inl o)]) (st' := []) (I := .invokestatic 234) (pc0 := 29) (len := 3) rfl rfl rfl (e_mo_cr211 hX_6 hp_7 hp_8 hp_9) ?_
  show WV _ _ _ 32 _ [] _ (mo_cr211 (mo_cr210 (mo_cr209 v i o) i o) i o) _
  have hX_10 : XI (mo_cr211 (mo_cr210 (mo_cr209 v i o) i o) i o) := i_mo_cr211 (v := (mo_cr210 (mo_cr209 v i o) i o)) (i := i) (o := o) hX_6 hp_7 hp_8 hp_9
  have hl_11 := n_mo_cr211 (v := (mo_cr210 (mo_cr209 v i o) i o)) (i := i) (o := o) hX_6 hp_7 hp_8 hp_9
  refine r_ex 5 (pc' := 40) (lo' := [some (.inr (.inr (some 203))), some (.inl i), some (.inl o)]) (st' := [.inl o, .inl i, .inl 48, .inr (.inr (some 212))]) rfl ?_
  have hp_12 : 0 ≤ i ∧ i ≤ 4 := (by first | assumption | omega | (unfold R32 at *; omega) | (unfold R64 at *; omega) | (simp only [R32, R64] at *; omega))
  have hp_13 : 0 ≤ o ∧ o ≤ 4 := (by first | assumption | omega | (unfold R32 at *; omega) | (unfold R64 at *; omega) | (simp only [R32, R64] at *; omega))
  have hp_14 : CF (mo_cr211 (mo_cr210 (mo_cr209 v i o) i o) i o) := hl_11
  refine r_call (m := 234) (args := [.inr (.inr (some 212)), .inl 48, .inl i, .inl o]) (n' := 233) (pc' := 43) (lo' := [some (.inr (.inr (some 203))), some (.inl i), some (.inl o)]) (st' := []) (I := .invokestatic 234) (pc0 := 40) (len := 3) rfl rfl rfl (e_mo_cr212 hX_10 hp_12 hp_13 hp_14) ?_
  show WV _ _ _ 43 _ [] _ (mo_cr212 (mo_cr211 (mo_cr210 (mo_cr209 v i o) i o) i o) i o) _
  have hX_15 : XI (mo_cr212 (mo_cr211 (mo_cr210 (mo_cr209 v i o) i o) i o) i o) := i_mo_cr212 (v := (mo_cr211 (mo_cr210 (mo_cr209 v i o) i o) i o)) (i := i) (o := o) hX_10 hp_12 hp_13 hp_14
  have hl_16 := n_mo_cr212 (v := (mo_cr211 (mo_cr210 (mo_cr209 v i o) i o) i o)) (i := i) (o := o) hX_10 hp_12 hp_13 hp_14
  refine r_ex 5 (pc' := 51) (lo' := [some (.inr (.inr (some 203))), some (.inl i), some (.inl o)]) (st' := [.inl o, .inl i, .inl 15, .inr (.inr (some 213))]) rfl ?_
  have hp_17 : 0 ≤ i ∧ i ≤ 4 := (by first | assumption | omega | (unfold R32 at *; omega) | (unfold R64 at *; omega) | (simp only [R32, R64] at *; omega))
  have hp_18 : 0 ≤ o ∧ o ≤ 4 := (by first | assumption | omega | (unfold R32 at *; omega) | (unfold R64 at *; omega) | (simp only [R32, R64] at *; omega))
  have hp_19 : CF (mo_cr212 (mo_cr211 (mo_cr210 (mo_cr209 v i o) i o) i o) i o) := hl_16
  refine r_call (m := 234) (args := [.inr (.inr (some 213)), .inl 15, .inl i, .inl o]) (n' := 233) (pc' := 54) (lo' := [some (.inr (.inr (some 203))), some (.inl i), some (.inl o)]) (st' := []) (I := .invokestatic 234) (pc0 := 51) (len := 3) rfl rfl rfl (e_mo_cr213 hX_15 hp_17 hp_18 hp_19) ?_
  show WV _ _ _ 54 _ [] _ (mo_cr213 (mo_cr212 (mo_cr211 (mo_cr210 (mo_cr209 v i o) i o) i o) i o) i o) _
  have hX_20 : XI (mo_cr213 (mo_cr212 (mo_cr211 (mo_cr210 (mo_cr209 v i o) i o) i o) i o) i o) := i_mo_cr213 (v := (mo_cr212 (mo_cr211 (mo_cr210 (mo_cr209 v i o) i o) i o) i o)) (i := i) (o := o) hX_15 hp_17 hp_18 hp_19
  have hl_21 := n_mo_cr213 (v := (mo_cr212 (mo_cr211 (mo_cr210 (mo_cr209 v i o) i o) i o) i o)) (i := i) (o := o) hX_15 hp_17 hp_18 hp_19
  refine r_ex 5 (pc' := 62) (lo' := [some (.inr (.inr (some 203))), some (.inl i), some (.inl o)]) (st' := [.inl o, .inl i, .inl 12, .inr (.inr (some 214))]) rfl ?_
  have hp_22 : 0 ≤ i ∧ i ≤ 4 := (by first | assumption | omega | (unfold R32 at *; omega) | (unfold R64 at *; omega) | (simp only [R32, R64] at *; omega))
  have hp_23 : 0 ≤ o ∧ o ≤ 4 := (by first | assumption | omega | (unfold R32 at *; omega) | (unfold R64 at *; omega) | (simp only [R32, R64] at *; omega))
  have hp_24 : CF (mo_cr213 (mo_cr212 (mo_cr211 (mo_cr210 (mo_cr209 v i o) i o) i o) i o) i o) := hl_21
  refine r_call (m := 234) (args := [.inr (.inr (some 214)), .inl 12, .inl i, .inl o]) (n' := 233) (pc' := 65) (lo' := [some (.inr (.inr (some 203))), some (.inl i), some (.inl o)]) (st' := []) (I := .invokestatic 234) (pc0 := 62) (len := 3) rfl rfl rfl (e_mo_cr214 hX_20 hp_22 hp_23 hp_24) ?_
  show WV _ _ _ 65 _ [] _ (mo_cr214 (mo_cr213 (mo_cr212 (mo_cr211 (mo_cr210 (mo_cr209 v i o) i o) i o) i o) i o) i o) _
  have hX_25 : XI (mo_cr214 (mo_cr213 (mo_cr212 (mo_cr211 (mo_cr210 (mo_cr209 v i o) i o) i o) i o) i o) i o) := i_mo_cr214 (v := (mo_cr213 (mo_cr212 (mo_cr211 (mo_cr210 (mo_cr209 v i o) i o) i o) i o) i o)) (i := i) (o := o) hX_20 hp_22 hp_23 hp_24
  have hl_26 := n_mo_cr214 (v := (mo_cr213 (mo_cr212 (mo_cr211 (mo_cr210 (mo_cr209 v i o) i o) i o) i o) i o)) (i := i) (o := o) hX_20 hp_22 hp_23 hp_24
  refine r_ex 5 (pc' := 73) (lo' := [some (.inr (.inr (some 203))), some (.inl i), some (.inl o)]) (st' := [.inl o, .inl i, .inl 18, .inr (.inr (some 215))]) rfl ?_
  have hp_27 : 0 ≤ i ∧ i ≤ 4 := (by first | assumption | omega | (unfold R32 at *; omega) | (unfold R64 at *; omega) | (simp only [R32, R64] at *; omega))
  have hp_28 : 0 ≤ o ∧ o ≤ 4 := (by first | assumption | omega | (unfold R32 at *; omega) | (unfold R64 at *; omega) | (simp only [R32, R64] at *; omega))
  refine r_call (m := 234) (args := [.inr (.inr (some 215)), .inl 18, .inl i, .inl o]) (n' := 233) (pc' := 76) (lo' := [some (.inr (.inr (some 203))), some (.inl i), some (.inl o)]) (st' := []) (I := .invokestatic 234) (pc0 := 73) (len := 3) rfl rfl rfl (e_mo_cr215 hX_25 hp_27 hp_28) ?_
  show WV _ _ _ 76 _ [] _ (mo_cr215 (mo_cr214 (mo_cr213 (mo_cr212 (mo_cr211 (mo_cr210 (mo_cr209 v i o) i o) i o) i o) i o) i o) i o) _
  have hX_29 : XI (mo_cr215 (mo_cr214 (mo_cr213 (mo_cr212 (mo_cr211 (mo_cr210 (mo_cr209 v i o) i o) i o) i o) i o) i o) i o) := i_mo_cr215 (v := (mo_cr214 (mo_cr213 (mo_cr212 (mo_cr211 (mo_cr210 (mo_cr209 v i o) i o) i o) i o) i o) i o)) (i := i) (o := o) hX_25 hp_27 hp_28
  refine r_ex 5 (pc' := 84) (lo' := [some (.inr (.inr (some 203))), some (.inl i), some (.inl o)]) (st' := [.inl o, .inl i, .inl 18, .inr (.inr (some 216))]) rfl ?_
  have hp_30 : 0 ≤ i ∧ i ≤ 4 := (by first | assumption | omega | (unfold R32 at *; omega) | (unfold R64 at *; omega) | (simp only [R32, R64] at *; omega))
  have hp_31 : 0 ≤ o ∧ o ≤ 4 := (by first | assumption | omega | (unfold R32 at *; omega) | (unfold R64 at *; omega) | (simp only [R32, R64] at *; omega))
  refine r_call (m := 234) (args := [.inr (.inr (some 216)), .inl 18, .inl i, .inl o]) (n' := 233) (pc' := 87) (lo' := [some (.inr (.inr (some 203))), some (.inl i), some (.inl o)]) (st' := []) (I := .invokestatic 234) (pc0 := 84) (len := 3) rfl rfl rfl (e_mo_cr216 hX_29 hp_30 hp_31) ?_
  show WV _ _ _ 87 _ [] _ (mo_cr216 (mo_cr215 (mo_cr214 (mo_cr213 (mo_cr212 (mo_cr211 (mo_cr210 (mo_cr209 v i o) i o) i o) i o) i o) i o) i o) i o) _
  have hX_32 : XI (mo_cr216 (mo_cr215 (mo_cr214 (mo_cr213 (mo_cr212 (mo_cr211 (mo_cr210 (mo_cr209 v i o) i o) i o) i o) i o) i o) i o) i o) := i_mo_cr216 (v := (mo_cr215 (mo_cr214 (mo_cr213 (mo_cr212 (mo_cr211 (mo_cr210 (mo_cr209 v i o) i o) i o) i o) i o) i o) i o)) (i := i) (o := o) hX_29 hp_30 hp_31
  refine r_ex 5 (pc' := 95) (lo' := [some (.inr (.inr (some 203))), some (.inl i), some (.inl o)]) (st' := [.inl o, .inl i, .inl 18, .inr (.inr (some 217))]) rfl ?_
  have hp_33 : 0 ≤ i ∧ i ≤ 4 := (by first | assumption | omega | (unfold R32 at *; omega) | (unfold R64 at *; omega) | (simp only [R32, R64] at *; omega))
  have hp_34 : 0 ≤ o ∧ o ≤ 4 := (by first | assumption | omega | (unfold R32 at *; omega) | (unfold R64 at *; omega) | (simp only [R32, R64] at *; omega))
  refine r_call (m := 234) (args := [.inr (.inr (some 217)), .inl 18, .inl i, .inl o]) (n' := 233) (pc' := 98) (lo' := [some (.inr (.inr (some 203))), some (.inl i), some (.inl o)]) (st' := []) (I := .invokestatic 234) (pc0 := 95) (len := 3) rfl rfl rfl (e_mo_cr217 hX_32 hp_33 hp_34) ?_
  show WV _ _ _ 98 _ [] _ (mo_cr217 (mo_cr216 (mo_cr215 (mo_cr214 (mo_cr213 (mo_cr212 (mo_cr211 (mo_cr210 (mo_cr209 v i o) i o) i o) i o) i o) i o) i o) i o) i o) _
  have hX_35 : XI (mo_cr217 (mo_cr216 (mo_cr215 (mo_cr214 (mo_cr213 (mo_cr212 (mo_cr211 (mo_cr210 (mo_cr209 v i o) i o) i o) i o) i o) i o) i o) i o) i o) := i_mo_cr217 (v := (mo_cr216 (mo_cr215 (mo_cr214 (mo_cr213 (mo_cr212 (mo_cr211 (mo_cr210 (mo_cr209 v i o) i o) i o) i o) i o) i o) i o) i o)) (i := i) (o := o) hX_32 hp_33 hp_34
  refine r_ret (rr := none) (I := .return_) (pc0 := 98) (len := 1) rfl rfl ?_
  exact hQ hX_35 (show CF (mo_cr217 (mo_cr216 (mo_cr215 (mo_cr214 (mo_cr213 (mo_cr212 (mo_cr211 (mo_cr210 (mo_cr209 v i o) i o) i o) i o) i o) i o) i o) i o) i o) from (show CF (mo_cr217 (mo_cr216 (mo_cr215 (mo_cr214 (mo_cr213 (mo_cr212 (mo_cr211 (mo_cr210 (mo_cr209 v i o) i o) i o) i o) i o) i o) i o) i o) i o) from CF.of hl_26 (fun k h1 h2 => by rw [o_mo_cr217 (by omega), o_mo_cr216 (by omega), o_mo_cr215 (by omega)])))

theorem e_mo_copyBay {X : PX} {d b : Nat} {v : VS} {i : Int} {o : Int} (hX : XI v) (hp_a : 0 ≤ i ∧ i ≤ 4) (hp_b : 0 ≤ o ∧ o ≤ 4) (hp_c : CF v) : EvV X (d + 1) 233 [.inr (.inr (some 203)), .inl i, .inl o] b v none b (mo_copyBay v i o) := EvV.of (w_mo_copyBay hX hp_a hp_b hp_c (fun _ _ => ⟨rfl, rfl, rfl⟩))

theorem i_mo_copyBay {v : VS} {i : Int} {o : Int} (hX : XI v) (hp_a : 0 ≤ i ∧ i ≤ 4) (hp_b : 0 ≤ o ∧ o ≤ 4) (hp_c : CF v) : XI (mo_copyBay v i o) := by
  have q : WV (0, fun _ => 0, none) (0 + 1) 233 0 [some (.inr (.inr (some 203))), some (.inl i), some (.inl o)] [] 1 v (fun _ _ _ => XI (mo_copyBay v i o)) := w_mo_copyBay (X := (0, fun _ => 0, none)) (d := 0) (b := 1) hX hp_a hp_b hp_c (fun q _ => q)
  obtain ⟨_, _, _, _, _, _, _, q⟩ := q
  exact q

theorem n_mo_copyBay {v : VS} {i : Int} {o : Int} (hX : XI v) (hp_a : 0 ≤ i ∧ i ≤ 4) (hp_b : 0 ≤ o ∧ o ≤ 4) (hp_c : CF v) : CF (mo_copyBay v i o) := by
  have q : WV (0, fun _ => 0, none) (0 + 1) 233 0 [some (.inr (.inr (some 203))), some (.inl i), some (.inl o)] [] 1 v (fun _ _ _ => CF (mo_copyBay v i o)) := w_mo_copyBay (X := (0, fun _ => 0, none)) (d := 0) (b := 1) hX hp_a hp_b hp_c (fun _ q => q)
  obtain ⟨_, _, _, _, _, _, _, q⟩ := q
  exact q

theorem o_mo_copyBay {rk : Nat} {v : VS} {i : Int} {o : Int} (hk : (rk < 209 ∨ 217 < rk)) : (mo_copyBay v i o) rk = v rk := by
  unfold mo_copyBay
  all_goals (show (mo_cr217 (mo_cr216 (mo_cr215 (mo_cr214 (mo_cr213 (mo_cr212 (mo_cr211 (mo_cr210 (mo_cr209 v i o) i o) i o) i o) i o) i o) i o) i o) i o) rk = _)
  all_goals (rw [o_mo_cr217 (by omega), o_mo_cr216 (by omega), o_mo_cr215 (by omega), o_mo_cr214 (by omega), o_mo_cr213 (by omega), o_mo_cr212 (by omega), o_mo_cr211 (by omega), o_mo_cr210 (by omega), o_mo_cr209 (by omega)])
