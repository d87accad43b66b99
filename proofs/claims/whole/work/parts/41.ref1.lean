/-! the reference's run: the small methods -/
def isn (v : VS) (k : Nat) (o t : Int) : Nat → Bool
  | 0 => false
  | n + 1 => isn v k o t n || (decide (v k (3 * n) = o) && decide (v k (3 * n + 1) ≤ t) && decide (t ≤ v k (3 * n + 2)))
theorem isn_mono {v : VS} {k : Nat} {o t : Int} {n : Nat} (h : isn v k o t n = true) : ∀ m, isn v k o t (n + m) = true := by
  intro m
  induction m with
  | zero => exact h
  | succ m ih =>
    show (isn v k o t (n + m) || _) = true
    rw [ih]
    rfl
theorem isn_hit {v : VS} {k : Nat} {o t : Int} {n m : Nat} (hn : n < m) (h1 : v k (3 * n) = o) (h2 : v k (3 * n + 1) ≤ t) (h3 : t ≤ v k (3 * n + 2)) : isn v k o t m = true := by
  have h : isn v k o t (n + 1) = true := by
    show (isn v k o t n || _) = true
    rw [decide_eq_true h1, decide_eq_true h2, decide_eq_true h3]
    simp
  have := isn_mono h (m - (n + 1))
  rw [show n + 1 + (m - (n + 1)) = m by omega] at this
  exact this
theorem isn_miss {v : VS} {k : Nat} {o t : Int} {n : Nat} (h : isn v k o t n = false) (h1 : ¬ (v k (3 * n) = o ∧ v k (3 * n + 1) ≤ t ∧ t ≤ v k (3 * n + 2))) : isn v k o t (n + 1) = false := by
  show (isn v k o t n || _) = false
  rw [h]
  simp only [Bool.false_or, Bool.and_eq_false_iff, decide_eq_false_iff_not]
  by_cases q1 : v k (3 * n) = o
  · by_cases q2 : v k (3 * n + 1) ≤ t
    · right; exact fun q3 => h1 ⟨q1, q2, q3⟩
    · left; right; exact q2
  · left; left; exact q1
def mway (v : VS) (e t : Int) : Int := v 212 (4 * e + 2).toNat - (if v 212 (4 * e + 3).toNat = 1 then v 219 t.toNat else if v 212 (4 * e + 3).toNat = 2 then -(v 219 t.toNat) else 0)
def mtak (v : VS) (e t : Int) : Int := if v 212 (4 * e + 3).toNat = 0 ∨ 0 < mway v e t then mway v e t else 1
theorem mtak_in {v : VS} (hX : XI v) (e t : Int) : -60 ≤ mtak v e t ∧ mtak v e t ≤ 120 := by
  have h1 : 0 ≤ v 212 (4 * e + 2).toNat ∧ v 212 (4 * e + 2).toNat ≤ 60 := hX 212 _
  have h2 : -60 ≤ v 219 t.toNat ∧ v 219 t.toNat ≤ 60 := hX 219 _
  have h3 : -60 ≤ mway v e t ∧ mway v e t ≤ 120 := by
    unfold mway
    split
    · omega
    · split <;> omega
  unfold mtak
  split <;> omega
def mputA (v : VS) (c h y e : Int) : VS := v2 (v2 (v2 (v2 (v2 v 225 (5 * v 203 43).toNat c) 225 (5 * v 203 43 + 1).toNat h) 225 (5 * v 203 43 + 2).toNat y) 225 (5 * v 203 43 + 3).toNat e) 225 (5 * v 203 43 + 4).toNat (-1)
def mput (v : VS) (t c h y e : Int) : VS :=
  if v 226 t.toNat = -1 then v2 (v2 (v2 (mputA v c h y e) 226 t.toNat (v 203 43)) 227 t.toNat (v 203 43)) 203 43 (v 203 43 + 1)
  else v2 (v2 (v2 (mputA v c h y e) 225 (5 * v 227 t.toNat + 4).toNat (v 203 43)) 227 t.toNat (v 203 43)) 203 43 (v 203 43 + 1)
def mat (v : VS) (e t : Int) : Int := t + mtak v e t
def mhr (v : VS) (e : Int) : Int := v 212 (4 * e).toNat
def mmor (v : VS) (e t : Int) : Int := if v 203 34 ≠ 2 ∧ isn v 217 (mhr v e) (mat v e t) (v 210 8).toNat = true then 1 else 0
def mthn (v : VS) (e t : Int) : Int := mat v e t + (if v 203 34 = 6 then 0 else v 211 (3 * mhr v e + 1).toNat)
def mby (v : VS) (e i t h : Int) : VS :=
  if v 210 1 ≤ mat v e t then v2 (v2 v 222 e.toNat (v 222 e.toNat + 1)) 221 5 (v 221 5 + 1)
  else if v 203 34 ≠ 0 ∧ isn v 215 e (mat v e t) (v 210 6).toNat = true then v2 (v2 (v2 v 222 e.toNat (v 222 e.toNat + 1)) 223 e.toNat (v 223 e.toNat + 1)) 221 0 (v 221 0 + 1)
  else if v 203 34 ≠ 1 ∧ isn v 216 (mhr v e) (mat v e t) (v 210 7).toNat = true then v2 (v2 v 222 e.toNat (v 222 e.toNat + 1)) 221 1 (v 221 1 + 1)
  else if 99 < h + mmor v e t then v2 (v2 v 222 e.toNat (v 222 e.toNat + 1)) 221 6 (v 221 6 + 1)
  else if v 210 1 ≤ mthn v e t then v2 (v2 v 222 e.toNat (v 222 e.toNat + 1)) 221 5 (v 221 5 + 1)
  else mput (v2 (v2 v 222 e.toNat (v 222 e.toNat + 1)) 224 e.toNat (v 224 e.toNat + 1)) (mthn v e t) (mhr v e) (h + mmor v e t) i e
theorem m_isL215 {X : PX} {d b : Nat} {v : VS} {n o t : Int} (hX : XI v) (hn : 0 ≤ n ∧ n ≤ 6) (ho : R32 o) (ht : R32 t) : ∀ (f k : Nat), (k : Int) ≤ n → isn v 215 o t k = false → n.toNat - k < f → WV X d 252 3 [some (.inr (.inr (some 215))), some (.inl n), some (.inl o), some (.inl t), some (.inl (k : Int))] [] b v (fun r b' v' => r = some (.inl (if isn v 215 o t n.toNat = true then 1 else 0)) ∧ b' = b ∧ v' = v) := by
  intro f
  induction f with
  | zero => intro k h1 hm h2; omega
  | succ f ih =>
    intro k h1 hm h2
    have e0 : v 215 (3 * k) = v 215 (3 * (k : Int)).toNat := by rw [show (3 * (k : Int)).toNat = 3 * k by omega]
    have e1 : v 215 (3 * k + 1) = v 215 (3 * (k : Int) + 1).toNat := by rw [show (3 * (k : Int) + 1).toNat = 3 * k + 1 by omega]
    have e2 : v 215 (3 * k + 2) = v 215 (3 * (k : Int) + 2).toNat := by rw [show (3 * (k : Int) + 2).toNat = 3 * k + 2 by omega]
    refine r_ex 2 (pc' := 6) (lo' := [some (.inr (.inr (some 215))), some (.inl n), some (.inl o), some (.inl t), some (.inl (k : Int))]) (st' := [.inl n, .inl (k : Int)]) rfl ?_
    refine r_ic_ge (pc0 := 6) (len := 3) (t := 51) rfl (by first | assumption | (unfold R32 at *; omega) | omega) (by first | assumption | (unfold R32 at *; omega) | omega) (fun h_6 => ?_) (fun h_6 => ?_)
    · show WV _ _ _ 51 _ _ _ _ _
      refine r_ex 1 (pc' := 52) (lo' := [some (.inr (.inr (some 215))), some (.inl n), some (.inl o), some (.inl t), some (.inl (k : Int))]) (st' := [.inl 0]) rfl ?_
      refine r_ret (rr := some (.inl 0)) (I := .ireturn) (pc0 := 52) (len := 1) rfl rfl ?_
      refine ⟨?_, rfl, rfl⟩
      congr 2
      have ek : n.toNat = k := by omega
      rw [ek, hm]
      rfl
    · show WV _ _ _ 9 _ _ _ _ _
      refine r_ex 4 (pc' := 14) (lo' := [some (.inr (.inr (some 215))), some (.inl n), some (.inl o), some (.inl t), some (.inl (k : Int))]) (st' := [.inl (3 * (k : Int)), .inr (.inr (some 215))]) rfl ?_
      refine r_iald2 (j := 0) (x := (v 215 (((3 * (k : Int))).toNat))) (pc' := 15) (pc0 := 14) (len := 1) rfl (s_215 _) (by first | assumption | (unfold R32 at *; omega) | omega) (by decide) rfl rfl ?_
      have hb_1 : 0 ≤ (v 215 (((3 * (k : Int))).toNat)) ∧ (v 215 (((3 * (k : Int))).toNat)) ≤ 299 := hX 215 (((3 * (k : Int))).toNat)
      refine r_ex 1 (pc' := 16) (lo' := [some (.inr (.inr (some 215))), some (.inl n), some (.inl o), some (.inl t), some (.inl (k : Int))]) (st' := [.inl o, .inl (v 215 (((3 * (k : Int))).toNat))]) rfl ?_
      refine r_ic_ne (pc0 := 16) (len := 3) (t := 45) rfl (by first | assumption | (unfold R32 at *; omega) | omega) (by first | assumption | (unfold R32 at *; omega) | omega) (fun h_16 => ?_) (fun h_16 => ?_)
      · show WV _ _ _ 45 _ _ _ _ _
        refine r_ex 2 (pc' := 3) (lo' := [some (.inr (.inr (some 215))), some (.inl n), some (.inl o), some (.inl t), some (.inl ((k : Int) + 1))]) (st' := []) rfl ?_
        have hk1 := ih (k + 1) (by omega) (isn_miss hm (by rw [e0, e1, e2]; omega)) (by omega)
        rw [show ((k + 1 : Nat) : Int) = (k : Int) + 1 by omega] at hk1
        exact hk1
      · show WV _ _ _ 19 _ _ _ _ _
        refine r_ex 7 (pc' := 27) (lo' := [some (.inr (.inr (some 215))), some (.inl n), some (.inl o), some (.inl t), some (.inl (k : Int))]) (st' := [.inl ((3 * (k : Int)) + 1), .inr (.inr (some 215)), .inl t]) rfl ?_
        refine r_iald2 (j := 0) (x := (v 215 ((((3 * (k : Int)) + 1)).toNat))) (pc' := 28) (pc0 := 27) (len := 1) rfl (s_215 _) (by first | assumption | (unfold R32 at *; omega) | omega) (by decide) rfl rfl ?_
        have hb_2 : 0 ≤ (v 215 ((((3 * (k : Int)) + 1)).toNat)) ∧ (v 215 ((((3 * (k : Int)) + 1)).toNat)) ≤ 299 := hX 215 ((((3 * (k : Int)) + 1)).toNat)
        refine r_ic_lt (pc0 := 28) (len := 3) (t := 45) rfl (by first | assumption | (unfold R32 at *; omega) | omega) (by first | assumption | (unfold R32 at *; omega) | omega) (fun h_28 => ?_) (fun h_28 => ?_)
        · show WV _ _ _ 45 _ _ _ _ _
          refine r_ex 2 (pc' := 3) (lo' := [some (.inr (.inr (some 215))), some (.inl n), some (.inl o), some (.inl t), some (.inl ((k : Int) + 1))]) (st' := []) rfl ?_
          have hk1 := ih (k + 1) (by omega) (isn_miss hm (by rw [e0, e1, e2]; omega)) (by omega)
          rw [show ((k + 1 : Nat) : Int) = (k : Int) + 1 by omega] at hk1
          exact hk1
        · show WV _ _ _ 31 _ _ _ _ _
          refine r_ex 7 (pc' := 39) (lo' := [some (.inr (.inr (some 215))), some (.inl n), some (.inl o), some (.inl t), some (.inl (k : Int))]) (st' := [.inl ((3 * (k : Int)) + 2), .inr (.inr (some 215)), .inl t]) rfl ?_
          refine r_iald2 (j := 0) (x := (v 215 ((((3 * (k : Int)) + 2)).toNat))) (pc' := 40) (pc0 := 39) (len := 1) rfl (s_215 _) (by first | assumption | (unfold R32 at *; omega) | omega) (by decide) rfl rfl ?_
          have hb_3 : 0 ≤ (v 215 ((((3 * (k : Int)) + 2)).toNat)) ∧ (v 215 ((((3 * (k : Int)) + 2)).toNat)) ≤ 299 := hX 215 ((((3 * (k : Int)) + 2)).toNat)
          refine r_ic_gt (pc0 := 40) (len := 3) (t := 45) rfl (by first | assumption | (unfold R32 at *; omega) | omega) (by first | assumption | (unfold R32 at *; omega) | omega) (fun h_40 => ?_) (fun h_40 => ?_)
          · show WV _ _ _ 45 _ _ _ _ _
            refine r_ex 2 (pc' := 3) (lo' := [some (.inr (.inr (some 215))), some (.inl n), some (.inl o), some (.inl t), some (.inl ((k : Int) + 1))]) (st' := []) rfl ?_
            have hk1 := ih (k + 1) (by omega) (isn_miss hm (by rw [e0, e1, e2]; omega)) (by omega)
            rw [show ((k + 1 : Nat) : Int) = (k : Int) + 1 by omega] at hk1
            exact hk1
          · show WV _ _ _ 43 _ _ _ _ _
            refine r_ex 1 (pc' := 44) (lo' := [some (.inr (.inr (some 215))), some (.inl n), some (.inl o), some (.inl t), some (.inl (k : Int))]) (st' := [.inl 1]) rfl ?_
            refine r_ret (rr := some (.inl 1)) (I := .ireturn) (pc0 := 44) (len := 1) rfl rfl ?_
            refine ⟨?_, rfl, rfl⟩
            congr 2
            rw [if_pos (isn_hit (n := k) (by omega) (by rw [e0]; omega) (by rw [e1]; omega) (by rw [e2]; omega))]

theorem m_isIn215 {X : PX} {d b : Nat} {v : VS} {n o t : Int} (hX : XI v) (hn : 0 ≤ n ∧ n ≤ 6) (ho : R32 o) (ht : R32 t) : EvV X d 252 [.inr (.inr (some 215)), .inl n, .inl o, .inl t] b v (some (.inl (if isn v 215 o t n.toNat = true then 1 else 0))) b v := by
  refine EvV.of ?_
  show WV _ _ _ 0 [some (.inr (.inr (some 215))), some (.inl n), some (.inl o), some (.inl t), none] [] _ _ _
  refine r_ex 2 (pc' := 3) (lo' := [some (.inr (.inr (some 215))), some (.inl n), some (.inl o), some (.inl t), some (.inl 0)]) (st' := []) rfl ?_
  exact m_isL215 hX hn ho ht (n.toNat + 1) 0 (by omega) rfl (by omega)

theorem m_isL216 {X : PX} {d b : Nat} {v : VS} {n o t : Int} (hX : XI v) (hn : 0 ≤ n ∧ n ≤ 6) (ho : R32 o) (ht : R32 t) : ∀ (f k : Nat), (k : Int) ≤ n → isn v 216 o t k = false → n.toNat - k < f → WV X d 252 3 [some (.inr (.inr (some 216))), some (.inl n), some (.inl o), some (.inl t), some (.inl (k : Int))] [] b v (fun r b' v' => r = some (.inl (if isn v 216 o t n.toNat = true then 1 else 0)) ∧ b' = b ∧ v' = v) := by
  intro f
  induction f with
  | zero => intro k h1 hm h2; omega
  | succ f ih =>
    intro k h1 hm h2
    have e0 : v 216 (3 * k) = v 216 (3 * (k : Int)).toNat := by rw [show (3 * (k : Int)).toNat = 3 * k by omega]
    have e1 : v 216 (3 * k + 1) = v 216 (3 * (k : Int) + 1).toNat := by rw [show (3 * (k : Int) + 1).toNat = 3 * k + 1 by omega]
    have e2 : v 216 (3 * k + 2) = v 216 (3 * (k : Int) + 2).toNat := by rw [show (3 * (k : Int) + 2).toNat = 3 * k + 2 by omega]
    refine r_ex 2 (pc' := 6) (lo' := [some (.inr (.inr (some 216))), some (.inl n), some (.inl o), some (.inl t), some (.inl (k : Int))]) (st' := [.inl n, .inl (k : Int)]) rfl ?_
    refine r_ic_ge (pc0 := 6) (len := 3) (t := 51) rfl (by first | assumption | (unfold R32 at *; omega) | omega) (by first | assumption | (unfold R32 at *; omega) | omega) (fun h_6 => ?_) (fun h_6 => ?_)
    · show WV _ _ _ 51 _ _ _ _ _
      refine r_ex 1 (pc' := 52) (lo' := [some (.inr (.inr (some 216))), some (.inl n), some (.inl o), some (.inl t), some (.inl (k : Int))]) (st' := [.inl 0]) rfl ?_
      refine r_ret (rr := some (.inl 0)) (I := .ireturn) (pc0 := 52) (len := 1) rfl rfl ?_
      refine ⟨?_, rfl, rfl⟩
      congr 2
      have ek : n.toNat = k := by omega
      rw [ek, hm]
      rfl
    · show WV _ _ _ 9 _ _ _ _ _
      refine r_ex 4 (pc' := 14) (lo' := [some (.inr (.inr (some 216))), some (.inl n), some (.inl o), some (.inl t), some (.inl (k : Int))]) (st' := [.inl (3 * (k : Int)), .inr (.inr (some 216))]) rfl ?_
      refine r_iald2 (j := 0) (x := (v 216 (((3 * (k : Int))).toNat))) (pc' := 15) (pc0 := 14) (len := 1) rfl (s_216 _) (by first | assumption | (unfold R32 at *; omega) | omega) (by decide) rfl rfl ?_
      have hb_1 : 0 ≤ (v 216 (((3 * (k : Int))).toNat)) ∧ (v 216 (((3 * (k : Int))).toNat)) ≤ 299 := hX 216 (((3 * (k : Int))).toNat)
      refine r_ex 1 (pc' := 16) (lo' := [some (.inr (.inr (some 216))), some (.inl n), some (.inl o), some (.inl t), some (.inl (k : Int))]) (st' := [.inl o, .inl (v 216 (((3 * (k : Int))).toNat))]) rfl ?_
      refine r_ic_ne (pc0 := 16) (len := 3) (t := 45) rfl (by first | assumption | (unfold R32 at *; omega) | omega) (by first | assumption | (unfold R32 at *; omega) | omega) (fun h_16 => ?_) (fun h_16 => ?_)
      · show WV _ _ _ 45 _ _ _ _ _
        refine r_ex 2 (pc' := 3) (lo' := [some (.inr (.inr (some 216))), some (.inl n), some (.inl o), some (.inl t), some (.inl ((k : Int) + 1))]) (st' := []) rfl ?_
        have hk1 := ih (k + 1) (by omega) (isn_miss hm (by rw [e0, e1, e2]; omega)) (by omega)
        rw [show ((k + 1 : Nat) : Int) = (k : Int) + 1 by omega] at hk1
        exact hk1
      · show WV _ _ _ 19 _ _ _ _ _
        refine r_ex 7 (pc' := 27) (lo' := [some (.inr (.inr (some 216))), some (.inl n), some (.inl o), some (.inl t), some (.inl (k : Int))]) (st' := [.inl ((3 * (k : Int)) + 1), .inr (.inr (some 216)), .inl t]) rfl ?_
        refine r_iald2 (j := 0) (x := (v 216 ((((3 * (k : Int)) + 1)).toNat))) (pc' := 28) (pc0 := 27) (len := 1) rfl (s_216 _) (by first | assumption | (unfold R32 at *; omega) | omega) (by decide) rfl rfl ?_
        have hb_2 : 0 ≤ (v 216 ((((3 * (k : Int)) + 1)).toNat)) ∧ (v 216 ((((3 * (k : Int)) + 1)).toNat)) ≤ 299 := hX 216 ((((3 * (k : Int)) + 1)).toNat)
        refine r_ic_lt (pc0 := 28) (len := 3) (t := 45) rfl (by first | assumption | (unfold R32 at *; omega) | omega) (by first | assumption | (unfold R32 at *; omega) | omega) (fun h_28 => ?_) (fun h_28 => ?_)
        · show WV _ _ _ 45 _ _ _ _ _
          refine r_ex 2 (pc' := 3) (lo' := [some (.inr (.inr (some 216))), some (.inl n), some (.inl o), some (.inl t), some (.inl ((k : Int) + 1))]) (st' := []) rfl ?_
          have hk1 := ih (k + 1) (by omega) (isn_miss hm (by rw [e0, e1, e2]; omega)) (by omega)
          rw [show ((k + 1 : Nat) : Int) = (k : Int) + 1 by omega] at hk1
          exact hk1
        · show WV _ _ _ 31 _ _ _ _ _
          refine r_ex 7 (pc' := 39) (lo' := [some (.inr (.inr (some 216))), some (.inl n), some (.inl o), some (.inl t), some (.inl (k : Int))]) (st' := [.inl ((3 * (k : Int)) + 2), .inr (.inr (some 216)), .inl t]) rfl ?_
          refine r_iald2 (j := 0) (x := (v 216 ((((3 * (k : Int)) + 2)).toNat))) (pc' := 40) (pc0 := 39) (len := 1) rfl (s_216 _) (by first | assumption | (unfold R32 at *; omega) | omega) (by decide) rfl rfl ?_
          have hb_3 : 0 ≤ (v 216 ((((3 * (k : Int)) + 2)).toNat)) ∧ (v 216 ((((3 * (k : Int)) + 2)).toNat)) ≤ 299 := hX 216 ((((3 * (k : Int)) + 2)).toNat)
          refine r_ic_gt (pc0 := 40) (len := 3) (t := 45) rfl (by first | assumption | (unfold R32 at *; omega) | omega) (by first | assumption | (unfold R32 at *; omega) | omega) (fun h_40 => ?_) (fun h_40 => ?_)
          · show WV _ _ _ 45 _ _ _ _ _
            refine r_ex 2 (pc' := 3) (lo' := [some (.inr (.inr (some 216))), some (.inl n), some (.inl o), some (.inl t), some (.inl ((k : Int) + 1))]) (st' := []) rfl ?_
            have hk1 := ih (k + 1) (by omega) (isn_miss hm (by rw [e0, e1, e2]; omega)) (by omega)
            rw [show ((k + 1 : Nat) : Int) = (k : Int) + 1 by omega] at hk1
            exact hk1
          · show WV _ _ _ 43 _ _ _ _ _
            refine r_ex 1 (pc' := 44) (lo' := [some (.inr (.inr (some 216))), some (.inl n), some (.inl o), some (.inl t), some (.inl (k : Int))]) (st' := [.inl 1]) rfl ?_
            refine r_ret (rr := some (.inl 1)) (I := .ireturn) (pc0 := 44) (len := 1) rfl rfl ?_
            refine ⟨?_, rfl, rfl⟩
            congr 2
            rw [if_pos (isn_hit (n := k) (by omega) (by rw [e0]; omega) (by rw [e1]; omega) (by rw [e2]; omega))]

theorem m_isIn216 {X : PX} {d b : Nat} {v : VS} {n o t : Int} (hX : XI v) (hn : 0 ≤ n ∧ n ≤ 6) (ho : R32 o) (ht : R32 t) : EvV X d 252 [.inr (.inr (some 216)), .inl n, .inl o, .inl t] b v (some (.inl (if isn v 216 o t n.toNat = true then 1 else 0))) b v := by
  refine EvV.of ?_
  show WV _ _ _ 0 [some (.inr (.inr (some 216))), some (.inl n), some (.inl o), some (.inl t), none] [] _ _ _
  refine r_ex 2 (pc' := 3) (lo' := [some (.inr (.inr (some 216))), some (.inl n), some (.inl o), some (.inl t), some (.inl 0)]) (st' := []) rfl ?_
  exact m_isL216 hX hn ho ht (n.toNat + 1) 0 (by omega) rfl (by omega)

theorem m_isL217 {X : PX} {d b : Nat} {v : VS} {n o t : Int} (hX : XI v) (hn : 0 ≤ n ∧ n ≤ 6) (ho : R32 o) (ht : R32 t) : ∀ (f k : Nat), (k : Int) ≤ n → isn v 217 o t k = false → n.toNat - k < f → WV X d 252 3 [some (.inr (.inr (some 217))), some (.inl n), some (.inl o), some (.inl t), some (.inl (k : Int))] [] b v (fun r b' v' => r = some (.inl (if isn v 217 o t n.toNat = true then 1 else 0)) ∧ b' = b ∧ v' = v) := by
  intro f
  induction f with
  | zero => intro k h1 hm h2; omega
  | succ f ih =>
    intro k h1 hm h2
    have e0 : v 217 (3 * k) = v 217 (3 * (k : Int)).toNat := by rw [show (3 * (k : Int)).toNat = 3 * k by omega]
    have e1 : v 217 (3 * k + 1) = v 217 (3 * (k : Int) + 1).toNat := by rw [show (3 * (k : Int) + 1).toNat = 3 * k + 1 by omega]
    have e2 : v 217 (3 * k + 2) = v 217 (3 * (k : Int) + 2).toNat := by rw [show (3 * (k : Int) + 2).toNat = 3 * k + 2 by omega]
    refine r_ex 2 (pc' := 6) (lo' := [some (.inr (.inr (some 217))), some (.inl n), some (.inl o), some (.inl t), some (.inl (k : Int))]) (st' := [.inl n, .inl (k : Int)]) rfl ?_
    refine r_ic_ge (pc0 := 6) (len := 3) (t := 51) rfl (by first | assumption | (unfold R32 at *; omega) | omega) (by first | assumption | (unfold R32 at *; omega) | omega) (fun h_6 => ?_) (fun h_6 => ?_)
    · show WV _ _ _ 51 _ _ _ _ _
      refine r_ex 1 (pc' := 52) (lo' := [some (.inr (.inr (some 217))), some (.inl n), some (.inl o), some (.inl t), some (.inl (k : Int))]) (st' := [.inl 0]) rfl ?_
      refine r_ret (rr := some (.inl 0)) (I := .ireturn) (pc0 := 52) (len := 1) rfl rfl ?_
      refine ⟨?_, rfl, rfl⟩
      congr 2
      have ek : n.toNat = k := by omega
      rw [ek, hm]
      rfl
    · show WV _ _ _ 9 _ _ _ _ _
      refine r_ex 4 (pc' := 14) (lo' := [some (.inr (.inr (some 217))), some (.inl n), some (.inl o), some (.inl t), some (.inl (k : Int))]) (st' := [.inl (3 * (k : Int)), .inr (.inr (some 217))]) rfl ?_
      refine r_iald2 (j := 0) (x := (v 217 (((3 * (k : Int))).toNat))) (pc' := 15) (pc0 := 14) (len := 1) rfl (s_217 _) (by first | assumption | (unfold R32 at *; omega) | omega) (by decide) rfl rfl ?_
      have hb_1 : 0 ≤ (v 217 (((3 * (k : Int))).toNat)) ∧ (v 217 (((3 * (k : Int))).toNat)) ≤ 299 := hX 217 (((3 * (k : Int))).toNat)
      refine r_ex 1 (pc' := 16) (lo' := [some (.inr (.inr (some 217))), some (.inl n), some (.inl o), some (.inl t), some (.inl (k : Int))]) (st' := [.inl o, .inl (v 217 (((3 * (k : Int))).toNat))]) rfl ?_
      refine r_ic_ne (pc0 := 16) (len := 3) (t := 45) rfl (by first | assumption | (unfold R32 at *; omega) | omega) (by first | assumption | (unfold R32 at *; omega) | omega) (fun h_16 => ?_) (fun h_16 => ?_)
      · show WV _ _ _ 45 _ _ _ _ _
        refine r_ex 2 (pc' := 3) (lo' := [some (.inr (.inr (some 217))), some (.inl n), some (.inl o), some (.inl t), some (.inl ((k : Int) + 1))]) (st' := []) rfl ?_
        have hk1 := ih (k + 1) (by omega) (isn_miss hm (by rw [e0, e1, e2]; omega)) (by omega)
        rw [show ((k + 1 : Nat) : Int) = (k : Int) + 1 by omega] at hk1
        exact hk1
      · show WV _ _ _ 19 _ _ _ _ _
        refine r_ex 7 (pc' := 27) (lo' := [some (.inr (.inr (some 217))), some (.inl n), some (.inl o), some (.inl t), some (.inl (k : Int))]) (st' := [.inl ((3 * (k : Int)) + 1), .inr (.inr (some 217)), .inl t]) rfl ?_
        refine r_iald2 (j := 0) (x := (v 217 ((((3 * (k : Int)) + 1)).toNat))) (pc' := 28) (pc0 := 27) (len := 1) rfl (s_217 _) (by first | assumption | (unfold R32 at *; omega) | omega) (by decide) rfl rfl ?_
        have hb_2 : 0 ≤ (v 217 ((((3 * (k : Int)) + 1)).toNat)) ∧ (v 217 ((((3 * (k : Int)) + 1)).toNat)) ≤ 299 := hX 217 ((((3 * (k : Int)) + 1)).toNat)
        refine r_ic_lt (pc0 := 28) (len := 3) (t := 45) rfl (by first | assumption | (unfold R32 at *; omega) | omega) (by first | assumption | (unfold R32 at *; omega) | omega) (fun h_28 => ?_) (fun h_28 => ?_)
        · show WV _ _ _ 45 _ _ _ _ _
          refine r_ex 2 (pc' := 3) (lo' := [some (.inr (.inr (some 217))), some (.inl n), some (.inl o), some (.inl t), some (.inl ((k : Int) + 1))]) (st' := []) rfl ?_
          have hk1 := ih (k + 1) (by omega) (isn_miss hm (by rw [e0, e1, e2]; omega)) (by omega)
          rw [show ((k + 1 : Nat) : Int) = (k : Int) + 1 by omega] at hk1
          exact hk1
        · show WV _ _ _ 31 _ _ _ _ _
          refine r_ex 7 (pc' := 39) (lo' := [some (.inr (.inr (some 217))), some (.inl n), some (.inl o), some (.inl t), some (.inl (k : Int))]) (st' := [.inl ((3 * (k : Int)) + 2), .inr (.inr (some 217)), .inl t]) rfl ?_
          refine r_iald2 (j := 0) (x := (v 217 ((((3 * (k : Int)) + 2)).toNat))) (pc' := 40) (pc0 := 39) (len := 1) rfl (s_217 _) (by first | assumption | (unfold R32 at *; omega) | omega) (by decide) rfl rfl ?_
          have hb_3 : 0 ≤ (v 217 ((((3 * (k : Int)) + 2)).toNat)) ∧ (v 217 ((((3 * (k : Int)) + 2)).toNat)) ≤ 299 := hX 217 ((((3 * (k : Int)) + 2)).toNat)
          refine r_ic_gt (pc0 := 40) (len := 3) (t := 45) rfl (by first | assumption | (unfold R32 at *; omega) | omega) (by first | assumption | (unfold R32 at *; omega) | omega) (fun h_40 => ?_) (fun h_40 => ?_)
          · show WV _ _ _ 45 _ _ _ _ _
            refine r_ex 2 (pc' := 3) (lo' := [some (.inr (.inr (some 217))), some (.inl n), some (.inl o), some (.inl t), some (.inl ((k : Int) + 1))]) (st' := []) rfl ?_
            have hk1 := ih (k + 1) (by omega) (isn_miss hm (by rw [e0, e1, e2]; omega)) (by omega)
            rw [show ((k + 1 : Nat) : Int) = (k : Int) + 1 by omega] at hk1
            exact hk1
          · show WV _ _ _ 43 _ _ _ _ _
            refine r_ex 1 (pc' := 44) (lo' := [some (.inr (.inr (some 217))), some (.inl n), some (.inl o), some (.inl t), some (.inl (k : Int))]) (st' := [.inl 1]) rfl ?_
            refine r_ret (rr := some (.inl 1)) (I := .ireturn) (pc0 := 44) (len := 1) rfl rfl ?_
            refine ⟨?_, rfl, rfl⟩
            congr 2
            rw [if_pos (isn_hit (n := k) (by omega) (by rw [e0]; omega) (by rw [e1]; omega) (by rw [e2]; omega))]

theorem m_isIn217 {X : PX} {d b : Nat} {v : VS} {n o t : Int} (hX : XI v) (hn : 0 ≤ n ∧ n ≤ 6) (ho : R32 o) (ht : R32 t) : EvV X d 252 [.inr (.inr (some 217)), .inl n, .inl o, .inl t] b v (some (.inl (if isn v 217 o t n.toNat = true then 1 else 0))) b v := by
  refine EvV.of ?_
  show WV _ _ _ 0 [some (.inr (.inr (some 217))), some (.inl n), some (.inl o), some (.inl t), none] [] _ _ _
  refine r_ex 2 (pc' := 3) (lo' := [some (.inr (.inr (some 217))), some (.inl n), some (.inl o), some (.inl t), some (.inl 0)]) (st' := []) rfl ?_
  exact m_isL217 hX hn ho ht (n.toNat + 1) 0 (by omega) rfl (by omega)

theorem m_tak {X : PX} {d b : Nat} {v : VS} {e t : Int} (hX : XI v) (he : 0 ≤ e ∧ e < 12) (ht : 0 ≤ t ∧ t < 300) : EvV X d 243 [.inr (.inr (some 203)), .inl e, .inl t] b v (some (.inl (mtak v e t))) b v := by
  refine EvV.of ?_
  show WV _ _ _ 0 [some (.inr (.inr (some 203))), some (.inl e), some (.inl t), none, none] [] _ _ _
  refine r_ex 7 (pc' := 9) (lo' := [some (.inr (.inr (some 203))), some (.inl e), some (.inl t), none, none]) (st' := [.inl ((4 * e) + 3), .inr (.inr (some 212))]) rfl ?_
  refine r_iald2 (j := 0) (x := (v 212 ((((4 * e) + 3)).toNat))) (pc' := 10) (pc0 := 9) (len := 1) rfl (s_212 _) (by first | assumption | (unfold R32 at *; omega) | omega) (by decide) rfl rfl ?_
  have hb_1 : 0 ≤ (v 212 ((((4 * e) + 3)).toNat)) ∧ (v 212 ((((4 * e) + 3)).toNat)) ≤ 60 := hX 212 ((((4 * e) + 3)).toNat)
  refine r_ex 8 (pc' := 20) (lo' := [some (.inr (.inr (some 203))), some (.inl e), some (.inl t), some (.inl (v 212 ((((4 * e) + 3)).toNat))), none]) (st' := [.inl ((4 * e) + 2), .inr (.inr (some 212))]) rfl ?_
  refine r_iald2 (j := 0) (x := (v 212 ((((4 * e) + 2)).toNat))) (pc' := 21) (pc0 := 20) (len := 1) rfl (s_212 _) (by first | assumption | (unfold R32 at *; omega) | omega) (by decide) rfl rfl ?_
  have hb_2 : 0 ≤ (v 212 ((((4 * e) + 2)).toNat)) ∧ (v 212 ((((4 * e) + 2)).toNat)) ≤ 60 := hX 212 ((((4 * e) + 2)).toNat)
  refine r_ex 2 (pc' := 23) (lo' := [some (.inr (.inr (some 203))), some (.inl e), some (.inl t), some (.inl (v 212 ((((4 * e) + 3)).toNat))), none]) (st' := [.inl 1, .inl (v 212 ((((4 * e) + 3)).toNat)), .inl (v 212 ((((4 * e) + 2)).toNat))]) rfl ?_
  refine r_ic_ne (pc0 := 23) (len := 3) (t := 35) rfl (by first | assumption | (unfold R32 at *; omega) | omega) (by first | assumption | (unfold R32 at *; omega) | omega) (fun h_23 => ?_) (fun h_23 => ?_)
  · show WV _ _ _ 35 _ _ _ _ _
    refine r_ex 2 (pc' := 37) (lo' := [some (.inr (.inr (some 203))), some (.inl e), some (.inl t), some (.inl (v 212 ((((4 * e) + 3)).toNat))), none]) (st' := [.inl 2, .inl (v 212 ((((4 * e) + 3)).toNat)), .inl (v 212 ((((4 * e) + 2)).toNat))]) rfl ?_
    refine r_ic_ne (pc0 := 37) (len := 3) (t := 50) rfl (by first | assumption | (unfold R32 at *; omega) | omega) (by first | assumption | (unfold R32 at *; omega) | omega) (fun h_37 => ?_) (fun h_37 => ?_)
    · show WV _ _ _ 50 _ _ _ _ _
      refine r_ex 4 (pc' := 55) (lo' := [some (.inr (.inr (some 203))), some (.inl e), some (.inl t), some (.inl (v 212 ((((4 * e) + 3)).toNat))), some (.inl ((v 212 ((((4 * e) + 2)).toNat)) - 0))]) (st' := [.inl (v 212 ((((4 * e) + 3)).toNat))]) rfl ?_
      refine r_if_eq (pc0 := 55) (len := 3) (t := 63) rfl (by first | assumption | (unfold R32 at *; omega) | omega) (fun h_55 => ?_) (fun h_55 => ?_)
      · show WV _ _ _ 63 _ _ _ _ _
        refine r_ex 2 (pc' := 69) (lo' := [some (.inr (.inr (some 203))), some (.inl e), some (.inl t), some (.inl (v 212 ((((4 * e) + 3)).toNat))), some (.inl ((v 212 ((((4 * e) + 2)).toNat)) - 0))]) (st' := [.inl ((v 212 ((((4 * e) + 2)).toNat)) - 0)]) rfl ?_
        refine r_ret (rr := some (.inl ((v 212 ((((4 * e) + 2)).toNat)) - 0))) (I := .ireturn) (pc0 := 69) (len := 1) rfl rfl ?_
        refine ⟨?_, rfl, rfl⟩
        congr 2
        unfold mtak mway
        (first | rw [if_pos (show v 212 (4 * e + 3).toNat = 1 by omega)] | rw [if_neg (show ¬ v 212 (4 * e + 3).toNat = 1 by omega), if_pos (show v 212 (4 * e + 3).toNat = 2 by omega)] | rw [if_neg (show ¬ v 212 (4 * e + 3).toNat = 1 by omega), if_neg (show ¬ v 212 (4 * e + 3).toNat = 2 by omega)])
        (first | (rw [if_pos (by omega)]; done) | (rw [if_neg (by omega)]; done) | (exfalso; omega))
      · show WV _ _ _ 58 _ _ _ _ _
        refine r_ex 1 (pc' := 60) (lo' := [some (.inr (.inr (some 203))), some (.inl e), some (.inl t), some (.inl (v 212 ((((4 * e) + 3)).toNat))), some (.inl ((v 212 ((((4 * e) + 2)).toNat)) - 0))]) (st' := [.inl ((v 212 ((((4 * e) + 2)).toNat)) - 0)]) rfl ?_
        refine r_if_le (pc0 := 60) (len := 3) (t := 68) rfl (by first | assumption | (unfold R32 at *; omega) | omega) (fun h_60 => ?_) (fun h_60 => ?_)
        · show WV _ _ _ 68 _ _ _ _ _
          refine r_ex 1 (pc' := 69) (lo' := [some (.inr (.inr (some 203))), some (.inl e), some (.inl t), some (.inl (v 212 ((((4 * e) + 3)).toNat))), some (.inl ((v 212 ((((4 * e) + 2)).toNat)) - 0))]) (st' := [.inl 1]) rfl ?_
          refine r_ret (rr := some (.inl 1)) (I := .ireturn) (pc0 := 69) (len := 1) rfl rfl ?_
          refine ⟨?_, rfl, rfl⟩
          congr 2
          unfold mtak mway
          (first | rw [if_pos (show v 212 (4 * e + 3).toNat = 1 by omega)] | rw [if_neg (show ¬ v 212 (4 * e + 3).toNat = 1 by omega), if_pos (show v 212 (4 * e + 3).toNat = 2 by omega)] | rw [if_neg (show ¬ v 212 (4 * e + 3).toNat = 1 by omega), if_neg (show ¬ v 212 (4 * e + 3).toNat = 2 by omega)])
          (first | (rw [if_pos (by omega)]; done) | (rw [if_neg (by omega)]; done) | (exfalso; omega))
        · show WV _ _ _ 63 _ _ _ _ _
          refine r_ex 2 (pc' := 69) (lo' := [some (.inr (.inr (some 203))), some (.inl e), some (.inl t), some (.inl (v 212 ((((4 * e) + 3)).toNat))), some (.inl ((v 212 ((((4 * e) + 2)).toNat)) - 0))]) (st' := [.inl ((v 212 ((((4 * e) + 2)).toNat)) - 0)]) rfl ?_
          refine r_ret (rr := some (.inl ((v 212 ((((4 * e) + 2)).toNat)) - 0))) (I := .ireturn) (pc0 := 69) (len := 1) rfl rfl ?_
          refine ⟨?_, rfl, rfl⟩
          congr 2
          unfold mtak mway
          (first | rw [if_pos (show v 212 (4 * e + 3).toNat = 1 by omega)] | rw [if_neg (show ¬ v 212 (4 * e + 3).toNat = 1 by omega), if_pos (show v 212 (4 * e + 3).toNat = 2 by omega)] | rw [if_neg (show ¬ v 212 (4 * e + 3).toNat = 1 by omega), if_neg (show ¬ v 212 (4 * e + 3).toNat = 2 by omega)])
          (first | (rw [if_pos (by omega)]; done) | (rw [if_neg (by omega)]; done) | (exfalso; omega))
    · show WV _ _ _ 40 _ _ _ _ _
      refine r_ex 3 (pc' := 45) (lo' := [some (.inr (.inr (some 203))), some (.inl e), some (.inl t), some (.inl (v 212 ((((4 * e) + 3)).toNat))), none]) (st' := [.inl t, .inr (.inr (some 219)), .inl (v 212 ((((4 * e) + 2)).toNat))]) rfl ?_
      refine r_iald2 (j := 0) (x := (v 219 ((t).toNat))) (pc' := 46) (pc0 := 45) (len := 1) rfl (s_219 _) (by first | assumption | (unfold R32 at *; omega) | omega) (by decide) rfl rfl ?_
      have hb_3 : -60 ≤ (v 219 ((t).toNat)) ∧ (v 219 ((t).toNat)) ≤ 60 := hX 219 ((t).toNat)
      refine r_ex 5 (pc' := 55) (lo' := [some (.inr (.inr (some 203))), some (.inl e), some (.inl t), some (.inl (v 212 ((((4 * e) + 3)).toNat))), some (.inl ((v 212 ((((4 * e) + 2)).toNat)) - (-(v 219 ((t).toNat)))))]) (st' := [.inl (v 212 ((((4 * e) + 3)).toNat))]) rfl ?_
      refine r_if_eq (pc0 := 55) (len := 3) (t := 63) rfl (by first | assumption | (unfold R32 at *; omega) | omega) (fun h_55 => ?_) (fun h_55 => ?_)
      · show WV _ _ _ 63 _ _ _ _ _
        refine r_ex 2 (pc' := 69) (lo' := [some (.inr (.inr (some 203))), some (.inl e), some (.inl t), some (.inl (v 212 ((((4 * e) + 3)).toNat))), some (.inl ((v 212 ((((4 * e) + 2)).toNat)) - (-(v 219 ((t).toNat)))))]) (st' := [.inl ((v 212 ((((4 * e) + 2)).toNat)) - (-(v 219 ((t).toNat))))]) rfl ?_
        refine r_ret (rr := some (.inl ((v 212 ((((4 * e) + 2)).toNat)) - (-(v 219 ((t).toNat)))))) (I := .ireturn) (pc0 := 69) (len := 1) rfl rfl ?_
        refine ⟨?_, rfl, rfl⟩
        congr 2
        unfold mtak mway
        (first | rw [if_pos (show v 212 (4 * e + 3).toNat = 1 by omega)] | rw [if_neg (show ¬ v 212 (4 * e + 3).toNat = 1 by omega), if_pos (show v 212 (4 * e + 3).toNat = 2 by omega)] | rw [if_neg (show ¬ v 212 (4 * e + 3).toNat = 1 by omega), if_neg (show ¬ v 212 (4 * e + 3).toNat = 2 by omega)])
        (first | (rw [if_pos (by omega)]; done) | (rw [if_neg (by omega)]; done) | (exfalso; omega))
      · show WV _ _ _ 58 _ _ _ _ _
        refine r_ex 1 (pc' := 60) (lo' := [some (.inr (.inr (some 203))), some (.inl e), some (.inl t), some (.inl (v 212 ((((4 * e) + 3)).toNat))), some (.inl ((v 212 ((((4 * e) + 2)).toNat)) - (-(v 219 ((t).toNat)))))]) (st' := [.inl ((v 212 ((((4 * e) + 2)).toNat)) - (-(v 219 ((t).toNat))))]) rfl ?_
        refine r_if_le (pc0 := 60) (len := 3) (t := 68) rfl (by first | assumption | (unfold R32 at *; omega) | omega) (fun h_60 => ?_) (fun h_60 => ?_)
        · show WV _ _ _ 68 _ _ _ _ _
          refine r_ex 1 (pc' := 69) (lo' := [some (.inr (.inr (some 203))), some (.inl e), some (.inl t), some (.inl (v 212 ((((4 * e) + 3)).toNat))), some (.inl ((v 212 ((((4 * e) + 2)).toNat)) - (-(v 219 ((t).toNat)))))]) (st' := [.inl 1]) rfl ?_
          refine r_ret (rr := some (.inl 1)) (I := .ireturn) (pc0 := 69) (len := 1) rfl rfl ?_
          refine ⟨?_, rfl, rfl⟩
          congr 2
          unfold mtak mway
          (first | rw [if_pos (show v 212 (4 * e + 3).toNat = 1 by omega)] | rw [if_neg (show ¬ v 212 (4 * e + 3).toNat = 1 by omega), if_pos (show v 212 (4 * e + 3).toNat = 2 by omega)] | rw [if_neg (show ¬ v 212 (4 * e + 3).toNat = 1 by omega), if_neg (show ¬ v 212 (4 * e + 3).toNat = 2 by omega)])
          (first | (rw [if_pos (by omega)]; done) | (rw [if_neg (by omega)]; done) | (exfalso; omega))
        · show WV _ _ _ 63 _ _ _ _ _
          refine r_ex 2 (pc' := 69) (lo' := [some (.inr (.inr (some 203))), some (.inl e), some (.inl t), some (.inl (v 212 ((((4 * e) + 3)).toNat))), some (.inl ((v 212 ((((4 * e) + 2)).toNat)) - (-(v 219 ((t).toNat)))))]) (st' := [.inl ((v 212 ((((4 * e) + 2)).toNat)) - (-(v 219 ((t).toNat))))]) rfl ?_
          refine r_ret (rr := some (.inl ((v 212 ((((4 * e) + 2)).toNat)) - (-(v 219 ((t).toNat)))))) (I := .ireturn) (pc0 := 69) (len := 1) rfl rfl ?_
          refine ⟨?_, rfl, rfl⟩
          congr 2
          unfold mtak mway
          (first | rw [if_pos (show v 212 (4 * e + 3).toNat = 1 by omega)] | rw [if_neg (show ¬ v 212 (4 * e + 3).toNat = 1 by omega), if_pos (show v 212 (4 * e + 3).toNat = 2 by omega)] | rw [if_neg (show ¬ v 212 (4 * e + 3).toNat = 1 by omega), if_neg (show ¬ v 212 (4 * e + 3).toNat = 2 by omega)])
          (first | (rw [if_pos (by omega)]; done) | (rw [if_neg (by omega)]; done) | (exfalso; omega))
  · show WV _ _ _ 26 _ _ _ _ _
    refine r_ex 3 (pc' := 31) (lo' := [some (.inr (.inr (some 203))), some (.inl e), some (.inl t), some (.inl (v 212 ((((4 * e) + 3)).toNat))), none]) (st' := [.inl t, .inr (.inr (some 219)), .inl (v 212 ((((4 * e) + 2)).toNat))]) rfl ?_
    refine r_iald2 (j := 0) (x := (v 219 ((t).toNat))) (pc' := 32) (pc0 := 31) (len := 1) rfl (s_219 _) (by first | assumption | (unfold R32 at *; omega) | omega) (by decide) rfl rfl ?_
    have hb_4 : -60 ≤ (v 219 ((t).toNat)) ∧ (v 219 ((t).toNat)) ≤ 60 := hX 219 ((t).toNat)
    refine r_ex 4 (pc' := 55) (lo' := [some (.inr (.inr (some 203))), some (.inl e), some (.inl t), some (.inl (v 212 ((((4 * e) + 3)).toNat))), some (.inl ((v 212 ((((4 * e) + 2)).toNat)) - (v 219 ((t).toNat))))]) (st' := [.inl (v 212 ((((4 * e) + 3)).toNat))]) rfl ?_
    refine r_if_eq (pc0 := 55) (len := 3) (t := 63) rfl (by first | assumption | (unfold R32 at *; omega) | omega) (fun h_55 => ?_) (fun h_55 => ?_)
    · show WV _ _ _ 63 _ _ _ _ _
      refine r_ex 2 (pc' := 69) (lo' := [some (.inr (.inr (some 203))), some (.inl e), some (.inl t), some (.inl (v 212 ((((4 * e) + 3)).toNat))), some (.inl ((v 212 ((((4 * e) + 2)).toNat)) - (v 219 ((t).toNat))))]) (st' := [.inl ((v 212 ((((4 * e) + 2)).toNat)) - (v 219 ((t).toNat)))]) rfl ?_
      refine r_ret (rr := some (.inl ((v 212 ((((4 * e) + 2)).toNat)) - (v 219 ((t).toNat))))) (I := .ireturn) (pc0 := 69) (len := 1) rfl rfl ?_
      refine ⟨?_, rfl, rfl⟩
      congr 2
      unfold mtak mway
      (first | rw [if_pos (show v 212 (4 * e + 3).toNat = 1 by omega)] | rw [if_neg (show ¬ v 212 (4 * e + 3).toNat = 1 by omega), if_pos (show v 212 (4 * e + 3).toNat = 2 by omega)] | rw [if_neg (show ¬ v 212 (4 * e + 3).toNat = 1 by omega), if_neg (show ¬ v 212 (4 * e + 3).toNat = 2 by omega)])
      (first | (rw [if_pos (by omega)]; done) | (rw [if_neg (by omega)]; done) | (exfalso; omega))
    · show WV _ _ _ 58 _ _ _ _ _
      refine r_ex 1 (pc' := 60) (lo' := [some (.inr (.inr (some 203))), some (.inl e), some (.inl t), some (.inl (v 212 ((((4 * e) + 3)).toNat))), some (.inl ((v 212 ((((4 * e) + 2)).toNat)) - (v 219 ((t).toNat))))]) (st' := [.inl ((v 212 ((((4 * e) + 2)).toNat)) - (v 219 ((t).toNat)))]) rfl ?_
      refine r_if_le (pc0 := 60) (len := 3) (t := 68) rfl (by first | assumption | (unfold R32 at *; omega) | omega) (fun h_60 => ?_) (fun h_60 => ?_)
      · show WV _ _ _ 68 _ _ _ _ _
        refine r_ex 1 (pc' := 69) (lo' := [some (.inr (.inr (some 203))), some (.inl e), some (.inl t), some (.inl (v 212 ((((4 * e) + 3)).toNat))), some (.inl ((v 212 ((((4 * e) + 2)).toNat)) - (v 219 ((t).toNat))))]) (st' := [.inl 1]) rfl ?_
        refine r_ret (rr := some (.inl 1)) (I := .ireturn) (pc0 := 69) (len := 1) rfl rfl ?_
        refine ⟨?_, rfl, rfl⟩
        congr 2
        unfold mtak mway
        (first | rw [if_pos (show v 212 (4 * e + 3).toNat = 1 by omega)] | rw [if_neg (show ¬ v 212 (4 * e + 3).toNat = 1 by omega), if_pos (show v 212 (4 * e + 3).toNat = 2 by omega)] | rw [if_neg (show ¬ v 212 (4 * e + 3).toNat = 1 by omega), if_neg (show ¬ v 212 (4 * e + 3).toNat = 2 by omega)])
        (first | (rw [if_pos (by omega)]; done) | (rw [if_neg (by omega)]; done) | (exfalso; omega))
      · show WV _ _ _ 63 _ _ _ _ _
        refine r_ex 2 (pc' := 69) (lo' := [some (.inr (.inr (some 203))), some (.inl e), some (.inl t), some (.inl (v 212 ((((4 * e) + 3)).toNat))), some (.inl ((v 212 ((((4 * e) + 2)).toNat)) - (v 219 ((t).toNat))))]) (st' := [.inl ((v 212 ((((4 * e) + 2)).toNat)) - (v 219 ((t).toNat)))]) rfl ?_
        refine r_ret (rr := some (.inl ((v 212 ((((4 * e) + 2)).toNat)) - (v 219 ((t).toNat))))) (I := .ireturn) (pc0 := 69) (len := 1) rfl rfl ?_
        refine ⟨?_, rfl, rfl⟩
        congr 2
        unfold mtak mway
        (first | rw [if_pos (show v 212 (4 * e + 3).toNat = 1 by omega)] | rw [if_neg (show ¬ v 212 (4 * e + 3).toNat = 1 by omega), if_pos (show v 212 (4 * e + 3).toNat = 2 by omega)] | rw [if_neg (show ¬ v 212 (4 * e + 3).toNat = 1 by omega), if_neg (show ¬ v 212 (4 * e + 3).toNat = 2 by omega)])
        (first | (rw [if_pos (by omega)]; done) | (rw [if_neg (by omega)]; done) | (exfalso; omega))

theorem m_puts {X : PX} {d b : Nat} {v : VS} {t c h y e : Int} (hX : XI v) (ht : 0 ≤ t ∧ t < 300) (hc : 0 ≤ c ∧ c < 9) (hh : 0 ≤ h ∧ h ≤ 99) (hy : -1 ≤ y ∧ y ≤ 299) (he : -1 ≤ e ∧ e ≤ 11) (hm : v 203 43 < 3700) : EvV X d 248 [.inr (.inr (some 203)), .inl t, .inl c, .inl h, .inl y, .inl e] b v (none) b (mput v t c h y e) := by
  refine EvV.of ?_
  show WV _ _ _ 0 [some (.inr (.inr (some 203))), some (.inl t), some (.inl c), some (.inl h), some (.inl y), some (.inl e), none] [] _ _ _
  refine r_ex 9 (pc' := 15) (lo' := [some (.inr (.inr (some 203))), some (.inl t), some (.inl c), some (.inl h), some (.inl y), some (.inl e), some (.inl (5 * (v 203 43)))]) (st' := [.inl c, .inl (5 * (v 203 43)), .inr (.inr (some 225))]) rfl ?_
  have hb_1 : 0 ≤ (v 203 43) ∧ (v 203 43) ≤ 3700 := hX 203 43
  refine r_iast2 (pc' := 16) (pc0 := 15) (len := 1) rfl (s_225 _) (by first | assumption | (unfold R32 at *; omega) | omega) (by decide) rfl ?_
  have hX_2 : XI (v2 v 225 (((5 * (v 203 43))).toNat) c) := XI.put hX (show -1 ≤ c ∧ c ≤ 3699 from (by first | assumption | (unfold R32 at *; omega) | omega))
  refine r_ex 6 (pc' := 25) (lo' := [some (.inr (.inr (some 203))), some (.inl t), some (.inl c), some (.inl h), some (.inl y), some (.inl e), some (.inl (5 * (v 203 43)))]) (st' := [.inl h, .inl ((5 * (v 203 43)) + 1), .inr (.inr (some 225))]) rfl ?_
  refine r_iast2 (pc' := 26) (pc0 := 25) (len := 1) rfl (s_225 _) (by first | assumption | (unfold R32 at *; omega) | omega) (by decide) rfl ?_
  have hX_3 : XI (v2 (v2 v 225 (((5 * (v 203 43))).toNat) c) 225 ((((5 * (v 203 43)) + 1)).toNat) h) := XI.put hX_2 (show -1 ≤ h ∧ h ≤ 3699 from (by first | assumption | (unfold R32 at *; omega) | omega))
  refine r_ex 6 (pc' := 36) (lo' := [some (.inr (.inr (some 203))), some (.inl t), some (.inl c), some (.inl h), some (.inl y), some (.inl e), some (.inl (5 * (v 203 43)))]) (st' := [.inl y, .inl ((5 * (v 203 43)) + 2), .inr (.inr (some 225))]) rfl ?_
  refine r_iast2 (pc' := 37) (pc0 := 36) (len := 1) rfl (s_225 _) (by first | assumption | (unfold R32 at *; omega) | omega) (by decide) rfl ?_
  have hX_4 : XI (v2 (v2 (v2 v 225 (((5 * (v 203 43))).toNat) c) 225 ((((5 * (v 203 43)) + 1)).toNat) h) 225 ((((5 * (v 203 43)) + 2)).toNat) y) := XI.put hX_3 (show -1 ≤ y ∧ y ≤ 3699 from (by first | assumption | (unfold R32 at *; omega) | omega))
  refine r_ex 6 (pc' := 47) (lo' := [some (.inr (.inr (some 203))), some (.inl t), some (.inl c), some (.inl h), some (.inl y), some (.inl e), some (.inl (5 * (v 203 43)))]) (st' := [.inl e, .inl ((5 * (v 203 43)) + 3), .inr (.inr (some 225))]) rfl ?_
  refine r_iast2 (pc' := 48) (pc0 := 47) (len := 1) rfl (s_225 _) (by first | assumption | (unfold R32 at *; omega) | omega) (by decide) rfl ?_
  have hX_5 : XI (v2 (v2 (v2 (v2 v 225 (((5 * (v 203 43))).toNat) c) 225 ((((5 * (v 203 43)) + 1)).toNat) h) 225 ((((5 * (v 203 43)) + 2)).toNat) y) 225 ((((5 * (v 203 43)) + 3)).toNat) e) := XI.put hX_4 (show -1 ≤ e ∧ e ≤ 3699 from (by first | assumption | (unfold R32 at *; omega) | omega))
  refine r_ex 6 (pc' := 57) (lo' := [some (.inr (.inr (some 203))), some (.inl t), some (.inl c), some (.inl h), some (.inl y), some (.inl e), some (.inl (5 * (v 203 43)))]) (st' := [.inl (-1), .inl ((5 * (v 203 43)) + 4), .inr (.inr (some 225))]) rfl ?_
  refine r_iast2 (pc' := 58) (pc0 := 57) (len := 1) rfl (s_225 _) (by first | assumption | (unfold R32 at *; omega) | omega) (by decide) rfl ?_
  have hX_6 : XI (v2 (v2 (v2 (v2 (v2 v 225 (((5 * (v 203 43))).toNat) c) 225 ((((5 * (v 203 43)) + 1)).toNat) h) 225 ((((5 * (v 203 43)) + 2)).toNat) y) 225 ((((5 * (v 203 43)) + 3)).toNat) e) 225 ((((5 * (v 203 43)) + 4)).toNat) (-1)) := XI.put hX_5 (show -1 ≤ (-1) ∧ (-1) ≤ 3699 from (by first | assumption | (unfold R32 at *; omega) | omega))
  refine r_ex 3 (pc' := 63) (lo' := [some (.inr (.inr (some 203))), some (.inl t), some (.inl c), some (.inl h), some (.inl y), some (.inl e), some (.inl (5 * (v 203 43)))]) (st' := [.inl t, .inr (.inr (some 226))]) rfl ?_
  refine r_iald2 (j := 0) (x := (v 226 ((t).toNat))) (pc' := 64) (pc0 := 63) (len := 1) rfl (s_226 _) (by first | assumption | (unfold R32 at *; omega) | omega) (by decide) rfl rfl ?_
  have hb_7 : -1 ≤ (v 226 ((t).toNat)) ∧ (v 226 ((t).toNat)) ≤ 3699 := hX_6 226 ((t).toNat)
  refine r_ex 1 (pc' := 65) (lo' := [some (.inr (.inr (some 203))), some (.inl t), some (.inl c), some (.inl h), some (.inl y), some (.inl e), some (.inl (5 * (v 203 43)))]) (st' := [.inl (-1), .inl (v 226 ((t).toNat))]) rfl ?_
  refine r_ic_ne (pc0 := 65) (len := 3) (t := 81) rfl (by first | assumption | (unfold R32 at *; omega) | omega) (by first | assumption | (unfold R32 at *; omega) | omega) (fun h_65 => ?_) (fun h_65 => ?_)
  · show WV _ _ _ 81 _ _ _ _ _
    refine r_ex 6 (pc' := 91) (lo' := [some (.inr (.inr (some 203))), some (.inl t), some (.inl c), some (.inl h), some (.inl y), some (.inl e), some (.inl (5 * (v 203 43)))]) (st' := [.inl t, .inr (.inr (some 227)), .inl 5, .inr (.inr (some 225))]) rfl ?_
    refine r_iald2 (j := 0) (x := (v 227 ((t).toNat))) (pc' := 92) (pc0 := 91) (len := 1) rfl (s_227 _) (by first | assumption | (unfold R32 at *; omega) | omega) (by decide) rfl rfl ?_
    have hb_8 : 0 ≤ (v 227 ((t).toNat)) ∧ (v 227 ((t).toNat)) ≤ 3699 := hX_6 227 ((t).toNat)
    refine r_ex 5 (pc' := 99) (lo' := [some (.inr (.inr (some 203))), some (.inl t), some (.inl c), some (.inl h), some (.inl y), some (.inl e), some (.inl (5 * (v 203 43)))]) (st' := [.inl (v 203 43), .inl ((5 * (v 227 ((t).toNat))) + 4), .inr (.inr (some 225))]) rfl ?_
    have hb_9 : 0 ≤ (v 203 43) ∧ (v 203 43) ≤ 3700 := hX_6 203 43
    refine r_iast2 (pc' := 100) (pc0 := 99) (len := 1) rfl (s_225 _) (by first | assumption | (unfold R32 at *; omega) | omega) (by decide) rfl ?_
    have hX_10 : XI (v2 (v2 (v2 (v2 (v2 (v2 v 225 (((5 * (v 203 43))).toNat) c) 225 ((((5 * (v 203 43)) + 1)).toNat) h) 225 ((((5 * (v 203 43)) + 2)).toNat) y) 225 ((((5 * (v 203 43)) + 3)).toNat) e) 225 ((((5 * (v 203 43)) + 4)).toNat) (-1)) 225 ((((5 * (v 227 ((t).toNat))) + 4)).toNat) (v 203 43)) := XI.put hX_6 (show -1 ≤ (v 203 43) ∧ (v 203 43) ≤ 3699 from (by first | assumption | (unfold R32 at *; omega) | omega))
    refine r_ex 5 (pc' := 109) (lo' := [some (.inr (.inr (some 203))), some (.inl t), some (.inl c), some (.inl h), some (.inl y), some (.inl e), some (.inl (5 * (v 203 43)))]) (st' := [.inl (v 203 43), .inl t, .inr (.inr (some 227))]) rfl ?_
    have hb_11 : 0 ≤ (v 203 43) ∧ (v 203 43) ≤ 3700 := hX_10 203 43
    refine r_iast2 (pc' := 110) (pc0 := 109) (len := 1) rfl (s_227 _) (by first | assumption | (unfold R32 at *; omega) | omega) (by decide) rfl ?_
    have hX_12 : XI (v2 (v2 (v2 (v2 (v2 (v2 (v2 v 225 (((5 * (v 203 43))).toNat) c) 225 ((((5 * (v 203 43)) + 1)).toNat) h) 225 ((((5 * (v 203 43)) + 2)).toNat) y) 225 ((((5 * (v 203 43)) + 3)).toNat) e) 225 ((((5 * (v 203 43)) + 4)).toNat) (-1)) 225 ((((5 * (v 227 ((t).toNat))) + 4)).toNat) (v 203 43)) 227 ((t).toNat) (v 203 43)) := XI.put hX_10 (show 0 ≤ (v 203 43) ∧ (v 203 43) ≤ 3699 from (by first | assumption | (unfold R32 at *; omega) | omega))
    refine r_ex 5 (pc' := 117) (lo' := [some (.inr (.inr (some 203))), some (.inl t), some (.inl c), some (.inl h), some (.inl y), some (.inl e), some (.inl (5 * (v 203 43)))]) (st' := [.inl ((v 203 43) + 1), .inr (.inr (some 203))]) rfl ?_
    have hb_13 : 0 ≤ (v 203 43) ∧ (v 203 43) ≤ 3700 := hX_12 203 43
    refine r_puti2 (j := 43) (pc' := 120) (pc0 := 117) (len := 3) rfl (s_203 _) rfl rfl rfl (Or.inl rfl) rfl rfl ?_
    have hX_14 : XI (v2 (v2 (v2 (v2 (v2 (v2 (v2 (v2 v 225 (((5 * (v 203 43))).toNat) c) 225 ((((5 * (v 203 43)) + 1)).toNat) h) 225 ((((5 * (v 203 43)) + 2)).toNat) y) 225 ((((5 * (v 203 43)) + 3)).toNat) e) 225 ((((5 * (v 203 43)) + 4)).toNat) (-1)) 225 ((((5 * (v 227 ((t).toNat))) + 4)).toNat) (v 203 43)) 227 ((t).toNat) (v 203 43)) 203 43 ((v 203 43) + 1)) := XI.put hX_12 (show 0 ≤ ((v 203 43) + 1) ∧ ((v 203 43) + 1) ≤ 3700 from (by first | assumption | (unfold R32 at *; omega) | omega))
    refine r_ret (rr := none) (I := .return_) (pc0 := 120) (len := 1) rfl rfl ?_
    refine ⟨rfl, rfl, ?_⟩
    unfold mput mputA
    (first | (rw [if_pos (by omega)]; done) | (rw [if_neg (by omega)]; done) | (exfalso; omega))
  · show WV _ _ _ 68 _ _ _ _ _
    refine r_ex 5 (pc' := 77) (lo' := [some (.inr (.inr (some 203))), some (.inl t), some (.inl c), some (.inl h), some (.inl y), some (.inl e), some (.inl (5 * (v 203 43)))]) (st' := [.inl (v 203 43), .inl t, .inr (.inr (some 226))]) rfl ?_
    have hb_15 : 0 ≤ (v 203 43) ∧ (v 203 43) ≤ 3700 := hX_6 203 43
    refine r_iast2 (pc' := 78) (pc0 := 77) (len := 1) rfl (s_226 _) (by first | assumption | (unfold R32 at *; omega) | omega) (by decide) rfl ?_
    have hX_16 : XI (v2 (v2 (v2 (v2 (v2 (v2 v 225 (((5 * (v 203 43))).toNat) c) 225 ((((5 * (v 203 43)) + 1)).toNat) h) 225 ((((5 * (v 203 43)) + 2)).toNat) y) 225 ((((5 * (v 203 43)) + 3)).toNat) e) 225 ((((5 * (v 203 43)) + 4)).toNat) (-1)) 226 ((t).toNat) (v 203 43)) := XI.put hX_6 (show -1 ≤ (v 203 43) ∧ (v 203 43) ≤ 3699 from (by first | assumption | (unfold R32 at *; omega) | omega))
    refine r_ex 6 (pc' := 109) (lo' := [some (.inr (.inr (some 203))), some (.inl t), some (.inl c), some (.inl h), some (.inl y), some (.inl e), some (.inl (5 * (v 203 43)))]) (st' := [.inl (v 203 43), .inl t, .inr (.inr (some 227))]) rfl ?_
    have hb_17 : 0 ≤ (v 203 43) ∧ (v 203 43) ≤ 3700 := hX_16 203 43
    refine r_iast2 (pc' := 110) (pc0 := 109) (len := 1) rfl (s_227 _) (by first | assumption | (unfold R32 at *; omega) | omega) (by decide) rfl ?_
    have hX_18 : XI (v2 (v2 (v2 (v2 (v2 (v2 (v2 v 225 (((5 * (v 203 43))).toNat) c) 225 ((((5 * (v 203 43)) + 1)).toNat) h) 225 ((((5 * (v 203 43)) + 2)).toNat) y) 225 ((((5 * (v 203 43)) + 3)).toNat) e) 225 ((((5 * (v 203 43)) + 4)).toNat) (-1)) 226 ((t).toNat) (v 203 43)) 227 ((t).toNat) (v 203 43)) := XI.put hX_16 (show 0 ≤ (v 203 43) ∧ (v 203 43) ≤ 3699 from (by first | assumption | (unfold R32 at *; omega) | omega))
    refine r_ex 5 (pc' := 117) (lo' := [some (.inr (.inr (some 203))), some (.inl t), some (.inl c), some (.inl h), some (.inl y), some (.inl e), some (.inl (5 * (v 203 43)))]) (st' := [.inl ((v 203 43) + 1), .inr (.inr (some 203))]) rfl ?_
    have hb_19 : 0 ≤ (v 203 43) ∧ (v 203 43) ≤ 3700 := hX_18 203 43
    refine r_puti2 (j := 43) (pc' := 120) (pc0 := 117) (len := 3) rfl (s_203 _) rfl rfl rfl (Or.inl rfl) rfl rfl ?_
    have hX_20 : XI (v2 (v2 (v2 (v2 (v2 (v2 (v2 (v2 v 225 (((5 * (v 203 43))).toNat) c) 225 ((((5 * (v 203 43)) + 1)).toNat) h) 225 ((((5 * (v 203 43)) + 2)).toNat) y) 225 ((((5 * (v 203 43)) + 3)).toNat) e) 225 ((((5 * (v 203 43)) + 4)).toNat) (-1)) 226 ((t).toNat) (v 203 43)) 227 ((t).toNat) (v 203 43)) 203 43 ((v 203 43) + 1)) := XI.put hX_18 (show 0 ≤ ((v 203 43) + 1) ∧ ((v 203 43) + 1) ≤ 3700 from (by first | assumption | (unfold R32 at *; omega) | omega))
    refine r_ret (rr := none) (I := .return_) (pc0 := 120) (len := 1) rfl rfl ?_
    refine ⟨rfl, rfl, ?_⟩
    unfold mput mputA
    (first | (rw [if_pos (by omega)]; done) | (rw [if_neg (by omega)]; done) | (exfalso; omega))

theorem XI_mputA {v : VS} {c h y e : Int} (hX : XI v) (hc : 0 ≤ c ∧ c < 9) (hh : 0 ≤ h ∧ h ≤ 99) (hy : -1 ≤ y ∧ y ≤ 299) (he : -1 ≤ e ∧ e ≤ 11) : XI (mputA v c h y e) := by
  unfold mputA
  refine XI.put (XI.put (XI.put (XI.put (XI.put hX ?_) ?_) ?_) ?_) ?_
  · exact (show -1 ≤ c ∧ c ≤ 3699 by omega)
  · exact (show -1 ≤ h ∧ h ≤ 3699 by omega)
  · exact (show -1 ≤ y ∧ y ≤ 3699 by omega)
  · exact (show -1 ≤ e ∧ e ≤ 3699 by omega)
  · exact (show (-1 : Int) ≤ -1 ∧ (-1 : Int) ≤ 3699 by omega)
theorem XI_mput {v : VS} {t c h y e : Int} (hX : XI v) (hc : 0 ≤ c ∧ c < 9) (hh : 0 ≤ h ∧ h ≤ 99) (hy : -1 ≤ y ∧ y ≤ 299) (he : -1 ≤ e ∧ e ≤ 11) (hm : v 203 43 < 3700) : XI (mput v t c h y e) := by
  have h1 : 0 ≤ v 203 43 ∧ v 203 43 ≤ 3700 := hX 203 43
  unfold mput
  split
  · refine XI.put (XI.put (XI.put (XI_mputA hX hc hh hy he) ?_) ?_) ?_
    · exact (show -1 ≤ v 203 43 ∧ v 203 43 ≤ 3699 by omega)
    · exact (show 0 ≤ v 203 43 ∧ v 203 43 ≤ 3699 by omega)
    · exact (show 0 ≤ v 203 43 + 1 ∧ v 203 43 + 1 ≤ 3700 by omega)
  · refine XI.put (XI.put (XI.put (XI_mputA hX hc hh hy he) ?_) ?_) ?_
    · exact (show -1 ≤ v 203 43 ∧ v 203 43 ≤ 3699 by omega)
    · exact (show 0 ≤ v 203 43 ∧ v 203 43 ≤ 3699 by omega)
    · exact (show 0 ≤ v 203 43 + 1 ∧ v 203 43 + 1 ≤ 3700 by omega)
