/-! what is due: the class's rows -/
def xput (v : VS) (s c h y e : Int) : VS :=
  if bt (v 74 s.toNat) c = 0 then v2 (v2 (v2 (v2 (v2 (v2 (v2 v 73 5 (min (v 73 5) s)) 73 6 (max (v 73 6) s)) 74 s.toNat (setb (v 74 s.toNat) c)) 78 (s * 9 + c).toNat 0) 75 (s * 9 + c).toNat h) 76 (s * 9 + c).toNat y) 77 (s * 9 + c).toNat e
  else if v 75 (s * 9 + c).toNat < h then v2 (v2 (v2 (v2 (v2 (v2 v 73 5 (min (v 73 5) s)) 73 6 (max (v 73 6) s)) 78 (s * 9 + c).toNat (v 78 (s * 9 + c).toNat + 1)) 75 (s * 9 + c).toNat h) 76 (s * 9 + c).toNat y) 77 (s * 9 + c).toNat e
  else v2 (v2 (v2 v 73 5 (min (v 73 5) s)) 73 6 (max (v 73 6) s)) 78 (s * 9 + c).toNat (v 78 (s * 9 + c).toNat + 1)
theorem setb_in {x c : Int} {k : Nat} (hx : 0 ≤ x ∧ x < 2 ^ k) (hc : 0 ≤ c ∧ c < k) : 0 ≤ setb x c ∧ setb x c < 2 ^ k := by
  unfold setb
  split
  · exact hx
  · rename_i h
    unfold bt at h
    obtain ⟨n, rfl⟩ := Int.eq_ofNat_of_zero_le hc.1
    have hpos : (0 : Int) < 2 ^ n := Int.pow_pos (by omega)
    refine ⟨by show (0 : Int) ≤ x + 2 ^ n; omega, ?_⟩
    show x + 2 ^ n < 2 ^ k
    have h0 : x / 2 ^ n % 2 = 0 := by
      have : ((n : Nat) : Int).toNat = n := by omega
      rw [this] at h
      omega
    have hk : (2 : Int) ^ k = 2 ^ n * 2 * 2 ^ (k - n - 1) := by
      rw [← Int.pow_succ, ← Int.pow_add]
      congr 1
      omega
    have hd : x = 2 ^ n * (x / 2 ^ n) + x % 2 ^ n := (Int.mul_ediv_add_emod x (2 ^ n)).symm
    have hr : x % 2 ^ n < 2 ^ n := Int.emod_lt_of_pos x hpos
    obtain ⟨q, hq⟩ : ∃ q, x / 2 ^ n = 2 * q := ⟨x / 2 ^ n / 2, by omega⟩
    have hP : (0 : Int) < 2 ^ (k - n - 1) := Int.pow_pos (by omega)
    have hq2 : q < 2 ^ (k - n - 1) := by
      apply Int.lt_of_not_ge
      intro hge
      have : 2 ^ n * 2 * 2 ^ (k - n - 1) ≤ 2 ^ n * 2 * q := Int.mul_le_mul_of_nonneg_left hge (by omega)
      have e : 2 ^ n * (x / 2 ^ n) = 2 ^ n * 2 * q := by rw [hq, Int.mul_assoc]
      have hr0 : 0 ≤ x % 2 ^ n := Int.emod_nonneg x (by omega)
      omega
    have : 2 ^ n * 2 * (q + 1) ≤ 2 ^ n * 2 * 2 ^ (k - n - 1) := Int.mul_le_mul_of_nonneg_left (by omega) (by omega)
    have e : 2 ^ n * (x / 2 ^ n) = 2 ^ n * 2 * q := by rw [hq, Int.mul_assoc]
    have e2 : 2 ^ n * 2 * (q + 1) = 2 ^ n * 2 * q + 2 ^ n * 2 := by rw [Int.mul_add, Int.mul_one]
    omega
theorem x_put {X : PX} {d b : Nat} {v : VS} {s c h y e : Int} (hX : XI v) (hs : 0 ≤ s ∧ s < 300) (hc : 0 ≤ c ∧ c < 9) (hh : 0 ≤ h ∧ h ≤ 99) (hy : -1 ≤ y ∧ y ≤ 299) (he : -1 ≤ e ∧ e ≤ 11) : EvV X (d + 1) 77 [.inr (.inr (some 73)), .inl s, .inl c, .inl h, .inl y, .inl e] b v (none) b (xput v s c h y e) := by
  refine EvV.of ?_
  show WV _ _ _ 0 [some (.inr (.inr (some 73))), some (.inl s), some (.inl c), some (.inl h), some (.inl y), some (.inl e), none] [] _ _ _
  refine r_ex 10 (pc' := 14) (lo' := [some (.inr (.inr (some 73))), some (.inl s), some (.inl c), some (.inl h), some (.inl y), some (.inl e), some (.inl ((s * 9) + c))]) (st' := [.inl s, .inl (v 73 5), .inr (.inr (some 73))]) rfl ?_
  have hb_1 : 0 ≤ (v 73 5) ∧ (v 73 5) ≤ 300 := hX 73 5
  refine r_prim (x := .inl (if w32 s < w32 (v 73 5) then s else (v 73 5))) (m := 18) (args := [.inl (v 73 5), .inl s]) (n' := 77) (pc' := 17) (lo' := [some (.inr (.inr (some 73))), some (.inl s), some (.inl c), some (.inl h), some (.inl y), some (.inl e), some (.inl ((s * 9) + c))]) (st' := [.inr (.inr (some 73))]) (I := .invokestatic 18) (pc0 := 14) (len := 3) rfl rfl rfl ?_
  obtain ⟨mn, hmn⟩ : ∃ z : Int, z = (if w32 s < w32 (v 73 5) then s else (v 73 5)) := ⟨_, rfl⟩
  rw [← hmn]
  rw [w32_id (by omega) (by omega), w32_id (by omega) (by omega)] at hmn
  have hmn : mn = min (v 73 5) s := by rw [hmn]; split <;> omega
  refine r_puti2 (j := 5) (pc' := 20) (pc0 := 17) (len := 3) rfl (s_73 _) rfl rfl rfl (Or.inl rfl) rfl rfl ?_
  have hX_2 : XI (v2 v 73 5 mn) := XI.put hX (show 0 ≤ mn ∧ mn ≤ 300 from (by first | assumption | (unfold R32 at *; omega) | omega))
  refine r_ex 4 (pc' := 26) (lo' := [some (.inr (.inr (some 73))), some (.inl s), some (.inl c), some (.inl h), some (.inl y), some (.inl e), some (.inl ((s * 9) + c))]) (st' := [.inl s, .inl (v 73 6), .inr (.inr (some 73))]) rfl ?_
  have hb_3 : -1 ≤ (v 73 6) ∧ (v 73 6) ≤ 299 := hX_2 73 6
  refine r_prim (x := .inl (if w32 (v 73 6) < w32 s then s else (v 73 6))) (m := 69) (args := [.inl (v 73 6), .inl s]) (n' := 77) (pc' := 29) (lo' := [some (.inr (.inr (some 73))), some (.inl s), some (.inl c), some (.inl h), some (.inl y), some (.inl e), some (.inl ((s * 9) + c))]) (st' := [.inr (.inr (some 73))]) (I := .invokestatic 69) (pc0 := 26) (len := 3) rfl rfl rfl ?_
  obtain ⟨mx, hmx⟩ : ∃ z : Int, z = (if w32 (v 73 6) < w32 s then s else (v 73 6)) := ⟨_, rfl⟩
  rw [← hmx]
  rw [w32_id (by omega) (by omega), w32_id (by omega) (by omega)] at hmx
  have hmx : mx = max (v 73 6) s := by rw [hmx]; split <;> omega
  refine r_puti2 (j := 6) (pc' := 32) (pc0 := 29) (len := 3) rfl (s_73 _) rfl rfl rfl (Or.inl rfl) rfl rfl ?_
  have hX_4 : XI (v2 (v2 v 73 5 mn) 73 6 mx) := XI.put hX_2 (show -1 ≤ mx ∧ mx ≤ 299 from (by first | assumption | (unfold R32 at *; omega) | omega))
  refine r_ex 3 (pc' := 37) (lo' := [some (.inr (.inr (some 73))), some (.inl s), some (.inl c), some (.inl h), some (.inl y), some (.inl e), some (.inl ((s * 9) + c))]) (st' := [.inl s, .inr (.inr (some 74))]) rfl ?_
  refine r_iald2 (j := 0) (x := (v 74 ((s).toNat))) (pc' := 38) (pc0 := 37) (len := 1) rfl (s_74 _) (by first | assumption | (unfold R32 at *; omega) | omega) (by decide) rfl rfl ?_
  have hb_5 : 0 ≤ (v 74 ((s).toNat)) ∧ (v 74 ((s).toNat)) ≤ 511 := hX_4 74 ((s).toNat)
  refine r_ex 4 (pc' := 42) (lo' := [some (.inr (.inr (some 73))), some (.inl s), some (.inl c), some (.inl h), some (.inl y), some (.inl e), some (.inl ((s * 9) + c))]) (st' := [.inl (pm_and (pm_shr (v 74 ((s).toNat)) c) 1)]) rfl ?_
  rw [bit_eq (x := (v 74 ((s).toNat))) (c := c) (by omega) (by omega)]
  have hb_6 := bt01 (v 74 ((s).toNat)) c
  refine r_if_ne (pc0 := 42) (len := 3) (t := 68) rfl (by first | assumption | (unfold R32 at *; omega) | omega) (fun h_42 => ?_) (fun h_42 => ?_)
  · show WV _ _ _ 68 _ _ _ _ _
    refine r_ex 4 (pc' := 75) (lo' := [some (.inr (.inr (some 73))), some (.inl s), some (.inl c), some (.inl h), some (.inl y), some (.inl e), some (.inl ((s * 9) + c))]) (st' := [.inl ((s * 9) + c), .inr (.inr (some 78)), .inl ((s * 9) + c), .inr (.inr (some 78))]) rfl ?_
    refine r_iald2 (j := 0) (x := (v 78 ((((s * 9) + c)).toNat))) (pc' := 76) (pc0 := 75) (len := 1) rfl (s_78 _) (by first | assumption | (unfold R32 at *; omega) | omega) (by decide) rfl rfl ?_
    refine r_ex 2 (pc' := 78) (lo' := [some (.inr (.inr (some 73))), some (.inl s), some (.inl c), some (.inl h), some (.inl y), some (.inl e), some (.inl ((s * 9) + c))]) (st' := [.inl ((v 78 ((((s * 9) + c)).toNat)) + 1), .inl ((s * 9) + c), .inr (.inr (some 78))]) rfl ?_
    refine r_iast2 (pc' := 79) (pc0 := 78) (len := 1) rfl (s_78 _) (by first | assumption | (unfold R32 at *; omega) | omega) (by decide) rfl ?_
    have hX_7 : XI (v2 (v2 (v2 v 73 5 mn) 73 6 mx) 78 ((((s * 9) + c)).toNat) ((v 78 ((((s * 9) + c)).toNat)) + 1)) := XI.put hX_4 trivial
    refine r_ex 4 (pc' := 86) (lo' := [some (.inr (.inr (some 73))), some (.inl s), some (.inl c), some (.inl h), some (.inl y), some (.inl e), some (.inl ((s * 9) + c))]) (st' := [.inl ((s * 9) + c), .inr (.inr (some 75)), .inl h]) rfl ?_
    refine r_iald2 (j := 0) (x := (v 75 ((((s * 9) + c)).toNat))) (pc' := 87) (pc0 := 86) (len := 1) rfl (s_75 _) (by first | assumption | (unfold R32 at *; omega) | omega) (by decide) rfl rfl ?_
    have hb_8 : 0 ≤ (v 75 ((((s * 9) + c)).toNat)) ∧ (v 75 ((((s * 9) + c)).toNat)) ≤ 99 := hX_7 75 ((((s * 9) + c)).toNat)
    refine r_ic_gt (pc0 := 87) (len := 3) (t := 91) rfl (by first | assumption | (unfold R32 at *; omega) | omega) (by first | assumption | (unfold R32 at *; omega) | omega) (fun h_87 => ?_) (fun h_87 => ?_)
    · show WV _ _ _ 91 _ _ _ _ _
      refine r_ex 4 (pc' := 98) (lo' := [some (.inr (.inr (some 73))), some (.inl s), some (.inl c), some (.inl h), some (.inl y), some (.inl e), some (.inl ((s * 9) + c))]) (st' := [.inl h, .inl ((s * 9) + c), .inr (.inr (some 75))]) rfl ?_
      refine r_iast2 (pc' := 99) (pc0 := 98) (len := 1) rfl (s_75 _) (by first | assumption | (unfold R32 at *; omega) | omega) (by decide) rfl ?_
      have hX_9 : XI (v2 (v2 (v2 (v2 v 73 5 mn) 73 6 mx) 78 ((((s * 9) + c)).toNat) ((v 78 ((((s * 9) + c)).toNat)) + 1)) 75 ((((s * 9) + c)).toNat) h) := XI.put hX_7 (show 0 ≤ h ∧ h ≤ 99 from (by first | assumption | (unfold R32 at *; omega) | omega))
      refine r_ex 4 (pc' := 107) (lo' := [some (.inr (.inr (some 73))), some (.inl s), some (.inl c), some (.inl h), some (.inl y), some (.inl e), some (.inl ((s * 9) + c))]) (st' := [.inl y, .inl ((s * 9) + c), .inr (.inr (some 76))]) rfl ?_
      refine r_iast2 (pc' := 108) (pc0 := 107) (len := 1) rfl (s_76 _) (by first | assumption | (unfold R32 at *; omega) | omega) (by decide) rfl ?_
      have hX_10 : XI (v2 (v2 (v2 (v2 (v2 v 73 5 mn) 73 6 mx) 78 ((((s * 9) + c)).toNat) ((v 78 ((((s * 9) + c)).toNat)) + 1)) 75 ((((s * 9) + c)).toNat) h) 76 ((((s * 9) + c)).toNat) y) := XI.put hX_9 (show -1 ≤ y ∧ y ≤ 299 from (by first | assumption | (unfold R32 at *; omega) | omega))
      refine r_ex 4 (pc' := 116) (lo' := [some (.inr (.inr (some 73))), some (.inl s), some (.inl c), some (.inl h), some (.inl y), some (.inl e), some (.inl ((s * 9) + c))]) (st' := [.inl e, .inl ((s * 9) + c), .inr (.inr (some 77))]) rfl ?_
      refine r_iast2 (pc' := 117) (pc0 := 116) (len := 1) rfl (s_77 _) (by first | assumption | (unfold R32 at *; omega) | omega) (by decide) rfl ?_
      have hX_11 : XI (v2 (v2 (v2 (v2 (v2 (v2 v 73 5 mn) 73 6 mx) 78 ((((s * 9) + c)).toNat) ((v 78 ((((s * 9) + c)).toNat)) + 1)) 75 ((((s * 9) + c)).toNat) h) 76 ((((s * 9) + c)).toNat) y) 77 ((((s * 9) + c)).toNat) e) := XI.put hX_10 (show -1 ≤ e ∧ e ≤ 11 from (by first | assumption | (unfold R32 at *; omega) | omega))
      refine r_ret (rr := none) (I := .return_) (pc0 := 117) (len := 1) rfl rfl ?_
      refine ⟨rfl, rfl, ?_⟩
      unfold xput
      subst hmn
      subst hmx
      (first | (rw [if_pos (by omega)]; done) | (rw [if_neg (by omega), if_pos (by omega)]; done) | (rw [if_neg (by omega), if_neg (by omega)]; done))
    · show WV _ _ _ 90 _ _ _ _ _
      refine r_ret (rr := none) (I := .return_) (pc0 := 90) (len := 1) rfl rfl ?_
      refine ⟨rfl, rfl, ?_⟩
      unfold xput
      subst hmn
      subst hmx
      (first | (rw [if_pos (by omega)]; done) | (rw [if_neg (by omega), if_pos (by omega)]; done) | (rw [if_neg (by omega), if_neg (by omega)]; done))
  · show WV _ _ _ 45 _ _ _ _ _
    refine r_ex 4 (pc' := 51) (lo' := [some (.inr (.inr (some 73))), some (.inl s), some (.inl c), some (.inl h), some (.inl y), some (.inl e), some (.inl ((s * 9) + c))]) (st' := [.inl s, .inr (.inr (some 74)), .inl s, .inr (.inr (some 74))]) rfl ?_
    refine r_iald2 (j := 0) (x := (v 74 ((s).toNat))) (pc' := 52) (pc0 := 51) (len := 1) rfl (s_74 _) (by first | assumption | (unfold R32 at *; omega) | omega) (by decide) rfl rfl ?_
    have hb_12 : 0 ≤ (v 74 ((s).toNat)) ∧ (v 74 ((s).toNat)) ≤ 511 := hX_4 74 ((s).toNat)
    refine r_ex 4 (pc' := 56) (lo' := [some (.inr (.inr (some 73))), some (.inl s), some (.inl c), some (.inl h), some (.inl y), some (.inl e), some (.inl ((s * 9) + c))]) (st' := [.inl (pm_or (v 74 ((s).toNat)) (pm_shl 1 c)), .inl s, .inr (.inr (some 74))]) rfl ?_
    rw [or_eq (x := (v 74 ((s).toNat))) (c := c) (by omega) (by omega)]
    refine r_iast2 (pc' := 57) (pc0 := 56) (len := 1) rfl (s_74 _) (by first | assumption | (unfold R32 at *; omega) | omega) (by decide) rfl ?_
    have hX_13 : XI (v2 (v2 (v2 v 73 5 mn) 73 6 mx) 74 ((s).toNat) (setb (v 74 ((s).toNat)) c)) := XI.put hX_4 (show 0 ≤ (setb (v 74 ((s).toNat)) c) ∧ (setb (v 74 ((s).toNat)) c) ≤ 511 from (by have := setb_in (x := v 74 (s).toNat) (c := c) (k := 9) (by omega) (by omega); omega))
    refine r_ex 4 (pc' := 64) (lo' := [some (.inr (.inr (some 73))), some (.inl s), some (.inl c), some (.inl h), some (.inl y), some (.inl e), some (.inl ((s * 9) + c))]) (st' := [.inl 0, .inl ((s * 9) + c), .inr (.inr (some 78))]) rfl ?_
    refine r_iast2 (pc' := 65) (pc0 := 64) (len := 1) rfl (s_78 _) (by first | assumption | (unfold R32 at *; omega) | omega) (by decide) rfl ?_
    have hX_14 : XI (v2 (v2 (v2 (v2 v 73 5 mn) 73 6 mx) 74 ((s).toNat) (setb (v 74 ((s).toNat)) c)) 78 ((((s * 9) + c)).toNat) 0) := XI.put hX_13 trivial
    refine r_ex 5 (pc' := 98) (lo' := [some (.inr (.inr (some 73))), some (.inl s), some (.inl c), some (.inl h), some (.inl y), some (.inl e), some (.inl ((s * 9) + c))]) (st' := [.inl h, .inl ((s * 9) + c), .inr (.inr (some 75))]) rfl ?_
    refine r_iast2 (pc' := 99) (pc0 := 98) (len := 1) rfl (s_75 _) (by first | assumption | (unfold R32 at *; omega) | omega) (by decide) rfl ?_
    have hX_15 : XI (v2 (v2 (v2 (v2 (v2 v 73 5 mn) 73 6 mx) 74 ((s).toNat) (setb (v 74 ((s).toNat)) c)) 78 ((((s * 9) + c)).toNat) 0) 75 ((((s * 9) + c)).toNat) h) := XI.put hX_14 (show 0 ≤ h ∧ h ≤ 99 from (by first | assumption | (unfold R32 at *; omega) | omega))
    refine r_ex 4 (pc' := 107) (lo' := [some (.inr (.inr (some 73))), some (.inl s), some (.inl c), some (.inl h), some (.inl y), some (.inl e), some (.inl ((s * 9) + c))]) (st' := [.inl y, .inl ((s * 9) + c), .inr (.inr (some 76))]) rfl ?_
    refine r_iast2 (pc' := 108) (pc0 := 107) (len := 1) rfl (s_76 _) (by first | assumption | (unfold R32 at *; omega) | omega) (by decide) rfl ?_
    have hX_16 : XI (v2 (v2 (v2 (v2 (v2 (v2 v 73 5 mn) 73 6 mx) 74 ((s).toNat) (setb (v 74 ((s).toNat)) c)) 78 ((((s * 9) + c)).toNat) 0) 75 ((((s * 9) + c)).toNat) h) 76 ((((s * 9) + c)).toNat) y) := XI.put hX_15 (show -1 ≤ y ∧ y ≤ 299 from (by first | assumption | (unfold R32 at *; omega) | omega))
    refine r_ex 4 (pc' := 116) (lo' := [some (.inr (.inr (some 73))), some (.inl s), some (.inl c), some (.inl h), some (.inl y), some (.inl e), some (.inl ((s * 9) + c))]) (st' := [.inl e, .inl ((s * 9) + c), .inr (.inr (some 77))]) rfl ?_
    refine r_iast2 (pc' := 117) (pc0 := 116) (len := 1) rfl (s_77 _) (by first | assumption | (unfold R32 at *; omega) | omega) (by decide) rfl ?_
    have hX_17 : XI (v2 (v2 (v2 (v2 (v2 (v2 (v2 v 73 5 mn) 73 6 mx) 74 ((s).toNat) (setb (v 74 ((s).toNat)) c)) 78 ((((s * 9) + c)).toNat) 0) 75 ((((s * 9) + c)).toNat) h) 76 ((((s * 9) + c)).toNat) y) 77 ((((s * 9) + c)).toNat) e) := XI.put hX_16 (show -1 ≤ e ∧ e ≤ 11 from (by first | assumption | (unfold R32 at *; omega) | omega))
    refine r_ret (rr := none) (I := .return_) (pc0 := 117) (len := 1) rfl rfl ?_
    refine ⟨rfl, rfl, ?_⟩
    unfold xput
    subst hmn
    subst hmx
    (first | (rw [if_pos (by omega)]; done) | (rw [if_neg (by omega), if_pos (by omega)]; done) | (rw [if_neg (by omega), if_neg (by omega)]; done))
