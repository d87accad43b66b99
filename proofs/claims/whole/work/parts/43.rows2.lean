/-! rows for walks by program -/
def R64 (x : Int) : Prop := -9223372036854775808 ≤ x ∧ x < 9223372036854775808
theorem R64.w {x : Int} (h : R64 x) : w64 x = x := w64_id h.1 h.2
def iab (x : Int) : Int := if 0 ≤ x then x else 0 - x
theorem iab_in (x : Int) : 0 ≤ iab x ∧ (iab x = x ∨ iab x = -x) := by unfold iab; split <;> omega
theorem mx32 {x y : Int} (hx : R32 x) (hy : R32 y) : (if w32 x < w32 y then y else x) = max x y := by
  rw [hx.w, hy.w]; split <;> omega
theorem mn32 {x y : Int} (hx : R32 x) (hy : R32 y) : (if w32 y < w32 x then y else x) = min x y := by
  rw [hx.w, hy.w]; split <;> omega
theorem mn64 {x y : Int} (hx : R64 x) (hy : R64 y) : (if w64 y < w64 x then y else x) = min x y := by
  rw [hx.w, hy.w]; split <;> omega
theorem mx64 {x y : Int} (hx : R64 x) (hy : R64 y) : (if w64 y < w64 x then x else y) = max x y := by
  rw [hx.w, hy.w]; split <;> omega
theorem ab32 {x : Int} (hx : R32 x) : (if 0 ≤ w32 x then x else 0 - x) = iab x := by
  rw [hx.w]; rfl
theorem w32_in (x : Int) : R32 (w32 x) := by unfold R32 w32; omega
theorem w8_in (x : Int) : -128 ≤ w8 x ∧ w8 x ≤ 127 := by unfold w8; omega
theorem w16_in (x : Int) : -32768 ≤ w16 x ∧ w16 x ≤ 32767 := by unfold w16; omega
theorem ok_b {x : Int} (h : x = 0 ∨ x = 1) : pm_okv 1 (.inl x) = true := by
  rcases h with rfl | rfl <;> rfl
theorem tdiv_nn {x c : Int} (hx : 0 ≤ x) : x.tdiv c = x / c := Int.tdiv_eq_ediv_of_nonneg hx
theorem div_bd {x c : Int} (hx : 0 ≤ x) (hc : 0 < c) : 0 ≤ x / c ∧ x / c ≤ x := ⟨Int.ediv_nonneg hx (by omega), Int.ediv_le_self c hx⟩
theorem mod_bd {x c : Int} (hc : 0 < c) : 0 ≤ x % c ∧ x % c < c := ⟨Int.emod_nonneg x (by omega), Int.emod_lt_of_pos x hc⟩
theorem bm32 {x : Int} (h : R32 x) : x.bmod 4294967296 = x := by
  rw [Int.bmod_def]; unfold R32 at h; split <;> omega
theorem bm64 {x : Int} (h : R64 x) : x.bmod 18446744073709551616 = x := by
  rw [Int.bmod_def]; unfold R64 at h; split <;> omega
theorem of_div {x c : Int} (hx : 0 ≤ x ∧ x < 2147483648) (hc : 0 < c ∧ c < 2147483648) : Int32.ofInt x / Int32.ofInt c = Int32.ofInt (x / c) := by
  have h := div_bd hx.1 hc.1
  rw [← Int32.toInt_inj, Int32.toInt_div, w32_of, w32_of, w32_of, w32_id (by omega) (by omega), w32_id (by omega) (by omega), w32_id (by omega) (by omega), tdiv_nn hx.1]
  exact bm32 ⟨by omega, by omega⟩
theorem of_ldiv {x c : Int} (hx : 0 ≤ x ∧ x < 9223372036854775808) (hc : 0 < c ∧ c < 9223372036854775808) : Int64.ofInt x / Int64.ofInt c = Int64.ofInt (x / c) := by
  have h := div_bd hx.1 hc.1
  rw [← Int64.toInt_inj, Int64.toInt_div, w64_of, w64_of, w64_of, w64_id (by omega) (by omega), w64_id (by omega) (by omega), w64_id (by omega) (by omega), tdiv_nn hx.1]
  exact bm64 ⟨by omega, by omega⟩
theorem pm_div_nn {x c : Int} (hx : 0 ≤ x ∧ x < 2147483648) (hc : 0 < c ∧ c < 2147483648) : pm_div x c = x / c := by
  have h := div_bd hx.1 hc.1
  unfold pm_div
  rw [of_div hx hc, w32_of, w32_id (by omega) (by omega)]
theorem pm_rem_nn {x c : Int} (hx : 0 ≤ x ∧ x < 2147483648) (hc : 0 < c ∧ c < 2147483648) : pm_rem x c = x % c := by
  have h := div_bd hx.1 hc.1
  have h2 := mod_bd (x := x) hc.1
  unfold pm_rem
  rw [of_div hx hc, ← Int32.ofInt_mul, ← Int32.ofInt_sub, w32_of]
  have e : x - x / c * c = x % c := by
    have := Int.mul_ediv_add_emod x c
    rw [Int.mul_comm]; omega
  rw [e, w32_id (by omega) (by omega)]
theorem pm_ldiv_nn {x c : Int} (hx : 0 ≤ x ∧ x < 9223372036854775808) (hc : 0 < c ∧ c < 9223372036854775808) : pm_ldiv x c = x / c := by
  have h := div_bd hx.1 hc.1
  unfold pm_ldiv
  rw [of_ldiv hx hc, w64_of, w64_id (by omega) (by omega)]
theorem pm_lrem_nn {x c : Int} (hx : 0 ≤ x ∧ x < 9223372036854775808) (hc : 0 < c ∧ c < 9223372036854775808) : pm_lrem x c = x % c := by
  have h := div_bd hx.1 hc.1
  have h2 := mod_bd (x := x) hc.1
  unfold pm_lrem
  rw [of_ldiv hx hc, ← Int64.ofInt_mul, ← Int64.ofInt_sub, w64_of]
  have e : x - x / c * c = x % c := by
    have := Int.mul_ediv_add_emod x c
    rw [Int.mul_comm]; omega
  rw [e, w64_id (by omega) (by omega)]
theorem XI.cpy {v : VS} (h : XI v) {k0 k1 : Nat} {a b c : Nat} (hb : ∀ x, (∃ j, inn (bd k0 j) x) → ∀ j, inn (bd k1 j) x) : XI (fset v k1 (va_cpy (v k0) (v k1) a b c)) := by
  refine XI.row h (fun j => ?_)
  unfold va_cpy
  split
  · exact hb _ ⟨_, h k0 _⟩ j
  · exact h k1 j
def vcp (v : VS) (k0 k1 a b c : Nat) : VS := fset v k1 (va_cpy (v k0) (v k1) a b c)
theorem vcp_row {v : VS} {k0 k1 a b c k : Nat} (h : k ≠ k1) : vcp v k0 k1 a b c k = v k := by
  unfold vcp
  rw [fset_at, if_neg h]
theorem vcp_at {v : VS} {k0 k1 c j : Nat} (h : j < c) : vcp v k0 k1 0 0 c k1 j = v k0 j := by
  unfold vcp va_cpy
  rw [fset_same, if_pos (by omega)]
  congr 1
  omega
theorem or_nat {a b : Nat} (ha : a < 4096) (hb : b < 4096) : pm_or (a : Int) (b : Int) = ((a ||| b : Nat) : Int) := by
  have hlt : a ||| b < 2 ^ 12 := Nat.or_lt_two_pow (by omega) (by omega)
  unfold pm_or
  have e : Int32.ofInt (a : Int) ||| Int32.ofInt (b : Int) = Int32.ofInt ((a ||| b : Nat) : Int) := by
    apply Int32.toBitVec_inj.1
    rw [Int32.toBitVec_or, Int32.toBitVec_ofInt, Int32.toBitVec_ofInt, Int32.toBitVec_ofInt, BitVec.ofInt_natCast, BitVec.ofInt_natCast, BitVec.ofInt_natCast, BitVec.ofNat_or]
  rw [e, w32_of, w32_id (by omega) (by omega)]
theorem or_in {x y : Int} {k : Nat} (hx : 0 ≤ x ∧ x < 2 ^ k) (hy : 0 ≤ y ∧ y < 2 ^ k) (hk : k ≤ 12) : 0 ≤ pm_or x y ∧ pm_or x y < 2 ^ k := by
  obtain ⟨a, rfl⟩ := Int.eq_ofNat_of_zero_le hx.1
  obtain ⟨b, rfl⟩ := Int.eq_ofNat_of_zero_le hy.1
  have hp : (2 : Nat) ^ k ≤ 2 ^ 12 := Nat.pow_le_pow_right (by omega) hk
  have ha : a < 2 ^ k := by have := hx.2; exact_mod_cast this
  have hb : b < 2 ^ k := by have := hy.2; exact_mod_cast this
  rw [or_nat (by omega) (by omega)]
  have := Nat.or_lt_two_pow ha hb
  exact ⟨by omega, by exact_mod_cast this⟩
theorem shl1_eq {c : Int} (hc : 0 ≤ c ∧ c < 13) : pm_shl 1 c = 2 ^ c.toNat := by
  obtain ⟨n, rfl⟩ := Int.eq_ofNat_of_zero_le hc.1
  have e : (List.range 13).all (fun n => decide (pm_shl 1 (n : Int) = 2 ^ n)) = true := by decide +kernel
  have q := List.all_eq_true.mp e n (List.mem_range.mpr (by omega))
  simpa using q
theorem pw_in {c : Int} (hc : 0 ≤ c ∧ c < 13) : 1 ≤ (2 : Int) ^ c.toNat ∧ (2 : Int) ^ c.toNat ≤ 4096 := by
  obtain ⟨n, rfl⟩ := Int.eq_ofNat_of_zero_le hc.1
  have e : (List.range 13).all (fun n => decide (1 ≤ (2 : Int) ^ n ∧ (2 : Int) ^ n ≤ 4096)) = true := by decide +kernel
  have q := List.all_eq_true.mp e n (List.mem_range.mpr (by omega))
  simpa using q
theorem pw9 {c : Int} (hc : 0 ≤ c ∧ c < 13) : c ≤ 9 → (2 : Int) ^ c.toNat ≤ 512 := by
  intro h9
  obtain ⟨n, rfl⟩ := Int.eq_ofNat_of_zero_le hc.1
  have e : (List.range 10).all (fun n => decide ((2 : Int) ^ n ≤ 512)) = true := by decide +kernel
  have q := List.all_eq_true.mp e n (List.mem_range.mpr (by omega))
  simpa using q
theorem or_0 {x : Int} (hx : R32 x) : pm_or x 0 = x := by
  unfold pm_or
  rw [show Int32.ofInt 0 = 0 from rfl, Int32.or_zero, w32_of, hx.w]
theorem and_r32 (x y : Int) : R32 (pm_and x y) := by
  unfold pm_and
  exact ⟨Int32.le_toInt _, Int32.toInt_lt _⟩
theorem sh_b {b k : Nat} (h : k ≠ 2) : sh b k = sh 1 k := by
  unfold sh
  by_cases h1 : k ≤ 29
  · rw [show Nat.ble k 29 = true from Nat.ble_eq.mpr h1]
    show (shl_0 b)[k - 0]? = (shl_0 1)[k - 0]?
    rw [Nat.sub_zero]
    rcases (show k = 0 ∨ k = 1 ∨ 3 ≤ k by omega) with rfl | rfl | h3
    · rfl
    · rfl
    · obtain ⟨m, rfl⟩ := Nat.exists_eq_add_of_le h3
      rw [Nat.add_comm]
      rfl
  · rw [show Nat.ble k 29 = false from by rw [Bool.eq_false_iff]; intro q; exact h1 (Nat.le_of_ble_eq_true q)]
    rfl
theorem hp_b {b : Nat} {v : VS} : ((hp b v).1, (hp b v).2.1, fset (hp b v).2.2 2 (some (cellOf (.inr (.inr (4, [.inr (some 3), .inl 0, .inl 0, .inr (some 1), .inl 0, .inl 0, .inl 0, .inl 0, .inl 0]))) (v 2)))) = hp 1 v := by
  unfold hp
  simp only
  congr 2
  funext j
  by_cases hj : j = 2
  · subst hj
    rw [fset_at, if_pos rfl]
    rfl
  · rw [fset_at, if_neg hj, sh_b hj]
section NR
variable {X : PX} {d n pc pc0 len b : Nat} {lo : List (Option PV)} {st r : List PV} {v : VS} {Q : Option PV → Nat → VS → Prop}
theorem n_if_eq {t x : Int} (hf : fe n pc = some (pc0, .ifCond .eq t, len)) (hx : R32 x) (k1 : x = 0 → WV X d n t.toNat lo r b v Q) (k2 : ¬ (x = 0) → WV X d n (pc + len) lo r b v Q) : WV X d n pc lo (.inl x :: r) b v Q := by
  refine r_if hf hx (fun h => k1 ?_) (fun h => k2 ?_)
  all_goals (simp only [pm_cond, Bool.not_eq_true', decide_eq_true_eq, decide_eq_false_iff_not] at h; omega)
theorem n_ic_eq {t x y : Int} (hf : fe n pc = some (pc0, .if_icmp .eq t, len)) (hx : R32 x) (hy : R32 y) (k1 : x = y → WV X d n t.toNat lo r b v Q) (k2 : ¬ (x = y) → WV X d n (pc + len) lo r b v Q) : WV X d n pc lo (.inl y :: .inl x :: r) b v Q := by
  refine r_ic hf hx hy (fun h => k1 ?_) (fun h => k2 ?_)
  all_goals (simp only [pm_cond, Bool.not_eq_true', decide_eq_true_eq, decide_eq_false_iff_not] at h; omega)
theorem n_if_ne {t x : Int} (hf : fe n pc = some (pc0, .ifCond .ne t, len)) (hx : R32 x) (k1 : ¬ (x = 0) → WV X d n t.toNat lo r b v Q) (k2 : x = 0 → WV X d n (pc + len) lo r b v Q) : WV X d n pc lo (.inl x :: r) b v Q := by
  refine r_if hf hx (fun h => k1 ?_) (fun h => k2 ?_)
  all_goals (simp only [pm_cond, Bool.not_eq_true', decide_eq_true_eq, decide_eq_false_iff_not] at h; omega)
theorem n_ic_ne {t x y : Int} (hf : fe n pc = some (pc0, .if_icmp .ne t, len)) (hx : R32 x) (hy : R32 y) (k1 : ¬ (x = y) → WV X d n t.toNat lo r b v Q) (k2 : x = y → WV X d n (pc + len) lo r b v Q) : WV X d n pc lo (.inl y :: .inl x :: r) b v Q := by
  refine r_ic hf hx hy (fun h => k1 ?_) (fun h => k2 ?_)
  all_goals (simp only [pm_cond, Bool.not_eq_true', decide_eq_true_eq, decide_eq_false_iff_not] at h; omega)
theorem n_if_lt {t x : Int} (hf : fe n pc = some (pc0, .ifCond .lt t, len)) (hx : R32 x) (k1 : x < 0 → WV X d n t.toNat lo r b v Q) (k2 : ¬ (x < 0) → WV X d n (pc + len) lo r b v Q) : WV X d n pc lo (.inl x :: r) b v Q := by
  refine r_if hf hx (fun h => k1 ?_) (fun h => k2 ?_)
  all_goals (simp only [pm_cond, Bool.not_eq_true', decide_eq_true_eq, decide_eq_false_iff_not] at h; omega)
theorem n_ic_lt {t x y : Int} (hf : fe n pc = some (pc0, .if_icmp .lt t, len)) (hx : R32 x) (hy : R32 y) (k1 : x < y → WV X d n t.toNat lo r b v Q) (k2 : ¬ (x < y) → WV X d n (pc + len) lo r b v Q) : WV X d n pc lo (.inl y :: .inl x :: r) b v Q := by
  refine r_ic hf hx hy (fun h => k1 ?_) (fun h => k2 ?_)
  all_goals (simp only [pm_cond, Bool.not_eq_true', decide_eq_true_eq, decide_eq_false_iff_not] at h; omega)
theorem n_if_ge {t x : Int} (hf : fe n pc = some (pc0, .ifCond .ge t, len)) (hx : R32 x) (k1 : ¬ (x < 0) → WV X d n t.toNat lo r b v Q) (k2 : x < 0 → WV X d n (pc + len) lo r b v Q) : WV X d n pc lo (.inl x :: r) b v Q := by
  refine r_if hf hx (fun h => k1 ?_) (fun h => k2 ?_)
  all_goals (simp only [pm_cond, Bool.not_eq_true', decide_eq_true_eq, decide_eq_false_iff_not] at h; omega)
theorem n_ic_ge {t x y : Int} (hf : fe n pc = some (pc0, .if_icmp .ge t, len)) (hx : R32 x) (hy : R32 y) (k1 : ¬ (x < y) → WV X d n t.toNat lo r b v Q) (k2 : x < y → WV X d n (pc + len) lo r b v Q) : WV X d n pc lo (.inl y :: .inl x :: r) b v Q := by
  refine r_ic hf hx hy (fun h => k1 ?_) (fun h => k2 ?_)
  all_goals (simp only [pm_cond, Bool.not_eq_true', decide_eq_true_eq, decide_eq_false_iff_not] at h; omega)
theorem n_if_gt {t x : Int} (hf : fe n pc = some (pc0, .ifCond .gt t, len)) (hx : R32 x) (k1 : 0 < x → WV X d n t.toNat lo r b v Q) (k2 : ¬ (0 < x) → WV X d n (pc + len) lo r b v Q) : WV X d n pc lo (.inl x :: r) b v Q := by
  refine r_if hf hx (fun h => k1 ?_) (fun h => k2 ?_)
  all_goals (simp only [pm_cond, Bool.not_eq_true', decide_eq_true_eq, decide_eq_false_iff_not] at h; omega)
theorem n_ic_gt {t x y : Int} (hf : fe n pc = some (pc0, .if_icmp .gt t, len)) (hx : R32 x) (hy : R32 y) (k1 : y < x → WV X d n t.toNat lo r b v Q) (k2 : ¬ (y < x) → WV X d n (pc + len) lo r b v Q) : WV X d n pc lo (.inl y :: .inl x :: r) b v Q := by
  refine r_ic hf hx hy (fun h => k1 ?_) (fun h => k2 ?_)
  all_goals (simp only [pm_cond, Bool.not_eq_true', decide_eq_true_eq, decide_eq_false_iff_not] at h; omega)
theorem n_if_le {t x : Int} (hf : fe n pc = some (pc0, .ifCond .le t, len)) (hx : R32 x) (k1 : ¬ (0 < x) → WV X d n t.toNat lo r b v Q) (k2 : 0 < x → WV X d n (pc + len) lo r b v Q) : WV X d n pc lo (.inl x :: r) b v Q := by
  refine r_if hf hx (fun h => k1 ?_) (fun h => k2 ?_)
  all_goals (simp only [pm_cond, Bool.not_eq_true', decide_eq_true_eq, decide_eq_false_iff_not] at h; omega)
theorem n_ic_le {t x y : Int} (hf : fe n pc = some (pc0, .if_icmp .le t, len)) (hx : R32 x) (hy : R32 y) (k1 : ¬ (y < x) → WV X d n t.toNat lo r b v Q) (k2 : y < x → WV X d n (pc + len) lo r b v Q) : WV X d n pc lo (.inl y :: .inl x :: r) b v Q := by
  refine r_ic hf hx hy (fun h => k1 ?_) (fun h => k2 ?_)
  all_goals (simp only [pm_cond, Bool.not_eq_true', decide_eq_true_eq, decide_eq_false_iff_not] at h; omega)
theorem n_lc_eq {t x y : Int} {pc1 pc2 len2 : Nat} (hf : fe n pc = some (pc0, .lcmp, len)) (hpc : pc + len = pc1) (hf2 : fe n pc1 = some (pc2, .ifCond .eq t, len2)) (hx : R64 x) (hy : R64 y) (k1 : x = y → WV X d n t.toNat lo r b v Q) (k2 : ¬ (x = y) → WV X d n (pc1 + len2) lo r b v Q) : WV X d n pc lo (.inr (.inl y) :: .inr (.inl x) :: r) b v Q := by
  subst hpc
  refine r_go hf (pc' := pc + len) (lo' := lo) (st' := .inl (if x < y then -1 else if x = y then 0 else 1) :: r) (by simp only [pm_step, pm_nx, hx.w, hy.w]) ?_
  refine n_if_eq hf2 ⟨by split <;> (try split) <;> omega, by split <;> (try split) <;> omega⟩ (fun h => k1 ?_) (fun h => k2 ?_)
  all_goals (split at h <;> (try split at h) <;> omega)
theorem n_lc_ne {t x y : Int} {pc1 pc2 len2 : Nat} (hf : fe n pc = some (pc0, .lcmp, len)) (hpc : pc + len = pc1) (hf2 : fe n pc1 = some (pc2, .ifCond .ne t, len2)) (hx : R64 x) (hy : R64 y) (k1 : ¬ (x = y) → WV X d n t.toNat lo r b v Q) (k2 : x = y → WV X d n (pc1 + len2) lo r b v Q) : WV X d n pc lo (.inr (.inl y) :: .inr (.inl x) :: r) b v Q := by
  subst hpc
  refine r_go hf (pc' := pc + len) (lo' := lo) (st' := .inl (if x < y then -1 else if x = y then 0 else 1) :: r) (by simp only [pm_step, pm_nx, hx.w, hy.w]) ?_
  refine n_if_ne hf2 ⟨by split <;> (try split) <;> omega, by split <;> (try split) <;> omega⟩ (fun h => k1 ?_) (fun h => k2 ?_)
  all_goals (split at h <;> (try split at h) <;> omega)
theorem n_lc_lt {t x y : Int} {pc1 pc2 len2 : Nat} (hf : fe n pc = some (pc0, .lcmp, len)) (hpc : pc + len = pc1) (hf2 : fe n pc1 = some (pc2, .ifCond .lt t, len2)) (hx : R64 x) (hy : R64 y) (k1 : x < y → WV X d n t.toNat lo r b v Q) (k2 : ¬ (x < y) → WV X d n (pc1 + len2) lo r b v Q) : WV X d n pc lo (.inr (.inl y) :: .inr (.inl x) :: r) b v Q := by
  subst hpc
  refine r_go hf (pc' := pc + len) (lo' := lo) (st' := .inl (if x < y then -1 else if x = y then 0 else 1) :: r) (by simp only [pm_step, pm_nx, hx.w, hy.w]) ?_
  refine n_if_lt hf2 ⟨by split <;> (try split) <;> omega, by split <;> (try split) <;> omega⟩ (fun h => k1 ?_) (fun h => k2 ?_)
  all_goals (split at h <;> (try split at h) <;> omega)
theorem n_lc_ge {t x y : Int} {pc1 pc2 len2 : Nat} (hf : fe n pc = some (pc0, .lcmp, len)) (hpc : pc + len = pc1) (hf2 : fe n pc1 = some (pc2, .ifCond .ge t, len2)) (hx : R64 x) (hy : R64 y) (k1 : ¬ (x < y) → WV X d n t.toNat lo r b v Q) (k2 : x < y → WV X d n (pc1 + len2) lo r b v Q) : WV X d n pc lo (.inr (.inl y) :: .inr (.inl x) :: r) b v Q := by
  subst hpc
  refine r_go hf (pc' := pc + len) (lo' := lo) (st' := .inl (if x < y then -1 else if x = y then 0 else 1) :: r) (by simp only [pm_step, pm_nx, hx.w, hy.w]) ?_
  refine n_if_ge hf2 ⟨by split <;> (try split) <;> omega, by split <;> (try split) <;> omega⟩ (fun h => k1 ?_) (fun h => k2 ?_)
  all_goals (split at h <;> (try split at h) <;> omega)
theorem n_lc_gt {t x y : Int} {pc1 pc2 len2 : Nat} (hf : fe n pc = some (pc0, .lcmp, len)) (hpc : pc + len = pc1) (hf2 : fe n pc1 = some (pc2, .ifCond .gt t, len2)) (hx : R64 x) (hy : R64 y) (k1 : y < x → WV X d n t.toNat lo r b v Q) (k2 : ¬ (y < x) → WV X d n (pc1 + len2) lo r b v Q) : WV X d n pc lo (.inr (.inl y) :: .inr (.inl x) :: r) b v Q := by
  subst hpc
  refine r_go hf (pc' := pc + len) (lo' := lo) (st' := .inl (if x < y then -1 else if x = y then 0 else 1) :: r) (by simp only [pm_step, pm_nx, hx.w, hy.w]) ?_
  refine n_if_gt hf2 ⟨by split <;> (try split) <;> omega, by split <;> (try split) <;> omega⟩ (fun h => k1 ?_) (fun h => k2 ?_)
  all_goals (split at h <;> (try split at h) <;> omega)
theorem n_lc_le {t x y : Int} {pc1 pc2 len2 : Nat} (hf : fe n pc = some (pc0, .lcmp, len)) (hpc : pc + len = pc1) (hf2 : fe n pc1 = some (pc2, .ifCond .le t, len2)) (hx : R64 x) (hy : R64 y) (k1 : ¬ (y < x) → WV X d n t.toNat lo r b v Q) (k2 : y < x → WV X d n (pc1 + len2) lo r b v Q) : WV X d n pc lo (.inr (.inl y) :: .inr (.inl x) :: r) b v Q := by
  subst hpc
  refine r_go hf (pc' := pc + len) (lo' := lo) (st' := .inl (if x < y then -1 else if x = y then 0 else 1) :: r) (by simp only [pm_step, pm_nx, hx.w, hy.w]) ?_
  refine n_if_le hf2 ⟨by split <;> (try split) <;> omega, by split <;> (try split) <;> omega⟩ (fun h => k1 ?_) (fun h => k2 ?_)
  all_goals (split at h <;> (try split at h) <;> omega)
theorem n_i2l {x : Int} {pc' : Nat} (hf : fe n pc = some (pc0, .i2l, len)) (hx : R32 x) (hpc : pc + len = pc') (k : WV X d n pc' lo (.inr (.inl x) :: r) b v Q) : WV X d n pc lo (.inl x :: r) b v Q := by
  subst hpc
  refine r_go hf ?_ k
  simp only [pm_step, pm_nx, hx.w]
theorem n_i2w {x : Int} {pc' : Nat} (hf : fe n pc = some (pc0, .i2l, len)) (hpc : pc + len = pc') (k : WV X d n pc' lo (.inr (.inl (w32 x)) :: r) b v Q) : WV X d n pc lo (.inl x :: r) b v Q := by
  subst hpc
  refine r_go hf ?_ k
  simp only [pm_step, pm_nx]
theorem n_idiv {x y : Int} {pc' : Nat} (hf : fe n pc = some (pc0, .idiv, len)) (hx : 0 ≤ x ∧ x < 2147483648) (hy : 0 < y ∧ y < 2147483648) (hpc : pc + len = pc') (k : WV X d n pc' lo (.inl (x / y) :: r) b v Q) : WV X d n pc lo (.inl y :: .inl x :: r) b v Q := by
  subst hpc
  refine r_go hf ?_ k
  simp only [pm_step, pm_nx, pm_div_nn hx hy]
  rw [if_neg]
  rw [w32_id (by omega) (by omega)]
  omega
theorem n_irem {x y : Int} {pc' : Nat} (hf : fe n pc = some (pc0, .irem, len)) (hx : 0 ≤ x ∧ x < 2147483648) (hy : 0 < y ∧ y < 2147483648) (hpc : pc + len = pc') (k : WV X d n pc' lo (.inl (x % y) :: r) b v Q) : WV X d n pc lo (.inl y :: .inl x :: r) b v Q := by
  subst hpc
  refine r_go hf ?_ k
  simp only [pm_step, pm_nx, pm_rem_nn hx hy]
  rw [if_neg]
  rw [w32_id (by omega) (by omega)]
  omega
theorem n_ldiv {x y : Int} {pc' : Nat} (hf : fe n pc = some (pc0, .ldiv, len)) (hx : 0 ≤ x ∧ x < 9223372036854775808) (hy : 0 < y ∧ y < 9223372036854775808) (hpc : pc + len = pc') (k : WV X d n pc' lo (.inr (.inl (x / y)) :: r) b v Q) : WV X d n pc lo (.inr (.inl y) :: .inr (.inl x) :: r) b v Q := by
  subst hpc
  refine r_go hf ?_ k
  simp only [pm_step, pm_nx, pm_ldiv_nn hx hy]
  rw [if_neg]
  rw [w64_id (by omega) (by omega)]
  omega
theorem n_lrem {x y : Int} {pc' : Nat} (hf : fe n pc = some (pc0, .lrem, len)) (hx : 0 ≤ x ∧ x < 9223372036854775808) (hy : 0 < y ∧ y < 9223372036854775808) (hpc : pc + len = pc') (k : WV X d n pc' lo (.inr (.inl (x % y)) :: r) b v Q) : WV X d n pc lo (.inr (.inl y) :: .inr (.inl x) :: r) b v Q := by
  subst hpc
  refine r_go hf ?_ k
  simp only [pm_step, pm_nx, pm_lrem_nn hx hy]
  rw [if_neg]
  rw [w64_id (by omega) (by omega)]
  omega
theorem n_ts {x y d0 lw hg : Int} {ts : Array Int} {pc' : Nat} (hf : fe n pc = some (pc0, .tableswitch d0 lw hg ts, len)) (hx : x = y) (hs : (if w32 y < lw ∨ hg < w32 y then none else (ts[(w32 y - lw).toNat]?).map Int.toNat) = some pc') (k : WV X d n pc' lo r b v Q) : WV X d n pc lo (.inl x :: r) b v Q := by
  subst hx
  refine r_go hf (pc' := pc') (lo' := lo) (st' := r) ?_ k
  simp only [pm_step, pm_nx]
  by_cases h : w32 x < lw ∨ hg < w32 x
  · rw [if_pos h] at hs; cases hs
  · rw [if_neg h] at hs
    rw [if_neg h]
    cases hh : ts[(w32 x - lw).toNat]? with
    | none => rw [hh] at hs; cases hs
    | some t => rw [hh] at hs; cases hs; rfl
theorem n_ts_d {x d0 lw hg : Int} {ts : Array Int} {pc' : Nat} (hf : fe n pc = some (pc0, .tableswitch d0 lw hg ts, len)) (hx : R32 x) (hd : (x < lw ∨ hg < x) ∧ d0.toNat = pc') (k : WV X d n pc' lo r b v Q) : WV X d n pc lo (.inl x :: r) b v Q := by
  obtain ⟨hd, rfl⟩ := hd
  refine r_go hf (pc' := d0.toNat) (lo' := lo) (st' := r) ?_ k
  simp only [pm_step, pm_nx, hx.w, if_pos hd]
theorem n_ls {x y d0 : Int} {ps : Array (Int × Int)} {pc' : Nat} (hf : fe n pc = some (pc0, .lookupswitch d0 ps, len)) (hx : x = y) (hs : (match ps.toList.find? (fun q => decide (q.1 = w32 y)) with | some q => q.2.toNat | none => d0.toNat) = pc') (k : WV X d n pc' lo r b v Q) : WV X d n pc lo (.inl x :: r) b v Q := by
  subst hx
  refine r_go hf (pc' := pc') (lo' := lo) (st' := r) ?_ k
  simp only [pm_step, pm_nx]
  cases hh : ps.toList.find? (fun q => decide (q.1 = w32 x)) with
  | none => rw [hh] at hs; simp only at hs; rw [← hs]
  | some q => rw [hh] at hs; simp only at hs; rw [← hs]
theorem n_ls_d {x d0 : Int} {ps : Array (Int × Int)} {pc' : Nat} (hf : fe n pc = some (pc0, .lookupswitch d0 ps, len)) (hx : R32 x) (hs : ps.toList.find? (fun q => decide (q.1 = x)) = none ∧ d0.toNat = pc') (k : WV X d n pc' lo r b v Q) : WV X d n pc lo (.inl x :: r) b v Q := by
  obtain ⟨h1, rfl⟩ := hs
  refine r_go hf (pc' := d0.toNat) (lo' := lo) (st' := r) ?_ k
  simp only [pm_step, pm_nx, hx.w, h1]
theorem n_putb {pc' : Nat} (hf : fe n pc = some (pc0, .putfield 403, len)) (hpc : pc + len = pc') (k : WV X d n pc' lo r 1 v Q) : WV X d n pc lo (.inr (.inr (some 1)) :: .inr (.inr (some 2)) :: r) b v Q := by
  subst hpc
  refine wp_step hf (h' := hp 1 v) ?_ k
  simp only [pm_step, pm_nx, hp_at (s_2 b), cellOf]
  have e3 := hp_b (b := b) (v := v)
  rw [← e3]
  rfl
end NR
theorem EvV.lift {X : PX} {d n b b' : Nat} {args : List PV} {v v' : VS} {r : Option PV} (h : EvV X d n args b v r b' v') : EvV X d n args b v r b' v' := h
theorem xplay_row {R k : Nat} {v : VS} (hk : k < 73 ∨ 78 < k) (h : k < R ∨ R + 11 < k) : xplay R v k = v k := by
  unfold xplay
  rw [xoutL_row hk h]
  unfold xbegin
  rw [xbegL_row hk]
  unfold xbeg0
  rw [xclear_row (by omega) (by omega), vfill_row (by omega), vfill_row (by omega), vfill_row (by omega), vfill_row (by omega), v2_row (by omega), v2_row (by omega), v2_row (by omega), v2_row (by omega)]
theorem o_xplay79 {k : Nat} {v : VS} (hk : k < 73 ∨ 90 < k) : xplay 79 v k = v k := xplay_row (by omega) (by omega)
theorem o_xplay91 {k : Nat} {v : VS} (hk : (k < 73 ∨ 78 < k) ∧ (k < 91 ∨ 102 < k)) : xplay 91 v k = v k := xplay_row (by omega) (by omega)
/-! the slots' cells, by number -/
theorem s_slot (b : Nat) {q : Nat} (h : q < 4) : sh b (107 + 2 * q) = some (.inr (.inr (7, [.inl 1, .inl 0, .inl 0, .inr (some (108 + 2 * q))]))) := by
  rcases (show q = 0 ∨ q = 1 ∨ q = 2 ∨ q = 3 by omega) with rfl | rfl | rfl | rfl <;> rfl
theorem s_slotr (b : Nat) {q : Nat} (h : q < 4) : sh b (108 + 2 * q) = some (.inl (3, 60)) := by
  rcases (show q = 0 ∨ q = 1 ∨ q = 2 ∨ q = 3 by omega) with rfl | rfl | rfl | rfl <;> rfl
theorem cs_slot {X : PX} {b : Nat} {v : VS} {q m len n pc : Nat} {lo : List (Option PV)} {st tl rest : List PV} (hq : q < 4) (h1 : (st.take (pm_m m).1).reverse = .inr (.inr (some (107 + 2 * q))) :: tl) (h2 : st.drop (pm_m m).1 = rest) (h3 : tl.length + 1 = (pm_m m).1) (h4 : (pm_lay (.inr (.inr (some (107 + 2 * q))) :: tl)).length ≤ (pm_m m).2.1) (h5 : pcats rest ≤ 8) (h6 : (pm_m m).2.2.1 = 7) : pm_step X (.invokevirtual m) len n pc lo st (hp b v) = some (.inr (.inr (m, .inr (.inr (some (107 + 2 * q))) :: tl, (n, pc + len, lo, rest)))) := by
  have hr : pm_recv (pm_m m).2.2.1 (hp b v) (.inr (.inr (some (107 + 2 * q))) :: tl) = true := by
    rw [h6]
    simp only [pm_recv]
    rw [hp_at (s_slot b hq)]
    rfl
  show pm_call 0 len n pc lo st (hp b v) m = _
  unfold pm_call
  simp only [h1, h2]
  rw [if_pos ⟨h3, h4, h5, Or.inr hr⟩]
theorem slot_at {s : Int} (h : 0 ≤ s ∧ s < 4) : ([some 107, some 109, some 111, some 113] : List (Option Nat)).getD s.toNat none = some (107 + 2 * s.toNat) := by
  rcases (show s = 0 ∨ s = 1 ∨ s = 2 ∨ s = 3 by omega) with rfl | rfl | rfl | rfl <;> rfl
theorem XI_slot0 {v : VS} (hX : XI v) {q : Nat} (h : q < 4) : 0 ≤ v (107 + 2 * q) 0 ∧ v (107 + 2 * q) 0 ≤ 1 := by
  rcases (show q = 0 ∨ q = 1 ∨ q = 2 ∨ q = 3 by omega) with rfl | rfl | rfl | rfl
  · exact hX 107 0
  · exact hX 109 0
  · exact hX 111 0
  · exact hX 113 0
theorem XI_slot1 {v : VS} (hX : XI v) {q : Nat} (h : q < 4) : 0 ≤ v (107 + 2 * q) 1 ∧ v (107 + 2 * q) 1 ≤ 3 := by
  rcases (show q = 0 ∨ q = 1 ∨ q = 2 ∨ q = 3 by omega) with rfl | rfl | rfl | rfl
  · exact hX 107 1
  · exact hX 109 1
  · exact hX 111 1
  · exact hX 113 1
theorem XI_slot2 {v : VS} (hX : XI v) {q : Nat} (h : q < 4) : 0 ≤ v (107 + 2 * q) 2 ∧ v (107 + 2 * q) 2 ≤ 60 := by
  rcases (show q = 0 ∨ q = 1 ∨ q = 2 ∨ q = 3 by omega) with rfl | rfl | rfl | rfl
  · exact hX 107 2
  · exact hX 109 2
  · exact hX 111 2
  · exact hX 113 2
theorem XI_slotr {v : VS} (hX : XI v) {q : Nat} (h : q < 4) (j : Nat) : R64 (v (108 + 2 * q) j) := by
  have e : -9223372036854775808 ≤ v (108 + 2 * q) j ∧ v (108 + 2 * q) j ≤ 9223372036854775807 := by
    rcases (show q = 0 ∨ q = 1 ∨ q = 2 ∨ q = 3 by omega) with rfl | rfl | rfl | rfl
    · exact hX 108 j
    · exact hX 110 j
    · exact hX 112 j
    · exact hX 114 j
  unfold R64
  omega
theorem XI_slotp0 {v : VS} (hX : XI v) {q : Nat} (h : q < 4) {x : Int} (hx : 0 ≤ x ∧ x ≤ 1) : XI (v2 v (107 + 2 * q) 0 x) := by
  rcases (show q = 0 ∨ q = 1 ∨ q = 2 ∨ q = 3 by omega) with rfl | rfl | rfl | rfl <;> exact XI.put hX hx
theorem XI_slotp1 {v : VS} (hX : XI v) {q : Nat} (h : q < 4) {x : Int} (hx : 0 ≤ x ∧ x ≤ 3) : XI (v2 v (107 + 2 * q) 1 x) := by
  rcases (show q = 0 ∨ q = 1 ∨ q = 2 ∨ q = 3 by omega) with rfl | rfl | rfl | rfl <;> exact XI.put hX hx
theorem XI_slotp2 {v : VS} (hX : XI v) {q : Nat} (h : q < 4) {x : Int} (hx : 0 ≤ x ∧ x ≤ 60) : XI (v2 v (107 + 2 * q) 2 x) := by
  rcases (show q = 0 ∨ q = 1 ∨ q = 2 ∨ q = 3 by omega) with rfl | rfl | rfl | rfl <;> exact XI.put hX hx
theorem XI_slotpr {v : VS} (hX : XI v) {q : Nat} (h : q < 4) {j : Nat} {x : Int} (hx : R64 x) : XI (v2 v (108 + 2 * q) j x) := by
  have hx2 : -9223372036854775808 ≤ x ∧ x ≤ 9223372036854775807 := by unfold R64 at hx; omega
  rcases (show q = 0 ∨ q = 1 ∨ q = 2 ∨ q = 3 by omega) with rfl | rfl | rfl | rfl <;> exact XI.put hX hx2
theorem XI_slotf {v : VS} (hX : XI v) {q : Nat} (h : q < 4) {w : Nat → Int} (hw : ∀ j, R64 (w j)) : XI (fset v (108 + 2 * q) w) := by
  have hx2 : ∀ j, -9223372036854775808 ≤ w j ∧ w j ≤ 9223372036854775807 := fun j => by have := hw j; unfold R64 at this; omega
  rcases (show q = 0 ∨ q = 1 ∨ q = 2 ∨ q = 3 by omega) with rfl | rfl | rfl | rfl <;> exact XI.row hX hx2
