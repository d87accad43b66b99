/-! the reference: what is asked, III -/
theorem pw11 {c : Int} (hc : 0 ≤ c ∧ c < 13) : c ≤ 11 → (2 : Int) ^ c.toNat ≤ 2048 := by
  intro h9
  obtain ⟨n, rfl⟩ := Int.eq_ofNat_of_zero_le hc.1
  have e : (List.range 12).all (fun n => decide ((2 : Int) ^ n ≤ 2048)) = true := by decide +kernel
  have q := List.all_eq_true.mp e n (List.mem_range.mpr (by omega))
  simpa using q
def MN (v : VS) : Prop := ∀ c : Nat, c < 9 → 0 ≤ v 231 c ∧ v 231 c ≤ 300
/-- of every run: no church strikes oftener than there are strikes -/
def MNA : Prop := ∀ u : VS, XI u → CF u → MN (mo_run u)
theorem MN.at {v : VS} (h : MN v) {c : Int} (hc : 0 ≤ c ∧ c ≤ 8) : 0 ≤ v 231 c.toNat ∧ v 231 c.toNat ≤ 300 := h c.toNat (by omega)
theorem mn_told {v : VS} (h : MNA) (hX : XI v) (hc : CF v) : MN (mo_told v) := h _ (i_mo_plainly hX) (CF.of hc (fun k h1 h2 => by rw [o_mo_plainly (by omega)]))
theorem mn_sb {v : VS} {m k : Int} (h : MNA) (hX : XI v) (hm : 0 ≤ m ∧ m ≤ 511) (hk : 0 ≤ k ∧ k ≤ 4095) (hc : CF v) : MN (mo_strikesBy v m k).2 := by
  have h1 := i_mo_plainly hX
  have h30 : 0 ≤ (mo_plainly v) 203 30 ∧ (mo_plainly v) 203 30 ≤ 511 := h1 203 30
  have h31 : 0 ≤ (mo_plainly v) 203 31 ∧ (mo_plainly v) 203 31 ≤ 4095 := h1 203 31
  have q1 := or_in (x := (mo_plainly v) 203 30) (y := m) (k := 9) (by omega) (by omega) (by omega)
  have q2 := or_in (x := (mo_plainly v) 203 31) (y := k) (k := 12) (by omega) (by omega) (by omega)
  have hX1 : XI (v2 (mo_plainly v) 203 30 (pm_or ((mo_plainly v) 203 30) m)) := XI.put h1 (show 0 ≤ pm_or ((mo_plainly v) 203 30) m ∧ pm_or ((mo_plainly v) 203 30) m ≤ 511 by omega)
  have hX2 : XI (v2 (v2 (mo_plainly v) 203 30 (pm_or ((mo_plainly v) 203 30) m)) 203 31 (pm_or ((mo_plainly v) 203 31) k)) := XI.put hX1 (show 0 ≤ pm_or ((mo_plainly v) 203 31) k ∧ pm_or ((mo_plainly v) 203 31) k ≤ 4095 by omega)
  exact h _ hX2 (CF.of hc (fun k h1 h2 => by rw [v2_row (by omega), v2_row (by omega), o_mo_plainly (by omega)]))

noncomputable def mo_isQuiet (v : VS) (t : Int) : Int :=
  (if (v 203 37) = 0 then 1 else (if (mo_at v ((v 203 37) - 1) 0) < t then 1 else 0))
theorem w_mo_isQuiet {X : PX} {d b : Nat} {v : VS} {t : Int} (hX : XI v) (hp_a : R32 t) {Q : Option PV → Nat → VS → Prop} (hQ : (0 ≤ (mo_isQuiet v t) ∧ (mo_isQuiet v t) ≤ 1) → Q (some (.inl (mo_isQuiet v t))) b v) : WV X (d + 1) 273 0 [some (.inr (.inr (some 203))), some (.inl t)] [] b v Q := by
  rw [mo_isQuiet] at hQ
  refine r_ex 2 (pc' := 4) (lo' := [some (.inr (.inr (some 203))), some (.inl t)]) (st' := [.inl (v 203 37)]) rfl ?_
  have hb_1 : 0 ≤ (v 203 37) ∧ (v 203 37) ≤ 300 := hX 203 37
  refine n_if_eq (pc0 := 4) (len := 3) (t := 22) rfl (by first | assumption | omega | (unfold R32 at *; omega) | (unfold R64 at *; omega) | (simp only [R32, R64] at *; omega)) (fun h_4 => ?_) (fun h_4 => ?_)
  · show WV _ _ _ 22 _ _ _ _ _
    rw [if_pos h_4] at hQ
    refine r_ex 2 (pc' := 27) (lo' := [some (.inr (.inr (some 203))), some (.inl t)]) (st' := [.inl 1]) rfl ?_
    refine r_ret (rr := some (.inl 1)) (I := .ireturn) (pc0 := 27) (len := 1) rfl rfl ?_
    exact hQ (by first | assumption | omega | (unfold R32 at *; omega) | (unfold R64 at *; omega) | (simp only [R32, R64] at *; omega))
  · show WV _ _ _ 7 _ _ _ _ _
    rw [if_neg h_4] at hQ
    refine r_ex 6 (pc' := 15) (lo' := [some (.inr (.inr (some 203))), some (.inl t)]) (st' := [.inl 0, .inl ((v 203 37) - 1), .inr (.inr (some 203))]) rfl ?_
    have hp_2 : 0 ≤ ((v 203 37) - 1) ∧ ((v 203 37) - 1) < 300 := (by first | assumption | omega | (unfold R32 at *; omega) | (unfold R64 at *; omega) | (simp only [R32, R64] at *; omega))
    have hp_3 : 0 ≤ (0 : Int) ∧ (0 : Int) < 5 := (by first | assumption | omega | (unfold R32 at *; omega) | (unfold R64 at *; omega) | (simp only [R32, R64] at *; omega))
    refine r_call (m := 254) (args := [.inr (.inr (some 203)), .inl ((v 203 37) - 1), .inl 0]) (n' := 273) (pc' := 18) (lo' := [some (.inr (.inr (some 203))), some (.inl t)]) (st' := []) (I := .invokevirtual 254) (pc0 := 15) (len := 3) rfl rfl rfl (e_mo_at hX hp_2 hp_3) ?_
    show WV _ _ _ 18 _ [.inl (mo_at v ((v 203 37) - 1) 0)] _ _ _
    have hb_4 := n_mo_at (v := v) (i := ((v 203 37) - 1)) (w := 0) hX hp_2 hp_3
    refine r_ex 1 (pc' := 19) (lo' := [some (.inr (.inr (some 203))), some (.inl t)]) (st' := [.inl t, .inl (mo_at v ((v 203 37) - 1) 0)]) rfl ?_
    refine n_ic_ge (pc0 := 19) (len := 3) (t := 26) rfl (by first | assumption | omega | (unfold R32 at *; omega) | (unfold R64 at *; omega) | (simp only [R32, R64] at *; omega)) (by first | assumption | omega | (unfold R32 at *; omega) | (unfold R64 at *; omega) | (simp only [R32, R64] at *; omega)) (fun h_19 => ?_) (fun h_19 => ?_)
    · show WV _ _ _ 26 _ _ _ _ _
      rw [if_neg h_19] at hQ
      refine r_ex 1 (pc' := 27) (lo' := [some (.inr (.inr (some 203))), some (.inl t)]) (st' := [.inl 0]) rfl ?_
      refine r_ret (rr := some (.inl 0)) (I := .ireturn) (pc0 := 27) (len := 1) rfl rfl ?_
      exact hQ (by first | assumption | omega | (unfold R32 at *; omega) | (unfold R64 at *; omega) | (simp only [R32, R64] at *; omega))
    · show WV _ _ _ 22 _ _ _ _ _
      rw [if_pos h_19] at hQ
      refine r_ex 2 (pc' := 27) (lo' := [some (.inr (.inr (some 203))), some (.inl t)]) (st' := [.inl 1]) rfl ?_
      refine r_ret (rr := some (.inl 1)) (I := .ireturn) (pc0 := 27) (len := 1) rfl rfl ?_
      exact hQ (by first | assumption | omega | (unfold R32 at *; omega) | (unfold R64 at *; omega) | (simp only [R32, R64] at *; omega))

theorem e_mo_isQuiet {X : PX} {d b : Nat} {v : VS} {t : Int} (hX : XI v) (hp_a : R32 t) : EvV X (d + 1) 273 [.inr (.inr (some 203)), .inl t] b v (some (.inl (mo_isQuiet v t))) b v := EvV.of (w_mo_isQuiet hX hp_a (fun _ => ⟨rfl, rfl, rfl⟩))

theorem n_mo_isQuiet {v : VS} {t : Int} (hX : XI v) (hp_a : R32 t) : 0 ≤ (mo_isQuiet v t) ∧ (mo_isQuiet v t) ≤ 1 := by
  have q : WV (0, fun _ => 0, none) (0 + 1) 273 0 [some (.inr (.inr (some 203))), some (.inl t)] [] 1 v (fun _ _ _ => 0 ≤ (mo_isQuiet v t) ∧ (mo_isQuiet v t) ≤ 1) := w_mo_isQuiet (X := (0, fun _ => 0, none)) (d := 0) (b := 1) hX hp_a (fun q => q)
  obtain ⟨_, _, _, _, _, _, _, q⟩ := q
  exact q

noncomputable def mo_night_32 : Nat → VS → Int → Int → Int → Int → Int × VS
  | 0, v, t, w, g, s => (0, v)
  | f + 1, v, t, w, g, s => (if s < ((2 : Int) ^ ((v 210 0)).toNat) then (if (pm_and s (v 210 9)) = 0 then (if g = (-1) then (if (mo_isQuiet ((mo_strikesBy v s 0).2) t) = 0 then (mo_night_32 f ((mo_strikesBy v s 0).2) t w g (s + 1)) else (mo_night_32 f ((mo_strikesBy v s 0).2) t w s (s + 1))) else (if (mo_sizeOf v s) < (mo_sizeOf v g) then (if (mo_isQuiet ((mo_strikesBy v s 0).2) t) = 0 then (mo_night_32 f ((mo_strikesBy v s 0).2) t w g (s + 1)) else (mo_night_32 f ((mo_strikesBy v s 0).2) t w s (s + 1))) else (mo_night_32 f v t w g (s + 1)))) else (mo_night_32 f v t w g (s + 1))) else (g, v))
noncomputable def mo_night (v : VS) (t : Int) (w : Int) : Int × VS :=
  (if 0 ≤ t ∧ t < (v 210 1) then (if (0 : Int) ≤ w ∧ w ≤ (1 : Int) then (if (mo_night_32 513 (v2 v 203 0 0) t w (-1) 0).1 = (-1) then ((mo_night_32 513 (v2 v 203 0 0) t w (-1) 0).1, (mo_night_32 513 (v2 v 203 0 0) t w (-1) 0).2) else (if w = 1 then ((mo_night_32 513 (v2 v 203 0 0) t w (-1) 0).1, (mo_night_32 513 (v2 v 203 0 0) t w (-1) 0).2) else ((mo_sizeOf ((mo_night_32 513 (v2 v 203 0 0) t w (-1) 0).2) ((mo_night_32 513 (v2 v 203 0 0) t w (-1) 0).1)), (mo_night_32 513 (v2 v 203 0 0) t w (-1) 0).2))) else ((-2), (v2 v 203 0 0))) else ((-2), (v2 v 203 0 0)))
theorem l_mo_night_32 {X : PX} {d b : Nat} {Q : Option PV → Nat → VS → Prop}  : ∀ (f : Nat) (v : VS) (t : Int) (w : Int) (g : Int) (s : Int), XI v → (0 ≤ t ∧ t ≤ 299) → (R32 w) → (-1 ≤ g ∧ g ≤ 511) → (0 ≤ s ∧ s ≤ 512) → (CF v) → (512 < s + f) → (∀ qx4 : Option PV, XI ((mo_night_32 f v t w g s).2) → (-1 ≤ (mo_night_32 f v t w g s).1 ∧ (mo_night_32 f v t w g s).1 ≤ 511) → (CF ((mo_night_32 f v t w g s).2)) → WV X (d + 1 + 1 + 1 + 1 + 1 + 1) 270 107 [some (.inr (.inr (some 203))), some (.inl t), some (.inl w), some (.inl ((mo_night_32 f v t w g s).1)), qx4] [] b (mo_night_32 f v t w g s).2 Q) → WV X (d + 1 + 1 + 1 + 1 + 1 + 1) 270 32 [some (.inr (.inr (some 203))), some (.inl t), some (.inl w), some (.inl g), some (.inl s)] [] b v Q := by
  intro f
  induction f with
  | zero =>
    intro v t w g s hX hi_0 hi_1 hi_2 hi_3 hi_4 hf hK
    exfalso
    omega
  | succ f ih =>
    intro v t w g s hX hi_0 hi_1 hi_2 hi_3 hi_4 hf hK
    rw [mo_night_32] at hK
    refine r_ex 5 (pc' := 40) (lo' := [some (.inr (.inr (some 203))), some (.inl t), some (.inl w), some (.inl g), some (.inl s)]) (st' := [.inl 0, .inr (.inr (some 210)), .inl 1, .inl s]) rfl ?_
    refine r_iald2 (j := 0) (x := (v 210 0)) (pc' := 41) (pc0 := 40) (len := 1) rfl (s_210 _) (by first | assumption | omega | (unfold R32 at *; omega) | (unfold R64 at *; omega) | (simp only [R32, R64] at *; omega)) (by decide) rfl rfl ?_
    have hb_7 : 0 ≤ (v 210 0) ∧ (v 210 0) ≤ 9 := hX 210 0
    refine r_ex 1 (pc' := 42) (lo' := [some (.inr (.inr (some 203))), some (.inl t), some (.inl w), some (.inl g), some (.inl s)]) (st' := [.inl (pm_shl 1 (v 210 0)), .inl s]) rfl ?_
    rw [shl1_eq (c := (v 210 0)) (by first | assumption | omega | (unfold R32 at *; omega) | (unfold R64 at *; omega) | (simp only [R32, R64] at *; omega))]
    have hb_8 := pw_in (c := (v 210 0)) (by first | assumption | omega | (unfold R32 at *; omega) | (unfold R64 at *; omega) | (simp only [R32, R64] at *; omega))
    have hb_9 := pw9 (c := (v 210 0)) (by first | assumption | omega | (unfold R32 at *; omega) | (unfold R64 at *; omega) | (simp only [R32, R64] at *; omega))
    have hb_10 := pw11 (c := (v 210 0)) (by first | assumption | omega | (unfold R32 at *; omega) | (unfold R64 at *; omega) | (simp only [R32, R64] at *; omega))
    refine n_ic_ge (pc0 := 42) (len := 3) (t := 107) rfl (by first | assumption | omega | (unfold R32 at *; omega) | (unfold R64 at *; omega) | (simp only [R32, R64] at *; omega)) (by first | assumption | omega | (unfold R32 at *; omega) | (unfold R64 at *; omega) | (simp only [R32, R64] at *; omega)) (fun h_42 => ?_) (fun h_42 => ?_)
    · show WV _ _ _ 107 _ _ _ _ _
      rw [if_neg h_42] at hK
      exact hK _ hX (by first | assumption | omega | (unfold R32 at *; omega) | (unfold R64 at *; omega) | (simp only [R32, R64] at *; omega)) (hi_4)
    · show WV _ _ _ 45 _ _ _ _ _
      rw [if_pos h_42] at hK
      refine r_ex 4 (pc' := 53) (lo' := [some (.inr (.inr (some 203))), some (.inl t), some (.inl w), some (.inl g), some (.inl s)]) (st' := [.inl 9, .inr (.inr (some 210)), .inl s]) rfl ?_
      refine r_iald2 (j := 0) (x := (v 210 9)) (pc' := 54) (pc0 := 53) (len := 1) rfl (s_210 _) (by first | assumption | omega | (unfold R32 at *; omega) | (unfold R64 at *; omega) | (simp only [R32, R64] at *; omega)) (by decide) rfl rfl ?_
      have hb_11 : 0 ≤ (v 210 9) ∧ (v 210 9) ≤ 511 := hX 210 9
      refine r_ex 1 (pc' := 55) (lo' := [some (.inr (.inr (some 203))), some (.inl t), some (.inl w), some (.inl g), some (.inl s)]) (st' := [.inl (pm_and s (v 210 9))]) rfl ?_
      refine n_if_ne (pc0 := 55) (len := 3) (t := 101) rfl (and_r32 _ _) (fun h_55 => ?_) (fun h_55 => ?_)
      · show WV _ _ _ 101 _ _ _ _ _
        rw [if_neg h_55] at hK
        refine r_ex 2 (pc' := 32) (lo' := [some (.inr (.inr (some 203))), some (.inl t), some (.inl w), some (.inl g), some (.inl (s + 1))]) (st' := []) rfl ?_
        refine ih v t w g (s + 1)  hX (by first | assumption | omega | (unfold R32 at *; omega) | (unfold R64 at *; omega) | (simp only [R32, R64] at *; omega)) (by first | assumption | omega | (unfold R32 at *; omega) | (unfold R64 at *; omega) | (simp only [R32, R64] at *; omega)) (by first | assumption | omega | (unfold R32 at *; omega) | (unfold R64 at *; omega) | (simp only [R32, R64] at *; omega)) (by first | assumption | omega | (unfold R32 at *; omega) | (unfold R64 at *; omega) | (simp only [R32, R64] at *; omega)) (hi_4) (by first | assumption | omega | (unfold R32 at *; omega) | (unfold R64 at *; omega) | (simp only [R32, R64] at *; omega)) hK
      · show WV _ _ _ 58 _ _ _ _ _
        rw [if_pos h_55] at hK
        refine r_ex 2 (pc' := 60) (lo' := [some (.inr (.inr (some 203))), some (.inl t), some (.inl w), some (.inl g), some (.inl s)]) (st' := [.inl (-1), .inl g]) rfl ?_
        refine n_ic_eq (pc0 := 60) (len := 3) (t := 78) rfl (by first | assumption | omega | (unfold R32 at *; omega) | (unfold R64 at *; omega) | (simp only [R32, R64] at *; omega)) (by first | assumption | omega | (unfold R32 at *; omega) | (unfold R64 at *; omega) | (simp only [R32, R64] at *; omega)) (fun h_60 => ?_) (fun h_60 => ?_)
        · show WV _ _ _ 78 _ _ _ _ _
          rw [if_pos h_60] at hK
          refine r_ex 3 (pc' := 82) (lo' := [some (.inr (.inr (some 203))), some (.inl t), some (.inl w), some (.inl g), some (.inl s)]) (st' := [.inl 0, .inl s, .inr (.inr (some 203))]) rfl ?_
          have hp_12 : 0 ≤ s ∧ s ≤ 511 := (by first | assumption | omega | (unfold R32 at *; omega) | (unfold R64 at *; omega) | (simp only [R32, R64] at *; omega))
          have hp_13 : 0 ≤ (0 : Int) ∧ (0 : Int) ≤ 4095 := (by first | assumption | omega | (unfold R32 at *; omega) | (unfold R64 at *; omega) | (simp only [R32, R64] at *; omega))
          have hp_14 : CF v := hi_4
          refine r_call (m := 272) (args := [.inr (.inr (some 203)), .inl s, .inl 0]) (n' := 270) (pc' := 85) (lo' := [some (.inr (.inr (some 203))), some (.inl t), some (.inl w), some (.inl g), some (.inl s)]) (st' := []) (I := .invokevirtual 272) (pc0 := 82) (len := 3) rfl rfl rfl (e_mo_strikesBy hX hp_12 hp_13 hp_14) ?_
          show WV _ _ _ 85 _ [.inl ((mo_strikesBy v s 0).1)] _ (mo_strikesBy v s 0).2 _
          have hX_15 : XI (mo_strikesBy v s 0).2 := i_mo_strikesBy (v := v) (m := s) (k := 0) hX hp_12 hp_13 hp_14
          have hb_16 := n_mo_strikesBy (v := v) (m := s) (k := 0) hX hp_12 hp_13 hp_14
          refine r_ex 3 (pc' := 88) (lo' := [some (.inr (.inr (some 203))), some (.inl t), some (.inl w), some (.inl g), some (.inl s)]) (st' := [.inl t, .inr (.inr (some 203))]) rfl ?_
          have hp_17 : R32 t := (by first | assumption | omega | (unfold R32 at *; omega) | (unfold R64 at *; omega) | (simp only [R32, R64] at *; omega))
          refine r_call (m := 273) (args := [.inr (.inr (some 203)), .inl t]) (n' := 270) (pc' := 91) (lo' := [some (.inr (.inr (some 203))), some (.inl t), some (.inl w), some (.inl g), some (.inl s)]) (st' := []) (I := .invokevirtual 273) (pc0 := 88) (len := 3) rfl rfl rfl (e_mo_isQuiet hX_15 hp_17) ?_
          show WV _ _ _ 91 _ [.inl (mo_isQuiet ((mo_strikesBy v s 0).2) t)] _ _ _
          have hb_18 := n_mo_isQuiet (v := (mo_strikesBy v s 0).2) (t := t) hX_15 hp_17
          refine n_if_eq (pc0 := 91) (len := 3) (t := 99) rfl (by first | assumption | omega | (unfold R32 at *; omega) | (unfold R64 at *; omega) | (simp only [R32, R64] at *; omega)) (fun h_91 => ?_) (fun h_91 => ?_)
          · show WV _ _ _ 99 _ _ _ _ _
            rw [if_pos h_91] at hK
            refine r_ex 4 (pc' := 32) (lo' := [some (.inr (.inr (some 203))), some (.inl t), some (.inl w), some (.inl g), some (.inl (s + 1))]) (st' := []) rfl ?_
            refine ih ((mo_strikesBy v s 0).2) t w g (s + 1)  hX_15 (by first | assumption | omega | (unfold R32 at *; omega) | (unfold R64 at *; omega) | (simp only [R32, R64] at *; omega)) (by first | assumption | omega | (unfold R32 at *; omega) | (unfold R64 at *; omega) | (simp only [R32, R64] at *; omega)) (by first | assumption | omega | (unfold R32 at *; omega) | (unfold R64 at *; omega) | (simp only [R32, R64] at *; omega)) (by first | assumption | omega | (unfold R32 at *; omega) | (unfold R64 at *; omega) | (simp only [R32, R64] at *; omega)) (show CF ((mo_strikesBy v s 0).2) from (show CF ((mo_strikesBy v s 0).2) from CF.of hi_4 (fun k h1 h2 => by rw [o_mo_strikesBy (by omega)]))) (by first | assumption | omega | (unfold R32 at *; omega) | (unfold R64 at *; omega) | (simp only [R32, R64] at *; omega)) hK
          · show WV _ _ _ 94 _ _ _ _ _
            rw [if_neg h_91] at hK
            refine r_ex 5 (pc' := 32) (lo' := [some (.inr (.inr (some 203))), some (.inl t), some (.inl w), some (.inl s), some (.inl (s + 1))]) (st' := []) rfl ?_
            refine ih ((mo_strikesBy v s 0).2) t w s (s + 1)  hX_15 (by first | assumption | omega | (unfold R32 at *; omega) | (unfold R64 at *; omega) | (simp only [R32, R64] at *; omega)) (by first | assumption | omega | (unfold R32 at *; omega) | (unfold R64 at *; omega) | (simp only [R32, R64] at *; omega)) (by first | assumption | omega | (unfold R32 at *; omega) | (unfold R64 at *; omega) | (simp only [R32, R64] at *; omega)) (by first | assumption | omega | (unfold R32 at *; omega) | (unfold R64 at *; omega) | (simp only [R32, R64] at *; omega)) (show CF ((mo_strikesBy v s 0).2) from (show CF ((mo_strikesBy v s 0).2) from CF.of hi_4 (fun k h1 h2 => by rw [o_mo_strikesBy (by omega)]))) (by first | assumption | omega | (unfold R32 at *; omega) | (unfold R64 at *; omega) | (simp only [R32, R64] at *; omega)) hK
        · show WV _ _ _ 63 _ _ _ _ _
          rw [if_neg h_60] at hK
          refine r_ex 1 (pc' := 65) (lo' := [some (.inr (.inr (some 203))), some (.inl t), some (.inl w), some (.inl g), some (.inl s)]) (st' := [.inl s]) rfl ?_
          have hp_19 : 0 ≤ s ∧ s < 4096 := (by first | assumption | omega | (unfold R32 at *; omega) | (unfold R64 at *; omega) | (simp only [R32, R64] at *; omega))
          refine r_call (m := 271) (args := [.inl s]) (n' := 270) (pc' := 68) (lo' := [some (.inr (.inr (some 203))), some (.inl t), some (.inl w), some (.inl g), some (.inl s)]) (st' := []) (I := .invokestatic 271) (pc0 := 65) (len := 3) rfl rfl rfl (e_mo_sizeOf hX hp_19) ?_
          show WV _ _ _ 68 _ [.inl (mo_sizeOf v s)] _ _ _
          have hb_20 := n_mo_sizeOf (v := v) (s := s) hX hp_19
          refine r_ex 1 (pc' := 69) (lo' := [some (.inr (.inr (some 203))), some (.inl t), some (.inl w), some (.inl g), some (.inl s)]) (st' := [.inl g, .inl (mo_sizeOf v s)]) rfl ?_
          have hp_21 : 0 ≤ g ∧ g < 4096 := (by first | assumption | omega | (unfold R32 at *; omega) | (unfold R64 at *; omega) | (simp only [R32, R64] at *; omega))
          refine r_call (m := 271) (args := [.inl g]) (n' := 270) (pc' := 72) (lo' := [some (.inr (.inr (some 203))), some (.inl t), some (.inl w), some (.inl g), some (.inl s)]) (st' := [.inl (mo_sizeOf v s)]) (I := .invokestatic 271) (pc0 := 69) (len := 3) rfl rfl rfl (e_mo_sizeOf hX hp_21) ?_
          show WV _ _ _ 72 _ [.inl (mo_sizeOf v g), .inl (mo_sizeOf v s)] _ _ _
          have hb_22 := n_mo_sizeOf (v := v) (s := g) hX hp_21
          refine n_ic_lt (pc0 := 72) (len := 3) (t := 78) rfl (by first | assumption | omega | (unfold R32 at *; omega) | (unfold R64 at *; omega) | (simp only [R32, R64] at *; omega)) (by first | assumption | omega | (unfold R32 at *; omega) | (unfold R64 at *; omega) | (simp only [R32, R64] at *; omega)) (fun h_72 => ?_) (fun h_72 => ?_)
          · show WV _ _ _ 78 _ _ _ _ _
            rw [if_pos h_72] at hK
            refine r_ex 3 (pc' := 82) (lo' := [some (.inr (.inr (some 203))), some (.inl t), some (.inl w), some (.inl g), some (.inl s)]) (st' := [.inl 0, .inl s, .inr (.inr (some 203))]) rfl ?_
            have hp_23 : 0 ≤ s ∧ s ≤ 511 := (by first | assumption | omega | (unfold R32 at *; omega) | (unfold R64 at *; omega) | (simp only [R32, R64] at *; omega))
            have hp_24 : 0 ≤ (0 : Int) ∧ (0 : Int) ≤ 4095 := (by first | assumption | omega | (unfold R32 at *; omega) | (unfold R64 at *; omega) | (simp only [R32, R64] at *; omega))
            have hp_25 : CF v := hi_4
            refine r_call (m := 272) (args := [.inr (.inr (some 203)), .inl s, .inl 0]) (n' := 270) (pc' := 85) (lo' := [some (.inr (.inr (some 203))), some (.inl t), some (.inl w), some (.inl g), some (.inl s)]) (st' := []) (I := .invokevirtual 272) (pc0 := 82) (len := 3) rfl rfl rfl (e_mo_strikesBy hX hp_23 hp_24 hp_25) ?_
            show WV _ _ _ 85 _ [.inl ((mo_strikesBy v s 0).1)] _ (mo_strikesBy v s 0).2 _
            have hX_26 : XI (mo_strikesBy v s 0).2 := i_mo_strikesBy (v := v) (m := s) (k := 0) hX hp_23 hp_24 hp_25
            have hb_27 := n_mo_strikesBy (v := v) (m := s) (k := 0) hX hp_23 hp_24 hp_25
            refine r_ex 3 (pc' := 88) (lo' := [some (.inr (.inr (some 203))), some (.inl t), some (.inl w), some (.inl g), some (.inl s)]) (st' := [.inl t, .inr (.inr (some 203))]) rfl ?_
            have hp_28 : R32 t := (by first | assumption | omega | (unfold R32 at *; omega) | (unfold R64 at *; omega) | (simp only [R32, R64] at *; omega))
            refine r_call (m := 273) (args := [.inr (.inr (some 203)), .inl t]) (n' := 270) (pc' := 91) (lo' := [some (.inr (.inr (some 203))), some (.inl t), some (.inl w), some (.inl g), some (.inl s)]) (st' := []) (I := .invokevirtual 273) (pc0 := 88) (len := 3) rfl rfl rfl (e_mo_isQuiet hX_26 hp_28) ?_
            show WV _ _ _ 91 _ [.inl (mo_isQuiet ((mo_strikesBy v s 0).2) t)] _ _ _
            have hb_29 := n_mo_isQuiet (v := (mo_strikesBy v s 0).2) (t := t) hX_26 hp_28
            refine n_if_eq (pc0 := 91) (len := 3) (t := 99) rfl (by first | assumption | omega | (unfold R32 at *; omega) | (unfold R64 at *; omega) | (simp only [R32, R64] at *; omega)) (fun h_91 => ?_) (fun h_91 => ?_)
            · show WV _ _ _ 99 _ _ _ _ _
              rw [if_pos h_91] at hK
              refine r_ex 4 (pc' := 32) (lo' := [some (.inr (.inr (some 203))), some (.inl t), some (.inl w), some (.inl g), some (.inl (s + 1))]) (st' := []) rfl ?_
              refine ih ((mo_strikesBy v s 0).2) t w g (s + 1)  hX_26 (by first | assumption | omega | (unfold R32 at *; omega) | (unfold R64 at *; omega) | (simp only [R32, R64] at *; omega)) (by first | assumption | omega | (unfold R32 at *; omega) | (unfold R64 at *; omega) | (simp only [R32, R64] at *; omega)) (by first | assumption | omega | (unfold R32 at *; omega) | (unfold R64 at *; omega) | (simp only [R32, R64] at *; omega)) (by first | assumption | omega | (unfold R32 at *; omega) | (unfold R64 at *; omega) | (simp only [R32, R64] at *; omega)) (show CF ((mo_strikesBy v s 0).2) from (show CF ((mo_strikesBy v s 0).2) from CF.of hi_4 (fun k h1 h2 => by rw [o_mo_strikesBy (by omega)]))) (by first | assumption | omega | (unfold R32 at *; omega) | (unfold R64 at *; omega) | (simp only [R32, R64] at *; omega)) hK
            · show WV _ _ _ 94 _ _ _ _ _
              rw [if_neg h_91] at hK
              refine r_ex 5 (pc' := 32) (lo' := [some (.inr (.inr (some 203))), some (.inl t), some (.inl w), some (.inl s), some (.inl (s + 1))]) (st' := []) rfl ?_
              refine ih ((mo_strikesBy v s 0).2) t w s (s + 1)  hX_26 (by first | assumption | omega | (unfold R32 at *; omega) | (unfold R64 at *; omega) | (simp only [R32, R64] at *; omega)) (by first | assumption | omega | (unfold R32 at *; omega) | (unfold R64 at *; omega) | (simp only [R32, R64] at *; omega)) (by first | assumption | omega | (unfold R32 at *; omega) | (unfold R64 at *; omega) | (simp only [R32, R64] at *; omega)) (by first | assumption | omega | (unfold R32 at *; omega) | (unfold R64 at *; omega) | (simp only [R32, R64] at *; omega)) (show CF ((mo_strikesBy v s 0).2) from (show CF ((mo_strikesBy v s 0).2) from CF.of hi_4 (fun k h1 h2 => by rw [o_mo_strikesBy (by omega)]))) (by first | assumption | omega | (unfold R32 at *; omega) | (unfold R64 at *; omega) | (simp only [R32, R64] at *; omega)) hK
          · show WV _ _ _ 75 _ _ _ _ _
            rw [if_neg h_72] at hK
            refine r_ex 3 (pc' := 32) (lo' := [some (.inr (.inr (some 203))), some (.inl t), some (.inl w), some (.inl g), some (.inl (s + 1))]) (st' := []) rfl ?_
            refine ih v t w g (s + 1)  hX (by first | assumption | omega | (unfold R32 at *; omega) | (unfold R64 at *; omega) | (simp only [R32, R64] at *; omega)) (by first | assumption | omega | (unfold R32 at *; omega) | (unfold R64 at *; omega) | (simp only [R32, R64] at *; omega)) (by first | assumption | omega | (unfold R32 at *; omega) | (unfold R64 at *; omega) | (simp only [R32, R64] at *; omega)) (by first | assumption | omega | (unfold R32 at *; omega) | (unfold R64 at *; omega) | (simp only [R32, R64] at *; omega)) (hi_4) (by first | assumption | omega | (unfold R32 at *; omega) | (unfold R64 at *; omega) | (simp only [R32, R64] at *; omega)) hK

theorem of_mo_night_32 {rk : Nat} (hk : (rk < 203 ∨ 203 < rk) ∧ (rk < 219 ∨ 231 < rk)) : ∀ (f : Nat) {v : VS} {t : Int} {w : Int} {g : Int} {s : Int}, (mo_night_32 f v t w g s).2 rk = v rk := by
  intro f
  induction f with
  | zero => intro v t w g s; rfl
  | succ f ih =>
    intro v t w g s
    rw [mo_night_32]
    by_cases hc_ : s < ((2 : Int) ^ ((v 210 0)).toNat)
    · rw [if_pos hc_] <;> clear hc_
      by_cases hc_ : (pm_and s (v 210 9)) = 0
      · rw [if_pos hc_] <;> clear hc_
        by_cases hc_ : g = (-1)
        · rw [if_pos hc_] <;> clear hc_
          by_cases hc_ : (mo_isQuiet ((mo_strikesBy v s 0).2) t) = 0
          · rw [if_pos hc_] <;> clear hc_
            all_goals (rw [ih, o_mo_strikesBy (by omega)])
          · rw [if_neg hc_] <;> clear hc_
            all_goals (rw [ih, o_mo_strikesBy (by omega)])
        · rw [if_neg hc_] <;> clear hc_
          by_cases hc_ : (mo_sizeOf v s) < (mo_sizeOf v g)
          · rw [if_pos hc_] <;> clear hc_
            by_cases hc_ : (mo_isQuiet ((mo_strikesBy v s 0).2) t) = 0
            · rw [if_pos hc_] <;> clear hc_
              all_goals (rw [ih, o_mo_strikesBy (by omega)])
            · rw [if_neg hc_] <;> clear hc_
              all_goals (rw [ih, o_mo_strikesBy (by omega)])
          · rw [if_neg hc_] <;> clear hc_
            all_goals (rw [ih])
      · rw [if_neg hc_] <;> clear hc_
        all_goals (rw [ih])
    · rw [if_neg hc_] <;> clear hc_
      all_goals (show v rk = _)
      all_goals rfl
theorem o_mo_night_32 {rk : Nat} {f : Nat} {v : VS} {t : Int} {w : Int} {g : Int} {s : Int} (hk : (rk < 203 ∨ 203 < rk) ∧ (rk < 219 ∨ 231 < rk)) : (mo_night_32 f v t w g s).2 rk = v rk := of_mo_night_32 hk f

theorem w_mo_night {X : PX} {d b : Nat} {v : VS} {t : Int} {w : Int} (hX : XI v) (hp_a : R32 t) (hp_b : R32 w) (hp_c : CF v) {Q : Option PV → Nat → VS → Prop} (hQ : XI (mo_night v t w).2 → Q (some (.inl (mo_night v t w).1)) b (mo_night v t w).2) : WV X (d + 1 + 1 + 1 + 1 + 1 + 1) 270 0 [some (.inr (.inr (some 203))), some (.inl t), some (.inl w), none, none] [] b v Q := by
  rw [mo_night] at hQ
  refine r_ex 2 (pc' := 2) (lo' := [some (.inr (.inr (some 203))), some (.inl t), some (.inl w), none, none]) (st' := [.inl 0, .inr (.inr (some 203))]) rfl ?_
  refine r_puti2 (j := 0) (pc' := 5) (pc0 := 2) (len := 3) rfl (s_203 _) rfl rfl rfl (Or.inl rfl) rfl rfl ?_
  have hX_1 : XI (v2 v 203 0 0) := XI.put hX trivial
  refine r_ex 2 (pc' := 7) (lo' := [some (.inr (.inr (some 203))), some (.inl t), some (.inl w), none, none]) (st' := [.inl t, .inr (.inr (some 203))]) rfl ?_
  refine n_i2l (pc' := 8) (pc0 := 7) (len := 1) rfl (by first | assumption | omega | (unfold R32 at *; omega) | (unfold R64 at *; omega) | (simp only [R32, R64] at *; omega)) rfl ?_
  have hp_2 : R64 t := (by first | assumption | omega | (unfold R32 at *; omega) | (unfold R64 at *; omega) | (simp only [R32, R64] at *; omega))
  have hb_3 : 0 ≤ (v 210 1) ∧ (v 210 1) ≤ 300 := hX_1 210 1
  refine r_callb (P := 0 ≤ t ∧ t < (v 210 1)) (m := 240) (args := [.inr (.inr (some 203)), .inr (.inl t)]) (n' := 270) (pc' := 11) (lo' := [some (.inr (.inr (some 203))), some (.inl t), some (.inl w), none, none]) (st' := []) (I := .invokevirtual 240) (pc0 := 8) (len := 3) rfl rfl rfl (e_mo_isSecond hX_1 hp_2) (fun h_8 => ?_) (fun h_8 => ?_)
  · show WV _ _ _ 11 _ _ _ _ _
    rw [if_pos h_8] at hQ
    refine r_ex 2 (pc' := 15) (lo' := [some (.inr (.inr (some 203))), some (.inl t), some (.inl w), none, none]) (st' := [.inl w]) rfl ?_
    refine n_i2l (pc' := 16) (pc0 := 15) (len := 1) rfl (by first | assumption | omega | (unfold R32 at *; omega) | (unfold R64 at *; omega) | (simp only [R32, R64] at *; omega)) rfl ?_
    refine r_ex 2 (pc' := 18) (lo' := [some (.inr (.inr (some 203))), some (.inl t), some (.inl w), none, none]) (st' := [.inr (.inl 1), .inr (.inl 0), .inr (.inl w)]) rfl ?_
    have hp_4 : R64 w := (by first | assumption | omega | (unfold R32 at *; omega) | (unfold R64 at *; omega) | (simp only [R32, R64] at *; omega))
    have hp_5 : R64 (0 : Int) := (by first | assumption | omega | (unfold R32 at *; omega) | (unfold R64 at *; omega) | (simp only [R32, R64] at *; omega))
    have hp_6 : R64 (1 : Int) := (by first | assumption | omega | (unfold R32 at *; omega) | (unfold R64 at *; omega) | (simp only [R32, R64] at *; omega))
    refine r_callb (P := (0 : Int) ≤ w ∧ w ≤ (1 : Int)) (m := 202) (args := [.inr (.inl w), .inr (.inl 0), .inr (.inl 1)]) (n' := 270) (pc' := 21) (lo' := [some (.inr (.inr (some 203))), some (.inl t), some (.inl w), none, none]) (st' := []) (I := .invokestatic 202) (pc0 := 18) (len := 3) rfl rfl rfl (e_mo_in hX_1 hp_4 hp_5 hp_6) (fun h_18 => ?_) (fun h_18 => ?_)
    · show WV _ _ _ 21 _ _ _ _ _
      rw [if_pos h_18] at hQ
      refine r_ex 5 (pc' := 32) (lo' := [some (.inr (.inr (some 203))), some (.inl t), some (.inl w), some (.inl (-1)), some (.inl 0)]) (st' := []) rfl ?_
      refine l_mo_night_32 513 (v2 v 203 0 0) t w (-1) 0  hX_1 (by first | assumption | omega | (unfold R32 at *; omega) | (unfold R64 at *; omega) | (simp only [R32, R64] at *; omega)) (by first | assumption | omega | (unfold R32 at *; omega) | (unfold R64 at *; omega) | (simp only [R32, R64] at *; omega)) (by first | assumption | omega | (unfold R32 at *; omega) | (unfold R64 at *; omega) | (simp only [R32, R64] at *; omega)) (by first | assumption | omega | (unfold R32 at *; omega) | (unfold R64 at *; omega) | (simp only [R32, R64] at *; omega)) (show CF (v2 v 203 0 0) from (show CF (v2 v 203 0 0) from CF.of hp_c (fun k h1 h2 => by rw [v2_row (by omega)]))) (by first | assumption | omega | (unfold R32 at *; omega) | (unfold R64 at *; omega) | (simp only [R32, R64] at *; omega)) (fun o4_30 hX_30 hv_30_0 hv_30_1 => ?_)
      show WV _ _ _ 107 _ _ _ _ _
      refine r_ex 2 (pc' := 109) (lo' := [some (.inr (.inr (some 203))), some (.inl t), some (.inl w), some (.inl ((mo_night_32 513 (v2 v 203 0 0) t w (-1) 0).1)), o4_30]) (st' := [.inl (-1), .inl ((mo_night_32 513 (v2 v 203 0 0) t w (-1) 0).1)]) rfl ?_
      refine n_ic_eq (pc0 := 109) (len := 3) (t := 117) rfl (by first | assumption | omega | (unfold R32 at *; omega) | (unfold R64 at *; omega) | (simp only [R32, R64] at *; omega)) (by first | assumption | omega | (unfold R32 at *; omega) | (unfold R64 at *; omega) | (simp only [R32, R64] at *; omega)) (fun h_109 => ?_) (fun h_109 => ?_)
      · show WV _ _ _ 117 _ _ _ _ _
        rw [if_pos h_109] at hQ
        refine r_ex 2 (pc' := 125) (lo' := [some (.inr (.inr (some 203))), some (.inl t), some (.inl w), some (.inl ((mo_night_32 513 (v2 v 203 0 0) t w (-1) 0).1)), o4_30]) (st' := [.inl ((mo_night_32 513 (v2 v 203 0 0) t w (-1) 0).1)]) rfl ?_
        refine r_ret (rr := some (.inl ((mo_night_32 513 (v2 v 203 0 0) t w (-1) 0).1))) (I := .ireturn) (pc0 := 125) (len := 1) rfl rfl ?_
        exact hQ hX_30 
      · show WV _ _ _ 112 _ _ _ _ _
        rw [if_neg h_109] at hQ
        refine r_ex 2 (pc' := 114) (lo' := [some (.inr (.inr (some 203))), some (.inl t), some (.inl w), some (.inl ((mo_night_32 513 (v2 v 203 0 0) t w (-1) 0).1)), o4_30]) (st' := [.inl 1, .inl w]) rfl ?_
        refine n_ic_ne (pc0 := 114) (len := 3) (t := 121) rfl (by first | assumption | omega | (unfold R32 at *; omega) | (unfold R64 at *; omega) | (simp only [R32, R64] at *; omega)) (by first | assumption | omega | (unfold R32 at *; omega) | (unfold R64 at *; omega) | (simp only [R32, R64] at *; omega)) (fun h_114 => ?_) (fun h_114 => ?_)
        · show WV _ _ _ 121 _ _ _ _ _
          rw [if_neg h_114] at hQ
          refine r_ex 1 (pc' := 122) (lo' := [some (.inr (.inr (some 203))), some (.inl t), some (.inl w), some (.inl ((mo_night_32 513 (v2 v 203 0 0) t w (-1) 0).1)), o4_30]) (st' := [.inl ((mo_night_32 513 (v2 v 203 0 0) t w (-1) 0).1)]) rfl ?_
          have hp_31 : 0 ≤ ((mo_night_32 513 (v2 v 203 0 0) t w (-1) 0).1) ∧ ((mo_night_32 513 (v2 v 203 0 0) t w (-1) 0).1) < 4096 := (by first | assumption | omega | (unfold R32 at *; omega) | (unfold R64 at *; omega) | (simp only [R32, R64] at *; omega))
          refine r_call (m := 271) (args := [.inl ((mo_night_32 513 (v2 v 203 0 0) t w (-1) 0).1)]) (n' := 270) (pc' := 125) (lo' := [some (.inr (.inr (some 203))), some (.inl t), some (.inl w), some (.inl ((mo_night_32 513 (v2 v 203 0 0) t w (-1) 0).1)), o4_30]) (st' := []) (I := .invokestatic 271) (pc0 := 122) (len := 3) rfl rfl rfl (e_mo_sizeOf hX_30 hp_31) ?_
          show WV _ _ _ 125 _ [.inl (mo_sizeOf ((mo_night_32 513 (v2 v 203 0 0) t w (-1) 0).2) ((mo_night_32 513 (v2 v 203 0 0) t w (-1) 0).1))] _ _ _
          have hb_32 := n_mo_sizeOf (v := (mo_night_32 513 (v2 v 203 0 0) t w (-1) 0).2) (s := (mo_night_32 513 (v2 v 203 0 0) t w (-1) 0).1) hX_30 hp_31
          refine r_ret (rr := some (.inl (mo_sizeOf ((mo_night_32 513 (v2 v 203 0 0) t w (-1) 0).2) ((mo_night_32 513 (v2 v 203 0 0) t w (-1) 0).1)))) (I := .ireturn) (pc0 := 125) (len := 1) rfl rfl ?_
          exact hQ hX_30 
        · show WV _ _ _ 117 _ _ _ _ _
          rw [if_pos h_114] at hQ
          refine r_ex 2 (pc' := 125) (lo' := [some (.inr (.inr (some 203))), some (.inl t), some (.inl w), some (.inl ((mo_night_32 513 (v2 v 203 0 0) t w (-1) 0).1)), o4_30]) (st' := [.inl ((mo_night_32 513 (v2 v 203 0 0) t w (-1) 0).1)]) rfl ?_
          refine r_ret (rr := some (.inl ((mo_night_32 513 (v2 v 203 0 0) t w (-1) 0).1))) (I := .ireturn) (pc0 := 125) (len := 1) rfl rfl ?_
          exact hQ hX_30 
    · show WV _ _ _ 21 _ _ _ _ _
      rw [if_neg h_18] at hQ
      refine r_ex 2 (pc' := 26) (lo' := [some (.inr (.inr (some 203))), some (.inl t), some (.inl w), none, none]) (st' := [.inl (-2)]) rfl ?_
      refine r_ret (rr := some (.inl (-2))) (I := .ireturn) (pc0 := 26) (len := 1) rfl rfl ?_
      exact hQ hX_1 
  · show WV _ _ _ 11 _ _ _ _ _
    rw [if_neg h_8] at hQ
    refine r_ex 2 (pc' := 26) (lo' := [some (.inr (.inr (some 203))), some (.inl t), some (.inl w), none, none]) (st' := [.inl (-2)]) rfl ?_
    refine r_ret (rr := some (.inl (-2))) (I := .ireturn) (pc0 := 26) (len := 1) rfl rfl ?_
    exact hQ hX_1 

theorem e_mo_night {X : PX} {d b : Nat} {v : VS} {t : Int} {w : Int} (hX : XI v) (hp_a : R32 t) (hp_b : R32 w) (hp_c : CF v) : EvV X (d + 1 + 1 + 1 + 1 + 1 + 1) 270 [.inr (.inr (some 203)), .inl t, .inl w] b v (some (.inl (mo_night v t w).1)) b ((mo_night v t w).2) := EvV.of (w_mo_night hX hp_a hp_b hp_c (fun _ => ⟨rfl, rfl, rfl⟩))

theorem i_mo_night {v : VS} {t : Int} {w : Int} (hX : XI v) (hp_a : R32 t) (hp_b : R32 w) (hp_c : CF v) : XI ((mo_night v t w).2) := by
  have q : WV (0, fun _ => 0, none) (0 + 1 + 1 + 1 + 1 + 1 + 1) 270 0 [some (.inr (.inr (some 203))), some (.inl t), some (.inl w), none, none] [] 1 v (fun _ _ _ => XI ((mo_night v t w).2)) := w_mo_night (X := (0, fun _ => 0, none)) (d := 0) (b := 1) hX hp_a hp_b hp_c (fun q => q)
  obtain ⟨_, _, _, _, _, _, _, q⟩ := q
  exact q

theorem o_mo_night {rk : Nat} {v : VS} {t : Int} {w : Int} (hk : (rk < 203 ∨ 203 < rk) ∧ (rk < 219 ∨ 231 < rk)) : (mo_night v t w).2 rk = v rk := by
  unfold mo_night
  by_cases hc_ : 0 ≤ t ∧ t < (v 210 1)
  · rw [if_pos hc_] <;> clear hc_
    by_cases hc_ : (0 : Int) ≤ w ∧ w ≤ (1 : Int)
    · rw [if_pos hc_] <;> clear hc_
      by_cases hc_ : (mo_night_32 513 (v2 v 203 0 0) t w (-1) 0).1 = (-1)
      · rw [if_pos hc_] <;> clear hc_
        all_goals (show ((mo_night_32 513 (v2 v 203 0 0) t w (-1) 0).2) rk = _)
        all_goals (rw [o_mo_night_32 (by omega), v2_row (by omega)])
      · rw [if_neg hc_] <;> clear hc_
        by_cases hc_ : w = 1
        · rw [if_pos hc_] <;> clear hc_
          all_goals (show ((mo_night_32 513 (v2 v 203 0 0) t w (-1) 0).2) rk = _)
          all_goals (rw [o_mo_night_32 (by omega), v2_row (by omega)])
        · rw [if_neg hc_] <;> clear hc_
          all_goals (show ((mo_night_32 513 (v2 v 203 0 0) t w (-1) 0).2) rk = _)
          all_goals (rw [o_mo_night_32 (by omega), v2_row (by omega)])
    · rw [if_neg hc_] <;> clear hc_
      all_goals (show (v2 v 203 0 0) rk = _)
      all_goals (rw [v2_row (by omega)])
  · rw [if_neg hc_] <;> clear hc_
    all_goals (show (v2 v 203 0 0) rk = _)
    all_goals (rw [v2_row (by omega)])

noncomputable def mo_spare_32 : Nat → VS → Int → Int → Int → Int → Int × VS
  | 0, v, c, w, g, s => (0, v)
  | f + 1, v, c, w, g, s => (if s < ((2 : Int) ^ ((v 210 3)).toNat) then (if (pm_and s (v 210 10)) = 0 then (if g = (-1) then (if ((mo_strikesBy v 0 s).2 231 ((c).toNat)) = 0 then (mo_spare_32 f ((mo_strikesBy v 0 s).2) c w s (s + 1)) else (mo_spare_32 f ((mo_strikesBy v 0 s).2) c w g (s + 1))) else (if (mo_sizeOf v s) < (mo_sizeOf v g) then (if ((mo_strikesBy v 0 s).2 231 ((c).toNat)) = 0 then (mo_spare_32 f ((mo_strikesBy v 0 s).2) c w s (s + 1)) else (mo_spare_32 f ((mo_strikesBy v 0 s).2) c w g (s + 1))) else (mo_spare_32 f v c w g (s + 1)))) else (mo_spare_32 f v c w g (s + 1))) else (g, v))
noncomputable def mo_spare (v : VS) (c : Int) (w : Int) : Int × VS :=
  (if 0 ≤ c ∧ c < (v 210 0) then (if (0 : Int) ≤ w ∧ w ≤ (1 : Int) then (if (mo_spare_32 4097 (v2 v 203 0 0) c w (-1) 0).1 = (-1) then ((mo_spare_32 4097 (v2 v 203 0 0) c w (-1) 0).1, (mo_spare_32 4097 (v2 v 203 0 0) c w (-1) 0).2) else (if w = 1 then ((mo_spare_32 4097 (v2 v 203 0 0) c w (-1) 0).1, (mo_spare_32 4097 (v2 v 203 0 0) c w (-1) 0).2) else ((mo_sizeOf ((mo_spare_32 4097 (v2 v 203 0 0) c w (-1) 0).2) ((mo_spare_32 4097 (v2 v 203 0 0) c w (-1) 0).1)), (mo_spare_32 4097 (v2 v 203 0 0) c w (-1) 0).2))) else ((-2), (v2 v 203 0 0))) else ((-2), (v2 v 203 0 0)))
theorem l_mo_spare_32 {X : PX} {d b : Nat} {Q : Option PV → Nat → VS → Prop}  : ∀ (f : Nat) (v : VS) (c : Int) (w : Int) (g : Int) (s : Int), XI v → (0 ≤ c ∧ c ≤ 8) → (R32 w) → (-1 ≤ g ∧ g ≤ 4095) → (0 ≤ s ∧ s ≤ 4096) → (CF v) → (MNA) → (4096 < s + f) → (∀ qx4 : Option PV, XI ((mo_spare_32 f v c w g s).2) → (-1 ≤ (mo_spare_32 f v c w g s).1 ∧ (mo_spare_32 f v c w g s).1 ≤ 4095) → (CF ((mo_spare_32 f v c w g s).2)) → WV X (d + 1 + 1 + 1 + 1 + 1 + 1) 274 108 [some (.inr (.inr (some 203))), some (.inl c), some (.inl w), some (.inl ((mo_spare_32 f v c w g s).1)), qx4] [] b (mo_spare_32 f v c w g s).2 Q) → WV X (d + 1 + 1 + 1 + 1 + 1 + 1) 274 32 [some (.inr (.inr (some 203))), some (.inl c), some (.inl w), some (.inl g), some (.inl s)] [] b v Q := by
  intro f
  induction f with
  | zero =>
    intro v c w g s hX hi_0 hi_1 hi_2 hi_3 hi_4 hi_5 hf hK
    exfalso
    omega
  | succ f ih =>
    intro v c w g s hX hi_0 hi_1 hi_2 hi_3 hi_4 hi_5 hf hK
    rw [mo_spare_32] at hK
    refine r_ex 5 (pc' := 40) (lo' := [some (.inr (.inr (some 203))), some (.inl c), some (.inl w), some (.inl g), some (.inl s)]) (st' := [.inl 3, .inr (.inr (some 210)), .inl 1, .inl s]) rfl ?_
    refine r_iald2 (j := 0) (x := (v 210 3)) (pc' := 41) (pc0 := 40) (len := 1) rfl (s_210 _) (by first | assumption | omega | (unfold R32 at *; omega) | (unfold R64 at *; omega) | (simp only [R32, R64] at *; omega)) (by decide) rfl rfl ?_
    have hb_7 : 0 ≤ (v 210 3) ∧ (v 210 3) ≤ 12 := hX 210 3
    refine r_ex 1 (pc' := 42) (lo' := [some (.inr (.inr (some 203))), some (.inl c), some (.inl w), some (.inl g), some (.inl s)]) (st' := [.inl (pm_shl 1 (v 210 3)), .inl s]) rfl ?_
    rw [shl1_eq (c := (v 210 3)) (by first | assumption | omega | (unfold R32 at *; omega) | (unfold R64 at *; omega) | (simp only [R32, R64] at *; omega))]
    have hb_8 := pw_in (c := (v 210 3)) (by first | assumption | omega | (unfold R32 at *; omega) | (unfold R64 at *; omega) | (simp only [R32, R64] at *; omega))
    have hb_9 := pw9 (c := (v 210 3)) (by first | assumption | omega | (unfold R32 at *; omega) | (unfold R64 at *; omega) | (simp only [R32, R64] at *; omega))
    have hb_10 := pw11 (c := (v 210 3)) (by first | assumption | omega | (unfold R32 at *; omega) | (unfold R64 at *; omega) | (simp only [R32, R64] at *; omega))
    refine n_ic_ge (pc0 := 42) (len := 3) (t := 108) rfl (by first | assumption | omega | (unfold R32 at *; omega) | (unfold R64 at *; omega) | (simp only [R32, R64] at *; omega)) (by first | assumption | omega | (unfold R32 at *; omega) | (unfold R64 at *; omega) | (simp only [R32, R64] at *; omega)) (fun h_42 => ?_) (fun h_42 => ?_)
    · show WV _ _ _ 108 _ _ _ _ _
      rw [if_neg h_42] at hK
      exact hK _ hX (by first | assumption | omega | (unfold R32 at *; omega) | (unfold R64 at *; omega) | (simp only [R32, R64] at *; omega)) (hi_4)
    · show WV _ _ _ 45 _ _ _ _ _
      rw [if_pos h_42] at hK
      refine r_ex 4 (pc' := 53) (lo' := [some (.inr (.inr (some 203))), some (.inl c), some (.inl w), some (.inl g), some (.inl s)]) (st' := [.inl 10, .inr (.inr (some 210)), .inl s]) rfl ?_
      refine r_iald2 (j := 0) (x := (v 210 10)) (pc' := 54) (pc0 := 53) (len := 1) rfl (s_210 _) (by first | assumption | omega | (unfold R32 at *; omega) | (unfold R64 at *; omega) | (simp only [R32, R64] at *; omega)) (by decide) rfl rfl ?_
      have hb_11 : 0 ≤ (v 210 10) ∧ (v 210 10) ≤ 4095 := hX 210 10
      refine r_ex 1 (pc' := 55) (lo' := [some (.inr (.inr (some 203))), some (.inl c), some (.inl w), some (.inl g), some (.inl s)]) (st' := [.inl (pm_and s (v 210 10))]) rfl ?_
      refine n_if_ne (pc0 := 55) (len := 3) (t := 102) rfl (and_r32 _ _) (fun h_55 => ?_) (fun h_55 => ?_)
      · show WV _ _ _ 102 _ _ _ _ _
        rw [if_neg h_55] at hK
        refine r_ex 2 (pc' := 32) (lo' := [some (.inr (.inr (some 203))), some (.inl c), some (.inl w), some (.inl g), some (.inl (s + 1))]) (st' := []) rfl ?_
        refine ih v c w g (s + 1)  hX (by first | assumption | omega | (unfold R32 at *; omega) | (unfold R64 at *; omega) | (simp only [R32, R64] at *; omega)) (by first | assumption | omega | (unfold R32 at *; omega) | (unfold R64 at *; omega) | (simp only [R32, R64] at *; omega)) (by first | assumption | omega | (unfold R32 at *; omega) | (unfold R64 at *; omega) | (simp only [R32, R64] at *; omega)) (by first | assumption | omega | (unfold R32 at *; omega) | (unfold R64 at *; omega) | (simp only [R32, R64] at *; omega)) (hi_4) (by first | assumption | omega | (unfold R32 at *; omega) | (unfold R64 at *; omega) | (simp only [R32, R64] at *; omega)) (by first | assumption | omega | (unfold R32 at *; omega) | (unfold R64 at *; omega) | (simp only [R32, R64] at *; omega)) hK
      · show WV _ _ _ 58 _ _ _ _ _
        rw [if_pos h_55] at hK
        refine r_ex 2 (pc' := 60) (lo' := [some (.inr (.inr (some 203))), some (.inl c), some (.inl w), some (.inl g), some (.inl s)]) (st' := [.inl (-1), .inl g]) rfl ?_
        refine n_ic_eq (pc0 := 60) (len := 3) (t := 78) rfl (by first | assumption | omega | (unfold R32 at *; omega) | (unfold R64 at *; omega) | (simp only [R32, R64] at *; omega)) (by first | assumption | omega | (unfold R32 at *; omega) | (unfold R64 at *; omega) | (simp only [R32, R64] at *; omega)) (fun h_60 => ?_) (fun h_60 => ?_)
        · show WV _ _ _ 78 _ _ _ _ _
          rw [if_pos h_60] at hK
          refine r_ex 3 (pc' := 82) (lo' := [some (.inr (.inr (some 203))), some (.inl c), some (.inl w), some (.inl g), some (.inl s)]) (st' := [.inl s, .inl 0, .inr (.inr (some 203))]) rfl ?_
          have hp_12 : 0 ≤ (0 : Int) ∧ (0 : Int) ≤ 511 := (by first | assumption | omega | (unfold R32 at *; omega) | (unfold R64 at *; omega) | (simp only [R32, R64] at *; omega))
          have hp_13 : 0 ≤ s ∧ s ≤ 4095 := (by first | assumption | omega | (unfold R32 at *; omega) | (unfold R64 at *; omega) | (simp only [R32, R64] at *; omega))
          have hp_14 : CF v := hi_4
          refine r_call (m := 272) (args := [.inr (.inr (some 203)), .inl 0, .inl s]) (n' := 274) (pc' := 85) (lo' := [some (.inr (.inr (some 203))), some (.inl c), some (.inl w), some (.inl g), some (.inl s)]) (st' := []) (I := .invokevirtual 272) (pc0 := 82) (len := 3) rfl rfl rfl (e_mo_strikesBy hX hp_12 hp_13 hp_14) ?_
          show WV _ _ _ 85 _ [.inl ((mo_strikesBy v 0 s).1)] _ (mo_strikesBy v 0 s).2 _
          have hX_15 : XI (mo_strikesBy v 0 s).2 := i_mo_strikesBy (v := v) (m := 0) (k := s) hX hp_12 hp_13 hp_14
          have hb_16 := n_mo_strikesBy (v := v) (m := 0) (k := s) hX hp_12 hp_13 hp_14
          refine r_ex 4 (pc' := 91) (lo' := [some (.inr (.inr (some 203))), some (.inl c), some (.inl w), some (.inl g), some (.inl s)]) (st' := [.inl c, .inr (.inr (some 231))]) rfl ?_
          refine r_iald2 (j := 0) (x := ((mo_strikesBy v 0 s).2 231 ((c).toNat))) (pc' := 92) (pc0 := 91) (len := 1) rfl (s_231 _) (by first | assumption | omega | (unfold R32 at *; omega) | (unfold R64 at *; omega) | (simp only [R32, R64] at *; omega)) (by decide) rfl rfl ?_
          have hmn := (mn_sb (m := 0) (k := s) hi_5 hX (by omega) (by omega) hi_4).at (c := c) (by omega)
          refine n_if_ne (pc0 := 92) (len := 3) (t := 100) rfl (by first | assumption | omega | (unfold R32 at *; omega) | (unfold R64 at *; omega) | (simp only [R32, R64] at *; omega)) (fun h_92 => ?_) (fun h_92 => ?_)
          · show WV _ _ _ 100 _ _ _ _ _
            rw [if_neg h_92] at hK
            refine r_ex 4 (pc' := 32) (lo' := [some (.inr (.inr (some 203))), some (.inl c), some (.inl w), some (.inl g), some (.inl (s + 1))]) (st' := []) rfl ?_
            refine ih ((mo_strikesBy v 0 s).2) c w g (s + 1)  hX_15 (by first | assumption | omega | (unfold R32 at *; omega) | (unfold R64 at *; omega) | (simp only [R32, R64] at *; omega)) (by first | assumption | omega | (unfold R32 at *; omega) | (unfold R64 at *; omega) | (simp only [R32, R64] at *; omega)) (by first | assumption | omega | (unfold R32 at *; omega) | (unfold R64 at *; omega) | (simp only [R32, R64] at *; omega)) (by first | assumption | omega | (unfold R32 at *; omega) | (unfold R64 at *; omega) | (simp only [R32, R64] at *; omega)) (show CF ((mo_strikesBy v 0 s).2) from (show CF ((mo_strikesBy v 0 s).2) from CF.of hi_4 (fun k h1 h2 => by rw [o_mo_strikesBy (by omega)]))) (by first | assumption | omega | (unfold R32 at *; omega) | (unfold R64 at *; omega) | (simp only [R32, R64] at *; omega)) (by first | assumption | omega | (unfold R32 at *; omega) | (unfold R64 at *; omega) | (simp only [R32, R64] at *; omega)) hK
          · show WV _ _ _ 95 _ _ _ _ _
            rw [if_pos h_92] at hK
            refine r_ex 5 (pc' := 32) (lo' := [some (.inr (.inr (some 203))), some (.inl c), some (.inl w), some (.inl s), some (.inl (s + 1))]) (st' := []) rfl ?_
            refine ih ((mo_strikesBy v 0 s).2) c w s (s + 1)  hX_15 (by first | assumption | omega | (unfold R32 at *; omega) | (unfold R64 at *; omega) | (simp only [R32, R64] at *; omega)) (by first | assumption | omega | (unfold R32 at *; omega) | (unfold R64 at *; omega) | (simp only [R32, R64] at *; omega)) (by first | assumption | omega | (unfold R32 at *; omega) | (unfold R64 at *; omega) | (simp only [R32, R64] at *; omega)) (by first | assumption | omega | (unfold R32 at *; omega) | (unfold R64 at *; omega) | (simp only [R32, R64] at *; omega)) (show CF ((mo_strikesBy v 0 s).2) from (show CF ((mo_strikesBy v 0 s).2) from CF.of hi_4 (fun k h1 h2 => by rw [o_mo_strikesBy (by omega)]))) (by first | assumption | omega | (unfold R32 at *; omega) | (unfold R64 at *; omega) | (simp only [R32, R64] at *; omega)) (by first | assumption | omega | (unfold R32 at *; omega) | (unfold R64 at *; omega) | (simp only [R32, R64] at *; omega)) hK
        · show WV _ _ _ 63 _ _ _ _ _
          rw [if_neg h_60] at hK
          refine r_ex 1 (pc' := 65) (lo' := [some (.inr (.inr (some 203))), some (.inl c), some (.inl w), some (.inl g), some (.inl s)]) (st' := [.inl s]) rfl ?_
          have hp_17 : 0 ≤ s ∧ s < 4096 := (by first | assumption | omega | (unfold R32 at *; omega) | (unfold R64 at *; omega) | (simp only [R32, R64] at *; omega))
          refine r_call (m := 271) (args := [.inl s]) (n' := 274) (pc' := 68) (lo' := [some (.inr (.inr (some 203))), some (.inl c), some (.inl w), some (.inl g), some (.inl s)]) (st' := []) (I := .invokestatic 271) (pc0 := 65) (len := 3) rfl rfl rfl (e_mo_sizeOf hX hp_17) ?_
          show WV _ _ _ 68 _ [.inl (mo_sizeOf v s)] _ _ _
          have hb_18 := n_mo_sizeOf (v := v) (s := s) hX hp_17
          refine r_ex 1 (pc' := 69) (lo' := [some (.inr (.inr (some 203))), some (.inl c), some (.inl w), some (.inl g), some (.inl s)]) (st' := [.inl g, .inl (mo_sizeOf v s)]) rfl ?_
          have hp_19 : 0 ≤ g ∧ g < 4096 := (by first | assumption | omega | (unfold R32 at *; omega) | (unfold R64 at *; omega) | (simp only [R32, R64] at *; omega))
          refine r_call (m := 271) (args := [.inl g]) (n' := 274) (pc' := 72) (lo' := [some (.inr (.inr (some 203))), some (.inl c), some (.inl w), some (.inl g), some (.inl s)]) (st' := [.inl (mo_sizeOf v s)]) (I := .invokestatic 271) (pc0 := 69) (len := 3) rfl rfl rfl (e_mo_sizeOf hX hp_19) ?_
          show WV _ _ _ 72 _ [.inl (mo_sizeOf v g), .inl (mo_sizeOf v s)] _ _ _
          have hb_20 := n_mo_sizeOf (v := v) (s := g) hX hp_19
          refine n_ic_lt (pc0 := 72) (len := 3) (t := 78) rfl (by first | assumption | omega | (unfold R32 at *; omega) | (unfold R64 at *; omega) | (simp only [R32, R64] at *; omega)) (by first | assumption | omega | (unfold R32 at *; omega) | (unfold R64 at *; omega) | (simp only [R32, R64] at *; omega)) (fun h_72 => ?_) (fun h_72 => ?_)
          · show WV _ _ _ 78 _ _ _ _ _
            rw [if_pos h_72] at hK
            refine r_ex 3 (pc' := 82) (lo' := [some (.inr (.inr (some 203))), some (.inl c), some (.inl w), some (.inl g), some (.inl s)]) (st' := [.inl s, .inl 0, .inr (.inr (some 203))]) rfl ?_
            have hp_21 : 0 ≤ (0 : Int) ∧ (0 : Int) ≤ 511 := (by first | assumption | omega | (unfold R32 at *; omega) | (unfold R64 at *; omega) | (simp only [R32, R64] at *; omega))
            have hp_22 : 0 ≤ s ∧ s ≤ 4095 := (by first | assumption | omega | (unfold R32 at *; omega) | (unfold R64 at *; omega) | (simp only [R32, R64] at *; omega))
            have hp_23 : CF v := hi_4
            refine r_call (m := 272) (args := [.inr (.inr (some 203)), .inl 0, .inl s]) (n' := 274) (pc' := 85) (lo' := [some (.inr (.inr (some 203))), some (.inl c), some (.inl w), some (.inl g), some (.inl s)]) (st' := []) (I := .invokevirtual 272) (pc0 := 82) (len := 3) rfl rfl rfl (e_mo_strikesBy hX hp_21 hp_22 hp_23) ?_
            show WV _ _ _ 85 _ [.inl ((mo_strikesBy v 0 s).1)] _ (mo_strikesBy v 0 s).2 _
            have hX_24 : XI (mo_strikesBy v 0 s).2 := i_mo_strikesBy (v := v) (m := 0) (k := s) hX hp_21 hp_22 hp_23
            have hb_25 := n_mo_strikesBy (v := v) (m := 0) (k := s) hX hp_21 hp_22 hp_23
            refine r_ex 4 (pc' := 91) (lo' := [some (.inr (.inr (some 203))), some (.inl c), some (.inl w), some (.inl g), some (.inl s)]) (st' := [.inl c, .inr (.inr (some 231))]) rfl ?_
            refine r_iald2 (j := 0) (x := ((mo_strikesBy v 0 s).2 231 ((c).toNat))) (pc' := 92) (pc0 := 91) (len := 1) rfl (s_231 _) (by first | assumption | omega | (unfold R32 at *; omega) | (unfold R64 at *; omega) | (simp only [R32, R64] at *; omega)) (by decide) rfl rfl ?_
            have hmn := (mn_sb (m := 0) (k := s) hi_5 hX (by omega) (by omega) hi_4).at (c := c) (by omega)
            refine n_if_ne (pc0 := 92) (len := 3) (t := 100) rfl (by first | assumption | omega | (unfold R32 at *; omega) | (unfold R64 at *; omega) | (simp only [R32, R64] at *; omega)) (fun h_92 => ?_) (fun h_92 => ?_)
            · show WV _ _ _ 100 _ _ _ _ _
              rw [if_neg h_92] at hK
              refine r_ex 4 (pc' := 32) (lo' := [some (.inr (.inr (some 203))), some (.inl c), some (.inl w), some (.inl g), some (.inl (s + 1))]) (st' := []) rfl ?_
              refine ih ((mo_strikesBy v 0 s).2) c w g (s + 1)  hX_24 (by first | assumption | omega | (unfold R32 at *; omega) | (unfold R64 at *; omega) | (simp only [R32, R64] at *; omega)) (by first | assumption | omega | (unfold R32 at *; omega) | (unfold R64 at *; omega) | (simp only [R32, R64] at *; omega)) (by first | assumption | omega | (unfold R32 at *; omega) | (unfold R64 at *; omega) | (simp only [R32, R64] at *; omega)) (by first | assumption | omega | (unfold R32 at *; omega) | (unfold R64 at *; omega) | (simp only [R32, R64] at *; omega)) (show CF ((mo_strikesBy v 0 s).2) from (show CF ((mo_strikesBy v 0 s).2) from CF.of hi_4 (fun k h1 h2 => by rw [o_mo_strikesBy (by omega)]))) (by first | assumption | omega | (unfold R32 at *; omega) | (unfold R64 at *; omega) | (simp only [R32, R64] at *; omega)) (by first | assumption | omega | (unfold R32 at *; omega) | (unfold R64 at *; omega) | (simp only [R32, R64] at *; omega)) hK
            · show WV _ _ _ 95 _ _ _ _ _
              rw [if_pos h_92] at hK
              refine r_ex 5 (pc' := 32) (lo' := [some (.inr (.inr (some 203))), some (.inl c), some (.inl w), some (.inl s), some (.inl (s + 1))]) (st' := []) rfl ?_
              refine ih ((mo_strikesBy v 0 s).2) c w s (s + 1)  hX_24 (by first | assumption | omega | (unfold R32 at *; omega) | (unfold R64 at *; omega) | (simp only [R32, R64] at *; omega)) (by first | assumption | omega | (unfold R32 at *; omega) | (unfold R64 at *; omega) | (simp only [R32, R64] at *; omega)) (by first | assumption | omega | (unfold R32 at *; omega) | (unfold R64 at *; omega) | (simp only [R32, R64] at *; omega)) (by first | assumption | omega | (unfold R32 at *; omega) | (unfold R64 at *; omega) | (simp only [R32, R64] at *; omega)) (show CF ((mo_strikesBy v 0 s).2) from (show CF ((mo_strikesBy v 0 s).2) from CF.of hi_4 (fun k h1 h2 => by rw [o_mo_strikesBy (by omega)]))) (by first | assumption | omega | (unfold R32 at *; omega) | (unfold R64 at *; omega) | (simp only [R32, R64] at *; omega)) (by first | assumption | omega | (unfold R32 at *; omega) | (unfold R64 at *; omega) | (simp only [R32, R64] at *; omega)) hK
          · show WV _ _ _ 75 _ _ _ _ _
            rw [if_neg h_72] at hK
            refine r_ex 3 (pc' := 32) (lo' := [some (.inr (.inr (some 203))), some (.inl c), some (.inl w), some (.inl g), some (.inl (s + 1))]) (st' := []) rfl ?_
            refine ih v c w g (s + 1)  hX (by first | assumption | omega | (unfold R32 at *; omega) | (unfold R64 at *; omega) | (simp only [R32, R64] at *; omega)) (by first | assumption | omega | (unfold R32 at *; omega) | (unfold R64 at *; omega) | (simp only [R32, R64] at *; omega)) (by first | assumption | omega | (unfold R32 at *; omega) | (unfold R64 at *; omega) | (simp only [R32, R64] at *; omega)) (by first | assumption | omega | (unfold R32 at *; omega) | (unfold R64 at *; omega) | (simp only [R32, R64] at *; omega)) (hi_4) (by first | assumption | omega | (unfold R32 at *; omega) | (unfold R64 at *; omega) | (simp only [R32, R64] at *; omega)) (by first | assumption | omega | (unfold R32 at *; omega) | (unfold R64 at *; omega) | (simp only [R32, R64] at *; omega)) hK

theorem of_mo_spare_32 {rk : Nat} (hk : (rk < 203 ∨ 203 < rk) ∧ (rk < 219 ∨ 231 < rk)) : ∀ (f : Nat) {v : VS} {c : Int} {w : Int} {g : Int} {s : Int}, (mo_spare_32 f v c w g s).2 rk = v rk := by
  intro f
  induction f with
  | zero => intro v c w g s; rfl
  | succ f ih =>
    intro v c w g s
    rw [mo_spare_32]
    by_cases hc_ : s < ((2 : Int) ^ ((v 210 3)).toNat)
    · rw [if_pos hc_] <;> clear hc_
      by_cases hc_ : (pm_and s (v 210 10)) = 0
      · rw [if_pos hc_] <;> clear hc_
        by_cases hc_ : g = (-1)
        · rw [if_pos hc_] <;> clear hc_
          by_cases hc_ : ((mo_strikesBy v 0 s).2 231 ((c).toNat)) = 0
          · rw [if_pos hc_] <;> clear hc_
            all_goals (rw [ih, o_mo_strikesBy (by omega)])
          · rw [if_neg hc_] <;> clear hc_
            all_goals (rw [ih, o_mo_strikesBy (by omega)])
        · rw [if_neg hc_] <;> clear hc_
          by_cases hc_ : (mo_sizeOf v s) < (mo_sizeOf v g)
          · rw [if_pos hc_] <;> clear hc_
            by_cases hc_ : ((mo_strikesBy v 0 s).2 231 ((c).toNat)) = 0
            · rw [if_pos hc_] <;> clear hc_
              all_goals (rw [ih, o_mo_strikesBy (by omega)])
            · rw [if_neg hc_] <;> clear hc_
              all_goals (rw [ih, o_mo_strikesBy (by omega)])
          · rw [if_neg hc_] <;> clear hc_
            all_goals (rw [ih])
      · rw [if_neg hc_] <;> clear hc_
        all_goals (rw [ih])
    · rw [if_neg hc_] <;> clear hc_
      all_goals (show v rk = _)
      all_goals rfl
theorem o_mo_spare_32 {rk : Nat} {f : Nat} {v : VS} {c : Int} {w : Int} {g : Int} {s : Int} (hk : (rk < 203 ∨ 203 < rk) ∧ (rk < 219 ∨ 231 < rk)) : (mo_spare_32 f v c w g s).2 rk = v rk := of_mo_spare_32 hk f

theorem w_mo_spare {X : PX} {d b : Nat} {v : VS} {c : Int} {w : Int} (hX : XI v) (hp_a : R32 c) (hp_b : R32 w) (hp_c : CF v) (hp_d : MNA) {Q : Option PV → Nat → VS → Prop} (hQ : XI (mo_spare v c w).2 → Q (some (.inl (mo_spare v c w).1)) b (mo_spare v c w).2) : WV X (d + 1 + 1 + 1 + 1 + 1 + 1) 274 0 [some (.inr (.inr (some 203))), some (.inl c), some (.inl w), none, none] [] b v Q := by
  rw [mo_spare] at hQ
  refine r_ex 2 (pc' := 2) (lo' := [some (.inr (.inr (some 203))), some (.inl c), some (.inl w), none, none]) (st' := [.inl 0, .inr (.inr (some 203))]) rfl ?_
  refine r_puti2 (j := 0) (pc' := 5) (pc0 := 2) (len := 3) rfl (s_203 _) rfl rfl rfl (Or.inl rfl) rfl rfl ?_
  have hX_1 : XI (v2 v 203 0 0) := XI.put hX trivial
  refine r_ex 2 (pc' := 7) (lo' := [some (.inr (.inr (some 203))), some (.inl c), some (.inl w), none, none]) (st' := [.inl c, .inr (.inr (some 203))]) rfl ?_
  refine n_i2l (pc' := 8) (pc0 := 7) (len := 1) rfl (by first | assumption | omega | (unfold R32 at *; omega) | (unfold R64 at *; omega) | (simp only [R32, R64] at *; omega)) rfl ?_
  have hp_2 : R64 c := (by first | assumption | omega | (unfold R32 at *; omega) | (unfold R64 at *; omega) | (simp only [R32, R64] at *; omega))
  have hb_3 : 0 ≤ (v 210 0) ∧ (v 210 0) ≤ 9 := hX_1 210 0
  refine r_callb (P := 0 ≤ c ∧ c < (v 210 0)) (m := 236) (args := [.inr (.inr (some 203)), .inr (.inl c)]) (n' := 274) (pc' := 11) (lo' := [some (.inr (.inr (some 203))), some (.inl c), some (.inl w), none, none]) (st' := []) (I := .invokevirtual 236) (pc0 := 8) (len := 3) rfl rfl rfl (e_mo_isChurch hX_1 hp_2) (fun h_8 => ?_) (fun h_8 => ?_)
  · show WV _ _ _ 11 _ _ _ _ _
    rw [if_pos h_8] at hQ
    refine r_ex 2 (pc' := 15) (lo' := [some (.inr (.inr (some 203))), some (.inl c), some (.inl w), none, none]) (st' := [.inl w]) rfl ?_
    refine n_i2l (pc' := 16) (pc0 := 15) (len := 1) rfl (by first | assumption | omega | (unfold R32 at *; omega) | (unfold R64 at *; omega) | (simp only [R32, R64] at *; omega)) rfl ?_
    refine r_ex 2 (pc' := 18) (lo' := [some (.inr (.inr (some 203))), some (.inl c), some (.inl w), none, none]) (st' := [.inr (.inl 1), .inr (.inl 0), .inr (.inl w)]) rfl ?_
    have hp_4 : R64 w := (by first | assumption | omega | (unfold R32 at *; omega) | (unfold R64 at *; omega) | (simp only [R32, R64] at *; omega))
    have hp_5 : R64 (0 : Int) := (by first | assumption | omega | (unfold R32 at *; omega) | (unfold R64 at *; omega) | (simp only [R32, R64] at *; omega))
    have hp_6 : R64 (1 : Int) := (by first | assumption | omega | (unfold R32 at *; omega) | (unfold R64 at *; omega) | (simp only [R32, R64] at *; omega))
    refine r_callb (P := (0 : Int) ≤ w ∧ w ≤ (1 : Int)) (m := 202) (args := [.inr (.inl w), .inr (.inl 0), .inr (.inl 1)]) (n' := 274) (pc' := 21) (lo' := [some (.inr (.inr (some 203))), some (.inl c), some (.inl w), none, none]) (st' := []) (I := .invokestatic 202) (pc0 := 18) (len := 3) rfl rfl rfl (e_mo_in hX_1 hp_4 hp_5 hp_6) (fun h_18 => ?_) (fun h_18 => ?_)
    · show WV _ _ _ 21 _ _ _ _ _
      rw [if_pos h_18] at hQ
      refine r_ex 5 (pc' := 32) (lo' := [some (.inr (.inr (some 203))), some (.inl c), some (.inl w), some (.inl (-1)), some (.inl 0)]) (st' := []) rfl ?_
      refine l_mo_spare_32 4097 (v2 v 203 0 0) c w (-1) 0  hX_1 (by first | assumption | omega | (unfold R32 at *; omega) | (unfold R64 at *; omega) | (simp only [R32, R64] at *; omega)) (by first | assumption | omega | (unfold R32 at *; omega) | (unfold R64 at *; omega) | (simp only [R32, R64] at *; omega)) (by first | assumption | omega | (unfold R32 at *; omega) | (unfold R64 at *; omega) | (simp only [R32, R64] at *; omega)) (by first | assumption | omega | (unfold R32 at *; omega) | (unfold R64 at *; omega) | (simp only [R32, R64] at *; omega)) (show CF (v2 v 203 0 0) from (show CF (v2 v 203 0 0) from CF.of hp_c (fun k h1 h2 => by rw [v2_row (by omega)]))) (by first | assumption | omega | (unfold R32 at *; omega) | (unfold R64 at *; omega) | (simp only [R32, R64] at *; omega)) (by first | assumption | omega | (unfold R32 at *; omega) | (unfold R64 at *; omega) | (simp only [R32, R64] at *; omega)) (fun o4_26 hX_26 hv_26_0 hv_26_1 => ?_)
      show WV _ _ _ 108 _ _ _ _ _
      refine r_ex 2 (pc' := 110) (lo' := [some (.inr (.inr (some 203))), some (.inl c), some (.inl w), some (.inl ((mo_spare_32 4097 (v2 v 203 0 0) c w (-1) 0).1)), o4_26]) (st' := [.inl (-1), .inl ((mo_spare_32 4097 (v2 v 203 0 0) c w (-1) 0).1)]) rfl ?_
      refine n_ic_eq (pc0 := 110) (len := 3) (t := 118) rfl (by first | assumption | omega | (unfold R32 at *; omega) | (unfold R64 at *; omega) | (simp only [R32, R64] at *; omega)) (by first | assumption | omega | (unfold R32 at *; omega) | (unfold R64 at *; omega) | (simp only [R32, R64] at *; omega)) (fun h_110 => ?_) (fun h_110 => ?_)
      · show WV _ _ _ 118 _ _ _ _ _
        rw [if_pos h_110] at hQ
        refine r_ex 2 (pc' := 126) (lo' := [some (.inr (.inr (some 203))), some (.inl c), some (.inl w), some (.inl ((mo_spare_32 4097 (v2 v 203 0 0) c w (-1) 0).1)), o4_26]) (st' := [.inl ((mo_spare_32 4097 (v2 v 203 0 0) c w (-1) 0).1)]) rfl ?_
        refine r_ret (rr := some (.inl ((mo_spare_32 4097 (v2 v 203 0 0) c w (-1) 0).1))) (I := .ireturn) (pc0 := 126) (len := 1) rfl rfl ?_
        exact hQ hX_26 
      · show WV _ _ _ 113 _ _ _ _ _
        rw [if_neg h_110] at hQ
        refine r_ex 2 (pc' := 115) (lo' := [some (.inr (.inr (some 203))), some (.inl c), some (.inl w), some (.inl ((mo_spare_32 4097 (v2 v 203 0 0) c w (-1) 0).1)), o4_26]) (st' := [.inl 1, .inl w]) rfl ?_
        refine n_ic_ne (pc0 := 115) (len := 3) (t := 122) rfl (by first | assumption | omega | (unfold R32 at *; omega) | (unfold R64 at *; omega) | (simp only [R32, R64] at *; omega)) (by first | assumption | omega | (unfold R32 at *; omega) | (unfold R64 at *; omega) | (simp only [R32, R64] at *; omega)) (fun h_115 => ?_) (fun h_115 => ?_)
        · show WV _ _ _ 122 _ _ _ _ _
          rw [if_neg h_115] at hQ
          refine r_ex 1 (pc' := 123) (lo' := [some (.inr (.inr (some 203))), some (.inl c), some (.inl w), some (.inl ((mo_spare_32 4097 (v2 v 203 0 0) c w (-1) 0).1)), o4_26]) (st' := [.inl ((mo_spare_32 4097 (v2 v 203 0 0) c w (-1) 0).1)]) rfl ?_
          have hp_27 : 0 ≤ ((mo_spare_32 4097 (v2 v 203 0 0) c w (-1) 0).1) ∧ ((mo_spare_32 4097 (v2 v 203 0 0) c w (-1) 0).1) < 4096 := (by first | assumption | omega | (unfold R32 at *; omega) | (unfold R64 at *; omega) | (simp only [R32, R64] at *; omega))
          refine r_call (m := 271) (args := [.inl ((mo_spare_32 4097 (v2 v 203 0 0) c w (-1) 0).1)]) (n' := 274) (pc' := 126) (lo' := [some (.inr (.inr (some 203))), some (.inl c), some (.inl w), some (.inl ((mo_spare_32 4097 (v2 v 203 0 0) c w (-1) 0).1)), o4_26]) (st' := []) (I := .invokestatic 271) (pc0 := 123) (len := 3) rfl rfl rfl (e_mo_sizeOf hX_26 hp_27) ?_
          show WV _ _ _ 126 _ [.inl (mo_sizeOf ((mo_spare_32 4097 (v2 v 203 0 0) c w (-1) 0).2) ((mo_spare_32 4097 (v2 v 203 0 0) c w (-1) 0).1))] _ _ _
          have hb_28 := n_mo_sizeOf (v := (mo_spare_32 4097 (v2 v 203 0 0) c w (-1) 0).2) (s := (mo_spare_32 4097 (v2 v 203 0 0) c w (-1) 0).1) hX_26 hp_27
          refine r_ret (rr := some (.inl (mo_sizeOf ((mo_spare_32 4097 (v2 v 203 0 0) c w (-1) 0).2) ((mo_spare_32 4097 (v2 v 203 0 0) c w (-1) 0).1)))) (I := .ireturn) (pc0 := 126) (len := 1) rfl rfl ?_
          exact hQ hX_26 
        · show WV _ _ _ 118 _ _ _ _ _
          rw [if_pos h_115] at hQ
          refine r_ex 2 (pc' := 126) (lo' := [some (.inr (.inr (some 203))), some (.inl c), some (.inl w), some (.inl ((mo_spare_32 4097 (v2 v 203 0 0) c w (-1) 0).1)), o4_26]) (st' := [.inl ((mo_spare_32 4097 (v2 v 203 0 0) c w (-1) 0).1)]) rfl ?_
          refine r_ret (rr := some (.inl ((mo_spare_32 4097 (v2 v 203 0 0) c w (-1) 0).1))) (I := .ireturn) (pc0 := 126) (len := 1) rfl rfl ?_
          exact hQ hX_26 
    · show WV _ _ _ 21 _ _ _ _ _
      rw [if_neg h_18] at hQ
      refine r_ex 2 (pc' := 26) (lo' := [some (.inr (.inr (some 203))), some (.inl c), some (.inl w), none, none]) (st' := [.inl (-2)]) rfl ?_
      refine r_ret (rr := some (.inl (-2))) (I := .ireturn) (pc0 := 26) (len := 1) rfl rfl ?_
      exact hQ hX_1 
  · show WV _ _ _ 11 _ _ _ _ _
    rw [if_neg h_8] at hQ
    refine r_ex 2 (pc' := 26) (lo' := [some (.inr (.inr (some 203))), some (.inl c), some (.inl w), none, none]) (st' := [.inl (-2)]) rfl ?_
    refine r_ret (rr := some (.inl (-2))) (I := .ireturn) (pc0 := 26) (len := 1) rfl rfl ?_
    exact hQ hX_1 

theorem e_mo_spare {X : PX} {d b : Nat} {v : VS} {c : Int} {w : Int} (hX : XI v) (hp_a : R32 c) (hp_b : R32 w) (hp_c : CF v) (hp_d : MNA) : EvV X (d + 1 + 1 + 1 + 1 + 1 + 1) 274 [.inr (.inr (some 203)), .inl c, .inl w] b v (some (.inl (mo_spare v c w).1)) b ((mo_spare v c w).2) := EvV.of (w_mo_spare hX hp_a hp_b hp_c hp_d (fun _ => ⟨rfl, rfl, rfl⟩))

theorem i_mo_spare {v : VS} {c : Int} {w : Int} (hX : XI v) (hp_a : R32 c) (hp_b : R32 w) (hp_c : CF v) (hp_d : MNA) : XI ((mo_spare v c w).2) := by
  have q : WV (0, fun _ => 0, none) (0 + 1 + 1 + 1 + 1 + 1 + 1) 274 0 [some (.inr (.inr (some 203))), some (.inl c), some (.inl w), none, none] [] 1 v (fun _ _ _ => XI ((mo_spare v c w).2)) := w_mo_spare (X := (0, fun _ => 0, none)) (d := 0) (b := 1) hX hp_a hp_b hp_c hp_d (fun q => q)
  obtain ⟨_, _, _, _, _, _, _, q⟩ := q
  exact q

theorem o_mo_spare {rk : Nat} {v : VS} {c : Int} {w : Int} (hk : (rk < 203 ∨ 203 < rk) ∧ (rk < 219 ∨ 231 < rk)) : (mo_spare v c w).2 rk = v rk := by
  unfold mo_spare
  by_cases hc_ : 0 ≤ c ∧ c < (v 210 0)
  · rw [if_pos hc_] <;> clear hc_
    by_cases hc_ : (0 : Int) ≤ w ∧ w ≤ (1 : Int)
    · rw [if_pos hc_] <;> clear hc_
      by_cases hc_ : (mo_spare_32 4097 (v2 v 203 0 0) c w (-1) 0).1 = (-1)
      · rw [if_pos hc_] <;> clear hc_
        all_goals (show ((mo_spare_32 4097 (v2 v 203 0 0) c w (-1) 0).2) rk = _)
        all_goals (rw [o_mo_spare_32 (by omega), v2_row (by omega)])
      · rw [if_neg hc_] <;> clear hc_
        by_cases hc_ : w = 1
        · rw [if_pos hc_] <;> clear hc_
          all_goals (show ((mo_spare_32 4097 (v2 v 203 0 0) c w (-1) 0).2) rk = _)
          all_goals (rw [o_mo_spare_32 (by omega), v2_row (by omega)])
        · rw [if_neg hc_] <;> clear hc_
          all_goals (show ((mo_spare_32 4097 (v2 v 203 0 0) c w (-1) 0).2) rk = _)
          all_goals (rw [o_mo_spare_32 (by omega), v2_row (by omega)])
    · rw [if_neg hc_] <;> clear hc_
      all_goals (show (v2 v 203 0 0) rk = _)
      all_goals (rw [v2_row (by omega)])
  · rw [if_neg hc_] <;> clear hc_
    all_goals (show (v2 v 203 0 0) rk = _)
    all_goals (rw [v2_row (by omega)])

noncomputable def mo_needs_36 : Nat → VS → Int → Int → Int → Int × VS
  | 0, v, c, n, e => (0, v)
  | f + 1, v, c, n, e => (if e < (v 210 3) then (if ((mo_strikesBy v 0 ((2 : Int) ^ (e).toNat)).2 231 ((c).toNat)) = 0 then (mo_needs_36 f ((mo_strikesBy v 0 ((2 : Int) ^ (e).toNat)).2) c (setb n e) (e + 1)) else (mo_needs_36 f ((mo_strikesBy v 0 ((2 : Int) ^ (e).toNat)).2) c n (e + 1))) else (n, v))
noncomputable def mo_needs (v : VS) (c : Int) : Int × VS :=
  (if 0 ≤ c ∧ c < (v 210 0) then (if ((mo_told (v2 v 203 0 0)) 231 ((c).toNat)) = 0 then ((-1), (mo_told (v2 v 203 0 0))) else ((mo_needs_36 13 (mo_told (v2 v 203 0 0)) c 0 0).1, (mo_needs_36 13 (mo_told (v2 v 203 0 0)) c 0 0).2)) else ((-2), (v2 v 203 0 0)))
theorem l_mo_needs_36 {X : PX} {d b : Nat} {Q : Option PV → Nat → VS → Prop}  : ∀ (f : Nat) (v : VS) (c : Int) (n : Int) (e : Int), XI v → (0 ≤ c ∧ c ≤ 8) → (0 ≤ n ∧ n ≤ 4095) → (0 ≤ e ∧ e ≤ 12) → (CF v) → (MNA) → (12 < e + f) → (∀ qx3 : Option PV, XI ((mo_needs_36 f v c n e).2) → (0 ≤ (mo_needs_36 f v c n e).1 ∧ (mo_needs_36 f v c n e).1 ≤ 4095) → WV X (d + 1 + 1 + 1 + 1 + 1 + 1) 275 80 [some (.inr (.inr (some 203))), some (.inl c), some (.inl ((mo_needs_36 f v c n e).1)), qx3] [] b (mo_needs_36 f v c n e).2 Q) → WV X (d + 1 + 1 + 1 + 1 + 1 + 1) 275 36 [some (.inr (.inr (some 203))), some (.inl c), some (.inl n), some (.inl e)] [] b v Q := by
  intro f
  induction f with
  | zero =>
    intro v c n e hX hi_0 hi_1 hi_2 hi_3 hi_4 hf hK
    exfalso
    omega
  | succ f ih =>
    intro v c n e hX hi_0 hi_1 hi_2 hi_3 hi_4 hf hK
    rw [mo_needs_36] at hK
    refine r_ex 4 (pc' := 42) (lo' := [some (.inr (.inr (some 203))), some (.inl c), some (.inl n), some (.inl e)]) (st' := [.inl 3, .inr (.inr (some 210)), .inl e]) rfl ?_
    refine r_iald2 (j := 0) (x := (v 210 3)) (pc' := 43) (pc0 := 42) (len := 1) rfl (s_210 _) (by first | assumption | omega | (unfold R32 at *; omega) | (unfold R64 at *; omega) | (simp only [R32, R64] at *; omega)) (by decide) rfl rfl ?_
    have hb_6 : 0 ≤ (v 210 3) ∧ (v 210 3) ≤ 12 := hX 210 3
    refine n_ic_ge (pc0 := 43) (len := 3) (t := 80) rfl (by first | assumption | omega | (unfold R32 at *; omega) | (unfold R64 at *; omega) | (simp only [R32, R64] at *; omega)) (by first | assumption | omega | (unfold R32 at *; omega) | (unfold R64 at *; omega) | (simp only [R32, R64] at *; omega)) (fun h_43 => ?_) (fun h_43 => ?_)
    · show WV _ _ _ 80 _ _ _ _ _
      rw [if_neg h_43] at hK
      exact hK _ hX (by first | assumption | omega | (unfold R32 at *; omega) | (unfold R64 at *; omega) | (simp only [R32, R64] at *; omega))
    · show WV _ _ _ 46 _ _ _ _ _
      rw [if_pos h_43] at hK
      refine r_ex 5 (pc' := 51) (lo' := [some (.inr (.inr (some 203))), some (.inl c), some (.inl n), some (.inl e)]) (st' := [.inl (pm_shl 1 e), .inl 0, .inr (.inr (some 203))]) rfl ?_
      rw [shl1_eq (c := e) (by first | assumption | omega | (unfold R32 at *; omega) | (unfold R64 at *; omega) | (simp only [R32, R64] at *; omega))]
      have hb_7 := pw_in (c := e) (by first | assumption | omega | (unfold R32 at *; omega) | (unfold R64 at *; omega) | (simp only [R32, R64] at *; omega))
      have hb_8 := pw9 (c := e) (by first | assumption | omega | (unfold R32 at *; omega) | (unfold R64 at *; omega) | (simp only [R32, R64] at *; omega))
      have hb_9 := pw11 (c := e) (by first | assumption | omega | (unfold R32 at *; omega) | (unfold R64 at *; omega) | (simp only [R32, R64] at *; omega))
      have hp_10 : 0 ≤ (0 : Int) ∧ (0 : Int) ≤ 511 := (by first | assumption | omega | (unfold R32 at *; omega) | (unfold R64 at *; omega) | (simp only [R32, R64] at *; omega))
      have hp_11 : 0 ≤ ((2 : Int) ^ (e).toNat) ∧ ((2 : Int) ^ (e).toNat) ≤ 4095 := (by first | assumption | omega | (unfold R32 at *; omega) | (unfold R64 at *; omega) | (simp only [R32, R64] at *; omega))
      have hp_12 : CF v := hi_3
      refine r_call (m := 272) (args := [.inr (.inr (some 203)), .inl 0, .inl ((2 : Int) ^ (e).toNat)]) (n' := 275) (pc' := 54) (lo' := [some (.inr (.inr (some 203))), some (.inl c), some (.inl n), some (.inl e)]) (st' := []) (I := .invokevirtual 272) (pc0 := 51) (len := 3) rfl rfl rfl (e_mo_strikesBy hX hp_10 hp_11 hp_12) ?_
      show WV _ _ _ 54 _ [.inl ((mo_strikesBy v 0 ((2 : Int) ^ (e).toNat)).1)] _ (mo_strikesBy v 0 ((2 : Int) ^ (e).toNat)).2 _
      have hX_13 : XI (mo_strikesBy v 0 ((2 : Int) ^ (e).toNat)).2 := i_mo_strikesBy (v := v) (m := 0) (k := ((2 : Int) ^ (e).toNat)) hX hp_10 hp_11 hp_12
      have hb_14 := n_mo_strikesBy (v := v) (m := 0) (k := ((2 : Int) ^ (e).toNat)) hX hp_10 hp_11 hp_12
      refine r_ex 5 (pc' := 61) (lo' := [some (.inr (.inr (some 203))), some (.inl c), some (.inl n), some (.inl e)]) (st' := [.inl c, .inr (.inr (some 231)), .inl n]) rfl ?_
      refine r_iald2 (j := 0) (x := ((mo_strikesBy v 0 ((2 : Int) ^ (e).toNat)).2 231 ((c).toNat))) (pc' := 62) (pc0 := 61) (len := 1) rfl (s_231 _) (by first | assumption | omega | (unfold R32 at *; omega) | (unfold R64 at *; omega) | (simp only [R32, R64] at *; omega)) (by decide) rfl rfl ?_
      have hmn := (mn_sb (m := 0) (k := (2 : Int) ^ e.toNat) hi_4 hX (by omega) (by omega) hi_3).at (c := c) (by omega)
      refine n_if_ne (pc0 := 62) (len := 3) (t := 71) rfl (by first | assumption | omega | (unfold R32 at *; omega) | (unfold R64 at *; omega) | (simp only [R32, R64] at *; omega)) (fun h_62 => ?_) (fun h_62 => ?_)
      · show WV _ _ _ 71 _ _ _ _ _
        rw [if_neg h_62] at hK
        refine r_ex 2 (pc' := 73) (lo' := [some (.inr (.inr (some 203))), some (.inl c), some (.inl n), some (.inl e)]) (st' := [.inl (pm_or n 0)]) rfl ?_
        rw [or_0 (x := n) (by first | assumption | omega | (unfold R32 at *; omega) | (unfold R64 at *; omega) | (simp only [R32, R64] at *; omega))]
        refine r_ex 3 (pc' := 36) (lo' := [some (.inr (.inr (some 203))), some (.inl c), some (.inl n), some (.inl (e + 1))]) (st' := []) rfl ?_
        refine ih ((mo_strikesBy v 0 ((2 : Int) ^ (e).toNat)).2) c n (e + 1)  hX_13 (by first | assumption | omega | (unfold R32 at *; omega) | (unfold R64 at *; omega) | (simp only [R32, R64] at *; omega)) (by first | assumption | omega | (unfold R32 at *; omega) | (unfold R64 at *; omega) | (simp only [R32, R64] at *; omega)) (by first | assumption | omega | (unfold R32 at *; omega) | (unfold R64 at *; omega) | (simp only [R32, R64] at *; omega)) (show CF ((mo_strikesBy v 0 ((2 : Int) ^ (e).toNat)).2) from (show CF ((mo_strikesBy v 0 ((2 : Int) ^ (e).toNat)).2) from CF.of hi_3 (fun k h1 h2 => by rw [o_mo_strikesBy (by omega)]))) (by first | assumption | omega | (unfold R32 at *; omega) | (unfold R64 at *; omega) | (simp only [R32, R64] at *; omega)) (by first | assumption | omega | (unfold R32 at *; omega) | (unfold R64 at *; omega) | (simp only [R32, R64] at *; omega)) hK
      · show WV _ _ _ 65 _ _ _ _ _
        rw [if_pos h_62] at hK
        refine r_ex 5 (pc' := 73) (lo' := [some (.inr (.inr (some 203))), some (.inl c), some (.inl n), some (.inl e)]) (st' := [.inl (pm_or n (pm_shl 1 e))]) rfl ?_
        rw [or_eq (x := n) (c := e) (by first | assumption | omega | (unfold R32 at *; omega) | (unfold R64 at *; omega) | (simp only [R32, R64] at *; omega)) (by first | assumption | omega | (unfold R32 at *; omega) | (unfold R64 at *; omega) | (simp only [R32, R64] at *; omega))]
        have hb_15 := setb_in (x := n) (c := e) (k := 12) (by first | assumption | omega | (unfold R32 at *; omega) | (unfold R64 at *; omega) | (simp only [R32, R64] at *; omega)) (by first | assumption | omega | (unfold R32 at *; omega) | (unfold R64 at *; omega) | (simp only [R32, R64] at *; omega))
        refine r_ex 3 (pc' := 36) (lo' := [some (.inr (.inr (some 203))), some (.inl c), some (.inl (setb n e)), some (.inl (e + 1))]) (st' := []) rfl ?_
        refine ih ((mo_strikesBy v 0 ((2 : Int) ^ (e).toNat)).2) c (setb n e) (e + 1)  hX_13 (by first | assumption | omega | (unfold R32 at *; omega) | (unfold R64 at *; omega) | (simp only [R32, R64] at *; omega)) (by first | assumption | omega | (unfold R32 at *; omega) | (unfold R64 at *; omega) | (simp only [R32, R64] at *; omega)) (by first | assumption | omega | (unfold R32 at *; omega) | (unfold R64 at *; omega) | (simp only [R32, R64] at *; omega)) (show CF ((mo_strikesBy v 0 ((2 : Int) ^ (e).toNat)).2) from (show CF ((mo_strikesBy v 0 ((2 : Int) ^ (e).toNat)).2) from CF.of hi_3 (fun k h1 h2 => by rw [o_mo_strikesBy (by omega)]))) (by first | assumption | omega | (unfold R32 at *; omega) | (unfold R64 at *; omega) | (simp only [R32, R64] at *; omega)) (by first | assumption | omega | (unfold R32 at *; omega) | (unfold R64 at *; omega) | (simp only [R32, R64] at *; omega)) hK

theorem of_mo_needs_36 {rk : Nat} (hk : (rk < 203 ∨ 203 < rk) ∧ (rk < 219 ∨ 231 < rk)) : ∀ (f : Nat) {v : VS} {c : Int} {n : Int} {e : Int}, (mo_needs_36 f v c n e).2 rk = v rk := by
  intro f
  induction f with
  | zero => intro v c n e; rfl
  | succ f ih =>
    intro v c n e
    rw [mo_needs_36]
    by_cases hc_ : e < (v 210 3)
    · rw [if_pos hc_] <;> clear hc_
      by_cases hc_ : ((mo_strikesBy v 0 ((2 : Int) ^ (e).toNat)).2 231 ((c).toNat)) = 0
      · rw [if_pos hc_] <;> clear hc_
        all_goals (rw [ih, o_mo_strikesBy (by omega)])
      · rw [if_neg hc_] <;> clear hc_
        all_goals (rw [ih, o_mo_strikesBy (by omega)])
    · rw [if_neg hc_] <;> clear hc_
      all_goals (show v rk = _)
      all_goals rfl
theorem o_mo_needs_36 {rk : Nat} {f : Nat} {v : VS} {c : Int} {n : Int} {e : Int} (hk : (rk < 203 ∨ 203 < rk) ∧ (rk < 219 ∨ 231 < rk)) : (mo_needs_36 f v c n e).2 rk = v rk := of_mo_needs_36 hk f

theorem w_mo_needs {X : PX} {d b : Nat} {v : VS} {c : Int} (hX : XI v) (hp_a : R32 c) (hp_b : CF v) (hp_c : MNA) {Q : Option PV → Nat → VS → Prop} (hQ : XI (mo_needs v c).2 → Q (some (.inl (mo_needs v c).1)) b (mo_needs v c).2) : WV X (d + 1 + 1 + 1 + 1 + 1 + 1) 275 0 [some (.inr (.inr (some 203))), some (.inl c), none, none] [] b v Q := by
  rw [mo_needs] at hQ
  refine r_ex 2 (pc' := 2) (lo' := [some (.inr (.inr (some 203))), some (.inl c), none, none]) (st' := [.inl 0, .inr (.inr (some 203))]) rfl ?_
  refine r_puti2 (j := 0) (pc' := 5) (pc0 := 2) (len := 3) rfl (s_203 _) rfl rfl rfl (Or.inl rfl) rfl rfl ?_
  have hX_1 : XI (v2 v 203 0 0) := XI.put hX trivial
  refine r_ex 2 (pc' := 7) (lo' := [some (.inr (.inr (some 203))), some (.inl c), none, none]) (st' := [.inl c, .inr (.inr (some 203))]) rfl ?_
  refine n_i2l (pc' := 8) (pc0 := 7) (len := 1) rfl (by first | assumption | omega | (unfold R32 at *; omega) | (unfold R64 at *; omega) | (simp only [R32, R64] at *; omega)) rfl ?_
  have hp_2 : R64 c := (by first | assumption | omega | (unfold R32 at *; omega) | (unfold R64 at *; omega) | (simp only [R32, R64] at *; omega))
  have hb_3 : 0 ≤ (v 210 0) ∧ (v 210 0) ≤ 9 := hX_1 210 0
  refine r_callb (P := 0 ≤ c ∧ c < (v 210 0)) (m := 236) (args := [.inr (.inr (some 203)), .inr (.inl c)]) (n' := 275) (pc' := 11) (lo' := [some (.inr (.inr (some 203))), some (.inl c), none, none]) (st' := []) (I := .invokevirtual 236) (pc0 := 8) (len := 3) rfl rfl rfl (e_mo_isChurch hX_1 hp_2) (fun h_8 => ?_) (fun h_8 => ?_)
  · show WV _ _ _ 11 _ _ _ _ _
    rw [if_pos h_8] at hQ
    refine r_ex 2 (pc' := 18) (lo' := [some (.inr (.inr (some 203))), some (.inl c), none, none]) (st' := [.inr (.inr (some 203))]) rfl ?_
    have hp_4 : CF (v2 v 203 0 0) := show CF (v2 v 203 0 0) from (show CF (v2 v 203 0 0) from CF.of hp_b (fun k h1 h2 => by rw [v2_row (by omega)]))
    refine r_call (m := 246) (args := [.inr (.inr (some 203))]) (n' := 275) (pc' := 21) (lo' := [some (.inr (.inr (some 203))), some (.inl c), none, none]) (st' := []) (I := .invokevirtual 246) (pc0 := 18) (len := 3) rfl rfl rfl (e_mo_told hX_1 hp_4) ?_
    show WV _ _ _ 21 _ [] _ (mo_told (v2 v 203 0 0)) _
    have hX_5 : XI (mo_told (v2 v 203 0 0)) := i_mo_told (v := (v2 v 203 0 0)) hX_1 hp_4
    refine r_ex 3 (pc' := 26) (lo' := [some (.inr (.inr (some 203))), some (.inl c), none, none]) (st' := [.inl c, .inr (.inr (some 231))]) rfl ?_
    refine r_iald2 (j := 0) (x := ((mo_told (v2 v 203 0 0)) 231 ((c).toNat))) (pc' := 27) (pc0 := 26) (len := 1) rfl (s_231 _) (by first | assumption | omega | (unfold R32 at *; omega) | (unfold R64 at *; omega) | (simp only [R32, R64] at *; omega)) (by decide) rfl rfl ?_
    have hmn := (mn_told (v := v2 v 203 0 0) hp_c (XI.put hX trivial) (CF.of hp_b (fun k h1 h2 => by rw [v2_row (by omega)]))).at (c := c) (by omega)
    refine n_if_ne (pc0 := 27) (len := 3) (t := 32) rfl (by first | assumption | omega | (unfold R32 at *; omega) | (unfold R64 at *; omega) | (simp only [R32, R64] at *; omega)) (fun h_27 => ?_) (fun h_27 => ?_)
    · show WV _ _ _ 32 _ _ _ _ _
      rw [if_neg h_27] at hQ
      refine r_ex 4 (pc' := 36) (lo' := [some (.inr (.inr (some 203))), some (.inl c), some (.inl 0), some (.inl 0)]) (st' := []) rfl ?_
      refine l_mo_needs_36 13 (mo_told (v2 v 203 0 0)) c 0 0  hX_5 (by first | assumption | omega | (unfold R32 at *; omega) | (unfold R64 at *; omega) | (simp only [R32, R64] at *; omega)) (by first | assumption | omega | (unfold R32 at *; omega) | (unfold R64 at *; omega) | (simp only [R32, R64] at *; omega)) (by first | assumption | omega | (unfold R32 at *; omega) | (unfold R64 at *; omega) | (simp only [R32, R64] at *; omega)) (show CF (mo_told (v2 v 203 0 0)) from (show CF (mo_told (v2 v 203 0 0)) from CF.of hp_b (fun k h1 h2 => by rw [o_mo_told (by omega), v2_row (by omega)]))) (by first | assumption | omega | (unfold R32 at *; omega) | (unfold R64 at *; omega) | (simp only [R32, R64] at *; omega)) (by first | assumption | omega | (unfold R32 at *; omega) | (unfold R64 at *; omega) | (simp only [R32, R64] at *; omega)) (fun o3_16 hX_16 hv_16_0 => ?_)
      show WV _ _ _ 80 _ _ _ _ _
      refine r_ex 1 (pc' := 81) (lo' := [some (.inr (.inr (some 203))), some (.inl c), some (.inl ((mo_needs_36 13 (mo_told (v2 v 203 0 0)) c 0 0).1)), o3_16]) (st' := [.inl ((mo_needs_36 13 (mo_told (v2 v 203 0 0)) c 0 0).1)]) rfl ?_
      refine r_ret (rr := some (.inl ((mo_needs_36 13 (mo_told (v2 v 203 0 0)) c 0 0).1))) (I := .ireturn) (pc0 := 81) (len := 1) rfl rfl ?_
      exact hQ hX_16 
    · show WV _ _ _ 30 _ _ _ _ _
      rw [if_pos h_27] at hQ
      refine r_ex 1 (pc' := 31) (lo' := [some (.inr (.inr (some 203))), some (.inl c), none, none]) (st' := [.inl (-1)]) rfl ?_
      refine r_ret (rr := some (.inl (-1))) (I := .ireturn) (pc0 := 31) (len := 1) rfl rfl ?_
      exact hQ hX_5 
  · show WV _ _ _ 11 _ _ _ _ _
    rw [if_neg h_8] at hQ
    refine r_ex 2 (pc' := 16) (lo' := [some (.inr (.inr (some 203))), some (.inl c), none, none]) (st' := [.inl (-2)]) rfl ?_
    refine r_ret (rr := some (.inl (-2))) (I := .ireturn) (pc0 := 16) (len := 1) rfl rfl ?_
    exact hQ hX_1 

theorem e_mo_needs {X : PX} {d b : Nat} {v : VS} {c : Int} (hX : XI v) (hp_a : R32 c) (hp_b : CF v) (hp_c : MNA) : EvV X (d + 1 + 1 + 1 + 1 + 1 + 1) 275 [.inr (.inr (some 203)), .inl c] b v (some (.inl (mo_needs v c).1)) b ((mo_needs v c).2) := EvV.of (w_mo_needs hX hp_a hp_b hp_c (fun _ => ⟨rfl, rfl, rfl⟩))

theorem i_mo_needs {v : VS} {c : Int} (hX : XI v) (hp_a : R32 c) (hp_b : CF v) (hp_c : MNA) : XI ((mo_needs v c).2) := by
  have q : WV (0, fun _ => 0, none) (0 + 1 + 1 + 1 + 1 + 1 + 1) 275 0 [some (.inr (.inr (some 203))), some (.inl c), none, none] [] 1 v (fun _ _ _ => XI ((mo_needs v c).2)) := w_mo_needs (X := (0, fun _ => 0, none)) (d := 0) (b := 1) hX hp_a hp_b hp_c (fun q => q)
  obtain ⟨_, _, _, _, _, _, _, q⟩ := q
  exact q

theorem o_mo_needs {rk : Nat} {v : VS} {c : Int} (hk : (rk < 203 ∨ 203 < rk) ∧ (rk < 219 ∨ 231 < rk)) : (mo_needs v c).2 rk = v rk := by
  unfold mo_needs
  by_cases hc_ : 0 ≤ c ∧ c < (v 210 0)
  · rw [if_pos hc_] <;> clear hc_
    by_cases hc_ : ((mo_told (v2 v 203 0 0)) 231 ((c).toNat)) = 0
    · rw [if_pos hc_] <;> clear hc_
      all_goals (show (mo_told (v2 v 203 0 0)) rk = _)
      all_goals (rw [o_mo_told (by omega), v2_row (by omega)])
    · rw [if_neg hc_] <;> clear hc_
      all_goals (show ((mo_needs_36 13 (mo_told (v2 v 203 0 0)) c 0 0).2) rk = _)
      all_goals (rw [o_mo_needs_36 (by omega), o_mo_told (by omega), v2_row (by omega)])
  · rw [if_neg hc_] <;> clear hc_
    all_goals (show (v2 v 203 0 0) rk = _)
    all_goals (rw [v2_row (by omega)])

noncomputable def mo_harm (v : VS) (c : Int) : Int × VS :=
  (if 0 ≤ c ∧ c < (v 210 3) then (((mo_strikesBy (v2 v 203 0 0) 0 0).1 - (mo_strikesBy ((mo_strikesBy (v2 v 203 0 0) 0 0).2) 0 ((2 : Int) ^ (c).toNat)).1), (mo_strikesBy ((mo_strikesBy (v2 v 203 0 0) 0 0).2) 0 ((2 : Int) ^ (c).toNat)).2) else ((-2000000), (v2 v 203 0 0)))
theorem w_mo_harm {X : PX} {d b : Nat} {v : VS} {c : Int} (hX : XI v) (hp_a : R32 c) (hp_b : CF v) {Q : Option PV → Nat → VS → Prop} (hQ : XI (mo_harm v c).2 → Q (some (.inl (mo_harm v c).1)) b (mo_harm v c).2) : WV X (d + 1 + 1 + 1 + 1 + 1 + 1) 276 0 [some (.inr (.inr (some 203))), some (.inl c), none] [] b v Q := by
  rw [mo_harm] at hQ
  refine r_ex 2 (pc' := 2) (lo' := [some (.inr (.inr (some 203))), some (.inl c), none]) (st' := [.inl 0, .inr (.inr (some 203))]) rfl ?_
  refine r_puti2 (j := 0) (pc' := 5) (pc0 := 2) (len := 3) rfl (s_203 _) rfl rfl rfl (Or.inl rfl) rfl rfl ?_
  have hX_1 : XI (v2 v 203 0 0) := XI.put hX trivial
  refine r_ex 2 (pc' := 7) (lo' := [some (.inr (.inr (some 203))), some (.inl c), none]) (st' := [.inl c, .inr (.inr (some 203))]) rfl ?_
  have hp_2 : R32 c := (by first | assumption | omega | (unfold R32 at *; omega) | (unfold R64 at *; omega) | (simp only [R32, R64] at *; omega))
  have hb_3 : 0 ≤ (v 210 3) ∧ (v 210 3) ≤ 12 := hX_1 210 3
  refine r_callb (P := 0 ≤ c ∧ c < (v 210 3)) (m := 238) (args := [.inr (.inr (some 203)), .inl c]) (n' := 276) (pc' := 10) (lo' := [some (.inr (.inr (some 203))), some (.inl c), none]) (st' := []) (I := .invokevirtual 238) (pc0 := 7) (len := 3) rfl rfl rfl (e_mo_isEar hX_1 hp_2) (fun h_7 => ?_) (fun h_7 => ?_)
  · show WV _ _ _ 10 _ _ _ _ _
    rw [if_pos h_7] at hQ
    refine r_ex 4 (pc' := 20) (lo' := [some (.inr (.inr (some 203))), some (.inl c), none]) (st' := [.inl 0, .inl 0, .inr (.inr (some 203))]) rfl ?_
    have hp_4 : 0 ≤ (0 : Int) ∧ (0 : Int) ≤ 511 := (by first | assumption | omega | (unfold R32 at *; omega) | (unfold R64 at *; omega) | (simp only [R32, R64] at *; omega))
    have hp_5 : 0 ≤ (0 : Int) ∧ (0 : Int) ≤ 4095 := (by first | assumption | omega | (unfold R32 at *; omega) | (unfold R64 at *; omega) | (simp only [R32, R64] at *; omega))
    have hp_6 : CF (v2 v 203 0 0) := show CF (v2 v 203 0 0) from (show CF (v2 v 203 0 0) from CF.of hp_b (fun k h1 h2 => by rw [v2_row (by omega)]))
    refine r_call (m := 272) (args := [.inr (.inr (some 203)), .inl 0, .inl 0]) (n' := 276) (pc' := 23) (lo' := [some (.inr (.inr (some 203))), some (.inl c), none]) (st' := []) (I := .invokevirtual 272) (pc0 := 20) (len := 3) rfl rfl rfl (e_mo_strikesBy hX_1 hp_4 hp_5 hp_6) ?_
    show WV _ _ _ 23 _ [.inl ((mo_strikesBy (v2 v 203 0 0) 0 0).1)] _ (mo_strikesBy (v2 v 203 0 0) 0 0).2 _
    have hX_7 : XI (mo_strikesBy (v2 v 203 0 0) 0 0).2 := i_mo_strikesBy (v := (v2 v 203 0 0)) (m := 0) (k := 0) hX_1 hp_4 hp_5 hp_6
    have hb_8 := n_mo_strikesBy (v := (v2 v 203 0 0)) (m := 0) (k := 0) hX_1 hp_4 hp_5 hp_6
    refine r_ex 7 (pc' := 30) (lo' := [some (.inr (.inr (some 203))), some (.inl c), some (.inl ((mo_strikesBy (v2 v 203 0 0) 0 0).1))]) (st' := [.inl (pm_shl 1 c), .inl 0, .inr (.inr (some 203)), .inl ((mo_strikesBy (v2 v 203 0 0) 0 0).1)]) rfl ?_
    rw [shl1_eq (c := c) (by first | assumption | omega | (unfold R32 at *; omega) | (unfold R64 at *; omega) | (simp only [R32, R64] at *; omega))]
    have hb_9 := pw_in (c := c) (by first | assumption | omega | (unfold R32 at *; omega) | (unfold R64 at *; omega) | (simp only [R32, R64] at *; omega))
    have hb_10 := pw9 (c := c) (by first | assumption | omega | (unfold R32 at *; omega) | (unfold R64 at *; omega) | (simp only [R32, R64] at *; omega))
    have hb_11 := pw11 (c := c) (by first | assumption | omega | (unfold R32 at *; omega) | (unfold R64 at *; omega) | (simp only [R32, R64] at *; omega))
    have hp_12 : 0 ≤ (0 : Int) ∧ (0 : Int) ≤ 511 := (by first | assumption | omega | (unfold R32 at *; omega) | (unfold R64 at *; omega) | (simp only [R32, R64] at *; omega))
    have hp_13 : 0 ≤ ((2 : Int) ^ (c).toNat) ∧ ((2 : Int) ^ (c).toNat) ≤ 4095 := (by first | assumption | omega | (unfold R32 at *; omega) | (unfold R64 at *; omega) | (simp only [R32, R64] at *; omega))
    have hp_14 : CF (mo_strikesBy (v2 v 203 0 0) 0 0).2 := show CF ((mo_strikesBy (v2 v 203 0 0) 0 0).2) from (show CF ((mo_strikesBy (v2 v 203 0 0) 0 0).2) from CF.of hp_b (fun k h1 h2 => by rw [o_mo_strikesBy (by omega), v2_row (by omega)]))
    refine r_call (m := 272) (args := [.inr (.inr (some 203)), .inl 0, .inl ((2 : Int) ^ (c).toNat)]) (n' := 276) (pc' := 33) (lo' := [some (.inr (.inr (some 203))), some (.inl c), some (.inl ((mo_strikesBy (v2 v 203 0 0) 0 0).1))]) (st' := [.inl ((mo_strikesBy (v2 v 203 0 0) 0 0).1)]) (I := .invokevirtual 272) (pc0 := 30) (len := 3) rfl rfl rfl (e_mo_strikesBy hX_7 hp_12 hp_13 hp_14) ?_
    show WV _ _ _ 33 _ [.inl ((mo_strikesBy ((mo_strikesBy (v2 v 203 0 0) 0 0).2) 0 ((2 : Int) ^ (c).toNat)).1), .inl ((mo_strikesBy (v2 v 203 0 0) 0 0).1)] _ (mo_strikesBy ((mo_strikesBy (v2 v 203 0 0) 0 0).2) 0 ((2 : Int) ^ (c).toNat)).2 _
    have hX_15 : XI (mo_strikesBy ((mo_strikesBy (v2 v 203 0 0) 0 0).2) 0 ((2 : Int) ^ (c).toNat)).2 := i_mo_strikesBy (v := (mo_strikesBy (v2 v 203 0 0) 0 0).2) (m := 0) (k := ((2 : Int) ^ (c).toNat)) hX_7 hp_12 hp_13 hp_14
    have hb_16 := n_mo_strikesBy (v := (mo_strikesBy (v2 v 203 0 0) 0 0).2) (m := 0) (k := ((2 : Int) ^ (c).toNat)) hX_7 hp_12 hp_13 hp_14
    refine r_ex 1 (pc' := 34) (lo' := [some (.inr (.inr (some 203))), some (.inl c), some (.inl ((mo_strikesBy (v2 v 203 0 0) 0 0).1))]) (st' := [.inl ((mo_strikesBy (v2 v 203 0 0) 0 0).1 - (mo_strikesBy ((mo_strikesBy (v2 v 203 0 0) 0 0).2) 0 ((2 : Int) ^ (c).toNat)).1)]) rfl ?_
    refine r_ret (rr := some (.inl ((mo_strikesBy (v2 v 203 0 0) 0 0).1 - (mo_strikesBy ((mo_strikesBy (v2 v 203 0 0) 0 0).2) 0 ((2 : Int) ^ (c).toNat)).1))) (I := .ireturn) (pc0 := 34) (len := 1) rfl rfl ?_
    exact hQ hX_15 
  · show WV _ _ _ 10 _ _ _ _ _
    rw [if_neg h_7] at hQ
    refine r_ex 2 (pc' := 16) (lo' := [some (.inr (.inr (some 203))), some (.inl c), none]) (st' := [.inl (-2000000)]) rfl ?_
    refine r_ret (rr := some (.inl (-2000000))) (I := .ireturn) (pc0 := 16) (len := 1) rfl rfl ?_
    exact hQ hX_1 

theorem e_mo_harm {X : PX} {d b : Nat} {v : VS} {c : Int} (hX : XI v) (hp_a : R32 c) (hp_b : CF v) : EvV X (d + 1 + 1 + 1 + 1 + 1 + 1) 276 [.inr (.inr (some 203)), .inl c] b v (some (.inl (mo_harm v c).1)) b ((mo_harm v c).2) := EvV.of (w_mo_harm hX hp_a hp_b (fun _ => ⟨rfl, rfl, rfl⟩))

theorem i_mo_harm {v : VS} {c : Int} (hX : XI v) (hp_a : R32 c) (hp_b : CF v) : XI ((mo_harm v c).2) := by
  have q : WV (0, fun _ => 0, none) (0 + 1 + 1 + 1 + 1 + 1 + 1) 276 0 [some (.inr (.inr (some 203))), some (.inl c), none] [] 1 v (fun _ _ _ => XI ((mo_harm v c).2)) := w_mo_harm (X := (0, fun _ => 0, none)) (d := 0) (b := 1) hX hp_a hp_b (fun q => q)
  obtain ⟨_, _, _, _, _, _, _, q⟩ := q
  exact q

theorem o_mo_harm {rk : Nat} {v : VS} {c : Int} (hk : (rk < 203 ∨ 203 < rk) ∧ (rk < 219 ∨ 231 < rk)) : (mo_harm v c).2 rk = v rk := by
  unfold mo_harm
  by_cases hc_ : 0 ≤ c ∧ c < (v 210 3)
  · rw [if_pos hc_] <;> clear hc_
    all_goals (show ((mo_strikesBy ((mo_strikesBy (v2 v 203 0 0) 0 0).2) 0 ((2 : Int) ^ (c).toNat)).2) rk = _)
    all_goals (rw [o_mo_strikesBy (by omega), o_mo_strikesBy (by omega), v2_row (by omega)])
  · rw [if_neg hc_] <;> clear hc_
    all_goals (show (v2 v 203 0 0) rk = _)
    all_goals (rw [v2_row (by omega)])

noncomputable def mo_panOf (v : VS) (c : Int) (t : Int) (h : Int) : Int × VS :=
  ((((mo_run (v2 (mo_plainly (v2 (v2 (v2 ((mo_strikesBy v 0 0).2) 213 (((3 * ((mo_strikesBy v 0 0).2 210 4))).toNat) c) 213 ((((3 * ((mo_strikesBy v 0 0).2 210 4)) + 1)).toNat) t) 213 ((((3 * ((mo_strikesBy v 0 0).2 210 4)) + 2)).toNat) h)) 203 33 (((mo_plainly (v2 (v2 (v2 ((mo_strikesBy v 0 0).2) 213 (((3 * ((mo_strikesBy v 0 0).2 210 4))).toNat) c) 213 ((((3 * ((mo_strikesBy v 0 0).2 210 4)) + 1)).toNat) t) 213 ((((3 * ((mo_strikesBy v 0 0).2 210 4)) + 2)).toNat) h)) 210 4) + 1))) 203 37) - (mo_strikesBy v 0 0).1), (mo_run (v2 (mo_plainly (v2 (v2 (v2 ((mo_strikesBy v 0 0).2) 213 (((3 * ((mo_strikesBy v 0 0).2 210 4))).toNat) c) 213 ((((3 * ((mo_strikesBy v 0 0).2 210 4)) + 1)).toNat) t) 213 ((((3 * ((mo_strikesBy v 0 0).2 210 4)) + 2)).toNat) h)) 203 33 (((mo_plainly (v2 (v2 (v2 ((mo_strikesBy v 0 0).2) 213 (((3 * ((mo_strikesBy v 0 0).2 210 4))).toNat) c) 213 ((((3 * ((mo_strikesBy v 0 0).2 210 4)) + 1)).toNat) t) 213 ((((3 * ((mo_strikesBy v 0 0).2 210 4)) + 2)).toNat) h)) 210 4) + 1))))
theorem w_mo_panOf {X : PX} {d b : Nat} {v : VS} {c : Int} {t : Int} {h : Int} (hX : XI v) (hp_a : 0 ≤ c ∧ c ≤ 8) (hp_b : 0 ≤ t ∧ t ≤ 299) (hp_c : 0 ≤ h ∧ h ≤ 99) (hp_d : CF v) {Q : Option PV → Nat → VS → Prop} (hQ : XI (mo_panOf v c t h).2 → (-300 ≤ (mo_panOf v c t h).1 ∧ (mo_panOf v c t h).1 ≤ 300) → (CF ((mo_panOf v c t h).2)) → Q (some (.inl (mo_panOf v c t h).1)) b (mo_panOf v c t h).2) : WV X (d + 1 + 1 + 1 + 1 + 1 + 1) 278 0 [some (.inr (.inr (some 203))), some (.inl c), some (.inl t), some (.inl h), none, none] [] b v Q := by
  rw [mo_panOf] at hQ
  refine r_ex 3 (pc' := 3) (lo' := [some (.inr (.inr (some 203))), some (.inl c), some (.inl t), some (.inl h), none, none]) (st' := [.inl 0, .inl 0, .inr (.inr (some 203))]) rfl ?_
  have hp_1 : 0 ≤ (0 : Int) ∧ (0 : Int) ≤ 511 := (by first | assumption | omega | (unfold R32 at *; omega) | (unfold R64 at *; omega) | (simp only [R32, R64] at *; omega))
  have hp_2 : 0 ≤ (0 : Int) ∧ (0 : Int) ≤ 4095 := (by first | assumption | omega | (unfold R32 at *; omega) | (unfold R64 at *; omega) | (simp only [R32, R64] at *; omega))
  have hp_3 : CF v := hp_d
  refine r_call (m := 272) (args := [.inr (.inr (some 203)), .inl 0, .inl 0]) (n' := 278) (pc' := 6) (lo' := [some (.inr (.inr (some 203))), some (.inl c), some (.inl t), some (.inl h), none, none]) (st' := []) (I := .invokevirtual 272) (pc0 := 3) (len := 3) rfl rfl rfl (e_mo_strikesBy hX hp_1 hp_2 hp_3) ?_
  show WV _ _ _ 6 _ [.inl ((mo_strikesBy v 0 0).1)] _ (mo_strikesBy v 0 0).2 _
  have hX_4 : XI (mo_strikesBy v 0 0).2 := i_mo_strikesBy (v := v) (m := 0) (k := 0) hX hp_1 hp_2 hp_3
  have hb_5 := n_mo_strikesBy (v := v) (m := 0) (k := 0) hX hp_1 hp_2 hp_3
  refine r_ex 5 (pc' := 14) (lo' := [some (.inr (.inr (some 203))), some (.inl c), some (.inl t), some (.inl h), some (.inl ((mo_strikesBy v 0 0).1)), none]) (st' := [.inl 4, .inr (.inr (some 210)), .inl 3]) rfl ?_
  refine r_iald2 (j := 0) (x := ((mo_strikesBy v 0 0).2 210 4)) (pc' := 15) (pc0 := 14) (len := 1) rfl (s_210 _) (by first | assumption | omega | (unfold R32 at *; omega) | (unfold R64 at *; omega) | (simp only [R32, R64] at *; omega)) (by decide) rfl rfl ?_
  have hb_6 : 0 ≤ ((mo_strikesBy v 0 0).2 210 4) ∧ ((mo_strikesBy v 0 0).2 210 4) ≤ 4 := hX_4 210 4
  refine r_ex 6 (pc' := 25) (lo' := [some (.inr (.inr (some 203))), some (.inl c), some (.inl t), some (.inl h), some (.inl ((mo_strikesBy v 0 0).1)), some (.inl (3 * ((mo_strikesBy v 0 0).2 210 4)))]) (st' := [.inl c, .inl (3 * ((mo_strikesBy v 0 0).2 210 4)), .inr (.inr (some 213))]) rfl ?_
  refine r_iast2 (pc' := 26) (pc0 := 25) (len := 1) rfl (s_213 _) (by first | assumption | omega | (unfold R32 at *; omega) | (unfold R64 at *; omega) | (simp only [R32, R64] at *; omega)) (by decide) rfl ?_
  have hX_7 : XI (v2 ((mo_strikesBy v 0 0).2) 213 (((3 * ((mo_strikesBy v 0 0).2 210 4))).toNat) c) := XI.put hX_4 (show 0 ≤ c ∧ c ≤ 299 from (by first | assumption | omega | (unfold R32 at *; omega) | (unfold R64 at *; omega) | (simp only [R32, R64] at *; omega)))
  refine r_ex 6 (pc' := 35) (lo' := [some (.inr (.inr (some 203))), some (.inl c), some (.inl t), some (.inl h), some (.inl ((mo_strikesBy v 0 0).1)), some (.inl (3 * ((mo_strikesBy v 0 0).2 210 4)))]) (st' := [.inl t, .inl ((3 * ((mo_strikesBy v 0 0).2 210 4)) + 1), .inr (.inr (some 213))]) rfl ?_
  refine r_iast2 (pc' := 36) (pc0 := 35) (len := 1) rfl (s_213 _) (by first | assumption | omega | (unfold R32 at *; omega) | (unfold R64 at *; omega) | (simp only [R32, R64] at *; omega)) (by decide) rfl ?_
  have hX_8 : XI (v2 (v2 ((mo_strikesBy v 0 0).2) 213 (((3 * ((mo_strikesBy v 0 0).2 210 4))).toNat) c) 213 ((((3 * ((mo_strikesBy v 0 0).2 210 4)) + 1)).toNat) t) := XI.put hX_7 (show 0 ≤ t ∧ t ≤ 299 from (by first | assumption | omega | (unfold R32 at *; omega) | (unfold R64 at *; omega) | (simp only [R32, R64] at *; omega)))
  refine r_ex 6 (pc' := 45) (lo' := [some (.inr (.inr (some 203))), some (.inl c), some (.inl t), some (.inl h), some (.inl ((mo_strikesBy v 0 0).1)), some (.inl (3 * ((mo_strikesBy v 0 0).2 210 4)))]) (st' := [.inl h, .inl ((3 * ((mo_strikesBy v 0 0).2 210 4)) + 2), .inr (.inr (some 213))]) rfl ?_
  refine r_iast2 (pc' := 46) (pc0 := 45) (len := 1) rfl (s_213 _) (by first | assumption | omega | (unfold R32 at *; omega) | (unfold R64 at *; omega) | (simp only [R32, R64] at *; omega)) (by decide) rfl ?_
  have hX_9 : XI (v2 (v2 (v2 ((mo_strikesBy v 0 0).2) 213 (((3 * ((mo_strikesBy v 0 0).2 210 4))).toNat) c) 213 ((((3 * ((mo_strikesBy v 0 0).2 210 4)) + 1)).toNat) t) 213 ((((3 * ((mo_strikesBy v 0 0).2 210 4)) + 2)).toNat) h) := XI.put hX_8 (show 0 ≤ h ∧ h ≤ 299 from (by first | assumption | omega | (unfold R32 at *; omega) | (unfold R64 at *; omega) | (simp only [R32, R64] at *; omega)))
  refine r_ex 1 (pc' := 47) (lo' := [some (.inr (.inr (some 203))), some (.inl c), some (.inl t), some (.inl h), some (.inl ((mo_strikesBy v 0 0).1)), some (.inl (3 * ((mo_strikesBy v 0 0).2 210 4)))]) (st' := [.inr (.inr (some 203))]) rfl ?_
  refine r_call (m := 241) (args := [.inr (.inr (some 203))]) (n' := 278) (pc' := 50) (lo' := [some (.inr (.inr (some 203))), some (.inl c), some (.inl t), some (.inl h), some (.inl ((mo_strikesBy v 0 0).1)), some (.inl (3 * ((mo_strikesBy v 0 0).2 210 4)))]) (st' := []) (I := .invokevirtual 241) (pc0 := 47) (len := 3) rfl rfl rfl (e_mo_plainly hX_9) ?_
  show WV _ _ _ 50 _ [] _ (mo_plainly (v2 (v2 (v2 ((mo_strikesBy v 0 0).2) 213 (((3 * ((mo_strikesBy v 0 0).2 210 4))).toNat) c) 213 ((((3 * ((mo_strikesBy v 0 0).2 210 4)) + 1)).toNat) t) 213 ((((3 * ((mo_strikesBy v 0 0).2 210 4)) + 2)).toNat) h)) _
  have hX_10 : XI (mo_plainly (v2 (v2 (v2 ((mo_strikesBy v 0 0).2) 213 (((3 * ((mo_strikesBy v 0 0).2 210 4))).toNat) c) 213 ((((3 * ((mo_strikesBy v 0 0).2 210 4)) + 1)).toNat) t) 213 ((((3 * ((mo_strikesBy v 0 0).2 210 4)) + 2)).toNat) h)) := i_mo_plainly (v := (v2 (v2 (v2 ((mo_strikesBy v 0 0).2) 213 (((3 * ((mo_strikesBy v 0 0).2 210 4))).toNat) c) 213 ((((3 * ((mo_strikesBy v 0 0).2 210 4)) + 1)).toNat) t) 213 ((((3 * ((mo_strikesBy v 0 0).2 210 4)) + 2)).toNat) h)) hX_9
  refine r_ex 4 (pc' := 56) (lo' := [some (.inr (.inr (some 203))), some (.inl c), some (.inl t), some (.inl h), some (.inl ((mo_strikesBy v 0 0).1)), some (.inl (3 * ((mo_strikesBy v 0 0).2 210 4)))]) (st' := [.inl 4, .inr (.inr (some 210)), .inr (.inr (some 203))]) rfl ?_
  refine r_iald2 (j := 0) (x := ((mo_plainly (v2 (v2 (v2 ((mo_strikesBy v 0 0).2) 213 (((3 * ((mo_strikesBy v 0 0).2 210 4))).toNat) c) 213 ((((3 * ((mo_strikesBy v 0 0).2 210 4)) + 1)).toNat) t) 213 ((((3 * ((mo_strikesBy v 0 0).2 210 4)) + 2)).toNat) h)) 210 4)) (pc' := 57) (pc0 := 56) (len := 1) rfl (s_210 _) (by first | assumption | omega | (unfold R32 at *; omega) | (unfold R64 at *; omega) | (simp only [R32, R64] at *; omega)) (by decide) rfl rfl ?_
  have hb_11 : 0 ≤ ((mo_plainly (v2 (v2 (v2 ((mo_strikesBy v 0 0).2) 213 (((3 * ((mo_strikesBy v 0 0).2 210 4))).toNat) c) 213 ((((3 * ((mo_strikesBy v 0 0).2 210 4)) + 1)).toNat) t) 213 ((((3 * ((mo_strikesBy v 0 0).2 210 4)) + 2)).toNat) h)) 210 4) ∧ ((mo_plainly (v2 (v2 (v2 ((mo_strikesBy v 0 0).2) 213 (((3 * ((mo_strikesBy v 0 0).2 210 4))).toNat) c) 213 ((((3 * ((mo_strikesBy v 0 0).2 210 4)) + 1)).toNat) t) 213 ((((3 * ((mo_strikesBy v 0 0).2 210 4)) + 2)).toNat) h)) 210 4) ≤ 4 := hX_10 210 4
  refine r_ex 2 (pc' := 59) (lo' := [some (.inr (.inr (some 203))), some (.inl c), some (.inl t), some (.inl h), some (.inl ((mo_strikesBy v 0 0).1)), some (.inl (3 * ((mo_strikesBy v 0 0).2 210 4)))]) (st' := [.inl (((mo_plainly (v2 (v2 (v2 ((mo_strikesBy v 0 0).2) 213 (((3 * ((mo_strikesBy v 0 0).2 210 4))).toNat) c) 213 ((((3 * ((mo_strikesBy v 0 0).2 210 4)) + 1)).toNat) t) 213 ((((3 * ((mo_strikesBy v 0 0).2 210 4)) + 2)).toNat) h)) 210 4) + 1), .inr (.inr (some 203))]) rfl ?_
  refine r_puti2 (j := 33) (pc' := 62) (pc0 := 59) (len := 3) rfl (s_203 _) rfl rfl rfl (Or.inl rfl) rfl rfl ?_
  have hX_12 : XI (v2 (mo_plainly (v2 (v2 (v2 ((mo_strikesBy v 0 0).2) 213 (((3 * ((mo_strikesBy v 0 0).2 210 4))).toNat) c) 213 ((((3 * ((mo_strikesBy v 0 0).2 210 4)) + 1)).toNat) t) 213 ((((3 * ((mo_strikesBy v 0 0).2 210 4)) + 2)).toNat) h)) 203 33 (((mo_plainly (v2 (v2 (v2 ((mo_strikesBy v 0 0).2) 213 (((3 * ((mo_strikesBy v 0 0).2 210 4))).toNat) c) 213 ((((3 * ((mo_strikesBy v 0 0).2 210 4)) + 1)).toNat) t) 213 ((((3 * ((mo_strikesBy v 0 0).2 210 4)) + 2)).toNat) h)) 210 4) + 1)) := XI.put hX_10 (show 0 ≤ (((mo_plainly (v2 (v2 (v2 ((mo_strikesBy v 0 0).2) 213 (((3 * ((mo_strikesBy v 0 0).2 210 4))).toNat) c) 213 ((((3 * ((mo_strikesBy v 0 0).2 210 4)) + 1)).toNat) t) 213 ((((3 * ((mo_strikesBy v 0 0).2 210 4)) + 2)).toNat) h)) 210 4) + 1) ∧ (((mo_plainly (v2 (v2 (v2 ((mo_strikesBy v 0 0).2) 213 (((3 * ((mo_strikesBy v 0 0).2 210 4))).toNat) c) 213 ((((3 * ((mo_strikesBy v 0 0).2 210 4)) + 1)).toNat) t) 213 ((((3 * ((mo_strikesBy v 0 0).2 210 4)) + 2)).toNat) h)) 210 4) + 1) ≤ 5 from (by first | assumption | omega | (unfold R32 at *; omega) | (unfold R64 at *; omega) | (simp only [R32, R64] at *; omega)))
  refine r_ex 1 (pc' := 63) (lo' := [some (.inr (.inr (some 203))), some (.inl c), some (.inl t), some (.inl h), some (.inl ((mo_strikesBy v 0 0).1)), some (.inl (3 * ((mo_strikesBy v 0 0).2 210 4)))]) (st' := [.inr (.inr (some 203))]) rfl ?_
  have hp_13 : CF (v2 (mo_plainly (v2 (v2 (v2 ((mo_strikesBy v 0 0).2) 213 (((3 * ((mo_strikesBy v 0 0).2 210 4))).toNat) c) 213 ((((3 * ((mo_strikesBy v 0 0).2 210 4)) + 1)).toNat) t) 213 ((((3 * ((mo_strikesBy v 0 0).2 210 4)) + 2)).toNat) h)) 203 33 (((mo_plainly (v2 (v2 (v2 ((mo_strikesBy v 0 0).2) 213 (((3 * ((mo_strikesBy v 0 0).2 210 4))).toNat) c) 213 ((((3 * ((mo_strikesBy v 0 0).2 210 4)) + 1)).toNat) t) 213 ((((3 * ((mo_strikesBy v 0 0).2 210 4)) + 2)).toNat) h)) 210 4) + 1)) := show CF (v2 (mo_plainly (v2 (v2 (v2 ((mo_strikesBy v 0 0).2) 213 (((3 * ((mo_strikesBy v 0 0).2 210 4))).toNat) c) 213 ((((3 * ((mo_strikesBy v 0 0).2 210 4)) + 1)).toNat) t) 213 ((((3 * ((mo_strikesBy v 0 0).2 210 4)) + 2)).toNat) h)) 203 33 (((mo_plainly (v2 (v2 (v2 ((mo_strikesBy v 0 0).2) 213 (((3 * ((mo_strikesBy v 0 0).2 210 4))).toNat) c) 213 ((((3 * ((mo_strikesBy v 0 0).2 210 4)) + 1)).toNat) t) 213 ((((3 * ((mo_strikesBy v 0 0).2 210 4)) + 2)).toNat) h)) 210 4) + 1)) from (show CF (v2 (mo_plainly (v2 (v2 (v2 ((mo_strikesBy v 0 0).2) 213 (((3 * ((mo_strikesBy v 0 0).2 210 4))).toNat) c) 213 ((((3 * ((mo_strikesBy v 0 0).2 210 4)) + 1)).toNat) t) 213 ((((3 * ((mo_strikesBy v 0 0).2 210 4)) + 2)).toNat) h)) 203 33 (((mo_plainly (v2 (v2 (v2 ((mo_strikesBy v 0 0).2) 213 (((3 * ((mo_strikesBy v 0 0).2 210 4))).toNat) c) 213 ((((3 * ((mo_strikesBy v 0 0).2 210 4)) + 1)).toNat) t) 213 ((((3 * ((mo_strikesBy v 0 0).2 210 4)) + 2)).toNat) h)) 210 4) + 1)) from CF.of (show CF (v2 (v2 (v2 ((mo_strikesBy v 0 0).2) 213 (((3 * ((mo_strikesBy v 0 0).2 210 4))).toNat) c) 213 ((((3 * ((mo_strikesBy v 0 0).2 210 4)) + 1)).toNat) t) 213 ((((3 * ((mo_strikesBy v 0 0).2 210 4)) + 2)).toNat) h) from CF.p213 (show CF (v2 (v2 ((mo_strikesBy v 0 0).2) 213 (((3 * ((mo_strikesBy v 0 0).2 210 4))).toNat) c) 213 ((((3 * ((mo_strikesBy v 0 0).2 210 4)) + 1)).toNat) t) from CF.p213 (show CF (v2 ((mo_strikesBy v 0 0).2) 213 (((3 * ((mo_strikesBy v 0 0).2 210 4))).toNat) c) from CF.p213 (show CF ((mo_strikesBy v 0 0).2) from CF.of hp_d (fun k h1 h2 => by rw [o_mo_strikesBy (by omega)])) (by omega)) (by omega)) (by omega)) (fun k h1 h2 => by rw [v2_row (by omega), o_mo_plainly (by omega)]))
  refine r_call (m := 247) (args := [.inr (.inr (some 203))]) (n' := 278) (pc' := 66) (lo' := [some (.inr (.inr (some 203))), some (.inl c), some (.inl t), some (.inl h), some (.inl ((mo_strikesBy v 0 0).1)), some (.inl (3 * ((mo_strikesBy v 0 0).2 210 4)))]) (st' := []) (I := .invokevirtual 247) (pc0 := 63) (len := 3) rfl rfl rfl (e_mo_run hX_12 hp_13) ?_
  show WV _ _ _ 66 _ [] _ (mo_run (v2 (mo_plainly (v2 (v2 (v2 ((mo_strikesBy v 0 0).2) 213 (((3 * ((mo_strikesBy v 0 0).2 210 4))).toNat) c) 213 ((((3 * ((mo_strikesBy v 0 0).2 210 4)) + 1)).toNat) t) 213 ((((3 * ((mo_strikesBy v 0 0).2 210 4)) + 2)).toNat) h)) 203 33 (((mo_plainly (v2 (v2 (v2 ((mo_strikesBy v 0 0).2) 213 (((3 * ((mo_strikesBy v 0 0).2 210 4))).toNat) c) 213 ((((3 * ((mo_strikesBy v 0 0).2 210 4)) + 1)).toNat) t) 213 ((((3 * ((mo_strikesBy v 0 0).2 210 4)) + 2)).toNat) h)) 210 4) + 1))) _
  have hX_14 : XI (mo_run (v2 (mo_plainly (v2 (v2 (v2 ((mo_strikesBy v 0 0).2) 213 (((3 * ((mo_strikesBy v 0 0).2 210 4))).toNat) c) 213 ((((3 * ((mo_strikesBy v 0 0).2 210 4)) + 1)).toNat) t) 213 ((((3 * ((mo_strikesBy v 0 0).2 210 4)) + 2)).toNat) h)) 203 33 (((mo_plainly (v2 (v2 (v2 ((mo_strikesBy v 0 0).2) 213 (((3 * ((mo_strikesBy v 0 0).2 210 4))).toNat) c) 213 ((((3 * ((mo_strikesBy v 0 0).2 210 4)) + 1)).toNat) t) 213 ((((3 * ((mo_strikesBy v 0 0).2 210 4)) + 2)).toNat) h)) 210 4) + 1))) := i_mo_run (v := (v2 (mo_plainly (v2 (v2 (v2 ((mo_strikesBy v 0 0).2) 213 (((3 * ((mo_strikesBy v 0 0).2 210 4))).toNat) c) 213 ((((3 * ((mo_strikesBy v 0 0).2 210 4)) + 1)).toNat) t) 213 ((((3 * ((mo_strikesBy v 0 0).2 210 4)) + 2)).toNat) h)) 203 33 (((mo_plainly (v2 (v2 (v2 ((mo_strikesBy v 0 0).2) 213 (((3 * ((mo_strikesBy v 0 0).2 210 4))).toNat) c) 213 ((((3 * ((mo_strikesBy v 0 0).2 210 4)) + 1)).toNat) t) 213 ((((3 * ((mo_strikesBy v 0 0).2 210 4)) + 2)).toNat) h)) 210 4) + 1))) hX_12 hp_13
  refine r_ex 4 (pc' := 73) (lo' := [some (.inr (.inr (some 203))), some (.inl c), some (.inl t), some (.inl h), some (.inl ((mo_strikesBy v 0 0).1)), some (.inl (3 * ((mo_strikesBy v 0 0).2 210 4)))]) (st' := [.inl (((mo_run (v2 (mo_plainly (v2 (v2 (v2 ((mo_strikesBy v 0 0).2) 213 (((3 * ((mo_strikesBy v 0 0).2 210 4))).toNat) c) 213 ((((3 * ((mo_strikesBy v 0 0).2 210 4)) + 1)).toNat) t) 213 ((((3 * ((mo_strikesBy v 0 0).2 210 4)) + 2)).toNat) h)) 203 33 (((mo_plainly (v2 (v2 (v2 ((mo_strikesBy v 0 0).2) 213 (((3 * ((mo_strikesBy v 0 0).2 210 4))).toNat) c) 213 ((((3 * ((mo_strikesBy v 0 0).2 210 4)) + 1)).toNat) t) 213 ((((3 * ((mo_strikesBy v 0 0).2 210 4)) + 2)).toNat) h)) 210 4) + 1))) 203 37) - (mo_strikesBy v 0 0).1)]) rfl ?_
  have hb_15 : 0 ≤ ((mo_run (v2 (mo_plainly (v2 (v2 (v2 ((mo_strikesBy v 0 0).2) 213 (((3 * ((mo_strikesBy v 0 0).2 210 4))).toNat) c) 213 ((((3 * ((mo_strikesBy v 0 0).2 210 4)) + 1)).toNat) t) 213 ((((3 * ((mo_strikesBy v 0 0).2 210 4)) + 2)).toNat) h)) 203 33 (((mo_plainly (v2 (v2 (v2 ((mo_strikesBy v 0 0).2) 213 (((3 * ((mo_strikesBy v 0 0).2 210 4))).toNat) c) 213 ((((3 * ((mo_strikesBy v 0 0).2 210 4)) + 1)).toNat) t) 213 ((((3 * ((mo_strikesBy v 0 0).2 210 4)) + 2)).toNat) h)) 210 4) + 1))) 203 37) ∧ ((mo_run (v2 (mo_plainly (v2 (v2 (v2 ((mo_strikesBy v 0 0).2) 213 (((3 * ((mo_strikesBy v 0 0).2 210 4))).toNat) c) 213 ((((3 * ((mo_strikesBy v 0 0).2 210 4)) + 1)).toNat) t) 213 ((((3 * ((mo_strikesBy v 0 0).2 210 4)) + 2)).toNat) h)) 203 33 (((mo_plainly (v2 (v2 (v2 ((mo_strikesBy v 0 0).2) 213 (((3 * ((mo_strikesBy v 0 0).2 210 4))).toNat) c) 213 ((((3 * ((mo_strikesBy v 0 0).2 210 4)) + 1)).toNat) t) 213 ((((3 * ((mo_strikesBy v 0 0).2 210 4)) + 2)).toNat) h)) 210 4) + 1))) 203 37) ≤ 300 := hX_14 203 37
  refine r_ret (rr := some (.inl (((mo_run (v2 (mo_plainly (v2 (v2 (v2 ((mo_strikesBy v 0 0).2) 213 (((3 * ((mo_strikesBy v 0 0).2 210 4))).toNat) c) 213 ((((3 * ((mo_strikesBy v 0 0).2 210 4)) + 1)).toNat) t) 213 ((((3 * ((mo_strikesBy v 0 0).2 210 4)) + 2)).toNat) h)) 203 33 (((mo_plainly (v2 (v2 (v2 ((mo_strikesBy v 0 0).2) 213 (((3 * ((mo_strikesBy v 0 0).2 210 4))).toNat) c) 213 ((((3 * ((mo_strikesBy v 0 0).2 210 4)) + 1)).toNat) t) 213 ((((3 * ((mo_strikesBy v 0 0).2 210 4)) + 2)).toNat) h)) 210 4) + 1))) 203 37) - (mo_strikesBy v 0 0).1))) (I := .ireturn) (pc0 := 73) (len := 1) rfl rfl ?_
  exact hQ hX_14 (by first | assumption | omega | (unfold R32 at *; omega) | (unfold R64 at *; omega) | (simp only [R32, R64] at *; omega)) (show CF (mo_run (v2 (mo_plainly (v2 (v2 (v2 ((mo_strikesBy v 0 0).2) 213 (((3 * ((mo_strikesBy v 0 0).2 210 4))).toNat) c) 213 ((((3 * ((mo_strikesBy v 0 0).2 210 4)) + 1)).toNat) t) 213 ((((3 * ((mo_strikesBy v 0 0).2 210 4)) + 2)).toNat) h)) 203 33 (((mo_plainly (v2 (v2 (v2 ((mo_strikesBy v 0 0).2) 213 (((3 * ((mo_strikesBy v 0 0).2 210 4))).toNat) c) 213 ((((3 * ((mo_strikesBy v 0 0).2 210 4)) + 1)).toNat) t) 213 ((((3 * ((mo_strikesBy v 0 0).2 210 4)) + 2)).toNat) h)) 210 4) + 1))) from (show CF (mo_run (v2 (mo_plainly (v2 (v2 (v2 ((mo_strikesBy v 0 0).2) 213 (((3 * ((mo_strikesBy v 0 0).2 210 4))).toNat) c) 213 ((((3 * ((mo_strikesBy v 0 0).2 210 4)) + 1)).toNat) t) 213 ((((3 * ((mo_strikesBy v 0 0).2 210 4)) + 2)).toNat) h)) 203 33 (((mo_plainly (v2 (v2 (v2 ((mo_strikesBy v 0 0).2) 213 (((3 * ((mo_strikesBy v 0 0).2 210 4))).toNat) c) 213 ((((3 * ((mo_strikesBy v 0 0).2 210 4)) + 1)).toNat) t) 213 ((((3 * ((mo_strikesBy v 0 0).2 210 4)) + 2)).toNat) h)) 210 4) + 1))) from CF.of (show CF (v2 (v2 (v2 ((mo_strikesBy v 0 0).2) 213 (((3 * ((mo_strikesBy v 0 0).2 210 4))).toNat) c) 213 ((((3 * ((mo_strikesBy v 0 0).2 210 4)) + 1)).toNat) t) 213 ((((3 * ((mo_strikesBy v 0 0).2 210 4)) + 2)).toNat) h) from CF.p213 (show CF (v2 (v2 ((mo_strikesBy v 0 0).2) 213 (((3 * ((mo_strikesBy v 0 0).2 210 4))).toNat) c) 213 ((((3 * ((mo_strikesBy v 0 0).2 210 4)) + 1)).toNat) t) from CF.p213 (show CF (v2 ((mo_strikesBy v 0 0).2) 213 (((3 * ((mo_strikesBy v 0 0).2 210 4))).toNat) c) from CF.p213 (show CF ((mo_strikesBy v 0 0).2) from CF.of hp_d (fun k h1 h2 => by rw [o_mo_strikesBy (by omega)])) (by omega)) (by omega)) (by omega)) (fun k h1 h2 => by rw [o_mo_run (by omega), v2_row (by omega), o_mo_plainly (by omega)])))

theorem e_mo_panOf {X : PX} {d b : Nat} {v : VS} {c : Int} {t : Int} {h : Int} (hX : XI v) (hp_a : 0 ≤ c ∧ c ≤ 8) (hp_b : 0 ≤ t ∧ t ≤ 299) (hp_c : 0 ≤ h ∧ h ≤ 99) (hp_d : CF v) : EvV X (d + 1 + 1 + 1 + 1 + 1 + 1) 278 [.inr (.inr (some 203)), .inl c, .inl t, .inl h] b v (some (.inl (mo_panOf v c t h).1)) b ((mo_panOf v c t h).2) := EvV.of (w_mo_panOf hX hp_a hp_b hp_c hp_d (fun _ _ _ => ⟨rfl, rfl, rfl⟩))

theorem i_mo_panOf {v : VS} {c : Int} {t : Int} {h : Int} (hX : XI v) (hp_a : 0 ≤ c ∧ c ≤ 8) (hp_b : 0 ≤ t ∧ t ≤ 299) (hp_c : 0 ≤ h ∧ h ≤ 99) (hp_d : CF v) : XI ((mo_panOf v c t h).2) := by
  have q : WV (0, fun _ => 0, none) (0 + 1 + 1 + 1 + 1 + 1 + 1) 278 0 [some (.inr (.inr (some 203))), some (.inl c), some (.inl t), some (.inl h), none, none] [] 1 v (fun _ _ _ => XI ((mo_panOf v c t h).2)) := w_mo_panOf (X := (0, fun _ => 0, none)) (d := 0) (b := 1) hX hp_a hp_b hp_c hp_d (fun q _ _ => q)
  obtain ⟨_, _, _, _, _, _, _, q⟩ := q
  exact q

theorem n0_mo_panOf {v : VS} {c : Int} {t : Int} {h : Int} (hX : XI v) (hp_a : 0 ≤ c ∧ c ≤ 8) (hp_b : 0 ≤ t ∧ t ≤ 299) (hp_c : 0 ≤ h ∧ h ≤ 99) (hp_d : CF v) : -300 ≤ (mo_panOf v c t h).1 ∧ (mo_panOf v c t h).1 ≤ 300 := by
  have q : WV (0, fun _ => 0, none) (0 + 1 + 1 + 1 + 1 + 1 + 1) 278 0 [some (.inr (.inr (some 203))), some (.inl c), some (.inl t), some (.inl h), none, none] [] 1 v (fun _ _ _ => -300 ≤ (mo_panOf v c t h).1 ∧ (mo_panOf v c t h).1 ≤ 300) := w_mo_panOf (X := (0, fun _ => 0, none)) (d := 0) (b := 1) hX hp_a hp_b hp_c hp_d (fun _ q _ => q)
  obtain ⟨_, _, _, _, _, _, _, q⟩ := q
  exact q

theorem n1_mo_panOf {v : VS} {c : Int} {t : Int} {h : Int} (hX : XI v) (hp_a : 0 ≤ c ∧ c ≤ 8) (hp_b : 0 ≤ t ∧ t ≤ 299) (hp_c : 0 ≤ h ∧ h ≤ 99) (hp_d : CF v) : CF ((mo_panOf v c t h).2) := by
  have q : WV (0, fun _ => 0, none) (0 + 1 + 1 + 1 + 1 + 1 + 1) 278 0 [some (.inr (.inr (some 203))), some (.inl c), some (.inl t), some (.inl h), none, none] [] 1 v (fun _ _ _ => CF ((mo_panOf v c t h).2)) := w_mo_panOf (X := (0, fun _ => 0, none)) (d := 0) (b := 1) hX hp_a hp_b hp_c hp_d (fun _ _ q => q)
  obtain ⟨_, _, _, _, _, _, _, q⟩ := q
  exact q

theorem o_mo_panOf {rk : Nat} {v : VS} {c : Int} {t : Int} {h : Int} (hk : (rk < 203 ∨ 203 < rk) ∧ (rk < 213 ∨ 213 < rk) ∧ (rk < 219 ∨ 231 < rk)) : (mo_panOf v c t h).2 rk = v rk := by
  unfold mo_panOf
  all_goals (show (mo_run (v2 (mo_plainly (v2 (v2 (v2 ((mo_strikesBy v 0 0).2) 213 (((3 * ((mo_strikesBy v 0 0).2 210 4))).toNat) c) 213 ((((3 * ((mo_strikesBy v 0 0).2 210 4)) + 1)).toNat) t) 213 ((((3 * ((mo_strikesBy v 0 0).2 210 4)) + 2)).toNat) h)) 203 33 (((mo_plainly (v2 (v2 (v2 ((mo_strikesBy v 0 0).2) 213 (((3 * ((mo_strikesBy v 0 0).2 210 4))).toNat) c) 213 ((((3 * ((mo_strikesBy v 0 0).2 210 4)) + 1)).toNat) t) 213 ((((3 * ((mo_strikesBy v 0 0).2 210 4)) + 2)).toNat) h)) 210 4) + 1))) rk = _)
  all_goals (rw [o_mo_run (by omega), v2_row (by omega), o_mo_plainly (by omega), v2_row (by omega), v2_row (by omega), v2_row (by omega), o_mo_strikesBy (by omega)])

noncomputable def mo_pan (v : VS) (c : Int) (t : Int) (h : Int) : Int × VS :=
  (if 0 ≤ c ∧ c < (v 210 0) then (if 0 ≤ t ∧ t < (v 210 1) then (if 1 ≤ h ∧ h ≤ 99 then ((mo_panOf (v2 v 203 0 0) c t h).1, (mo_panOf (v2 v 203 0 0) c t h).2) else ((-2000000), (v2 v 203 0 0))) else ((-2000000), (v2 v 203 0 0))) else ((-2000000), (v2 v 203 0 0)))
theorem w_mo_pan {X : PX} {d b : Nat} {v : VS} {c : Int} {t : Int} {h : Int} (hX : XI v) (hp_a : R32 c) (hp_b : R32 t) (hp_c : R32 h) (hp_d : CF v) {Q : Option PV → Nat → VS → Prop} (hQ : XI (mo_pan v c t h).2 → Q (some (.inl (mo_pan v c t h).1)) b (mo_pan v c t h).2) : WV X (d + 1 + 1 + 1 + 1 + 1 + 1 + 1) 277 0 [some (.inr (.inr (some 203))), some (.inl c), some (.inl t), some (.inl h)] [] b v Q := by
  rw [mo_pan] at hQ
  refine r_ex 2 (pc' := 2) (lo' := [some (.inr (.inr (some 203))), some (.inl c), some (.inl t), some (.inl h)]) (st' := [.inl 0, .inr (.inr (some 203))]) rfl ?_
  refine r_puti2 (j := 0) (pc' := 5) (pc0 := 2) (len := 3) rfl (s_203 _) rfl rfl rfl (Or.inl rfl) rfl rfl ?_
  have hX_1 : XI (v2 v 203 0 0) := XI.put hX trivial
  refine r_ex 2 (pc' := 7) (lo' := [some (.inr (.inr (some 203))), some (.inl c), some (.inl t), some (.inl h)]) (st' := [.inl c, .inr (.inr (some 203))]) rfl ?_
  refine n_i2l (pc' := 8) (pc0 := 7) (len := 1) rfl (by first | assumption | omega | (unfold R32 at *; omega) | (unfold R64 at *; omega) | (simp only [R32, R64] at *; omega)) rfl ?_
  have hp_2 : R64 c := (by first | assumption | omega | (unfold R32 at *; omega) | (unfold R64 at *; omega) | (simp only [R32, R64] at *; omega))
  have hb_3 : 0 ≤ (v 210 0) ∧ (v 210 0) ≤ 9 := hX_1 210 0
  refine r_callb (P := 0 ≤ c ∧ c < (v 210 0)) (m := 236) (args := [.inr (.inr (some 203)), .inr (.inl c)]) (n' := 277) (pc' := 11) (lo' := [some (.inr (.inr (some 203))), some (.inl c), some (.inl t), some (.inl h)]) (st' := []) (I := .invokevirtual 236) (pc0 := 8) (len := 3) rfl rfl rfl (e_mo_isChurch hX_1 hp_2) (fun h_8 => ?_) (fun h_8 => ?_)
  · show WV _ _ _ 11 _ _ _ _ _
    rw [if_pos h_8] at hQ
    refine r_ex 3 (pc' := 16) (lo' := [some (.inr (.inr (some 203))), some (.inl c), some (.inl t), some (.inl h)]) (st' := [.inl t, .inr (.inr (some 203))]) rfl ?_
    refine n_i2l (pc' := 17) (pc0 := 16) (len := 1) rfl (by first | assumption | omega | (unfold R32 at *; omega) | (unfold R64 at *; omega) | (simp only [R32, R64] at *; omega)) rfl ?_
    have hp_4 : R64 t := (by first | assumption | omega | (unfold R32 at *; omega) | (unfold R64 at *; omega) | (simp only [R32, R64] at *; omega))
    have hb_5 : 0 ≤ (v 210 1) ∧ (v 210 1) ≤ 300 := hX_1 210 1
    refine r_callb (P := 0 ≤ t ∧ t < (v 210 1)) (m := 240) (args := [.inr (.inr (some 203)), .inr (.inl t)]) (n' := 277) (pc' := 20) (lo' := [some (.inr (.inr (some 203))), some (.inl c), some (.inl t), some (.inl h)]) (st' := []) (I := .invokevirtual 240) (pc0 := 17) (len := 3) rfl rfl rfl (e_mo_isSecond hX_1 hp_4) (fun h_17 => ?_) (fun h_17 => ?_)
    · show WV _ _ _ 20 _ _ _ _ _
      rw [if_pos h_17] at hQ
      refine r_ex 2 (pc' := 24) (lo' := [some (.inr (.inr (some 203))), some (.inl c), some (.inl t), some (.inl h)]) (st' := [.inl h]) rfl ?_
      refine n_i2l (pc' := 25) (pc0 := 24) (len := 1) rfl (by first | assumption | omega | (unfold R32 at *; omega) | (unfold R64 at *; omega) | (simp only [R32, R64] at *; omega)) rfl ?_
      have hp_6 : R64 h := (by first | assumption | omega | (unfold R32 at *; omega) | (unfold R64 at *; omega) | (simp only [R32, R64] at *; omega))
      refine r_callb (P := 1 ≤ h ∧ h ≤ 99) (m := 264) (args := [.inr (.inl h)]) (n' := 277) (pc' := 28) (lo' := [some (.inr (.inr (some 203))), some (.inl c), some (.inl t), some (.inl h)]) (st' := []) (I := .invokestatic 264) (pc0 := 25) (len := 3) rfl rfl rfl (e_mo_isHour hX_1 hp_6) (fun h_25 => ?_) (fun h_25 => ?_)
      · show WV _ _ _ 28 _ _ _ _ _
        rw [if_pos h_25] at hQ
        refine r_ex 5 (pc' := 35) (lo' := [some (.inr (.inr (some 203))), some (.inl c), some (.inl t), some (.inl h)]) (st' := [.inl h, .inl t, .inl c, .inr (.inr (some 203))]) rfl ?_
        have hp_7 : 0 ≤ c ∧ c ≤ 8 := (by first | assumption | omega | (unfold R32 at *; omega) | (unfold R64 at *; omega) | (simp only [R32, R64] at *; omega))
        have hp_8 : 0 ≤ t ∧ t ≤ 299 := (by first | assumption | omega | (unfold R32 at *; omega) | (unfold R64 at *; omega) | (simp only [R32, R64] at *; omega))
        have hp_9 : 0 ≤ h ∧ h ≤ 99 := (by first | assumption | omega | (unfold R32 at *; omega) | (unfold R64 at *; omega) | (simp only [R32, R64] at *; omega))
        have hp_10 : CF (v2 v 203 0 0) := show CF (v2 v 203 0 0) from (show CF (v2 v 203 0 0) from CF.of hp_d (fun k h1 h2 => by rw [v2_row (by omega)]))
        refine r_call (m := 278) (args := [.inr (.inr (some 203)), .inl c, .inl t, .inl h]) (n' := 277) (pc' := 38) (lo' := [some (.inr (.inr (some 203))), some (.inl c), some (.inl t), some (.inl h)]) (st' := []) (I := .invokevirtual 278) (pc0 := 35) (len := 3) rfl rfl rfl (e_mo_panOf hX_1 hp_7 hp_8 hp_9 hp_10) ?_
        show WV _ _ _ 38 _ [.inl ((mo_panOf (v2 v 203 0 0) c t h).1)] _ (mo_panOf (v2 v 203 0 0) c t h).2 _
        have hX_11 : XI (mo_panOf (v2 v 203 0 0) c t h).2 := i_mo_panOf (v := (v2 v 203 0 0)) (c := c) (t := t) (h := h) hX_1 hp_7 hp_8 hp_9 hp_10
        have hb_12 := n0_mo_panOf (v := (v2 v 203 0 0)) (c := c) (t := t) (h := h) hX_1 hp_7 hp_8 hp_9 hp_10
        have hl_13 := n1_mo_panOf (v := (v2 v 203 0 0)) (c := c) (t := t) (h := h) hX_1 hp_7 hp_8 hp_9 hp_10
        refine r_ex 1 (pc' := 44) (lo' := [some (.inr (.inr (some 203))), some (.inl c), some (.inl t), some (.inl h)]) (st' := [.inl ((mo_panOf (v2 v 203 0 0) c t h).1)]) rfl ?_
        refine r_ret (rr := some (.inl ((mo_panOf (v2 v 203 0 0) c t h).1))) (I := .ireturn) (pc0 := 44) (len := 1) rfl rfl ?_
        exact hQ hX_11 
      · show WV _ _ _ 28 _ _ _ _ _
        rw [if_neg h_25] at hQ
        refine r_ex 2 (pc' := 44) (lo' := [some (.inr (.inr (some 203))), some (.inl c), some (.inl t), some (.inl h)]) (st' := [.inl (-2000000)]) rfl ?_
        refine r_ret (rr := some (.inl (-2000000))) (I := .ireturn) (pc0 := 44) (len := 1) rfl rfl ?_
        exact hQ hX_1 
    · show WV _ _ _ 20 _ _ _ _ _
      rw [if_neg h_17] at hQ
      refine r_ex 2 (pc' := 44) (lo' := [some (.inr (.inr (some 203))), some (.inl c), some (.inl t), some (.inl h)]) (st' := [.inl (-2000000)]) rfl ?_
      refine r_ret (rr := some (.inl (-2000000))) (I := .ireturn) (pc0 := 44) (len := 1) rfl rfl ?_
      exact hQ hX_1 
  · show WV _ _ _ 11 _ _ _ _ _
    rw [if_neg h_8] at hQ
    refine r_ex 2 (pc' := 44) (lo' := [some (.inr (.inr (some 203))), some (.inl c), some (.inl t), some (.inl h)]) (st' := [.inl (-2000000)]) rfl ?_
    refine r_ret (rr := some (.inl (-2000000))) (I := .ireturn) (pc0 := 44) (len := 1) rfl rfl ?_
    exact hQ hX_1 

theorem e_mo_pan {X : PX} {d b : Nat} {v : VS} {c : Int} {t : Int} {h : Int} (hX : XI v) (hp_a : R32 c) (hp_b : R32 t) (hp_c : R32 h) (hp_d : CF v) : EvV X (d + 1 + 1 + 1 + 1 + 1 + 1 + 1) 277 [.inr (.inr (some 203)), .inl c, .inl t, .inl h] b v (some (.inl (mo_pan v c t h).1)) b ((mo_pan v c t h).2) := EvV.of (w_mo_pan hX hp_a hp_b hp_c hp_d (fun _ => ⟨rfl, rfl, rfl⟩))

theorem i_mo_pan {v : VS} {c : Int} {t : Int} {h : Int} (hX : XI v) (hp_a : R32 c) (hp_b : R32 t) (hp_c : R32 h) (hp_d : CF v) : XI ((mo_pan v c t h).2) := by
  have q : WV (0, fun _ => 0, none) (0 + 1 + 1 + 1 + 1 + 1 + 1 + 1) 277 0 [some (.inr (.inr (some 203))), some (.inl c), some (.inl t), some (.inl h)] [] 1 v (fun _ _ _ => XI ((mo_pan v c t h).2)) := w_mo_pan (X := (0, fun _ => 0, none)) (d := 0) (b := 1) hX hp_a hp_b hp_c hp_d (fun q => q)
  obtain ⟨_, _, _, _, _, _, _, q⟩ := q
  exact q

theorem o_mo_pan {rk : Nat} {v : VS} {c : Int} {t : Int} {h : Int} (hk : (rk < 203 ∨ 203 < rk) ∧ (rk < 213 ∨ 213 < rk) ∧ (rk < 219 ∨ 231 < rk)) : (mo_pan v c t h).2 rk = v rk := by
  unfold mo_pan
  by_cases hc_ : 0 ≤ c ∧ c < (v 210 0)
  · rw [if_pos hc_] <;> clear hc_
    by_cases hc_ : 0 ≤ t ∧ t < (v 210 1)
    · rw [if_pos hc_] <;> clear hc_
      by_cases hc_ : 1 ≤ h ∧ h ≤ 99
      · rw [if_pos hc_] <;> clear hc_
        all_goals (show ((mo_panOf (v2 v 203 0 0) c t h).2) rk = _)
        all_goals (rw [o_mo_panOf (by omega), v2_row (by omega)])
      · rw [if_neg hc_] <;> clear hc_
        all_goals (show (v2 v 203 0 0) rk = _)
        all_goals (rw [v2_row (by omega)])
    · rw [if_neg hc_] <;> clear hc_
      all_goals (show (v2 v 203 0 0) rk = _)
      all_goals (rw [v2_row (by omega)])
  · rw [if_neg hc_] <;> clear hc_
    all_goals (show (v2 v 203 0 0) rk = _)
    all_goals (rw [v2_row (by omega)])

noncomputable def mo_boy_39 : Nat → VS → Int → Int → Int → Int → Int → Int × VS
  | 0, v, t, h, g, m, c => (0, v)
  | f + 1, v, t, h, g, m, c => (if c < (v 210 0) then (if m < (mo_panOf v c t h).1 then (mo_boy_39 f ((mo_panOf v c t h).2) t h c ((mo_panOf v c t h).1) (c + 1)) else (mo_boy_39 f ((mo_panOf v c t h).2) t h g m (c + 1))) else (g, v))
noncomputable def mo_boy (v : VS) (t : Int) (h : Int) : Int × VS :=
  (if 0 ≤ t ∧ t < (v 210 1) then (if 1 ≤ h ∧ h ≤ 99 then ((mo_boy_39 10 ((mo_panOf (v2 v 203 0 0) 0 t h).2) t h 0 ((mo_panOf (v2 v 203 0 0) 0 t h).1) 1).1, (mo_boy_39 10 ((mo_panOf (v2 v 203 0 0) 0 t h).2) t h 0 ((mo_panOf (v2 v 203 0 0) 0 t h).1) 1).2) else ((-2), (v2 v 203 0 0))) else ((-2), (v2 v 203 0 0)))
theorem l_mo_boy_39 {X : PX} {d b : Nat} {Q : Option PV → Nat → VS → Prop}  : ∀ (f : Nat) (v : VS) (t : Int) (h : Int) (g : Int) (m : Int) (c : Int) (o6 : Option PV), XI v → (0 ≤ t ∧ t ≤ 299) → (0 ≤ h ∧ h ≤ 99) → (0 ≤ g ∧ g ≤ 9) → (-300 ≤ m ∧ m ≤ 300) → (1 ≤ c ∧ c ≤ 9) → (CF v) → (9 < c + f) → (∀ qx4 : Option PV, ∀ qx5 : Option PV, ∀ qx6 : Option PV, XI ((mo_boy_39 f v t h g m c).2) → (0 ≤ (mo_boy_39 f v t h g m c).1 ∧ (mo_boy_39 f v t h g m c).1 ≤ 9) → WV X (d + 1 + 1 + 1 + 1 + 1 + 1 + 1) 279 83 [some (.inr (.inr (some 203))), some (.inl t), some (.inl h), some (.inl ((mo_boy_39 f v t h g m c).1)), qx4, qx5, qx6] [] b (mo_boy_39 f v t h g m c).2 Q) → WV X (d + 1 + 1 + 1 + 1 + 1 + 1 + 1) 279 39 [some (.inr (.inr (some 203))), some (.inl t), some (.inl h), some (.inl g), some (.inl m), some (.inl c), o6] [] b v Q := by
  intro f
  induction f with
  | zero =>
    intro v t h g m c o6 hX hi_0 hi_1 hi_2 hi_3 hi_4 hi_5 hf hK
    exfalso
    omega
  | succ f ih =>
    intro v t h g m c o6 hX hi_0 hi_1 hi_2 hi_3 hi_4 hi_5 hf hK
    rw [mo_boy_39] at hK
    refine r_ex 4 (pc' := 46) (lo' := [some (.inr (.inr (some 203))), some (.inl t), some (.inl h), some (.inl g), some (.inl m), some (.inl c), o6]) (st' := [.inl 0, .inr (.inr (some 210)), .inl c]) rfl ?_
    refine r_iald2 (j := 0) (x := (v 210 0)) (pc' := 47) (pc0 := 46) (len := 1) rfl (s_210 _) (by first | assumption | omega | (unfold R32 at *; omega) | (unfold R64 at *; omega) | (simp only [R32, R64] at *; omega)) (by decide) rfl rfl ?_
    have hb_12 : 0 ≤ (v 210 0) ∧ (v 210 0) ≤ 9 := hX 210 0
    refine n_ic_ge (pc0 := 47) (len := 3) (t := 83) rfl (by first | assumption | omega | (unfold R32 at *; omega) | (unfold R64 at *; omega) | (simp only [R32, R64] at *; omega)) (by first | assumption | omega | (unfold R32 at *; omega) | (unfold R64 at *; omega) | (simp only [R32, R64] at *; omega)) (fun h_47 => ?_) (fun h_47 => ?_)
    · show WV _ _ _ 83 _ _ _ _ _
      rw [if_neg h_47] at hK
      exact hK _ _ _ hX (by first | assumption | omega | (unfold R32 at *; omega) | (unfold R64 at *; omega) | (simp only [R32, R64] at *; omega))
    · show WV _ _ _ 50 _ _ _ _ _
      rw [if_pos h_47] at hK
      refine r_ex 4 (pc' := 55) (lo' := [some (.inr (.inr (some 203))), some (.inl t), some (.inl h), some (.inl g), some (.inl m), some (.inl c), o6]) (st' := [.inl h, .inl t, .inl c, .inr (.inr (some 203))]) rfl ?_
      have hp_13 : 0 ≤ c ∧ c ≤ 8 := (by first | assumption | omega | (unfold R32 at *; omega) | (unfold R64 at *; omega) | (simp only [R32, R64] at *; omega))
      have hp_14 : 0 ≤ t ∧ t ≤ 299 := (by first | assumption | omega | (unfold R32 at *; omega) | (unfold R64 at *; omega) | (simp only [R32, R64] at *; omega))
      have hp_15 : 0 ≤ h ∧ h ≤ 99 := (by first | assumption | omega | (unfold R32 at *; omega) | (unfold R64 at *; omega) | (simp only [R32, R64] at *; omega))
      have hp_16 : CF v := hi_5
      refine r_call (m := 278) (args := [.inr (.inr (some 203)), .inl c, .inl t, .inl h]) (n' := 279) (pc' := 58) (lo' := [some (.inr (.inr (some 203))), some (.inl t), some (.inl h), some (.inl g), some (.inl m), some (.inl c), o6]) (st' := []) (I := .invokevirtual 278) (pc0 := 55) (len := 3) rfl rfl rfl (e_mo_panOf hX hp_13 hp_14 hp_15 hp_16) ?_
      show WV _ _ _ 58 _ [.inl ((mo_panOf v c t h).1)] _ (mo_panOf v c t h).2 _
      have hX_17 : XI (mo_panOf v c t h).2 := i_mo_panOf (v := v) (c := c) (t := t) (h := h) hX hp_13 hp_14 hp_15 hp_16
      have hb_18 := n0_mo_panOf (v := v) (c := c) (t := t) (h := h) hX hp_13 hp_14 hp_15 hp_16
      have hl_19 := n1_mo_panOf (v := v) (c := c) (t := t) (h := h) hX hp_13 hp_14 hp_15 hp_16
      refine r_ex 3 (pc' := 64) (lo' := [some (.inr (.inr (some 203))), some (.inl t), some (.inl h), some (.inl g), some (.inl m), some (.inl c), some (.inl ((mo_panOf v c t h).1))]) (st' := [.inl m, .inl ((mo_panOf v c t h).1)]) rfl ?_
      refine n_ic_gt (pc0 := 64) (len := 3) (t := 70) rfl (by first | assumption | omega | (unfold R32 at *; omega) | (unfold R64 at *; omega) | (simp only [R32, R64] at *; omega)) (by first | assumption | omega | (unfold R32 at *; omega) | (unfold R64 at *; omega) | (simp only [R32, R64] at *; omega)) (fun h_64 => ?_) (fun h_64 => ?_)
      · show WV _ _ _ 70 _ _ _ _ _
        rw [if_pos h_64] at hK
        refine r_ex 6 (pc' := 39) (lo' := [some (.inr (.inr (some 203))), some (.inl t), some (.inl h), some (.inl c), some (.inl ((mo_panOf v c t h).1)), some (.inl (c + 1)), some (.inl ((mo_panOf v c t h).1))]) (st' := []) rfl ?_
        refine ih ((mo_panOf v c t h).2) t h c ((mo_panOf v c t h).1) (c + 1) _ hX_17 (by first | assumption | omega | (unfold R32 at *; omega) | (unfold R64 at *; omega) | (simp only [R32, R64] at *; omega)) (by first | assumption | omega | (unfold R32 at *; omega) | (unfold R64 at *; omega) | (simp only [R32, R64] at *; omega)) (by first | assumption | omega | (unfold R32 at *; omega) | (unfold R64 at *; omega) | (simp only [R32, R64] at *; omega)) (by first | assumption | omega | (unfold R32 at *; omega) | (unfold R64 at *; omega) | (simp only [R32, R64] at *; omega)) (by first | assumption | omega | (unfold R32 at *; omega) | (unfold R64 at *; omega) | (simp only [R32, R64] at *; omega)) (hl_19) (by first | assumption | omega | (unfold R32 at *; omega) | (unfold R64 at *; omega) | (simp only [R32, R64] at *; omega)) hK
      · show WV _ _ _ 67 _ _ _ _ _
        rw [if_neg h_64] at hK
        refine r_ex 3 (pc' := 39) (lo' := [some (.inr (.inr (some 203))), some (.inl t), some (.inl h), some (.inl g), some (.inl m), some (.inl (c + 1)), some (.inl ((mo_panOf v c t h).1))]) (st' := []) rfl ?_
        refine ih ((mo_panOf v c t h).2) t h g m (c + 1) _ hX_17 (by first | assumption | omega | (unfold R32 at *; omega) | (unfold R64 at *; omega) | (simp only [R32, R64] at *; omega)) (by first | assumption | omega | (unfold R32 at *; omega) | (unfold R64 at *; omega) | (simp only [R32, R64] at *; omega)) (by first | assumption | omega | (unfold R32 at *; omega) | (unfold R64 at *; omega) | (simp only [R32, R64] at *; omega)) (by first | assumption | omega | (unfold R32 at *; omega) | (unfold R64 at *; omega) | (simp only [R32, R64] at *; omega)) (by first | assumption | omega | (unfold R32 at *; omega) | (unfold R64 at *; omega) | (simp only [R32, R64] at *; omega)) (hl_19) (by first | assumption | omega | (unfold R32 at *; omega) | (unfold R64 at *; omega) | (simp only [R32, R64] at *; omega)) hK

theorem of_mo_boy_39 {rk : Nat} (hk : (rk < 203 ∨ 203 < rk) ∧ (rk < 213 ∨ 213 < rk) ∧ (rk < 219 ∨ 231 < rk)) : ∀ (f : Nat) {v : VS} {t : Int} {h : Int} {g : Int} {m : Int} {c : Int}, (mo_boy_39 f v t h g m c).2 rk = v rk := by
  intro f
  induction f with
  | zero => intro v t h g m c; rfl
  | succ f ih =>
    intro v t h g m c
    rw [mo_boy_39]
    by_cases hc_ : c < (v 210 0)
    · rw [if_pos hc_] <;> clear hc_
      by_cases hc_ : m < (mo_panOf v c t h).1
      · rw [if_pos hc_] <;> clear hc_
        all_goals (rw [ih, o_mo_panOf (by omega)])
      · rw [if_neg hc_] <;> clear hc_
        all_goals (rw [ih, o_mo_panOf (by omega)])
    · rw [if_neg hc_] <;> clear hc_
      all_goals (show v rk = _)
      all_goals rfl
theorem o_mo_boy_39 {rk : Nat} {f : Nat} {v : VS} {t : Int} {h : Int} {g : Int} {m : Int} {c : Int} (hk : (rk < 203 ∨ 203 < rk) ∧ (rk < 213 ∨ 213 < rk) ∧ (rk < 219 ∨ 231 < rk)) : (mo_boy_39 f v t h g m c).2 rk = v rk := of_mo_boy_39 hk f

theorem w_mo_boy {X : PX} {d b : Nat} {v : VS} {t : Int} {h : Int} (hX : XI v) (hp_a : R32 t) (hp_b : R32 h) (hp_c : CF v) {Q : Option PV → Nat → VS → Prop} (hQ : XI (mo_boy v t h).2 → Q (some (.inl (mo_boy v t h).1)) b (mo_boy v t h).2) : WV X (d + 1 + 1 + 1 + 1 + 1 + 1 + 1) 279 0 [some (.inr (.inr (some 203))), some (.inl t), some (.inl h), none, none, none, none] [] b v Q := by
  rw [mo_boy] at hQ
  refine r_ex 2 (pc' := 2) (lo' := [some (.inr (.inr (some 203))), some (.inl t), some (.inl h), none, none, none, none]) (st' := [.inl 0, .inr (.inr (some 203))]) rfl ?_
  refine r_puti2 (j := 0) (pc' := 5) (pc0 := 2) (len := 3) rfl (s_203 _) rfl rfl rfl (Or.inl rfl) rfl rfl ?_
  have hX_1 : XI (v2 v 203 0 0) := XI.put hX trivial
  refine r_ex 2 (pc' := 7) (lo' := [some (.inr (.inr (some 203))), some (.inl t), some (.inl h), none, none, none, none]) (st' := [.inl t, .inr (.inr (some 203))]) rfl ?_
  refine n_i2l (pc' := 8) (pc0 := 7) (len := 1) rfl (by first | assumption | omega | (unfold R32 at *; omega) | (unfold R64 at *; omega) | (simp only [R32, R64] at *; omega)) rfl ?_
  have hp_2 : R64 t := (by first | assumption | omega | (unfold R32 at *; omega) | (unfold R64 at *; omega) | (simp only [R32, R64] at *; omega))
  have hb_3 : 0 ≤ (v 210 1) ∧ (v 210 1) ≤ 300 := hX_1 210 1
  refine r_callb (P := 0 ≤ t ∧ t < (v 210 1)) (m := 240) (args := [.inr (.inr (some 203)), .inr (.inl t)]) (n' := 279) (pc' := 11) (lo' := [some (.inr (.inr (some 203))), some (.inl t), some (.inl h), none, none, none, none]) (st' := []) (I := .invokevirtual 240) (pc0 := 8) (len := 3) rfl rfl rfl (e_mo_isSecond hX_1 hp_2) (fun h_8 => ?_) (fun h_8 => ?_)
  · show WV _ _ _ 11 _ _ _ _ _
    rw [if_pos h_8] at hQ
    refine r_ex 2 (pc' := 15) (lo' := [some (.inr (.inr (some 203))), some (.inl t), some (.inl h), none, none, none, none]) (st' := [.inl h]) rfl ?_
    refine n_i2l (pc' := 16) (pc0 := 15) (len := 1) rfl (by first | assumption | omega | (unfold R32 at *; omega) | (unfold R64 at *; omega) | (simp only [R32, R64] at *; omega)) rfl ?_
    have hp_4 : R64 h := (by first | assumption | omega | (unfold R32 at *; omega) | (unfold R64 at *; omega) | (simp only [R32, R64] at *; omega))
    refine r_callb (P := 1 ≤ h ∧ h ≤ 99) (m := 264) (args := [.inr (.inl h)]) (n' := 279) (pc' := 19) (lo' := [some (.inr (.inr (some 203))), some (.inl t), some (.inl h), none, none, none, none]) (st' := []) (I := .invokestatic 264) (pc0 := 16) (len := 3) rfl rfl rfl (e_mo_isHour hX_1 hp_4) (fun h_16 => ?_) (fun h_16 => ?_)
    · show WV _ _ _ 19 _ _ _ _ _
      rw [if_pos h_16] at hQ
      refine r_ex 7 (pc' := 31) (lo' := [some (.inr (.inr (some 203))), some (.inl t), some (.inl h), some (.inl 0), none, none, none]) (st' := [.inl h, .inl t, .inl 0, .inr (.inr (some 203))]) rfl ?_
      have hp_5 : 0 ≤ (0 : Int) ∧ (0 : Int) ≤ 8 := (by first | assumption | omega | (unfold R32 at *; omega) | (unfold R64 at *; omega) | (simp only [R32, R64] at *; omega))
      have hp_6 : 0 ≤ t ∧ t ≤ 299 := (by first | assumption | omega | (unfold R32 at *; omega) | (unfold R64 at *; omega) | (simp only [R32, R64] at *; omega))
      have hp_7 : 0 ≤ h ∧ h ≤ 99 := (by first | assumption | omega | (unfold R32 at *; omega) | (unfold R64 at *; omega) | (simp only [R32, R64] at *; omega))
      have hp_8 : CF (v2 v 203 0 0) := show CF (v2 v 203 0 0) from (show CF (v2 v 203 0 0) from CF.of hp_c (fun k h1 h2 => by rw [v2_row (by omega)]))
      refine r_call (m := 278) (args := [.inr (.inr (some 203)), .inl 0, .inl t, .inl h]) (n' := 279) (pc' := 34) (lo' := [some (.inr (.inr (some 203))), some (.inl t), some (.inl h), some (.inl 0), none, none, none]) (st' := []) (I := .invokevirtual 278) (pc0 := 31) (len := 3) rfl rfl rfl (e_mo_panOf hX_1 hp_5 hp_6 hp_7 hp_8) ?_
      show WV _ _ _ 34 _ [.inl ((mo_panOf (v2 v 203 0 0) 0 t h).1)] _ (mo_panOf (v2 v 203 0 0) 0 t h).2 _
      have hX_9 : XI (mo_panOf (v2 v 203 0 0) 0 t h).2 := i_mo_panOf (v := (v2 v 203 0 0)) (c := 0) (t := t) (h := h) hX_1 hp_5 hp_6 hp_7 hp_8
      have hb_10 := n0_mo_panOf (v := (v2 v 203 0 0)) (c := 0) (t := t) (h := h) hX_1 hp_5 hp_6 hp_7 hp_8
      have hl_11 := n1_mo_panOf (v := (v2 v 203 0 0)) (c := 0) (t := t) (h := h) hX_1 hp_5 hp_6 hp_7 hp_8
      refine r_ex 3 (pc' := 39) (lo' := [some (.inr (.inr (some 203))), some (.inl t), some (.inl h), some (.inl 0), some (.inl ((mo_panOf (v2 v 203 0 0) 0 t h).1)), some (.inl 1), none]) (st' := []) rfl ?_
      refine l_mo_boy_39 10 ((mo_panOf (v2 v 203 0 0) 0 t h).2) t h 0 ((mo_panOf (v2 v 203 0 0) 0 t h).1) 1 _ hX_9 (by first | assumption | omega | (unfold R32 at *; omega) | (unfold R64 at *; omega) | (simp only [R32, R64] at *; omega)) (by first | assumption | omega | (unfold R32 at *; omega) | (unfold R64 at *; omega) | (simp only [R32, R64] at *; omega)) (by first | assumption | omega | (unfold R32 at *; omega) | (unfold R64 at *; omega) | (simp only [R32, R64] at *; omega)) (by first | assumption | omega | (unfold R32 at *; omega) | (unfold R64 at *; omega) | (simp only [R32, R64] at *; omega)) (by first | assumption | omega | (unfold R32 at *; omega) | (unfold R64 at *; omega) | (simp only [R32, R64] at *; omega)) (hl_11) (by first | assumption | omega | (unfold R32 at *; omega) | (unfold R64 at *; omega) | (simp only [R32, R64] at *; omega)) (fun o4_20 o5_20 o6_20 hX_20 hv_20_0 => ?_)
      show WV _ _ _ 83 _ _ _ _ _
      refine r_ex 1 (pc' := 84) (lo' := [some (.inr (.inr (some 203))), some (.inl t), some (.inl h), some (.inl ((mo_boy_39 10 ((mo_panOf (v2 v 203 0 0) 0 t h).2) t h 0 ((mo_panOf (v2 v 203 0 0) 0 t h).1) 1).1)), o4_20, o5_20, o6_20]) (st' := [.inl ((mo_boy_39 10 ((mo_panOf (v2 v 203 0 0) 0 t h).2) t h 0 ((mo_panOf (v2 v 203 0 0) 0 t h).1) 1).1)]) rfl ?_
      refine r_ret (rr := some (.inl ((mo_boy_39 10 ((mo_panOf (v2 v 203 0 0) 0 t h).2) t h 0 ((mo_panOf (v2 v 203 0 0) 0 t h).1) 1).1))) (I := .ireturn) (pc0 := 84) (len := 1) rfl rfl ?_
      exact hQ hX_20 
    · show WV _ _ _ 19 _ _ _ _ _
      rw [if_neg h_16] at hQ
      refine r_ex 2 (pc' := 24) (lo' := [some (.inr (.inr (some 203))), some (.inl t), some (.inl h), none, none, none, none]) (st' := [.inl (-2)]) rfl ?_
      refine r_ret (rr := some (.inl (-2))) (I := .ireturn) (pc0 := 24) (len := 1) rfl rfl ?_
      exact hQ hX_1 
  · show WV _ _ _ 11 _ _ _ _ _
    rw [if_neg h_8] at hQ
    refine r_ex 2 (pc' := 24) (lo' := [some (.inr (.inr (some 203))), some (.inl t), some (.inl h), none, none, none, none]) (st' := [.inl (-2)]) rfl ?_
    refine r_ret (rr := some (.inl (-2))) (I := .ireturn) (pc0 := 24) (len := 1) rfl rfl ?_
    exact hQ hX_1 

theorem e_mo_boy {X : PX} {d b : Nat} {v : VS} {t : Int} {h : Int} (hX : XI v) (hp_a : R32 t) (hp_b : R32 h) (hp_c : CF v) : EvV X (d + 1 + 1 + 1 + 1 + 1 + 1 + 1) 279 [.inr (.inr (some 203)), .inl t, .inl h] b v (some (.inl (mo_boy v t h).1)) b ((mo_boy v t h).2) := EvV.of (w_mo_boy hX hp_a hp_b hp_c (fun _ => ⟨rfl, rfl, rfl⟩))

theorem i_mo_boy {v : VS} {t : Int} {h : Int} (hX : XI v) (hp_a : R32 t) (hp_b : R32 h) (hp_c : CF v) : XI ((mo_boy v t h).2) := by
  have q : WV (0, fun _ => 0, none) (0 + 1 + 1 + 1 + 1 + 1 + 1 + 1) 279 0 [some (.inr (.inr (some 203))), some (.inl t), some (.inl h), none, none, none, none] [] 1 v (fun _ _ _ => XI ((mo_boy v t h).2)) := w_mo_boy (X := (0, fun _ => 0, none)) (d := 0) (b := 1) hX hp_a hp_b hp_c (fun q => q)
  obtain ⟨_, _, _, _, _, _, _, q⟩ := q
  exact q

theorem o_mo_boy {rk : Nat} {v : VS} {t : Int} {h : Int} (hk : (rk < 203 ∨ 203 < rk) ∧ (rk < 213 ∨ 213 < rk) ∧ (rk < 219 ∨ 231 < rk)) : (mo_boy v t h).2 rk = v rk := by
  unfold mo_boy
  by_cases hc_ : 0 ≤ t ∧ t < (v 210 1)
  · rw [if_pos hc_] <;> clear hc_
    by_cases hc_ : 1 ≤ h ∧ h ≤ 99
    · rw [if_pos hc_] <;> clear hc_
      all_goals (show ((mo_boy_39 10 ((mo_panOf (v2 v 203 0 0) 0 t h).2) t h 0 ((mo_panOf (v2 v 203 0 0) 0 t h).1) 1).2) rk = _)
      all_goals (rw [o_mo_boy_39 (by omega), o_mo_panOf (by omega), v2_row (by omega)])
    · rw [if_neg hc_] <;> clear hc_
      all_goals (show (v2 v 203 0 0) rk = _)
      all_goals (rw [v2_row (by omega)])
  · rw [if_neg hc_] <;> clear hc_
    all_goals (show (v2 v 203 0 0) rk = _)
    all_goals (rw [v2_row (by omega)])

noncomputable def mo_lastFirst_4 : Nat → VS → Int → Int → Int
  | 0, v, l, c => 0
  | f + 1, v, l, c => (if c < (v 210 0) then (if (v 230 ((c).toNat)) = (-1) then (-1) else (if l < (mo_firstAt v c) then (mo_lastFirst_4 f v (mo_firstAt v c) (c + 1)) else (mo_lastFirst_4 f v l (c + 1)))) else l)
noncomputable def mo_lastFirst (v : VS)  : Int :=
  (mo_lastFirst_4 10 v 0 0)
theorem l_mo_lastFirst_4 {X : PX} {d b : Nat} {Q : Option PV → Nat → VS → Prop}  : ∀ (f : Nat) (v : VS) (l : Int) (c : Int), XI v → (0 ≤ l ∧ l ≤ 3699) → (0 ≤ c ∧ c ≤ 9) → (9 < c + f) → ((-1 ≤ (mo_lastFirst_4 f v l c) ∧ (mo_lastFirst_4 f v l c) ≤ 3699) → Q (some (.inl (mo_lastFirst_4 f v l c))) b v) → WV X (d + 1 + 1) 282 4 [some (.inr (.inr (some 203))), some (.inl l), some (.inl c)] [] b v Q := by
  intro f
  induction f with
  | zero =>
    intro v l c hX hi_0 hi_1 hf hQ
    exfalso
    omega
  | succ f ih =>
    intro v l c hX hi_0 hi_1 hf hQ
    rw [mo_lastFirst_4] at hQ
    refine r_ex 4 (pc' := 10) (lo' := [some (.inr (.inr (some 203))), some (.inl l), some (.inl c)]) (st' := [.inl 0, .inr (.inr (some 210)), .inl c]) rfl ?_
    refine r_iald2 (j := 0) (x := (v 210 0)) (pc' := 11) (pc0 := 10) (len := 1) rfl (s_210 _) (by first | assumption | omega | (unfold R32 at *; omega) | (unfold R64 at *; omega) | (simp only [R32, R64] at *; omega)) (by decide) rfl rfl ?_
    have hb_1 : 0 ≤ (v 210 0) ∧ (v 210 0) ≤ 9 := hX 210 0
    refine n_ic_ge (pc0 := 11) (len := 3) (t := 51) rfl (by first | assumption | omega | (unfold R32 at *; omega) | (unfold R64 at *; omega) | (simp only [R32, R64] at *; omega)) (by first | assumption | omega | (unfold R32 at *; omega) | (unfold R64 at *; omega) | (simp only [R32, R64] at *; omega)) (fun h_11 => ?_) (fun h_11 => ?_)
    · show WV _ _ _ 51 _ _ _ _ _
      rw [if_neg h_11] at hQ
      refine r_ex 1 (pc' := 52) (lo' := [some (.inr (.inr (some 203))), some (.inl l), some (.inl c)]) (st' := [.inl l]) rfl ?_
      refine r_ret (rr := some (.inl l)) (I := .ireturn) (pc0 := 52) (len := 1) rfl rfl ?_
      exact hQ (by first | assumption | omega | (unfold R32 at *; omega) | (unfold R64 at *; omega) | (simp only [R32, R64] at *; omega))
    · show WV _ _ _ 14 _ _ _ _ _
      rw [if_pos h_11] at hQ
      refine r_ex 3 (pc' := 19) (lo' := [some (.inr (.inr (some 203))), some (.inl l), some (.inl c)]) (st' := [.inl c, .inr (.inr (some 230))]) rfl ?_
      refine r_iald2 (j := 0) (x := (v 230 ((c).toNat))) (pc' := 20) (pc0 := 19) (len := 1) rfl (s_230 _) (by first | assumption | omega | (unfold R32 at *; omega) | (unfold R64 at *; omega) | (simp only [R32, R64] at *; omega)) (by decide) rfl rfl ?_
      have hb_2 : -1 ≤ (v 230 ((c).toNat)) ∧ (v 230 ((c).toNat)) ≤ 299 := hX 230 ((c).toNat)
      refine r_ex 1 (pc' := 21) (lo' := [some (.inr (.inr (some 203))), some (.inl l), some (.inl c)]) (st' := [.inl (-1), .inl (v 230 ((c).toNat))]) rfl ?_
      refine n_ic_ne (pc0 := 21) (len := 3) (t := 26) rfl (by first | assumption | omega | (unfold R32 at *; omega) | (unfold R64 at *; omega) | (simp only [R32, R64] at *; omega)) (by first | assumption | omega | (unfold R32 at *; omega) | (unfold R64 at *; omega) | (simp only [R32, R64] at *; omega)) (fun h_21 => ?_) (fun h_21 => ?_)
      · show WV _ _ _ 26 _ _ _ _ _
        rw [if_neg h_21] at hQ
        refine r_ex 2 (pc' := 28) (lo' := [some (.inr (.inr (some 203))), some (.inl l), some (.inl c)]) (st' := [.inl c, .inr (.inr (some 203))]) rfl ?_
        have hp_3 : 0 ≤ c ∧ c ≤ 8 := (by first | assumption | omega | (unfold R32 at *; omega) | (unfold R64 at *; omega) | (simp only [R32, R64] at *; omega))
        refine r_call (m := 260) (args := [.inr (.inr (some 203)), .inl c]) (n' := 282) (pc' := 31) (lo' := [some (.inr (.inr (some 203))), some (.inl l), some (.inl c)]) (st' := []) (I := .invokevirtual 260) (pc0 := 28) (len := 3) rfl rfl rfl (e_mo_firstAt hX hp_3) ?_
        show WV _ _ _ 31 _ [.inl (mo_firstAt v c)] _ _ _
        have hb_4 := n_mo_firstAt (v := v) (c := c) hX hp_3
        refine r_ex 1 (pc' := 32) (lo' := [some (.inr (.inr (some 203))), some (.inl l), some (.inl c)]) (st' := [.inl l, .inl (mo_firstAt v c)]) rfl ?_
        refine n_ic_le (pc0 := 32) (len := 3) (t := 43) rfl (by first | assumption | omega | (unfold R32 at *; omega) | (unfold R64 at *; omega) | (simp only [R32, R64] at *; omega)) (by first | assumption | omega | (unfold R32 at *; omega) | (unfold R64 at *; omega) | (simp only [R32, R64] at *; omega)) (fun h_32 => ?_) (fun h_32 => ?_)
        · show WV _ _ _ 43 _ _ _ _ _
          rw [if_neg h_32] at hQ
          refine r_ex 4 (pc' := 4) (lo' := [some (.inr (.inr (some 203))), some (.inl l), some (.inl (c + 1))]) (st' := []) rfl ?_
          refine ih v l (c + 1)  hX (by first | assumption | omega | (unfold R32 at *; omega) | (unfold R64 at *; omega) | (simp only [R32, R64] at *; omega)) (by first | assumption | omega | (unfold R32 at *; omega) | (unfold R64 at *; omega) | (simp only [R32, R64] at *; omega)) (by first | assumption | omega | (unfold R32 at *; omega) | (unfold R64 at *; omega) | (simp only [R32, R64] at *; omega)) hQ
        · show WV _ _ _ 35 _ _ _ _ _
          rw [if_pos h_32] at hQ
          refine r_ex 2 (pc' := 37) (lo' := [some (.inr (.inr (some 203))), some (.inl l), some (.inl c)]) (st' := [.inl c, .inr (.inr (some 203))]) rfl ?_
          have hp_5 : 0 ≤ c ∧ c ≤ 8 := (by first | assumption | omega | (unfold R32 at *; omega) | (unfold R64 at *; omega) | (simp only [R32, R64] at *; omega))
          refine r_call (m := 260) (args := [.inr (.inr (some 203)), .inl c]) (n' := 282) (pc' := 40) (lo' := [some (.inr (.inr (some 203))), some (.inl l), some (.inl c)]) (st' := []) (I := .invokevirtual 260) (pc0 := 37) (len := 3) rfl rfl rfl (e_mo_firstAt hX hp_5) ?_
          show WV _ _ _ 40 _ [.inl (mo_firstAt v c)] _ _ _
          have hb_6 := n_mo_firstAt (v := v) (c := c) hX hp_5
          refine r_ex 4 (pc' := 4) (lo' := [some (.inr (.inr (some 203))), some (.inl (mo_firstAt v c)), some (.inl (c + 1))]) (st' := []) rfl ?_
          refine ih v (mo_firstAt v c) (c + 1)  hX (by first | assumption | omega | (unfold R32 at *; omega) | (unfold R64 at *; omega) | (simp only [R32, R64] at *; omega)) (by first | assumption | omega | (unfold R32 at *; omega) | (unfold R64 at *; omega) | (simp only [R32, R64] at *; omega)) (by first | assumption | omega | (unfold R32 at *; omega) | (unfold R64 at *; omega) | (simp only [R32, R64] at *; omega)) hQ
      · show WV _ _ _ 24 _ _ _ _ _
        rw [if_pos h_21] at hQ
        refine r_ex 1 (pc' := 25) (lo' := [some (.inr (.inr (some 203))), some (.inl l), some (.inl c)]) (st' := [.inl (-1)]) rfl ?_
        refine r_ret (rr := some (.inl (-1))) (I := .ireturn) (pc0 := 25) (len := 1) rfl rfl ?_
        exact hQ (by first | assumption | omega | (unfold R32 at *; omega) | (unfold R64 at *; omega) | (simp only [R32, R64] at *; omega))

theorem w_mo_lastFirst {X : PX} {d b : Nat} {v : VS}  (hX : XI v)  {Q : Option PV → Nat → VS → Prop} (hQ : (-1 ≤ (mo_lastFirst v) ∧ (mo_lastFirst v) ≤ 3699) → Q (some (.inl (mo_lastFirst v))) b v) : WV X (d + 1 + 1) 282 0 [some (.inr (.inr (some 203))), none, none] [] b v Q := by
  rw [mo_lastFirst] at hQ
  refine r_ex 4 (pc' := 4) (lo' := [some (.inr (.inr (some 203))), some (.inl 0), some (.inl 0)]) (st' := []) rfl ?_
  exact l_mo_lastFirst_4 10 v 0 0  hX (by first | assumption | omega | (unfold R32 at *; omega) | (unfold R64 at *; omega) | (simp only [R32, R64] at *; omega)) (by first | assumption | omega | (unfold R32 at *; omega) | (unfold R64 at *; omega) | (simp only [R32, R64] at *; omega)) (by first | assumption | omega | (unfold R32 at *; omega) | (unfold R64 at *; omega) | (simp only [R32, R64] at *; omega)) hQ

theorem e_mo_lastFirst {X : PX} {d b : Nat} {v : VS}  (hX : XI v)  : EvV X (d + 1 + 1) 282 [.inr (.inr (some 203))] b v (some (.inl (mo_lastFirst v))) b v := EvV.of (w_mo_lastFirst hX  (fun _ => ⟨rfl, rfl, rfl⟩))

theorem n_mo_lastFirst {v : VS}  (hX : XI v)  : -1 ≤ (mo_lastFirst v) ∧ (mo_lastFirst v) ≤ 3699 := by
  have q : WV (0, fun _ => 0, none) (0 + 1 + 1) 282 0 [some (.inr (.inr (some 203))), none, none] [] 1 v (fun _ _ _ => -1 ≤ (mo_lastFirst v) ∧ (mo_lastFirst v) ≤ 3699) := w_mo_lastFirst (X := (0, fun _ => 0, none)) (d := 0) (b := 1) hX  (fun q => q)
  obtain ⟨_, _, _, _, _, _, _, q⟩ := q
  exact q

noncomputable def mo_gainOf_9 (v : VS) (n : Int) (m : Int) : Int × VS :=
  (if m = (-1) then ((-2000000), (mo_run (v2 (mo_plainly v) 203 27 n))) else (if (mo_lastFirst (mo_run (v2 (mo_plainly v) 203 27 n))) = (-1) then ((-2000000), (mo_run (v2 (mo_plainly v) 203 27 n))) else ((m - (mo_lastFirst (mo_run (v2 (mo_plainly v) 203 27 n)))), (mo_run (v2 (mo_plainly v) 203 27 n)))))
noncomputable def mo_gainOf (v : VS) (n : Int) : Int × VS :=
  (mo_gainOf_9  (mo_told v) n (mo_lastFirst (mo_told v)))
theorem l_mo_gainOf_9 {X : PX} {d b : Nat} {Q : Option PV → Nat → VS → Prop}  : ∀ (v : VS) (n : Int) (m : Int) (o3 : Option PV), XI v → (-20 ≤ n ∧ n ≤ 20) → (-1 ≤ m ∧ m ≤ 3699) → (CF v) → (XI (mo_gainOf_9 v n m).2 → (-2000000 ≤ (mo_gainOf_9 v n m).1 ∧ (mo_gainOf_9 v n m).1 ≤ 4000) → Q (some (.inl (mo_gainOf_9 v n m).1)) b (mo_gainOf_9 v n m).2) → WV X (d + 1 + 1 + 1 + 1 + 1 + 1) 281 9 [some (.inr (.inr (some 203))), some (.inl n), some (.inl m), o3] [] b v Q := by
  intro v n m o3 hX hi_0 hi_1 hi_2 hQ
  rw [mo_gainOf_9] at hQ
  refine r_ex 1 (pc' := 10) (lo' := [some (.inr (.inr (some 203))), some (.inl n), some (.inl m), o3]) (st' := [.inr (.inr (some 203))]) rfl ?_
  refine r_call (m := 241) (args := [.inr (.inr (some 203))]) (n' := 281) (pc' := 13) (lo' := [some (.inr (.inr (some 203))), some (.inl n), some (.inl m), o3]) (st' := []) (I := .invokevirtual 241) (pc0 := 10) (len := 3) rfl rfl rfl (e_mo_plainly hX) ?_
  show WV _ _ _ 13 _ [] _ (mo_plainly v) _
  have hX_4 : XI (mo_plainly v) := i_mo_plainly (v := v) hX
  refine r_ex 2 (pc' := 15) (lo' := [some (.inr (.inr (some 203))), some (.inl n), some (.inl m), o3]) (st' := [.inl n, .inr (.inr (some 203))]) rfl ?_
  refine r_puti2 (j := 27) (pc' := 18) (pc0 := 15) (len := 3) rfl (s_203 _) rfl rfl rfl (Or.inl rfl) rfl rfl ?_
  have hX_5 : XI (v2 (mo_plainly v) 203 27 n) := XI.put hX_4 (show -20 ≤ n ∧ n ≤ 20 from (by first | assumption | omega | (unfold R32 at *; omega) | (unfold R64 at *; omega) | (simp only [R32, R64] at *; omega)))
  refine r_ex 1 (pc' := 19) (lo' := [some (.inr (.inr (some 203))), some (.inl n), some (.inl m), o3]) (st' := [.inr (.inr (some 203))]) rfl ?_
  have hp_6 : CF (v2 (mo_plainly v) 203 27 n) := show CF (v2 (mo_plainly v) 203 27 n) from (show CF (v2 (mo_plainly v) 203 27 n) from CF.of hi_2 (fun k h1 h2 => by rw [v2_row (by omega), o_mo_plainly (by omega)]))
  refine r_call (m := 247) (args := [.inr (.inr (some 203))]) (n' := 281) (pc' := 22) (lo' := [some (.inr (.inr (some 203))), some (.inl n), some (.inl m), o3]) (st' := []) (I := .invokevirtual 247) (pc0 := 19) (len := 3) rfl rfl rfl (e_mo_run hX_5 hp_6) ?_
  show WV _ _ _ 22 _ [] _ (mo_run (v2 (mo_plainly v) 203 27 n)) _
  have hX_7 : XI (mo_run (v2 (mo_plainly v) 203 27 n)) := i_mo_run (v := (v2 (mo_plainly v) 203 27 n)) hX_5 hp_6
  refine r_ex 1 (pc' := 23) (lo' := [some (.inr (.inr (some 203))), some (.inl n), some (.inl m), o3]) (st' := [.inr (.inr (some 203))]) rfl ?_
  refine r_call (m := 282) (args := [.inr (.inr (some 203))]) (n' := 281) (pc' := 26) (lo' := [some (.inr (.inr (some 203))), some (.inl n), some (.inl m), o3]) (st' := []) (I := .invokevirtual 282) (pc0 := 23) (len := 3) rfl rfl rfl (e_mo_lastFirst hX_7) ?_
  show WV _ _ _ 26 _ [.inl (mo_lastFirst (mo_run (v2 (mo_plainly v) 203 27 n)))] _ _ _
  have hb_8 := n_mo_lastFirst (v := (mo_run (v2 (mo_plainly v) 203 27 n))) hX_7
  refine r_ex 3 (pc' := 29) (lo' := [some (.inr (.inr (some 203))), some (.inl n), some (.inl m), some (.inl (mo_lastFirst (mo_run (v2 (mo_plainly v) 203 27 n))))]) (st' := [.inl (-1), .inl m]) rfl ?_
  refine n_ic_eq (pc0 := 29) (len := 3) (t := 37) rfl (by first | assumption | omega | (unfold R32 at *; omega) | (unfold R64 at *; omega) | (simp only [R32, R64] at *; omega)) (by first | assumption | omega | (unfold R32 at *; omega) | (unfold R64 at *; omega) | (simp only [R32, R64] at *; omega)) (fun h_29 => ?_) (fun h_29 => ?_)
  · show WV _ _ _ 37 _ _ _ _ _
    rw [if_pos h_29] at hQ
    refine r_ex 2 (pc' := 46) (lo' := [some (.inr (.inr (some 203))), some (.inl n), some (.inl m), some (.inl (mo_lastFirst (mo_run (v2 (mo_plainly v) 203 27 n))))]) (st' := [.inl (-2000000)]) rfl ?_
    refine r_ret (rr := some (.inl (-2000000))) (I := .ireturn) (pc0 := 46) (len := 1) rfl rfl ?_
    exact hQ hX_7 (by first | assumption | omega | (unfold R32 at *; omega) | (unfold R64 at *; omega) | (simp only [R32, R64] at *; omega))
  · show WV _ _ _ 32 _ _ _ _ _
    rw [if_neg h_29] at hQ
    refine r_ex 2 (pc' := 34) (lo' := [some (.inr (.inr (some 203))), some (.inl n), some (.inl m), some (.inl (mo_lastFirst (mo_run (v2 (mo_plainly v) 203 27 n))))]) (st' := [.inl (-1), .inl (mo_lastFirst (mo_run (v2 (mo_plainly v) 203 27 n)))]) rfl ?_
    refine n_ic_ne (pc0 := 34) (len := 3) (t := 43) rfl (by first | assumption | omega | (unfold R32 at *; omega) | (unfold R64 at *; omega) | (simp only [R32, R64] at *; omega)) (by first | assumption | omega | (unfold R32 at *; omega) | (unfold R64 at *; omega) | (simp only [R32, R64] at *; omega)) (fun h_34 => ?_) (fun h_34 => ?_)
    · show WV _ _ _ 43 _ _ _ _ _
      rw [if_neg h_34] at hQ
      refine r_ex 3 (pc' := 46) (lo' := [some (.inr (.inr (some 203))), some (.inl n), some (.inl m), some (.inl (mo_lastFirst (mo_run (v2 (mo_plainly v) 203 27 n))))]) (st' := [.inl (m - (mo_lastFirst (mo_run (v2 (mo_plainly v) 203 27 n))))]) rfl ?_
      refine r_ret (rr := some (.inl (m - (mo_lastFirst (mo_run (v2 (mo_plainly v) 203 27 n)))))) (I := .ireturn) (pc0 := 46) (len := 1) rfl rfl ?_
      exact hQ hX_7 (by first | assumption | omega | (unfold R32 at *; omega) | (unfold R64 at *; omega) | (simp only [R32, R64] at *; omega))
    · show WV _ _ _ 37 _ _ _ _ _
      rw [if_pos h_34] at hQ
      refine r_ex 2 (pc' := 46) (lo' := [some (.inr (.inr (some 203))), some (.inl n), some (.inl m), some (.inl (mo_lastFirst (mo_run (v2 (mo_plainly v) 203 27 n))))]) (st' := [.inl (-2000000)]) rfl ?_
      refine r_ret (rr := some (.inl (-2000000))) (I := .ireturn) (pc0 := 46) (len := 1) rfl rfl ?_
      exact hQ hX_7 (by first | assumption | omega | (unfold R32 at *; omega) | (unfold R64 at *; omega) | (simp only [R32, R64] at *; omega))

theorem o_mo_gainOf_9 {rk : Nat} {v : VS} {n : Int} {m : Int} (hk : (rk < 203 ∨ 203 < rk) ∧ (rk < 219 ∨ 231 < rk)) : (mo_gainOf_9 v n m).2 rk = v rk := by
  unfold mo_gainOf_9
  by_cases hc_ : m = (-1)
  · rw [if_pos hc_] <;> clear hc_
    all_goals (show (mo_run (v2 (mo_plainly v) 203 27 n)) rk = _)
    all_goals (rw [o_mo_run (by omega), v2_row (by omega), o_mo_plainly (by omega)])
  · rw [if_neg hc_] <;> clear hc_
    by_cases hc_ : (mo_lastFirst (mo_run (v2 (mo_plainly v) 203 27 n))) = (-1)
    · rw [if_pos hc_] <;> clear hc_
      all_goals (show (mo_run (v2 (mo_plainly v) 203 27 n)) rk = _)
      all_goals (rw [o_mo_run (by omega), v2_row (by omega), o_mo_plainly (by omega)])
    · rw [if_neg hc_] <;> clear hc_
      all_goals (show (mo_run (v2 (mo_plainly v) 203 27 n)) rk = _)
      all_goals (rw [o_mo_run (by omega), v2_row (by omega), o_mo_plainly (by omega)])

theorem w_mo_gainOf {X : PX} {d b : Nat} {v : VS} {n : Int} (hX : XI v) (hp_a : -20 ≤ n ∧ n ≤ 20) (hp_b : CF v) {Q : Option PV → Nat → VS → Prop} (hQ : XI (mo_gainOf v n).2 → (-2000000 ≤ (mo_gainOf v n).1 ∧ (mo_gainOf v n).1 ≤ 4000) → Q (some (.inl (mo_gainOf v n).1)) b (mo_gainOf v n).2) : WV X (d + 1 + 1 + 1 + 1 + 1 + 1) 281 0 [some (.inr (.inr (some 203))), some (.inl n), none, none] [] b v Q := by
  rw [mo_gainOf] at hQ
  refine r_ex 1 (pc' := 1) (lo' := [some (.inr (.inr (some 203))), some (.inl n), none, none]) (st' := [.inr (.inr (some 203))]) rfl ?_
  have hp_1 : CF v := hp_b
  refine r_call (m := 246) (args := [.inr (.inr (some 203))]) (n' := 281) (pc' := 4) (lo' := [some (.inr (.inr (some 203))), some (.inl n), none, none]) (st' := []) (I := .invokevirtual 246) (pc0 := 1) (len := 3) rfl rfl rfl (e_mo_told hX hp_1) ?_
  show WV _ _ _ 4 _ [] _ (mo_told v) _
  have hX_2 : XI (mo_told v) := i_mo_told (v := v) hX hp_1
  refine r_ex 1 (pc' := 5) (lo' := [some (.inr (.inr (some 203))), some (.inl n), none, none]) (st' := [.inr (.inr (some 203))]) rfl ?_
  refine r_call (m := 282) (args := [.inr (.inr (some 203))]) (n' := 281) (pc' := 8) (lo' := [some (.inr (.inr (some 203))), some (.inl n), none, none]) (st' := []) (I := .invokevirtual 282) (pc0 := 5) (len := 3) rfl rfl rfl (e_mo_lastFirst hX_2) ?_
  show WV _ _ _ 8 _ [.inl (mo_lastFirst (mo_told v))] _ _ _
  have hb_3 := n_mo_lastFirst (v := (mo_told v)) hX_2
  refine r_ex 1 (pc' := 9) (lo' := [some (.inr (.inr (some 203))), some (.inl n), some (.inl (mo_lastFirst (mo_told v))), none]) (st' := []) rfl ?_
  exact l_mo_gainOf_9  (mo_told v) n (mo_lastFirst (mo_told v)) _ hX_2 (by first | assumption | omega | (unfold R32 at *; omega) | (unfold R64 at *; omega) | (simp only [R32, R64] at *; omega)) (by first | assumption | omega | (unfold R32 at *; omega) | (unfold R64 at *; omega) | (simp only [R32, R64] at *; omega)) (show CF (mo_told v) from (show CF (mo_told v) from CF.of hp_b (fun k h1 h2 => by rw [o_mo_told (by omega)]))) hQ

theorem e_mo_gainOf {X : PX} {d b : Nat} {v : VS} {n : Int} (hX : XI v) (hp_a : -20 ≤ n ∧ n ≤ 20) (hp_b : CF v) : EvV X (d + 1 + 1 + 1 + 1 + 1 + 1) 281 [.inr (.inr (some 203)), .inl n] b v (some (.inl (mo_gainOf v n).1)) b ((mo_gainOf v n).2) := EvV.of (w_mo_gainOf hX hp_a hp_b (fun _ _ => ⟨rfl, rfl, rfl⟩))

theorem i_mo_gainOf {v : VS} {n : Int} (hX : XI v) (hp_a : -20 ≤ n ∧ n ≤ 20) (hp_b : CF v) : XI ((mo_gainOf v n).2) := by
  have q : WV (0, fun _ => 0, none) (0 + 1 + 1 + 1 + 1 + 1 + 1) 281 0 [some (.inr (.inr (some 203))), some (.inl n), none, none] [] 1 v (fun _ _ _ => XI ((mo_gainOf v n).2)) := w_mo_gainOf (X := (0, fun _ => 0, none)) (d := 0) (b := 1) hX hp_a hp_b (fun q _ => q)
  obtain ⟨_, _, _, _, _, _, _, q⟩ := q
  exact q

theorem n_mo_gainOf {v : VS} {n : Int} (hX : XI v) (hp_a : -20 ≤ n ∧ n ≤ 20) (hp_b : CF v) : -2000000 ≤ (mo_gainOf v n).1 ∧ (mo_gainOf v n).1 ≤ 4000 := by
  have q : WV (0, fun _ => 0, none) (0 + 1 + 1 + 1 + 1 + 1 + 1) 281 0 [some (.inr (.inr (some 203))), some (.inl n), none, none] [] 1 v (fun _ _ _ => -2000000 ≤ (mo_gainOf v n).1 ∧ (mo_gainOf v n).1 ≤ 4000) := w_mo_gainOf (X := (0, fun _ => 0, none)) (d := 0) (b := 1) hX hp_a hp_b (fun _ q => q)
  obtain ⟨_, _, _, _, _, _, _, q⟩ := q
  exact q

theorem o_mo_gainOf {rk : Nat} {v : VS} {n : Int} (hk : (rk < 203 ∨ 203 < rk) ∧ (rk < 219 ∨ 231 < rk)) : (mo_gainOf v n).2 rk = v rk := by
  unfold mo_gainOf
  all_goals (rw [o_mo_gainOf_9 (by omega), o_mo_told (by omega)])

noncomputable def mo_gain (v : VS) (n : Int) : Int × VS :=
  (if 0 < (v 209 0) then (if ((-20) : Int) ≤ n ∧ n ≤ (20 : Int) then ((mo_gainOf (v2 v 203 0 0) n).1, (mo_gainOf (v2 v 203 0 0) n).2) else ((-2000000), (v2 v 203 0 0))) else ((-2000000), (v2 v 203 0 0)))
theorem w_mo_gain {X : PX} {d b : Nat} {v : VS} {n : Int} (hX : XI v) (hp_a : R32 n) (hp_b : CF v) {Q : Option PV → Nat → VS → Prop} (hQ : XI (mo_gain v n).2 → Q (some (.inl (mo_gain v n).1)) b (mo_gain v n).2) : WV X (d + 1 + 1 + 1 + 1 + 1 + 1 + 1) 280 0 [some (.inr (.inr (some 203))), some (.inl n)] [] b v Q := by
  rw [mo_gain] at hQ
  refine r_ex 2 (pc' := 2) (lo' := [some (.inr (.inr (some 203))), some (.inl n)]) (st' := [.inl 0, .inr (.inr (some 203))]) rfl ?_
  refine r_puti2 (j := 0) (pc' := 5) (pc0 := 2) (len := 3) rfl (s_203 _) rfl rfl rfl (Or.inl rfl) rfl rfl ?_
  have hX_1 : XI (v2 v 203 0 0) := XI.put hX trivial
  refine r_ex 1 (pc' := 6) (lo' := [some (.inr (.inr (some 203))), some (.inl n)]) (st' := [.inr (.inr (some 203))]) rfl ?_
  have hb_2 : 0 ≤ (v 209 0) ∧ (v 209 0) ≤ 2001 := hX_1 209 0
  refine r_callb (P := 0 < (v 209 0)) (m := 245) (args := [.inr (.inr (some 203))]) (n' := 280) (pc' := 9) (lo' := [some (.inr (.inr (some 203))), some (.inl n)]) (st' := []) (I := .invokevirtual 245) (pc0 := 6) (len := 3) rfl rfl rfl (e_mo_isBay hX_1) (fun h_6 => ?_) (fun h_6 => ?_)
  · show WV _ _ _ 9 _ _ _ _ _
    rw [if_pos h_6] at hQ
    refine r_ex 2 (pc' := 13) (lo' := [some (.inr (.inr (some 203))), some (.inl n)]) (st' := [.inl n]) rfl ?_
    refine n_i2l (pc' := 14) (pc0 := 13) (len := 1) rfl (by first | assumption | omega | (unfold R32 at *; omega) | (unfold R64 at *; omega) | (simp only [R32, R64] at *; omega)) rfl ?_
    refine r_ex 2 (pc' := 20) (lo' := [some (.inr (.inr (some 203))), some (.inl n)]) (st' := [.inr (.inl 20), .inr (.inl (-20)), .inr (.inl n)]) rfl ?_
    have hp_3 : R64 n := (by first | assumption | omega | (unfold R32 at *; omega) | (unfold R64 at *; omega) | (simp only [R32, R64] at *; omega))
    have hp_4 : R64 ((-20) : Int) := (by first | assumption | omega | (unfold R32 at *; omega) | (unfold R64 at *; omega) | (simp only [R32, R64] at *; omega))
    have hp_5 : R64 (20 : Int) := (by first | assumption | omega | (unfold R32 at *; omega) | (unfold R64 at *; omega) | (simp only [R32, R64] at *; omega))
    refine r_callb (P := ((-20) : Int) ≤ n ∧ n ≤ (20 : Int)) (m := 202) (args := [.inr (.inl n), .inr (.inl (-20)), .inr (.inl 20)]) (n' := 280) (pc' := 23) (lo' := [some (.inr (.inr (some 203))), some (.inl n)]) (st' := []) (I := .invokestatic 202) (pc0 := 20) (len := 3) rfl rfl rfl (e_mo_in hX_1 hp_3 hp_4 hp_5) (fun h_20 => ?_) (fun h_20 => ?_)
    · show WV _ _ _ 23 _ _ _ _ _
      rw [if_pos h_20] at hQ
      refine r_ex 3 (pc' := 28) (lo' := [some (.inr (.inr (some 203))), some (.inl n)]) (st' := [.inl n, .inr (.inr (some 203))]) rfl ?_
      have hp_6 : -20 ≤ n ∧ n ≤ 20 := (by first | assumption | omega | (unfold R32 at *; omega) | (unfold R64 at *; omega) | (simp only [R32, R64] at *; omega))
      have hp_7 : CF (v2 v 203 0 0) := show CF (v2 v 203 0 0) from (show CF (v2 v 203 0 0) from CF.of hp_b (fun k h1 h2 => by rw [v2_row (by omega)]))
      refine r_call (m := 281) (args := [.inr (.inr (some 203)), .inl n]) (n' := 280) (pc' := 31) (lo' := [some (.inr (.inr (some 203))), some (.inl n)]) (st' := []) (I := .invokevirtual 281) (pc0 := 28) (len := 3) rfl rfl rfl (e_mo_gainOf hX_1 hp_6 hp_7) ?_
      show WV _ _ _ 31 _ [.inl ((mo_gainOf (v2 v 203 0 0) n).1)] _ (mo_gainOf (v2 v 203 0 0) n).2 _
      have hX_8 : XI (mo_gainOf (v2 v 203 0 0) n).2 := i_mo_gainOf (v := (v2 v 203 0 0)) (n := n) hX_1 hp_6 hp_7
      have hb_9 := n_mo_gainOf (v := (v2 v 203 0 0)) (n := n) hX_1 hp_6 hp_7
      refine r_ex 1 (pc' := 37) (lo' := [some (.inr (.inr (some 203))), some (.inl n)]) (st' := [.inl ((mo_gainOf (v2 v 203 0 0) n).1)]) rfl ?_
      refine r_ret (rr := some (.inl ((mo_gainOf (v2 v 203 0 0) n).1))) (I := .ireturn) (pc0 := 37) (len := 1) rfl rfl ?_
      exact hQ hX_8 
    · show WV _ _ _ 23 _ _ _ _ _
      rw [if_neg h_20] at hQ
      refine r_ex 2 (pc' := 37) (lo' := [some (.inr (.inr (some 203))), some (.inl n)]) (st' := [.inl (-2000000)]) rfl ?_
      refine r_ret (rr := some (.inl (-2000000))) (I := .ireturn) (pc0 := 37) (len := 1) rfl rfl ?_
      exact hQ hX_1 
  · show WV _ _ _ 9 _ _ _ _ _
    rw [if_neg h_6] at hQ
    refine r_ex 2 (pc' := 37) (lo' := [some (.inr (.inr (some 203))), some (.inl n)]) (st' := [.inl (-2000000)]) rfl ?_
    refine r_ret (rr := some (.inl (-2000000))) (I := .ireturn) (pc0 := 37) (len := 1) rfl rfl ?_
    exact hQ hX_1 

theorem e_mo_gain {X : PX} {d b : Nat} {v : VS} {n : Int} (hX : XI v) (hp_a : R32 n) (hp_b : CF v) : EvV X (d + 1 + 1 + 1 + 1 + 1 + 1 + 1) 280 [.inr (.inr (some 203)), .inl n] b v (some (.inl (mo_gain v n).1)) b ((mo_gain v n).2) := EvV.of (w_mo_gain hX hp_a hp_b (fun _ => ⟨rfl, rfl, rfl⟩))

theorem i_mo_gain {v : VS} {n : Int} (hX : XI v) (hp_a : R32 n) (hp_b : CF v) : XI ((mo_gain v n).2) := by
  have q : WV (0, fun _ => 0, none) (0 + 1 + 1 + 1 + 1 + 1 + 1 + 1) 280 0 [some (.inr (.inr (some 203))), some (.inl n)] [] 1 v (fun _ _ _ => XI ((mo_gain v n).2)) := w_mo_gain (X := (0, fun _ => 0, none)) (d := 0) (b := 1) hX hp_a hp_b (fun q => q)
  obtain ⟨_, _, _, _, _, _, _, q⟩ := q
  exact q

theorem o_mo_gain {rk : Nat} {v : VS} {n : Int} (hk : (rk < 203 ∨ 203 < rk) ∧ (rk < 219 ∨ 231 < rk)) : (mo_gain v n).2 rk = v rk := by
  unfold mo_gain
  by_cases hc_ : 0 < (v 209 0)
  · rw [if_pos hc_] <;> clear hc_
    by_cases hc_ : ((-20) : Int) ≤ n ∧ n ≤ (20 : Int)
    · rw [if_pos hc_] <;> clear hc_
      all_goals (show ((mo_gainOf (v2 v 203 0 0) n).2) rk = _)
      all_goals (rw [o_mo_gainOf (by omega), v2_row (by omega)])
    · rw [if_neg hc_] <;> clear hc_
      all_goals (show (v2 v 203 0 0) rk = _)
      all_goals (rw [v2_row (by omega)])
  · rw [if_neg hc_] <;> clear hc_
    all_goals (show (v2 v 203 0 0) rk = _)
    all_goals (rw [v2_row (by omega)])

noncomputable def mo_passes (v : VS) (c : Int) (w : Int) : Int × VS :=
  (if 0 ≤ c ∧ c < (v 210 3) then (if (0 : Int) ≤ w ∧ w ≤ (2 : Int) then (if w = 0 then (((mo_told (v2 v 203 0 0)) 223 ((c).toNat)), (mo_told (v2 v 203 0 0))) else (if w = 1 then (((mo_told (v2 v 203 0 0)) 224 ((c).toNat)), (mo_told (v2 v 203 0 0))) else (((mo_told (v2 v 203 0 0)) 222 ((c).toNat)), (mo_told (v2 v 203 0 0))))) else ((-2), (v2 v 203 0 0))) else ((-2), (v2 v 203 0 0)))
theorem w_mo_passes {X : PX} {d b : Nat} {v : VS} {c : Int} {w : Int} (hX : XI v) (hp_a : R32 c) (hp_b : R32 w) (hp_c : CF v) {Q : Option PV → Nat → VS → Prop} (hQ : XI (mo_passes v c w).2 → Q (some (.inl (mo_passes v c w).1)) b (mo_passes v c w).2) : WV X (d + 1 + 1 + 1 + 1 + 1 + 1) 283 0 [some (.inr (.inr (some 203))), some (.inl c), some (.inl w)] [] b v Q := by
  rw [mo_passes] at hQ
  refine r_ex 2 (pc' := 2) (lo' := [some (.inr (.inr (some 203))), some (.inl c), some (.inl w)]) (st' := [.inl 0, .inr (.inr (some 203))]) rfl ?_
  refine r_puti2 (j := 0) (pc' := 5) (pc0 := 2) (len := 3) rfl (s_203 _) rfl rfl rfl (Or.inl rfl) rfl rfl ?_
  have hX_1 : XI (v2 v 203 0 0) := XI.put hX trivial
  refine r_ex 2 (pc' := 7) (lo' := [some (.inr (.inr (some 203))), some (.inl c), some (.inl w)]) (st' := [.inl c, .inr (.inr (some 203))]) rfl ?_
  have hp_2 : R32 c := (by first | assumption | omega | (unfold R32 at *; omega) | (unfold R64 at *; omega) | (simp only [R32, R64] at *; omega))
  have hb_3 : 0 ≤ (v 210 3) ∧ (v 210 3) ≤ 12 := hX_1 210 3
  refine r_callb (P := 0 ≤ c ∧ c < (v 210 3)) (m := 238) (args := [.inr (.inr (some 203)), .inl c]) (n' := 283) (pc' := 10) (lo' := [some (.inr (.inr (some 203))), some (.inl c), some (.inl w)]) (st' := []) (I := .invokevirtual 238) (pc0 := 7) (len := 3) rfl rfl rfl (e_mo_isEar hX_1 hp_2) (fun h_7 => ?_) (fun h_7 => ?_)
  · show WV _ _ _ 10 _ _ _ _ _
    rw [if_pos h_7] at hQ
    refine r_ex 2 (pc' := 14) (lo' := [some (.inr (.inr (some 203))), some (.inl c), some (.inl w)]) (st' := [.inl w]) rfl ?_
    refine n_i2l (pc' := 15) (pc0 := 14) (len := 1) rfl (by first | assumption | omega | (unfold R32 at *; omega) | (unfold R64 at *; omega) | (simp only [R32, R64] at *; omega)) rfl ?_
    refine r_ex 2 (pc' := 19) (lo' := [some (.inr (.inr (some 203))), some (.inl c), some (.inl w)]) (st' := [.inr (.inl 2), .inr (.inl 0), .inr (.inl w)]) rfl ?_
    have hp_4 : R64 w := (by first | assumption | omega | (unfold R32 at *; omega) | (unfold R64 at *; omega) | (simp only [R32, R64] at *; omega))
    have hp_5 : R64 (0 : Int) := (by first | assumption | omega | (unfold R32 at *; omega) | (unfold R64 at *; omega) | (simp only [R32, R64] at *; omega))
    have hp_6 : R64 (2 : Int) := (by first | assumption | omega | (unfold R32 at *; omega) | (unfold R64 at *; omega) | (simp only [R32, R64] at *; omega))
    refine r_callb (P := (0 : Int) ≤ w ∧ w ≤ (2 : Int)) (m := 202) (args := [.inr (.inl w), .inr (.inl 0), .inr (.inl 2)]) (n' := 283) (pc' := 22) (lo' := [some (.inr (.inr (some 203))), some (.inl c), some (.inl w)]) (st' := []) (I := .invokestatic 202) (pc0 := 19) (len := 3) rfl rfl rfl (e_mo_in hX_1 hp_4 hp_5 hp_6) (fun h_19 => ?_) (fun h_19 => ?_)
    · show WV _ _ _ 22 _ _ _ _ _
      rw [if_pos h_19] at hQ
      refine r_ex 2 (pc' := 29) (lo' := [some (.inr (.inr (some 203))), some (.inl c), some (.inl w)]) (st' := [.inr (.inr (some 203))]) rfl ?_
      have hp_7 : CF (v2 v 203 0 0) := show CF (v2 v 203 0 0) from (show CF (v2 v 203 0 0) from CF.of hp_c (fun k h1 h2 => by rw [v2_row (by omega)]))
      refine r_call (m := 246) (args := [.inr (.inr (some 203))]) (n' := 283) (pc' := 32) (lo' := [some (.inr (.inr (some 203))), some (.inl c), some (.inl w)]) (st' := []) (I := .invokevirtual 246) (pc0 := 29) (len := 3) rfl rfl rfl (e_mo_told hX_1 hp_7) ?_
      show WV _ _ _ 32 _ [] _ (mo_told (v2 v 203 0 0)) _
      have hX_8 : XI (mo_told (v2 v 203 0 0)) := i_mo_told (v := (v2 v 203 0 0)) hX_1 hp_7
      refine r_ex 1 (pc' := 33) (lo' := [some (.inr (.inr (some 203))), some (.inl c), some (.inl w)]) (st' := [.inl w]) rfl ?_
      refine n_if_ne (pc0 := 33) (len := 3) (t := 45) rfl (by first | assumption | omega | (unfold R32 at *; omega) | (unfold R64 at *; omega) | (simp only [R32, R64] at *; omega)) (fun h_33 => ?_) (fun h_33 => ?_)
      · show WV _ _ _ 45 _ _ _ _ _
        rw [if_neg h_33] at hQ
        refine r_ex 2 (pc' := 47) (lo' := [some (.inr (.inr (some 203))), some (.inl c), some (.inl w)]) (st' := [.inl 1, .inl w]) rfl ?_
        refine n_ic_ne (pc0 := 47) (len := 3) (t := 59) rfl (by first | assumption | omega | (unfold R32 at *; omega) | (unfold R64 at *; omega) | (simp only [R32, R64] at *; omega)) (by first | assumption | omega | (unfold R32 at *; omega) | (unfold R64 at *; omega) | (simp only [R32, R64] at *; omega)) (fun h_47 => ?_) (fun h_47 => ?_)
        · show WV _ _ _ 59 _ _ _ _ _
          rw [if_neg h_47] at hQ
          refine r_ex 3 (pc' := 64) (lo' := [some (.inr (.inr (some 203))), some (.inl c), some (.inl w)]) (st' := [.inl c, .inr (.inr (some 222))]) rfl ?_
          refine r_iald2 (j := 0) (x := ((mo_told (v2 v 203 0 0)) 222 ((c).toNat))) (pc' := 65) (pc0 := 64) (len := 1) rfl (s_222 _) (by first | assumption | omega | (unfold R32 at *; omega) | (unfold R64 at *; omega) | (simp only [R32, R64] at *; omega)) (by decide) rfl rfl ?_
          refine r_ret (rr := some (.inl ((mo_told (v2 v 203 0 0)) 222 ((c).toNat)))) (I := .ireturn) (pc0 := 65) (len := 1) rfl rfl ?_
          exact hQ hX_8 
        · show WV _ _ _ 50 _ _ _ _ _
          rw [if_pos h_47] at hQ
          refine r_ex 3 (pc' := 55) (lo' := [some (.inr (.inr (some 203))), some (.inl c), some (.inl w)]) (st' := [.inl c, .inr (.inr (some 224))]) rfl ?_
          refine r_iald2 (j := 0) (x := ((mo_told (v2 v 203 0 0)) 224 ((c).toNat))) (pc' := 56) (pc0 := 55) (len := 1) rfl (s_224 _) (by first | assumption | omega | (unfold R32 at *; omega) | (unfold R64 at *; omega) | (simp only [R32, R64] at *; omega)) (by decide) rfl rfl ?_
          refine r_ex 1 (pc' := 65) (lo' := [some (.inr (.inr (some 203))), some (.inl c), some (.inl w)]) (st' := [.inl ((mo_told (v2 v 203 0 0)) 224 ((c).toNat))]) rfl ?_
          refine r_ret (rr := some (.inl ((mo_told (v2 v 203 0 0)) 224 ((c).toNat)))) (I := .ireturn) (pc0 := 65) (len := 1) rfl rfl ?_
          exact hQ hX_8 
      · show WV _ _ _ 36 _ _ _ _ _
        rw [if_pos h_33] at hQ
        refine r_ex 3 (pc' := 41) (lo' := [some (.inr (.inr (some 203))), some (.inl c), some (.inl w)]) (st' := [.inl c, .inr (.inr (some 223))]) rfl ?_
        refine r_iald2 (j := 0) (x := ((mo_told (v2 v 203 0 0)) 223 ((c).toNat))) (pc' := 42) (pc0 := 41) (len := 1) rfl (s_223 _) (by first | assumption | omega | (unfold R32 at *; omega) | (unfold R64 at *; omega) | (simp only [R32, R64] at *; omega)) (by decide) rfl rfl ?_
        refine r_ex 1 (pc' := 65) (lo' := [some (.inr (.inr (some 203))), some (.inl c), some (.inl w)]) (st' := [.inl ((mo_told (v2 v 203 0 0)) 223 ((c).toNat))]) rfl ?_
        refine r_ret (rr := some (.inl ((mo_told (v2 v 203 0 0)) 223 ((c).toNat)))) (I := .ireturn) (pc0 := 65) (len := 1) rfl rfl ?_
        exact hQ hX_8 
    · show WV _ _ _ 22 _ _ _ _ _
      rw [if_neg h_19] at hQ
      refine r_ex 2 (pc' := 27) (lo' := [some (.inr (.inr (some 203))), some (.inl c), some (.inl w)]) (st' := [.inl (-2)]) rfl ?_
      refine r_ret (rr := some (.inl (-2))) (I := .ireturn) (pc0 := 27) (len := 1) rfl rfl ?_
      exact hQ hX_1 
  · show WV _ _ _ 10 _ _ _ _ _
    rw [if_neg h_7] at hQ
    refine r_ex 2 (pc' := 27) (lo' := [some (.inr (.inr (some 203))), some (.inl c), some (.inl w)]) (st' := [.inl (-2)]) rfl ?_
    refine r_ret (rr := some (.inl (-2))) (I := .ireturn) (pc0 := 27) (len := 1) rfl rfl ?_
    exact hQ hX_1 

theorem e_mo_passes {X : PX} {d b : Nat} {v : VS} {c : Int} {w : Int} (hX : XI v) (hp_a : R32 c) (hp_b : R32 w) (hp_c : CF v) : EvV X (d + 1 + 1 + 1 + 1 + 1 + 1) 283 [.inr (.inr (some 203)), .inl c, .inl w] b v (some (.inl (mo_passes v c w).1)) b ((mo_passes v c w).2) := EvV.of (w_mo_passes hX hp_a hp_b hp_c (fun _ => ⟨rfl, rfl, rfl⟩))

theorem i_mo_passes {v : VS} {c : Int} {w : Int} (hX : XI v) (hp_a : R32 c) (hp_b : R32 w) (hp_c : CF v) : XI ((mo_passes v c w).2) := by
  have q : WV (0, fun _ => 0, none) (0 + 1 + 1 + 1 + 1 + 1 + 1) 283 0 [some (.inr (.inr (some 203))), some (.inl c), some (.inl w)] [] 1 v (fun _ _ _ => XI ((mo_passes v c w).2)) := w_mo_passes (X := (0, fun _ => 0, none)) (d := 0) (b := 1) hX hp_a hp_b hp_c (fun q => q)
  obtain ⟨_, _, _, _, _, _, _, q⟩ := q
  exact q

theorem o_mo_passes {rk : Nat} {v : VS} {c : Int} {w : Int} (hk : (rk < 203 ∨ 203 < rk) ∧ (rk < 219 ∨ 231 < rk)) : (mo_passes v c w).2 rk = v rk := by
  unfold mo_passes
  by_cases hc_ : 0 ≤ c ∧ c < (v 210 3)
  · rw [if_pos hc_] <;> clear hc_
    by_cases hc_ : (0 : Int) ≤ w ∧ w ≤ (2 : Int)
    · rw [if_pos hc_] <;> clear hc_
      by_cases hc_ : w = 0
      · rw [if_pos hc_] <;> clear hc_
        all_goals (show (mo_told (v2 v 203 0 0)) rk = _)
        all_goals (rw [o_mo_told (by omega), v2_row (by omega)])
      · rw [if_neg hc_] <;> clear hc_
        by_cases hc_ : w = 1
        · rw [if_pos hc_] <;> clear hc_
          all_goals (show (mo_told (v2 v 203 0 0)) rk = _)
          all_goals (rw [o_mo_told (by omega), v2_row (by omega)])
        · rw [if_neg hc_] <;> clear hc_
          all_goals (show (mo_told (v2 v 203 0 0)) rk = _)
          all_goals (rw [o_mo_told (by omega), v2_row (by omega)])
    · rw [if_neg hc_] <;> clear hc_
      all_goals (show (v2 v 203 0 0) rk = _)
      all_goals (rw [v2_row (by omega)])
  · rw [if_neg hc_] <;> clear hc_
    all_goals (show (v2 v 203 0 0) rk = _)
    all_goals (rw [v2_row (by omega)])

noncomputable def mo_comesOf_2 : Nat → VS → Int → Int → Int
  | 0, v, i, k => 0
  | f + 1, v, i, k => (if i < k then (mo_comesOf_2 f v i (mo_at v k 3)) else k)
noncomputable def mo_comesOf (v : VS) (s : Int) (i : Int) : Int :=
  (if (mo_comesOf_2 302 v i s) = i then 1 else 0)
theorem l_mo_comesOf_2 {X : PX} {d b : Nat} {Q : Option PV → Nat → VS → Prop}  : ∀ (f : Nat) (v : VS) (i : Int) (k : Int) (o1 : Option PV), XI v → (-1 ≤ k ∧ k < (v 203 37)) → (0 ≤ i ∧ i ≤ 299) → (SM v) → (k + 1 < f) → ((-1 ≤ (mo_comesOf_2 f v i k) ∧ (mo_comesOf_2 f v i k) ≤ 299) → WV X (d + 1) 285 17 [some (.inr (.inr (some 203))), o1, some (.inl i), some (.inl (mo_comesOf_2 f v i k))] [] b v Q) → WV X (d + 1) 285 2 [some (.inr (.inr (some 203))), o1, some (.inl i), some (.inl k)] [] b v Q := by
  intro f
  induction f with
  | zero =>
    intro v i k o1 hX hi_0 hi_1 hi_2 hf hK
    have hz37 : 0 ≤ v 203 37 ∧ v 203 37 ≤ 300 := hX 203 37
    have hz37 : 0 ≤ v 203 37 ∧ v 203 37 ≤ 300 := hX 203 37
    exfalso
    omega
  | succ f ih =>
    intro v i k o1 hX hi_0 hi_1 hi_2 hf hK
    rw [mo_comesOf_2] at hK
    have hz37 : 0 ≤ v 203 37 ∧ v 203 37 ≤ 300 := hX 203 37
    have hz37 : 0 ≤ v 203 37 ∧ v 203 37 ≤ 300 := hX 203 37
    refine r_ex 2 (pc' := 4) (lo' := [some (.inr (.inr (some 203))), o1, some (.inl i), some (.inl k)]) (st' := [.inl i, .inl k]) rfl ?_
    refine n_ic_le (pc0 := 4) (len := 3) (t := 17) rfl (by first | assumption | omega | (unfold R32 at *; omega) | (unfold R64 at *; omega) | (simp only [R32, R64] at *; omega)) (by first | assumption | omega | (unfold R32 at *; omega) | (unfold R64 at *; omega) | (simp only [R32, R64] at *; omega)) (fun h_4 => ?_) (fun h_4 => ?_)
    · show WV _ _ _ 17 _ _ _ _ _
      rw [if_neg h_4] at hK
      exact hK   (by first | assumption | omega | (unfold R32 at *; omega) | (unfold R64 at *; omega) | (simp only [R32, R64] at *; omega))
    · show WV _ _ _ 7 _ _ _ _ _
      rw [if_pos h_4] at hK
      refine r_ex 3 (pc' := 10) (lo' := [some (.inr (.inr (some 203))), o1, some (.inl i), some (.inl k)]) (st' := [.inl 3, .inl k, .inr (.inr (some 203))]) rfl ?_
      have hp_1 : 0 ≤ k ∧ k < 300 := (by first | assumption | omega | (unfold R32 at *; omega) | (unfold R64 at *; omega) | (simp only [R32, R64] at *; omega))
      have hp_2 : 0 ≤ (3 : Int) ∧ (3 : Int) < 5 := (by first | assumption | omega | (unfold R32 at *; omega) | (unfold R64 at *; omega) | (simp only [R32, R64] at *; omega))
      refine r_call (m := 254) (args := [.inr (.inr (some 203)), .inl k, .inl 3]) (n' := 285) (pc' := 13) (lo' := [some (.inr (.inr (some 203))), o1, some (.inl i), some (.inl k)]) (st' := []) (I := .invokevirtual 254) (pc0 := 10) (len := 3) rfl rfl rfl (e_mo_at hX hp_1 hp_2) ?_
      show WV _ _ _ 13 _ [.inl (mo_at v k 3)] _ _ _
      have hb_3 := n_mo_at (v := v) (i := k) (w := 3) hX hp_1 hp_2
      have hby := hi_2.by_ (i := k) (by omega)
      refine r_ex 2 (pc' := 2) (lo' := [some (.inr (.inr (some 203))), o1, some (.inl i), some (.inl (mo_at v k 3))]) (st' := []) rfl ?_
      refine ih v i (mo_at v k 3) _ hX (show -1 ≤ (mo_at v k 3) ∧ (mo_at v k 3) < (v 203 37) from (by first | assumption | omega | (unfold R32 at *; omega) | (unfold R64 at *; omega) | (simp only [R32, R64] at *; omega))) (by first | assumption | omega | (unfold R32 at *; omega) | (unfold R64 at *; omega) | (simp only [R32, R64] at *; omega)) (by first | assumption | omega | (unfold R32 at *; omega) | (unfold R64 at *; omega) | (simp only [R32, R64] at *; omega)) (by first | assumption | omega | (unfold R32 at *; omega) | (unfold R64 at *; omega) | (simp only [R32, R64] at *; omega)) hK

theorem w_mo_comesOf {X : PX} {d b : Nat} {v : VS} {s : Int} {i : Int} (hX : XI v) (hp_a : 0 ≤ s ∧ s < (v 203 37)) (hp_b : 0 ≤ i ∧ i ≤ 299) (hp_c : SM v) {Q : Option PV → Nat → VS → Prop} (hQ : (0 ≤ (mo_comesOf v s i) ∧ (mo_comesOf v s i) ≤ 1) → Q (some (.inl (mo_comesOf v s i))) b v) : WV X (d + 1) 285 0 [some (.inr (.inr (some 203))), some (.inl s), some (.inl i), none] [] b v Q := by
  rw [mo_comesOf] at hQ
  have hz37 : 0 ≤ v 203 37 ∧ v 203 37 ≤ 300 := hX 203 37
  refine r_ex 2 (pc' := 2) (lo' := [some (.inr (.inr (some 203))), some (.inl s), some (.inl i), some (.inl s)]) (st' := []) rfl ?_
  refine l_mo_comesOf_2 302 v i s _ hX (show -1 ≤ s ∧ s < (v 203 37) from (by first | assumption | omega | (unfold R32 at *; omega) | (unfold R64 at *; omega) | (simp only [R32, R64] at *; omega))) (by first | assumption | omega | (unfold R32 at *; omega) | (unfold R64 at *; omega) | (simp only [R32, R64] at *; omega)) (by first | assumption | omega | (unfold R32 at *; omega) | (unfold R64 at *; omega) | (simp only [R32, R64] at *; omega)) (by first | assumption | omega | (unfold R32 at *; omega) | (unfold R64 at *; omega) | (simp only [R32, R64] at *; omega)) (fun   hv_4_0 => ?_)
  show WV _ _ _ 17 _ _ _ _ _
  refine r_ex 2 (pc' := 19) (lo' := [some (.inr (.inr (some 203))), some (.inl s), some (.inl i), some (.inl (mo_comesOf_2 302 v i s))]) (st' := [.inl i, .inl (mo_comesOf_2 302 v i s)]) rfl ?_
  refine n_ic_ne (pc0 := 19) (len := 3) (t := 26) rfl (by first | assumption | omega | (unfold R32 at *; omega) | (unfold R64 at *; omega) | (simp only [R32, R64] at *; omega)) (by first | assumption | omega | (unfold R32 at *; omega) | (unfold R64 at *; omega) | (simp only [R32, R64] at *; omega)) (fun h_19 => ?_) (fun h_19 => ?_)
  · show WV _ _ _ 26 _ _ _ _ _
    rw [if_neg h_19] at hQ
    refine r_ex 1 (pc' := 27) (lo' := [some (.inr (.inr (some 203))), some (.inl s), some (.inl i), some (.inl (mo_comesOf_2 302 v i s))]) (st' := [.inl 0]) rfl ?_
    refine r_ret (rr := some (.inl 0)) (I := .ireturn) (pc0 := 27) (len := 1) rfl rfl ?_
    exact hQ (by first | assumption | omega | (unfold R32 at *; omega) | (unfold R64 at *; omega) | (simp only [R32, R64] at *; omega))
  · show WV _ _ _ 22 _ _ _ _ _
    rw [if_pos h_19] at hQ
    refine r_ex 2 (pc' := 27) (lo' := [some (.inr (.inr (some 203))), some (.inl s), some (.inl i), some (.inl (mo_comesOf_2 302 v i s))]) (st' := [.inl 1]) rfl ?_
    refine r_ret (rr := some (.inl 1)) (I := .ireturn) (pc0 := 27) (len := 1) rfl rfl ?_
    exact hQ (by first | assumption | omega | (unfold R32 at *; omega) | (unfold R64 at *; omega) | (simp only [R32, R64] at *; omega))

theorem e_mo_comesOf {X : PX} {d b : Nat} {v : VS} {s : Int} {i : Int} (hX : XI v) (hp_a : 0 ≤ s ∧ s < (v 203 37)) (hp_b : 0 ≤ i ∧ i ≤ 299) (hp_c : SM v) : EvV X (d + 1) 285 [.inr (.inr (some 203)), .inl s, .inl i] b v (some (.inl (mo_comesOf v s i))) b v := EvV.of (w_mo_comesOf hX hp_a hp_b hp_c (fun _ => ⟨rfl, rfl, rfl⟩))

theorem n_mo_comesOf {v : VS} {s : Int} {i : Int} (hX : XI v) (hp_a : 0 ≤ s ∧ s < (v 203 37)) (hp_b : 0 ≤ i ∧ i ≤ 299) (hp_c : SM v) : 0 ≤ (mo_comesOf v s i) ∧ (mo_comesOf v s i) ≤ 1 := by
  have q : WV (0, fun _ => 0, none) (0 + 1) 285 0 [some (.inr (.inr (some 203))), some (.inl s), some (.inl i), none] [] 1 v (fun _ _ _ => 0 ≤ (mo_comesOf v s i) ∧ (mo_comesOf v s i) ≤ 1) := w_mo_comesOf (X := (0, fun _ => 0, none)) (d := 0) (b := 1) hX hp_a hp_b hp_c (fun q => q)
  obtain ⟨_, _, _, _, _, _, _, q⟩ := q
  exact q

noncomputable def mo_wave_41 : Nat → VS → Int → Int → Int → Int
  | 0, v, i, n, s => 0
  | f + 1, v, i, n, s => (if s < (v 203 37) then (if (mo_comesOf v s i) = 0 then (mo_wave_41 f v i (n + 0) (s + 1)) else (mo_wave_41 f v i (n + 1) (s + 1))) else n)
noncomputable def mo_wave (v : VS) (i : Int) : Int × VS :=
  (if 0 < (v 209 0) then (if (0 : Int) ≤ i ∧ i ≤ (((mo_told (v2 v 203 0 0)) 203 37) - 1) then ((mo_wave_41 301 (mo_told (v2 v 203 0 0)) i 0 i), (mo_told (v2 v 203 0 0))) else ((-1), (mo_told (v2 v 203 0 0)))) else ((-2), (v2 v 203 0 0)))
set_option maxRecDepth 100000 in
theorem l_mo_wave_41 {X : PX} {d b : Nat} {Q : Option PV → Nat → VS → Prop}  : ∀ (f : Nat) (v : VS) (i : Int) (n : Int) (s : Int), XI v → (0 ≤ i ∧ i ≤ 299) → (0 ≤ s ∧ s ≤ 300) → (0 ≤ n ∧ n ≤ s) → (SM v) → (300 < s + f) → (∀ qx3 : Option PV, (0 ≤ (mo_wave_41 f v i n s) ∧ (mo_wave_41 f v i n s) ≤ 300) → WV X (d + 1 + 1 + 1 + 1 + 1 + 1) 284 72 [some (.inr (.inr (some 203))), some (.inl i), some (.inl (mo_wave_41 f v i n s)), qx3] [] b v Q) → WV X (d + 1 + 1 + 1 + 1 + 1 + 1) 284 41 [some (.inr (.inr (some 203))), some (.inl i), some (.inl n), some (.inl s)] [] b v Q := by
  intro f
  induction f with
  | zero =>
    intro v i n s hX hi_0 hi_1 hi_2 hi_3 hf hK
    exfalso
    omega
  | succ f ih =>
    intro v i n s hX hi_0 hi_1 hi_2 hi_3 hf hK
    rw [mo_wave_41] at hK
    refine r_ex 3 (pc' := 46) (lo' := [some (.inr (.inr (some 203))), some (.inl i), some (.inl n), some (.inl s)]) (st' := [.inl (v 203 37), .inl s]) rfl ?_
    have hb_9 : 0 ≤ (v 203 37) ∧ (v 203 37) ≤ 300 := hX 203 37
    refine n_ic_ge (pc0 := 46) (len := 3) (t := 72) rfl (by first | assumption | omega | (unfold R32 at *; omega) | (unfold R64 at *; omega) | (simp only [R32, R64] at *; omega)) (by first | assumption | omega | (unfold R32 at *; omega) | (unfold R64 at *; omega) | (simp only [R32, R64] at *; omega)) (fun h_46 => ?_) (fun h_46 => ?_)
    · show WV _ _ _ 72 _ _ _ _ _
      rw [if_neg h_46] at hK
      exact hK _  (by first | assumption | omega | (unfold R32 at *; omega) | (unfold R64 at *; omega) | (simp only [R32, R64] at *; omega))
    · show WV _ _ _ 49 _ _ _ _ _
      rw [if_pos h_46] at hK
      refine r_ex 4 (pc' := 53) (lo' := [some (.inr (.inr (some 203))), some (.inl i), some (.inl n), some (.inl s)]) (st' := [.inl i, .inl s, .inr (.inr (some 203)), .inl n]) rfl ?_
      have hp_10 : 0 ≤ s ∧ s < (v 203 37) := (show 0 ≤ s ∧ s < (v 203 37) from (by first | assumption | omega | (unfold R32 at *; omega) | (unfold R64 at *; omega) | (simp only [R32, R64] at *; omega)))
      have hp_11 : 0 ≤ i ∧ i ≤ 299 := (by first | assumption | omega | (unfold R32 at *; omega) | (unfold R64 at *; omega) | (simp only [R32, R64] at *; omega))
      have hp_12 : SM v := (by first | assumption | omega | (unfold R32 at *; omega) | (unfold R64 at *; omega) | (simp only [R32, R64] at *; omega))
      refine r_call (m := 285) (args := [.inr (.inr (some 203)), .inl s, .inl i]) (n' := 284) (pc' := 56) (lo' := [some (.inr (.inr (some 203))), some (.inl i), some (.inl n), some (.inl s)]) (st' := [.inl n]) (I := .invokevirtual 285) (pc0 := 53) (len := 3) rfl rfl rfl (e_mo_comesOf hX hp_10 hp_11 hp_12) ?_
      show WV _ _ _ 56 _ [.inl (mo_comesOf v s i), .inl n] _ _ _
      have hb_13 := n_mo_comesOf (v := v) (s := s) (i := i) hX hp_10 hp_11 hp_12
      refine n_if_eq (pc0 := 56) (len := 3) (t := 63) rfl (by first | assumption | omega | (unfold R32 at *; omega) | (unfold R64 at *; omega) | (simp only [R32, R64] at *; omega)) (fun h_56 => ?_) (fun h_56 => ?_)
      · show WV _ _ _ 63 _ _ _ _ _
        rw [if_pos h_56] at hK
        refine r_ex 5 (pc' := 41) (lo' := [some (.inr (.inr (some 203))), some (.inl i), some (.inl (n + 0)), some (.inl (s + 1))]) (st' := []) rfl ?_
        refine ih v i (n + 0) (s + 1)  hX (by first | assumption | omega | (unfold R32 at *; omega) | (unfold R64 at *; omega) | (simp only [R32, R64] at *; omega)) (by first | assumption | omega | (unfold R32 at *; omega) | (unfold R64 at *; omega) | (simp only [R32, R64] at *; omega)) (by first | assumption | omega | (unfold R32 at *; omega) | (unfold R64 at *; omega) | (simp only [R32, R64] at *; omega)) (by first | assumption | omega | (unfold R32 at *; omega) | (unfold R64 at *; omega) | (simp only [R32, R64] at *; omega)) (by first | assumption | omega | (unfold R32 at *; omega) | (unfold R64 at *; omega) | (simp only [R32, R64] at *; omega)) hK
      · show WV _ _ _ 59 _ _ _ _ _
        rw [if_neg h_56] at hK
        refine r_ex 6 (pc' := 41) (lo' := [some (.inr (.inr (some 203))), some (.inl i), some (.inl (n + 1)), some (.inl (s + 1))]) (st' := []) rfl ?_
        refine ih v i (n + 1) (s + 1)  hX (by first | assumption | omega | (unfold R32 at *; omega) | (unfold R64 at *; omega) | (simp only [R32, R64] at *; omega)) (by first | assumption | omega | (unfold R32 at *; omega) | (unfold R64 at *; omega) | (simp only [R32, R64] at *; omega)) (by first | assumption | omega | (unfold R32 at *; omega) | (unfold R64 at *; omega) | (simp only [R32, R64] at *; omega)) (by first | assumption | omega | (unfold R32 at *; omega) | (unfold R64 at *; omega) | (simp only [R32, R64] at *; omega)) (by first | assumption | omega | (unfold R32 at *; omega) | (unfold R64 at *; omega) | (simp only [R32, R64] at *; omega)) hK

set_option maxRecDepth 100000 in
theorem w_mo_wave {X : PX} {d b : Nat} {v : VS} {i : Int} (hX : XI v) (hp_a : R32 i) (hp_b : CF v) (hp_c : SM (mo_told (v2 v 203 0 0))) {Q : Option PV → Nat → VS → Prop} (hQ : XI (mo_wave v i).2 → Q (some (.inl (mo_wave v i).1)) b (mo_wave v i).2) : WV X (d + 1 + 1 + 1 + 1 + 1 + 1) 284 0 [some (.inr (.inr (some 203))), some (.inl i), none, none] [] b v Q := by
  rw [mo_wave] at hQ
  refine r_ex 2 (pc' := 2) (lo' := [some (.inr (.inr (some 203))), some (.inl i), none, none]) (st' := [.inl 0, .inr (.inr (some 203))]) rfl ?_
  refine r_puti2 (j := 0) (pc' := 5) (pc0 := 2) (len := 3) rfl (s_203 _) rfl rfl rfl (Or.inl rfl) rfl rfl ?_
  have hX_1 : XI (v2 v 203 0 0) := XI.put hX trivial
  refine r_ex 1 (pc' := 6) (lo' := [some (.inr (.inr (some 203))), some (.inl i), none, none]) (st' := [.inr (.inr (some 203))]) rfl ?_
  have hb_2 : 0 ≤ (v 209 0) ∧ (v 209 0) ≤ 2001 := hX_1 209 0
  refine r_callb (P := 0 < (v 209 0)) (m := 245) (args := [.inr (.inr (some 203))]) (n' := 284) (pc' := 9) (lo' := [some (.inr (.inr (some 203))), some (.inl i), none, none]) (st' := []) (I := .invokevirtual 245) (pc0 := 6) (len := 3) rfl rfl rfl (e_mo_isBay hX_1) (fun h_6 => ?_) (fun h_6 => ?_)
  · show WV _ _ _ 9 _ _ _ _ _
    rw [if_pos h_6] at hQ
    refine r_ex 2 (pc' := 16) (lo' := [some (.inr (.inr (some 203))), some (.inl i), none, none]) (st' := [.inr (.inr (some 203))]) rfl ?_
    have hp_3 : CF (v2 v 203 0 0) := show CF (v2 v 203 0 0) from (show CF (v2 v 203 0 0) from CF.of hp_b (fun k h1 h2 => by rw [v2_row (by omega)]))
    refine r_call (m := 246) (args := [.inr (.inr (some 203))]) (n' := 284) (pc' := 19) (lo' := [some (.inr (.inr (some 203))), some (.inl i), none, none]) (st' := []) (I := .invokevirtual 246) (pc0 := 16) (len := 3) rfl rfl rfl (e_mo_told hX_1 hp_3) ?_
    show WV _ _ _ 19 _ [] _ (mo_told (v2 v 203 0 0)) _
    have hX_4 : XI (mo_told (v2 v 203 0 0)) := i_mo_told (v := (v2 v 203 0 0)) hX_1 hp_3
    refine r_ex 1 (pc' := 20) (lo' := [some (.inr (.inr (some 203))), some (.inl i), none, none]) (st' := [.inl i]) rfl ?_
    refine n_i2l (pc' := 21) (pc0 := 20) (len := 1) rfl (by first | assumption | omega | (unfold R32 at *; omega) | (unfold R64 at *; omega) | (simp only [R32, R64] at *; omega)) rfl ?_
    refine r_ex 5 (pc' := 28) (lo' := [some (.inr (.inr (some 203))), some (.inl i), none, none]) (st' := [.inl (((mo_told (v2 v 203 0 0)) 203 37) - 1), .inr (.inl 0), .inr (.inl i)]) rfl ?_
    have hb_5 : 0 ≤ ((mo_told (v2 v 203 0 0)) 203 37) ∧ ((mo_told (v2 v 203 0 0)) 203 37) ≤ 300 := hX_4 203 37
    refine n_i2l (pc' := 29) (pc0 := 28) (len := 1) rfl (by first | assumption | omega | (unfold R32 at *; omega) | (unfold R64 at *; omega) | (simp only [R32, R64] at *; omega)) rfl ?_
    have hp_6 : R64 i := (by first | assumption | omega | (unfold R32 at *; omega) | (unfold R64 at *; omega) | (simp only [R32, R64] at *; omega))
    have hp_7 : R64 (0 : Int) := (by first | assumption | omega | (unfold R32 at *; omega) | (unfold R64 at *; omega) | (simp only [R32, R64] at *; omega))
    have hp_8 : R64 (((mo_told (v2 v 203 0 0)) 203 37) - 1) := (by first | assumption | omega | (unfold R32 at *; omega) | (unfold R64 at *; omega) | (simp only [R32, R64] at *; omega))
    refine r_callb (P := (0 : Int) ≤ i ∧ i ≤ (((mo_told (v2 v 203 0 0)) 203 37) - 1)) (m := 202) (args := [.inr (.inl i), .inr (.inl 0), .inr (.inl (((mo_told (v2 v 203 0 0)) 203 37) - 1))]) (n' := 284) (pc' := 32) (lo' := [some (.inr (.inr (some 203))), some (.inl i), none, none]) (st' := []) (I := .invokestatic 202) (pc0 := 29) (len := 3) rfl rfl rfl (e_mo_in hX_4 hp_6 hp_7 hp_8) (fun h_29 => ?_) (fun h_29 => ?_)
    · show WV _ _ _ 32 _ _ _ _ _
      rw [if_pos h_29] at hQ
      refine r_ex 5 (pc' := 41) (lo' := [some (.inr (.inr (some 203))), some (.inl i), some (.inl 0), some (.inl i)]) (st' := []) rfl ?_
      refine l_mo_wave_41 301 (mo_told (v2 v 203 0 0)) i 0 i  hX_4 (by first | assumption | omega | (unfold R32 at *; omega) | (unfold R64 at *; omega) | (simp only [R32, R64] at *; omega)) (by first | assumption | omega | (unfold R32 at *; omega) | (unfold R64 at *; omega) | (simp only [R32, R64] at *; omega)) (by first | assumption | omega | (unfold R32 at *; omega) | (unfold R64 at *; omega) | (simp only [R32, R64] at *; omega)) (by first | assumption | omega | (unfold R32 at *; omega) | (unfold R64 at *; omega) | (simp only [R32, R64] at *; omega)) (by first | assumption | omega | (unfold R32 at *; omega) | (unfold R64 at *; omega) | (simp only [R32, R64] at *; omega)) (fun o3_14  hv_14_0 => ?_)
      show WV _ _ _ 72 _ _ _ _ _
      refine r_ex 1 (pc' := 73) (lo' := [some (.inr (.inr (some 203))), some (.inl i), some (.inl (mo_wave_41 301 (mo_told (v2 v 203 0 0)) i 0 i)), o3_14]) (st' := [.inl (mo_wave_41 301 (mo_told (v2 v 203 0 0)) i 0 i)]) rfl ?_
      refine r_ret (rr := some (.inl (mo_wave_41 301 (mo_told (v2 v 203 0 0)) i 0 i))) (I := .ireturn) (pc0 := 73) (len := 1) rfl rfl ?_
      exact hQ hX_4 
    · show WV _ _ _ 32 _ _ _ _ _
      rw [if_neg h_29] at hQ
      refine r_ex 2 (pc' := 36) (lo' := [some (.inr (.inr (some 203))), some (.inl i), none, none]) (st' := [.inl (-1)]) rfl ?_
      refine r_ret (rr := some (.inl (-1))) (I := .ireturn) (pc0 := 36) (len := 1) rfl rfl ?_
      exact hQ hX_4 
  · show WV _ _ _ 9 _ _ _ _ _
    rw [if_neg h_6] at hQ
    refine r_ex 2 (pc' := 14) (lo' := [some (.inr (.inr (some 203))), some (.inl i), none, none]) (st' := [.inl (-2)]) rfl ?_
    refine r_ret (rr := some (.inl (-2))) (I := .ireturn) (pc0 := 14) (len := 1) rfl rfl ?_
    exact hQ hX_1 

theorem e_mo_wave {X : PX} {d b : Nat} {v : VS} {i : Int} (hX : XI v) (hp_a : R32 i) (hp_b : CF v) (hp_c : SM (mo_told (v2 v 203 0 0))) : EvV X (d + 1 + 1 + 1 + 1 + 1 + 1) 284 [.inr (.inr (some 203)), .inl i] b v (some (.inl (mo_wave v i).1)) b ((mo_wave v i).2) := EvV.of (w_mo_wave hX hp_a hp_b hp_c (fun _ => ⟨rfl, rfl, rfl⟩))

theorem i_mo_wave {v : VS} {i : Int} (hX : XI v) (hp_a : R32 i) (hp_b : CF v) (hp_c : SM (mo_told (v2 v 203 0 0))) : XI ((mo_wave v i).2) := by
  have q : WV (0, fun _ => 0, none) (0 + 1 + 1 + 1 + 1 + 1 + 1) 284 0 [some (.inr (.inr (some 203))), some (.inl i), none, none] [] 1 v (fun _ _ _ => XI ((mo_wave v i).2)) := w_mo_wave (X := (0, fun _ => 0, none)) (d := 0) (b := 1) hX hp_a hp_b hp_c (fun q => q)
  obtain ⟨_, _, _, _, _, _, _, q⟩ := q
  exact q

theorem o_mo_wave {rk : Nat} {v : VS} {i : Int} (hk : (rk < 203 ∨ 203 < rk) ∧ (rk < 219 ∨ 231 < rk)) : (mo_wave v i).2 rk = v rk := by
  unfold mo_wave
  by_cases hc_ : 0 < (v 209 0)
  · rw [if_pos hc_] <;> clear hc_
    by_cases hc_ : (0 : Int) ≤ i ∧ i ≤ (((mo_told (v2 v 203 0 0)) 203 37) - 1)
    · rw [if_pos hc_] <;> clear hc_
      all_goals (show (mo_told (v2 v 203 0 0)) rk = _)
      all_goals (rw [o_mo_told (by omega), v2_row (by omega)])
    · rw [if_neg hc_] <;> clear hc_
      all_goals (show (mo_told (v2 v 203 0 0)) rk = _)
      all_goals (rw [o_mo_told (by omega), v2_row (by omega)])
  · rw [if_neg hc_] <;> clear hc_
    all_goals (show (v2 v 203 0 0) rk = _)
    all_goals (rw [v2_row (by omega)])

noncomputable def mo_depth_41 : Nat → VS → Int → Int → Int
  | 0, v, n, k => 0
  | f + 1, v, n, k => (if (mo_at v k 3) = (-1) then n else (mo_depth_41 f v (n + 1) (mo_at v k 3)))
noncomputable def mo_depth (v : VS) (i : Int) : Int × VS :=
  (if 0 < (v 209 0) then (if (0 : Int) ≤ i ∧ i ≤ (((mo_told (v2 v 203 0 0)) 203 37) - 1) then ((mo_depth_41 301 (mo_told (v2 v 203 0 0)) 0 i), (mo_told (v2 v 203 0 0))) else ((-1), (mo_told (v2 v 203 0 0)))) else ((-2), (v2 v 203 0 0)))
set_option maxRecDepth 100000 in
theorem l_mo_depth_41 {X : PX} {d b : Nat} {Q : Option PV → Nat → VS → Prop}  : ∀ (f : Nat) (v : VS) (n : Int) (k : Int) (z1 : Int), XI v → (0 ≤ k ∧ k < (v 203 37)) → (0 ≤ n ∧ n + k ≤ 300) → (SM v) → (k < f) → (∀ qx3 : Option PV, (0 ≤ (mo_depth_41 f v n k) ∧ (mo_depth_41 f v n k) ≤ 300) → WV X (d + 1 + 1 + 1 + 1 + 1 + 1) 286 64 [some (.inr (.inr (some 203))), some (.inl z1), some (.inl (mo_depth_41 f v n k)), qx3] [] b v Q) → WV X (d + 1 + 1 + 1 + 1 + 1 + 1) 286 41 [some (.inr (.inr (some 203))), some (.inl z1), some (.inl n), some (.inl k)] [] b v Q := by
  intro f
  induction f with
  | zero =>
    intro v n k z1 hX hi_0 hi_1 hi_2 hf hK
    have hz37 : 0 ≤ v 203 37 ∧ v 203 37 ≤ 300 := hX 203 37
    exfalso
    omega
  | succ f ih =>
    intro v n k z1 hX hi_0 hi_1 hi_2 hf hK
    rw [mo_depth_41] at hK
    have hz37 : 0 ≤ v 203 37 ∧ v 203 37 ≤ 300 := hX 203 37
    refine r_ex 3 (pc' := 44) (lo' := [some (.inr (.inr (some 203))), some (.inl z1), some (.inl n), some (.inl k)]) (st' := [.inl 3, .inl k, .inr (.inr (some 203))]) rfl ?_
    have hp_9 : 0 ≤ k ∧ k < 300 := (by first | assumption | omega | (unfold R32 at *; omega) | (unfold R64 at *; omega) | (simp only [R32, R64] at *; omega))
    have hp_10 : 0 ≤ (3 : Int) ∧ (3 : Int) < 5 := (by first | assumption | omega | (unfold R32 at *; omega) | (unfold R64 at *; omega) | (simp only [R32, R64] at *; omega))
    refine r_call (m := 254) (args := [.inr (.inr (some 203)), .inl k, .inl 3]) (n' := 286) (pc' := 47) (lo' := [some (.inr (.inr (some 203))), some (.inl z1), some (.inl n), some (.inl k)]) (st' := []) (I := .invokevirtual 254) (pc0 := 44) (len := 3) rfl rfl rfl (e_mo_at hX hp_9 hp_10) ?_
    show WV _ _ _ 47 _ [.inl (mo_at v k 3)] _ _ _
    have hb_11 := n_mo_at (v := v) (i := k) (w := 3) hX hp_9 hp_10
    have hby := hi_2.by_ (i := k) (by omega)
    refine r_ex 1 (pc' := 48) (lo' := [some (.inr (.inr (some 203))), some (.inl z1), some (.inl n), some (.inl k)]) (st' := [.inl (-1), .inl (mo_at v k 3)]) rfl ?_
    refine n_ic_eq (pc0 := 48) (len := 3) (t := 64) rfl (by first | assumption | omega | (unfold R32 at *; omega) | (unfold R64 at *; omega) | (simp only [R32, R64] at *; omega)) (by first | assumption | omega | (unfold R32 at *; omega) | (unfold R64 at *; omega) | (simp only [R32, R64] at *; omega)) (fun h_48 => ?_) (fun h_48 => ?_)
    · show WV _ _ _ 64 _ _ _ _ _
      rw [if_pos h_48] at hK
      exact hK _  (by first | assumption | omega | (unfold R32 at *; omega) | (unfold R64 at *; omega) | (simp only [R32, R64] at *; omega))
    · show WV _ _ _ 51 _ _ _ _ _
      rw [if_neg h_48] at hK
      refine r_ex 4 (pc' := 57) (lo' := [some (.inr (.inr (some 203))), some (.inl z1), some (.inl (n + 1)), some (.inl k)]) (st' := [.inl 3, .inl k, .inr (.inr (some 203))]) rfl ?_
      have hp_12 : 0 ≤ k ∧ k < 300 := (by first | assumption | omega | (unfold R32 at *; omega) | (unfold R64 at *; omega) | (simp only [R32, R64] at *; omega))
      have hp_13 : 0 ≤ (3 : Int) ∧ (3 : Int) < 5 := (by first | assumption | omega | (unfold R32 at *; omega) | (unfold R64 at *; omega) | (simp only [R32, R64] at *; omega))
      refine r_call (m := 254) (args := [.inr (.inr (some 203)), .inl k, .inl 3]) (n' := 286) (pc' := 60) (lo' := [some (.inr (.inr (some 203))), some (.inl z1), some (.inl (n + 1)), some (.inl k)]) (st' := []) (I := .invokevirtual 254) (pc0 := 57) (len := 3) rfl rfl rfl (e_mo_at hX hp_12 hp_13) ?_
      show WV _ _ _ 60 _ [.inl (mo_at v k 3)] _ _ _
      have hb_14 := n_mo_at (v := v) (i := k) (w := 3) hX hp_12 hp_13
      have hby2 := hi_2.by_ (i := k) (by omega)
      refine r_ex 2 (pc' := 41) (lo' := [some (.inr (.inr (some 203))), some (.inl z1), some (.inl (n + 1)), some (.inl (mo_at v k 3))]) (st' := []) rfl ?_
      refine ih v (n + 1) (mo_at v k 3) _ hX (show 0 ≤ (mo_at v k 3) ∧ (mo_at v k 3) < (v 203 37) from (by first | assumption | omega | (unfold R32 at *; omega) | (unfold R64 at *; omega) | (simp only [R32, R64] at *; omega))) (by first | assumption | omega | (unfold R32 at *; omega) | (unfold R64 at *; omega) | (simp only [R32, R64] at *; omega)) (by first | assumption | omega | (unfold R32 at *; omega) | (unfold R64 at *; omega) | (simp only [R32, R64] at *; omega)) (by first | assumption | omega | (unfold R32 at *; omega) | (unfold R64 at *; omega) | (simp only [R32, R64] at *; omega)) hK

set_option maxRecDepth 100000 in
theorem w_mo_depth {X : PX} {d b : Nat} {v : VS} {i : Int} (hX : XI v) (hp_a : R32 i) (hp_b : CF v) (hp_c : SM (mo_told (v2 v 203 0 0))) {Q : Option PV → Nat → VS → Prop} (hQ : XI (mo_depth v i).2 → Q (some (.inl (mo_depth v i).1)) b (mo_depth v i).2) : WV X (d + 1 + 1 + 1 + 1 + 1 + 1) 286 0 [some (.inr (.inr (some 203))), some (.inl i), none, none] [] b v Q := by
  rw [mo_depth] at hQ
  refine r_ex 2 (pc' := 2) (lo' := [some (.inr (.inr (some 203))), some (.inl i), none, none]) (st' := [.inl 0, .inr (.inr (some 203))]) rfl ?_
  refine r_puti2 (j := 0) (pc' := 5) (pc0 := 2) (len := 3) rfl (s_203 _) rfl rfl rfl (Or.inl rfl) rfl rfl ?_
  have hX_1 : XI (v2 v 203 0 0) := XI.put hX trivial
  refine r_ex 1 (pc' := 6) (lo' := [some (.inr (.inr (some 203))), some (.inl i), none, none]) (st' := [.inr (.inr (some 203))]) rfl ?_
  have hb_2 : 0 ≤ (v 209 0) ∧ (v 209 0) ≤ 2001 := hX_1 209 0
  refine r_callb (P := 0 < (v 209 0)) (m := 245) (args := [.inr (.inr (some 203))]) (n' := 286) (pc' := 9) (lo' := [some (.inr (.inr (some 203))), some (.inl i), none, none]) (st' := []) (I := .invokevirtual 245) (pc0 := 6) (len := 3) rfl rfl rfl (e_mo_isBay hX_1) (fun h_6 => ?_) (fun h_6 => ?_)
  · show WV _ _ _ 9 _ _ _ _ _
    rw [if_pos h_6] at hQ
    refine r_ex 2 (pc' := 16) (lo' := [some (.inr (.inr (some 203))), some (.inl i), none, none]) (st' := [.inr (.inr (some 203))]) rfl ?_
    have hp_3 : CF (v2 v 203 0 0) := show CF (v2 v 203 0 0) from (show CF (v2 v 203 0 0) from CF.of hp_b (fun k h1 h2 => by rw [v2_row (by omega)]))
    refine r_call (m := 246) (args := [.inr (.inr (some 203))]) (n' := 286) (pc' := 19) (lo' := [some (.inr (.inr (some 203))), some (.inl i), none, none]) (st' := []) (I := .invokevirtual 246) (pc0 := 16) (len := 3) rfl rfl rfl (e_mo_told hX_1 hp_3) ?_
    show WV _ _ _ 19 _ [] _ (mo_told (v2 v 203 0 0)) _
    have hX_4 : XI (mo_told (v2 v 203 0 0)) := i_mo_told (v := (v2 v 203 0 0)) hX_1 hp_3
    refine r_ex 1 (pc' := 20) (lo' := [some (.inr (.inr (some 203))), some (.inl i), none, none]) (st' := [.inl i]) rfl ?_
    refine n_i2l (pc' := 21) (pc0 := 20) (len := 1) rfl (by first | assumption | omega | (unfold R32 at *; omega) | (unfold R64 at *; omega) | (simp only [R32, R64] at *; omega)) rfl ?_
    refine r_ex 5 (pc' := 28) (lo' := [some (.inr (.inr (some 203))), some (.inl i), none, none]) (st' := [.inl (((mo_told (v2 v 203 0 0)) 203 37) - 1), .inr (.inl 0), .inr (.inl i)]) rfl ?_
    have hb_5 : 0 ≤ ((mo_told (v2 v 203 0 0)) 203 37) ∧ ((mo_told (v2 v 203 0 0)) 203 37) ≤ 300 := hX_4 203 37
    refine n_i2l (pc' := 29) (pc0 := 28) (len := 1) rfl (by first | assumption | omega | (unfold R32 at *; omega) | (unfold R64 at *; omega) | (simp only [R32, R64] at *; omega)) rfl ?_
    have hp_6 : R64 i := (by first | assumption | omega | (unfold R32 at *; omega) | (unfold R64 at *; omega) | (simp only [R32, R64] at *; omega))
    have hp_7 : R64 (0 : Int) := (by first | assumption | omega | (unfold R32 at *; omega) | (unfold R64 at *; omega) | (simp only [R32, R64] at *; omega))
    have hp_8 : R64 (((mo_told (v2 v 203 0 0)) 203 37) - 1) := (by first | assumption | omega | (unfold R32 at *; omega) | (unfold R64 at *; omega) | (simp only [R32, R64] at *; omega))
    refine r_callb (P := (0 : Int) ≤ i ∧ i ≤ (((mo_told (v2 v 203 0 0)) 203 37) - 1)) (m := 202) (args := [.inr (.inl i), .inr (.inl 0), .inr (.inl (((mo_told (v2 v 203 0 0)) 203 37) - 1))]) (n' := 286) (pc' := 32) (lo' := [some (.inr (.inr (some 203))), some (.inl i), none, none]) (st' := []) (I := .invokestatic 202) (pc0 := 29) (len := 3) rfl rfl rfl (e_mo_in hX_4 hp_6 hp_7 hp_8) (fun h_29 => ?_) (fun h_29 => ?_)
    · show WV _ _ _ 32 _ _ _ _ _
      rw [if_pos h_29] at hQ
      refine r_ex 5 (pc' := 41) (lo' := [some (.inr (.inr (some 203))), some (.inl i), some (.inl 0), some (.inl i)]) (st' := []) rfl ?_
      refine l_mo_depth_41 301 (mo_told (v2 v 203 0 0)) 0 i _ hX_4 (show 0 ≤ i ∧ i < ((mo_told (v2 v 203 0 0)) 203 37) from (by first | assumption | omega | (unfold R32 at *; omega) | (unfold R64 at *; omega) | (simp only [R32, R64] at *; omega))) (by first | assumption | omega | (unfold R32 at *; omega) | (unfold R64 at *; omega) | (simp only [R32, R64] at *; omega)) (by first | assumption | omega | (unfold R32 at *; omega) | (unfold R64 at *; omega) | (simp only [R32, R64] at *; omega)) (by first | assumption | omega | (unfold R32 at *; omega) | (unfold R64 at *; omega) | (simp only [R32, R64] at *; omega)) (fun o3_15  hv_15_0 => ?_)
      show WV _ _ _ 64 _ _ _ _ _
      refine r_ex 1 (pc' := 65) (lo' := [some (.inr (.inr (some 203))), some (.inl i), some (.inl (mo_depth_41 301 (mo_told (v2 v 203 0 0)) 0 i)), o3_15]) (st' := [.inl (mo_depth_41 301 (mo_told (v2 v 203 0 0)) 0 i)]) rfl ?_
      refine r_ret (rr := some (.inl (mo_depth_41 301 (mo_told (v2 v 203 0 0)) 0 i))) (I := .ireturn) (pc0 := 65) (len := 1) rfl rfl ?_
      exact hQ hX_4 
    · show WV _ _ _ 32 _ _ _ _ _
      rw [if_neg h_29] at hQ
      refine r_ex 2 (pc' := 36) (lo' := [some (.inr (.inr (some 203))), some (.inl i), none, none]) (st' := [.inl (-1)]) rfl ?_
      refine r_ret (rr := some (.inl (-1))) (I := .ireturn) (pc0 := 36) (len := 1) rfl rfl ?_
      exact hQ hX_4 
  · show WV _ _ _ 9 _ _ _ _ _
    rw [if_neg h_6] at hQ
    refine r_ex 2 (pc' := 14) (lo' := [some (.inr (.inr (some 203))), some (.inl i), none, none]) (st' := [.inl (-2)]) rfl ?_
    refine r_ret (rr := some (.inl (-2))) (I := .ireturn) (pc0 := 14) (len := 1) rfl rfl ?_
    exact hQ hX_1 

theorem e_mo_depth {X : PX} {d b : Nat} {v : VS} {i : Int} (hX : XI v) (hp_a : R32 i) (hp_b : CF v) (hp_c : SM (mo_told (v2 v 203 0 0))) : EvV X (d + 1 + 1 + 1 + 1 + 1 + 1) 286 [.inr (.inr (some 203)), .inl i] b v (some (.inl (mo_depth v i).1)) b ((mo_depth v i).2) := EvV.of (w_mo_depth hX hp_a hp_b hp_c (fun _ => ⟨rfl, rfl, rfl⟩))

theorem i_mo_depth {v : VS} {i : Int} (hX : XI v) (hp_a : R32 i) (hp_b : CF v) (hp_c : SM (mo_told (v2 v 203 0 0))) : XI ((mo_depth v i).2) := by
  have q : WV (0, fun _ => 0, none) (0 + 1 + 1 + 1 + 1 + 1 + 1) 286 0 [some (.inr (.inr (some 203))), some (.inl i), none, none] [] 1 v (fun _ _ _ => XI ((mo_depth v i).2)) := w_mo_depth (X := (0, fun _ => 0, none)) (d := 0) (b := 1) hX hp_a hp_b hp_c (fun q => q)
  obtain ⟨_, _, _, _, _, _, _, q⟩ := q
  exact q

theorem o_mo_depth {rk : Nat} {v : VS} {i : Int} (hk : (rk < 203 ∨ 203 < rk) ∧ (rk < 219 ∨ 231 < rk)) : (mo_depth v i).2 rk = v rk := by
  unfold mo_depth
  by_cases hc_ : 0 < (v 209 0)
  · rw [if_pos hc_] <;> clear hc_
    by_cases hc_ : (0 : Int) ≤ i ∧ i ≤ (((mo_told (v2 v 203 0 0)) 203 37) - 1)
    · rw [if_pos hc_] <;> clear hc_
      all_goals (show (mo_told (v2 v 203 0 0)) rk = _)
      all_goals (rw [o_mo_told (by omega), v2_row (by omega)])
    · rw [if_neg hc_] <;> clear hc_
      all_goals (show (mo_told (v2 v 203 0 0)) rk = _)
      all_goals (rw [o_mo_told (by omega), v2_row (by omega)])
  · rw [if_neg hc_] <;> clear hc_
    all_goals (show (v2 v 203 0 0) rk = _)
    all_goals (rw [v2_row (by omega)])

noncomputable def mo_source_39 : Nat → VS → Int → Int
  | 0, v, k => 0
  | f + 1, v, k => (if (mo_at v k 3) = (-1) then k else (mo_source_39 f v (mo_at v k 3)))
noncomputable def mo_source (v : VS) (i : Int) : Int × VS :=
  (if 0 < (v 209 0) then (if (0 : Int) ≤ i ∧ i ≤ (((mo_told (v2 v 203 0 0)) 203 37) - 1) then ((mo_source_39 301 (mo_told (v2 v 203 0 0)) i), (mo_told (v2 v 203 0 0))) else ((-1), (mo_told (v2 v 203 0 0)))) else ((-2), (v2 v 203 0 0)))
set_option maxRecDepth 100000 in
theorem l_mo_source_39 {X : PX} {d b : Nat} {Q : Option PV → Nat → VS → Prop}  : ∀ (f : Nat) (v : VS) (k : Int) (z1 : Int), XI v → (0 ≤ k ∧ k < (v 203 37)) → (SM v) → (k < f) → ((0 ≤ (mo_source_39 f v k) ∧ (mo_source_39 f v k) ≤ 299) → WV X (d + 1 + 1 + 1 + 1 + 1 + 1) 287 59 [some (.inr (.inr (some 203))), some (.inl z1), some (.inl (mo_source_39 f v k))] [] b v Q) → WV X (d + 1 + 1 + 1 + 1 + 1 + 1) 287 39 [some (.inr (.inr (some 203))), some (.inl z1), some (.inl k)] [] b v Q := by
  intro f
  induction f with
  | zero =>
    intro v k z1 hX hi_0 hi_1 hf hK
    have hz37 : 0 ≤ v 203 37 ∧ v 203 37 ≤ 300 := hX 203 37
    exfalso
    omega
  | succ f ih =>
    intro v k z1 hX hi_0 hi_1 hf hK
    rw [mo_source_39] at hK
    have hz37 : 0 ≤ v 203 37 ∧ v 203 37 ≤ 300 := hX 203 37
    refine r_ex 3 (pc' := 42) (lo' := [some (.inr (.inr (some 203))), some (.inl z1), some (.inl k)]) (st' := [.inl 3, .inl k, .inr (.inr (some 203))]) rfl ?_
    have hp_9 : 0 ≤ k ∧ k < 300 := (by first | assumption | omega | (unfold R32 at *; omega) | (unfold R64 at *; omega) | (simp only [R32, R64] at *; omega))
    have hp_10 : 0 ≤ (3 : Int) ∧ (3 : Int) < 5 := (by first | assumption | omega | (unfold R32 at *; omega) | (unfold R64 at *; omega) | (simp only [R32, R64] at *; omega))
    refine r_call (m := 254) (args := [.inr (.inr (some 203)), .inl k, .inl 3]) (n' := 287) (pc' := 45) (lo' := [some (.inr (.inr (some 203))), some (.inl z1), some (.inl k)]) (st' := []) (I := .invokevirtual 254) (pc0 := 42) (len := 3) rfl rfl rfl (e_mo_at hX hp_9 hp_10) ?_
    show WV _ _ _ 45 _ [.inl (mo_at v k 3)] _ _ _
    have hb_11 := n_mo_at (v := v) (i := k) (w := 3) hX hp_9 hp_10
    have hby := hi_1.by_ (i := k) (by omega)
    refine r_ex 1 (pc' := 46) (lo' := [some (.inr (.inr (some 203))), some (.inl z1), some (.inl k)]) (st' := [.inl (-1), .inl (mo_at v k 3)]) rfl ?_
    refine n_ic_eq (pc0 := 46) (len := 3) (t := 59) rfl (by first | assumption | omega | (unfold R32 at *; omega) | (unfold R64 at *; omega) | (simp only [R32, R64] at *; omega)) (by first | assumption | omega | (unfold R32 at *; omega) | (unfold R64 at *; omega) | (simp only [R32, R64] at *; omega)) (fun h_46 => ?_) (fun h_46 => ?_)
    · show WV _ _ _ 59 _ _ _ _ _
      rw [if_pos h_46] at hK
      exact hK   (by first | assumption | omega | (unfold R32 at *; omega) | (unfold R64 at *; omega) | (simp only [R32, R64] at *; omega))
    · show WV _ _ _ 49 _ _ _ _ _
      rw [if_neg h_46] at hK
      refine r_ex 3 (pc' := 52) (lo' := [some (.inr (.inr (some 203))), some (.inl z1), some (.inl k)]) (st' := [.inl 3, .inl k, .inr (.inr (some 203))]) rfl ?_
      have hp_12 : 0 ≤ k ∧ k < 300 := (by first | assumption | omega | (unfold R32 at *; omega) | (unfold R64 at *; omega) | (simp only [R32, R64] at *; omega))
      have hp_13 : 0 ≤ (3 : Int) ∧ (3 : Int) < 5 := (by first | assumption | omega | (unfold R32 at *; omega) | (unfold R64 at *; omega) | (simp only [R32, R64] at *; omega))
      refine r_call (m := 254) (args := [.inr (.inr (some 203)), .inl k, .inl 3]) (n' := 287) (pc' := 55) (lo' := [some (.inr (.inr (some 203))), some (.inl z1), some (.inl k)]) (st' := []) (I := .invokevirtual 254) (pc0 := 52) (len := 3) rfl rfl rfl (e_mo_at hX hp_12 hp_13) ?_
      show WV _ _ _ 55 _ [.inl (mo_at v k 3)] _ _ _
      have hb_14 := n_mo_at (v := v) (i := k) (w := 3) hX hp_12 hp_13
      have hby2 := hi_1.by_ (i := k) (by omega)
      refine r_ex 2 (pc' := 39) (lo' := [some (.inr (.inr (some 203))), some (.inl z1), some (.inl (mo_at v k 3))]) (st' := []) rfl ?_
      refine ih v (mo_at v k 3) _ hX (show 0 ≤ (mo_at v k 3) ∧ (mo_at v k 3) < (v 203 37) from (by first | assumption | omega | (unfold R32 at *; omega) | (unfold R64 at *; omega) | (simp only [R32, R64] at *; omega))) (by first | assumption | omega | (unfold R32 at *; omega) | (unfold R64 at *; omega) | (simp only [R32, R64] at *; omega)) (by first | assumption | omega | (unfold R32 at *; omega) | (unfold R64 at *; omega) | (simp only [R32, R64] at *; omega)) hK

set_option maxRecDepth 100000 in
theorem w_mo_source {X : PX} {d b : Nat} {v : VS} {i : Int} (hX : XI v) (hp_a : R32 i) (hp_b : CF v) (hp_c : SM (mo_told (v2 v 203 0 0))) {Q : Option PV → Nat → VS → Prop} (hQ : XI (mo_source v i).2 → Q (some (.inl (mo_source v i).1)) b (mo_source v i).2) : WV X (d + 1 + 1 + 1 + 1 + 1 + 1) 287 0 [some (.inr (.inr (some 203))), some (.inl i), none] [] b v Q := by
  rw [mo_source] at hQ
  refine r_ex 2 (pc' := 2) (lo' := [some (.inr (.inr (some 203))), some (.inl i), none]) (st' := [.inl 0, .inr (.inr (some 203))]) rfl ?_
  refine r_puti2 (j := 0) (pc' := 5) (pc0 := 2) (len := 3) rfl (s_203 _) rfl rfl rfl (Or.inl rfl) rfl rfl ?_
  have hX_1 : XI (v2 v 203 0 0) := XI.put hX trivial
  refine r_ex 1 (pc' := 6) (lo' := [some (.inr (.inr (some 203))), some (.inl i), none]) (st' := [.inr (.inr (some 203))]) rfl ?_
  have hb_2 : 0 ≤ (v 209 0) ∧ (v 209 0) ≤ 2001 := hX_1 209 0
  refine r_callb (P := 0 < (v 209 0)) (m := 245) (args := [.inr (.inr (some 203))]) (n' := 287) (pc' := 9) (lo' := [some (.inr (.inr (some 203))), some (.inl i), none]) (st' := []) (I := .invokevirtual 245) (pc0 := 6) (len := 3) rfl rfl rfl (e_mo_isBay hX_1) (fun h_6 => ?_) (fun h_6 => ?_)
  · show WV _ _ _ 9 _ _ _ _ _
    rw [if_pos h_6] at hQ
    refine r_ex 2 (pc' := 16) (lo' := [some (.inr (.inr (some 203))), some (.inl i), none]) (st' := [.inr (.inr (some 203))]) rfl ?_
    have hp_3 : CF (v2 v 203 0 0) := show CF (v2 v 203 0 0) from (show CF (v2 v 203 0 0) from CF.of hp_b (fun k h1 h2 => by rw [v2_row (by omega)]))
    refine r_call (m := 246) (args := [.inr (.inr (some 203))]) (n' := 287) (pc' := 19) (lo' := [some (.inr (.inr (some 203))), some (.inl i), none]) (st' := []) (I := .invokevirtual 246) (pc0 := 16) (len := 3) rfl rfl rfl (e_mo_told hX_1 hp_3) ?_
    show WV _ _ _ 19 _ [] _ (mo_told (v2 v 203 0 0)) _
    have hX_4 : XI (mo_told (v2 v 203 0 0)) := i_mo_told (v := (v2 v 203 0 0)) hX_1 hp_3
    refine r_ex 1 (pc' := 20) (lo' := [some (.inr (.inr (some 203))), some (.inl i), none]) (st' := [.inl i]) rfl ?_
    refine n_i2l (pc' := 21) (pc0 := 20) (len := 1) rfl (by first | assumption | omega | (unfold R32 at *; omega) | (unfold R64 at *; omega) | (simp only [R32, R64] at *; omega)) rfl ?_
    refine r_ex 5 (pc' := 28) (lo' := [some (.inr (.inr (some 203))), some (.inl i), none]) (st' := [.inl (((mo_told (v2 v 203 0 0)) 203 37) - 1), .inr (.inl 0), .inr (.inl i)]) rfl ?_
    have hb_5 : 0 ≤ ((mo_told (v2 v 203 0 0)) 203 37) ∧ ((mo_told (v2 v 203 0 0)) 203 37) ≤ 300 := hX_4 203 37
    refine n_i2l (pc' := 29) (pc0 := 28) (len := 1) rfl (by first | assumption | omega | (unfold R32 at *; omega) | (unfold R64 at *; omega) | (simp only [R32, R64] at *; omega)) rfl ?_
    have hp_6 : R64 i := (by first | assumption | omega | (unfold R32 at *; omega) | (unfold R64 at *; omega) | (simp only [R32, R64] at *; omega))
    have hp_7 : R64 (0 : Int) := (by first | assumption | omega | (unfold R32 at *; omega) | (unfold R64 at *; omega) | (simp only [R32, R64] at *; omega))
    have hp_8 : R64 (((mo_told (v2 v 203 0 0)) 203 37) - 1) := (by first | assumption | omega | (unfold R32 at *; omega) | (unfold R64 at *; omega) | (simp only [R32, R64] at *; omega))
    refine r_callb (P := (0 : Int) ≤ i ∧ i ≤ (((mo_told (v2 v 203 0 0)) 203 37) - 1)) (m := 202) (args := [.inr (.inl i), .inr (.inl 0), .inr (.inl (((mo_told (v2 v 203 0 0)) 203 37) - 1))]) (n' := 287) (pc' := 32) (lo' := [some (.inr (.inr (some 203))), some (.inl i), none]) (st' := []) (I := .invokestatic 202) (pc0 := 29) (len := 3) rfl rfl rfl (e_mo_in hX_4 hp_6 hp_7 hp_8) (fun h_29 => ?_) (fun h_29 => ?_)
    · show WV _ _ _ 32 _ _ _ _ _
      rw [if_pos h_29] at hQ
      refine r_ex 3 (pc' := 39) (lo' := [some (.inr (.inr (some 203))), some (.inl i), some (.inl i)]) (st' := []) rfl ?_
      refine l_mo_source_39 301 (mo_told (v2 v 203 0 0)) i _ hX_4 (show 0 ≤ i ∧ i < ((mo_told (v2 v 203 0 0)) 203 37) from (by first | assumption | omega | (unfold R32 at *; omega) | (unfold R64 at *; omega) | (simp only [R32, R64] at *; omega))) (by first | assumption | omega | (unfold R32 at *; omega) | (unfold R64 at *; omega) | (simp only [R32, R64] at *; omega)) (by first | assumption | omega | (unfold R32 at *; omega) | (unfold R64 at *; omega) | (simp only [R32, R64] at *; omega)) (fun   hv_15_0 => ?_)
      show WV _ _ _ 59 _ _ _ _ _
      refine r_ex 1 (pc' := 60) (lo' := [some (.inr (.inr (some 203))), some (.inl i), some (.inl (mo_source_39 301 (mo_told (v2 v 203 0 0)) i))]) (st' := [.inl (mo_source_39 301 (mo_told (v2 v 203 0 0)) i)]) rfl ?_
      refine r_ret (rr := some (.inl (mo_source_39 301 (mo_told (v2 v 203 0 0)) i))) (I := .ireturn) (pc0 := 60) (len := 1) rfl rfl ?_
      exact hQ hX_4 
    · show WV _ _ _ 32 _ _ _ _ _
      rw [if_neg h_29] at hQ
      refine r_ex 2 (pc' := 36) (lo' := [some (.inr (.inr (some 203))), some (.inl i), none]) (st' := [.inl (-1)]) rfl ?_
      refine r_ret (rr := some (.inl (-1))) (I := .ireturn) (pc0 := 36) (len := 1) rfl rfl ?_
      exact hQ hX_4 
  · show WV _ _ _ 9 _ _ _ _ _
    rw [if_neg h_6] at hQ
    refine r_ex 2 (pc' := 14) (lo' := [some (.inr (.inr (some 203))), some (.inl i), none]) (st' := [.inl (-2)]) rfl ?_
    refine r_ret (rr := some (.inl (-2))) (I := .ireturn) (pc0 := 14) (len := 1) rfl rfl ?_
    exact hQ hX_1 

theorem e_mo_source {X : PX} {d b : Nat} {v : VS} {i : Int} (hX : XI v) (hp_a : R32 i) (hp_b : CF v) (hp_c : SM (mo_told (v2 v 203 0 0))) : EvV X (d + 1 + 1 + 1 + 1 + 1 + 1) 287 [.inr (.inr (some 203)), .inl i] b v (some (.inl (mo_source v i).1)) b ((mo_source v i).2) := EvV.of (w_mo_source hX hp_a hp_b hp_c (fun _ => ⟨rfl, rfl, rfl⟩))

theorem i_mo_source {v : VS} {i : Int} (hX : XI v) (hp_a : R32 i) (hp_b : CF v) (hp_c : SM (mo_told (v2 v 203 0 0))) : XI ((mo_source v i).2) := by
  have q : WV (0, fun _ => 0, none) (0 + 1 + 1 + 1 + 1 + 1 + 1) 287 0 [some (.inr (.inr (some 203))), some (.inl i), none] [] 1 v (fun _ _ _ => XI ((mo_source v i).2)) := w_mo_source (X := (0, fun _ => 0, none)) (d := 0) (b := 1) hX hp_a hp_b hp_c (fun q => q)
  obtain ⟨_, _, _, _, _, _, _, q⟩ := q
  exact q

theorem o_mo_source {rk : Nat} {v : VS} {i : Int} (hk : (rk < 203 ∨ 203 < rk) ∧ (rk < 219 ∨ 231 < rk)) : (mo_source v i).2 rk = v rk := by
  unfold mo_source
  by_cases hc_ : 0 < (v 209 0)
  · rw [if_pos hc_] <;> clear hc_
    by_cases hc_ : (0 : Int) ≤ i ∧ i ≤ (((mo_told (v2 v 203 0 0)) 203 37) - 1)
    · rw [if_pos hc_] <;> clear hc_
      all_goals (show (mo_told (v2 v 203 0 0)) rk = _)
      all_goals (rw [o_mo_told (by omega), v2_row (by omega)])
    · rw [if_neg hc_] <;> clear hc_
      all_goals (show (mo_told (v2 v 203 0 0)) rk = _)
      all_goals (rw [o_mo_told (by omega), v2_row (by omega)])
  · rw [if_neg hc_] <;> clear hc_
    all_goals (show (v2 v 203 0 0) rk = _)
    all_goals (rw [v2_row (by omega)])

noncomputable def mo_lap_32 : Nat → VS → Int → Int → Int → Int × VS
  | 0, v, c, a, s => (0, v)
  | f + 1, v, c, a, s => (if a = (-1) then ((-1), v) else (if s < (v 203 37) then (if (mo_at v s 1) = c then (if (mo_comesOf v s a) = 0 then (mo_lap_32 f v c a (s + 1)) else (((mo_at v s 0) - (mo_at v a 0)), v)) else (mo_lap_32 f v c a (s + 1))) else ((-1), v)))
noncomputable def mo_lap (v : VS) (c : Int) : Int × VS :=
  (if 0 ≤ c ∧ c < (v 210 0) then (mo_lap_32 301 (mo_told (v2 v 203 0 0)) c ((mo_told (v2 v 203 0 0)) 230 ((c).toNat)) (((mo_told (v2 v 203 0 0)) 230 ((c).toNat)) + 1)) else ((-2), (v2 v 203 0 0)))
set_option maxRecDepth 100000 in
theorem l_mo_lap_32 {X : PX} {d b : Nat} {Q : Option PV → Nat → VS → Prop}  : ∀ (f : Nat) (v : VS) (c : Int) (a : Int) (s : Int), XI v → (0 ≤ c ∧ c ≤ 8) → (-1 ≤ a ∧ a < (v 203 37)) → (0 ≤ s ∧ s ≤ 300) → (SM v) → (300 < s + f) → (XI (mo_lap_32 f v c a s).2 → Q (some (.inl (mo_lap_32 f v c a s).1)) b (mo_lap_32 f v c a s).2) → WV X (d + 1 + 1 + 1 + 1 + 1 + 1) 288 32 [some (.inr (.inr (some 203))), some (.inl c), some (.inl a), some (.inl s)] [] b v Q := by
  intro f
  induction f with
  | zero =>
    intro v c a s hX hi_0 hi_1 hi_2 hi_3 hf hQ
    have hz37 : 0 ≤ v 203 37 ∧ v 203 37 ≤ 300 := hX 203 37
    exfalso
    omega
  | succ f ih =>
    intro v c a s hX hi_0 hi_1 hi_2 hi_3 hf hQ
    rw [mo_lap_32] at hQ
    have hz37 : 0 ≤ v 203 37 ∧ v 203 37 ≤ 300 := hX 203 37
    refine r_ex 2 (pc' := 34) (lo' := [some (.inr (.inr (some 203))), some (.inl c), some (.inl a), some (.inl s)]) (st' := [.inl (-1), .inl a]) rfl ?_
    refine n_ic_eq (pc0 := 34) (len := 3) (t := 84) rfl (by first | assumption | omega | (unfold R32 at *; omega) | (unfold R64 at *; omega) | (simp only [R32, R64] at *; omega)) (by first | assumption | omega | (unfold R32 at *; omega) | (unfold R64 at *; omega) | (simp only [R32, R64] at *; omega)) (fun h_34 => ?_) (fun h_34 => ?_)
    · show WV _ _ _ 84 _ _ _ _ _
      rw [if_pos h_34] at hQ
      refine r_ex 1 (pc' := 85) (lo' := [some (.inr (.inr (some 203))), some (.inl c), some (.inl a), some (.inl s)]) (st' := [.inl (-1)]) rfl ?_
      refine r_ret (rr := some (.inl (-1))) (I := .ireturn) (pc0 := 85) (len := 1) rfl rfl ?_
      exact hQ hX 
    · show WV _ _ _ 37 _ _ _ _ _
      rw [if_neg h_34] at hQ
      refine r_ex 3 (pc' := 42) (lo' := [some (.inr (.inr (some 203))), some (.inl c), some (.inl a), some (.inl s)]) (st' := [.inl (v 203 37), .inl s]) rfl ?_
      have hb_7 : 0 ≤ (v 203 37) ∧ (v 203 37) ≤ 300 := hX 203 37
      refine n_ic_ge (pc0 := 42) (len := 3) (t := 84) rfl (by first | assumption | omega | (unfold R32 at *; omega) | (unfold R64 at *; omega) | (simp only [R32, R64] at *; omega)) (by first | assumption | omega | (unfold R32 at *; omega) | (unfold R64 at *; omega) | (simp only [R32, R64] at *; omega)) (fun h_42 => ?_) (fun h_42 => ?_)
      · show WV _ _ _ 84 _ _ _ _ _
        rw [if_neg h_42] at hQ
        refine r_ex 1 (pc' := 85) (lo' := [some (.inr (.inr (some 203))), some (.inl c), some (.inl a), some (.inl s)]) (st' := [.inl (-1)]) rfl ?_
        refine r_ret (rr := some (.inl (-1))) (I := .ireturn) (pc0 := 85) (len := 1) rfl rfl ?_
        exact hQ hX 
      · show WV _ _ _ 45 _ _ _ _ _
        rw [if_pos h_42] at hQ
        refine r_ex 3 (pc' := 48) (lo' := [some (.inr (.inr (some 203))), some (.inl c), some (.inl a), some (.inl s)]) (st' := [.inl 1, .inl s, .inr (.inr (some 203))]) rfl ?_
        have hp_8 : 0 ≤ s ∧ s < 300 := (by first | assumption | omega | (unfold R32 at *; omega) | (unfold R64 at *; omega) | (simp only [R32, R64] at *; omega))
        have hp_9 : 0 ≤ (1 : Int) ∧ (1 : Int) < 5 := (by first | assumption | omega | (unfold R32 at *; omega) | (unfold R64 at *; omega) | (simp only [R32, R64] at *; omega))
        refine r_call (m := 254) (args := [.inr (.inr (some 203)), .inl s, .inl 1]) (n' := 288) (pc' := 51) (lo' := [some (.inr (.inr (some 203))), some (.inl c), some (.inl a), some (.inl s)]) (st' := []) (I := .invokevirtual 254) (pc0 := 48) (len := 3) rfl rfl rfl (e_mo_at hX hp_8 hp_9) ?_
        show WV _ _ _ 51 _ [.inl (mo_at v s 1)] _ _ _
        have hb_10 := n_mo_at (v := v) (i := s) (w := 1) hX hp_8 hp_9
        refine r_ex 1 (pc' := 52) (lo' := [some (.inr (.inr (some 203))), some (.inl c), some (.inl a), some (.inl s)]) (st' := [.inl c, .inl (mo_at v s 1)]) rfl ?_
        refine n_ic_ne (pc0 := 52) (len := 3) (t := 78) rfl (by first | assumption | omega | (unfold R32 at *; omega) | (unfold R64 at *; omega) | (simp only [R32, R64] at *; omega)) (by first | assumption | omega | (unfold R32 at *; omega) | (unfold R64 at *; omega) | (simp only [R32, R64] at *; omega)) (fun h_52 => ?_) (fun h_52 => ?_)
        · show WV _ _ _ 78 _ _ _ _ _
          rw [if_neg h_52] at hQ
          refine r_ex 2 (pc' := 32) (lo' := [some (.inr (.inr (some 203))), some (.inl c), some (.inl a), some (.inl (s + 1))]) (st' := []) rfl ?_
          refine ih v c a (s + 1)  hX (by first | assumption | omega | (unfold R32 at *; omega) | (unfold R64 at *; omega) | (simp only [R32, R64] at *; omega)) (show -1 ≤ a ∧ a < (v 203 37) from (by first | assumption | omega | (unfold R32 at *; omega) | (unfold R64 at *; omega) | (simp only [R32, R64] at *; omega))) (by first | assumption | omega | (unfold R32 at *; omega) | (unfold R64 at *; omega) | (simp only [R32, R64] at *; omega)) (by first | assumption | omega | (unfold R32 at *; omega) | (unfold R64 at *; omega) | (simp only [R32, R64] at *; omega)) (by first | assumption | omega | (unfold R32 at *; omega) | (unfold R64 at *; omega) | (simp only [R32, R64] at *; omega)) hQ
        · show WV _ _ _ 55 _ _ _ _ _
          rw [if_pos h_52] at hQ
          refine r_ex 3 (pc' := 58) (lo' := [some (.inr (.inr (some 203))), some (.inl c), some (.inl a), some (.inl s)]) (st' := [.inl a, .inl s, .inr (.inr (some 203))]) rfl ?_
          have hp_11 : 0 ≤ s ∧ s < (v 203 37) := (show 0 ≤ s ∧ s < (v 203 37) from (by first | assumption | omega | (unfold R32 at *; omega) | (unfold R64 at *; omega) | (simp only [R32, R64] at *; omega)))
          have hp_12 : 0 ≤ a ∧ a ≤ 299 := (by first | assumption | omega | (unfold R32 at *; omega) | (unfold R64 at *; omega) | (simp only [R32, R64] at *; omega))
          have hp_13 : SM v := (by first | assumption | omega | (unfold R32 at *; omega) | (unfold R64 at *; omega) | (simp only [R32, R64] at *; omega))
          refine r_call (m := 285) (args := [.inr (.inr (some 203)), .inl s, .inl a]) (n' := 288) (pc' := 61) (lo' := [some (.inr (.inr (some 203))), some (.inl c), some (.inl a), some (.inl s)]) (st' := []) (I := .invokevirtual 285) (pc0 := 58) (len := 3) rfl rfl rfl (e_mo_comesOf hX hp_11 hp_12 hp_13) ?_
          show WV _ _ _ 61 _ [.inl (mo_comesOf v s a)] _ _ _
          have hb_14 := n_mo_comesOf (v := v) (s := s) (i := a) hX hp_11 hp_12 hp_13
          refine n_if_eq (pc0 := 61) (len := 3) (t := 78) rfl (by first | assumption | omega | (unfold R32 at *; omega) | (unfold R64 at *; omega) | (simp only [R32, R64] at *; omega)) (fun h_61 => ?_) (fun h_61 => ?_)
          · show WV _ _ _ 78 _ _ _ _ _
            rw [if_pos h_61] at hQ
            refine r_ex 2 (pc' := 32) (lo' := [some (.inr (.inr (some 203))), some (.inl c), some (.inl a), some (.inl (s + 1))]) (st' := []) rfl ?_
            refine ih v c a (s + 1)  hX (by first | assumption | omega | (unfold R32 at *; omega) | (unfold R64 at *; omega) | (simp only [R32, R64] at *; omega)) (show -1 ≤ a ∧ a < (v 203 37) from (by first | assumption | omega | (unfold R32 at *; omega) | (unfold R64 at *; omega) | (simp only [R32, R64] at *; omega))) (by first | assumption | omega | (unfold R32 at *; omega) | (unfold R64 at *; omega) | (simp only [R32, R64] at *; omega)) (by first | assumption | omega | (unfold R32 at *; omega) | (unfold R64 at *; omega) | (simp only [R32, R64] at *; omega)) (by first | assumption | omega | (unfold R32 at *; omega) | (unfold R64 at *; omega) | (simp only [R32, R64] at *; omega)) hQ
          · show WV _ _ _ 64 _ _ _ _ _
            rw [if_neg h_61] at hQ
            refine r_ex 3 (pc' := 67) (lo' := [some (.inr (.inr (some 203))), some (.inl c), some (.inl a), some (.inl s)]) (st' := [.inl 0, .inl s, .inr (.inr (some 203))]) rfl ?_
            have hp_15 : 0 ≤ s ∧ s < 300 := (by first | assumption | omega | (unfold R32 at *; omega) | (unfold R64 at *; omega) | (simp only [R32, R64] at *; omega))
            have hp_16 : 0 ≤ (0 : Int) ∧ (0 : Int) < 5 := (by first | assumption | omega | (unfold R32 at *; omega) | (unfold R64 at *; omega) | (simp only [R32, R64] at *; omega))
            refine r_call (m := 254) (args := [.inr (.inr (some 203)), .inl s, .inl 0]) (n' := 288) (pc' := 70) (lo' := [some (.inr (.inr (some 203))), some (.inl c), some (.inl a), some (.inl s)]) (st' := []) (I := .invokevirtual 254) (pc0 := 67) (len := 3) rfl rfl rfl (e_mo_at hX hp_15 hp_16) ?_
            show WV _ _ _ 70 _ [.inl (mo_at v s 0)] _ _ _
            have hb_17 := n_mo_at (v := v) (i := s) (w := 0) hX hp_15 hp_16
            refine r_ex 3 (pc' := 73) (lo' := [some (.inr (.inr (some 203))), some (.inl c), some (.inl a), some (.inl s)]) (st' := [.inl 0, .inl a, .inr (.inr (some 203)), .inl (mo_at v s 0)]) rfl ?_
            have hp_18 : 0 ≤ a ∧ a < 300 := (by first | assumption | omega | (unfold R32 at *; omega) | (unfold R64 at *; omega) | (simp only [R32, R64] at *; omega))
            have hp_19 : 0 ≤ (0 : Int) ∧ (0 : Int) < 5 := (by first | assumption | omega | (unfold R32 at *; omega) | (unfold R64 at *; omega) | (simp only [R32, R64] at *; omega))
            refine r_call (m := 254) (args := [.inr (.inr (some 203)), .inl a, .inl 0]) (n' := 288) (pc' := 76) (lo' := [some (.inr (.inr (some 203))), some (.inl c), some (.inl a), some (.inl s)]) (st' := [.inl (mo_at v s 0)]) (I := .invokevirtual 254) (pc0 := 73) (len := 3) rfl rfl rfl (e_mo_at hX hp_18 hp_19) ?_
            show WV _ _ _ 76 _ [.inl (mo_at v a 0), .inl (mo_at v s 0)] _ _ _
            have hb_20 := n_mo_at (v := v) (i := a) (w := 0) hX hp_18 hp_19
            refine r_ex 1 (pc' := 77) (lo' := [some (.inr (.inr (some 203))), some (.inl c), some (.inl a), some (.inl s)]) (st' := [.inl ((mo_at v s 0) - (mo_at v a 0))]) rfl ?_
            refine r_ret (rr := some (.inl ((mo_at v s 0) - (mo_at v a 0)))) (I := .ireturn) (pc0 := 77) (len := 1) rfl rfl ?_
            exact hQ hX 

theorem of_mo_lap_32 {rk : Nat}  : ∀ (f : Nat) {v : VS} {c : Int} {a : Int} {s : Int}, (mo_lap_32 f v c a s).2 rk = v rk := by
  intro f
  induction f with
  | zero => intro v c a s; rfl
  | succ f ih =>
    intro v c a s
    rw [mo_lap_32]
    by_cases hc_ : a = (-1)
    · rw [if_pos hc_] <;> clear hc_
      all_goals (show v rk = _)
      all_goals rfl
    · rw [if_neg hc_] <;> clear hc_
      by_cases hc_ : s < (v 203 37)
      · rw [if_pos hc_] <;> clear hc_
        by_cases hc_ : (mo_at v s 1) = c
        · rw [if_pos hc_] <;> clear hc_
          by_cases hc_ : (mo_comesOf v s a) = 0
          · rw [if_pos hc_] <;> clear hc_
            all_goals (rw [ih])
          · rw [if_neg hc_] <;> clear hc_
            all_goals (show v rk = _)
            all_goals rfl
        · rw [if_neg hc_] <;> clear hc_
          all_goals (rw [ih])
      · rw [if_neg hc_] <;> clear hc_
        all_goals (show v rk = _)
        all_goals rfl
theorem o_mo_lap_32 {rk : Nat} {f : Nat} {v : VS} {c : Int} {a : Int} {s : Int}  : (mo_lap_32 f v c a s).2 rk = v rk := of_mo_lap_32  f

set_option maxRecDepth 100000 in
theorem w_mo_lap {X : PX} {d b : Nat} {v : VS} {c : Int} (hX : XI v) (hp_a : R32 c) (hp_b : CF v) (hp_c : SM (mo_told (v2 v 203 0 0))) {Q : Option PV → Nat → VS → Prop} (hQ : XI (mo_lap v c).2 → Q (some (.inl (mo_lap v c).1)) b (mo_lap v c).2) : WV X (d + 1 + 1 + 1 + 1 + 1 + 1) 288 0 [some (.inr (.inr (some 203))), some (.inl c), none, none] [] b v Q := by
  rw [mo_lap] at hQ
  refine r_ex 2 (pc' := 2) (lo' := [some (.inr (.inr (some 203))), some (.inl c), none, none]) (st' := [.inl 0, .inr (.inr (some 203))]) rfl ?_
  refine r_puti2 (j := 0) (pc' := 5) (pc0 := 2) (len := 3) rfl (s_203 _) rfl rfl rfl (Or.inl rfl) rfl rfl ?_
  have hX_1 : XI (v2 v 203 0 0) := XI.put hX trivial
  refine r_ex 2 (pc' := 7) (lo' := [some (.inr (.inr (some 203))), some (.inl c), none, none]) (st' := [.inl c, .inr (.inr (some 203))]) rfl ?_
  refine n_i2l (pc' := 8) (pc0 := 7) (len := 1) rfl (by first | assumption | omega | (unfold R32 at *; omega) | (unfold R64 at *; omega) | (simp only [R32, R64] at *; omega)) rfl ?_
  have hp_2 : R64 c := (by first | assumption | omega | (unfold R32 at *; omega) | (unfold R64 at *; omega) | (simp only [R32, R64] at *; omega))
  have hb_3 : 0 ≤ (v 210 0) ∧ (v 210 0) ≤ 9 := hX_1 210 0
  refine r_callb (P := 0 ≤ c ∧ c < (v 210 0)) (m := 236) (args := [.inr (.inr (some 203)), .inr (.inl c)]) (n' := 288) (pc' := 11) (lo' := [some (.inr (.inr (some 203))), some (.inl c), none, none]) (st' := []) (I := .invokevirtual 236) (pc0 := 8) (len := 3) rfl rfl rfl (e_mo_isChurch hX_1 hp_2) (fun h_8 => ?_) (fun h_8 => ?_)
  · show WV _ _ _ 11 _ _ _ _ _
    rw [if_pos h_8] at hQ
    refine r_ex 2 (pc' := 18) (lo' := [some (.inr (.inr (some 203))), some (.inl c), none, none]) (st' := [.inr (.inr (some 203))]) rfl ?_
    have hp_4 : CF (v2 v 203 0 0) := show CF (v2 v 203 0 0) from (show CF (v2 v 203 0 0) from CF.of hp_b (fun k h1 h2 => by rw [v2_row (by omega)]))
    refine r_call (m := 246) (args := [.inr (.inr (some 203))]) (n' := 288) (pc' := 21) (lo' := [some (.inr (.inr (some 203))), some (.inl c), none, none]) (st' := []) (I := .invokevirtual 246) (pc0 := 18) (len := 3) rfl rfl rfl (e_mo_told hX_1 hp_4) ?_
    show WV _ _ _ 21 _ [] _ (mo_told (v2 v 203 0 0)) _
    have hX_5 : XI (mo_told (v2 v 203 0 0)) := i_mo_told (v := (v2 v 203 0 0)) hX_1 hp_4
    refine r_ex 3 (pc' := 26) (lo' := [some (.inr (.inr (some 203))), some (.inl c), none, none]) (st' := [.inl c, .inr (.inr (some 230))]) rfl ?_
    refine r_iald2 (j := 0) (x := ((mo_told (v2 v 203 0 0)) 230 ((c).toNat))) (pc' := 27) (pc0 := 26) (len := 1) rfl (s_230 _) (by first | assumption | omega | (unfold R32 at *; omega) | (unfold R64 at *; omega) | (simp only [R32, R64] at *; omega)) (by decide) rfl rfl ?_
    have hb_6 : -1 ≤ ((mo_told (v2 v 203 0 0)) 230 ((c).toNat)) ∧ ((mo_told (v2 v 203 0 0)) 230 ((c).toNat)) ≤ 299 := hX_5 230 ((c).toNat)
    have hfs := hp_c.fs (c := c) (by omega)
    refine r_ex 5 (pc' := 32) (lo' := [some (.inr (.inr (some 203))), some (.inl c), some (.inl ((mo_told (v2 v 203 0 0)) 230 ((c).toNat))), some (.inl (((mo_told (v2 v 203 0 0)) 230 ((c).toNat)) + 1))]) (st' := []) rfl ?_
    exact l_mo_lap_32 301 (mo_told (v2 v 203 0 0)) c ((mo_told (v2 v 203 0 0)) 230 ((c).toNat)) (((mo_told (v2 v 203 0 0)) 230 ((c).toNat)) + 1)  hX_5 (by first | assumption | omega | (unfold R32 at *; omega) | (unfold R64 at *; omega) | (simp only [R32, R64] at *; omega)) (show -1 ≤ ((mo_told (v2 v 203 0 0)) 230 ((c).toNat)) ∧ ((mo_told (v2 v 203 0 0)) 230 ((c).toNat)) < ((mo_told (v2 v 203 0 0)) 203 37) from (by first | assumption | omega | (unfold R32 at *; omega) | (unfold R64 at *; omega) | (simp only [R32, R64] at *; omega))) (by first | assumption | omega | (unfold R32 at *; omega) | (unfold R64 at *; omega) | (simp only [R32, R64] at *; omega)) (by first | assumption | omega | (unfold R32 at *; omega) | (unfold R64 at *; omega) | (simp only [R32, R64] at *; omega)) (by first | assumption | omega | (unfold R32 at *; omega) | (unfold R64 at *; omega) | (simp only [R32, R64] at *; omega)) hQ
  · show WV _ _ _ 11 _ _ _ _ _
    rw [if_neg h_8] at hQ
    refine r_ex 2 (pc' := 16) (lo' := [some (.inr (.inr (some 203))), some (.inl c), none, none]) (st' := [.inl (-2)]) rfl ?_
    refine r_ret (rr := some (.inl (-2))) (I := .ireturn) (pc0 := 16) (len := 1) rfl rfl ?_
    exact hQ hX_1 

theorem e_mo_lap {X : PX} {d b : Nat} {v : VS} {c : Int} (hX : XI v) (hp_a : R32 c) (hp_b : CF v) (hp_c : SM (mo_told (v2 v 203 0 0))) : EvV X (d + 1 + 1 + 1 + 1 + 1 + 1) 288 [.inr (.inr (some 203)), .inl c] b v (some (.inl (mo_lap v c).1)) b ((mo_lap v c).2) := EvV.of (w_mo_lap hX hp_a hp_b hp_c (fun _ => ⟨rfl, rfl, rfl⟩))

theorem i_mo_lap {v : VS} {c : Int} (hX : XI v) (hp_a : R32 c) (hp_b : CF v) (hp_c : SM (mo_told (v2 v 203 0 0))) : XI ((mo_lap v c).2) := by
  have q : WV (0, fun _ => 0, none) (0 + 1 + 1 + 1 + 1 + 1 + 1) 288 0 [some (.inr (.inr (some 203))), some (.inl c), none, none] [] 1 v (fun _ _ _ => XI ((mo_lap v c).2)) := w_mo_lap (X := (0, fun _ => 0, none)) (d := 0) (b := 1) hX hp_a hp_b hp_c (fun q => q)
  obtain ⟨_, _, _, _, _, _, _, q⟩ := q
  exact q

theorem o_mo_lap {rk : Nat} {v : VS} {c : Int} (hk : (rk < 203 ∨ 203 < rk) ∧ (rk < 219 ∨ 231 < rk)) : (mo_lap v c).2 rk = v rk := by
  unfold mo_lap
  by_cases hc_ : 0 ≤ c ∧ c < (v 210 0)
  · rw [if_pos hc_] <;> clear hc_
    all_goals (rw [o_mo_lap_32, o_mo_told (by omega), v2_row (by omega)])
  · rw [if_neg hc_] <;> clear hc_
    all_goals (show (v2 v 203 0 0) rk = _)
    all_goals (rw [v2_row (by omega)])

noncomputable def mo_gap_28 : Nat → VS → Int → Int → Int → Int → Int
  | 0, v, c, g, p, i => 0
  | f + 1, v, c, g, p, i => (if i < (v 203 37) then (if (mo_at v i 1) = c then (if p = (-1) then (mo_gap_28 f v c g (mo_at v i 0) (i + 1)) else (if g < ((mo_at v i 0) - p) then (mo_gap_28 f v c ((mo_at v i 0) - p) (mo_at v i 0) (i + 1)) else (mo_gap_28 f v c g (mo_at v i 0) (i + 1)))) else (mo_gap_28 f v c g p (i + 1))) else g)
noncomputable def mo_gap (v : VS) (c : Int) : Int × VS :=
  (if 0 ≤ c ∧ c < (v 210 0) then ((mo_gap_28 301 (mo_told (v2 v 203 0 0)) c (-1) (-1) 0), (mo_told (v2 v 203 0 0))) else ((-2), (v2 v 203 0 0)))
theorem l_mo_gap_28 {X : PX} {d b : Nat} {Q : Option PV → Nat → VS → Prop}  : ∀ (f : Nat) (v : VS) (c : Int) (g : Int) (p : Int) (i : Int), XI v → (R32 c) → (-1 ≤ g ∧ g ≤ 3700) → (-1 ≤ p ∧ p ≤ 3699) → (0 ≤ i ∧ i ≤ 300) → (300 < i + f) → (∀ qx3 : Option PV, ∀ qx4 : Option PV, (-1 ≤ (mo_gap_28 f v c g p i) ∧ (mo_gap_28 f v c g p i) ≤ 3700) → WV X (d + 1 + 1 + 1 + 1 + 1 + 1) 289 93 [some (.inr (.inr (some 203))), some (.inl c), some (.inl (mo_gap_28 f v c g p i)), qx3, qx4] [] b v Q) → WV X (d + 1 + 1 + 1 + 1 + 1 + 1) 289 28 [some (.inr (.inr (some 203))), some (.inl c), some (.inl g), some (.inl p), some (.inl i)] [] b v Q := by
  intro f
  induction f with
  | zero =>
    intro v c g p i hX hi_0 hi_1 hi_2 hi_3 hf hK
    exfalso
    omega
  | succ f ih =>
    intro v c g p i hX hi_0 hi_1 hi_2 hi_3 hf hK
    rw [mo_gap_28] at hK
    refine r_ex 3 (pc' := 34) (lo' := [some (.inr (.inr (some 203))), some (.inl c), some (.inl g), some (.inl p), some (.inl i)]) (st' := [.inl (v 203 37), .inl i]) rfl ?_
    have hb_6 : 0 ≤ (v 203 37) ∧ (v 203 37) ≤ 300 := hX 203 37
    refine n_ic_ge (pc0 := 34) (len := 3) (t := 93) rfl (by first | assumption | omega | (unfold R32 at *; omega) | (unfold R64 at *; omega) | (simp only [R32, R64] at *; omega)) (by first | assumption | omega | (unfold R32 at *; omega) | (unfold R64 at *; omega) | (simp only [R32, R64] at *; omega)) (fun h_34 => ?_) (fun h_34 => ?_)
    · show WV _ _ _ 93 _ _ _ _ _
      rw [if_neg h_34] at hK
      exact hK _ _  (by first | assumption | omega | (unfold R32 at *; omega) | (unfold R64 at *; omega) | (simp only [R32, R64] at *; omega))
    · show WV _ _ _ 37 _ _ _ _ _
      rw [if_pos h_34] at hK
      refine r_ex 3 (pc' := 41) (lo' := [some (.inr (.inr (some 203))), some (.inl c), some (.inl g), some (.inl p), some (.inl i)]) (st' := [.inl 1, .inl i, .inr (.inr (some 203))]) rfl ?_
      have hp_7 : 0 ≤ i ∧ i < 300 := (by first | assumption | omega | (unfold R32 at *; omega) | (unfold R64 at *; omega) | (simp only [R32, R64] at *; omega))
      have hp_8 : 0 ≤ (1 : Int) ∧ (1 : Int) < 5 := (by first | assumption | omega | (unfold R32 at *; omega) | (unfold R64 at *; omega) | (simp only [R32, R64] at *; omega))
      refine r_call (m := 254) (args := [.inr (.inr (some 203)), .inl i, .inl 1]) (n' := 289) (pc' := 44) (lo' := [some (.inr (.inr (some 203))), some (.inl c), some (.inl g), some (.inl p), some (.inl i)]) (st' := []) (I := .invokevirtual 254) (pc0 := 41) (len := 3) rfl rfl rfl (e_mo_at hX hp_7 hp_8) ?_
      show WV _ _ _ 44 _ [.inl (mo_at v i 1)] _ _ _
      have hb_9 := n_mo_at (v := v) (i := i) (w := 1) hX hp_7 hp_8
      refine r_ex 1 (pc' := 45) (lo' := [some (.inr (.inr (some 203))), some (.inl c), some (.inl g), some (.inl p), some (.inl i)]) (st' := [.inl c, .inl (mo_at v i 1)]) rfl ?_
      refine n_ic_eq (pc0 := 45) (len := 3) (t := 51) rfl (by first | assumption | omega | (unfold R32 at *; omega) | (unfold R64 at *; omega) | (simp only [R32, R64] at *; omega)) (by first | assumption | omega | (unfold R32 at *; omega) | (unfold R64 at *; omega) | (simp only [R32, R64] at *; omega)) (fun h_45 => ?_) (fun h_45 => ?_)
      · show WV _ _ _ 51 _ _ _ _ _
        rw [if_pos h_45] at hK
        refine r_ex 2 (pc' := 53) (lo' := [some (.inr (.inr (some 203))), some (.inl c), some (.inl g), some (.inl p), some (.inl i)]) (st' := [.inl (-1), .inl p]) rfl ?_
        refine n_ic_eq (pc0 := 53) (len := 3) (t := 79) rfl (by first | assumption | omega | (unfold R32 at *; omega) | (unfold R64 at *; omega) | (simp only [R32, R64] at *; omega)) (by first | assumption | omega | (unfold R32 at *; omega) | (unfold R64 at *; omega) | (simp only [R32, R64] at *; omega)) (fun h_53 => ?_) (fun h_53 => ?_)
        · show WV _ _ _ 79 _ _ _ _ _
          rw [if_pos h_53] at hK
          refine r_ex 3 (pc' := 83) (lo' := [some (.inr (.inr (some 203))), some (.inl c), some (.inl g), some (.inl p), some (.inl i)]) (st' := [.inl 0, .inl i, .inr (.inr (some 203))]) rfl ?_
          have hp_10 : 0 ≤ i ∧ i < 300 := (by first | assumption | omega | (unfold R32 at *; omega) | (unfold R64 at *; omega) | (simp only [R32, R64] at *; omega))
          have hp_11 : 0 ≤ (0 : Int) ∧ (0 : Int) < 5 := (by first | assumption | omega | (unfold R32 at *; omega) | (unfold R64 at *; omega) | (simp only [R32, R64] at *; omega))
          refine r_call (m := 254) (args := [.inr (.inr (some 203)), .inl i, .inl 0]) (n' := 289) (pc' := 86) (lo' := [some (.inr (.inr (some 203))), some (.inl c), some (.inl g), some (.inl p), some (.inl i)]) (st' := []) (I := .invokevirtual 254) (pc0 := 83) (len := 3) rfl rfl rfl (e_mo_at hX hp_10 hp_11) ?_
          show WV _ _ _ 86 _ [.inl (mo_at v i 0)] _ _ _
          have hb_12 := n_mo_at (v := v) (i := i) (w := 0) hX hp_10 hp_11
          refine r_ex 3 (pc' := 28) (lo' := [some (.inr (.inr (some 203))), some (.inl c), some (.inl g), some (.inl (mo_at v i 0)), some (.inl (i + 1))]) (st' := []) rfl ?_
          refine ih v c g (mo_at v i 0) (i + 1)  hX (by first | assumption | omega | (unfold R32 at *; omega) | (unfold R64 at *; omega) | (simp only [R32, R64] at *; omega)) (by first | assumption | omega | (unfold R32 at *; omega) | (unfold R64 at *; omega) | (simp only [R32, R64] at *; omega)) (by first | assumption | omega | (unfold R32 at *; omega) | (unfold R64 at *; omega) | (simp only [R32, R64] at *; omega)) (by first | assumption | omega | (unfold R32 at *; omega) | (unfold R64 at *; omega) | (simp only [R32, R64] at *; omega)) (by first | assumption | omega | (unfold R32 at *; omega) | (unfold R64 at *; omega) | (simp only [R32, R64] at *; omega)) hK
        · show WV _ _ _ 56 _ _ _ _ _
          rw [if_neg h_53] at hK
          refine r_ex 3 (pc' := 60) (lo' := [some (.inr (.inr (some 203))), some (.inl c), some (.inl g), some (.inl p), some (.inl i)]) (st' := [.inl 0, .inl i, .inr (.inr (some 203))]) rfl ?_
          have hp_13 : 0 ≤ i ∧ i < 300 := (by first | assumption | omega | (unfold R32 at *; omega) | (unfold R64 at *; omega) | (simp only [R32, R64] at *; omega))
          have hp_14 : 0 ≤ (0 : Int) ∧ (0 : Int) < 5 := (by first | assumption | omega | (unfold R32 at *; omega) | (unfold R64 at *; omega) | (simp only [R32, R64] at *; omega))
          refine r_call (m := 254) (args := [.inr (.inr (some 203)), .inl i, .inl 0]) (n' := 289) (pc' := 63) (lo' := [some (.inr (.inr (some 203))), some (.inl c), some (.inl g), some (.inl p), some (.inl i)]) (st' := []) (I := .invokevirtual 254) (pc0 := 60) (len := 3) rfl rfl rfl (e_mo_at hX hp_13 hp_14) ?_
          show WV _ _ _ 63 _ [.inl (mo_at v i 0)] _ _ _
          have hb_15 := n_mo_at (v := v) (i := i) (w := 0) hX hp_13 hp_14
          refine r_ex 3 (pc' := 66) (lo' := [some (.inr (.inr (some 203))), some (.inl c), some (.inl g), some (.inl p), some (.inl i)]) (st' := [.inl g, .inl ((mo_at v i 0) - p)]) rfl ?_
          refine n_ic_le (pc0 := 66) (len := 3) (t := 79) rfl (by first | assumption | omega | (unfold R32 at *; omega) | (unfold R64 at *; omega) | (simp only [R32, R64] at *; omega)) (by first | assumption | omega | (unfold R32 at *; omega) | (unfold R64 at *; omega) | (simp only [R32, R64] at *; omega)) (fun h_66 => ?_) (fun h_66 => ?_)
          · show WV _ _ _ 79 _ _ _ _ _
            rw [if_neg h_66] at hK
            refine r_ex 3 (pc' := 83) (lo' := [some (.inr (.inr (some 203))), some (.inl c), some (.inl g), some (.inl p), some (.inl i)]) (st' := [.inl 0, .inl i, .inr (.inr (some 203))]) rfl ?_
            have hp_16 : 0 ≤ i ∧ i < 300 := (by first | assumption | omega | (unfold R32 at *; omega) | (unfold R64 at *; omega) | (simp only [R32, R64] at *; omega))
            have hp_17 : 0 ≤ (0 : Int) ∧ (0 : Int) < 5 := (by first | assumption | omega | (unfold R32 at *; omega) | (unfold R64 at *; omega) | (simp only [R32, R64] at *; omega))
            refine r_call (m := 254) (args := [.inr (.inr (some 203)), .inl i, .inl 0]) (n' := 289) (pc' := 86) (lo' := [some (.inr (.inr (some 203))), some (.inl c), some (.inl g), some (.inl p), some (.inl i)]) (st' := []) (I := .invokevirtual 254) (pc0 := 83) (len := 3) rfl rfl rfl (e_mo_at hX hp_16 hp_17) ?_
            show WV _ _ _ 86 _ [.inl (mo_at v i 0)] _ _ _
            have hb_18 := n_mo_at (v := v) (i := i) (w := 0) hX hp_16 hp_17
            refine r_ex 3 (pc' := 28) (lo' := [some (.inr (.inr (some 203))), some (.inl c), some (.inl g), some (.inl (mo_at v i 0)), some (.inl (i + 1))]) (st' := []) rfl ?_
            refine ih v c g (mo_at v i 0) (i + 1)  hX (by first | assumption | omega | (unfold R32 at *; omega) | (unfold R64 at *; omega) | (simp only [R32, R64] at *; omega)) (by first | assumption | omega | (unfold R32 at *; omega) | (unfold R64 at *; omega) | (simp only [R32, R64] at *; omega)) (by first | assumption | omega | (unfold R32 at *; omega) | (unfold R64 at *; omega) | (simp only [R32, R64] at *; omega)) (by first | assumption | omega | (unfold R32 at *; omega) | (unfold R64 at *; omega) | (simp only [R32, R64] at *; omega)) (by first | assumption | omega | (unfold R32 at *; omega) | (unfold R64 at *; omega) | (simp only [R32, R64] at *; omega)) hK
          · show WV _ _ _ 69 _ _ _ _ _
            rw [if_pos h_66] at hK
            refine r_ex 3 (pc' := 73) (lo' := [some (.inr (.inr (some 203))), some (.inl c), some (.inl g), some (.inl p), some (.inl i)]) (st' := [.inl 0, .inl i, .inr (.inr (some 203))]) rfl ?_
            have hp_19 : 0 ≤ i ∧ i < 300 := (by first | assumption | omega | (unfold R32 at *; omega) | (unfold R64 at *; omega) | (simp only [R32, R64] at *; omega))
            have hp_20 : 0 ≤ (0 : Int) ∧ (0 : Int) < 5 := (by first | assumption | omega | (unfold R32 at *; omega) | (unfold R64 at *; omega) | (simp only [R32, R64] at *; omega))
            refine r_call (m := 254) (args := [.inr (.inr (some 203)), .inl i, .inl 0]) (n' := 289) (pc' := 76) (lo' := [some (.inr (.inr (some 203))), some (.inl c), some (.inl g), some (.inl p), some (.inl i)]) (st' := []) (I := .invokevirtual 254) (pc0 := 73) (len := 3) rfl rfl rfl (e_mo_at hX hp_19 hp_20) ?_
            show WV _ _ _ 76 _ [.inl (mo_at v i 0)] _ _ _
            have hb_21 := n_mo_at (v := v) (i := i) (w := 0) hX hp_19 hp_20
            refine r_ex 6 (pc' := 83) (lo' := [some (.inr (.inr (some 203))), some (.inl c), some (.inl ((mo_at v i 0) - p)), some (.inl p), some (.inl i)]) (st' := [.inl 0, .inl i, .inr (.inr (some 203))]) rfl ?_
            have hp_22 : 0 ≤ i ∧ i < 300 := (by first | assumption | omega | (unfold R32 at *; omega) | (unfold R64 at *; omega) | (simp only [R32, R64] at *; omega))
            have hp_23 : 0 ≤ (0 : Int) ∧ (0 : Int) < 5 := (by first | assumption | omega | (unfold R32 at *; omega) | (unfold R64 at *; omega) | (simp only [R32, R64] at *; omega))
            refine r_call (m := 254) (args := [.inr (.inr (some 203)), .inl i, .inl 0]) (n' := 289) (pc' := 86) (lo' := [some (.inr (.inr (some 203))), some (.inl c), some (.inl ((mo_at v i 0) - p)), some (.inl p), some (.inl i)]) (st' := []) (I := .invokevirtual 254) (pc0 := 83) (len := 3) rfl rfl rfl (e_mo_at hX hp_22 hp_23) ?_
            show WV _ _ _ 86 _ [.inl (mo_at v i 0)] _ _ _
            have hb_24 := n_mo_at (v := v) (i := i) (w := 0) hX hp_22 hp_23
            refine r_ex 3 (pc' := 28) (lo' := [some (.inr (.inr (some 203))), some (.inl c), some (.inl ((mo_at v i 0) - p)), some (.inl (mo_at v i 0)), some (.inl (i + 1))]) (st' := []) rfl ?_
            refine ih v c ((mo_at v i 0) - p) (mo_at v i 0) (i + 1)  hX (by first | assumption | omega | (unfold R32 at *; omega) | (unfold R64 at *; omega) | (simp only [R32, R64] at *; omega)) (by first | assumption | omega | (unfold R32 at *; omega) | (unfold R64 at *; omega) | (simp only [R32, R64] at *; omega)) (by first | assumption | omega | (unfold R32 at *; omega) | (unfold R64 at *; omega) | (simp only [R32, R64] at *; omega)) (by first | assumption | omega | (unfold R32 at *; omega) | (unfold R64 at *; omega) | (simp only [R32, R64] at *; omega)) (by first | assumption | omega | (unfold R32 at *; omega) | (unfold R64 at *; omega) | (simp only [R32, R64] at *; omega)) hK
      · show WV _ _ _ 48 _ _ _ _ _
        rw [if_neg h_45] at hK
        refine r_ex 3 (pc' := 28) (lo' := [some (.inr (.inr (some 203))), some (.inl c), some (.inl g), some (.inl p), some (.inl (i + 1))]) (st' := []) rfl ?_
        refine ih v c g p (i + 1)  hX (by first | assumption | omega | (unfold R32 at *; omega) | (unfold R64 at *; omega) | (simp only [R32, R64] at *; omega)) (by first | assumption | omega | (unfold R32 at *; omega) | (unfold R64 at *; omega) | (simp only [R32, R64] at *; omega)) (by first | assumption | omega | (unfold R32 at *; omega) | (unfold R64 at *; omega) | (simp only [R32, R64] at *; omega)) (by first | assumption | omega | (unfold R32 at *; omega) | (unfold R64 at *; omega) | (simp only [R32, R64] at *; omega)) (by first | assumption | omega | (unfold R32 at *; omega) | (unfold R64 at *; omega) | (simp only [R32, R64] at *; omega)) hK

theorem w_mo_gap {X : PX} {d b : Nat} {v : VS} {c : Int} (hX : XI v) (hp_a : R32 c) (hp_b : CF v) {Q : Option PV → Nat → VS → Prop} (hQ : XI (mo_gap v c).2 → Q (some (.inl (mo_gap v c).1)) b (mo_gap v c).2) : WV X (d + 1 + 1 + 1 + 1 + 1 + 1) 289 0 [some (.inr (.inr (some 203))), some (.inl c), none, none, none] [] b v Q := by
  rw [mo_gap] at hQ
  refine r_ex 2 (pc' := 2) (lo' := [some (.inr (.inr (some 203))), some (.inl c), none, none, none]) (st' := [.inl 0, .inr (.inr (some 203))]) rfl ?_
  refine r_puti2 (j := 0) (pc' := 5) (pc0 := 2) (len := 3) rfl (s_203 _) rfl rfl rfl (Or.inl rfl) rfl rfl ?_
  have hX_1 : XI (v2 v 203 0 0) := XI.put hX trivial
  refine r_ex 2 (pc' := 7) (lo' := [some (.inr (.inr (some 203))), some (.inl c), none, none, none]) (st' := [.inl c, .inr (.inr (some 203))]) rfl ?_
  refine n_i2l (pc' := 8) (pc0 := 7) (len := 1) rfl (by first | assumption | omega | (unfold R32 at *; omega) | (unfold R64 at *; omega) | (simp only [R32, R64] at *; omega)) rfl ?_
  have hp_2 : R64 c := (by first | assumption | omega | (unfold R32 at *; omega) | (unfold R64 at *; omega) | (simp only [R32, R64] at *; omega))
  have hb_3 : 0 ≤ (v 210 0) ∧ (v 210 0) ≤ 9 := hX_1 210 0
  refine r_callb (P := 0 ≤ c ∧ c < (v 210 0)) (m := 236) (args := [.inr (.inr (some 203)), .inr (.inl c)]) (n' := 289) (pc' := 11) (lo' := [some (.inr (.inr (some 203))), some (.inl c), none, none, none]) (st' := []) (I := .invokevirtual 236) (pc0 := 8) (len := 3) rfl rfl rfl (e_mo_isChurch hX_1 hp_2) (fun h_8 => ?_) (fun h_8 => ?_)
  · show WV _ _ _ 11 _ _ _ _ _
    rw [if_pos h_8] at hQ
    refine r_ex 2 (pc' := 18) (lo' := [some (.inr (.inr (some 203))), some (.inl c), none, none, none]) (st' := [.inr (.inr (some 203))]) rfl ?_
    have hp_4 : CF (v2 v 203 0 0) := show CF (v2 v 203 0 0) from (show CF (v2 v 203 0 0) from CF.of hp_b (fun k h1 h2 => by rw [v2_row (by omega)]))
    refine r_call (m := 246) (args := [.inr (.inr (some 203))]) (n' := 289) (pc' := 21) (lo' := [some (.inr (.inr (some 203))), some (.inl c), none, none, none]) (st' := []) (I := .invokevirtual 246) (pc0 := 18) (len := 3) rfl rfl rfl (e_mo_told hX_1 hp_4) ?_
    show WV _ _ _ 21 _ [] _ (mo_told (v2 v 203 0 0)) _
    have hX_5 : XI (mo_told (v2 v 203 0 0)) := i_mo_told (v := (v2 v 203 0 0)) hX_1 hp_4
    refine r_ex 6 (pc' := 28) (lo' := [some (.inr (.inr (some 203))), some (.inl c), some (.inl (-1)), some (.inl (-1)), some (.inl 0)]) (st' := []) rfl ?_
    refine l_mo_gap_28 301 (mo_told (v2 v 203 0 0)) c (-1) (-1) 0  hX_5 (by first | assumption | omega | (unfold R32 at *; omega) | (unfold R64 at *; omega) | (simp only [R32, R64] at *; omega)) (by first | assumption | omega | (unfold R32 at *; omega) | (unfold R64 at *; omega) | (simp only [R32, R64] at *; omega)) (by first | assumption | omega | (unfold R32 at *; omega) | (unfold R64 at *; omega) | (simp only [R32, R64] at *; omega)) (by first | assumption | omega | (unfold R32 at *; omega) | (unfold R64 at *; omega) | (simp only [R32, R64] at *; omega)) (by first | assumption | omega | (unfold R32 at *; omega) | (unfold R64 at *; omega) | (simp only [R32, R64] at *; omega)) (fun o3_25 o4_25  hv_25_0 => ?_)
    show WV _ _ _ 93 _ _ _ _ _
    refine r_ex 1 (pc' := 94) (lo' := [some (.inr (.inr (some 203))), some (.inl c), some (.inl (mo_gap_28 301 (mo_told (v2 v 203 0 0)) c (-1) (-1) 0)), o3_25, o4_25]) (st' := [.inl (mo_gap_28 301 (mo_told (v2 v 203 0 0)) c (-1) (-1) 0)]) rfl ?_
    refine r_ret (rr := some (.inl (mo_gap_28 301 (mo_told (v2 v 203 0 0)) c (-1) (-1) 0))) (I := .ireturn) (pc0 := 94) (len := 1) rfl rfl ?_
    exact hQ hX_5 
  · show WV _ _ _ 11 _ _ _ _ _
    rw [if_neg h_8] at hQ
    refine r_ex 2 (pc' := 16) (lo' := [some (.inr (.inr (some 203))), some (.inl c), none, none, none]) (st' := [.inl (-2)]) rfl ?_
    refine r_ret (rr := some (.inl (-2))) (I := .ireturn) (pc0 := 16) (len := 1) rfl rfl ?_
    exact hQ hX_1 

theorem e_mo_gap {X : PX} {d b : Nat} {v : VS} {c : Int} (hX : XI v) (hp_a : R32 c) (hp_b : CF v) : EvV X (d + 1 + 1 + 1 + 1 + 1 + 1) 289 [.inr (.inr (some 203)), .inl c] b v (some (.inl (mo_gap v c).1)) b ((mo_gap v c).2) := EvV.of (w_mo_gap hX hp_a hp_b (fun _ => ⟨rfl, rfl, rfl⟩))

theorem i_mo_gap {v : VS} {c : Int} (hX : XI v) (hp_a : R32 c) (hp_b : CF v) : XI ((mo_gap v c).2) := by
  have q : WV (0, fun _ => 0, none) (0 + 1 + 1 + 1 + 1 + 1 + 1) 289 0 [some (.inr (.inr (some 203))), some (.inl c), none, none, none] [] 1 v (fun _ _ _ => XI ((mo_gap v c).2)) := w_mo_gap (X := (0, fun _ => 0, none)) (d := 0) (b := 1) hX hp_a hp_b (fun q => q)
  obtain ⟨_, _, _, _, _, _, _, q⟩ := q
  exact q

theorem o_mo_gap {rk : Nat} {v : VS} {c : Int} (hk : (rk < 203 ∨ 203 < rk) ∧ (rk < 219 ∨ 231 < rk)) : (mo_gap v c).2 rk = v rk := by
  unfold mo_gap
  by_cases hc_ : 0 ≤ c ∧ c < (v 210 0)
  · rw [if_pos hc_] <;> clear hc_
    all_goals (show (mo_told (v2 v 203 0 0)) rk = _)
    all_goals (rw [o_mo_told (by omega), v2_row (by omega)])
  · rw [if_neg hc_] <;> clear hc_
    all_goals (show (v2 v 203 0 0) rk = _)
    all_goals (rw [v2_row (by omega)])

noncomputable def mo_waits_32 : Nat → VS → Int → Int → Int → Int × VS
  | 0, v, c, t, s => (0, v)
  | f + 1, v, c, t, s => (if s < (v 203 37) then (if (mo_at v s 1) = c then (if (mo_at v s 0) < t then (mo_waits_32 f v c t (s + 1)) else (((mo_at v s 0) - t), v)) else (mo_waits_32 f v c t (s + 1))) else ((-1), v))
noncomputable def mo_waits (v : VS) (c : Int) (t : Int) : Int × VS :=
  (if 0 ≤ c ∧ c < (v 210 0) then (if 0 ≤ t ∧ t < (v 210 1) then (mo_waits_32 301 (mo_told (v2 v 203 0 0)) c t 0) else ((-2), (v2 v 203 0 0))) else ((-2), (v2 v 203 0 0)))
theorem l_mo_waits_32 {X : PX} {d b : Nat} {Q : Option PV → Nat → VS → Prop}  : ∀ (f : Nat) (v : VS) (c : Int) (t : Int) (s : Int), XI v → (R32 c) → (0 ≤ t ∧ t ≤ 300) → (0 ≤ s ∧ s ≤ 300) → (300 < s + f) → (XI (mo_waits_32 f v c t s).2 → Q (some (.inl (mo_waits_32 f v c t s).1)) b (mo_waits_32 f v c t s).2) → WV X (d + 1 + 1 + 1 + 1 + 1 + 1) 290 32 [some (.inr (.inr (some 203))), some (.inl c), some (.inl t), some (.inl s)] [] b v Q := by
  intro f
  induction f with
  | zero =>
    intro v c t s hX hi_0 hi_1 hi_2 hf hQ
    exfalso
    omega
  | succ f ih =>
    intro v c t s hX hi_0 hi_1 hi_2 hf hQ
    rw [mo_waits_32] at hQ
    refine r_ex 3 (pc' := 37) (lo' := [some (.inr (.inr (some 203))), some (.inl c), some (.inl t), some (.inl s)]) (st' := [.inl (v 203 37), .inl s]) rfl ?_
    have hb_8 : 0 ≤ (v 203 37) ∧ (v 203 37) ≤ 300 := hX 203 37
    refine n_ic_ge (pc0 := 37) (len := 3) (t := 75) rfl (by first | assumption | omega | (unfold R32 at *; omega) | (unfold R64 at *; omega) | (simp only [R32, R64] at *; omega)) (by first | assumption | omega | (unfold R32 at *; omega) | (unfold R64 at *; omega) | (simp only [R32, R64] at *; omega)) (fun h_37 => ?_) (fun h_37 => ?_)
    · show WV _ _ _ 75 _ _ _ _ _
      rw [if_neg h_37] at hQ
      refine r_ex 1 (pc' := 76) (lo' := [some (.inr (.inr (some 203))), some (.inl c), some (.inl t), some (.inl s)]) (st' := [.inl (-1)]) rfl ?_
      refine r_ret (rr := some (.inl (-1))) (I := .ireturn) (pc0 := 76) (len := 1) rfl rfl ?_
      exact hQ hX 
    · show WV _ _ _ 40 _ _ _ _ _
      rw [if_pos h_37] at hQ
      refine r_ex 3 (pc' := 43) (lo' := [some (.inr (.inr (some 203))), some (.inl c), some (.inl t), some (.inl s)]) (st' := [.inl 1, .inl s, .inr (.inr (some 203))]) rfl ?_
      have hp_9 : 0 ≤ s ∧ s < 300 := (by first | assumption | omega | (unfold R32 at *; omega) | (unfold R64 at *; omega) | (simp only [R32, R64] at *; omega))
      have hp_10 : 0 ≤ (1 : Int) ∧ (1 : Int) < 5 := (by first | assumption | omega | (unfold R32 at *; omega) | (unfold R64 at *; omega) | (simp only [R32, R64] at *; omega))
      refine r_call (m := 254) (args := [.inr (.inr (some 203)), .inl s, .inl 1]) (n' := 290) (pc' := 46) (lo' := [some (.inr (.inr (some 203))), some (.inl c), some (.inl t), some (.inl s)]) (st' := []) (I := .invokevirtual 254) (pc0 := 43) (len := 3) rfl rfl rfl (e_mo_at hX hp_9 hp_10) ?_
      show WV _ _ _ 46 _ [.inl (mo_at v s 1)] _ _ _
      have hb_11 := n_mo_at (v := v) (i := s) (w := 1) hX hp_9 hp_10
      refine r_ex 1 (pc' := 47) (lo' := [some (.inr (.inr (some 203))), some (.inl c), some (.inl t), some (.inl s)]) (st' := [.inl c, .inl (mo_at v s 1)]) rfl ?_
      refine n_ic_ne (pc0 := 47) (len := 3) (t := 69) rfl (by first | assumption | omega | (unfold R32 at *; omega) | (unfold R64 at *; omega) | (simp only [R32, R64] at *; omega)) (by first | assumption | omega | (unfold R32 at *; omega) | (unfold R64 at *; omega) | (simp only [R32, R64] at *; omega)) (fun h_47 => ?_) (fun h_47 => ?_)
      · show WV _ _ _ 69 _ _ _ _ _
        rw [if_neg h_47] at hQ
        refine r_ex 2 (pc' := 32) (lo' := [some (.inr (.inr (some 203))), some (.inl c), some (.inl t), some (.inl (s + 1))]) (st' := []) rfl ?_
        refine ih v c t (s + 1)  hX (by first | assumption | omega | (unfold R32 at *; omega) | (unfold R64 at *; omega) | (simp only [R32, R64] at *; omega)) (by first | assumption | omega | (unfold R32 at *; omega) | (unfold R64 at *; omega) | (simp only [R32, R64] at *; omega)) (by first | assumption | omega | (unfold R32 at *; omega) | (unfold R64 at *; omega) | (simp only [R32, R64] at *; omega)) (by first | assumption | omega | (unfold R32 at *; omega) | (unfold R64 at *; omega) | (simp only [R32, R64] at *; omega)) hQ
      · show WV _ _ _ 50 _ _ _ _ _
        rw [if_pos h_47] at hQ
        refine r_ex 3 (pc' := 53) (lo' := [some (.inr (.inr (some 203))), some (.inl c), some (.inl t), some (.inl s)]) (st' := [.inl 0, .inl s, .inr (.inr (some 203))]) rfl ?_
        have hp_12 : 0 ≤ s ∧ s < 300 := (by first | assumption | omega | (unfold R32 at *; omega) | (unfold R64 at *; omega) | (simp only [R32, R64] at *; omega))
        have hp_13 : 0 ≤ (0 : Int) ∧ (0 : Int) < 5 := (by first | assumption | omega | (unfold R32 at *; omega) | (unfold R64 at *; omega) | (simp only [R32, R64] at *; omega))
        refine r_call (m := 254) (args := [.inr (.inr (some 203)), .inl s, .inl 0]) (n' := 290) (pc' := 56) (lo' := [some (.inr (.inr (some 203))), some (.inl c), some (.inl t), some (.inl s)]) (st' := []) (I := .invokevirtual 254) (pc0 := 53) (len := 3) rfl rfl rfl (e_mo_at hX hp_12 hp_13) ?_
        show WV _ _ _ 56 _ [.inl (mo_at v s 0)] _ _ _
        have hb_14 := n_mo_at (v := v) (i := s) (w := 0) hX hp_12 hp_13
        refine r_ex 1 (pc' := 57) (lo' := [some (.inr (.inr (some 203))), some (.inl c), some (.inl t), some (.inl s)]) (st' := [.inl t, .inl (mo_at v s 0)]) rfl ?_
        refine n_ic_lt (pc0 := 57) (len := 3) (t := 69) rfl (by first | assumption | omega | (unfold R32 at *; omega) | (unfold R64 at *; omega) | (simp only [R32, R64] at *; omega)) (by first | assumption | omega | (unfold R32 at *; omega) | (unfold R64 at *; omega) | (simp only [R32, R64] at *; omega)) (fun h_57 => ?_) (fun h_57 => ?_)
        · show WV _ _ _ 69 _ _ _ _ _
          rw [if_pos h_57] at hQ
          refine r_ex 2 (pc' := 32) (lo' := [some (.inr (.inr (some 203))), some (.inl c), some (.inl t), some (.inl (s + 1))]) (st' := []) rfl ?_
          refine ih v c t (s + 1)  hX (by first | assumption | omega | (unfold R32 at *; omega) | (unfold R64 at *; omega) | (simp only [R32, R64] at *; omega)) (by first | assumption | omega | (unfold R32 at *; omega) | (unfold R64 at *; omega) | (simp only [R32, R64] at *; omega)) (by first | assumption | omega | (unfold R32 at *; omega) | (unfold R64 at *; omega) | (simp only [R32, R64] at *; omega)) (by first | assumption | omega | (unfold R32 at *; omega) | (unfold R64 at *; omega) | (simp only [R32, R64] at *; omega)) hQ
        · show WV _ _ _ 60 _ _ _ _ _
          rw [if_neg h_57] at hQ
          refine r_ex 3 (pc' := 63) (lo' := [some (.inr (.inr (some 203))), some (.inl c), some (.inl t), some (.inl s)]) (st' := [.inl 0, .inl s, .inr (.inr (some 203))]) rfl ?_
          have hp_15 : 0 ≤ s ∧ s < 300 := (by first | assumption | omega | (unfold R32 at *; omega) | (unfold R64 at *; omega) | (simp only [R32, R64] at *; omega))
          have hp_16 : 0 ≤ (0 : Int) ∧ (0 : Int) < 5 := (by first | assumption | omega | (unfold R32 at *; omega) | (unfold R64 at *; omega) | (simp only [R32, R64] at *; omega))
          refine r_call (m := 254) (args := [.inr (.inr (some 203)), .inl s, .inl 0]) (n' := 290) (pc' := 66) (lo' := [some (.inr (.inr (some 203))), some (.inl c), some (.inl t), some (.inl s)]) (st' := []) (I := .invokevirtual 254) (pc0 := 63) (len := 3) rfl rfl rfl (e_mo_at hX hp_15 hp_16) ?_
          show WV _ _ _ 66 _ [.inl (mo_at v s 0)] _ _ _
          have hb_17 := n_mo_at (v := v) (i := s) (w := 0) hX hp_15 hp_16
          refine r_ex 2 (pc' := 68) (lo' := [some (.inr (.inr (some 203))), some (.inl c), some (.inl t), some (.inl s)]) (st' := [.inl ((mo_at v s 0) - t)]) rfl ?_
          refine r_ret (rr := some (.inl ((mo_at v s 0) - t))) (I := .ireturn) (pc0 := 68) (len := 1) rfl rfl ?_
          exact hQ hX 

theorem of_mo_waits_32 {rk : Nat}  : ∀ (f : Nat) {v : VS} {c : Int} {t : Int} {s : Int}, (mo_waits_32 f v c t s).2 rk = v rk := by
  intro f
  induction f with
  | zero => intro v c t s; rfl
  | succ f ih =>
    intro v c t s
    rw [mo_waits_32]
    by_cases hc_ : s < (v 203 37)
    · rw [if_pos hc_] <;> clear hc_
      by_cases hc_ : (mo_at v s 1) = c
      · rw [if_pos hc_] <;> clear hc_
        by_cases hc_ : (mo_at v s 0) < t
        · rw [if_pos hc_] <;> clear hc_
          all_goals (rw [ih])
        · rw [if_neg hc_] <;> clear hc_
          all_goals (show v rk = _)
          all_goals rfl
      · rw [if_neg hc_] <;> clear hc_
        all_goals (rw [ih])
    · rw [if_neg hc_] <;> clear hc_
      all_goals (show v rk = _)
      all_goals rfl
theorem o_mo_waits_32 {rk : Nat} {f : Nat} {v : VS} {c : Int} {t : Int} {s : Int}  : (mo_waits_32 f v c t s).2 rk = v rk := of_mo_waits_32  f

theorem w_mo_waits {X : PX} {d b : Nat} {v : VS} {c : Int} {t : Int} (hX : XI v) (hp_a : R32 c) (hp_b : R32 t) (hp_c : CF v) {Q : Option PV → Nat → VS → Prop} (hQ : XI (mo_waits v c t).2 → Q (some (.inl (mo_waits v c t).1)) b (mo_waits v c t).2) : WV X (d + 1 + 1 + 1 + 1 + 1 + 1) 290 0 [some (.inr (.inr (some 203))), some (.inl c), some (.inl t), none] [] b v Q := by
  rw [mo_waits] at hQ
  refine r_ex 2 (pc' := 2) (lo' := [some (.inr (.inr (some 203))), some (.inl c), some (.inl t), none]) (st' := [.inl 0, .inr (.inr (some 203))]) rfl ?_
  refine r_puti2 (j := 0) (pc' := 5) (pc0 := 2) (len := 3) rfl (s_203 _) rfl rfl rfl (Or.inl rfl) rfl rfl ?_
  have hX_1 : XI (v2 v 203 0 0) := XI.put hX trivial
  refine r_ex 2 (pc' := 7) (lo' := [some (.inr (.inr (some 203))), some (.inl c), some (.inl t), none]) (st' := [.inl c, .inr (.inr (some 203))]) rfl ?_
  refine n_i2l (pc' := 8) (pc0 := 7) (len := 1) rfl (by first | assumption | omega | (unfold R32 at *; omega) | (unfold R64 at *; omega) | (simp only [R32, R64] at *; omega)) rfl ?_
  have hp_2 : R64 c := (by first | assumption | omega | (unfold R32 at *; omega) | (unfold R64 at *; omega) | (simp only [R32, R64] at *; omega))
  have hb_3 : 0 ≤ (v 210 0) ∧ (v 210 0) ≤ 9 := hX_1 210 0
  refine r_callb (P := 0 ≤ c ∧ c < (v 210 0)) (m := 236) (args := [.inr (.inr (some 203)), .inr (.inl c)]) (n' := 290) (pc' := 11) (lo' := [some (.inr (.inr (some 203))), some (.inl c), some (.inl t), none]) (st' := []) (I := .invokevirtual 236) (pc0 := 8) (len := 3) rfl rfl rfl (e_mo_isChurch hX_1 hp_2) (fun h_8 => ?_) (fun h_8 => ?_)
  · show WV _ _ _ 11 _ _ _ _ _
    rw [if_pos h_8] at hQ
    refine r_ex 3 (pc' := 16) (lo' := [some (.inr (.inr (some 203))), some (.inl c), some (.inl t), none]) (st' := [.inl t, .inr (.inr (some 203))]) rfl ?_
    refine n_i2l (pc' := 17) (pc0 := 16) (len := 1) rfl (by first | assumption | omega | (unfold R32 at *; omega) | (unfold R64 at *; omega) | (simp only [R32, R64] at *; omega)) rfl ?_
    have hp_4 : R64 t := (by first | assumption | omega | (unfold R32 at *; omega) | (unfold R64 at *; omega) | (simp only [R32, R64] at *; omega))
    have hb_5 : 0 ≤ (v 210 1) ∧ (v 210 1) ≤ 300 := hX_1 210 1
    refine r_callb (P := 0 ≤ t ∧ t < (v 210 1)) (m := 240) (args := [.inr (.inr (some 203)), .inr (.inl t)]) (n' := 290) (pc' := 20) (lo' := [some (.inr (.inr (some 203))), some (.inl c), some (.inl t), none]) (st' := []) (I := .invokevirtual 240) (pc0 := 17) (len := 3) rfl rfl rfl (e_mo_isSecond hX_1 hp_4) (fun h_17 => ?_) (fun h_17 => ?_)
    · show WV _ _ _ 20 _ _ _ _ _
      rw [if_pos h_17] at hQ
      refine r_ex 2 (pc' := 27) (lo' := [some (.inr (.inr (some 203))), some (.inl c), some (.inl t), none]) (st' := [.inr (.inr (some 203))]) rfl ?_
      have hp_6 : CF (v2 v 203 0 0) := show CF (v2 v 203 0 0) from (show CF (v2 v 203 0 0) from CF.of hp_c (fun k h1 h2 => by rw [v2_row (by omega)]))
      refine r_call (m := 246) (args := [.inr (.inr (some 203))]) (n' := 290) (pc' := 30) (lo' := [some (.inr (.inr (some 203))), some (.inl c), some (.inl t), none]) (st' := []) (I := .invokevirtual 246) (pc0 := 27) (len := 3) rfl rfl rfl (e_mo_told hX_1 hp_6) ?_
      show WV _ _ _ 30 _ [] _ (mo_told (v2 v 203 0 0)) _
      have hX_7 : XI (mo_told (v2 v 203 0 0)) := i_mo_told (v := (v2 v 203 0 0)) hX_1 hp_6
      refine r_ex 2 (pc' := 32) (lo' := [some (.inr (.inr (some 203))), some (.inl c), some (.inl t), some (.inl 0)]) (st' := []) rfl ?_
      exact l_mo_waits_32 301 (mo_told (v2 v 203 0 0)) c t 0  hX_7 (by first | assumption | omega | (unfold R32 at *; omega) | (unfold R64 at *; omega) | (simp only [R32, R64] at *; omega)) (by first | assumption | omega | (unfold R32 at *; omega) | (unfold R64 at *; omega) | (simp only [R32, R64] at *; omega)) (by first | assumption | omega | (unfold R32 at *; omega) | (unfold R64 at *; omega) | (simp only [R32, R64] at *; omega)) (by first | assumption | omega | (unfold R32 at *; omega) | (unfold R64 at *; omega) | (simp only [R32, R64] at *; omega)) hQ
    · show WV _ _ _ 20 _ _ _ _ _
      rw [if_neg h_17] at hQ
      refine r_ex 2 (pc' := 25) (lo' := [some (.inr (.inr (some 203))), some (.inl c), some (.inl t), none]) (st' := [.inl (-2)]) rfl ?_
      refine r_ret (rr := some (.inl (-2))) (I := .ireturn) (pc0 := 25) (len := 1) rfl rfl ?_
      exact hQ hX_1 
  · show WV _ _ _ 11 _ _ _ _ _
    rw [if_neg h_8] at hQ
    refine r_ex 2 (pc' := 25) (lo' := [some (.inr (.inr (some 203))), some (.inl c), some (.inl t), none]) (st' := [.inl (-2)]) rfl ?_
    refine r_ret (rr := some (.inl (-2))) (I := .ireturn) (pc0 := 25) (len := 1) rfl rfl ?_
    exact hQ hX_1 

theorem e_mo_waits {X : PX} {d b : Nat} {v : VS} {c : Int} {t : Int} (hX : XI v) (hp_a : R32 c) (hp_b : R32 t) (hp_c : CF v) : EvV X (d + 1 + 1 + 1 + 1 + 1 + 1) 290 [.inr (.inr (some 203)), .inl c, .inl t] b v (some (.inl (mo_waits v c t).1)) b ((mo_waits v c t).2) := EvV.of (w_mo_waits hX hp_a hp_b hp_c (fun _ => ⟨rfl, rfl, rfl⟩))

theorem i_mo_waits {v : VS} {c : Int} {t : Int} (hX : XI v) (hp_a : R32 c) (hp_b : R32 t) (hp_c : CF v) : XI ((mo_waits v c t).2) := by
  have q : WV (0, fun _ => 0, none) (0 + 1 + 1 + 1 + 1 + 1 + 1) 290 0 [some (.inr (.inr (some 203))), some (.inl c), some (.inl t), none] [] 1 v (fun _ _ _ => XI ((mo_waits v c t).2)) := w_mo_waits (X := (0, fun _ => 0, none)) (d := 0) (b := 1) hX hp_a hp_b hp_c (fun q => q)
  obtain ⟨_, _, _, _, _, _, _, q⟩ := q
  exact q

theorem o_mo_waits {rk : Nat} {v : VS} {c : Int} {t : Int} (hk : (rk < 203 ∨ 203 < rk) ∧ (rk < 219 ∨ 231 < rk)) : (mo_waits v c t).2 rk = v rk := by
  unfold mo_waits
  by_cases hc_ : 0 ≤ c ∧ c < (v 210 0)
  · rw [if_pos hc_] <;> clear hc_
    by_cases hc_ : 0 ≤ t ∧ t < (v 210 1)
    · rw [if_pos hc_] <;> clear hc_
      all_goals (rw [o_mo_waits_32, o_mo_told (by omega), v2_row (by omega)])
    · rw [if_neg hc_] <;> clear hc_
      all_goals (show (v2 v 203 0 0) rk = _)
      all_goals (rw [v2_row (by omega)])
  · rw [if_neg hc_] <;> clear hc_
    all_goals (show (v2 v 203 0 0) rk = _)
    all_goals (rw [v2_row (by omega)])

noncomputable def mo_rank_37 : Nat → VS → Int → Int → Int → Int
  | 0, v, c, n, o => 0
  | f + 1, v, c, n, o => (if o < (v 210 0) then (if (v 230 ((o).toNat)) = (-1) then (mo_rank_37 f v c (n + 0) (o + 1)) else (if (mo_firstAt v o) < (mo_firstAt v c) then (mo_rank_37 f v c (n + 1) (o + 1)) else (if (mo_firstAt v o) = (mo_firstAt v c) then (if o < c then (mo_rank_37 f v c (n + 1) (o + 1)) else (mo_rank_37 f v c (n + 0) (o + 1))) else (mo_rank_37 f v c (n + 0) (o + 1))))) else n)
noncomputable def mo_rank (v : VS) (c : Int) : Int × VS :=
  (if 0 ≤ c ∧ c < (v 210 0) then (if ((mo_told (v2 v 203 0 0)) 230 ((c).toNat)) = (-1) then ((-1), (mo_told (v2 v 203 0 0))) else ((mo_rank_37 10 (mo_told (v2 v 203 0 0)) c 0 0), (mo_told (v2 v 203 0 0)))) else ((-2), (v2 v 203 0 0)))
theorem l_mo_rank_37 {X : PX} {d b : Nat} {Q : Option PV → Nat → VS → Prop}  : ∀ (f : Nat) (v : VS) (c : Int) (n : Int) (o : Int), XI v → (0 ≤ c ∧ c ≤ 8) → (0 ≤ n ∧ n ≤ o) → (0 ≤ o ∧ o ≤ 9) → (9 < o + f) → (∀ qx3 : Option PV, (0 ≤ (mo_rank_37 f v c n o) ∧ (mo_rank_37 f v c n o) ≤ 9) → WV X (d + 1 + 1 + 1 + 1 + 1 + 1) 291 102 [some (.inr (.inr (some 203))), some (.inl c), some (.inl (mo_rank_37 f v c n o)), qx3] [] b v Q) → WV X (d + 1 + 1 + 1 + 1 + 1 + 1) 291 37 [some (.inr (.inr (some 203))), some (.inl c), some (.inl n), some (.inl o)] [] b v Q := by
  intro f
  induction f with
  | zero =>
    intro v c n o hX hi_0 hi_1 hi_2 hf hK
    exfalso
    omega
  | succ f ih =>
    intro v c n o hX hi_0 hi_1 hi_2 hf hK
    rw [mo_rank_37] at hK
    refine r_ex 4 (pc' := 43) (lo' := [some (.inr (.inr (some 203))), some (.inl c), some (.inl n), some (.inl o)]) (st' := [.inl 0, .inr (.inr (some 210)), .inl o]) rfl ?_
    refine r_iald2 (j := 0) (x := (v 210 0)) (pc' := 44) (pc0 := 43) (len := 1) rfl (s_210 _) (by first | assumption | omega | (unfold R32 at *; omega) | (unfold R64 at *; omega) | (simp only [R32, R64] at *; omega)) (by decide) rfl rfl ?_
    have hb_7 : 0 ≤ (v 210 0) ∧ (v 210 0) ≤ 9 := hX 210 0
    refine n_ic_ge (pc0 := 44) (len := 3) (t := 102) rfl (by first | assumption | omega | (unfold R32 at *; omega) | (unfold R64 at *; omega) | (simp only [R32, R64] at *; omega)) (by first | assumption | omega | (unfold R32 at *; omega) | (unfold R64 at *; omega) | (simp only [R32, R64] at *; omega)) (fun h_44 => ?_) (fun h_44 => ?_)
    · show WV _ _ _ 102 _ _ _ _ _
      rw [if_neg h_44] at hK
      exact hK _  (by first | assumption | omega | (unfold R32 at *; omega) | (unfold R64 at *; omega) | (simp only [R32, R64] at *; omega))
    · show WV _ _ _ 47 _ _ _ _ _
      rw [if_pos h_44] at hK
      refine r_ex 4 (pc' := 53) (lo' := [some (.inr (.inr (some 203))), some (.inl c), some (.inl n), some (.inl o)]) (st' := [.inl o, .inr (.inr (some 230)), .inl n]) rfl ?_
      refine r_iald2 (j := 0) (x := (v 230 ((o).toNat))) (pc' := 54) (pc0 := 53) (len := 1) rfl (s_230 _) (by first | assumption | omega | (unfold R32 at *; omega) | (unfold R64 at *; omega) | (simp only [R32, R64] at *; omega)) (by decide) rfl rfl ?_
      have hb_8 : -1 ≤ (v 230 ((o).toNat)) ∧ (v 230 ((o).toNat)) ≤ 299 := hX 230 ((o).toNat)
      refine r_ex 1 (pc' := 55) (lo' := [some (.inr (.inr (some 203))), some (.inl c), some (.inl n), some (.inl o)]) (st' := [.inl (-1), .inl (v 230 ((o).toNat)), .inl n]) rfl ?_
      refine n_ic_eq (pc0 := 55) (len := 3) (t := 93) rfl (by first | assumption | omega | (unfold R32 at *; omega) | (unfold R64 at *; omega) | (simp only [R32, R64] at *; omega)) (by first | assumption | omega | (unfold R32 at *; omega) | (unfold R64 at *; omega) | (simp only [R32, R64] at *; omega)) (fun h_55 => ?_) (fun h_55 => ?_)
      · show WV _ _ _ 93 _ _ _ _ _
        rw [if_pos h_55] at hK
        refine r_ex 5 (pc' := 37) (lo' := [some (.inr (.inr (some 203))), some (.inl c), some (.inl (n + 0)), some (.inl (o + 1))]) (st' := []) rfl ?_
        refine ih v c (n + 0) (o + 1)  hX (by first | assumption | omega | (unfold R32 at *; omega) | (unfold R64 at *; omega) | (simp only [R32, R64] at *; omega)) (by first | assumption | omega | (unfold R32 at *; omega) | (unfold R64 at *; omega) | (simp only [R32, R64] at *; omega)) (by first | assumption | omega | (unfold R32 at *; omega) | (unfold R64 at *; omega) | (simp only [R32, R64] at *; omega)) (by first | assumption | omega | (unfold R32 at *; omega) | (unfold R64 at *; omega) | (simp only [R32, R64] at *; omega)) hK
      · show WV _ _ _ 58 _ _ _ _ _
        rw [if_neg h_55] at hK
        refine r_ex 2 (pc' := 60) (lo' := [some (.inr (.inr (some 203))), some (.inl c), some (.inl n), some (.inl o)]) (st' := [.inl o, .inr (.inr (some 203)), .inl n]) rfl ?_
        have hp_9 : 0 ≤ o ∧ o ≤ 8 := (by first | assumption | omega | (unfold R32 at *; omega) | (unfold R64 at *; omega) | (simp only [R32, R64] at *; omega))
        refine r_call (m := 260) (args := [.inr (.inr (some 203)), .inl o]) (n' := 291) (pc' := 63) (lo' := [some (.inr (.inr (some 203))), some (.inl c), some (.inl n), some (.inl o)]) (st' := [.inl n]) (I := .invokevirtual 260) (pc0 := 60) (len := 3) rfl rfl rfl (e_mo_firstAt hX hp_9) ?_
        show WV _ _ _ 63 _ [.inl (mo_firstAt v o), .inl n] _ _ _
        have hb_10 := n_mo_firstAt (v := v) (c := o) hX hp_9
        refine r_ex 2 (pc' := 65) (lo' := [some (.inr (.inr (some 203))), some (.inl c), some (.inl n), some (.inl o)]) (st' := [.inl c, .inr (.inr (some 203)), .inl (mo_firstAt v o), .inl n]) rfl ?_
        have hp_11 : 0 ≤ c ∧ c ≤ 8 := (by first | assumption | omega | (unfold R32 at *; omega) | (unfold R64 at *; omega) | (simp only [R32, R64] at *; omega))
        refine r_call (m := 260) (args := [.inr (.inr (some 203)), .inl c]) (n' := 291) (pc' := 68) (lo' := [some (.inr (.inr (some 203))), some (.inl c), some (.inl n), some (.inl o)]) (st' := [.inl (mo_firstAt v o), .inl n]) (I := .invokevirtual 260) (pc0 := 65) (len := 3) rfl rfl rfl (e_mo_firstAt hX hp_11) ?_
        show WV _ _ _ 68 _ [.inl (mo_firstAt v c), .inl (mo_firstAt v o), .inl n] _ _ _
        have hb_12 := n_mo_firstAt (v := v) (c := c) hX hp_11
        refine n_ic_lt (pc0 := 68) (len := 3) (t := 89) rfl (by first | assumption | omega | (unfold R32 at *; omega) | (unfold R64 at *; omega) | (simp only [R32, R64] at *; omega)) (by first | assumption | omega | (unfold R32 at *; omega) | (unfold R64 at *; omega) | (simp only [R32, R64] at *; omega)) (fun h_68 => ?_) (fun h_68 => ?_)
        · show WV _ _ _ 89 _ _ _ _ _
          rw [if_pos h_68] at hK
          refine r_ex 6 (pc' := 37) (lo' := [some (.inr (.inr (some 203))), some (.inl c), some (.inl (n + 1)), some (.inl (o + 1))]) (st' := []) rfl ?_
          refine ih v c (n + 1) (o + 1)  hX (by first | assumption | omega | (unfold R32 at *; omega) | (unfold R64 at *; omega) | (simp only [R32, R64] at *; omega)) (by first | assumption | omega | (unfold R32 at *; omega) | (unfold R64 at *; omega) | (simp only [R32, R64] at *; omega)) (by first | assumption | omega | (unfold R32 at *; omega) | (unfold R64 at *; omega) | (simp only [R32, R64] at *; omega)) (by first | assumption | omega | (unfold R32 at *; omega) | (unfold R64 at *; omega) | (simp only [R32, R64] at *; omega)) hK
        · show WV _ _ _ 71 _ _ _ _ _
          rw [if_neg h_68] at hK
          refine r_ex 2 (pc' := 73) (lo' := [some (.inr (.inr (some 203))), some (.inl c), some (.inl n), some (.inl o)]) (st' := [.inl o, .inr (.inr (some 203)), .inl n]) rfl ?_
          have hp_13 : 0 ≤ o ∧ o ≤ 8 := (by first | assumption | omega | (unfold R32 at *; omega) | (unfold R64 at *; omega) | (simp only [R32, R64] at *; omega))
          refine r_call (m := 260) (args := [.inr (.inr (some 203)), .inl o]) (n' := 291) (pc' := 76) (lo' := [some (.inr (.inr (some 203))), some (.inl c), some (.inl n), some (.inl o)]) (st' := [.inl n]) (I := .invokevirtual 260) (pc0 := 73) (len := 3) rfl rfl rfl (e_mo_firstAt hX hp_13) ?_
          show WV _ _ _ 76 _ [.inl (mo_firstAt v o), .inl n] _ _ _
          have hb_14 := n_mo_firstAt (v := v) (c := o) hX hp_13
          refine r_ex 2 (pc' := 78) (lo' := [some (.inr (.inr (some 203))), some (.inl c), some (.inl n), some (.inl o)]) (st' := [.inl c, .inr (.inr (some 203)), .inl (mo_firstAt v o), .inl n]) rfl ?_
          have hp_15 : 0 ≤ c ∧ c ≤ 8 := (by first | assumption | omega | (unfold R32 at *; omega) | (unfold R64 at *; omega) | (simp only [R32, R64] at *; omega))
          refine r_call (m := 260) (args := [.inr (.inr (some 203)), .inl c]) (n' := 291) (pc' := 81) (lo' := [some (.inr (.inr (some 203))), some (.inl c), some (.inl n), some (.inl o)]) (st' := [.inl (mo_firstAt v o), .inl n]) (I := .invokevirtual 260) (pc0 := 78) (len := 3) rfl rfl rfl (e_mo_firstAt hX hp_15) ?_
          show WV _ _ _ 81 _ [.inl (mo_firstAt v c), .inl (mo_firstAt v o), .inl n] _ _ _
          have hb_16 := n_mo_firstAt (v := v) (c := c) hX hp_15
          refine n_ic_ne (pc0 := 81) (len := 3) (t := 93) rfl (by first | assumption | omega | (unfold R32 at *; omega) | (unfold R64 at *; omega) | (simp only [R32, R64] at *; omega)) (by first | assumption | omega | (unfold R32 at *; omega) | (unfold R64 at *; omega) | (simp only [R32, R64] at *; omega)) (fun h_81 => ?_) (fun h_81 => ?_)
          · show WV _ _ _ 93 _ _ _ _ _
            rw [if_neg h_81] at hK
            refine r_ex 5 (pc' := 37) (lo' := [some (.inr (.inr (some 203))), some (.inl c), some (.inl (n + 0)), some (.inl (o + 1))]) (st' := []) rfl ?_
            refine ih v c (n + 0) (o + 1)  hX (by first | assumption | omega | (unfold R32 at *; omega) | (unfold R64 at *; omega) | (simp only [R32, R64] at *; omega)) (by first | assumption | omega | (unfold R32 at *; omega) | (unfold R64 at *; omega) | (simp only [R32, R64] at *; omega)) (by first | assumption | omega | (unfold R32 at *; omega) | (unfold R64 at *; omega) | (simp only [R32, R64] at *; omega)) (by first | assumption | omega | (unfold R32 at *; omega) | (unfold R64 at *; omega) | (simp only [R32, R64] at *; omega)) hK
          · show WV _ _ _ 84 _ _ _ _ _
            rw [if_pos h_81] at hK
            refine r_ex 2 (pc' := 86) (lo' := [some (.inr (.inr (some 203))), some (.inl c), some (.inl n), some (.inl o)]) (st' := [.inl c, .inl o, .inl n]) rfl ?_
            refine n_ic_ge (pc0 := 86) (len := 3) (t := 93) rfl (by first | assumption | omega | (unfold R32 at *; omega) | (unfold R64 at *; omega) | (simp only [R32, R64] at *; omega)) (by first | assumption | omega | (unfold R32 at *; omega) | (unfold R64 at *; omega) | (simp only [R32, R64] at *; omega)) (fun h_86 => ?_) (fun h_86 => ?_)
            · show WV _ _ _ 93 _ _ _ _ _
              rw [if_neg h_86] at hK
              refine r_ex 5 (pc' := 37) (lo' := [some (.inr (.inr (some 203))), some (.inl c), some (.inl (n + 0)), some (.inl (o + 1))]) (st' := []) rfl ?_
              refine ih v c (n + 0) (o + 1)  hX (by first | assumption | omega | (unfold R32 at *; omega) | (unfold R64 at *; omega) | (simp only [R32, R64] at *; omega)) (by first | assumption | omega | (unfold R32 at *; omega) | (unfold R64 at *; omega) | (simp only [R32, R64] at *; omega)) (by first | assumption | omega | (unfold R32 at *; omega) | (unfold R64 at *; omega) | (simp only [R32, R64] at *; omega)) (by first | assumption | omega | (unfold R32 at *; omega) | (unfold R64 at *; omega) | (simp only [R32, R64] at *; omega)) hK
            · show WV _ _ _ 89 _ _ _ _ _
              rw [if_pos h_86] at hK
              refine r_ex 6 (pc' := 37) (lo' := [some (.inr (.inr (some 203))), some (.inl c), some (.inl (n + 1)), some (.inl (o + 1))]) (st' := []) rfl ?_
              refine ih v c (n + 1) (o + 1)  hX (by first | assumption | omega | (unfold R32 at *; omega) | (unfold R64 at *; omega) | (simp only [R32, R64] at *; omega)) (by first | assumption | omega | (unfold R32 at *; omega) | (unfold R64 at *; omega) | (simp only [R32, R64] at *; omega)) (by first | assumption | omega | (unfold R32 at *; omega) | (unfold R64 at *; omega) | (simp only [R32, R64] at *; omega)) (by first | assumption | omega | (unfold R32 at *; omega) | (unfold R64 at *; omega) | (simp only [R32, R64] at *; omega)) hK

theorem w_mo_rank {X : PX} {d b : Nat} {v : VS} {c : Int} (hX : XI v) (hp_a : R32 c) (hp_b : CF v) {Q : Option PV → Nat → VS → Prop} (hQ : XI (mo_rank v c).2 → Q (some (.inl (mo_rank v c).1)) b (mo_rank v c).2) : WV X (d + 1 + 1 + 1 + 1 + 1 + 1) 291 0 [some (.inr (.inr (some 203))), some (.inl c), none, none] [] b v Q := by
  rw [mo_rank] at hQ
  refine r_ex 2 (pc' := 2) (lo' := [some (.inr (.inr (some 203))), some (.inl c), none, none]) (st' := [.inl 0, .inr (.inr (some 203))]) rfl ?_
  refine r_puti2 (j := 0) (pc' := 5) (pc0 := 2) (len := 3) rfl (s_203 _) rfl rfl rfl (Or.inl rfl) rfl rfl ?_
  have hX_1 : XI (v2 v 203 0 0) := XI.put hX trivial
  refine r_ex 2 (pc' := 7) (lo' := [some (.inr (.inr (some 203))), some (.inl c), none, none]) (st' := [.inl c, .inr (.inr (some 203))]) rfl ?_
  refine n_i2l (pc' := 8) (pc0 := 7) (len := 1) rfl (by first | assumption | omega | (unfold R32 at *; omega) | (unfold R64 at *; omega) | (simp only [R32, R64] at *; omega)) rfl ?_
  have hp_2 : R64 c := (by first | assumption | omega | (unfold R32 at *; omega) | (unfold R64 at *; omega) | (simp only [R32, R64] at *; omega))
  have hb_3 : 0 ≤ (v 210 0) ∧ (v 210 0) ≤ 9 := hX_1 210 0
  refine r_callb (P := 0 ≤ c ∧ c < (v 210 0)) (m := 236) (args := [.inr (.inr (some 203)), .inr (.inl c)]) (n' := 291) (pc' := 11) (lo' := [some (.inr (.inr (some 203))), some (.inl c), none, none]) (st' := []) (I := .invokevirtual 236) (pc0 := 8) (len := 3) rfl rfl rfl (e_mo_isChurch hX_1 hp_2) (fun h_8 => ?_) (fun h_8 => ?_)
  · show WV _ _ _ 11 _ _ _ _ _
    rw [if_pos h_8] at hQ
    refine r_ex 2 (pc' := 18) (lo' := [some (.inr (.inr (some 203))), some (.inl c), none, none]) (st' := [.inr (.inr (some 203))]) rfl ?_
    have hp_4 : CF (v2 v 203 0 0) := show CF (v2 v 203 0 0) from (show CF (v2 v 203 0 0) from CF.of hp_b (fun k h1 h2 => by rw [v2_row (by omega)]))
    refine r_call (m := 246) (args := [.inr (.inr (some 203))]) (n' := 291) (pc' := 21) (lo' := [some (.inr (.inr (some 203))), some (.inl c), none, none]) (st' := []) (I := .invokevirtual 246) (pc0 := 18) (len := 3) rfl rfl rfl (e_mo_told hX_1 hp_4) ?_
    show WV _ _ _ 21 _ [] _ (mo_told (v2 v 203 0 0)) _
    have hX_5 : XI (mo_told (v2 v 203 0 0)) := i_mo_told (v := (v2 v 203 0 0)) hX_1 hp_4
    refine r_ex 3 (pc' := 26) (lo' := [some (.inr (.inr (some 203))), some (.inl c), none, none]) (st' := [.inl c, .inr (.inr (some 230))]) rfl ?_
    refine r_iald2 (j := 0) (x := ((mo_told (v2 v 203 0 0)) 230 ((c).toNat))) (pc' := 27) (pc0 := 26) (len := 1) rfl (s_230 _) (by first | assumption | omega | (unfold R32 at *; omega) | (unfold R64 at *; omega) | (simp only [R32, R64] at *; omega)) (by decide) rfl rfl ?_
    have hb_6 : -1 ≤ ((mo_told (v2 v 203 0 0)) 230 ((c).toNat)) ∧ ((mo_told (v2 v 203 0 0)) 230 ((c).toNat)) ≤ 299 := hX_5 230 ((c).toNat)
    refine r_ex 1 (pc' := 28) (lo' := [some (.inr (.inr (some 203))), some (.inl c), none, none]) (st' := [.inl (-1), .inl ((mo_told (v2 v 203 0 0)) 230 ((c).toNat))]) rfl ?_
    refine n_ic_ne (pc0 := 28) (len := 3) (t := 33) rfl (by first | assumption | omega | (unfold R32 at *; omega) | (unfold R64 at *; omega) | (simp only [R32, R64] at *; omega)) (by first | assumption | omega | (unfold R32 at *; omega) | (unfold R64 at *; omega) | (simp only [R32, R64] at *; omega)) (fun h_28 => ?_) (fun h_28 => ?_)
    · show WV _ _ _ 33 _ _ _ _ _
      rw [if_neg h_28] at hQ
      refine r_ex 4 (pc' := 37) (lo' := [some (.inr (.inr (some 203))), some (.inl c), some (.inl 0), some (.inl 0)]) (st' := []) rfl ?_
      refine l_mo_rank_37 10 (mo_told (v2 v 203 0 0)) c 0 0  hX_5 (by first | assumption | omega | (unfold R32 at *; omega) | (unfold R64 at *; omega) | (simp only [R32, R64] at *; omega)) (by first | assumption | omega | (unfold R32 at *; omega) | (unfold R64 at *; omega) | (simp only [R32, R64] at *; omega)) (by first | assumption | omega | (unfold R32 at *; omega) | (unfold R64 at *; omega) | (simp only [R32, R64] at *; omega)) (by first | assumption | omega | (unfold R32 at *; omega) | (unfold R64 at *; omega) | (simp only [R32, R64] at *; omega)) (fun o3_17  hv_17_0 => ?_)
      show WV _ _ _ 102 _ _ _ _ _
      refine r_ex 1 (pc' := 103) (lo' := [some (.inr (.inr (some 203))), some (.inl c), some (.inl (mo_rank_37 10 (mo_told (v2 v 203 0 0)) c 0 0)), o3_17]) (st' := [.inl (mo_rank_37 10 (mo_told (v2 v 203 0 0)) c 0 0)]) rfl ?_
      refine r_ret (rr := some (.inl (mo_rank_37 10 (mo_told (v2 v 203 0 0)) c 0 0))) (I := .ireturn) (pc0 := 103) (len := 1) rfl rfl ?_
      exact hQ hX_5 
    · show WV _ _ _ 31 _ _ _ _ _
      rw [if_pos h_28] at hQ
      refine r_ex 1 (pc' := 32) (lo' := [some (.inr (.inr (some 203))), some (.inl c), none, none]) (st' := [.inl (-1)]) rfl ?_
      refine r_ret (rr := some (.inl (-1))) (I := .ireturn) (pc0 := 32) (len := 1) rfl rfl ?_
      exact hQ hX_5 
  · show WV _ _ _ 11 _ _ _ _ _
    rw [if_neg h_8] at hQ
    refine r_ex 2 (pc' := 16) (lo' := [some (.inr (.inr (some 203))), some (.inl c), none, none]) (st' := [.inl (-2)]) rfl ?_
    refine r_ret (rr := some (.inl (-2))) (I := .ireturn) (pc0 := 16) (len := 1) rfl rfl ?_
    exact hQ hX_1 

theorem e_mo_rank {X : PX} {d b : Nat} {v : VS} {c : Int} (hX : XI v) (hp_a : R32 c) (hp_b : CF v) : EvV X (d + 1 + 1 + 1 + 1 + 1 + 1) 291 [.inr (.inr (some 203)), .inl c] b v (some (.inl (mo_rank v c).1)) b ((mo_rank v c).2) := EvV.of (w_mo_rank hX hp_a hp_b (fun _ => ⟨rfl, rfl, rfl⟩))

theorem i_mo_rank {v : VS} {c : Int} (hX : XI v) (hp_a : R32 c) (hp_b : CF v) : XI ((mo_rank v c).2) := by
  have q : WV (0, fun _ => 0, none) (0 + 1 + 1 + 1 + 1 + 1 + 1) 291 0 [some (.inr (.inr (some 203))), some (.inl c), none, none] [] 1 v (fun _ _ _ => XI ((mo_rank v c).2)) := w_mo_rank (X := (0, fun _ => 0, none)) (d := 0) (b := 1) hX hp_a hp_b (fun q => q)
  obtain ⟨_, _, _, _, _, _, _, q⟩ := q
  exact q

theorem o_mo_rank {rk : Nat} {v : VS} {c : Int} (hk : (rk < 203 ∨ 203 < rk) ∧ (rk < 219 ∨ 231 < rk)) : (mo_rank v c).2 rk = v rk := by
  unfold mo_rank
  by_cases hc_ : 0 ≤ c ∧ c < (v 210 0)
  · rw [if_pos hc_] <;> clear hc_
    by_cases hc_ : ((mo_told (v2 v 203 0 0)) 230 ((c).toNat)) = (-1)
    · rw [if_pos hc_] <;> clear hc_
      all_goals (show (mo_told (v2 v 203 0 0)) rk = _)
      all_goals (rw [o_mo_told (by omega), v2_row (by omega)])
    · rw [if_neg hc_] <;> clear hc_
      all_goals (show (mo_told (v2 v 203 0 0)) rk = _)
      all_goals (rw [o_mo_told (by omega), v2_row (by omega)])
  · rw [if_neg hc_] <;> clear hc_
    all_goals (show (v2 v 203 0 0) rk = _)
    all_goals (rw [v2_row (by omega)])
