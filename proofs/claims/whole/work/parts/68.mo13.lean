/-! the reference: rows, logs -/
def TM (v : VS) (s : Int) : Prop := v 205 s.toNat % 3 = 0 ∧ ∀ i : Int, 0 ≤ i → i % 3 = 0 → i < v 205 s.toNat → (0 ≤ v 206 (60 * s + i).toNat ∧ v 206 (60 * s + i).toNat < 300) ∧ (0 ≤ v 206 (60 * s + i + 1).toNat ∧ v 206 (60 * s + i + 1).toNat < 9)
theorem TM.of {v v' : VS} {s : Int} (h : TM v s) (e1 : v' 205 = v 205) (e2 : v' 206 = v 206) : TM v' s := by
  unfold TM at *
  rw [e1, e2]
  exact h
theorem c206 {v : VS} (hX : XI v) (j : Nat) : R64 (v 206 j) := by
  have h : -9223372036854775808 ≤ v 206 j ∧ v 206 j ≤ 9223372036854775807 := hX 206 j
  unfold R64
  omega

noncomputable def mo_whyNot_46 : Nat → VS → Int → Int → Int
  | 0, v, s, i => 0
  | f + 1, v, s, i => (if i < (v 205 ((s).toNat)) then (if 0 ≤ (v 206 ((((60 * s) + i)).toNat)) ∧ (v 206 ((((60 * s) + i)).toNat)) < (v 210 1) then (if 0 ≤ (v 206 (((((60 * s) + i) + 1)).toNat)) ∧ (v 206 (((((60 * s) + i) + 1)).toNat)) < (v 210 0) then (mo_whyNot_46 f v s (i + 3)) else (-2)) else (-2)) else 0)
noncomputable def mo_whyNot (v : VS) (s : Int) : Int :=
  (if 0 ≤ s ∧ s ≤ 3 then (if 0 < (v 209 0) then (if (v 204 ((s).toNat)) = (-1) then (-6) else (if ((v 205 ((s).toNat)) % 3) = 0 then (mo_whyNot_46 63 v s 0) else (-2))) else (-2)) else (-2))
theorem l_mo_whyNot_46 {X : PX} {d b : Nat} {Q : Option PV → Nat → VS → Prop}  : ∀ (f : Nat) (v : VS) (s : Int) (i : Int), XI v → (0 ≤ i ∧ i ≤ 62) → (0 ≤ s ∧ s ≤ 3) → (i % 3 = 0) → (v 205 s.toNat % 3 = 0) → (62 < i + f) → (((mo_whyNot_46 f v s i) = 0 ∨ (mo_whyNot_46 f v s i) = -2 ∨ (mo_whyNot_46 f v s i) = -6) → Q (some (.inl (mo_whyNot_46 f v s i))) b v) → WV X (d + 1 + 1) 307 46 [some (.inr (.inr (some 203))), some (.inl s), some (.inl i)] [] b v Q := by
  intro f
  induction f with
  | zero =>
    intro v s i hX hi_0 hi_1 hi_2 hi_3 hf hQ
    have hz205 : 0 ≤ v 205 s.toNat ∧ v 205 s.toNat ≤ 60 := hX 205 _
    exfalso
    omega
  | succ f ih =>
    intro v s i hX hi_0 hi_1 hi_2 hi_3 hf hQ
    rw [mo_whyNot_46] at hQ
    have hz205 : 0 ≤ v 205 s.toNat ∧ v 205 s.toNat ≤ 60 := hX 205 _
    refine r_ex 4 (pc' := 52) (lo' := [some (.inr (.inr (some 203))), some (.inl s), some (.inl i)]) (st' := [.inl s, .inr (.inr (some 205)), .inl i]) rfl ?_
    refine r_iald2 (j := 0) (x := (v 205 ((s).toNat))) (pc' := 53) (pc0 := 52) (len := 1) rfl (s_205 _) (by first | assumption | omega | (unfold R32 at *; omega) | (unfold R64 at *; omega) | (simp only [R32, R64] at *; omega)) (by decide) rfl rfl ?_
    have hb_5 : 0 ≤ (v 205 ((s).toNat)) ∧ (v 205 ((s).toNat)) ≤ 60 := hX 205 ((s).toNat)
    refine n_ic_ge (pc0 := 53) (len := 3) (t := 103) rfl (by first | assumption | omega | (unfold R32 at *; omega) | (unfold R64 at *; omega) | (simp only [R32, R64] at *; omega)) (by first | assumption | omega | (unfold R32 at *; omega) | (unfold R64 at *; omega) | (simp only [R32, R64] at *; omega)) (fun h_53 => ?_) (fun h_53 => ?_)
    · show WV _ _ _ 103 _ _ _ _ _
      rw [if_neg h_53] at hQ
      refine r_ex 1 (pc' := 104) (lo' := [some (.inr (.inr (some 203))), some (.inl s), some (.inl i)]) (st' := [.inl 0]) rfl ?_
      refine r_ret (rr := some (.inl 0)) (I := .ireturn) (pc0 := 104) (len := 1) rfl rfl ?_
      exact hQ (by first | assumption | omega | (unfold R32 at *; omega) | (unfold R64 at *; omega) | (simp only [R32, R64] at *; omega))
    · show WV _ _ _ 56 _ _ _ _ _
      rw [if_pos h_53] at hQ
      refine r_ex 8 (pc' := 67) (lo' := [some (.inr (.inr (some 203))), some (.inl s), some (.inl i)]) (st' := [.inl ((60 * s) + i), .inr (.inr (some 206)), .inr (.inr (some 203))]) rfl ?_
      refine r_lald2 (x := (v 206 ((((60 * s) + i)).toNat))) (pc' := 68) (pc0 := 67) (len := 1) rfl (s_206 _) (by first | assumption | omega | (unfold R32 at *; omega) | (unfold R64 at *; omega) | (simp only [R32, R64] at *; omega)) (by decide) rfl rfl ?_
      have hb_6 : -9223372036854775808 ≤ (v 206 ((((60 * s) + i)).toNat)) ∧ (v 206 ((((60 * s) + i)).toNat)) ≤ 9223372036854775807 := hX 206 ((((60 * s) + i)).toNat)
      have hp_7 : R64 (v 206 ((((60 * s) + i)).toNat)) := (by first | assumption | omega | (unfold R32 at *; omega) | (unfold R64 at *; omega) | (simp only [R32, R64] at *; omega))
      have hb_8 : 0 ≤ (v 210 1) ∧ (v 210 1) ≤ 300 := hX 210 1
      refine r_callb (P := 0 ≤ (v 206 ((((60 * s) + i)).toNat)) ∧ (v 206 ((((60 * s) + i)).toNat)) < (v 210 1)) (m := 240) (args := [.inr (.inr (some 203)), .inr (.inl (v 206 ((((60 * s) + i)).toNat)))]) (n' := 307) (pc' := 71) (lo' := [some (.inr (.inr (some 203))), some (.inl s), some (.inl i)]) (st' := []) (I := .invokevirtual 240) (pc0 := 68) (len := 3) rfl rfl rfl (e_mo_isSecond hX hp_7) (fun h_68 => ?_) (fun h_68 => ?_)
      · show WV _ _ _ 71 _ _ _ _ _
        rw [if_pos h_68] at hQ
        refine r_ex 11 (pc' := 87) (lo' := [some (.inr (.inr (some 203))), some (.inl s), some (.inl i)]) (st' := [.inl (((60 * s) + i) + 1), .inr (.inr (some 206)), .inr (.inr (some 203))]) rfl ?_
        refine r_lald2 (x := (v 206 (((((60 * s) + i) + 1)).toNat))) (pc' := 88) (pc0 := 87) (len := 1) rfl (s_206 _) (by first | assumption | omega | (unfold R32 at *; omega) | (unfold R64 at *; omega) | (simp only [R32, R64] at *; omega)) (by decide) rfl rfl ?_
        have hb_9 : -9223372036854775808 ≤ (v 206 (((((60 * s) + i) + 1)).toNat)) ∧ (v 206 (((((60 * s) + i) + 1)).toNat)) ≤ 9223372036854775807 := hX 206 (((((60 * s) + i) + 1)).toNat)
        have hp_10 : R64 (v 206 (((((60 * s) + i) + 1)).toNat)) := (by first | assumption | omega | (unfold R32 at *; omega) | (unfold R64 at *; omega) | (simp only [R32, R64] at *; omega))
        have hb_11 : 0 ≤ (v 210 0) ∧ (v 210 0) ≤ 9 := hX 210 0
        refine r_callb (P := 0 ≤ (v 206 (((((60 * s) + i) + 1)).toNat)) ∧ (v 206 (((((60 * s) + i) + 1)).toNat)) < (v 210 0)) (m := 236) (args := [.inr (.inr (some 203)), .inr (.inl (v 206 (((((60 * s) + i) + 1)).toNat)))]) (n' := 307) (pc' := 91) (lo' := [some (.inr (.inr (some 203))), some (.inl s), some (.inl i)]) (st' := []) (I := .invokevirtual 236) (pc0 := 88) (len := 3) rfl rfl rfl (e_mo_isChurch hX hp_10) (fun h_88 => ?_) (fun h_88 => ?_)
        · show WV _ _ _ 91 _ _ _ _ _
          rw [if_pos h_88] at hQ
          refine r_ex 3 (pc' := 46) (lo' := [some (.inr (.inr (some 203))), some (.inl s), some (.inl (i + 3))]) (st' := []) rfl ?_
          refine ih v s (i + 3)  hX (by first | assumption | omega | (unfold R32 at *; omega) | (unfold R64 at *; omega) | (simp only [R32, R64] at *; omega)) (by first | assumption | omega | (unfold R32 at *; omega) | (unfold R64 at *; omega) | (simp only [R32, R64] at *; omega)) (by first | assumption | omega | (unfold R32 at *; omega) | (unfold R64 at *; omega) | (simp only [R32, R64] at *; omega)) (by first | assumption | omega | (unfold R32 at *; omega) | (unfold R64 at *; omega) | (simp only [R32, R64] at *; omega)) (by first | assumption | omega | (unfold R32 at *; omega) | (unfold R64 at *; omega) | (simp only [R32, R64] at *; omega)) hQ
        · show WV _ _ _ 91 _ _ _ _ _
          rw [if_neg h_88] at hQ
          refine r_ex 2 (pc' := 96) (lo' := [some (.inr (.inr (some 203))), some (.inl s), some (.inl i)]) (st' := [.inl (-2)]) rfl ?_
          refine r_ret (rr := some (.inl (-2))) (I := .ireturn) (pc0 := 96) (len := 1) rfl rfl ?_
          exact hQ (by first | assumption | omega | (unfold R32 at *; omega) | (unfold R64 at *; omega) | (simp only [R32, R64] at *; omega))
      · show WV _ _ _ 71 _ _ _ _ _
        rw [if_neg h_68] at hQ
        refine r_ex 2 (pc' := 96) (lo' := [some (.inr (.inr (some 203))), some (.inl s), some (.inl i)]) (st' := [.inl (-2)]) rfl ?_
        refine r_ret (rr := some (.inl (-2))) (I := .ireturn) (pc0 := 96) (len := 1) rfl rfl ?_
        exact hQ (by first | assumption | omega | (unfold R32 at *; omega) | (unfold R64 at *; omega) | (simp only [R32, R64] at *; omega))

theorem w_mo_whyNot {X : PX} {d b : Nat} {v : VS} {s : Int} (hX : XI v) (hp_a : R32 s) {Q : Option PV → Nat → VS → Prop} (hQ : ((mo_whyNot v s) = 0 ∨ (mo_whyNot v s) = -2 ∨ (mo_whyNot v s) = -6) → Q (some (.inl (mo_whyNot v s))) b v) : WV X (d + 1 + 1) 307 0 [some (.inr (.inr (some 203))), some (.inl s), none] [] b v Q := by
  rw [mo_whyNot] at hQ
  refine r_ex 1 (pc' := 1) (lo' := [some (.inr (.inr (some 203))), some (.inl s), none]) (st' := [.inl s]) rfl ?_
  have hp_1 : R32 s := (by first | assumption | omega | (unfold R32 at *; omega) | (unfold R64 at *; omega) | (simp only [R32, R64] at *; omega))
  refine r_callb (P := 0 ≤ s ∧ s ≤ 3) (m := 201) (args := [.inl s]) (n' := 307) (pc' := 4) (lo' := [some (.inr (.inr (some 203))), some (.inl s), none]) (st' := []) (I := .invokestatic 201) (pc0 := 1) (len := 3) rfl rfl rfl (e_mo_isSlot hX hp_1) (fun h_1 => ?_) (fun h_1 => ?_)
  · show WV _ _ _ 4 _ _ _ _ _
    rw [if_pos h_1] at hQ
    refine r_ex 2 (pc' := 8) (lo' := [some (.inr (.inr (some 203))), some (.inl s), none]) (st' := [.inr (.inr (some 203))]) rfl ?_
    have hb_2 : 0 ≤ (v 209 0) ∧ (v 209 0) ≤ 2001 := hX 209 0
    refine r_callb (P := 0 < (v 209 0)) (m := 245) (args := [.inr (.inr (some 203))]) (n' := 307) (pc' := 11) (lo' := [some (.inr (.inr (some 203))), some (.inl s), none]) (st' := []) (I := .invokevirtual 245) (pc0 := 8) (len := 3) rfl rfl rfl (e_mo_isBay hX) (fun h_8 => ?_) (fun h_8 => ?_)
    · show WV _ _ _ 11 _ _ _ _ _
      rw [if_pos h_8] at hQ
      refine r_ex 4 (pc' := 22) (lo' := [some (.inr (.inr (some 203))), some (.inl s), none]) (st' := [.inl s, .inr (.inr (some 204))]) rfl ?_
      refine r_iald2 (j := 0) (x := (v 204 ((s).toNat))) (pc' := 23) (pc0 := 22) (len := 1) rfl (s_204 _) (by first | assumption | omega | (unfold R32 at *; omega) | (unfold R64 at *; omega) | (simp only [R32, R64] at *; omega)) (by decide) rfl rfl ?_
      have hb_3 : -1 ≤ (v 204 ((s).toNat)) ∧ (v 204 ((s).toNat)) ≤ 3 := hX 204 ((s).toNat)
      refine r_ex 1 (pc' := 24) (lo' := [some (.inr (.inr (some 203))), some (.inl s), none]) (st' := [.inl (-1), .inl (v 204 ((s).toNat))]) rfl ?_
      refine n_ic_ne (pc0 := 24) (len := 3) (t := 30) rfl (by first | assumption | omega | (unfold R32 at *; omega) | (unfold R64 at *; omega) | (simp only [R32, R64] at *; omega)) (by first | assumption | omega | (unfold R32 at *; omega) | (unfold R64 at *; omega) | (simp only [R32, R64] at *; omega)) (fun h_24 => ?_) (fun h_24 => ?_)
      · show WV _ _ _ 30 _ _ _ _ _
        rw [if_neg h_24] at hQ
        refine r_ex 3 (pc' := 35) (lo' := [some (.inr (.inr (some 203))), some (.inl s), none]) (st' := [.inl s, .inr (.inr (some 205))]) rfl ?_
        refine r_iald2 (j := 0) (x := (v 205 ((s).toNat))) (pc' := 36) (pc0 := 35) (len := 1) rfl (s_205 _) (by first | assumption | omega | (unfold R32 at *; omega) | (unfold R64 at *; omega) | (simp only [R32, R64] at *; omega)) (by decide) rfl rfl ?_
        have hb_4 : 0 ≤ (v 205 ((s).toNat)) ∧ (v 205 ((s).toNat)) ≤ 60 := hX 205 ((s).toNat)
        refine r_ex 1 (pc' := 37) (lo' := [some (.inr (.inr (some 203))), some (.inl s), none]) (st' := [.inl 3, .inl (v 205 ((s).toNat))]) rfl ?_
        refine n_irem (pc' := 38) (pc0 := 37) (len := 1) rfl (by first | assumption | omega | (unfold R32 at *; omega) | (unfold R64 at *; omega) | (simp only [R32, R64] at *; omega)) (by first | assumption | omega | (unfold R32 at *; omega) | (unfold R64 at *; omega) | (simp only [R32, R64] at *; omega)) rfl ?_
        refine n_if_eq (pc0 := 38) (len := 3) (t := 44) rfl (by first | assumption | omega | (unfold R32 at *; omega) | (unfold R64 at *; omega) | (simp only [R32, R64] at *; omega)) (fun h_38 => ?_) (fun h_38 => ?_)
        · show WV _ _ _ 44 _ _ _ _ _
          rw [if_pos h_38] at hQ
          refine r_ex 2 (pc' := 46) (lo' := [some (.inr (.inr (some 203))), some (.inl s), some (.inl 0)]) (st' := []) rfl ?_
          exact l_mo_whyNot_46 63 v s 0  hX (by first | assumption | omega | (unfold R32 at *; omega) | (unfold R64 at *; omega) | (simp only [R32, R64] at *; omega)) (by first | assumption | omega | (unfold R32 at *; omega) | (unfold R64 at *; omega) | (simp only [R32, R64] at *; omega)) (by first | assumption | omega | (unfold R32 at *; omega) | (unfold R64 at *; omega) | (simp only [R32, R64] at *; omega)) (by first | assumption | omega | (unfold R32 at *; omega) | (unfold R64 at *; omega) | (simp only [R32, R64] at *; omega)) (by first | assumption | omega | (unfold R32 at *; omega) | (unfold R64 at *; omega) | (simp only [R32, R64] at *; omega)) hQ
        · show WV _ _ _ 41 _ _ _ _ _
          rw [if_neg h_38] at hQ
          refine r_ex 1 (pc' := 43) (lo' := [some (.inr (.inr (some 203))), some (.inl s), none]) (st' := [.inl (-2)]) rfl ?_
          refine r_ret (rr := some (.inl (-2))) (I := .ireturn) (pc0 := 43) (len := 1) rfl rfl ?_
          exact hQ (by first | assumption | omega | (unfold R32 at *; omega) | (unfold R64 at *; omega) | (simp only [R32, R64] at *; omega))
      · show WV _ _ _ 27 _ _ _ _ _
        rw [if_pos h_24] at hQ
        refine r_ex 1 (pc' := 29) (lo' := [some (.inr (.inr (some 203))), some (.inl s), none]) (st' := [.inl (-6)]) rfl ?_
        refine r_ret (rr := some (.inl (-6))) (I := .ireturn) (pc0 := 29) (len := 1) rfl rfl ?_
        exact hQ (by first | assumption | omega | (unfold R32 at *; omega) | (unfold R64 at *; omega) | (simp only [R32, R64] at *; omega))
    · show WV _ _ _ 11 _ _ _ _ _
      rw [if_neg h_8] at hQ
      refine r_ex 2 (pc' := 16) (lo' := [some (.inr (.inr (some 203))), some (.inl s), none]) (st' := [.inl (-2)]) rfl ?_
      refine r_ret (rr := some (.inl (-2))) (I := .ireturn) (pc0 := 16) (len := 1) rfl rfl ?_
      exact hQ (by first | assumption | omega | (unfold R32 at *; omega) | (unfold R64 at *; omega) | (simp only [R32, R64] at *; omega))
  · show WV _ _ _ 4 _ _ _ _ _
    rw [if_neg h_1] at hQ
    refine r_ex 2 (pc' := 16) (lo' := [some (.inr (.inr (some 203))), some (.inl s), none]) (st' := [.inl (-2)]) rfl ?_
    refine r_ret (rr := some (.inl (-2))) (I := .ireturn) (pc0 := 16) (len := 1) rfl rfl ?_
    exact hQ (by first | assumption | omega | (unfold R32 at *; omega) | (unfold R64 at *; omega) | (simp only [R32, R64] at *; omega))

theorem e_mo_whyNot {X : PX} {d b : Nat} {v : VS} {s : Int} (hX : XI v) (hp_a : R32 s) : EvV X (d + 1 + 1) 307 [.inr (.inr (some 203)), .inl s] b v (some (.inl (mo_whyNot v s))) b v := EvV.of (w_mo_whyNot hX hp_a (fun _ => ⟨rfl, rfl, rfl⟩))

theorem n_mo_whyNot {v : VS} {s : Int} (hX : XI v) (hp_a : R32 s) : (mo_whyNot v s) = 0 ∨ (mo_whyNot v s) = -2 ∨ (mo_whyNot v s) = -6 := by
  have q : WV (0, fun _ => 0, none) (0 + 1 + 1) 307 0 [some (.inr (.inr (some 203))), some (.inl s), none] [] 1 v (fun _ _ _ => (mo_whyNot v s) = 0 ∨ (mo_whyNot v s) = -2 ∨ (mo_whyNot v s) = -6) := w_mo_whyNot (X := (0, fun _ => 0, none)) (d := 0) (b := 1) hX hp_a (fun q => q)
  obtain ⟨_, _, _, _, _, _, _, q⟩ := q
  exact q

theorem why_loop {v : VS} {s : Int} (hX : XI v) : ∀ (f : Nat) (i0 : Int), mo_whyNot_46 f v s i0 = 0 → 62 < i0 + f → 0 ≤ i0 → i0 % 3 = 0 → ∀ i : Int, i0 ≤ i → i % 3 = 0 → i < v 205 s.toNat → (0 ≤ v 206 (60 * s + i).toNat ∧ v 206 (60 * s + i).toNat < 300) ∧ (0 ≤ v 206 (60 * s + i + 1).toNat ∧ v 206 (60 * s + i + 1).toNat < 9) := by
  have b1 : 0 ≤ v 210 1 ∧ v 210 1 ≤ 300 := hX 210 1
  have b0 : 0 ≤ v 210 0 ∧ v 210 0 ≤ 9 := hX 210 0
  have b5 : 0 ≤ v 205 s.toNat ∧ v 205 s.toNat ≤ 60 := hX 205 _
  intro f
  induction f with
  | zero => intro i0 h hf h0 h3 i hi hi3 hl; omega
  | succ f ih =>
    intro i0 h hf h0 h3 i hi hi3 hl
    rw [mo_whyNot_46] at h
    rw [if_pos (by omega)] at h
    split at h
    · rename_i q1
      split at h
      · rename_i q2
        by_cases e : i = i0
        · subst e
          exact ⟨by omega, by omega⟩
        · exact ih (i0 + 3) h (by omega) (by omega) (by omega) i (by omega) hi3 hl
      · exact absurd h (by omega)
    · exact absurd h (by omega)
theorem why_0 {v : VS} {s : Int} (hX : XI v) (h : mo_whyNot v s = 0) : (0 ≤ s ∧ s ≤ 3) ∧ 0 < v 209 0 ∧ ¬ v 204 s.toNat = -1 ∧ TM v s := by
  unfold mo_whyNot at h
  split at h
  · rename_i h1
    split at h
    · rename_i h2
      split at h
      · exact absurd h (by omega)
      · rename_i h3
        split at h
        · rename_i h4
          exact ⟨h1, h2, h3, h4, fun i h0 hi3 hl => why_loop hX _ _ h (by omega) (by omega) (by omega) i h0 hi3 hl⟩
        · exact absurd h (by omega)
    · exact absurd h (by omega)
  · exact absurd h (by omega)

noncomputable def mo_log_26 : Nat → VS → Int → Int → Int → Int
  | 0, v, s, n, i => 0
  | f + 1, v, s, n, i => (if i < (v 205 ((s).toNat)) then (if (mo_hourOf v (v 206 (((((60 * s) + i) + 1)).toNat)) (v 206 ((((60 * s) + i)).toNat))) = (v 206 (((((60 * s) + i) + 2)).toNat)) then (mo_log_26 f v s (n + 0) (i + 3)) else (mo_log_26 f v s (n + 1) (i + 3))) else n)
noncomputable def mo_log (v : VS) (s : Int) : Int × VS :=
  (if (mo_whyNot (v2 v 203 0 0) s) = 0 then ((mo_log_26 63 (mo_told (v2 v 203 0 0)) s 0 0), (mo_told (v2 v 203 0 0))) else ((mo_whyNot (v2 v 203 0 0) s), (v2 v 203 0 0)))
theorem l_mo_log_26 {X : PX} {d b : Nat} {Q : Option PV → Nat → VS → Prop}  : ∀ (f : Nat) (v : VS) (s : Int) (n : Int) (i : Int) (o5 : Option PV) (z2 : Int), XI v → (0 ≤ s ∧ s ≤ 3) → (0 ≤ i ∧ i ≤ 62) → (0 ≤ n ∧ n ≤ i) → (i % 3 = 0) → (TM v s) → (62 < i + f) → (∀ qx4 : Option PV, ∀ qx5 : Option PV, (0 ≤ (mo_log_26 f v s n i) ∧ (mo_log_26 f v s n i) ≤ 62) → WV X (d + 1 + 1 + 1 + 1 + 1 + 1) 306 96 [some (.inr (.inr (some 203))), some (.inl s), some (.inl z2), some (.inl (mo_log_26 f v s n i)), qx4, qx5] [] b v Q) → WV X (d + 1 + 1 + 1 + 1 + 1 + 1) 306 26 [some (.inr (.inr (some 203))), some (.inl s), some (.inl z2), some (.inl n), some (.inl i), o5] [] b v Q := by
  intro f
  induction f with
  | zero =>
    intro v s n i o5 z2 hX hi_0 hi_1 hi_2 hi_3 hi_4 hf hK
    have hz205 : 0 ≤ v 205 s.toNat ∧ v 205 s.toNat ≤ 60 := hX 205 _
    exfalso
    omega
  | succ f ih =>
    intro v s n i o5 z2 hX hi_0 hi_1 hi_2 hi_3 hi_4 hf hK
    rw [mo_log_26] at hK
    have hz205 : 0 ≤ v 205 s.toNat ∧ v 205 s.toNat ≤ 60 := hX 205 _
    refine r_ex 4 (pc' := 33) (lo' := [some (.inr (.inr (some 203))), some (.inl s), some (.inl z2), some (.inl n), some (.inl i), o5]) (st' := [.inl s, .inr (.inr (some 205)), .inl i]) rfl ?_
    refine r_iald2 (j := 0) (x := (v 205 ((s).toNat))) (pc' := 34) (pc0 := 33) (len := 1) rfl (s_205 _) (by first | assumption | omega | (unfold R32 at *; omega) | (unfold R64 at *; omega) | (simp only [R32, R64] at *; omega)) (by decide) rfl rfl ?_
    have hb_6 : 0 ≤ (v 205 ((s).toNat)) ∧ (v 205 ((s).toNat)) ≤ 60 := hX 205 ((s).toNat)
    refine n_ic_ge (pc0 := 34) (len := 3) (t := 96) rfl (by first | assumption | omega | (unfold R32 at *; omega) | (unfold R64 at *; omega) | (simp only [R32, R64] at *; omega)) (by first | assumption | omega | (unfold R32 at *; omega) | (unfold R64 at *; omega) | (simp only [R32, R64] at *; omega)) (fun h_34 => ?_) (fun h_34 => ?_)
    · show WV _ _ _ 96 _ _ _ _ _
      rw [if_neg h_34] at hK
      exact hK _ _  (by first | assumption | omega | (unfold R32 at *; omega) | (unfold R64 at *; omega) | (simp only [R32, R64] at *; omega))
    · show WV _ _ _ 37 _ _ _ _ _
      rw [if_pos h_34] at hK
      refine r_ex 13 (pc' := 56) (lo' := [some (.inr (.inr (some 203))), some (.inl s), some (.inl z2), some (.inl n), some (.inl i), some (.inl ((60 * s) + i))]) (st' := [.inl (((60 * s) + i) + 1), .inr (.inr (some 206)), .inr (.inr (some 203)), .inl n]) rfl ?_
      refine r_lald2 (x := (v 206 (((((60 * s) + i) + 1)).toNat))) (pc' := 57) (pc0 := 56) (len := 1) rfl (s_206 _) (by first | assumption | omega | (unfold R32 at *; omega) | (unfold R64 at *; omega) | (simp only [R32, R64] at *; omega)) (by decide) rfl rfl ?_
      have hb_7 : -9223372036854775808 ≤ (v 206 (((((60 * s) + i) + 1)).toNat)) ∧ (v 206 (((((60 * s) + i) + 1)).toNat)) ≤ 9223372036854775807 := hX 206 (((((60 * s) + i) + 1)).toNat)
      have ht1 := (hi_4.2 i (by omega) (by omega) (by omega)).2
      refine r_ex 4 (pc' := 64) (lo' := [some (.inr (.inr (some 203))), some (.inl s), some (.inl z2), some (.inl n), some (.inl i), some (.inl ((60 * s) + i))]) (st' := [.inl ((60 * s) + i), .inr (.inr (some 206)), .inl (v 206 (((((60 * s) + i) + 1)).toNat)), .inr (.inr (some 203)), .inl n]) rfl ?_
      refine r_lald2 (x := (v 206 ((((60 * s) + i)).toNat))) (pc' := 65) (pc0 := 64) (len := 1) rfl (s_206 _) (by first | assumption | omega | (unfold R32 at *; omega) | (unfold R64 at *; omega) | (simp only [R32, R64] at *; omega)) (by decide) rfl rfl ?_
      have hb_8 : -9223372036854775808 ≤ (v 206 ((((60 * s) + i)).toNat)) ∧ (v 206 ((((60 * s) + i)).toNat)) ≤ 9223372036854775807 := hX 206 ((((60 * s) + i)).toNat)
      have ht2 := (hi_4.2 i (by omega) (by omega) (by omega)).1
      refine r_ex 1 (pc' := 66) (lo' := [some (.inr (.inr (some 203))), some (.inl s), some (.inl z2), some (.inl n), some (.inl i), some (.inl ((60 * s) + i))]) (st' := [.inl (v 206 ((((60 * s) + i)).toNat)), .inl (v 206 (((((60 * s) + i) + 1)).toNat)), .inr (.inr (some 203)), .inl n]) rfl ?_
      have hp_9 : R32 (v 206 (((((60 * s) + i) + 1)).toNat)) := (by first | assumption | omega | (unfold R32 at *; omega) | (unfold R64 at *; omega) | (simp only [R32, R64] at *; omega))
      have hp_10 : R32 (v 206 ((((60 * s) + i)).toNat)) := (by first | assumption | omega | (unfold R32 at *; omega) | (unfold R64 at *; omega) | (simp only [R32, R64] at *; omega))
      refine r_call (m := 257) (args := [.inr (.inr (some 203)), .inl (v 206 (((((60 * s) + i) + 1)).toNat)), .inl (v 206 ((((60 * s) + i)).toNat))]) (n' := 306) (pc' := 69) (lo' := [some (.inr (.inr (some 203))), some (.inl s), some (.inl z2), some (.inl n), some (.inl i), some (.inl ((60 * s) + i))]) (st' := [.inl n]) (I := .invokevirtual 257) (pc0 := 66) (len := 3) rfl rfl rfl (e_mo_hourOf hX hp_9 hp_10) ?_
      show WV _ _ _ 69 _ [.inl (mo_hourOf v (v 206 (((((60 * s) + i) + 1)).toNat)) (v 206 ((((60 * s) + i)).toNat))), .inl n] _ _ _
      have hb_11 := n_mo_hourOf (v := v) (c := (v 206 (((((60 * s) + i) + 1)).toNat))) (t := (v 206 ((((60 * s) + i)).toNat))) hX hp_9 hp_10
      refine n_i2l (pc' := 70) (pc0 := 69) (len := 1) rfl (by first | assumption | omega | (unfold R32 at *; omega) | (unfold R64 at *; omega) | (simp only [R32, R64] at *; omega)) rfl ?_
      refine r_ex 5 (pc' := 78) (lo' := [some (.inr (.inr (some 203))), some (.inl s), some (.inl z2), some (.inl n), some (.inl i), some (.inl ((60 * s) + i))]) (st' := [.inl (((60 * s) + i) + 2), .inr (.inr (some 206)), .inr (.inl (mo_hourOf v (v 206 (((((60 * s) + i) + 1)).toNat)) (v 206 ((((60 * s) + i)).toNat)))), .inl n]) rfl ?_
      refine r_lald2 (x := (v 206 (((((60 * s) + i) + 2)).toNat))) (pc' := 79) (pc0 := 78) (len := 1) rfl (s_206 _) (by first | assumption | omega | (unfold R32 at *; omega) | (unfold R64 at *; omega) | (simp only [R32, R64] at *; omega)) (by decide) rfl rfl ?_
      have hb_12 : -9223372036854775808 ≤ (v 206 (((((60 * s) + i) + 2)).toNat)) ∧ (v 206 (((((60 * s) + i) + 2)).toNat)) ≤ 9223372036854775807 := hX 206 (((((60 * s) + i) + 2)).toNat)
      refine n_lc_ne (pc0 := 79) (len := 1) (pc1 := 80) (pc2 := 80) (len2 := 3) (t := 87) rfl rfl rfl (by first | assumption | omega | (unfold R32 at *; omega) | (unfold R64 at *; omega) | (simp only [R32, R64] at *; omega)) (by first | assumption | omega | (unfold R32 at *; omega) | (unfold R64 at *; omega) | (simp only [R32, R64] at *; omega)) (fun h_79 => ?_) (fun h_79 => ?_)
      · show WV _ _ _ 87 _ _ _ _ _
        rw [if_neg h_79] at hK
        refine r_ex 5 (pc' := 26) (lo' := [some (.inr (.inr (some 203))), some (.inl s), some (.inl z2), some (.inl (n + 1)), some (.inl (i + 3)), some (.inl ((60 * s) + i))]) (st' := []) rfl ?_
        refine ih v s (n + 1) (i + 3) _ _ hX (by first | assumption | omega | (unfold R32 at *; omega) | (unfold R64 at *; omega) | (simp only [R32, R64] at *; omega)) (by first | assumption | omega | (unfold R32 at *; omega) | (unfold R64 at *; omega) | (simp only [R32, R64] at *; omega)) (by first | assumption | omega | (unfold R32 at *; omega) | (unfold R64 at *; omega) | (simp only [R32, R64] at *; omega)) (by first | assumption | omega | (unfold R32 at *; omega) | (unfold R64 at *; omega) | (simp only [R32, R64] at *; omega)) (by first | assumption | exact TM.of hr_.2.2.2 (by rw [o_mo_told (by omega)]) (by rw [o_mo_told (by omega)])) (by first | assumption | omega | (unfold R32 at *; omega) | (unfold R64 at *; omega) | (simp only [R32, R64] at *; omega)) hK
      · show WV _ _ _ 83 _ _ _ _ _
        rw [if_pos h_79] at hK
        refine r_ex 6 (pc' := 26) (lo' := [some (.inr (.inr (some 203))), some (.inl s), some (.inl z2), some (.inl (n + 0)), some (.inl (i + 3)), some (.inl ((60 * s) + i))]) (st' := []) rfl ?_
        refine ih v s (n + 0) (i + 3) _ _ hX (by first | assumption | omega | (unfold R32 at *; omega) | (unfold R64 at *; omega) | (simp only [R32, R64] at *; omega)) (by first | assumption | omega | (unfold R32 at *; omega) | (unfold R64 at *; omega) | (simp only [R32, R64] at *; omega)) (by first | assumption | omega | (unfold R32 at *; omega) | (unfold R64 at *; omega) | (simp only [R32, R64] at *; omega)) (by first | assumption | omega | (unfold R32 at *; omega) | (unfold R64 at *; omega) | (simp only [R32, R64] at *; omega)) (by first | assumption | exact TM.of hr_.2.2.2 (by rw [o_mo_told (by omega)]) (by rw [o_mo_told (by omega)])) (by first | assumption | omega | (unfold R32 at *; omega) | (unfold R64 at *; omega) | (simp only [R32, R64] at *; omega)) hK

theorem w_mo_log {X : PX} {d b : Nat} {v : VS} {s : Int} (hX : XI v) (hp_a : R32 s) (hp_b : CF v) {Q : Option PV → Nat → VS → Prop} (hQ : XI (mo_log v s).2 → Q (some (.inl (mo_log v s).1)) b (mo_log v s).2) : WV X (d + 1 + 1 + 1 + 1 + 1 + 1) 306 0 [some (.inr (.inr (some 203))), some (.inl s), none, none, none, none] [] b v Q := by
  rw [mo_log] at hQ
  refine r_ex 2 (pc' := 2) (lo' := [some (.inr (.inr (some 203))), some (.inl s), none, none, none, none]) (st' := [.inl 0, .inr (.inr (some 203))]) rfl ?_
  refine r_puti2 (j := 0) (pc' := 5) (pc0 := 2) (len := 3) rfl (s_203 _) rfl rfl rfl (Or.inl rfl) rfl rfl ?_
  have hX_1 : XI (v2 v 203 0 0) := XI.put hX trivial
  refine r_ex 2 (pc' := 7) (lo' := [some (.inr (.inr (some 203))), some (.inl s), none, none, none, none]) (st' := [.inl s, .inr (.inr (some 203))]) rfl ?_
  have hp_2 : R32 s := (by first | assumption | omega | (unfold R32 at *; omega) | (unfold R64 at *; omega) | (simp only [R32, R64] at *; omega))
  refine r_call (m := 307) (args := [.inr (.inr (some 203)), .inl s]) (n' := 306) (pc' := 10) (lo' := [some (.inr (.inr (some 203))), some (.inl s), none, none, none, none]) (st' := []) (I := .invokevirtual 307) (pc0 := 7) (len := 3) rfl rfl rfl (e_mo_whyNot hX_1 hp_2) ?_
  show WV _ _ _ 10 _ [.inl (mo_whyNot (v2 v 203 0 0) s)] _ _ _
  have hb_3 := n_mo_whyNot (v := (v2 v 203 0 0)) (s := s) hX_1 hp_2
  refine r_ex 2 (pc' := 12) (lo' := [some (.inr (.inr (some 203))), some (.inl s), some (.inl (mo_whyNot (v2 v 203 0 0) s)), none, none, none]) (st' := [.inl (mo_whyNot (v2 v 203 0 0) s)]) rfl ?_
  refine n_if_eq (pc0 := 12) (len := 3) (t := 17) rfl (by first | assumption | omega | (unfold R32 at *; omega) | (unfold R64 at *; omega) | (simp only [R32, R64] at *; omega)) (fun h_12 => ?_) (fun h_12 => ?_)
  · show WV _ _ _ 17 _ _ _ _ _
    rw [if_pos h_12] at hQ
    have hr_ := why_0 (v := v2 v 203 0 0) (XI.put hX trivial) h_12
    refine r_ex 1 (pc' := 18) (lo' := [some (.inr (.inr (some 203))), some (.inl s), some (.inl (mo_whyNot (v2 v 203 0 0) s)), none, none, none]) (st' := [.inr (.inr (some 203))]) rfl ?_
    have hp_4 : CF (v2 v 203 0 0) := show CF (v2 v 203 0 0) from (show CF (v2 v 203 0 0) from CF.of hp_b (fun k h1 h2 => by rw [v2_row (by omega)]))
    refine r_call (m := 246) (args := [.inr (.inr (some 203))]) (n' := 306) (pc' := 21) (lo' := [some (.inr (.inr (some 203))), some (.inl s), some (.inl (mo_whyNot (v2 v 203 0 0) s)), none, none, none]) (st' := []) (I := .invokevirtual 246) (pc0 := 18) (len := 3) rfl rfl rfl (e_mo_told hX_1 hp_4) ?_
    show WV _ _ _ 21 _ [] _ (mo_told (v2 v 203 0 0)) _
    have hX_5 : XI (mo_told (v2 v 203 0 0)) := i_mo_told (v := (v2 v 203 0 0)) hX_1 hp_4
    refine r_ex 4 (pc' := 26) (lo' := [some (.inr (.inr (some 203))), some (.inl s), some (.inl (mo_whyNot (v2 v 203 0 0) s)), some (.inl 0), some (.inl 0), none]) (st' := []) rfl ?_
    refine l_mo_log_26 63 (mo_told (v2 v 203 0 0)) s 0 0 _ _ hX_5 (by first | assumption | omega | (unfold R32 at *; omega) | (unfold R64 at *; omega) | (simp only [R32, R64] at *; omega)) (by first | assumption | omega | (unfold R32 at *; omega) | (unfold R64 at *; omega) | (simp only [R32, R64] at *; omega)) (by first | assumption | omega | (unfold R32 at *; omega) | (unfold R64 at *; omega) | (simp only [R32, R64] at *; omega)) (by first | assumption | omega | (unfold R32 at *; omega) | (unfold R64 at *; omega) | (simp only [R32, R64] at *; omega)) (by first | assumption | exact TM.of hr_.2.2.2 (by rw [o_mo_told (by omega)]) (by rw [o_mo_told (by omega)])) (by first | assumption | omega | (unfold R32 at *; omega) | (unfold R64 at *; omega) | (simp only [R32, R64] at *; omega)) (fun o4_13 o5_13  hv_13_0 => ?_)
    show WV _ _ _ 96 _ _ _ _ _
    refine r_ex 1 (pc' := 97) (lo' := [some (.inr (.inr (some 203))), some (.inl s), some (.inl (mo_whyNot (v2 v 203 0 0) s)), some (.inl (mo_log_26 63 (mo_told (v2 v 203 0 0)) s 0 0)), o4_13, o5_13]) (st' := [.inl (mo_log_26 63 (mo_told (v2 v 203 0 0)) s 0 0)]) rfl ?_
    refine r_ret (rr := some (.inl (mo_log_26 63 (mo_told (v2 v 203 0 0)) s 0 0))) (I := .ireturn) (pc0 := 97) (len := 1) rfl rfl ?_
    exact hQ hX_5 
  · show WV _ _ _ 15 _ _ _ _ _
    rw [if_neg h_12] at hQ
    refine r_ex 1 (pc' := 16) (lo' := [some (.inr (.inr (some 203))), some (.inl s), some (.inl (mo_whyNot (v2 v 203 0 0) s)), none, none, none]) (st' := [.inl (mo_whyNot (v2 v 203 0 0) s)]) rfl ?_
    refine r_ret (rr := some (.inl (mo_whyNot (v2 v 203 0 0) s))) (I := .ireturn) (pc0 := 16) (len := 1) rfl rfl ?_
    exact hQ hX_1 

theorem e_mo_log {X : PX} {d b : Nat} {v : VS} {s : Int} (hX : XI v) (hp_a : R32 s) (hp_b : CF v) : EvV X (d + 1 + 1 + 1 + 1 + 1 + 1) 306 [.inr (.inr (some 203)), .inl s] b v (some (.inl (mo_log v s).1)) b ((mo_log v s).2) := EvV.of (w_mo_log hX hp_a hp_b (fun _ => ⟨rfl, rfl, rfl⟩))

theorem i_mo_log {v : VS} {s : Int} (hX : XI v) (hp_a : R32 s) (hp_b : CF v) : XI ((mo_log v s).2) := by
  have q : WV (0, fun _ => 0, none) (0 + 1 + 1 + 1 + 1 + 1 + 1) 306 0 [some (.inr (.inr (some 203))), some (.inl s), none, none, none, none] [] 1 v (fun _ _ _ => XI ((mo_log v s).2)) := w_mo_log (X := (0, fun _ => 0, none)) (d := 0) (b := 1) hX hp_a hp_b (fun q => q)
  obtain ⟨_, _, _, _, _, _, _, q⟩ := q
  exact q

theorem o_mo_log {rk : Nat} {v : VS} {s : Int} (hk : (rk < 203 ∨ 203 < rk) ∧ (rk < 219 ∨ 231 < rk)) : (mo_log v s).2 rk = v rk := by
  unfold mo_log
  by_cases hc_ : (mo_whyNot (v2 v 203 0 0) s) = 0
  · rw [if_pos hc_] <;> clear hc_
    all_goals (show (mo_told (v2 v 203 0 0)) rk = _)
    all_goals (rw [o_mo_told (by omega), v2_row (by omega)])
  · rw [if_neg hc_] <;> clear hc_
    all_goals (show (v2 v 203 0 0) rk = _)
    all_goals (rw [v2_row (by omega)])

noncomputable def mo_isStrike_3 : Nat → VS → Int → Int → Int → Int → Int
  | 0, v, t, c, h, i => 0
  | f + 1, v, t, c, h, i => (if i < (v 203 37) then (if (mo_at v i 0) = t then (if (mo_at v i 1) = c then (if (mo_at v i 2) = h then 1 else 0) else (mo_isStrike_3 f v t c h (i + 1))) else (mo_isStrike_3 f v t c h (i + 1))) else 0)
noncomputable def mo_isStrike (v : VS) (t : Int) (c : Int) (h : Int) : Int :=
  (mo_isStrike_3 301 v t c h 0)
theorem l_mo_isStrike_3 {X : PX} {d b : Nat} {Q : Option PV → Nat → VS → Prop}  : ∀ (f : Nat) (v : VS) (t : Int) (c : Int) (h : Int) (i : Int), XI v → (0 ≤ i ∧ i ≤ 300) → (R64 t) → (R64 c) → (R64 h) → (300 < i + f) → ((0 ≤ (mo_isStrike_3 f v t c h i) ∧ (mo_isStrike_3 f v t c h i) ≤ 1) → Q (some (.inl (mo_isStrike_3 f v t c h i))) b v) → WV X (d + 1) 317 3 [some (.inr (.inr (some 203))), some (.inr (.inl t)), none, some (.inr (.inl c)), none, some (.inr (.inl h)), none, some (.inl i)] [] b v Q := by
  intro f
  induction f with
  | zero =>
    intro v t c h i hX hi_0 hi_1 hi_2 hi_3 hf hQ
    exfalso
    omega
  | succ f ih =>
    intro v t c h i hX hi_0 hi_1 hi_2 hi_3 hf hQ
    rw [mo_isStrike_3] at hQ
    refine r_ex 3 (pc' := 9) (lo' := [some (.inr (.inr (some 203))), some (.inr (.inl t)), none, some (.inr (.inl c)), none, some (.inr (.inl h)), none, some (.inl i)]) (st' := [.inl (v 203 37), .inl i]) rfl ?_
    have hb_1 : 0 ≤ (v 203 37) ∧ (v 203 37) ≤ 300 := hX 203 37
    refine n_ic_ge (pc0 := 9) (len := 3) (t := 64) rfl (by first | assumption | omega | (unfold R32 at *; omega) | (unfold R64 at *; omega) | (simp only [R32, R64] at *; omega)) (by first | assumption | omega | (unfold R32 at *; omega) | (unfold R64 at *; omega) | (simp only [R32, R64] at *; omega)) (fun h_9 => ?_) (fun h_9 => ?_)
    · show WV _ _ _ 64 _ _ _ _ _
      rw [if_neg h_9] at hQ
      refine r_ex 1 (pc' := 65) (lo' := [some (.inr (.inr (some 203))), some (.inr (.inl t)), none, some (.inr (.inl c)), none, some (.inr (.inl h)), none, some (.inl i)]) (st' := [.inl 0]) rfl ?_
      refine r_ret (rr := some (.inl 0)) (I := .ireturn) (pc0 := 65) (len := 1) rfl rfl ?_
      exact hQ (by first | assumption | omega | (unfold R32 at *; omega) | (unfold R64 at *; omega) | (simp only [R32, R64] at *; omega))
    · show WV _ _ _ 12 _ _ _ _ _
      rw [if_pos h_9] at hQ
      refine r_ex 3 (pc' := 16) (lo' := [some (.inr (.inr (some 203))), some (.inr (.inl t)), none, some (.inr (.inl c)), none, some (.inr (.inl h)), none, some (.inl i)]) (st' := [.inl 0, .inl i, .inr (.inr (some 203))]) rfl ?_
      have hp_2 : 0 ≤ i ∧ i < 300 := (by first | assumption | omega | (unfold R32 at *; omega) | (unfold R64 at *; omega) | (simp only [R32, R64] at *; omega))
      have hp_3 : 0 ≤ (0 : Int) ∧ (0 : Int) < 5 := (by first | assumption | omega | (unfold R32 at *; omega) | (unfold R64 at *; omega) | (simp only [R32, R64] at *; omega))
      refine r_call (m := 254) (args := [.inr (.inr (some 203)), .inl i, .inl 0]) (n' := 317) (pc' := 19) (lo' := [some (.inr (.inr (some 203))), some (.inr (.inl t)), none, some (.inr (.inl c)), none, some (.inr (.inl h)), none, some (.inl i)]) (st' := []) (I := .invokevirtual 254) (pc0 := 16) (len := 3) rfl rfl rfl (e_mo_at hX hp_2 hp_3) ?_
      show WV _ _ _ 19 _ [.inl (mo_at v i 0)] _ _ _
      have hb_4 := n_mo_at (v := v) (i := i) (w := 0) hX hp_2 hp_3
      refine n_i2l (pc' := 20) (pc0 := 19) (len := 1) rfl (by first | assumption | omega | (unfold R32 at *; omega) | (unfold R64 at *; omega) | (simp only [R32, R64] at *; omega)) rfl ?_
      refine r_ex 1 (pc' := 21) (lo' := [some (.inr (.inr (some 203))), some (.inr (.inl t)), none, some (.inr (.inl c)), none, some (.inr (.inl h)), none, some (.inl i)]) (st' := [.inr (.inl t), .inr (.inl (mo_at v i 0))]) rfl ?_
      refine n_lc_ne (pc0 := 21) (len := 1) (pc1 := 22) (pc2 := 22) (len2 := 3) (t := 58) rfl rfl rfl (by first | assumption | omega | (unfold R32 at *; omega) | (unfold R64 at *; omega) | (simp only [R32, R64] at *; omega)) (by first | assumption | omega | (unfold R32 at *; omega) | (unfold R64 at *; omega) | (simp only [R32, R64] at *; omega)) (fun h_21 => ?_) (fun h_21 => ?_)
      · show WV _ _ _ 58 _ _ _ _ _
        rw [if_neg h_21] at hQ
        refine r_ex 2 (pc' := 3) (lo' := [some (.inr (.inr (some 203))), some (.inr (.inl t)), none, some (.inr (.inl c)), none, some (.inr (.inl h)), none, some (.inl (i + 1))]) (st' := []) rfl ?_
        refine ih v t c h (i + 1)  hX (by first | assumption | omega | (unfold R32 at *; omega) | (unfold R64 at *; omega) | (simp only [R32, R64] at *; omega)) (by first | assumption | omega | (unfold R32 at *; omega) | (unfold R64 at *; omega) | (simp only [R32, R64] at *; omega)) (by first | assumption | omega | (unfold R32 at *; omega) | (unfold R64 at *; omega) | (simp only [R32, R64] at *; omega)) (by first | assumption | omega | (unfold R32 at *; omega) | (unfold R64 at *; omega) | (simp only [R32, R64] at *; omega)) (by first | assumption | omega | (unfold R32 at *; omega) | (unfold R64 at *; omega) | (simp only [R32, R64] at *; omega)) hQ
      · show WV _ _ _ 25 _ _ _ _ _
        rw [if_pos h_21] at hQ
        refine r_ex 3 (pc' := 29) (lo' := [some (.inr (.inr (some 203))), some (.inr (.inl t)), none, some (.inr (.inl c)), none, some (.inr (.inl h)), none, some (.inl i)]) (st' := [.inl 1, .inl i, .inr (.inr (some 203))]) rfl ?_
        have hp_5 : 0 ≤ i ∧ i < 300 := (by first | assumption | omega | (unfold R32 at *; omega) | (unfold R64 at *; omega) | (simp only [R32, R64] at *; omega))
        have hp_6 : 0 ≤ (1 : Int) ∧ (1 : Int) < 5 := (by first | assumption | omega | (unfold R32 at *; omega) | (unfold R64 at *; omega) | (simp only [R32, R64] at *; omega))
        refine r_call (m := 254) (args := [.inr (.inr (some 203)), .inl i, .inl 1]) (n' := 317) (pc' := 32) (lo' := [some (.inr (.inr (some 203))), some (.inr (.inl t)), none, some (.inr (.inl c)), none, some (.inr (.inl h)), none, some (.inl i)]) (st' := []) (I := .invokevirtual 254) (pc0 := 29) (len := 3) rfl rfl rfl (e_mo_at hX hp_5 hp_6) ?_
        show WV _ _ _ 32 _ [.inl (mo_at v i 1)] _ _ _
        have hb_7 := n_mo_at (v := v) (i := i) (w := 1) hX hp_5 hp_6
        refine n_i2l (pc' := 33) (pc0 := 32) (len := 1) rfl (by first | assumption | omega | (unfold R32 at *; omega) | (unfold R64 at *; omega) | (simp only [R32, R64] at *; omega)) rfl ?_
        refine r_ex 1 (pc' := 34) (lo' := [some (.inr (.inr (some 203))), some (.inr (.inl t)), none, some (.inr (.inl c)), none, some (.inr (.inl h)), none, some (.inl i)]) (st' := [.inr (.inl c), .inr (.inl (mo_at v i 1))]) rfl ?_
        refine n_lc_ne (pc0 := 34) (len := 1) (pc1 := 35) (pc2 := 35) (len2 := 3) (t := 58) rfl rfl rfl (by first | assumption | omega | (unfold R32 at *; omega) | (unfold R64 at *; omega) | (simp only [R32, R64] at *; omega)) (by first | assumption | omega | (unfold R32 at *; omega) | (unfold R64 at *; omega) | (simp only [R32, R64] at *; omega)) (fun h_34 => ?_) (fun h_34 => ?_)
        · show WV _ _ _ 58 _ _ _ _ _
          rw [if_neg h_34] at hQ
          refine r_ex 2 (pc' := 3) (lo' := [some (.inr (.inr (some 203))), some (.inr (.inl t)), none, some (.inr (.inl c)), none, some (.inr (.inl h)), none, some (.inl (i + 1))]) (st' := []) rfl ?_
          refine ih v t c h (i + 1)  hX (by first | assumption | omega | (unfold R32 at *; omega) | (unfold R64 at *; omega) | (simp only [R32, R64] at *; omega)) (by first | assumption | omega | (unfold R32 at *; omega) | (unfold R64 at *; omega) | (simp only [R32, R64] at *; omega)) (by first | assumption | omega | (unfold R32 at *; omega) | (unfold R64 at *; omega) | (simp only [R32, R64] at *; omega)) (by first | assumption | omega | (unfold R32 at *; omega) | (unfold R64 at *; omega) | (simp only [R32, R64] at *; omega)) (by first | assumption | omega | (unfold R32 at *; omega) | (unfold R64 at *; omega) | (simp only [R32, R64] at *; omega)) hQ
        · show WV _ _ _ 38 _ _ _ _ _
          rw [if_pos h_34] at hQ
          refine r_ex 3 (pc' := 42) (lo' := [some (.inr (.inr (some 203))), some (.inr (.inl t)), none, some (.inr (.inl c)), none, some (.inr (.inl h)), none, some (.inl i)]) (st' := [.inl 2, .inl i, .inr (.inr (some 203))]) rfl ?_
          have hp_8 : 0 ≤ i ∧ i < 300 := (by first | assumption | omega | (unfold R32 at *; omega) | (unfold R64 at *; omega) | (simp only [R32, R64] at *; omega))
          have hp_9 : 0 ≤ (2 : Int) ∧ (2 : Int) < 5 := (by first | assumption | omega | (unfold R32 at *; omega) | (unfold R64 at *; omega) | (simp only [R32, R64] at *; omega))
          refine r_call (m := 254) (args := [.inr (.inr (some 203)), .inl i, .inl 2]) (n' := 317) (pc' := 45) (lo' := [some (.inr (.inr (some 203))), some (.inr (.inl t)), none, some (.inr (.inl c)), none, some (.inr (.inl h)), none, some (.inl i)]) (st' := []) (I := .invokevirtual 254) (pc0 := 42) (len := 3) rfl rfl rfl (e_mo_at hX hp_8 hp_9) ?_
          show WV _ _ _ 45 _ [.inl (mo_at v i 2)] _ _ _
          have hb_10 := n_mo_at (v := v) (i := i) (w := 2) hX hp_8 hp_9
          refine n_i2l (pc' := 46) (pc0 := 45) (len := 1) rfl (by first | assumption | omega | (unfold R32 at *; omega) | (unfold R64 at *; omega) | (simp only [R32, R64] at *; omega)) rfl ?_
          refine r_ex 1 (pc' := 48) (lo' := [some (.inr (.inr (some 203))), some (.inr (.inl t)), none, some (.inr (.inl c)), none, some (.inr (.inl h)), none, some (.inl i)]) (st' := [.inr (.inl h), .inr (.inl (mo_at v i 2))]) rfl ?_
          refine n_lc_ne (pc0 := 48) (len := 1) (pc1 := 49) (pc2 := 49) (len2 := 3) (t := 56) rfl rfl rfl (by first | assumption | omega | (unfold R32 at *; omega) | (unfold R64 at *; omega) | (simp only [R32, R64] at *; omega)) (by first | assumption | omega | (unfold R32 at *; omega) | (unfold R64 at *; omega) | (simp only [R32, R64] at *; omega)) (fun h_48 => ?_) (fun h_48 => ?_)
          · show WV _ _ _ 56 _ _ _ _ _
            rw [if_neg h_48] at hQ
            refine r_ex 1 (pc' := 57) (lo' := [some (.inr (.inr (some 203))), some (.inr (.inl t)), none, some (.inr (.inl c)), none, some (.inr (.inl h)), none, some (.inl i)]) (st' := [.inl 0]) rfl ?_
            refine r_ret (rr := some (.inl 0)) (I := .ireturn) (pc0 := 57) (len := 1) rfl rfl ?_
            exact hQ (by first | assumption | omega | (unfold R32 at *; omega) | (unfold R64 at *; omega) | (simp only [R32, R64] at *; omega))
          · show WV _ _ _ 52 _ _ _ _ _
            rw [if_pos h_48] at hQ
            refine r_ex 2 (pc' := 57) (lo' := [some (.inr (.inr (some 203))), some (.inr (.inl t)), none, some (.inr (.inl c)), none, some (.inr (.inl h)), none, some (.inl i)]) (st' := [.inl 1]) rfl ?_
            refine r_ret (rr := some (.inl 1)) (I := .ireturn) (pc0 := 57) (len := 1) rfl rfl ?_
            exact hQ (by first | assumption | omega | (unfold R32 at *; omega) | (unfold R64 at *; omega) | (simp only [R32, R64] at *; omega))

theorem w_mo_isStrike {X : PX} {d b : Nat} {v : VS} {t : Int} {c : Int} {h : Int} (hX : XI v) (hp_a : R64 t) (hp_b : R64 c) (hp_c : R64 h) {Q : Option PV → Nat → VS → Prop} (hQ : (0 ≤ (mo_isStrike v t c h) ∧ (mo_isStrike v t c h) ≤ 1) → Q (some (.inl (mo_isStrike v t c h))) b v) : WV X (d + 1) 317 0 [some (.inr (.inr (some 203))), some (.inr (.inl t)), none, some (.inr (.inl c)), none, some (.inr (.inl h)), none, none] [] b v Q := by
  rw [mo_isStrike] at hQ
  refine r_ex 2 (pc' := 3) (lo' := [some (.inr (.inr (some 203))), some (.inr (.inl t)), none, some (.inr (.inl c)), none, some (.inr (.inl h)), none, some (.inl 0)]) (st' := []) rfl ?_
  exact l_mo_isStrike_3 301 v t c h 0  hX (by first | assumption | omega | (unfold R32 at *; omega) | (unfold R64 at *; omega) | (simp only [R32, R64] at *; omega)) (by first | assumption | omega | (unfold R32 at *; omega) | (unfold R64 at *; omega) | (simp only [R32, R64] at *; omega)) (by first | assumption | omega | (unfold R32 at *; omega) | (unfold R64 at *; omega) | (simp only [R32, R64] at *; omega)) (by first | assumption | omega | (unfold R32 at *; omega) | (unfold R64 at *; omega) | (simp only [R32, R64] at *; omega)) (by first | assumption | omega | (unfold R32 at *; omega) | (unfold R64 at *; omega) | (simp only [R32, R64] at *; omega)) hQ

theorem e_mo_isStrike {X : PX} {d b : Nat} {v : VS} {t : Int} {c : Int} {h : Int} (hX : XI v) (hp_a : R64 t) (hp_b : R64 c) (hp_c : R64 h) : EvV X (d + 1) 317 [.inr (.inr (some 203)), .inr (.inl t), .inr (.inl c), .inr (.inl h)] b v (some (.inl (mo_isStrike v t c h))) b v := EvV.of (w_mo_isStrike hX hp_a hp_b hp_c (fun _ => ⟨rfl, rfl, rfl⟩))

theorem n_mo_isStrike {v : VS} {t : Int} {c : Int} {h : Int} (hX : XI v) (hp_a : R64 t) (hp_b : R64 c) (hp_c : R64 h) : 0 ≤ (mo_isStrike v t c h) ∧ (mo_isStrike v t c h) ≤ 1 := by
  have q : WV (0, fun _ => 0, none) (0 + 1) 317 0 [some (.inr (.inr (some 203))), some (.inr (.inl t)), none, some (.inr (.inl c)), none, some (.inr (.inl h)), none, none] [] 1 v (fun _ _ _ => 0 ≤ (mo_isStrike v t c h) ∧ (mo_isStrike v t c h) ≤ 1) := w_mo_isStrike (X := (0, fun _ => 0, none)) (d := 0) (b := 1) hX hp_a hp_b hp_c (fun q => q)
  obtain ⟨_, _, _, _, _, _, _, q⟩ := q
  exact q

noncomputable def mo_oddOf_2 : Nat → VS → Int → Int → Int
  | 0, v, s, i => 0
  | f + 1, v, s, i => (if (3 * i) < (v 205 ((s).toNat)) then (if (mo_isStrike v (v 206 ((((60 * s) + (3 * i))).toNat)) (v 206 (((((60 * s) + (3 * i)) + 1)).toNat)) (v 206 (((((60 * s) + (3 * i)) + 2)).toNat))) = 0 then i else (mo_oddOf_2 f v s (i + 1))) else (-1))
noncomputable def mo_oddOf (v : VS) (s : Int) : Int :=
  (mo_oddOf_2 21 v s 0)
theorem l_mo_oddOf_2 {X : PX} {d b : Nat} {Q : Option PV → Nat → VS → Prop}  : ∀ (f : Nat) (v : VS) (s : Int) (i : Int) (o3 : Option PV), XI v → (0 ≤ s ∧ s ≤ 3) → (0 ≤ i ∧ i ≤ 20) → (v 205 s.toNat % 3 = 0) → (20 < i + f) → ((-1 ≤ (mo_oddOf_2 f v s i) ∧ (mo_oddOf_2 f v s i) ≤ 20) → Q (some (.inl (mo_oddOf_2 f v s i))) b v) → WV X (d + 1 + 1) 316 2 [some (.inr (.inr (some 203))), some (.inl s), some (.inl i), o3] [] b v Q := by
  intro f
  induction f with
  | zero =>
    intro v s i o3 hX hi_0 hi_1 hi_2 hf hQ
    have hz205 : 0 ≤ v 205 s.toNat ∧ v 205 s.toNat ≤ 60 := hX 205 _
    exfalso
    omega
  | succ f ih =>
    intro v s i o3 hX hi_0 hi_1 hi_2 hf hQ
    rw [mo_oddOf_2] at hQ
    have hz205 : 0 ≤ v 205 s.toNat ∧ v 205 s.toNat ≤ 60 := hX 205 _
    refine r_ex 6 (pc' := 10) (lo' := [some (.inr (.inr (some 203))), some (.inl s), some (.inl i), o3]) (st' := [.inl s, .inr (.inr (some 205)), .inl (3 * i)]) rfl ?_
    refine r_iald2 (j := 0) (x := (v 205 ((s).toNat))) (pc' := 11) (pc0 := 10) (len := 1) rfl (s_205 _) (by first | assumption | omega | (unfold R32 at *; omega) | (unfold R64 at *; omega) | (simp only [R32, R64] at *; omega)) (by decide) rfl rfl ?_
    have hb_1 : 0 ≤ (v 205 ((s).toNat)) ∧ (v 205 ((s).toNat)) ≤ 60 := hX 205 ((s).toNat)
    refine n_ic_ge (pc0 := 11) (len := 3) (t := 60) rfl (by first | assumption | omega | (unfold R32 at *; omega) | (unfold R64 at *; omega) | (simp only [R32, R64] at *; omega)) (by first | assumption | omega | (unfold R32 at *; omega) | (unfold R64 at *; omega) | (simp only [R32, R64] at *; omega)) (fun h_11 => ?_) (fun h_11 => ?_)
    · show WV _ _ _ 60 _ _ _ _ _
      rw [if_neg h_11] at hQ
      refine r_ex 1 (pc' := 61) (lo' := [some (.inr (.inr (some 203))), some (.inl s), some (.inl i), o3]) (st' := [.inl (-1)]) rfl ?_
      refine r_ret (rr := some (.inl (-1))) (I := .ireturn) (pc0 := 61) (len := 1) rfl rfl ?_
      exact hQ (by first | assumption | omega | (unfold R32 at *; omega) | (unfold R64 at *; omega) | (simp only [R32, R64] at *; omega))
    · show WV _ _ _ 14 _ _ _ _ _
      rw [if_pos h_11] at hQ
      refine r_ex 12 (pc' := 29) (lo' := [some (.inr (.inr (some 203))), some (.inl s), some (.inl i), some (.inl ((60 * s) + (3 * i)))]) (st' := [.inl ((60 * s) + (3 * i)), .inr (.inr (some 206)), .inr (.inr (some 203))]) rfl ?_
      refine r_lald2 (x := (v 206 ((((60 * s) + (3 * i))).toNat))) (pc' := 30) (pc0 := 29) (len := 1) rfl (s_206 _) (by first | assumption | omega | (unfold R32 at *; omega) | (unfold R64 at *; omega) | (simp only [R32, R64] at *; omega)) (by decide) rfl rfl ?_
      have hb_2 : -9223372036854775808 ≤ (v 206 ((((60 * s) + (3 * i))).toNat)) ∧ (v 206 ((((60 * s) + (3 * i))).toNat)) ≤ 9223372036854775807 := hX 206 ((((60 * s) + (3 * i))).toNat)
      refine r_ex 5 (pc' := 37) (lo' := [some (.inr (.inr (some 203))), some (.inl s), some (.inl i), some (.inl ((60 * s) + (3 * i)))]) (st' := [.inl (((60 * s) + (3 * i)) + 1), .inr (.inr (some 206)), .inr (.inl (v 206 ((((60 * s) + (3 * i))).toNat))), .inr (.inr (some 203))]) rfl ?_
      refine r_lald2 (x := (v 206 (((((60 * s) + (3 * i)) + 1)).toNat))) (pc' := 38) (pc0 := 37) (len := 1) rfl (s_206 _) (by first | assumption | omega | (unfold R32 at *; omega) | (unfold R64 at *; omega) | (simp only [R32, R64] at *; omega)) (by decide) rfl rfl ?_
      have hb_3 : -9223372036854775808 ≤ (v 206 (((((60 * s) + (3 * i)) + 1)).toNat)) ∧ (v 206 (((((60 * s) + (3 * i)) + 1)).toNat)) ≤ 9223372036854775807 := hX 206 (((((60 * s) + (3 * i)) + 1)).toNat)
      refine r_ex 5 (pc' := 45) (lo' := [some (.inr (.inr (some 203))), some (.inl s), some (.inl i), some (.inl ((60 * s) + (3 * i)))]) (st' := [.inl (((60 * s) + (3 * i)) + 2), .inr (.inr (some 206)), .inr (.inl (v 206 (((((60 * s) + (3 * i)) + 1)).toNat))), .inr (.inl (v 206 ((((60 * s) + (3 * i))).toNat))), .inr (.inr (some 203))]) rfl ?_
      refine r_lald2 (x := (v 206 (((((60 * s) + (3 * i)) + 2)).toNat))) (pc' := 46) (pc0 := 45) (len := 1) rfl (s_206 _) (by first | assumption | omega | (unfold R32 at *; omega) | (unfold R64 at *; omega) | (simp only [R32, R64] at *; omega)) (by decide) rfl rfl ?_
      have hb_4 : -9223372036854775808 ≤ (v 206 (((((60 * s) + (3 * i)) + 2)).toNat)) ∧ (v 206 (((((60 * s) + (3 * i)) + 2)).toNat)) ≤ 9223372036854775807 := hX 206 (((((60 * s) + (3 * i)) + 2)).toNat)
      have hp_5 : R64 (v 206 ((((60 * s) + (3 * i))).toNat)) := (by first | assumption | omega | (unfold R32 at *; omega) | (unfold R64 at *; omega) | (simp only [R32, R64] at *; omega))
      have hp_6 : R64 (v 206 (((((60 * s) + (3 * i)) + 1)).toNat)) := (by first | assumption | omega | (unfold R32 at *; omega) | (unfold R64 at *; omega) | (simp only [R32, R64] at *; omega))
      have hp_7 : R64 (v 206 (((((60 * s) + (3 * i)) + 2)).toNat)) := (by first | assumption | omega | (unfold R32 at *; omega) | (unfold R64 at *; omega) | (simp only [R32, R64] at *; omega))
      refine r_call (m := 317) (args := [.inr (.inr (some 203)), .inr (.inl (v 206 ((((60 * s) + (3 * i))).toNat))), .inr (.inl (v 206 (((((60 * s) + (3 * i)) + 1)).toNat))), .inr (.inl (v 206 (((((60 * s) + (3 * i)) + 2)).toNat)))]) (n' := 316) (pc' := 49) (lo' := [some (.inr (.inr (some 203))), some (.inl s), some (.inl i), some (.inl ((60 * s) + (3 * i)))]) (st' := []) (I := .invokevirtual 317) (pc0 := 46) (len := 3) rfl rfl rfl (e_mo_isStrike hX hp_5 hp_6 hp_7) ?_
      show WV _ _ _ 49 _ [.inl (mo_isStrike v (v 206 ((((60 * s) + (3 * i))).toNat)) (v 206 (((((60 * s) + (3 * i)) + 1)).toNat)) (v 206 (((((60 * s) + (3 * i)) + 2)).toNat)))] _ _ _
      have hb_8 := n_mo_isStrike (v := v) (t := (v 206 ((((60 * s) + (3 * i))).toNat))) (c := (v 206 (((((60 * s) + (3 * i)) + 1)).toNat))) (h := (v 206 (((((60 * s) + (3 * i)) + 2)).toNat))) hX hp_5 hp_6 hp_7
      refine n_if_ne (pc0 := 49) (len := 3) (t := 54) rfl (by first | assumption | omega | (unfold R32 at *; omega) | (unfold R64 at *; omega) | (simp only [R32, R64] at *; omega)) (fun h_49 => ?_) (fun h_49 => ?_)
      · show WV _ _ _ 54 _ _ _ _ _
        rw [if_neg h_49] at hQ
        refine r_ex 2 (pc' := 2) (lo' := [some (.inr (.inr (some 203))), some (.inl s), some (.inl (i + 1)), some (.inl ((60 * s) + (3 * i)))]) (st' := []) rfl ?_
        refine ih v s (i + 1) _ hX (by first | assumption | omega | (unfold R32 at *; omega) | (unfold R64 at *; omega) | (simp only [R32, R64] at *; omega)) (by first | assumption | omega | (unfold R32 at *; omega) | (unfold R64 at *; omega) | (simp only [R32, R64] at *; omega)) (by first | assumption | omega | (unfold R32 at *; omega) | (unfold R64 at *; omega) | (simp only [R32, R64] at *; omega)) (by first | assumption | omega | (unfold R32 at *; omega) | (unfold R64 at *; omega) | (simp only [R32, R64] at *; omega)) hQ
      · show WV _ _ _ 52 _ _ _ _ _
        rw [if_pos h_49] at hQ
        refine r_ex 1 (pc' := 53) (lo' := [some (.inr (.inr (some 203))), some (.inl s), some (.inl i), some (.inl ((60 * s) + (3 * i)))]) (st' := [.inl i]) rfl ?_
        refine r_ret (rr := some (.inl i)) (I := .ireturn) (pc0 := 53) (len := 1) rfl rfl ?_
        exact hQ (by first | assumption | omega | (unfold R32 at *; omega) | (unfold R64 at *; omega) | (simp only [R32, R64] at *; omega))

theorem w_mo_oddOf {X : PX} {d b : Nat} {v : VS} {s : Int} (hX : XI v) (hp_a : 0 ≤ s ∧ s ≤ 3) (hp_b : v 205 s.toNat % 3 = 0) {Q : Option PV → Nat → VS → Prop} (hQ : (-1 ≤ (mo_oddOf v s) ∧ (mo_oddOf v s) ≤ 20) → Q (some (.inl (mo_oddOf v s))) b v) : WV X (d + 1 + 1) 316 0 [some (.inr (.inr (some 203))), some (.inl s), none, none] [] b v Q := by
  rw [mo_oddOf] at hQ
  refine r_ex 2 (pc' := 2) (lo' := [some (.inr (.inr (some 203))), some (.inl s), some (.inl 0), none]) (st' := []) rfl ?_
  exact l_mo_oddOf_2 21 v s 0 _ hX (by first | assumption | omega | (unfold R32 at *; omega) | (unfold R64 at *; omega) | (simp only [R32, R64] at *; omega)) (by first | assumption | omega | (unfold R32 at *; omega) | (unfold R64 at *; omega) | (simp only [R32, R64] at *; omega)) (by first | assumption | omega | (unfold R32 at *; omega) | (unfold R64 at *; omega) | (simp only [R32, R64] at *; omega)) (by first | assumption | omega | (unfold R32 at *; omega) | (unfold R64 at *; omega) | (simp only [R32, R64] at *; omega)) hQ

theorem e_mo_oddOf {X : PX} {d b : Nat} {v : VS} {s : Int} (hX : XI v) (hp_a : 0 ≤ s ∧ s ≤ 3) (hp_b : v 205 s.toNat % 3 = 0) : EvV X (d + 1 + 1) 316 [.inr (.inr (some 203)), .inl s] b v (some (.inl (mo_oddOf v s))) b v := EvV.of (w_mo_oddOf hX hp_a hp_b (fun _ => ⟨rfl, rfl, rfl⟩))

theorem n_mo_oddOf {v : VS} {s : Int} (hX : XI v) (hp_a : 0 ≤ s ∧ s ≤ 3) (hp_b : v 205 s.toNat % 3 = 0) : -1 ≤ (mo_oddOf v s) ∧ (mo_oddOf v s) ≤ 20 := by
  have q : WV (0, fun _ => 0, none) (0 + 1 + 1) 316 0 [some (.inr (.inr (some 203))), some (.inl s), none, none] [] 1 v (fun _ _ _ => -1 ≤ (mo_oddOf v s) ∧ (mo_oddOf v s) ≤ 20) := w_mo_oddOf (X := (0, fun _ => 0, none)) (d := 0) (b := 1) hX hp_a hp_b (fun q => q)
  obtain ⟨_, _, _, _, _, _, _, q⟩ := q
  exact q

noncomputable def mo_odd (v : VS) (s : Int) : Int × VS :=
  (if (mo_whyNot (v2 v 203 0 0) s) = 0 then ((mo_oddOf (mo_told (v2 v 203 0 0)) s), (mo_told (v2 v 203 0 0))) else ((mo_whyNot (v2 v 203 0 0) s), (v2 v 203 0 0)))
theorem w_mo_odd {X : PX} {d b : Nat} {v : VS} {s : Int} (hX : XI v) (hp_a : R32 s) (hp_b : CF v) {Q : Option PV → Nat → VS → Prop} (hQ : XI (mo_odd v s).2 → Q (some (.inl (mo_odd v s).1)) b (mo_odd v s).2) : WV X (d + 1 + 1 + 1 + 1 + 1 + 1) 320 0 [some (.inr (.inr (some 203))), some (.inl s), none] [] b v Q := by
  rw [mo_odd] at hQ
  refine r_ex 2 (pc' := 2) (lo' := [some (.inr (.inr (some 203))), some (.inl s), none]) (st' := [.inl 0, .inr (.inr (some 203))]) rfl ?_
  refine r_puti2 (j := 0) (pc' := 5) (pc0 := 2) (len := 3) rfl (s_203 _) rfl rfl rfl (Or.inl rfl) rfl rfl ?_
  have hX_1 : XI (v2 v 203 0 0) := XI.put hX trivial
  refine r_ex 2 (pc' := 7) (lo' := [some (.inr (.inr (some 203))), some (.inl s), none]) (st' := [.inl s, .inr (.inr (some 203))]) rfl ?_
  have hp_2 : R32 s := (by first | assumption | omega | (unfold R32 at *; omega) | (unfold R64 at *; omega) | (simp only [R32, R64] at *; omega))
  refine r_call (m := 307) (args := [.inr (.inr (some 203)), .inl s]) (n' := 320) (pc' := 10) (lo' := [some (.inr (.inr (some 203))), some (.inl s), none]) (st' := []) (I := .invokevirtual 307) (pc0 := 7) (len := 3) rfl rfl rfl (e_mo_whyNot hX_1 hp_2) ?_
  show WV _ _ _ 10 _ [.inl (mo_whyNot (v2 v 203 0 0) s)] _ _ _
  have hb_3 := n_mo_whyNot (v := (v2 v 203 0 0)) (s := s) hX_1 hp_2
  refine r_ex 2 (pc' := 12) (lo' := [some (.inr (.inr (some 203))), some (.inl s), some (.inl (mo_whyNot (v2 v 203 0 0) s))]) (st' := [.inl (mo_whyNot (v2 v 203 0 0) s)]) rfl ?_
  refine n_if_eq (pc0 := 12) (len := 3) (t := 17) rfl (by first | assumption | omega | (unfold R32 at *; omega) | (unfold R64 at *; omega) | (simp only [R32, R64] at *; omega)) (fun h_12 => ?_) (fun h_12 => ?_)
  · show WV _ _ _ 17 _ _ _ _ _
    rw [if_pos h_12] at hQ
    have hr_ := why_0 (v := v2 v 203 0 0) (XI.put hX trivial) h_12
    refine r_ex 1 (pc' := 18) (lo' := [some (.inr (.inr (some 203))), some (.inl s), some (.inl (mo_whyNot (v2 v 203 0 0) s))]) (st' := [.inr (.inr (some 203))]) rfl ?_
    have hp_4 : CF (v2 v 203 0 0) := show CF (v2 v 203 0 0) from (show CF (v2 v 203 0 0) from CF.of hp_b (fun k h1 h2 => by rw [v2_row (by omega)]))
    refine r_call (m := 246) (args := [.inr (.inr (some 203))]) (n' := 320) (pc' := 21) (lo' := [some (.inr (.inr (some 203))), some (.inl s), some (.inl (mo_whyNot (v2 v 203 0 0) s))]) (st' := []) (I := .invokevirtual 246) (pc0 := 18) (len := 3) rfl rfl rfl (e_mo_told hX_1 hp_4) ?_
    show WV _ _ _ 21 _ [] _ (mo_told (v2 v 203 0 0)) _
    have hX_5 : XI (mo_told (v2 v 203 0 0)) := i_mo_told (v := (v2 v 203 0 0)) hX_1 hp_4
    refine r_ex 2 (pc' := 23) (lo' := [some (.inr (.inr (some 203))), some (.inl s), some (.inl (mo_whyNot (v2 v 203 0 0) s))]) (st' := [.inl s, .inr (.inr (some 203))]) rfl ?_
    have hp_6 : 0 ≤ s ∧ s ≤ 3 := (by first | assumption | omega | (unfold R32 at *; omega) | (unfold R64 at *; omega) | (simp only [R32, R64] at *; omega))
    have hp_7 : (mo_told (v2 v 203 0 0)) 205 s.toNat % 3 = 0 := (by rw [o_mo_told (by omega)]; exact hr_.2.2.2.1)
    refine r_call (m := 316) (args := [.inr (.inr (some 203)), .inl s]) (n' := 320) (pc' := 26) (lo' := [some (.inr (.inr (some 203))), some (.inl s), some (.inl (mo_whyNot (v2 v 203 0 0) s))]) (st' := []) (I := .invokevirtual 316) (pc0 := 23) (len := 3) rfl rfl rfl (e_mo_oddOf hX_5 hp_6 hp_7) ?_
    show WV _ _ _ 26 _ [.inl (mo_oddOf (mo_told (v2 v 203 0 0)) s)] _ _ _
    have hb_8 := n_mo_oddOf (v := (mo_told (v2 v 203 0 0))) (s := s) hX_5 hp_6 hp_7
    refine r_ret (rr := some (.inl (mo_oddOf (mo_told (v2 v 203 0 0)) s))) (I := .ireturn) (pc0 := 26) (len := 1) rfl rfl ?_
    exact hQ hX_5 
  · show WV _ _ _ 15 _ _ _ _ _
    rw [if_neg h_12] at hQ
    refine r_ex 1 (pc' := 16) (lo' := [some (.inr (.inr (some 203))), some (.inl s), some (.inl (mo_whyNot (v2 v 203 0 0) s))]) (st' := [.inl (mo_whyNot (v2 v 203 0 0) s)]) rfl ?_
    refine r_ret (rr := some (.inl (mo_whyNot (v2 v 203 0 0) s))) (I := .ireturn) (pc0 := 16) (len := 1) rfl rfl ?_
    exact hQ hX_1 

theorem e_mo_odd {X : PX} {d b : Nat} {v : VS} {s : Int} (hX : XI v) (hp_a : R32 s) (hp_b : CF v) : EvV X (d + 1 + 1 + 1 + 1 + 1 + 1) 320 [.inr (.inr (some 203)), .inl s] b v (some (.inl (mo_odd v s).1)) b ((mo_odd v s).2) := EvV.of (w_mo_odd hX hp_a hp_b (fun _ => ⟨rfl, rfl, rfl⟩))

theorem i_mo_odd {v : VS} {s : Int} (hX : XI v) (hp_a : R32 s) (hp_b : CF v) : XI ((mo_odd v s).2) := by
  have q : WV (0, fun _ => 0, none) (0 + 1 + 1 + 1 + 1 + 1 + 1) 320 0 [some (.inr (.inr (some 203))), some (.inl s), none] [] 1 v (fun _ _ _ => XI ((mo_odd v s).2)) := w_mo_odd (X := (0, fun _ => 0, none)) (d := 0) (b := 1) hX hp_a hp_b (fun q => q)
  obtain ⟨_, _, _, _, _, _, _, q⟩ := q
  exact q

theorem o_mo_odd {rk : Nat} {v : VS} {s : Int} (hk : (rk < 203 ∨ 203 < rk) ∧ (rk < 219 ∨ 231 < rk)) : (mo_odd v s).2 rk = v rk := by
  unfold mo_odd
  by_cases hc_ : (mo_whyNot (v2 v 203 0 0) s) = 0
  · rw [if_pos hc_] <;> clear hc_
    all_goals (show (mo_told (v2 v 203 0 0)) rk = _)
    all_goals (rw [o_mo_told (by omega), v2_row (by omega)])
  · rw [if_neg hc_] <;> clear hc_
    all_goals (show (v2 v 203 0 0) rk = _)
    all_goals (rw [v2_row (by omega)])

noncomputable def mo_whyNotBegan (v : VS) (s : Int) (m : Int) (h : Int) : Int :=
  (if 0 ≤ m ∧ m < (v 210 1) then (if 1 ≤ h ∧ h ≤ 99 then (mo_whyNot v s) else (-2)) else (-2))
theorem w_mo_whyNotBegan {X : PX} {d b : Nat} {v : VS} {s : Int} {m : Int} {h : Int} (hX : XI v) (hp_a : R32 s) (hp_b : R32 m) (hp_c : R32 h) {Q : Option PV → Nat → VS → Prop} (hQ : ((mo_whyNotBegan v s m h) = 0 ∨ (mo_whyNotBegan v s m h) = -2 ∨ (mo_whyNotBegan v s m h) = -6) → Q (some (.inl (mo_whyNotBegan v s m h))) b v) : WV X (d + 1 + 1 + 1) 314 0 [some (.inr (.inr (some 203))), some (.inl s), some (.inl m), some (.inl h)] [] b v Q := by
  rw [mo_whyNotBegan] at hQ
  refine r_ex 2 (pc' := 2) (lo' := [some (.inr (.inr (some 203))), some (.inl s), some (.inl m), some (.inl h)]) (st' := [.inl m, .inr (.inr (some 203))]) rfl ?_
  refine n_i2l (pc' := 3) (pc0 := 2) (len := 1) rfl (by first | assumption | omega | (unfold R32 at *; omega) | (unfold R64 at *; omega) | (simp only [R32, R64] at *; omega)) rfl ?_
  have hp_1 : R64 m := (by first | assumption | omega | (unfold R32 at *; omega) | (unfold R64 at *; omega) | (simp only [R32, R64] at *; omega))
  have hb_2 : 0 ≤ (v 210 1) ∧ (v 210 1) ≤ 300 := hX 210 1
  refine r_callb (P := 0 ≤ m ∧ m < (v 210 1)) (m := 240) (args := [.inr (.inr (some 203)), .inr (.inl m)]) (n' := 314) (pc' := 6) (lo' := [some (.inr (.inr (some 203))), some (.inl s), some (.inl m), some (.inl h)]) (st' := []) (I := .invokevirtual 240) (pc0 := 3) (len := 3) rfl rfl rfl (e_mo_isSecond hX hp_1) (fun h_3 => ?_) (fun h_3 => ?_)
  · show WV _ _ _ 6 _ _ _ _ _
    rw [if_pos h_3] at hQ
    refine r_ex 2 (pc' := 10) (lo' := [some (.inr (.inr (some 203))), some (.inl s), some (.inl m), some (.inl h)]) (st' := [.inl h]) rfl ?_
    refine n_i2l (pc' := 11) (pc0 := 10) (len := 1) rfl (by first | assumption | omega | (unfold R32 at *; omega) | (unfold R64 at *; omega) | (simp only [R32, R64] at *; omega)) rfl ?_
    have hp_3 : R64 h := (by first | assumption | omega | (unfold R32 at *; omega) | (unfold R64 at *; omega) | (simp only [R32, R64] at *; omega))
    refine r_callb (P := 1 ≤ h ∧ h ≤ 99) (m := 264) (args := [.inr (.inl h)]) (n' := 314) (pc' := 14) (lo' := [some (.inr (.inr (some 203))), some (.inl s), some (.inl m), some (.inl h)]) (st' := []) (I := .invokestatic 264) (pc0 := 11) (len := 3) rfl rfl rfl (e_mo_isHour hX hp_3) (fun h_11 => ?_) (fun h_11 => ?_)
    · show WV _ _ _ 14 _ _ _ _ _
      rw [if_pos h_11] at hQ
      refine r_ex 3 (pc' := 19) (lo' := [some (.inr (.inr (some 203))), some (.inl s), some (.inl m), some (.inl h)]) (st' := [.inl s, .inr (.inr (some 203))]) rfl ?_
      have hp_4 : R32 s := (by first | assumption | omega | (unfold R32 at *; omega) | (unfold R64 at *; omega) | (simp only [R32, R64] at *; omega))
      refine r_call (m := 307) (args := [.inr (.inr (some 203)), .inl s]) (n' := 314) (pc' := 22) (lo' := [some (.inr (.inr (some 203))), some (.inl s), some (.inl m), some (.inl h)]) (st' := []) (I := .invokevirtual 307) (pc0 := 19) (len := 3) rfl rfl rfl (e_mo_whyNot hX hp_4) ?_
      show WV _ _ _ 22 _ [.inl (mo_whyNot v s)] _ _ _
      have hb_5 := n_mo_whyNot (v := v) (s := s) hX hp_4
      refine r_ex 1 (pc' := 27) (lo' := [some (.inr (.inr (some 203))), some (.inl s), some (.inl m), some (.inl h)]) (st' := [.inl (mo_whyNot v s)]) rfl ?_
      refine r_ret (rr := some (.inl (mo_whyNot v s))) (I := .ireturn) (pc0 := 27) (len := 1) rfl rfl ?_
      exact hQ (by first | assumption | omega | (unfold R32 at *; omega) | (unfold R64 at *; omega) | (simp only [R32, R64] at *; omega))
    · show WV _ _ _ 14 _ _ _ _ _
      rw [if_neg h_11] at hQ
      refine r_ex 2 (pc' := 27) (lo' := [some (.inr (.inr (some 203))), some (.inl s), some (.inl m), some (.inl h)]) (st' := [.inl (-2)]) rfl ?_
      refine r_ret (rr := some (.inl (-2))) (I := .ireturn) (pc0 := 27) (len := 1) rfl rfl ?_
      exact hQ (by first | assumption | omega | (unfold R32 at *; omega) | (unfold R64 at *; omega) | (simp only [R32, R64] at *; omega))
  · show WV _ _ _ 6 _ _ _ _ _
    rw [if_neg h_3] at hQ
    refine r_ex 2 (pc' := 27) (lo' := [some (.inr (.inr (some 203))), some (.inl s), some (.inl m), some (.inl h)]) (st' := [.inl (-2)]) rfl ?_
    refine r_ret (rr := some (.inl (-2))) (I := .ireturn) (pc0 := 27) (len := 1) rfl rfl ?_
    exact hQ (by first | assumption | omega | (unfold R32 at *; omega) | (unfold R64 at *; omega) | (simp only [R32, R64] at *; omega))

theorem e_mo_whyNotBegan {X : PX} {d b : Nat} {v : VS} {s : Int} {m : Int} {h : Int} (hX : XI v) (hp_a : R32 s) (hp_b : R32 m) (hp_c : R32 h) : EvV X (d + 1 + 1 + 1) 314 [.inr (.inr (some 203)), .inl s, .inl m, .inl h] b v (some (.inl (mo_whyNotBegan v s m h))) b v := EvV.of (w_mo_whyNotBegan hX hp_a hp_b hp_c (fun _ => ⟨rfl, rfl, rfl⟩))

theorem n_mo_whyNotBegan {v : VS} {s : Int} {m : Int} {h : Int} (hX : XI v) (hp_a : R32 s) (hp_b : R32 m) (hp_c : R32 h) : (mo_whyNotBegan v s m h) = 0 ∨ (mo_whyNotBegan v s m h) = -2 ∨ (mo_whyNotBegan v s m h) = -6 := by
  have q : WV (0, fun _ => 0, none) (0 + 1 + 1 + 1) 314 0 [some (.inr (.inr (some 203))), some (.inl s), some (.inl m), some (.inl h)] [] 1 v (fun _ _ _ => (mo_whyNotBegan v s m h) = 0 ∨ (mo_whyNotBegan v s m h) = -2 ∨ (mo_whyNotBegan v s m h) = -6) := w_mo_whyNotBegan (X := (0, fun _ => 0, none)) (d := 0) (b := 1) hX hp_a hp_b hp_c (fun q => q)
  obtain ⟨_, _, _, _, _, _, _, q⟩ := q
  exact q
