/-! rows and logs -/
def TH (v : VS) (q : Nat) : Prop := v (107 + 2 * q) 2 % 3 = 0 ∧ ∀ i : Nat, i % 3 = 0 → (i : Int) + 2 < v (107 + 2 * q) 2 → (0 ≤ v (108 + 2 * q) i ∧ v (108 + 2 * q) i < 300) ∧ (0 ≤ v (108 + 2 * q) (i + 1) ∧ v (108 + 2 * q) (i + 1) < 9)
def TS (v : VS) (q : Nat) : Prop := ∀ i : Nat, (i : Int) < v (107 + 2 * q) 2 → 0 ≤ v (108 + 2 * q) i ∧ v (108 + 2 * q) i < 300
theorem TH.of {v v' : VS} {q : Nat} (h : TH v q) (e1 : v' (107 + 2 * q) = v (107 + 2 * q)) (e2 : v' (108 + 2 * q) = v (108 + 2 * q)) : TH v' q := by
  unfold TH at *
  rw [e1, e2]
  exact h
theorem TS.of {v v' : VS} {q : Nat} (h : TS v q) (e1 : v' (107 + 2 * q) = v (107 + 2 * q)) (e2 : v' (108 + 2 * q) = v (108 + 2 * q)) : TS v' q := by
  unfold TS at *
  rw [e1, e2]
  exact h
theorem TH.at {v : VS} {q : Nat} (h : TH v q) {i : Int} (h0 : 0 ≤ i) (h3 : i % 3 = 0) (hl : i < v (107 + 2 * q) 2) : 0 ≤ v (108 + 2 * q) i.toNat ∧ v (108 + 2 * q) i.toNat < 300 := by
  have h1 := h.1
  exact (h.2 i.toNat (by omega) (by omega)).1
theorem TH.at1 {v : VS} {q : Nat} (h : TH v q) {i : Int} (h0 : 0 ≤ i) (h3 : i % 3 = 0) (hl : i + 2 < v (107 + 2 * q) 2) : 0 ≤ v (108 + 2 * q) (i + 1).toNat ∧ v (108 + 2 * q) (i + 1).toNat < 9 := by
  have := (h.2 i.toNat (by omega) (by omega)).2
  rw [show (i + 1).toNat = i.toNat + 1 by omega]
  exact this
theorem threes_loop {v : VS} {q : Nat} {s c : Int} : ∀ (f : Nat) (i : Int), cl_hasThrees_13 f v q s c i = 1 → 0 ≤ i → i % 3 = 0 → ∀ j : Nat, j % 3 = 0 → i ≤ j → (j : Int) + 2 < v (107 + 2 * q) 2 → (0 ≤ v (108 + 2 * q) j ∧ v (108 + 2 * q) j < s) ∧ (0 ≤ v (108 + 2 * q) (j + 1) ∧ v (108 + 2 * q) (j + 1) < c) := by
  intro f
  induction f with
  | zero => intro i h; exact absurd h (by show ¬ (0 : Int) = 1; omega)
  | succ f ih =>
    intro i h h0 h3 j hj3 hij hj
    rw [cl_hasThrees_13] at h
    rw [if_pos (by omega)] at h
    split at h
    · rename_i q1
      split at h
      · rename_i q2
        by_cases e : (j : Int) = i
        · have e1 : i.toNat = j := by omega
          have e2 : (i + 1).toNat = j + 1 := by omega
          rw [e1] at q1
          rw [e2] at q2
          exact ⟨q1, q2⟩
        · exact ih (i + 3) h (by omega) (by omega) j hj3 (by omega) hj
      · exact absurd h (by omega)
    · exact absurd h (by omega)
theorem threes {v : VS} {q : Nat} {s c : Int} (h : ¬ cl_hasThrees v q s c = 0) (h01 : 0 ≤ cl_hasThrees v q s c ∧ cl_hasThrees v q s c ≤ 1) (hs : s ≤ 300) (hc : c ≤ 9) : TH v q := by
  have h1 : cl_hasThrees v q s c = 1 := by omega
  unfold cl_hasThrees at h1
  split at h1
  · rename_i h3
    refine ⟨h3, fun i hi hl => ?_⟩
    have := threes_loop _ _ h1 (by omega) (by omega) i hi (by omega) hl
    omega
  · exact absurd h1 (by omega)
theorem seconds_loop {v : VS} {q : Nat} {s : Int} : ∀ (f : Nat) (i : Int), cl_hasSeconds_2 f v q s i = 1 → 0 ≤ i → ∀ j : Nat, i ≤ j → (j : Int) < v (107 + 2 * q) 2 → (0 ≤ v (108 + 2 * q) j ∧ v (108 + 2 * q) j < s) := by
  intro f
  induction f with
  | zero => intro i h; exact absurd h (by show ¬ (0 : Int) = 1; omega)
  | succ f ih =>
    intro i h h0 j hij hj
    rw [cl_hasSeconds_2] at h
    rw [if_pos (by omega)] at h
    split at h
    · rename_i q1
      by_cases e : (j : Int) = i
      · have e1 : i.toNat = j := by omega
        rw [e1] at q1
        exact q1
      · exact ih (i + 1) h (by omega) j (by omega) hj
    · exact absurd h (by omega)
theorem seconds {v : VS} {q : Nat} {s : Int} (h : ¬ cl_hasSeconds v q s = 0) (h01 : 0 ≤ cl_hasSeconds v q s ∧ cl_hasSeconds v q s ≤ 1) (hs : s ≤ 300) : TS v q := by
  have h1 : cl_hasSeconds v q s = 1 := by omega
  unfold cl_hasSeconds at h1
  intro i hl
  have := seconds_loop _ _ h1 (by omega) i (by omega) hl
  omega

def cl_refusal (v : VS) (s : Int) : Int :=
  (if 0 ≤ s ∧ s < 4 then (if 0 < v 33 2 then (if (v (107 + 2 * (s).toNat) 0) = 0 then (-6) else (if (cl_hasThrees v ((s).toNat) (v 33 1) (v 33 0)) = 0 then (-2) else 0)) else (-2)) else (-2))
theorem w_cl_refusal {X : PX} {d b : Nat} {v : VS} {s : Int} (hX : XI v) (hp_a : R32 s) {Q : Option PV → Nat → VS → Prop} (hQ : ((cl_refusal v s) = 0 ∨ (cl_refusal v s) = -2 ∨ (cl_refusal v s) = -6) → Q (some (.inl (cl_refusal v s))) b v) : WV X (d + 1 + 1) 162 0 [some (.inr (.inr (some 0))), some (.inl s), none] [] b v Q := by
  rw [cl_refusal] at hQ
  refine r_ex 1 (pc' := 1) (lo' := [some (.inr (.inr (some 0))), some (.inl s), none]) (st' := [.inl s]) rfl ?_
  have hp_1 : R32 s := (by first | assumption | omega | (unfold R32 at *; omega) | (unfold R64 at *; omega) | (simp only [R32, R64] at *; omega))
  refine r_callb (P := 0 ≤ s ∧ s < 4) (m := 163) (args := [.inl s]) (n' := 162) (pc' := 4) (lo' := [some (.inr (.inr (some 0))), some (.inl s), none]) (st' := []) (I := .invokestatic 163) (pc0 := 1) (len := 3) rfl rfl rfl (e_cl_isSlot hX hp_1) (fun h_1 => ?_) (fun h_1 => ?_)
  · show WV _ _ _ 4 _ _ _ _ _
    rw [if_pos h_1] at hQ
    refine r_ex 2 (pc' := 8) (lo' := [some (.inr (.inr (some 0))), some (.inl s), none]) (st' := [.inr (.inr (some 0))]) rfl ?_
    have hb_2 : 0 ≤ v 33 2 ∧ v 33 2 ≤ 2001 := hX 33 2
    refine r_callb (P := 0 < v 33 2) (m := 71) (args := [.inr (.inr (some 0))]) (n' := 162) (pc' := 11) (lo' := [some (.inr (.inr (some 0))), some (.inl s), none]) (st' := []) (I := .invokevirtual 71) (pc0 := 8) (len := 3) rfl rfl rfl (e_cl_hasBay hX) (fun h_8 => ?_) (fun h_8 => ?_)
    · show WV _ _ _ 11 _ _ _ _ _
      rw [if_pos h_8] at hQ
      refine r_ex 4 (pc' := 22) (lo' := [some (.inr (.inr (some 0))), some (.inl s), none]) (st' := [.inl s, .inr (.inr (some 106))]) rfl ?_
      refine r_aald2 (z := some (107 + 2 * (s).toNat)) (pc' := 23) (pc0 := 22) (len := 1) rfl (s_106 _) (Or.inl rfl) (by first | assumption | omega | (unfold R32 at *; omega) | (unfold R64 at *; omega) | (simp only [R32, R64] at *; omega)) (by decide) (slot_at (by first | assumption | omega)) rfl ?_
      refine r_ex 2 (pc' := 25) (lo' := [some (.inr (.inr (some 0))), some (.inl s), some (.inr (.inr (some (107 + 2 * (s).toNat))))]) (st' := [.inr (.inr (some (107 + 2 * (s).toNat)))]) rfl ?_
      refine r_geti2 (x := (v (107 + 2 * (s).toNat) 0)) (j := 0) (pc' := 28) (pc0 := 25) (len := 3) rfl (s_slot _ (by first | assumption | omega)) rfl rfl rfl (by decide) rfl rfl ?_
      have hb_3 : 0 ≤ (v (107 + 2 * (s).toNat) 0) ∧ (v (107 + 2 * (s).toNat) 0) ≤ 1 := XI_slot0 hX (by first | assumption | omega)
      refine n_if_ne (pc0 := 28) (len := 3) (t := 34) rfl (by first | assumption | omega | (unfold R32 at *; omega) | (unfold R64 at *; omega) | (simp only [R32, R64] at *; omega)) (fun h_28 => ?_) (fun h_28 => ?_)
      · show WV _ _ _ 34 _ _ _ _ _
        rw [if_neg h_28] at hQ
        refine r_ex 7 (pc' := 49) (lo' := [some (.inr (.inr (some 0))), some (.inl s), some (.inr (.inr (some (107 + 2 * (s).toNat))))]) (st' := [.inl (v 33 0), .inl (v 33 1), .inr (.inr (some (107 + 2 * (s).toNat)))]) rfl ?_
        have hb_4 : 0 ≤ (v 33 1) ∧ (v 33 1) ≤ 300 := hX 33 1
        have hb_5 : 0 ≤ (v 33 0) ∧ (v 33 0) ≤ 9 := hX 33 0
        have hp_6 : ((s).toNat) < 4 := (by first | assumption | omega | (unfold R32 at *; omega) | (unfold R64 at *; omega) | (simp only [R32, R64] at *; omega))
        have hp_7 : R32 (v 33 1) := (by first | assumption | omega | (unfold R32 at *; omega) | (unfold R64 at *; omega) | (simp only [R32, R64] at *; omega))
        have hp_8 : R32 (v 33 0) := (by first | assumption | omega | (unfold R32 at *; omega) | (unfold R64 at *; omega) | (simp only [R32, R64] at *; omega))
        refine r_call (m := 164) (args := [.inr (.inr (some (107 + 2 * (s).toNat))), .inl (v 33 1), .inl (v 33 0)]) (n' := 162) (pc' := 52) (lo' := [some (.inr (.inr (some 0))), some (.inl s), some (.inr (.inr (some (107 + 2 * (s).toNat))))]) (st' := []) (I := .invokevirtual 164) (pc0 := 49) (len := 3) rfl (cs_slot (by first | assumption | omega) rfl rfl rfl (Nat.le_of_ble_eq_true rfl) (Nat.le_of_ble_eq_true rfl) rfl) rfl (e_cl_hasThrees hX hp_6 hp_7 hp_8) ?_
        show WV _ _ _ 52 _ [.inl (cl_hasThrees v ((s).toNat) (v 33 1) (v 33 0))] _ _ _
        have hb_9 := n_cl_hasThrees (v := v) (q := (s).toNat) (s := (v 33 1)) (c := (v 33 0)) hX hp_6 hp_7 hp_8
        refine n_if_eq (pc0 := 52) (len := 3) (t := 59) rfl (by first | assumption | omega | (unfold R32 at *; omega) | (unfold R64 at *; omega) | (simp only [R32, R64] at *; omega)) (fun h_52 => ?_) (fun h_52 => ?_)
        · show WV _ _ _ 59 _ _ _ _ _
          rw [if_pos h_52] at hQ
          refine r_ex 1 (pc' := 61) (lo' := [some (.inr (.inr (some 0))), some (.inl s), some (.inr (.inr (some (107 + 2 * (s).toNat))))]) (st' := [.inl (-2)]) rfl ?_
          refine r_ret (rr := some (.inl (-2))) (I := .ireturn) (pc0 := 61) (len := 1) rfl rfl ?_
          exact hQ (by first | assumption | omega | (unfold R32 at *; omega) | (unfold R64 at *; omega) | (simp only [R32, R64] at *; omega))
        · show WV _ _ _ 55 _ _ _ _ _
          rw [if_neg h_52] at hQ
          refine r_ex 2 (pc' := 61) (lo' := [some (.inr (.inr (some 0))), some (.inl s), some (.inr (.inr (some (107 + 2 * (s).toNat))))]) (st' := [.inl 0]) rfl ?_
          refine r_ret (rr := some (.inl 0)) (I := .ireturn) (pc0 := 61) (len := 1) rfl rfl ?_
          exact hQ (by first | assumption | omega | (unfold R32 at *; omega) | (unfold R64 at *; omega) | (simp only [R32, R64] at *; omega))
      · show WV _ _ _ 31 _ _ _ _ _
        rw [if_pos h_28] at hQ
        refine r_ex 1 (pc' := 33) (lo' := [some (.inr (.inr (some 0))), some (.inl s), some (.inr (.inr (some (107 + 2 * (s).toNat))))]) (st' := [.inl (-6)]) rfl ?_
        refine r_ret (rr := some (.inl (-6))) (I := .ireturn) (pc0 := 33) (len := 1) rfl rfl ?_
        exact hQ (by first | assumption | omega | (unfold R32 at *; omega) | (unfold R64 at *; omega) | (simp only [R32, R64] at *; omega))
    · show WV _ _ _ 11 _ _ _ _ _
      rw [if_neg h_8] at hQ
      refine r_ex 2 (pc' := 16) (lo' := [some (.inr (.inr (some 0))), some (.inl s), none]) (st' := [.inl (-2)]) rfl ?_
      refine r_ret (rr := some (.inl (-2))) (I := .ireturn) (pc0 := 16) (len := 1) rfl rfl ?_
      exact hQ (by first | assumption | omega | (unfold R32 at *; omega) | (unfold R64 at *; omega) | (simp only [R32, R64] at *; omega))
  · show WV _ _ _ 4 _ _ _ _ _
    rw [if_neg h_1] at hQ
    refine r_ex 2 (pc' := 16) (lo' := [some (.inr (.inr (some 0))), some (.inl s), none]) (st' := [.inl (-2)]) rfl ?_
    refine r_ret (rr := some (.inl (-2))) (I := .ireturn) (pc0 := 16) (len := 1) rfl rfl ?_
    exact hQ (by first | assumption | omega | (unfold R32 at *; omega) | (unfold R64 at *; omega) | (simp only [R32, R64] at *; omega))

theorem e_cl_refusal {X : PX} {d b : Nat} {v : VS} {s : Int} (hX : XI v) (hp_a : R32 s) : EvV X (d + 1 + 1) 162 [.inr (.inr (some 0)), .inl s] b v (some (.inl (cl_refusal v s))) b v := EvV.of (w_cl_refusal hX hp_a (fun _ => ⟨rfl, rfl, rfl⟩))

theorem n_cl_refusal {v : VS} {s : Int} (hX : XI v) (hp_a : R32 s) : (cl_refusal v s) = 0 ∨ (cl_refusal v s) = -2 ∨ (cl_refusal v s) = -6 := by
  have q : WV (0, fun _ => 0, none) (0 + 1 + 1) 162 0 [some (.inr (.inr (some 0))), some (.inl s), none] [] 1 v (fun _ _ _ => (cl_refusal v s) = 0 ∨ (cl_refusal v s) = -2 ∨ (cl_refusal v s) = -6) := w_cl_refusal (X := (0, fun _ => 0, none)) (d := 0) (b := 1) hX hp_a (fun q => q)
  obtain ⟨_, _, _, _, _, _, _, q⟩ := q
  exact q

theorem refusal_0 {v : VS} {s : Int} (hX : XI v) (h : cl_refusal v s = 0) : (0 ≤ s ∧ s < 4) ∧ 0 < v 33 2 ∧ ¬ v (107 + 2 * s.toNat) 0 = 0 ∧ TH v s.toNat := by
  have b1 : 0 ≤ v 33 1 ∧ v 33 1 ≤ 300 := hX 33 1
  have b0 : 0 ≤ v 33 0 ∧ v 33 0 ≤ 9 := hX 33 0
  unfold cl_refusal at h
  split at h
  · rename_i h1
    split at h
    · rename_i h2
      split at h
      · exact absurd h (by omega)
      · rename_i h3
        split at h
        · exact absurd h (by omega)
        · rename_i h4
          refine ⟨h1, h2, h3, threes h4 (n_cl_hasThrees hX (by omega) (by unfold R32; omega) (by unfold R32; omega)) (by omega) (by omega)⟩
    · exact absurd h (by omega)
  · exact absurd h (by omega)

def cl_refusalOf (v : VS) (s : Int) (i : Int) (h : Int) : Int :=
  (if 0 ≤ i ∧ i < v 33 1 then (if 1 ≤ h ∧ h ≤ 99 then (cl_refusal v s) else (-2)) else (-2))
theorem w_cl_refusalOf {X : PX} {d b : Nat} {v : VS} {s : Int} {i : Int} {h : Int} (hX : XI v) (hp_a : R32 s) (hp_b : R32 i) (hp_c : R32 h) {Q : Option PV → Nat → VS → Prop} (hQ : ((cl_refusalOf v s i h) = 0 ∨ (cl_refusalOf v s i h) = -2 ∨ (cl_refusalOf v s i h) = -6) → Q (some (.inl (cl_refusalOf v s i h))) b v) : WV X (d + 1 + 1 + 1) 167 0 [some (.inr (.inr (some 0))), some (.inl s), some (.inl i), some (.inl h)] [] b v Q := by
  rw [cl_refusalOf] at hQ
  refine r_ex 2 (pc' := 2) (lo' := [some (.inr (.inr (some 0))), some (.inl s), some (.inl i), some (.inl h)]) (st' := [.inl i, .inr (.inr (some 0))]) rfl ?_
  have hp_1 : R32 i := (by first | assumption | omega | (unfold R32 at *; omega) | (unfold R64 at *; omega) | (simp only [R32, R64] at *; omega))
  have hb_2 : 0 ≤ v 33 1 ∧ v 33 1 ≤ 300 := hX 33 1
  refine r_callb (P := 0 ≤ i ∧ i < v 33 1) (m := 67) (args := [.inr (.inr (some 0)), .inl i]) (n' := 167) (pc' := 5) (lo' := [some (.inr (.inr (some 0))), some (.inl s), some (.inl i), some (.inl h)]) (st' := []) (I := .invokevirtual 67) (pc0 := 2) (len := 3) rfl rfl rfl (e_cl_isSecond hX hp_1) (fun h_2 => ?_) (fun h_2 => ?_)
  · show WV _ _ _ 5 _ _ _ _ _
    rw [if_pos h_2] at hQ
    refine r_ex 2 (pc' := 9) (lo' := [some (.inr (.inr (some 0))), some (.inl s), some (.inl i), some (.inl h)]) (st' := [.inl h]) rfl ?_
    have hp_3 : R32 h := (by first | assumption | omega | (unfold R32 at *; omega) | (unfold R64 at *; omega) | (simp only [R32, R64] at *; omega))
    refine r_callb (P := 1 ≤ h ∧ h ≤ 99) (m := 98) (args := [.inl h]) (n' := 167) (pc' := 12) (lo' := [some (.inr (.inr (some 0))), some (.inl s), some (.inl i), some (.inl h)]) (st' := []) (I := .invokestatic 98) (pc0 := 9) (len := 3) rfl rfl rfl (e_cl_isHour hX hp_3) (fun h_9 => ?_) (fun h_9 => ?_)
    · show WV _ _ _ 12 _ _ _ _ _
      rw [if_pos h_9] at hQ
      refine r_ex 3 (pc' := 17) (lo' := [some (.inr (.inr (some 0))), some (.inl s), some (.inl i), some (.inl h)]) (st' := [.inl s, .inr (.inr (some 0))]) rfl ?_
      have hp_4 : R32 s := (by first | assumption | omega | (unfold R32 at *; omega) | (unfold R64 at *; omega) | (simp only [R32, R64] at *; omega))
      refine r_call (m := 162) (args := [.inr (.inr (some 0)), .inl s]) (n' := 167) (pc' := 20) (lo' := [some (.inr (.inr (some 0))), some (.inl s), some (.inl i), some (.inl h)]) (st' := []) (I := .invokevirtual 162) (pc0 := 17) (len := 3) rfl rfl rfl (e_cl_refusal hX hp_4) ?_
      show WV _ _ _ 20 _ [.inl (cl_refusal v s)] _ _ _
      have hb_5 := n_cl_refusal (v := v) (s := s) hX hp_4
      refine r_ex 1 (pc' := 25) (lo' := [some (.inr (.inr (some 0))), some (.inl s), some (.inl i), some (.inl h)]) (st' := [.inl (cl_refusal v s)]) rfl ?_
      refine r_ret (rr := some (.inl (cl_refusal v s))) (I := .ireturn) (pc0 := 25) (len := 1) rfl rfl ?_
      exact hQ (by first | assumption | omega | (unfold R32 at *; omega) | (unfold R64 at *; omega) | (simp only [R32, R64] at *; omega))
    · show WV _ _ _ 12 _ _ _ _ _
      rw [if_neg h_9] at hQ
      refine r_ex 2 (pc' := 25) (lo' := [some (.inr (.inr (some 0))), some (.inl s), some (.inl i), some (.inl h)]) (st' := [.inl (-2)]) rfl ?_
      refine r_ret (rr := some (.inl (-2))) (I := .ireturn) (pc0 := 25) (len := 1) rfl rfl ?_
      exact hQ (by first | assumption | omega | (unfold R32 at *; omega) | (unfold R64 at *; omega) | (simp only [R32, R64] at *; omega))
  · show WV _ _ _ 5 _ _ _ _ _
    rw [if_neg h_2] at hQ
    refine r_ex 2 (pc' := 25) (lo' := [some (.inr (.inr (some 0))), some (.inl s), some (.inl i), some (.inl h)]) (st' := [.inl (-2)]) rfl ?_
    refine r_ret (rr := some (.inl (-2))) (I := .ireturn) (pc0 := 25) (len := 1) rfl rfl ?_
    exact hQ (by first | assumption | omega | (unfold R32 at *; omega) | (unfold R64 at *; omega) | (simp only [R32, R64] at *; omega))

theorem e_cl_refusalOf {X : PX} {d b : Nat} {v : VS} {s : Int} {i : Int} {h : Int} (hX : XI v) (hp_a : R32 s) (hp_b : R32 i) (hp_c : R32 h) : EvV X (d + 1 + 1 + 1) 167 [.inr (.inr (some 0)), .inl s, .inl i, .inl h] b v (some (.inl (cl_refusalOf v s i h))) b v := EvV.of (w_cl_refusalOf hX hp_a hp_b hp_c (fun _ => ⟨rfl, rfl, rfl⟩))

theorem n_cl_refusalOf {v : VS} {s : Int} {i : Int} {h : Int} (hX : XI v) (hp_a : R32 s) (hp_b : R32 i) (hp_c : R32 h) : (cl_refusalOf v s i h) = 0 ∨ (cl_refusalOf v s i h) = -2 ∨ (cl_refusalOf v s i h) = -6 := by
  have q : WV (0, fun _ => 0, none) (0 + 1 + 1 + 1) 167 0 [some (.inr (.inr (some 0))), some (.inl s), some (.inl i), some (.inl h)] [] 1 v (fun _ _ _ => (cl_refusalOf v s i h) = 0 ∨ (cl_refusalOf v s i h) = -2 ∨ (cl_refusalOf v s i h) = -6) := w_cl_refusalOf (X := (0, fun _ => 0, none)) (d := 0) (b := 1) hX hp_a hp_b hp_c (fun q => q)
  obtain ⟨_, _, _, _, _, _, _, q⟩ := q
  exact q

theorem refusalOf_0 {v : VS} {s i h : Int} (hh : cl_refusalOf v s i h = 0) : (0 ≤ i ∧ i < v 33 1) ∧ (1 ≤ h ∧ h ≤ 99) ∧ cl_refusal v s = 0 := by
  unfold cl_refusalOf at hh
  split at hh
  · rename_i h1
    split at hh
    · rename_i h2
      exact ⟨h1, h2, hh⟩
    · exact absurd hh (by omega)
  · exact absurd hh (by omega)

def cl_log_30 : Nat → VS → Nat → Int → Int → Int
  | 0, v, q3, n, i => 0
  | f + 1, v, q3, n, i => (if (i + 2) < (v (107 + 2 * q3) 2) then (if (cl_struckLast v (v (108 + 2 * q3) (((i + 1)).toNat)) (v (108 + 2 * q3) ((i).toNat))) = (v (108 + 2 * q3) (((i + 2)).toNat)) then (cl_log_30 f v q3 n (i + 3)) else (cl_log_30 f v q3 (n + 1) (i + 3))) else n)
def cl_log (v : VS) (s : Int) : Int × VS :=
  (if (cl_refusal v s) = 0 then ((cl_log_30 63 (cl_asItIs v) ((s).toNat) 0 0), (cl_asItIs v)) else ((cl_refusal v s), v))
theorem l_cl_log_30 {X : PX} {d b : Nat} {Q : Option PV → Nat → VS → Prop}  : ∀ (f : Nat) (v : VS) (q3 : Nat) (n : Int) (i : Int) (z1 : Int) (z2 : Int), XI v → (0 ≤ i ∧ i ≤ 62) → (0 ≤ n ∧ n ≤ i) → (TH v q3) → (i % 3 = 0) → (q3 < 4) → (62 < i + f) → (∀ qx0 : Option PV, ∀ qx1 : Option PV, ∀ qx2 : Option PV, ∀ qx3 : Option PV, ∀ qx5 : Option PV, (0 ≤ (cl_log_30 f v q3 n i) ∧ (cl_log_30 f v q3 n i) ≤ 62) → WV X (d + 1 + 1 + 1 + 1 + 1 + 1 + 1) 161 86 [qx0, qx1, qx2, qx3, some (.inl (cl_log_30 f v q3 n i)), qx5] [] b v Q) → WV X (d + 1 + 1 + 1 + 1 + 1 + 1 + 1) 161 30 [some (.inr (.inr (some 0))), some (.inl z1), some (.inl z2), some (.inr (.inr (some (107 + 2 * q3)))), some (.inl n), some (.inl i)] [] b v Q := by
  intro f
  induction f with
  | zero =>
    intro v q3 n i z1 z2 hX hi_0 hi_1 hi_2 hi_3 hi_4 hf hK
    exfalso
    omega
  | succ f ih =>
    intro v q3 n i z1 z2 hX hi_0 hi_1 hi_2 hi_3 hi_4 hf hK
    rw [cl_log_30] at hK
    refine r_ex 4 (pc' := 35) (lo' := [some (.inr (.inr (some 0))), some (.inl z1), some (.inl z2), some (.inr (.inr (some (107 + 2 * q3)))), some (.inl n), some (.inl i)]) (st' := [.inr (.inr (some (107 + 2 * q3))), .inl (i + 2)]) rfl ?_
    refine r_geti2 (x := (v (107 + 2 * q3) 2)) (j := 2) (pc' := 38) (pc0 := 35) (len := 3) rfl (s_slot _ (by first | assumption | omega)) rfl rfl rfl (by decide) rfl rfl ?_
    have hb_4 : 0 ≤ (v (107 + 2 * q3) 2) ∧ (v (107 + 2 * q3) 2) ≤ 60 := XI_slot2 hX (by first | assumption | omega)
    refine n_ic_ge (pc0 := 38) (len := 3) (t := 86) rfl (by first | assumption | omega | (unfold R32 at *; omega) | (unfold R64 at *; omega) | (simp only [R32, R64] at *; omega)) (by first | assumption | omega | (unfold R32 at *; omega) | (unfold R64 at *; omega) | (simp only [R32, R64] at *; omega)) (fun h_38 => ?_) (fun h_38 => ?_)
    · show WV _ _ _ 86 _ _ _ _ _
      rw [if_neg h_38] at hK
      exact hK _ _ _ _ _  (by first | assumption | omega | (unfold R32 at *; omega) | (unfold R64 at *; omega) | (simp only [R32, R64] at *; omega))
    · show WV _ _ _ 41 _ _ _ _ _
      rw [if_pos h_38] at hK
      refine r_ex 2 (pc' := 43) (lo' := [some (.inr (.inr (some 0))), some (.inl z1), some (.inl z2), some (.inr (.inr (some (107 + 2 * q3)))), some (.inl n), some (.inl i)]) (st' := [.inr (.inr (some (107 + 2 * q3))), .inr (.inr (some 0))]) rfl ?_
      refine r_getr2 (z := some (108 + 2 * q3)) (pc' := 46) (pc0 := 43) (len := 3) rfl (s_slot _ (by first | assumption | omega)) rfl rfl rfl ?_
      refine r_ex 3 (pc' := 50) (lo' := [some (.inr (.inr (some 0))), some (.inl z1), some (.inl z2), some (.inr (.inr (some (107 + 2 * q3)))), some (.inl n), some (.inl i)]) (st' := [.inl (i + 1), .inr (.inr (some (108 + 2 * q3))), .inr (.inr (some 0))]) rfl ?_
      refine r_lald2 (x := (v (108 + 2 * q3) (((i + 1)).toNat))) (pc' := 51) (pc0 := 50) (len := 1) rfl (s_slotr _ (by first | assumption | omega)) (by first | assumption | omega | (unfold R32 at *; omega) | (unfold R64 at *; omega) | (simp only [R32, R64] at *; omega)) (by decide) rfl rfl ?_
      have hb_5 : R64 (v (108 + 2 * q3) (((i + 1)).toNat)) := XI_slotr hX (by first | assumption | omega) _
      have ht1 := hi_2.at1 hi_0.1 hi_3 h_38
      refine r_ex 2 (pc' := 53) (lo' := [some (.inr (.inr (some 0))), some (.inl z1), some (.inl z2), some (.inr (.inr (some (107 + 2 * q3)))), some (.inl n), some (.inl i)]) (st' := [.inr (.inr (some (107 + 2 * q3))), .inl (v (108 + 2 * q3) (((i + 1)).toNat)), .inr (.inr (some 0))]) rfl ?_
      refine r_getr2 (z := some (108 + 2 * q3)) (pc' := 56) (pc0 := 53) (len := 3) rfl (s_slot _ (by first | assumption | omega)) rfl rfl rfl ?_
      refine r_ex 1 (pc' := 58) (lo' := [some (.inr (.inr (some 0))), some (.inl z1), some (.inl z2), some (.inr (.inr (some (107 + 2 * q3)))), some (.inl n), some (.inl i)]) (st' := [.inl i, .inr (.inr (some (108 + 2 * q3))), .inl (v (108 + 2 * q3) (((i + 1)).toNat)), .inr (.inr (some 0))]) rfl ?_
      refine r_lald2 (x := (v (108 + 2 * q3) ((i).toNat))) (pc' := 59) (pc0 := 58) (len := 1) rfl (s_slotr _ (by first | assumption | omega)) (by first | assumption | omega | (unfold R32 at *; omega) | (unfold R64 at *; omega) | (simp only [R32, R64] at *; omega)) (by decide) rfl rfl ?_
      have hb_6 : R64 (v (108 + 2 * q3) ((i).toNat)) := XI_slotr hX (by first | assumption | omega) _
      have ht2 := hi_2.at hi_0.1 hi_3 (by omega)
      refine r_ex 1 (pc' := 60) (lo' := [some (.inr (.inr (some 0))), some (.inl z1), some (.inl z2), some (.inr (.inr (some (107 + 2 * q3)))), some (.inl n), some (.inl i)]) (st' := [.inl (v (108 + 2 * q3) ((i).toNat)), .inl (v (108 + 2 * q3) (((i + 1)).toNat)), .inr (.inr (some 0))]) rfl ?_
      have hp_7 : R32 (v (108 + 2 * q3) (((i + 1)).toNat)) := (by first | assumption | omega | (unfold R32 at *; omega) | (unfold R64 at *; omega) | (simp only [R32, R64] at *; omega))
      have hp_8 : R32 (v (108 + 2 * q3) ((i).toNat)) := (by first | assumption | omega | (unfold R32 at *; omega) | (unfold R64 at *; omega) | (simp only [R32, R64] at *; omega))
      refine r_call (m := 90) (args := [.inr (.inr (some 0)), .inl (v (108 + 2 * q3) (((i + 1)).toNat)), .inl (v (108 + 2 * q3) ((i).toNat))]) (n' := 161) (pc' := 63) (lo' := [some (.inr (.inr (some 0))), some (.inl z1), some (.inl z2), some (.inr (.inr (some (107 + 2 * q3)))), some (.inl n), some (.inl i)]) (st' := []) (I := .invokevirtual 90) (pc0 := 60) (len := 3) rfl rfl rfl (e_cl_struckLast hX hp_7 hp_8) ?_
      show WV _ _ _ 63 _ [.inl (cl_struckLast v (v (108 + 2 * q3) (((i + 1)).toNat)) (v (108 + 2 * q3) ((i).toNat)))] _ _ _
      have hb_9 := n_cl_struckLast (v := v) (c := (v (108 + 2 * q3) (((i + 1)).toNat))) (s := (v (108 + 2 * q3) ((i).toNat))) hX hp_7 hp_8
      refine n_i2l (pc' := 64) (pc0 := 63) (len := 1) rfl (by first | assumption | omega | (unfold R32 at *; omega) | (unfold R64 at *; omega) | (simp only [R32, R64] at *; omega)) rfl ?_
      refine r_ex 1 (pc' := 65) (lo' := [some (.inr (.inr (some 0))), some (.inl z1), some (.inl z2), some (.inr (.inr (some (107 + 2 * q3)))), some (.inl n), some (.inl i)]) (st' := [.inr (.inr (some (107 + 2 * q3))), .inr (.inl (cl_struckLast v (v (108 + 2 * q3) (((i + 1)).toNat)) (v (108 + 2 * q3) ((i).toNat))))]) rfl ?_
      refine r_getr2 (z := some (108 + 2 * q3)) (pc' := 68) (pc0 := 65) (len := 3) rfl (s_slot _ (by first | assumption | omega)) rfl rfl rfl ?_
      refine r_ex 3 (pc' := 72) (lo' := [some (.inr (.inr (some 0))), some (.inl z1), some (.inl z2), some (.inr (.inr (some (107 + 2 * q3)))), some (.inl n), some (.inl i)]) (st' := [.inl (i + 2), .inr (.inr (some (108 + 2 * q3))), .inr (.inl (cl_struckLast v (v (108 + 2 * q3) (((i + 1)).toNat)) (v (108 + 2 * q3) ((i).toNat))))]) rfl ?_
      refine r_lald2 (x := (v (108 + 2 * q3) (((i + 2)).toNat))) (pc' := 73) (pc0 := 72) (len := 1) rfl (s_slotr _ (by first | assumption | omega)) (by first | assumption | omega | (unfold R32 at *; omega) | (unfold R64 at *; omega) | (simp only [R32, R64] at *; omega)) (by decide) rfl rfl ?_
      have hb_10 : R64 (v (108 + 2 * q3) (((i + 2)).toNat)) := XI_slotr hX (by first | assumption | omega) _
      refine n_lc_eq (pc0 := 73) (len := 1) (pc1 := 74) (pc2 := 74) (len2 := 3) (t := 80) rfl rfl rfl (by first | assumption | omega | (unfold R32 at *; omega) | (unfold R64 at *; omega) | (simp only [R32, R64] at *; omega)) (by first | assumption | omega | (unfold R32 at *; omega) | (unfold R64 at *; omega) | (simp only [R32, R64] at *; omega)) (fun h_73 => ?_) (fun h_73 => ?_)
      · show WV _ _ _ 80 _ _ _ _ _
        rw [if_pos h_73] at hK
        refine r_ex 2 (pc' := 30) (lo' := [some (.inr (.inr (some 0))), some (.inl z1), some (.inl z2), some (.inr (.inr (some (107 + 2 * q3)))), some (.inl n), some (.inl (i + 3))]) (st' := []) rfl ?_
        refine ih v q3 n (i + 3) _ _ hX (by first | assumption | omega | (unfold R32 at *; omega) | (unfold R64 at *; omega) | (simp only [R32, R64] at *; omega)) (by first | assumption | omega | (unfold R32 at *; omega) | (unfold R64 at *; omega) | (simp only [R32, R64] at *; omega)) (by first | assumption | exact TH.of hr_.2.2.2 (by rw [o_cl_asItIs (by omega)]) (by rw [o_cl_asItIs (by omega)])) (by first | assumption | omega | (unfold R32 at *; omega) | (unfold R64 at *; omega) | (simp only [R32, R64] at *; omega)) (by first | assumption | omega | (unfold R32 at *; omega) | (unfold R64 at *; omega) | (simp only [R32, R64] at *; omega)) (by first | assumption | omega | (unfold R32 at *; omega) | (unfold R64 at *; omega) | (simp only [R32, R64] at *; omega)) hK
      · show WV _ _ _ 77 _ _ _ _ _
        rw [if_neg h_73] at hK
        refine r_ex 3 (pc' := 30) (lo' := [some (.inr (.inr (some 0))), some (.inl z1), some (.inl z2), some (.inr (.inr (some (107 + 2 * q3)))), some (.inl (n + 1)), some (.inl (i + 3))]) (st' := []) rfl ?_
        refine ih v q3 (n + 1) (i + 3) _ _ hX (by first | assumption | omega | (unfold R32 at *; omega) | (unfold R64 at *; omega) | (simp only [R32, R64] at *; omega)) (by first | assumption | omega | (unfold R32 at *; omega) | (unfold R64 at *; omega) | (simp only [R32, R64] at *; omega)) (by first | assumption | exact TH.of hr_.2.2.2 (by rw [o_cl_asItIs (by omega)]) (by rw [o_cl_asItIs (by omega)])) (by first | assumption | omega | (unfold R32 at *; omega) | (unfold R64 at *; omega) | (simp only [R32, R64] at *; omega)) (by first | assumption | omega | (unfold R32 at *; omega) | (unfold R64 at *; omega) | (simp only [R32, R64] at *; omega)) (by first | assumption | omega | (unfold R32 at *; omega) | (unfold R64 at *; omega) | (simp only [R32, R64] at *; omega)) hK

theorem w_cl_log {X : PX} {d b : Nat} {v : VS} {s : Int} (hX : XI v) (hp_a : R32 s) {Q : Option PV → Nat → VS → Prop} (hQ : XI (cl_log v s).2 → Q (some (.inl (cl_log v s).1)) b (cl_log v s).2) : WV X (d + 1 + 1 + 1 + 1 + 1 + 1 + 1) 161 0 [some (.inr (.inr (some 0))), some (.inl s), none, none, none, none] [] b v Q := by
  rw [cl_log] at hQ
  refine r_ex 2 (pc' := 2) (lo' := [some (.inr (.inr (some 0))), some (.inl s), none, none, none, none]) (st' := [.inl s, .inr (.inr (some 0))]) rfl ?_
  have hp_1 : R32 s := (by first | assumption | omega | (unfold R32 at *; omega) | (unfold R64 at *; omega) | (simp only [R32, R64] at *; omega))
  refine r_call (m := 162) (args := [.inr (.inr (some 0)), .inl s]) (n' := 161) (pc' := 5) (lo' := [some (.inr (.inr (some 0))), some (.inl s), none, none, none, none]) (st' := []) (I := .invokevirtual 162) (pc0 := 2) (len := 3) rfl rfl rfl (e_cl_refusal hX hp_1) ?_
  show WV _ _ _ 5 _ [.inl (cl_refusal v s)] _ _ _
  have hb_2 := n_cl_refusal (v := v) (s := s) hX hp_1
  refine r_ex 2 (pc' := 7) (lo' := [some (.inr (.inr (some 0))), some (.inl s), some (.inl (cl_refusal v s)), none, none, none]) (st' := [.inl (cl_refusal v s)]) rfl ?_
  refine n_if_eq (pc0 := 7) (len := 3) (t := 12) rfl (by first | assumption | omega | (unfold R32 at *; omega) | (unfold R64 at *; omega) | (simp only [R32, R64] at *; omega)) (fun h_7 => ?_) (fun h_7 => ?_)
  · show WV _ _ _ 12 _ _ _ _ _
    rw [if_pos h_7] at hQ
    have hr_ := refusal_0 hX h_7
    refine r_ex 1 (pc' := 13) (lo' := [some (.inr (.inr (some 0))), some (.inl s), some (.inl (cl_refusal v s)), none, none, none]) (st' := [.inr (.inr (some 0))]) rfl ?_
    refine r_call (m := 72) (args := [.inr (.inr (some 0))]) (n' := 161) (pc' := 16) (lo' := [some (.inr (.inr (some 0))), some (.inl s), some (.inl (cl_refusal v s)), none, none, none]) (st' := []) (I := .invokevirtual 72) (pc0 := 13) (len := 3) rfl rfl rfl (e_cl_asItIs hX) ?_
    show WV _ _ _ 16 _ [.inr (.inr (some 79))] _ (cl_asItIs v) _
    have hX_3 : XI (cl_asItIs v) := i_cl_asItIs (v := v) hX
    refine r_ex 4 (pc' := 22) (lo' := [some (.inr (.inr (some 0))), some (.inl s), some (.inl (cl_refusal v s)), none, none, none]) (st' := [.inl s, .inr (.inr (some 106))]) rfl ?_
    refine r_aald2 (z := some (107 + 2 * (s).toNat)) (pc' := 23) (pc0 := 22) (len := 1) rfl (s_106 _) (Or.inl rfl) (by first | assumption | omega | (unfold R32 at *; omega) | (unfold R64 at *; omega) | (simp only [R32, R64] at *; omega)) (by decide) (slot_at (by first | assumption | omega)) rfl ?_
    refine r_ex 5 (pc' := 30) (lo' := [some (.inr (.inr (some 0))), some (.inl s), some (.inl (cl_refusal v s)), some (.inr (.inr (some (107 + 2 * (s).toNat)))), some (.inl 0), some (.inl 0)]) (st' := []) rfl ?_
    refine l_cl_log_30 63 (cl_asItIs v) ((s).toNat) 0 0 _ _ hX_3 (by first | assumption | omega | (unfold R32 at *; omega) | (unfold R64 at *; omega) | (simp only [R32, R64] at *; omega)) (by first | assumption | omega | (unfold R32 at *; omega) | (unfold R64 at *; omega) | (simp only [R32, R64] at *; omega)) (by first | assumption | exact TH.of hr_.2.2.2 (by rw [o_cl_asItIs (by omega)]) (by rw [o_cl_asItIs (by omega)])) (by first | assumption | omega | (unfold R32 at *; omega) | (unfold R64 at *; omega) | (simp only [R32, R64] at *; omega)) (by first | assumption | omega | (unfold R32 at *; omega) | (unfold R64 at *; omega) | (simp only [R32, R64] at *; omega)) (by first | assumption | omega | (unfold R32 at *; omega) | (unfold R64 at *; omega) | (simp only [R32, R64] at *; omega)) (fun o0_11 o1_11 o2_11 o3_11 o5_11  hv_11_0 => ?_)
    show WV _ _ _ 86 _ _ _ _ _
    refine r_ex 1 (pc' := 88) (lo' := [o0_11, o1_11, o2_11, o3_11, some (.inl (cl_log_30 63 (cl_asItIs v) ((s).toNat) 0 0)), o5_11]) (st' := [.inl (cl_log_30 63 (cl_asItIs v) ((s).toNat) 0 0)]) rfl ?_
    refine r_ret (rr := some (.inl (cl_log_30 63 (cl_asItIs v) ((s).toNat) 0 0))) (I := .ireturn) (pc0 := 88) (len := 1) rfl rfl ?_
    exact hQ hX_3 
  · show WV _ _ _ 10 _ _ _ _ _
    rw [if_neg h_7] at hQ
    refine r_ex 1 (pc' := 11) (lo' := [some (.inr (.inr (some 0))), some (.inl s), some (.inl (cl_refusal v s)), none, none, none]) (st' := [.inl (cl_refusal v s)]) rfl ?_
    refine r_ret (rr := some (.inl (cl_refusal v s))) (I := .ireturn) (pc0 := 11) (len := 1) rfl rfl ?_
    exact hQ hX 

theorem e_cl_log {X : PX} {d b : Nat} {v : VS} {s : Int} (hX : XI v) (hp_a : R32 s) : EvV X (d + 1 + 1 + 1 + 1 + 1 + 1 + 1) 161 [.inr (.inr (some 0)), .inl s] b v (some (.inl (cl_log v s).1)) b ((cl_log v s).2) := EvV.of (w_cl_log hX hp_a (fun _ => ⟨rfl, rfl, rfl⟩))

theorem i_cl_log {v : VS} {s : Int} (hX : XI v) (hp_a : R32 s) : XI ((cl_log v s).2) := by
  have q : WV (0, fun _ => 0, none) (0 + 1 + 1 + 1 + 1 + 1 + 1 + 1) 161 0 [some (.inr (.inr (some 0))), some (.inl s), none, none, none, none] [] 1 v (fun _ _ _ => XI ((cl_log v s).2)) := w_cl_log (X := (0, fun _ => 0, none)) (d := 0) (b := 1) hX hp_a (fun q => q)
  obtain ⟨_, _, _, _, _, _, _, q⟩ := q
  exact q

theorem o_cl_log {rk : Nat} {v : VS} {s : Int} (hk : (rk < 0 ∨ 0 < rk) ∧ (rk < 67 ∨ 90 < rk) ∧ (rk < 105 ∨ 105 < rk)) : (cl_log v s).2 rk = v rk := by
  unfold cl_log
  by_cases hc_ : (cl_refusal v s) = 0
  · rw [if_pos hc_]
    all_goals (show (cl_asItIs v) rk = _)
    all_goals (rw [o_cl_asItIs (by omega)])
  · rw [if_neg hc_]
    all_goals (show v rk = _)
    all_goals rfl

def cl_wasStruck79_3 : Nat → VS → Int → Int → Int → Int → Int
  | 0, v, s, c, h, i => 0
  | f + 1, v, s, c, h, i => (if i < (v 79 4) then (if s < (v 80 ((i).toNat)) then 0 else (if (v 80 ((i).toNat)) = s then (if (v 81 ((i).toNat)) = c then (if (v 82 ((i).toNat)) = h then 1 else (cl_wasStruck79_3 f v s c h (i + 1))) else (cl_wasStruck79_3 f v s c h (i + 1))) else (cl_wasStruck79_3 f v s c h (i + 1)))) else 0)
def cl_wasStruck79 (v : VS) (s : Int) (c : Int) (h : Int) : Int :=
  (cl_wasStruck79_3 301 v s c h 0)
theorem l_cl_wasStruck79_3 {X : PX} {d b : Nat} {Q : Option PV → Nat → VS → Prop}  : ∀ (f : Nat) (v : VS) (s : Int) (c : Int) (h : Int) (i : Int), XI v → (0 ≤ i ∧ i ≤ 300) → (R64 s) → (R64 c) → (R64 h) → (300 < i + f) → ((0 ≤ (cl_wasStruck79_3 f v s c h i) ∧ (cl_wasStruck79_3 f v s c h i) ≤ 1) → Q (some (.inl (cl_wasStruck79_3 f v s c h i))) b v) → WV X d 174 3 [some (.inr (.inr (some 79))), some (.inr (.inl s)), none, some (.inr (.inl c)), none, some (.inr (.inl h)), none, some (.inl i)] [] b v Q := by
  intro f
  induction f with
  | zero =>
    intro v s c h i hX hi_0 hi_1 hi_2 hi_3 hf hQ
    exfalso
    omega
  | succ f ih =>
    intro v s c h i hX hi_0 hi_1 hi_2 hi_3 hf hQ
    rw [cl_wasStruck79_3] at hQ
    refine r_ex 3 (pc' := 9) (lo' := [some (.inr (.inr (some 79))), some (.inr (.inl s)), none, some (.inr (.inl c)), none, some (.inr (.inl h)), none, some (.inl i)]) (st' := [.inl (v 79 4), .inl i]) rfl ?_
    have hb_1 : 0 ≤ (v 79 4) ∧ (v 79 4) ≤ 300 := hX 79 4
    refine n_ic_ge (pc0 := 9) (len := 3) (t := 73) rfl (by first | assumption | omega | (unfold R32 at *; omega) | (unfold R64 at *; omega) | (simp only [R32, R64] at *; omega)) (by first | assumption | omega | (unfold R32 at *; omega) | (unfold R64 at *; omega) | (simp only [R32, R64] at *; omega)) (fun h_9 => ?_) (fun h_9 => ?_)
    · show WV _ _ _ 73 _ _ _ _ _
      rw [if_neg h_9] at hQ
      refine r_ex 1 (pc' := 74) (lo' := [some (.inr (.inr (some 79))), some (.inr (.inl s)), none, some (.inr (.inl c)), none, some (.inr (.inl h)), none, some (.inl i)]) (st' := [.inl 0]) rfl ?_
      refine r_ret (rr := some (.inl 0)) (I := .ireturn) (pc0 := 74) (len := 1) rfl rfl ?_
      exact hQ (by first | assumption | omega | (unfold R32 at *; omega) | (unfold R64 at *; omega) | (simp only [R32, R64] at *; omega))
    · show WV _ _ _ 12 _ _ _ _ _
      rw [if_pos h_9] at hQ
      refine r_ex 3 (pc' := 18) (lo' := [some (.inr (.inr (some 79))), some (.inr (.inl s)), none, some (.inr (.inl c)), none, some (.inr (.inl h)), none, some (.inl i)]) (st' := [.inl i, .inr (.inr (some 80))]) rfl ?_
      refine r_iald2 (j := 0) (x := (v 80 ((i).toNat))) (pc' := 19) (pc0 := 18) (len := 1) rfl (s_80 _) (by first | assumption | omega | (unfold R32 at *; omega) | (unfold R64 at *; omega) | (simp only [R32, R64] at *; omega)) (by decide) rfl rfl ?_
      have hb_2 : 0 ≤ (v 80 ((i).toNat)) ∧ (v 80 ((i).toNat)) ≤ 299 := hX 80 ((i).toNat)
      refine n_i2l (pc' := 20) (pc0 := 19) (len := 1) rfl (by first | assumption | omega | (unfold R32 at *; omega) | (unfold R64 at *; omega) | (simp only [R32, R64] at *; omega)) rfl ?_
      refine r_ex 1 (pc' := 21) (lo' := [some (.inr (.inr (some 79))), some (.inr (.inl s)), none, some (.inr (.inl c)), none, some (.inr (.inl h)), none, some (.inl i)]) (st' := [.inr (.inl s), .inr (.inl (v 80 ((i).toNat)))]) rfl ?_
      refine n_lc_gt (pc0 := 21) (len := 1) (pc1 := 22) (pc2 := 22) (len2 := 3) (t := 73) rfl rfl rfl (by first | assumption | omega | (unfold R32 at *; omega) | (unfold R64 at *; omega) | (simp only [R32, R64] at *; omega)) (by first | assumption | omega | (unfold R32 at *; omega) | (unfold R64 at *; omega) | (simp only [R32, R64] at *; omega)) (fun h_21 => ?_) (fun h_21 => ?_)
      · show WV _ _ _ 73 _ _ _ _ _
        rw [if_pos h_21] at hQ
        refine r_ex 1 (pc' := 74) (lo' := [some (.inr (.inr (some 79))), some (.inr (.inl s)), none, some (.inr (.inl c)), none, some (.inr (.inl h)), none, some (.inl i)]) (st' := [.inl 0]) rfl ?_
        refine r_ret (rr := some (.inl 0)) (I := .ireturn) (pc0 := 74) (len := 1) rfl rfl ?_
        exact hQ (by first | assumption | omega | (unfold R32 at *; omega) | (unfold R64 at *; omega) | (simp only [R32, R64] at *; omega))
      · show WV _ _ _ 25 _ _ _ _ _
        rw [if_neg h_21] at hQ
        refine r_ex 3 (pc' := 31) (lo' := [some (.inr (.inr (some 79))), some (.inr (.inl s)), none, some (.inr (.inl c)), none, some (.inr (.inl h)), none, some (.inl i)]) (st' := [.inl i, .inr (.inr (some 80))]) rfl ?_
        refine r_iald2 (j := 0) (x := (v 80 ((i).toNat))) (pc' := 32) (pc0 := 31) (len := 1) rfl (s_80 _) (by first | assumption | omega | (unfold R32 at *; omega) | (unfold R64 at *; omega) | (simp only [R32, R64] at *; omega)) (by decide) rfl rfl ?_
        refine n_i2l (pc' := 33) (pc0 := 32) (len := 1) rfl (by first | assumption | omega | (unfold R32 at *; omega) | (unfold R64 at *; omega) | (simp only [R32, R64] at *; omega)) rfl ?_
        refine r_ex 1 (pc' := 34) (lo' := [some (.inr (.inr (some 79))), some (.inr (.inl s)), none, some (.inr (.inl c)), none, some (.inr (.inl h)), none, some (.inl i)]) (st' := [.inr (.inl s), .inr (.inl (v 80 ((i).toNat)))]) rfl ?_
        refine n_lc_ne (pc0 := 34) (len := 1) (pc1 := 35) (pc2 := 35) (len2 := 3) (t := 67) rfl rfl rfl (by first | assumption | omega | (unfold R32 at *; omega) | (unfold R64 at *; omega) | (simp only [R32, R64] at *; omega)) (by first | assumption | omega | (unfold R32 at *; omega) | (unfold R64 at *; omega) | (simp only [R32, R64] at *; omega)) (fun h_34 => ?_) (fun h_34 => ?_)
        · show WV _ _ _ 67 _ _ _ _ _
          rw [if_neg h_34] at hQ
          refine r_ex 2 (pc' := 3) (lo' := [some (.inr (.inr (some 79))), some (.inr (.inl s)), none, some (.inr (.inl c)), none, some (.inr (.inl h)), none, some (.inl (i + 1))]) (st' := []) rfl ?_
          refine ih v s c h (i + 1)  hX (by first | assumption | omega | (unfold R32 at *; omega) | (unfold R64 at *; omega) | (simp only [R32, R64] at *; omega)) (by first | assumption | omega | (unfold R32 at *; omega) | (unfold R64 at *; omega) | (simp only [R32, R64] at *; omega)) (by first | assumption | omega | (unfold R32 at *; omega) | (unfold R64 at *; omega) | (simp only [R32, R64] at *; omega)) (by first | assumption | omega | (unfold R32 at *; omega) | (unfold R64 at *; omega) | (simp only [R32, R64] at *; omega)) (by first | assumption | omega | (unfold R32 at *; omega) | (unfold R64 at *; omega) | (simp only [R32, R64] at *; omega)) hQ
        · show WV _ _ _ 38 _ _ _ _ _
          rw [if_pos h_34] at hQ
          refine r_ex 3 (pc' := 44) (lo' := [some (.inr (.inr (some 79))), some (.inr (.inl s)), none, some (.inr (.inl c)), none, some (.inr (.inl h)), none, some (.inl i)]) (st' := [.inl i, .inr (.inr (some 81))]) rfl ?_
          refine r_iald2 (j := 0) (x := (v 81 ((i).toNat))) (pc' := 45) (pc0 := 44) (len := 1) rfl (s_81 _) (by first | assumption | omega | (unfold R32 at *; omega) | (unfold R64 at *; omega) | (simp only [R32, R64] at *; omega)) (by decide) rfl rfl ?_
          have hb_3 : 0 ≤ (v 81 ((i).toNat)) ∧ (v 81 ((i).toNat)) ≤ 8 := hX 81 ((i).toNat)
          refine n_i2l (pc' := 46) (pc0 := 45) (len := 1) rfl (by first | assumption | omega | (unfold R32 at *; omega) | (unfold R64 at *; omega) | (simp only [R32, R64] at *; omega)) rfl ?_
          refine r_ex 1 (pc' := 47) (lo' := [some (.inr (.inr (some 79))), some (.inr (.inl s)), none, some (.inr (.inl c)), none, some (.inr (.inl h)), none, some (.inl i)]) (st' := [.inr (.inl c), .inr (.inl (v 81 ((i).toNat)))]) rfl ?_
          refine n_lc_ne (pc0 := 47) (len := 1) (pc1 := 48) (pc2 := 48) (len2 := 3) (t := 67) rfl rfl rfl (by first | assumption | omega | (unfold R32 at *; omega) | (unfold R64 at *; omega) | (simp only [R32, R64] at *; omega)) (by first | assumption | omega | (unfold R32 at *; omega) | (unfold R64 at *; omega) | (simp only [R32, R64] at *; omega)) (fun h_47 => ?_) (fun h_47 => ?_)
          · show WV _ _ _ 67 _ _ _ _ _
            rw [if_neg h_47] at hQ
            refine r_ex 2 (pc' := 3) (lo' := [some (.inr (.inr (some 79))), some (.inr (.inl s)), none, some (.inr (.inl c)), none, some (.inr (.inl h)), none, some (.inl (i + 1))]) (st' := []) rfl ?_
            refine ih v s c h (i + 1)  hX (by first | assumption | omega | (unfold R32 at *; omega) | (unfold R64 at *; omega) | (simp only [R32, R64] at *; omega)) (by first | assumption | omega | (unfold R32 at *; omega) | (unfold R64 at *; omega) | (simp only [R32, R64] at *; omega)) (by first | assumption | omega | (unfold R32 at *; omega) | (unfold R64 at *; omega) | (simp only [R32, R64] at *; omega)) (by first | assumption | omega | (unfold R32 at *; omega) | (unfold R64 at *; omega) | (simp only [R32, R64] at *; omega)) (by first | assumption | omega | (unfold R32 at *; omega) | (unfold R64 at *; omega) | (simp only [R32, R64] at *; omega)) hQ
          · show WV _ _ _ 51 _ _ _ _ _
            rw [if_pos h_47] at hQ
            refine r_ex 3 (pc' := 57) (lo' := [some (.inr (.inr (some 79))), some (.inr (.inl s)), none, some (.inr (.inl c)), none, some (.inr (.inl h)), none, some (.inl i)]) (st' := [.inl i, .inr (.inr (some 82))]) rfl ?_
            refine r_iald2 (j := 0) (x := (v 82 ((i).toNat))) (pc' := 58) (pc0 := 57) (len := 1) rfl (s_82 _) (by first | assumption | omega | (unfold R32 at *; omega) | (unfold R64 at *; omega) | (simp only [R32, R64] at *; omega)) (by decide) rfl rfl ?_
            have hb_4 : 0 ≤ (v 82 ((i).toNat)) ∧ (v 82 ((i).toNat)) ≤ 99 := hX 82 ((i).toNat)
            refine n_i2l (pc' := 59) (pc0 := 58) (len := 1) rfl (by first | assumption | omega | (unfold R32 at *; omega) | (unfold R64 at *; omega) | (simp only [R32, R64] at *; omega)) rfl ?_
            refine r_ex 1 (pc' := 61) (lo' := [some (.inr (.inr (some 79))), some (.inr (.inl s)), none, some (.inr (.inl c)), none, some (.inr (.inl h)), none, some (.inl i)]) (st' := [.inr (.inl h), .inr (.inl (v 82 ((i).toNat)))]) rfl ?_
            refine n_lc_ne (pc0 := 61) (len := 1) (pc1 := 62) (pc2 := 62) (len2 := 3) (t := 67) rfl rfl rfl (by first | assumption | omega | (unfold R32 at *; omega) | (unfold R64 at *; omega) | (simp only [R32, R64] at *; omega)) (by first | assumption | omega | (unfold R32 at *; omega) | (unfold R64 at *; omega) | (simp only [R32, R64] at *; omega)) (fun h_61 => ?_) (fun h_61 => ?_)
            · show WV _ _ _ 67 _ _ _ _ _
              rw [if_neg h_61] at hQ
              refine r_ex 2 (pc' := 3) (lo' := [some (.inr (.inr (some 79))), some (.inr (.inl s)), none, some (.inr (.inl c)), none, some (.inr (.inl h)), none, some (.inl (i + 1))]) (st' := []) rfl ?_
              refine ih v s c h (i + 1)  hX (by first | assumption | omega | (unfold R32 at *; omega) | (unfold R64 at *; omega) | (simp only [R32, R64] at *; omega)) (by first | assumption | omega | (unfold R32 at *; omega) | (unfold R64 at *; omega) | (simp only [R32, R64] at *; omega)) (by first | assumption | omega | (unfold R32 at *; omega) | (unfold R64 at *; omega) | (simp only [R32, R64] at *; omega)) (by first | assumption | omega | (unfold R32 at *; omega) | (unfold R64 at *; omega) | (simp only [R32, R64] at *; omega)) (by first | assumption | omega | (unfold R32 at *; omega) | (unfold R64 at *; omega) | (simp only [R32, R64] at *; omega)) hQ
            · show WV _ _ _ 65 _ _ _ _ _
              rw [if_pos h_61] at hQ
              refine r_ex 1 (pc' := 66) (lo' := [some (.inr (.inr (some 79))), some (.inr (.inl s)), none, some (.inr (.inl c)), none, some (.inr (.inl h)), none, some (.inl i)]) (st' := [.inl 1]) rfl ?_
              refine r_ret (rr := some (.inl 1)) (I := .ireturn) (pc0 := 66) (len := 1) rfl rfl ?_
              exact hQ (by first | assumption | omega | (unfold R32 at *; omega) | (unfold R64 at *; omega) | (simp only [R32, R64] at *; omega))

theorem w_cl_wasStruck79 {X : PX} {d b : Nat} {v : VS} {s : Int} {c : Int} {h : Int} (hX : XI v) (hp_a : R64 s) (hp_b : R64 c) (hp_c : R64 h) {Q : Option PV → Nat → VS → Prop} (hQ : (0 ≤ (cl_wasStruck79 v s c h) ∧ (cl_wasStruck79 v s c h) ≤ 1) → Q (some (.inl (cl_wasStruck79 v s c h))) b v) : WV X d 174 0 [some (.inr (.inr (some 79))), some (.inr (.inl s)), none, some (.inr (.inl c)), none, some (.inr (.inl h)), none, none] [] b v Q := by
  rw [cl_wasStruck79] at hQ
  refine r_ex 2 (pc' := 3) (lo' := [some (.inr (.inr (some 79))), some (.inr (.inl s)), none, some (.inr (.inl c)), none, some (.inr (.inl h)), none, some (.inl 0)]) (st' := []) rfl ?_
  exact l_cl_wasStruck79_3 301 v s c h 0  hX (by first | assumption | omega | (unfold R32 at *; omega) | (unfold R64 at *; omega) | (simp only [R32, R64] at *; omega)) (by first | assumption | omega | (unfold R32 at *; omega) | (unfold R64 at *; omega) | (simp only [R32, R64] at *; omega)) (by first | assumption | omega | (unfold R32 at *; omega) | (unfold R64 at *; omega) | (simp only [R32, R64] at *; omega)) (by first | assumption | omega | (unfold R32 at *; omega) | (unfold R64 at *; omega) | (simp only [R32, R64] at *; omega)) (by first | assumption | omega | (unfold R32 at *; omega) | (unfold R64 at *; omega) | (simp only [R32, R64] at *; omega)) hQ

theorem e_cl_wasStruck79 {X : PX} {d b : Nat} {v : VS} {s : Int} {c : Int} {h : Int} (hX : XI v) (hp_a : R64 s) (hp_b : R64 c) (hp_c : R64 h) : EvV X d 174 [.inr (.inr (some 79)), .inr (.inl s), .inr (.inl c), .inr (.inl h)] b v (some (.inl (cl_wasStruck79 v s c h))) b v := EvV.of (w_cl_wasStruck79 hX hp_a hp_b hp_c (fun _ => ⟨rfl, rfl, rfl⟩))

theorem n_cl_wasStruck79 {v : VS} {s : Int} {c : Int} {h : Int} (hX : XI v) (hp_a : R64 s) (hp_b : R64 c) (hp_c : R64 h) : 0 ≤ (cl_wasStruck79 v s c h) ∧ (cl_wasStruck79 v s c h) ≤ 1 := by
  have q : WV (0, fun _ => 0, none) 0 174 0 [some (.inr (.inr (some 79))), some (.inr (.inl s)), none, some (.inr (.inl c)), none, some (.inr (.inl h)), none, none] [] 1 v (fun _ _ _ => 0 ≤ (cl_wasStruck79 v s c h) ∧ (cl_wasStruck79 v s c h) ≤ 1) := w_cl_wasStruck79 (X := (0, fun _ => 0, none)) (d := 0) (b := 1) hX hp_a hp_b hp_c (fun q => q)
  obtain ⟨_, _, _, _, _, _, _, q⟩ := q
  exact q

def cl_firstOdd79_2 : Nat → VS → Nat → Int → Int
  | 0, v, q, i => 0
  | f + 1, v, q, i => (if (i + 2) < (v (107 + 2 * q) 2) then (if (cl_wasStruck79 v (v (108 + 2 * q) ((i).toNat)) (v (108 + 2 * q) (((i + 1)).toNat)) (v (108 + 2 * q) (((i + 2)).toNat))) = 0 then (i / 3) else (cl_firstOdd79_2 f v q (i + 3))) else (-1))
def cl_firstOdd79 (v : VS) (q : Nat) : Int :=
  (cl_firstOdd79_2 63 v q 0)
theorem l_cl_firstOdd79_2 {X : PX} {d b : Nat} {Q : Option PV → Nat → VS → Prop}  : ∀ (f : Nat) (v : VS) (q : Nat) (i : Int), XI v → (0 ≤ i ∧ i ≤ 62) → (q < 4) → (62 < i + f) → ((-1 ≤ (cl_firstOdd79_2 f v q i) ∧ (cl_firstOdd79_2 f v q i) ≤ 20) → Q (some (.inl (cl_firstOdd79_2 f v q i))) b v) → WV X (d + 1) 173 2 [some (.inr (.inr (some 79))), some (.inr (.inr (some (107 + 2 * q)))), some (.inl i)] [] b v Q := by
  intro f
  induction f with
  | zero =>
    intro v q i hX hi_0 hi_1 hf hQ
    exfalso
    omega
  | succ f ih =>
    intro v q i hX hi_0 hi_1 hf hQ
    rw [cl_firstOdd79_2] at hQ
    refine r_ex 4 (pc' := 6) (lo' := [some (.inr (.inr (some 79))), some (.inr (.inr (some (107 + 2 * q)))), some (.inl i)]) (st' := [.inr (.inr (some (107 + 2 * q))), .inl (i + 2)]) rfl ?_
    refine r_geti2 (x := (v (107 + 2 * q) 2)) (j := 2) (pc' := 9) (pc0 := 6) (len := 3) rfl (s_slot _ (by first | assumption | omega)) rfl rfl rfl (by decide) rfl rfl ?_
    have hb_1 : 0 ≤ (v (107 + 2 * q) 2) ∧ (v (107 + 2 * q) 2) ≤ 60 := XI_slot2 hX (by first | assumption | omega)
    refine n_ic_ge (pc0 := 9) (len := 3) (t := 51) rfl (by first | assumption | omega | (unfold R32 at *; omega) | (unfold R64 at *; omega) | (simp only [R32, R64] at *; omega)) (by first | assumption | omega | (unfold R32 at *; omega) | (unfold R64 at *; omega) | (simp only [R32, R64] at *; omega)) (fun h_9 => ?_) (fun h_9 => ?_)
    · show WV _ _ _ 51 _ _ _ _ _
      rw [if_neg h_9] at hQ
      refine r_ex 1 (pc' := 52) (lo' := [some (.inr (.inr (some 79))), some (.inr (.inr (some (107 + 2 * q)))), some (.inl i)]) (st' := [.inl (-1)]) rfl ?_
      refine r_ret (rr := some (.inl (-1))) (I := .ireturn) (pc0 := 52) (len := 1) rfl rfl ?_
      exact hQ (by first | assumption | omega | (unfold R32 at *; omega) | (unfold R64 at *; omega) | (simp only [R32, R64] at *; omega))
    · show WV _ _ _ 12 _ _ _ _ _
      rw [if_pos h_9] at hQ
      refine r_ex 2 (pc' := 14) (lo' := [some (.inr (.inr (some 79))), some (.inr (.inr (some (107 + 2 * q)))), some (.inl i)]) (st' := [.inr (.inr (some (107 + 2 * q))), .inr (.inr (some 79))]) rfl ?_
      refine r_getr2 (z := some (108 + 2 * q)) (pc' := 17) (pc0 := 14) (len := 3) rfl (s_slot _ (by first | assumption | omega)) rfl rfl rfl ?_
      refine r_ex 1 (pc' := 18) (lo' := [some (.inr (.inr (some 79))), some (.inr (.inr (some (107 + 2 * q)))), some (.inl i)]) (st' := [.inl i, .inr (.inr (some (108 + 2 * q))), .inr (.inr (some 79))]) rfl ?_
      refine r_lald2 (x := (v (108 + 2 * q) ((i).toNat))) (pc' := 19) (pc0 := 18) (len := 1) rfl (s_slotr _ (by first | assumption | omega)) (by first | assumption | omega | (unfold R32 at *; omega) | (unfold R64 at *; omega) | (simp only [R32, R64] at *; omega)) (by decide) rfl rfl ?_
      have hb_2 : R64 (v (108 + 2 * q) ((i).toNat)) := XI_slotr hX (by first | assumption | omega) _
      refine r_ex 1 (pc' := 20) (lo' := [some (.inr (.inr (some 79))), some (.inr (.inr (some (107 + 2 * q)))), some (.inl i)]) (st' := [.inr (.inr (some (107 + 2 * q))), .inr (.inl (v (108 + 2 * q) ((i).toNat))), .inr (.inr (some 79))]) rfl ?_
      refine r_getr2 (z := some (108 + 2 * q)) (pc' := 23) (pc0 := 20) (len := 3) rfl (s_slot _ (by first | assumption | omega)) rfl rfl rfl ?_
      refine r_ex 3 (pc' := 26) (lo' := [some (.inr (.inr (some 79))), some (.inr (.inr (some (107 + 2 * q)))), some (.inl i)]) (st' := [.inl (i + 1), .inr (.inr (some (108 + 2 * q))), .inr (.inl (v (108 + 2 * q) ((i).toNat))), .inr (.inr (some 79))]) rfl ?_
      refine r_lald2 (x := (v (108 + 2 * q) (((i + 1)).toNat))) (pc' := 27) (pc0 := 26) (len := 1) rfl (s_slotr _ (by first | assumption | omega)) (by first | assumption | omega | (unfold R32 at *; omega) | (unfold R64 at *; omega) | (simp only [R32, R64] at *; omega)) (by decide) rfl rfl ?_
      have hb_3 : R64 (v (108 + 2 * q) (((i + 1)).toNat)) := XI_slotr hX (by first | assumption | omega) _
      refine r_ex 1 (pc' := 28) (lo' := [some (.inr (.inr (some 79))), some (.inr (.inr (some (107 + 2 * q)))), some (.inl i)]) (st' := [.inr (.inr (some (107 + 2 * q))), .inr (.inl (v (108 + 2 * q) (((i + 1)).toNat))), .inr (.inl (v (108 + 2 * q) ((i).toNat))), .inr (.inr (some 79))]) rfl ?_
      refine r_getr2 (z := some (108 + 2 * q)) (pc' := 31) (pc0 := 28) (len := 3) rfl (s_slot _ (by first | assumption | omega)) rfl rfl rfl ?_
      refine r_ex 3 (pc' := 34) (lo' := [some (.inr (.inr (some 79))), some (.inr (.inr (some (107 + 2 * q)))), some (.inl i)]) (st' := [.inl (i + 2), .inr (.inr (some (108 + 2 * q))), .inr (.inl (v (108 + 2 * q) (((i + 1)).toNat))), .inr (.inl (v (108 + 2 * q) ((i).toNat))), .inr (.inr (some 79))]) rfl ?_
      refine r_lald2 (x := (v (108 + 2 * q) (((i + 2)).toNat))) (pc' := 35) (pc0 := 34) (len := 1) rfl (s_slotr _ (by first | assumption | omega)) (by first | assumption | omega | (unfold R32 at *; omega) | (unfold R64 at *; omega) | (simp only [R32, R64] at *; omega)) (by decide) rfl rfl ?_
      have hb_4 : R64 (v (108 + 2 * q) (((i + 2)).toNat)) := XI_slotr hX (by first | assumption | omega) _
      have hp_5 : R64 (v (108 + 2 * q) ((i).toNat)) := (by first | assumption | omega | (unfold R32 at *; omega) | (unfold R64 at *; omega) | (simp only [R32, R64] at *; omega))
      have hp_6 : R64 (v (108 + 2 * q) (((i + 1)).toNat)) := (by first | assumption | omega | (unfold R32 at *; omega) | (unfold R64 at *; omega) | (simp only [R32, R64] at *; omega))
      have hp_7 : R64 (v (108 + 2 * q) (((i + 2)).toNat)) := (by first | assumption | omega | (unfold R32 at *; omega) | (unfold R64 at *; omega) | (simp only [R32, R64] at *; omega))
      refine r_call (m := 174) (args := [.inr (.inr (some 79)), .inr (.inl (v (108 + 2 * q) ((i).toNat))), .inr (.inl (v (108 + 2 * q) (((i + 1)).toNat))), .inr (.inl (v (108 + 2 * q) (((i + 2)).toNat)))]) (n' := 173) (pc' := 38) (lo' := [some (.inr (.inr (some 79))), some (.inr (.inr (some (107 + 2 * q)))), some (.inl i)]) (st' := []) (I := .invokevirtual 174) (pc0 := 35) (len := 3) rfl rfl rfl (e_cl_wasStruck79 hX hp_5 hp_6 hp_7) ?_
      show WV _ _ _ 38 _ [.inl (cl_wasStruck79 v (v (108 + 2 * q) ((i).toNat)) (v (108 + 2 * q) (((i + 1)).toNat)) (v (108 + 2 * q) (((i + 2)).toNat)))] _ _ _
      have hb_8 := n_cl_wasStruck79 (v := v) (s := (v (108 + 2 * q) ((i).toNat))) (c := (v (108 + 2 * q) (((i + 1)).toNat))) (h := (v (108 + 2 * q) (((i + 2)).toNat))) hX hp_5 hp_6 hp_7
      refine n_if_ne (pc0 := 38) (len := 3) (t := 45) rfl (by first | assumption | omega | (unfold R32 at *; omega) | (unfold R64 at *; omega) | (simp only [R32, R64] at *; omega)) (fun h_38 => ?_) (fun h_38 => ?_)
      · show WV _ _ _ 45 _ _ _ _ _
        rw [if_neg h_38] at hQ
        refine r_ex 2 (pc' := 2) (lo' := [some (.inr (.inr (some 79))), some (.inr (.inr (some (107 + 2 * q)))), some (.inl (i + 3))]) (st' := []) rfl ?_
        refine ih v q (i + 3)  hX (by first | assumption | omega | (unfold R32 at *; omega) | (unfold R64 at *; omega) | (simp only [R32, R64] at *; omega)) (by first | assumption | omega | (unfold R32 at *; omega) | (unfold R64 at *; omega) | (simp only [R32, R64] at *; omega)) (by first | assumption | omega | (unfold R32 at *; omega) | (unfold R64 at *; omega) | (simp only [R32, R64] at *; omega)) hQ
      · show WV _ _ _ 41 _ _ _ _ _
        rw [if_pos h_38] at hQ
        refine r_ex 2 (pc' := 43) (lo' := [some (.inr (.inr (some 79))), some (.inr (.inr (some (107 + 2 * q)))), some (.inl i)]) (st' := [.inl 3, .inl i]) rfl ?_
        refine n_idiv (pc' := 44) (pc0 := 43) (len := 1) rfl (by first | assumption | omega | (unfold R32 at *; omega) | (unfold R64 at *; omega) | (simp only [R32, R64] at *; omega)) (by first | assumption | omega | (unfold R32 at *; omega) | (unfold R64 at *; omega) | (simp only [R32, R64] at *; omega)) rfl ?_
        refine r_ret (rr := some (.inl (i / 3))) (I := .ireturn) (pc0 := 44) (len := 1) rfl rfl ?_
        exact hQ (by first | assumption | omega | (unfold R32 at *; omega) | (unfold R64 at *; omega) | (simp only [R32, R64] at *; omega))

theorem w_cl_firstOdd79 {X : PX} {d b : Nat} {v : VS} {q : Nat} (hX : XI v) (hp_a : q < 4) {Q : Option PV → Nat → VS → Prop} (hQ : (-1 ≤ (cl_firstOdd79 v q) ∧ (cl_firstOdd79 v q) ≤ 20) → Q (some (.inl (cl_firstOdd79 v q))) b v) : WV X (d + 1) 173 0 [some (.inr (.inr (some 79))), some (.inr (.inr (some (107 + 2 * q)))), none] [] b v Q := by
  rw [cl_firstOdd79] at hQ
  refine r_ex 2 (pc' := 2) (lo' := [some (.inr (.inr (some 79))), some (.inr (.inr (some (107 + 2 * q)))), some (.inl 0)]) (st' := []) rfl ?_
  exact l_cl_firstOdd79_2 63 v q 0  hX (by first | assumption | omega | (unfold R32 at *; omega) | (unfold R64 at *; omega) | (simp only [R32, R64] at *; omega)) (by first | assumption | omega | (unfold R32 at *; omega) | (unfold R64 at *; omega) | (simp only [R32, R64] at *; omega)) (by first | assumption | omega | (unfold R32 at *; omega) | (unfold R64 at *; omega) | (simp only [R32, R64] at *; omega)) hQ

theorem e_cl_firstOdd79 {X : PX} {d b : Nat} {v : VS} {q : Nat} (hX : XI v) (hp_a : q < 4) : EvV X (d + 1) 173 [.inr (.inr (some 79)), .inr (.inr (some (107 + 2 * q)))] b v (some (.inl (cl_firstOdd79 v q))) b v := EvV.of (w_cl_firstOdd79 hX hp_a (fun _ => ⟨rfl, rfl, rfl⟩))

theorem n_cl_firstOdd79 {v : VS} {q : Nat} (hX : XI v) (hp_a : q < 4) : -1 ≤ (cl_firstOdd79 v q) ∧ (cl_firstOdd79 v q) ≤ 20 := by
  have q : WV (0, fun _ => 0, none) (0 + 1) 173 0 [some (.inr (.inr (some 79))), some (.inr (.inr (some (107 + 2 * q)))), none] [] 1 v (fun _ _ _ => -1 ≤ (cl_firstOdd79 v q) ∧ (cl_firstOdd79 v q) ≤ 20) := w_cl_firstOdd79 (X := (0, fun _ => 0, none)) (d := 0) (b := 1) hX hp_a (fun q => q)
  obtain ⟨_, _, _, _, _, _, _, q⟩ := q
  exact q

def cl_wasStruck91_3 : Nat → VS → Int → Int → Int → Int → Int
  | 0, v, s, c, h, i => 0
  | f + 1, v, s, c, h, i => (if i < (v 91 4) then (if s < (v 92 ((i).toNat)) then 0 else (if (v 92 ((i).toNat)) = s then (if (v 93 ((i).toNat)) = c then (if (v 94 ((i).toNat)) = h then 1 else (cl_wasStruck91_3 f v s c h (i + 1))) else (cl_wasStruck91_3 f v s c h (i + 1))) else (cl_wasStruck91_3 f v s c h (i + 1)))) else 0)
def cl_wasStruck91 (v : VS) (s : Int) (c : Int) (h : Int) : Int :=
  (cl_wasStruck91_3 301 v s c h 0)
theorem l_cl_wasStruck91_3 {X : PX} {d b : Nat} {Q : Option PV → Nat → VS → Prop}  : ∀ (f : Nat) (v : VS) (s : Int) (c : Int) (h : Int) (i : Int), XI v → (0 ≤ i ∧ i ≤ 300) → (R64 s) → (R64 c) → (R64 h) → (300 < i + f) → ((0 ≤ (cl_wasStruck91_3 f v s c h i) ∧ (cl_wasStruck91_3 f v s c h i) ≤ 1) → Q (some (.inl (cl_wasStruck91_3 f v s c h i))) b v) → WV X d 174 3 [some (.inr (.inr (some 91))), some (.inr (.inl s)), none, some (.inr (.inl c)), none, some (.inr (.inl h)), none, some (.inl i)] [] b v Q := by
  intro f
  induction f with
  | zero =>
    intro v s c h i hX hi_0 hi_1 hi_2 hi_3 hf hQ
    exfalso
    omega
  | succ f ih =>
    intro v s c h i hX hi_0 hi_1 hi_2 hi_3 hf hQ
    rw [cl_wasStruck91_3] at hQ
    refine r_ex 3 (pc' := 9) (lo' := [some (.inr (.inr (some 91))), some (.inr (.inl s)), none, some (.inr (.inl c)), none, some (.inr (.inl h)), none, some (.inl i)]) (st' := [.inl (v 91 4), .inl i]) rfl ?_
    have hb_1 : 0 ≤ (v 91 4) ∧ (v 91 4) ≤ 300 := hX 91 4
    refine n_ic_ge (pc0 := 9) (len := 3) (t := 73) rfl (by first | assumption | omega | (unfold R32 at *; omega) | (unfold R64 at *; omega) | (simp only [R32, R64] at *; omega)) (by first | assumption | omega | (unfold R32 at *; omega) | (unfold R64 at *; omega) | (simp only [R32, R64] at *; omega)) (fun h_9 => ?_) (fun h_9 => ?_)
    · show WV _ _ _ 73 _ _ _ _ _
      rw [if_neg h_9] at hQ
      refine r_ex 1 (pc' := 74) (lo' := [some (.inr (.inr (some 91))), some (.inr (.inl s)), none, some (.inr (.inl c)), none, some (.inr (.inl h)), none, some (.inl i)]) (st' := [.inl 0]) rfl ?_
      refine r_ret (rr := some (.inl 0)) (I := .ireturn) (pc0 := 74) (len := 1) rfl rfl ?_
      exact hQ (by first | assumption | omega | (unfold R32 at *; omega) | (unfold R64 at *; omega) | (simp only [R32, R64] at *; omega))
    · show WV _ _ _ 12 _ _ _ _ _
      rw [if_pos h_9] at hQ
      refine r_ex 3 (pc' := 18) (lo' := [some (.inr (.inr (some 91))), some (.inr (.inl s)), none, some (.inr (.inl c)), none, some (.inr (.inl h)), none, some (.inl i)]) (st' := [.inl i, .inr (.inr (some 92))]) rfl ?_
      refine r_iald2 (j := 0) (x := (v 92 ((i).toNat))) (pc' := 19) (pc0 := 18) (len := 1) rfl (s_92 _) (by first | assumption | omega | (unfold R32 at *; omega) | (unfold R64 at *; omega) | (simp only [R32, R64] at *; omega)) (by decide) rfl rfl ?_
      have hb_2 : 0 ≤ (v 92 ((i).toNat)) ∧ (v 92 ((i).toNat)) ≤ 299 := hX 92 ((i).toNat)
      refine n_i2l (pc' := 20) (pc0 := 19) (len := 1) rfl (by first | assumption | omega | (unfold R32 at *; omega) | (unfold R64 at *; omega) | (simp only [R32, R64] at *; omega)) rfl ?_
      refine r_ex 1 (pc' := 21) (lo' := [some (.inr (.inr (some 91))), some (.inr (.inl s)), none, some (.inr (.inl c)), none, some (.inr (.inl h)), none, some (.inl i)]) (st' := [.inr (.inl s), .inr (.inl (v 92 ((i).toNat)))]) rfl ?_
      refine n_lc_gt (pc0 := 21) (len := 1) (pc1 := 22) (pc2 := 22) (len2 := 3) (t := 73) rfl rfl rfl (by first | assumption | omega | (unfold R32 at *; omega) | (unfold R64 at *; omega) | (simp only [R32, R64] at *; omega)) (by first | assumption | omega | (unfold R32 at *; omega) | (unfold R64 at *; omega) | (simp only [R32, R64] at *; omega)) (fun h_21 => ?_) (fun h_21 => ?_)
      · show WV _ _ _ 73 _ _ _ _ _
        rw [if_pos h_21] at hQ
        refine r_ex 1 (pc' := 74) (lo' := [some (.inr (.inr (some 91))), some (.inr (.inl s)), none, some (.inr (.inl c)), none, some (.inr (.inl h)), none, some (.inl i)]) (st' := [.inl 0]) rfl ?_
        refine r_ret (rr := some (.inl 0)) (I := .ireturn) (pc0 := 74) (len := 1) rfl rfl ?_
        exact hQ (by first | assumption | omega | (unfold R32 at *; omega) | (unfold R64 at *; omega) | (simp only [R32, R64] at *; omega))
      · show WV _ _ _ 25 _ _ _ _ _
        rw [if_neg h_21] at hQ
        refine r_ex 3 (pc' := 31) (lo' := [some (.inr (.inr (some 91))), some (.inr (.inl s)), none, some (.inr (.inl c)), none, some (.inr (.inl h)), none, some (.inl i)]) (st' := [.inl i, .inr (.inr (some 92))]) rfl ?_
        refine r_iald2 (j := 0) (x := (v 92 ((i).toNat))) (pc' := 32) (pc0 := 31) (len := 1) rfl (s_92 _) (by first | assumption | omega | (unfold R32 at *; omega) | (unfold R64 at *; omega) | (simp only [R32, R64] at *; omega)) (by decide) rfl rfl ?_
        refine n_i2l (pc' := 33) (pc0 := 32) (len := 1) rfl (by first | assumption | omega | (unfold R32 at *; omega) | (unfold R64 at *; omega) | (simp only [R32, R64] at *; omega)) rfl ?_
        refine r_ex 1 (pc' := 34) (lo' := [some (.inr (.inr (some 91))), some (.inr (.inl s)), none, some (.inr (.inl c)), none, some (.inr (.inl h)), none, some (.inl i)]) (st' := [.inr (.inl s), .inr (.inl (v 92 ((i).toNat)))]) rfl ?_
        refine n_lc_ne (pc0 := 34) (len := 1) (pc1 := 35) (pc2 := 35) (len2 := 3) (t := 67) rfl rfl rfl (by first | assumption | omega | (unfold R32 at *; omega) | (unfold R64 at *; omega) | (simp only [R32, R64] at *; omega)) (by first | assumption | omega | (unfold R32 at *; omega) | (unfold R64 at *; omega) | (simp only [R32, R64] at *; omega)) (fun h_34 => ?_) (fun h_34 => ?_)
        · show WV _ _ _ 67 _ _ _ _ _
          rw [if_neg h_34] at hQ
          refine r_ex 2 (pc' := 3) (lo' := [some (.inr (.inr (some 91))), some (.inr (.inl s)), none, some (.inr (.inl c)), none, some (.inr (.inl h)), none, some (.inl (i + 1))]) (st' := []) rfl ?_
          refine ih v s c h (i + 1)  hX (by first | assumption | omega | (unfold R32 at *; omega) | (unfold R64 at *; omega) | (simp only [R32, R64] at *; omega)) (by first | assumption | omega | (unfold R32 at *; omega) | (unfold R64 at *; omega) | (simp only [R32, R64] at *; omega)) (by first | assumption | omega | (unfold R32 at *; omega) | (unfold R64 at *; omega) | (simp only [R32, R64] at *; omega)) (by first | assumption | omega | (unfold R32 at *; omega) | (unfold R64 at *; omega) | (simp only [R32, R64] at *; omega)) (by first | assumption | omega | (unfold R32 at *; omega) | (unfold R64 at *; omega) | (simp only [R32, R64] at *; omega)) hQ
        · show WV _ _ _ 38 _ _ _ _ _
          rw [if_pos h_34] at hQ
          refine r_ex 3 (pc' := 44) (lo' := [some (.inr (.inr (some 91))), some (.inr (.inl s)), none, some (.inr (.inl c)), none, some (.inr (.inl h)), none, some (.inl i)]) (st' := [.inl i, .inr (.inr (some 93))]) rfl ?_
          refine r_iald2 (j := 0) (x := (v 93 ((i).toNat))) (pc' := 45) (pc0 := 44) (len := 1) rfl (s_93 _) (by first | assumption | omega | (unfold R32 at *; omega) | (unfold R64 at *; omega) | (simp only [R32, R64] at *; omega)) (by decide) rfl rfl ?_
          have hb_3 : 0 ≤ (v 93 ((i).toNat)) ∧ (v 93 ((i).toNat)) ≤ 8 := hX 93 ((i).toNat)
          refine n_i2l (pc' := 46) (pc0 := 45) (len := 1) rfl (by first | assumption | omega | (unfold R32 at *; omega) | (unfold R64 at *; omega) | (simp only [R32, R64] at *; omega)) rfl ?_
          refine r_ex 1 (pc' := 47) (lo' := [some (.inr (.inr (some 91))), some (.inr (.inl s)), none, some (.inr (.inl c)), none, some (.inr (.inl h)), none, some (.inl i)]) (st' := [.inr (.inl c), .inr (.inl (v 93 ((i).toNat)))]) rfl ?_
          refine n_lc_ne (pc0 := 47) (len := 1) (pc1 := 48) (pc2 := 48) (len2 := 3) (t := 67) rfl rfl rfl (by first | assumption | omega | (unfold R32 at *; omega) | (unfold R64 at *; omega) | (simp only [R32, R64] at *; omega)) (by first | assumption | omega | (unfold R32 at *; omega) | (unfold R64 at *; omega) | (simp only [R32, R64] at *; omega)) (fun h_47 => ?_) (fun h_47 => ?_)
          · show WV _ _ _ 67 _ _ _ _ _
            rw [if_neg h_47] at hQ
            refine r_ex 2 (pc' := 3) (lo' := [some (.inr (.inr (some 91))), some (.inr (.inl s)), none, some (.inr (.inl c)), none, some (.inr (.inl h)), none, some (.inl (i + 1))]) (st' := []) rfl ?_
            refine ih v s c h (i + 1)  hX (by first | assumption | omega | (unfold R32 at *; omega) | (unfold R64 at *; omega) | (simp only [R32, R64] at *; omega)) (by first | assumption | omega | (unfold R32 at *; omega) | (unfold R64 at *; omega) | (simp only [R32, R64] at *; omega)) (by first | assumption | omega | (unfold R32 at *; omega) | (unfold R64 at *; omega) | (simp only [R32, R64] at *; omega)) (by first | assumption | omega | (unfold R32 at *; omega) | (unfold R64 at *; omega) | (simp only [R32, R64] at *; omega)) (by first | assumption | omega | (unfold R32 at *; omega) | (unfold R64 at *; omega) | (simp only [R32, R64] at *; omega)) hQ
          · show WV _ _ _ 51 _ _ _ _ _
            rw [if_pos h_47] at hQ
            refine r_ex 3 (pc' := 57) (lo' := [some (.inr (.inr (some 91))), some (.inr (.inl s)), none, some (.inr (.inl c)), none, some (.inr (.inl h)), none, some (.inl i)]) (st' := [.inl i, .inr (.inr (some 94))]) rfl ?_
            refine r_iald2 (j := 0) (x := (v 94 ((i).toNat))) (pc' := 58) (pc0 := 57) (len := 1) rfl (s_94 _) (by first | assumption | omega | (unfold R32 at *; omega) | (unfold R64 at *; omega) | (simp only [R32, R64] at *; omega)) (by decide) rfl rfl ?_
            have hb_4 : 0 ≤ (v 94 ((i).toNat)) ∧ (v 94 ((i).toNat)) ≤ 99 := hX 94 ((i).toNat)
            refine n_i2l (pc' := 59) (pc0 := 58) (len := 1) rfl (by first | assumption | omega | (unfold R32 at *; omega) | (unfold R64 at *; omega) | (simp only [R32, R64] at *; omega)) rfl ?_
            refine r_ex 1 (pc' := 61) (lo' := [some (.inr (.inr (some 91))), some (.inr (.inl s)), none, some (.inr (.inl c)), none, some (.inr (.inl h)), none, some (.inl i)]) (st' := [.inr (.inl h), .inr (.inl (v 94 ((i).toNat)))]) rfl ?_
            refine n_lc_ne (pc0 := 61) (len := 1) (pc1 := 62) (pc2 := 62) (len2 := 3) (t := 67) rfl rfl rfl (by first | assumption | omega | (unfold R32 at *; omega) | (unfold R64 at *; omega) | (simp only [R32, R64] at *; omega)) (by first | assumption | omega | (unfold R32 at *; omega) | (unfold R64 at *; omega) | (simp only [R32, R64] at *; omega)) (fun h_61 => ?_) (fun h_61 => ?_)
            · show WV _ _ _ 67 _ _ _ _ _
              rw [if_neg h_61] at hQ
              refine r_ex 2 (pc' := 3) (lo' := [some (.inr (.inr (some 91))), some (.inr (.inl s)), none, some (.inr (.inl c)), none, some (.inr (.inl h)), none, some (.inl (i + 1))]) (st' := []) rfl ?_
              refine ih v s c h (i + 1)  hX (by first | assumption | omega | (unfold R32 at *; omega) | (unfold R64 at *; omega) | (simp only [R32, R64] at *; omega)) (by first | assumption | omega | (unfold R32 at *; omega) | (unfold R64 at *; omega) | (simp only [R32, R64] at *; omega)) (by first | assumption | omega | (unfold R32 at *; omega) | (unfold R64 at *; omega) | (simp only [R32, R64] at *; omega)) (by first | assumption | omega | (unfold R32 at *; omega) | (unfold R64 at *; omega) | (simp only [R32, R64] at *; omega)) (by first | assumption | omega | (unfold R32 at *; omega) | (unfold R64 at *; omega) | (simp only [R32, R64] at *; omega)) hQ
            · show WV _ _ _ 65 _ _ _ _ _
              rw [if_pos h_61] at hQ
              refine r_ex 1 (pc' := 66) (lo' := [some (.inr (.inr (some 91))), some (.inr (.inl s)), none, some (.inr (.inl c)), none, some (.inr (.inl h)), none, some (.inl i)]) (st' := [.inl 1]) rfl ?_
              refine r_ret (rr := some (.inl 1)) (I := .ireturn) (pc0 := 66) (len := 1) rfl rfl ?_
              exact hQ (by first | assumption | omega | (unfold R32 at *; omega) | (unfold R64 at *; omega) | (simp only [R32, R64] at *; omega))

theorem w_cl_wasStruck91 {X : PX} {d b : Nat} {v : VS} {s : Int} {c : Int} {h : Int} (hX : XI v) (hp_a : R64 s) (hp_b : R64 c) (hp_c : R64 h) {Q : Option PV → Nat → VS → Prop} (hQ : (0 ≤ (cl_wasStruck91 v s c h) ∧ (cl_wasStruck91 v s c h) ≤ 1) → Q (some (.inl (cl_wasStruck91 v s c h))) b v) : WV X d 174 0 [some (.inr (.inr (some 91))), some (.inr (.inl s)), none, some (.inr (.inl c)), none, some (.inr (.inl h)), none, none] [] b v Q := by
  rw [cl_wasStruck91] at hQ
  refine r_ex 2 (pc' := 3) (lo' := [some (.inr (.inr (some 91))), some (.inr (.inl s)), none, some (.inr (.inl c)), none, some (.inr (.inl h)), none, some (.inl 0)]) (st' := []) rfl ?_
  exact l_cl_wasStruck91_3 301 v s c h 0  hX (by first | assumption | omega | (unfold R32 at *; omega) | (unfold R64 at *; omega) | (simp only [R32, R64] at *; omega)) (by first | assumption | omega | (unfold R32 at *; omega) | (unfold R64 at *; omega) | (simp only [R32, R64] at *; omega)) (by first | assumption | omega | (unfold R32 at *; omega) | (unfold R64 at *; omega) | (simp only [R32, R64] at *; omega)) (by first | assumption | omega | (unfold R32 at *; omega) | (unfold R64 at *; omega) | (simp only [R32, R64] at *; omega)) (by first | assumption | omega | (unfold R32 at *; omega) | (unfold R64 at *; omega) | (simp only [R32, R64] at *; omega)) hQ

theorem e_cl_wasStruck91 {X : PX} {d b : Nat} {v : VS} {s : Int} {c : Int} {h : Int} (hX : XI v) (hp_a : R64 s) (hp_b : R64 c) (hp_c : R64 h) : EvV X d 174 [.inr (.inr (some 91)), .inr (.inl s), .inr (.inl c), .inr (.inl h)] b v (some (.inl (cl_wasStruck91 v s c h))) b v := EvV.of (w_cl_wasStruck91 hX hp_a hp_b hp_c (fun _ => ⟨rfl, rfl, rfl⟩))

theorem n_cl_wasStruck91 {v : VS} {s : Int} {c : Int} {h : Int} (hX : XI v) (hp_a : R64 s) (hp_b : R64 c) (hp_c : R64 h) : 0 ≤ (cl_wasStruck91 v s c h) ∧ (cl_wasStruck91 v s c h) ≤ 1 := by
  have q : WV (0, fun _ => 0, none) 0 174 0 [some (.inr (.inr (some 91))), some (.inr (.inl s)), none, some (.inr (.inl c)), none, some (.inr (.inl h)), none, none] [] 1 v (fun _ _ _ => 0 ≤ (cl_wasStruck91 v s c h) ∧ (cl_wasStruck91 v s c h) ≤ 1) := w_cl_wasStruck91 (X := (0, fun _ => 0, none)) (d := 0) (b := 1) hX hp_a hp_b hp_c (fun q => q)
  obtain ⟨_, _, _, _, _, _, _, q⟩ := q
  exact q

def cl_firstOdd91_2 : Nat → VS → Nat → Int → Int
  | 0, v, q, i => 0
  | f + 1, v, q, i => (if (i + 2) < (v (107 + 2 * q) 2) then (if (cl_wasStruck91 v (v (108 + 2 * q) ((i).toNat)) (v (108 + 2 * q) (((i + 1)).toNat)) (v (108 + 2 * q) (((i + 2)).toNat))) = 0 then (i / 3) else (cl_firstOdd91_2 f v q (i + 3))) else (-1))
def cl_firstOdd91 (v : VS) (q : Nat) : Int :=
  (cl_firstOdd91_2 63 v q 0)
theorem l_cl_firstOdd91_2 {X : PX} {d b : Nat} {Q : Option PV → Nat → VS → Prop}  : ∀ (f : Nat) (v : VS) (q : Nat) (i : Int), XI v → (0 ≤ i ∧ i ≤ 62) → (q < 4) → (62 < i + f) → ((-1 ≤ (cl_firstOdd91_2 f v q i) ∧ (cl_firstOdd91_2 f v q i) ≤ 20) → Q (some (.inl (cl_firstOdd91_2 f v q i))) b v) → WV X (d + 1) 173 2 [some (.inr (.inr (some 91))), some (.inr (.inr (some (107 + 2 * q)))), some (.inl i)] [] b v Q := by
  intro f
  induction f with
  | zero =>
    intro v q i hX hi_0 hi_1 hf hQ
    exfalso
    omega
  | succ f ih =>
    intro v q i hX hi_0 hi_1 hf hQ
    rw [cl_firstOdd91_2] at hQ
    refine r_ex 4 (pc' := 6) (lo' := [some (.inr (.inr (some 91))), some (.inr (.inr (some (107 + 2 * q)))), some (.inl i)]) (st' := [.inr (.inr (some (107 + 2 * q))), .inl (i + 2)]) rfl ?_
    refine r_geti2 (x := (v (107 + 2 * q) 2)) (j := 2) (pc' := 9) (pc0 := 6) (len := 3) rfl (s_slot _ (by first | assumption | omega)) rfl rfl rfl (by decide) rfl rfl ?_
    have hb_1 : 0 ≤ (v (107 + 2 * q) 2) ∧ (v (107 + 2 * q) 2) ≤ 60 := XI_slot2 hX (by first | assumption | omega)
    refine n_ic_ge (pc0 := 9) (len := 3) (t := 51) rfl (by first | assumption | omega | (unfold R32 at *; omega) | (unfold R64 at *; omega) | (simp only [R32, R64] at *; omega)) (by first | assumption | omega | (unfold R32 at *; omega) | (unfold R64 at *; omega) | (simp only [R32, R64] at *; omega)) (fun h_9 => ?_) (fun h_9 => ?_)
    · show WV _ _ _ 51 _ _ _ _ _
      rw [if_neg h_9] at hQ
      refine r_ex 1 (pc' := 52) (lo' := [some (.inr (.inr (some 91))), some (.inr (.inr (some (107 + 2 * q)))), some (.inl i)]) (st' := [.inl (-1)]) rfl ?_
      refine r_ret (rr := some (.inl (-1))) (I := .ireturn) (pc0 := 52) (len := 1) rfl rfl ?_
      exact hQ (by first | assumption | omega | (unfold R32 at *; omega) | (unfold R64 at *; omega) | (simp only [R32, R64] at *; omega))
    · show WV _ _ _ 12 _ _ _ _ _
      rw [if_pos h_9] at hQ
      refine r_ex 2 (pc' := 14) (lo' := [some (.inr (.inr (some 91))), some (.inr (.inr (some (107 + 2 * q)))), some (.inl i)]) (st' := [.inr (.inr (some (107 + 2 * q))), .inr (.inr (some 91))]) rfl ?_
      refine r_getr2 (z := some (108 + 2 * q)) (pc' := 17) (pc0 := 14) (len := 3) rfl (s_slot _ (by first | assumption | omega)) rfl rfl rfl ?_
      refine r_ex 1 (pc' := 18) (lo' := [some (.inr (.inr (some 91))), some (.inr (.inr (some (107 + 2 * q)))), some (.inl i)]) (st' := [.inl i, .inr (.inr (some (108 + 2 * q))), .inr (.inr (some 91))]) rfl ?_
      refine r_lald2 (x := (v (108 + 2 * q) ((i).toNat))) (pc' := 19) (pc0 := 18) (len := 1) rfl (s_slotr _ (by first | assumption | omega)) (by first | assumption | omega | (unfold R32 at *; omega) | (unfold R64 at *; omega) | (simp only [R32, R64] at *; omega)) (by decide) rfl rfl ?_
      have hb_2 : R64 (v (108 + 2 * q) ((i).toNat)) := XI_slotr hX (by first | assumption | omega) _
      refine r_ex 1 (pc' := 20) (lo' := [some (.inr (.inr (some 91))), some (.inr (.inr (some (107 + 2 * q)))), some (.inl i)]) (st' := [.inr (.inr (some (107 + 2 * q))), .inr (.inl (v (108 + 2 * q) ((i).toNat))), .inr (.inr (some 91))]) rfl ?_
      refine r_getr2 (z := some (108 + 2 * q)) (pc' := 23) (pc0 := 20) (len := 3) rfl (s_slot _ (by first | assumption | omega)) rfl rfl rfl ?_
      refine r_ex 3 (pc' := 26) (lo' := [some (.inr (.inr (some 91))), some (.inr (.inr (some (107 + 2 * q)))), some (.inl i)]) (st' := [.inl (i + 1), .inr (.inr (some (108 + 2 * q))), .inr (.inl (v (108 + 2 * q) ((i).toNat))), .inr (.inr (some 91))]) rfl ?_
      refine r_lald2 (x := (v (108 + 2 * q) (((i + 1)).toNat))) (pc' := 27) (pc0 := 26) (len := 1) rfl (s_slotr _ (by first | assumption | omega)) (by first | assumption | omega | (unfold R32 at *; omega) | (unfold R64 at *; omega) | (simp only [R32, R64] at *; omega)) (by decide) rfl rfl ?_
      have hb_3 : R64 (v (108 + 2 * q) (((i + 1)).toNat)) := XI_slotr hX (by first | assumption | omega) _
      refine r_ex 1 (pc' := 28) (lo' := [some (.inr (.inr (some 91))), some (.inr (.inr (some (107 + 2 * q)))), some (.inl i)]) (st' := [.inr (.inr (some (107 + 2 * q))), .inr (.inl (v (108 + 2 * q) (((i + 1)).toNat))), .inr (.inl (v (108 + 2 * q) ((i).toNat))), .inr (.inr (some 91))]) rfl ?_
      refine r_getr2 (z := some (108 + 2 * q)) (pc' := 31) (pc0 := 28) (len := 3) rfl (s_slot _ (by first | assumption | omega)) rfl rfl rfl ?_
      refine r_ex 3 (pc' := 34) (lo' := [some (.inr (.inr (some 91))), some (.inr (.inr (some (107 + 2 * q)))), some (.inl i)]) (st' := [.inl (i + 2), .inr (.inr (some (108 + 2 * q))), .inr (.inl (v (108 + 2 * q) (((i + 1)).toNat))), .inr (.inl (v (108 + 2 * q) ((i).toNat))), .inr (.inr (some 91))]) rfl ?_
      refine r_lald2 (x := (v (108 + 2 * q) (((i + 2)).toNat))) (pc' := 35) (pc0 := 34) (len := 1) rfl (s_slotr _ (by first | assumption | omega)) (by first | assumption | omega | (unfold R32 at *; omega) | (unfold R64 at *; omega) | (simp only [R32, R64] at *; omega)) (by decide) rfl rfl ?_
      have hb_4 : R64 (v (108 + 2 * q) (((i + 2)).toNat)) := XI_slotr hX (by first | assumption | omega) _
      have hp_5 : R64 (v (108 + 2 * q) ((i).toNat)) := (by first | assumption | omega | (unfold R32 at *; omega) | (unfold R64 at *; omega) | (simp only [R32, R64] at *; omega))
      have hp_6 : R64 (v (108 + 2 * q) (((i + 1)).toNat)) := (by first | assumption | omega | (unfold R32 at *; omega) | (unfold R64 at *; omega) | (simp only [R32, R64] at *; omega))
      have hp_7 : R64 (v (108 + 2 * q) (((i + 2)).toNat)) := (by first | assumption | omega | (unfold R32 at *; omega) | (unfold R64 at *; omega) | (simp only [R32, R64] at *; omega))
      refine r_call (m := 174) (args := [.inr (.inr (some 91)), .inr (.inl (v (108 + 2 * q) ((i).toNat))), .inr (.inl (v (108 + 2 * q) (((i + 1)).toNat))), .inr (.inl (v (108 + 2 * q) (((i + 2)).toNat)))]) (n' := 173) (pc' := 38) (lo' := [some (.inr (.inr (some 91))), some (.inr (.inr (some (107 + 2 * q)))), some (.inl i)]) (st' := []) (I := .invokevirtual 174) (pc0 := 35) (len := 3) rfl rfl rfl (e_cl_wasStruck91 hX hp_5 hp_6 hp_7) ?_
      show WV _ _ _ 38 _ [.inl (cl_wasStruck91 v (v (108 + 2 * q) ((i).toNat)) (v (108 + 2 * q) (((i + 1)).toNat)) (v (108 + 2 * q) (((i + 2)).toNat)))] _ _ _
      have hb_8 := n_cl_wasStruck91 (v := v) (s := (v (108 + 2 * q) ((i).toNat))) (c := (v (108 + 2 * q) (((i + 1)).toNat))) (h := (v (108 + 2 * q) (((i + 2)).toNat))) hX hp_5 hp_6 hp_7
      refine n_if_ne (pc0 := 38) (len := 3) (t := 45) rfl (by first | assumption | omega | (unfold R32 at *; omega) | (unfold R64 at *; omega) | (simp only [R32, R64] at *; omega)) (fun h_38 => ?_) (fun h_38 => ?_)
      · show WV _ _ _ 45 _ _ _ _ _
        rw [if_neg h_38] at hQ
        refine r_ex 2 (pc' := 2) (lo' := [some (.inr (.inr (some 91))), some (.inr (.inr (some (107 + 2 * q)))), some (.inl (i + 3))]) (st' := []) rfl ?_
        refine ih v q (i + 3)  hX (by first | assumption | omega | (unfold R32 at *; omega) | (unfold R64 at *; omega) | (simp only [R32, R64] at *; omega)) (by first | assumption | omega | (unfold R32 at *; omega) | (unfold R64 at *; omega) | (simp only [R32, R64] at *; omega)) (by first | assumption | omega | (unfold R32 at *; omega) | (unfold R64 at *; omega) | (simp only [R32, R64] at *; omega)) hQ
      · show WV _ _ _ 41 _ _ _ _ _
        rw [if_pos h_38] at hQ
        refine r_ex 2 (pc' := 43) (lo' := [some (.inr (.inr (some 91))), some (.inr (.inr (some (107 + 2 * q)))), some (.inl i)]) (st' := [.inl 3, .inl i]) rfl ?_
        refine n_idiv (pc' := 44) (pc0 := 43) (len := 1) rfl (by first | assumption | omega | (unfold R32 at *; omega) | (unfold R64 at *; omega) | (simp only [R32, R64] at *; omega)) (by first | assumption | omega | (unfold R32 at *; omega) | (unfold R64 at *; omega) | (simp only [R32, R64] at *; omega)) rfl ?_
        refine r_ret (rr := some (.inl (i / 3))) (I := .ireturn) (pc0 := 44) (len := 1) rfl rfl ?_
        exact hQ (by first | assumption | omega | (unfold R32 at *; omega) | (unfold R64 at *; omega) | (simp only [R32, R64] at *; omega))

theorem w_cl_firstOdd91 {X : PX} {d b : Nat} {v : VS} {q : Nat} (hX : XI v) (hp_a : q < 4) {Q : Option PV → Nat → VS → Prop} (hQ : (-1 ≤ (cl_firstOdd91 v q) ∧ (cl_firstOdd91 v q) ≤ 20) → Q (some (.inl (cl_firstOdd91 v q))) b v) : WV X (d + 1) 173 0 [some (.inr (.inr (some 91))), some (.inr (.inr (some (107 + 2 * q)))), none] [] b v Q := by
  rw [cl_firstOdd91] at hQ
  refine r_ex 2 (pc' := 2) (lo' := [some (.inr (.inr (some 91))), some (.inr (.inr (some (107 + 2 * q)))), some (.inl 0)]) (st' := []) rfl ?_
  exact l_cl_firstOdd91_2 63 v q 0  hX (by first | assumption | omega | (unfold R32 at *; omega) | (unfold R64 at *; omega) | (simp only [R32, R64] at *; omega)) (by first | assumption | omega | (unfold R32 at *; omega) | (unfold R64 at *; omega) | (simp only [R32, R64] at *; omega)) (by first | assumption | omega | (unfold R32 at *; omega) | (unfold R64 at *; omega) | (simp only [R32, R64] at *; omega)) hQ

theorem e_cl_firstOdd91 {X : PX} {d b : Nat} {v : VS} {q : Nat} (hX : XI v) (hp_a : q < 4) : EvV X (d + 1) 173 [.inr (.inr (some 91)), .inr (.inr (some (107 + 2 * q)))] b v (some (.inl (cl_firstOdd91 v q))) b v := EvV.of (w_cl_firstOdd91 hX hp_a (fun _ => ⟨rfl, rfl, rfl⟩))

theorem n_cl_firstOdd91 {v : VS} {q : Nat} (hX : XI v) (hp_a : q < 4) : -1 ≤ (cl_firstOdd91 v q) ∧ (cl_firstOdd91 v q) ≤ 20 := by
  have q : WV (0, fun _ => 0, none) (0 + 1) 173 0 [some (.inr (.inr (some 91))), some (.inr (.inr (some (107 + 2 * q)))), none] [] 1 v (fun _ _ _ => -1 ≤ (cl_firstOdd91 v q) ∧ (cl_firstOdd91 v q) ≤ 20) := w_cl_firstOdd91 (X := (0, fun _ => 0, none)) (d := 0) (b := 1) hX hp_a (fun q => q)
  obtain ⟨_, _, _, _, _, _, _, q⟩ := q
  exact q

def cl_leastSecond_6 : Nat → VS → Nat → Int → Int → Int
  | 0, v, q, l, i => 0
  | f + 1, v, q, l, i => (if i < (v (107 + 2 * q) 2) then (cl_leastSecond_6 f v q (min l (v (108 + 2 * q) ((i).toNat))) (i + 3)) else l)
def cl_leastSecond (v : VS) (q : Nat) (m : Int) : Int :=
  (cl_leastSecond_6 63 v q m 0)
theorem l_cl_leastSecond_6 {X : PX} {d b : Nat} {Q : Option PV → Nat → VS → Prop}  : ∀ (f : Nat) (v : VS) (q : Nat) (l : Int) (i : Int) (z1 : Int), XI v → (0 ≤ i ∧ i ≤ 62) → (0 ≤ l ∧ l ≤ 299) → (i % 3 = 0) → (TH v q) → (q < 4) → (62 < i + f) → ((0 ≤ (cl_leastSecond_6 f v q l i) ∧ (cl_leastSecond_6 f v q l i) ≤ 299) → Q (some (.inl (cl_leastSecond_6 f v q l i))) b v) → WV X (d + 1) 169 6 [some (.inr (.inr (some (107 + 2 * q)))), some (.inl z1), some (.inr (.inl l)), none, some (.inl i)] [] b v Q := by
  intro f
  induction f with
  | zero =>
    intro v q l i z1 hX hi_0 hi_1 hi_2 hi_3 hi_4 hf hQ
    exfalso
    omega
  | succ f ih =>
    intro v q l i z1 hX hi_0 hi_1 hi_2 hi_3 hi_4 hf hQ
    rw [cl_leastSecond_6] at hQ
    refine r_ex 2 (pc' := 9) (lo' := [some (.inr (.inr (some (107 + 2 * q)))), some (.inl z1), some (.inr (.inl l)), none, some (.inl i)]) (st' := [.inr (.inr (some (107 + 2 * q))), .inl i]) rfl ?_
    refine r_geti2 (x := (v (107 + 2 * q) 2)) (j := 2) (pc' := 12) (pc0 := 9) (len := 3) rfl (s_slot _ (by first | assumption | omega)) rfl rfl rfl (by decide) rfl rfl ?_
    have hb_1 : 0 ≤ (v (107 + 2 * q) 2) ∧ (v (107 + 2 * q) 2) ≤ 60 := XI_slot2 hX (by first | assumption | omega)
    refine n_ic_ge (pc0 := 12) (len := 3) (t := 33) rfl (by first | assumption | omega | (unfold R32 at *; omega) | (unfold R64 at *; omega) | (simp only [R32, R64] at *; omega)) (by first | assumption | omega | (unfold R32 at *; omega) | (unfold R64 at *; omega) | (simp only [R32, R64] at *; omega)) (fun h_12 => ?_) (fun h_12 => ?_)
    · show WV _ _ _ 33 _ _ _ _ _
      rw [if_neg h_12] at hQ
      refine r_ex 2 (pc' := 35) (lo' := [some (.inr (.inr (some (107 + 2 * q)))), some (.inl z1), some (.inr (.inl l)), none, some (.inl i)]) (st' := [.inl l]) rfl ?_
      refine r_ret (rr := some (.inl l)) (I := .ireturn) (pc0 := 35) (len := 1) rfl rfl ?_
      exact hQ (by first | assumption | omega | (unfold R32 at *; omega) | (unfold R64 at *; omega) | (simp only [R32, R64] at *; omega))
    · show WV _ _ _ 15 _ _ _ _ _
      rw [if_pos h_12] at hQ
      refine r_ex 2 (pc' := 17) (lo' := [some (.inr (.inr (some (107 + 2 * q)))), some (.inl z1), some (.inr (.inl l)), none, some (.inl i)]) (st' := [.inr (.inr (some (107 + 2 * q))), .inr (.inl l)]) rfl ?_
      refine r_getr2 (z := some (108 + 2 * q)) (pc' := 20) (pc0 := 17) (len := 3) rfl (s_slot _ (by first | assumption | omega)) rfl rfl rfl ?_
      refine r_ex 1 (pc' := 22) (lo' := [some (.inr (.inr (some (107 + 2 * q)))), some (.inl z1), some (.inr (.inl l)), none, some (.inl i)]) (st' := [.inl i, .inr (.inr (some (108 + 2 * q))), .inr (.inl l)]) rfl ?_
      refine r_lald2 (x := (v (108 + 2 * q) ((i).toNat))) (pc' := 23) (pc0 := 22) (len := 1) rfl (s_slotr _ (by first | assumption | omega)) (by first | assumption | omega | (unfold R32 at *; omega) | (unfold R64 at *; omega) | (simp only [R32, R64] at *; omega)) (by decide) rfl rfl ?_
      have hb_2 : R64 (v (108 + 2 * q) ((i).toNat)) := XI_slotr hX (by first | assumption | omega) _
      have ht2 := hi_3.at hi_0.1 hi_2 (by omega)
      refine r_prim (x := .inr (.inl (if w64 (v (108 + 2 * q) ((i).toNat)) < w64 l then (v (108 + 2 * q) ((i).toNat)) else l))) (m := 170) (args := [.inr (.inl l), .inr (.inl (v (108 + 2 * q) ((i).toNat)))]) (n' := 169) (pc' := 26) (lo' := [some (.inr (.inr (some (107 + 2 * q)))), some (.inl z1), some (.inr (.inl l)), none, some (.inl i)]) (st' := []) (I := .invokestatic 170) (pc0 := 23) (len := 3) rfl rfl rfl ?_
      rw [mn64 (by first | assumption | omega | (unfold R32 at *; omega) | (unfold R64 at *; omega) | (simp only [R32, R64] at *; omega)) (by first | assumption | omega | (unfold R32 at *; omega) | (unfold R64 at *; omega) | (simp only [R32, R64] at *; omega))]
      refine r_ex 3 (pc' := 6) (lo' := [some (.inr (.inr (some (107 + 2 * q)))), some (.inl z1), some (.inr (.inl (min l (v (108 + 2 * q) ((i).toNat))))), none, some (.inl (i + 3))]) (st' := []) rfl ?_
      refine ih v q (min l (v (108 + 2 * q) ((i).toNat))) (i + 3) _ hX (by first | assumption | omega | (unfold R32 at *; omega) | (unfold R64 at *; omega) | (simp only [R32, R64] at *; omega)) (by first | assumption | omega | (unfold R32 at *; omega) | (unfold R64 at *; omega) | (simp only [R32, R64] at *; omega)) (by first | assumption | omega | (unfold R32 at *; omega) | (unfold R64 at *; omega) | (simp only [R32, R64] at *; omega)) (by first | assumption | omega | (unfold R32 at *; omega) | (unfold R64 at *; omega) | (simp only [R32, R64] at *; omega)) (by first | assumption | omega | (unfold R32 at *; omega) | (unfold R64 at *; omega) | (simp only [R32, R64] at *; omega)) (by first | assumption | omega | (unfold R32 at *; omega) | (unfold R64 at *; omega) | (simp only [R32, R64] at *; omega)) hQ

theorem w_cl_leastSecond {X : PX} {d b : Nat} {v : VS} {q : Nat} {m : Int} (hX : XI v) (hp_a : q < 4) (hp_b : 0 ≤ m ∧ m ≤ 299) (hp_c : TH v q) {Q : Option PV → Nat → VS → Prop} (hQ : (0 ≤ (cl_leastSecond v q m) ∧ (cl_leastSecond v q m) ≤ 299) → Q (some (.inl (cl_leastSecond v q m))) b v) : WV X (d + 1) 169 0 [some (.inr (.inr (some (107 + 2 * q)))), some (.inl m), none, none, none] [] b v Q := by
  rw [cl_leastSecond] at hQ
  refine r_ex 1 (pc' := 1) (lo' := [some (.inr (.inr (some (107 + 2 * q)))), some (.inl m), none, none, none]) (st' := [.inl m]) rfl ?_
  refine n_i2l (pc' := 2) (pc0 := 1) (len := 1) rfl (by first | assumption | omega | (unfold R32 at *; omega) | (unfold R64 at *; omega) | (simp only [R32, R64] at *; omega)) rfl ?_
  refine r_ex 3 (pc' := 6) (lo' := [some (.inr (.inr (some (107 + 2 * q)))), some (.inl m), some (.inr (.inl m)), none, some (.inl 0)]) (st' := []) rfl ?_
  exact l_cl_leastSecond_6 63 v q m 0 _ hX (by first | assumption | omega | (unfold R32 at *; omega) | (unfold R64 at *; omega) | (simp only [R32, R64] at *; omega)) (by first | assumption | omega | (unfold R32 at *; omega) | (unfold R64 at *; omega) | (simp only [R32, R64] at *; omega)) (by first | assumption | omega | (unfold R32 at *; omega) | (unfold R64 at *; omega) | (simp only [R32, R64] at *; omega)) (by first | assumption | omega | (unfold R32 at *; omega) | (unfold R64 at *; omega) | (simp only [R32, R64] at *; omega)) (by first | assumption | omega | (unfold R32 at *; omega) | (unfold R64 at *; omega) | (simp only [R32, R64] at *; omega)) (by first | assumption | omega | (unfold R32 at *; omega) | (unfold R64 at *; omega) | (simp only [R32, R64] at *; omega)) hQ

theorem e_cl_leastSecond {X : PX} {d b : Nat} {v : VS} {q : Nat} {m : Int} (hX : XI v) (hp_a : q < 4) (hp_b : 0 ≤ m ∧ m ≤ 299) (hp_c : TH v q) : EvV X (d + 1) 169 [.inr (.inr (some (107 + 2 * q))), .inl m] b v (some (.inl (cl_leastSecond v q m))) b v := EvV.of (w_cl_leastSecond hX hp_a hp_b hp_c (fun _ => ⟨rfl, rfl, rfl⟩))

theorem n_cl_leastSecond {v : VS} {q : Nat} {m : Int} (hX : XI v) (hp_a : q < 4) (hp_b : 0 ≤ m ∧ m ≤ 299) (hp_c : TH v q) : 0 ≤ (cl_leastSecond v q m) ∧ (cl_leastSecond v q m) ≤ 299 := by
  have q : WV (0, fun _ => 0, none) (0 + 1) 169 0 [some (.inr (.inr (some (107 + 2 * q)))), some (.inl m), none, none, none] [] 1 v (fun _ _ _ => 0 ≤ (cl_leastSecond v q m) ∧ (cl_leastSecond v q m) ≤ 299) := w_cl_leastSecond (X := (0, fun _ => 0, none)) (d := 0) (b := 1) hX hp_a hp_b hp_c (fun q => q)
  obtain ⟨_, _, _, _, _, _, _, q⟩ := q
  exact q

def cl_mostSecond_4 : Nat → VS → Nat → Int → Int → Int
  | 0, v, q, l, i => 0
  | f + 1, v, q, l, i => (if i < (v (107 + 2 * q) 2) then (cl_mostSecond_4 f v q (max l (v (108 + 2 * q) ((i).toNat))) (i + 3)) else l)
def cl_mostSecond (v : VS) (q : Nat) : Int :=
  (cl_mostSecond_4 63 v q 0 0)
theorem l_cl_mostSecond_4 {X : PX} {d b : Nat} {Q : Option PV → Nat → VS → Prop}  : ∀ (f : Nat) (v : VS) (q : Nat) (l : Int) (i : Int), XI v → (0 ≤ i ∧ i ≤ 62) → (0 ≤ l ∧ l ≤ 299) → (i % 3 = 0) → (TH v q) → (q < 4) → (62 < i + f) → ((0 ≤ (cl_mostSecond_4 f v q l i) ∧ (cl_mostSecond_4 f v q l i) ≤ 299) → Q (some (.inl (cl_mostSecond_4 f v q l i))) b v) → WV X (d + 1) 171 4 [some (.inr (.inr (some (107 + 2 * q)))), some (.inr (.inl l)), none, some (.inl i)] [] b v Q := by
  intro f
  induction f with
  | zero =>
    intro v q l i hX hi_0 hi_1 hi_2 hi_3 hi_4 hf hQ
    exfalso
    omega
  | succ f ih =>
    intro v q l i hX hi_0 hi_1 hi_2 hi_3 hi_4 hf hQ
    rw [cl_mostSecond_4] at hQ
    refine r_ex 2 (pc' := 6) (lo' := [some (.inr (.inr (some (107 + 2 * q)))), some (.inr (.inl l)), none, some (.inl i)]) (st' := [.inr (.inr (some (107 + 2 * q))), .inl i]) rfl ?_
    refine r_geti2 (x := (v (107 + 2 * q) 2)) (j := 2) (pc' := 9) (pc0 := 6) (len := 3) rfl (s_slot _ (by first | assumption | omega)) rfl rfl rfl (by decide) rfl rfl ?_
    have hb_1 : 0 ≤ (v (107 + 2 * q) 2) ∧ (v (107 + 2 * q) 2) ≤ 60 := XI_slot2 hX (by first | assumption | omega)
    refine n_ic_ge (pc0 := 9) (len := 3) (t := 29) rfl (by first | assumption | omega | (unfold R32 at *; omega) | (unfold R64 at *; omega) | (simp only [R32, R64] at *; omega)) (by first | assumption | omega | (unfold R32 at *; omega) | (unfold R64 at *; omega) | (simp only [R32, R64] at *; omega)) (fun h_9 => ?_) (fun h_9 => ?_)
    · show WV _ _ _ 29 _ _ _ _ _
      rw [if_neg h_9] at hQ
      refine r_ex 2 (pc' := 31) (lo' := [some (.inr (.inr (some (107 + 2 * q)))), some (.inr (.inl l)), none, some (.inl i)]) (st' := [.inl l]) rfl ?_
      refine r_ret (rr := some (.inl l)) (I := .ireturn) (pc0 := 31) (len := 1) rfl rfl ?_
      exact hQ (by first | assumption | omega | (unfold R32 at *; omega) | (unfold R64 at *; omega) | (simp only [R32, R64] at *; omega))
    · show WV _ _ _ 12 _ _ _ _ _
      rw [if_pos h_9] at hQ
      refine r_ex 2 (pc' := 14) (lo' := [some (.inr (.inr (some (107 + 2 * q)))), some (.inr (.inl l)), none, some (.inl i)]) (st' := [.inr (.inr (some (107 + 2 * q))), .inr (.inl l)]) rfl ?_
      refine r_getr2 (z := some (108 + 2 * q)) (pc' := 17) (pc0 := 14) (len := 3) rfl (s_slot _ (by first | assumption | omega)) rfl rfl rfl ?_
      refine r_ex 1 (pc' := 18) (lo' := [some (.inr (.inr (some (107 + 2 * q)))), some (.inr (.inl l)), none, some (.inl i)]) (st' := [.inl i, .inr (.inr (some (108 + 2 * q))), .inr (.inl l)]) rfl ?_
      refine r_lald2 (x := (v (108 + 2 * q) ((i).toNat))) (pc' := 19) (pc0 := 18) (len := 1) rfl (s_slotr _ (by first | assumption | omega)) (by first | assumption | omega | (unfold R32 at *; omega) | (unfold R64 at *; omega) | (simp only [R32, R64] at *; omega)) (by decide) rfl rfl ?_
      have hb_2 : R64 (v (108 + 2 * q) ((i).toNat)) := XI_slotr hX (by first | assumption | omega) _
      have ht2 := hi_3.at hi_0.1 hi_2 (by omega)
      refine r_prim (x := .inr (.inl (if w64 (v (108 + 2 * q) ((i).toNat)) < w64 l then l else (v (108 + 2 * q) ((i).toNat))))) (m := 172) (args := [.inr (.inl l), .inr (.inl (v (108 + 2 * q) ((i).toNat)))]) (n' := 171) (pc' := 22) (lo' := [some (.inr (.inr (some (107 + 2 * q)))), some (.inr (.inl l)), none, some (.inl i)]) (st' := []) (I := .invokestatic 172) (pc0 := 19) (len := 3) rfl rfl rfl ?_
      rw [mx64 (by first | assumption | omega | (unfold R32 at *; omega) | (unfold R64 at *; omega) | (simp only [R32, R64] at *; omega)) (by first | assumption | omega | (unfold R32 at *; omega) | (unfold R64 at *; omega) | (simp only [R32, R64] at *; omega))]
      refine r_ex 3 (pc' := 4) (lo' := [some (.inr (.inr (some (107 + 2 * q)))), some (.inr (.inl (max l (v (108 + 2 * q) ((i).toNat))))), none, some (.inl (i + 3))]) (st' := []) rfl ?_
      refine ih v q (max l (v (108 + 2 * q) ((i).toNat))) (i + 3)  hX (by first | assumption | omega | (unfold R32 at *; omega) | (unfold R64 at *; omega) | (simp only [R32, R64] at *; omega)) (by first | assumption | omega | (unfold R32 at *; omega) | (unfold R64 at *; omega) | (simp only [R32, R64] at *; omega)) (by first | assumption | omega | (unfold R32 at *; omega) | (unfold R64 at *; omega) | (simp only [R32, R64] at *; omega)) (by first | assumption | omega | (unfold R32 at *; omega) | (unfold R64 at *; omega) | (simp only [R32, R64] at *; omega)) (by first | assumption | omega | (unfold R32 at *; omega) | (unfold R64 at *; omega) | (simp only [R32, R64] at *; omega)) (by first | assumption | omega | (unfold R32 at *; omega) | (unfold R64 at *; omega) | (simp only [R32, R64] at *; omega)) hQ

theorem w_cl_mostSecond {X : PX} {d b : Nat} {v : VS} {q : Nat} (hX : XI v) (hp_a : q < 4) (hp_b : TH v q) {Q : Option PV → Nat → VS → Prop} (hQ : (0 ≤ (cl_mostSecond v q) ∧ (cl_mostSecond v q) ≤ 299) → Q (some (.inl (cl_mostSecond v q))) b v) : WV X (d + 1) 171 0 [some (.inr (.inr (some (107 + 2 * q)))), none, none, none] [] b v Q := by
  rw [cl_mostSecond] at hQ
  refine r_ex 4 (pc' := 4) (lo' := [some (.inr (.inr (some (107 + 2 * q)))), some (.inr (.inl 0)), none, some (.inl 0)]) (st' := []) rfl ?_
  exact l_cl_mostSecond_4 63 v q 0 0  hX (by first | assumption | omega | (unfold R32 at *; omega) | (unfold R64 at *; omega) | (simp only [R32, R64] at *; omega)) (by first | assumption | omega | (unfold R32 at *; omega) | (unfold R64 at *; omega) | (simp only [R32, R64] at *; omega)) (by first | assumption | omega | (unfold R32 at *; omega) | (unfold R64 at *; omega) | (simp only [R32, R64] at *; omega)) (by first | assumption | omega | (unfold R32 at *; omega) | (unfold R64 at *; omega) | (simp only [R32, R64] at *; omega)) (by first | assumption | omega | (unfold R32 at *; omega) | (unfold R64 at *; omega) | (simp only [R32, R64] at *; omega)) (by first | assumption | omega | (unfold R32 at *; omega) | (unfold R64 at *; omega) | (simp only [R32, R64] at *; omega)) hQ

theorem e_cl_mostSecond {X : PX} {d b : Nat} {v : VS} {q : Nat} (hX : XI v) (hp_a : q < 4) (hp_b : TH v q) : EvV X (d + 1) 171 [.inr (.inr (some (107 + 2 * q)))] b v (some (.inl (cl_mostSecond v q))) b v := EvV.of (w_cl_mostSecond hX hp_a hp_b (fun _ => ⟨rfl, rfl, rfl⟩))

theorem n_cl_mostSecond {v : VS} {q : Nat} (hX : XI v) (hp_a : q < 4) (hp_b : TH v q) : 0 ≤ (cl_mostSecond v q) ∧ (cl_mostSecond v q) ≤ 299 := by
  have q : WV (0, fun _ => 0, none) (0 + 1) 171 0 [some (.inr (.inr (some (107 + 2 * q)))), none, none, none] [] 1 v (fun _ _ _ => 0 ≤ (cl_mostSecond v q) ∧ (cl_mostSecond v q) ≤ 299) := w_cl_mostSecond (X := (0, fun _ => 0, none)) (d := 0) (b := 1) hX hp_a hp_b (fun q => q)
  obtain ⟨_, _, _, _, _, _, _, q⟩ := q
  exact q

def cl_note (v : VS) (c : Int) (s : Int) : VS :=
  (if (v 103 4) = 0 then (v2 (v2 (v2 (v2 v 103 5 c) 103 6 s) 103 7 c) 103 4 ((v 103 4) + 1)) else (v2 (v2 v 103 7 c) 103 4 ((v 103 4) + 1)))
theorem w_cl_note {X : PX} {d b : Nat} {v : VS} {c : Int} {s : Int} (hX : XI v) (hp_a : 0 ≤ c ∧ c ≤ 8) (hp_b : 0 ≤ s ∧ s ≤ 299) (hp_c : (v 103 4) < 2700) {Q : Option PV → Nat → VS → Prop} (hQ : XI (cl_note v c s) → (((cl_note v c s) 103 4) = (v 103 4) + 1) → Q none b (cl_note v c s)) : WV X d 175 0 [some (.inr (.inr (some 103))), some (.inl c), some (.inl s)] [] b v Q := by
  rw [cl_note] at hQ
  refine r_ex 2 (pc' := 4) (lo' := [some (.inr (.inr (some 103))), some (.inl c), some (.inl s)]) (st' := [.inl (v 103 4)]) rfl ?_
  have hb_1 : 0 ≤ (v 103 4) ∧ (v 103 4) ≤ 2700 := hX 103 4
  refine n_if_ne (pc0 := 4) (len := 3) (t := 17) rfl (by first | assumption | omega | (unfold R32 at *; omega) | (unfold R64 at *; omega) | (simp only [R32, R64] at *; omega)) (fun h_4 => ?_) (fun h_4 => ?_)
  · show WV _ _ _ 17 _ _ _ _ _
    rw [if_neg h_4] at hQ
    refine r_ex 2 (pc' := 19) (lo' := [some (.inr (.inr (some 103))), some (.inl c), some (.inl s)]) (st' := [.inl c, .inr (.inr (some 103))]) rfl ?_
    refine r_puti2 (j := 7) (pc' := 22) (pc0 := 19) (len := 3) rfl (s_103 _) rfl rfl rfl (Or.inl rfl) rfl rfl ?_
    have hX_2 : XI (v2 v 103 7 c) := XI.put hX (show -1 ≤ c ∧ c ≤ 8 from (by first | assumption | omega | (unfold R32 at *; omega) | (unfold R64 at *; omega) | (simp only [R32, R64] at *; omega)))
    refine r_ex 5 (pc' := 29) (lo' := [some (.inr (.inr (some 103))), some (.inl c), some (.inl s)]) (st' := [.inl ((v 103 4) + 1), .inr (.inr (some 103))]) rfl ?_
    have hb_3 : 0 ≤ (v 103 4) ∧ (v 103 4) ≤ 2700 := hX_2 103 4
    refine r_puti2 (j := 4) (pc' := 32) (pc0 := 29) (len := 3) rfl (s_103 _) rfl rfl rfl (Or.inl rfl) rfl rfl ?_
    have hX_4 : XI (v2 (v2 v 103 7 c) 103 4 ((v 103 4) + 1)) := XI.put hX_2 (show 0 ≤ ((v 103 4) + 1) ∧ ((v 103 4) + 1) ≤ 2700 from (by first | assumption | omega | (unfold R32 at *; omega) | (unfold R64 at *; omega) | (simp only [R32, R64] at *; omega)))
    refine r_ret (rr := none) (I := .return_) (pc0 := 32) (len := 1) rfl rfl ?_
    exact hQ hX_4 (show ((v 103 4) + 1) = (v 103 4) + 1 from (by first | assumption | omega | (unfold R32 at *; omega) | (unfold R64 at *; omega) | (simp only [R32, R64] at *; omega)))
  · show WV _ _ _ 7 _ _ _ _ _
    rw [if_pos h_4] at hQ
    refine r_ex 2 (pc' := 9) (lo' := [some (.inr (.inr (some 103))), some (.inl c), some (.inl s)]) (st' := [.inl c, .inr (.inr (some 103))]) rfl ?_
    refine r_puti2 (j := 5) (pc' := 12) (pc0 := 9) (len := 3) rfl (s_103 _) rfl rfl rfl (Or.inl rfl) rfl rfl ?_
    have hX_5 : XI (v2 v 103 5 c) := XI.put hX (show -1 ≤ c ∧ c ≤ 8 from (by first | assumption | omega | (unfold R32 at *; omega) | (unfold R64 at *; omega) | (simp only [R32, R64] at *; omega)))
    refine r_ex 2 (pc' := 14) (lo' := [some (.inr (.inr (some 103))), some (.inl c), some (.inl s)]) (st' := [.inl s, .inr (.inr (some 103))]) rfl ?_
    refine r_puti2 (j := 6) (pc' := 17) (pc0 := 14) (len := 3) rfl (s_103 _) rfl rfl rfl (Or.inl rfl) rfl rfl ?_
    have hX_6 : XI (v2 (v2 v 103 5 c) 103 6 s) := XI.put hX_5 (show -1 ≤ s ∧ s ≤ 299 from (by first | assumption | omega | (unfold R32 at *; omega) | (unfold R64 at *; omega) | (simp only [R32, R64] at *; omega)))
    refine r_ex 2 (pc' := 19) (lo' := [some (.inr (.inr (some 103))), some (.inl c), some (.inl s)]) (st' := [.inl c, .inr (.inr (some 103))]) rfl ?_
    refine r_puti2 (j := 7) (pc' := 22) (pc0 := 19) (len := 3) rfl (s_103 _) rfl rfl rfl (Or.inl rfl) rfl rfl ?_
    have hX_7 : XI (v2 (v2 (v2 v 103 5 c) 103 6 s) 103 7 c) := XI.put hX_6 (show -1 ≤ c ∧ c ≤ 8 from (by first | assumption | omega | (unfold R32 at *; omega) | (unfold R64 at *; omega) | (simp only [R32, R64] at *; omega)))
    refine r_ex 5 (pc' := 29) (lo' := [some (.inr (.inr (some 103))), some (.inl c), some (.inl s)]) (st' := [.inl ((v 103 4) + 1), .inr (.inr (some 103))]) rfl ?_
    have hb_8 : 0 ≤ (v 103 4) ∧ (v 103 4) ≤ 2700 := hX_7 103 4
    refine r_puti2 (j := 4) (pc' := 32) (pc0 := 29) (len := 3) rfl (s_103 _) rfl rfl rfl (Or.inl rfl) rfl rfl ?_
    have hX_9 : XI (v2 (v2 (v2 (v2 v 103 5 c) 103 6 s) 103 7 c) 103 4 ((v 103 4) + 1)) := XI.put hX_7 (show 0 ≤ ((v 103 4) + 1) ∧ ((v 103 4) + 1) ≤ 2700 from (by first | assumption | omega | (unfold R32 at *; omega) | (unfold R64 at *; omega) | (simp only [R32, R64] at *; omega)))
    refine r_ret (rr := none) (I := .return_) (pc0 := 32) (len := 1) rfl rfl ?_
    exact hQ hX_9 (show ((v 103 4) + 1) = (v 103 4) + 1 from (by first | assumption | omega | (unfold R32 at *; omega) | (unfold R64 at *; omega) | (simp only [R32, R64] at *; omega)))

theorem e_cl_note {X : PX} {d b : Nat} {v : VS} {c : Int} {s : Int} (hX : XI v) (hp_a : 0 ≤ c ∧ c ≤ 8) (hp_b : 0 ≤ s ∧ s ≤ 299) (hp_c : (v 103 4) < 2700) : EvV X d 175 [.inr (.inr (some 103)), .inl c, .inl s] b v none b (cl_note v c s) := EvV.of (w_cl_note hX hp_a hp_b hp_c (fun _ _ => ⟨rfl, rfl, rfl⟩))

theorem i_cl_note {v : VS} {c : Int} {s : Int} (hX : XI v) (hp_a : 0 ≤ c ∧ c ≤ 8) (hp_b : 0 ≤ s ∧ s ≤ 299) (hp_c : (v 103 4) < 2700) : XI (cl_note v c s) := by
  have q : WV (0, fun _ => 0, none) 0 175 0 [some (.inr (.inr (some 103))), some (.inl c), some (.inl s)] [] 1 v (fun _ _ _ => XI (cl_note v c s)) := w_cl_note (X := (0, fun _ => 0, none)) (d := 0) (b := 1) hX hp_a hp_b hp_c (fun q _ => q)
  obtain ⟨_, _, _, _, _, _, _, q⟩ := q
  exact q

theorem n_cl_note {v : VS} {c : Int} {s : Int} (hX : XI v) (hp_a : 0 ≤ c ∧ c ≤ 8) (hp_b : 0 ≤ s ∧ s ≤ 299) (hp_c : (v 103 4) < 2700) : ((cl_note v c s) 103 4) = (v 103 4) + 1 := by
  have q : WV (0, fun _ => 0, none) 0 175 0 [some (.inr (.inr (some 103))), some (.inl c), some (.inl s)] [] 1 v (fun _ _ _ => ((cl_note v c s) 103 4) = (v 103 4) + 1) := w_cl_note (X := (0, fun _ => 0, none)) (d := 0) (b := 1) hX hp_a hp_b hp_c (fun _ q => q)
  obtain ⟨_, _, _, _, _, _, _, q⟩ := q
  exact q

theorem o_cl_note {rk : Nat} {v : VS} {c : Int} {s : Int} (hk : (rk < 103 ∨ 103 < rk)) : (cl_note v c s) rk = v rk := by
  unfold cl_note
  by_cases hc_ : (v 103 4) = 0
  · rw [if_pos hc_]
    all_goals (show (v2 (v2 (v2 (v2 v 103 5 c) 103 6 s) 103 7 c) 103 4 ((v 103 4) + 1)) rk = _)
    all_goals (rw [v2_row (by omega), v2_row (by omega), v2_row (by omega), v2_row (by omega)])
  · rw [if_neg hc_]
    all_goals (show (v2 (v2 v 103 7 c) 103 4 ((v 103 4) + 1)) rk = _)
    all_goals (rw [v2_row (by omega), v2_row (by omega)])

def cl_seek_56 : Nat → VS → Nat → Int → Int → Int → Int → VS
  | 0, v, q, h, l, c, s => v
  | f + 1, v, q, h, l, c, s => (if l < s then v else (if (cl_firstOdd91 (xplay 91 (cl_stAdd (v2 v 68 0 0) c s h)) q) = (-1) then (cl_seek_56 f (cl_note (xplay 91 (cl_stAdd (v2 v 68 0 0) c s h)) c s) q h l c (s + 1)) else (cl_seek_56 f (xplay 91 (cl_stAdd (v2 v 68 0 0) c s h)) q h l c (s + 1))))
def cl_seek_41 : Nat → VS → Nat → Int → Int → Int → VS
  | 0, v, q, h, l, c => v
  | f + 1, v, q, h, l, c => (if c < (v 33 0) then (cl_seek_41 f (cl_seek_56 301 v q h l c 0) q h l (c + 1)) else v)
def cl_seek_27 (v : VS) (q : Nat) (h : Int) (l : Int) : VS :=
  (cl_seek_41 10 (v2 v 67 6 (cl_mostSecond v q)) q h l 0)
def cl_seek (v : VS) (q : Nat) (m : Int) (h : Int) : VS :=
  (cl_seek_27  (v2 (v2 (v2 (v2 v 103 4 0) 103 5 (-1)) 103 6 (-1)) 103 7 (-1)) q h (cl_leastSecond (v2 (v2 (v2 (v2 v 103 4 0) 103 5 (-1)) 103 6 (-1)) 103 7 (-1)) q m))
theorem l_cl_seek_56 {X : PX} {d b : Nat} {Q : Option PV → Nat → VS → Prop}  : ∀ (f : Nat) (v : VS) (q : Nat) (h : Int) (l : Int) (c : Int) (s : Int) (o2 : Option PV), XI v → (0 ≤ h ∧ h ≤ 99) → (0 ≤ l ∧ l ≤ 299) → (0 ≤ c ∧ c ≤ 8) → (0 ≤ s ∧ s ≤ 300) → ((v 103 4) ≤ 300 * c + s) → (q < 4) → (300 < s + f) → (∀ qx2 : Option PV, ∀ qx6 : Option PV, XI (cl_seek_56 f v q h l c s) → (((cl_seek_56 f v q h l c s) 103 4) ≤ 300 * c + 300) → WV X (d + 1 + 1 + 1 + 1 + 1 + 1) 168 122 [some (.inr (.inr (some 103))), some (.inr (.inr (some (107 + 2 * q)))), qx2, some (.inl h), some (.inl l), some (.inl c), qx6] [] b (cl_seek_56 f v q h l c s) Q) → WV X (d + 1 + 1 + 1 + 1 + 1 + 1) 168 56 [some (.inr (.inr (some 103))), some (.inr (.inr (some (107 + 2 * q)))), o2, some (.inl h), some (.inl l), some (.inl c), some (.inl s)] [] b v Q := by
  intro f
  induction f with
  | zero =>
    intro v q h l c s o2 hX hi_0 hi_1 hi_2 hi_3 hi_4 hi_5 hf hK
    exfalso
    omega
  | succ f ih =>
    intro v q h l c s o2 hX hi_0 hi_1 hi_2 hi_3 hi_4 hi_5 hf hK
    rw [cl_seek_56] at hK
    refine r_ex 2 (pc' := 60) (lo' := [some (.inr (.inr (some 103))), some (.inr (.inr (some (107 + 2 * q)))), o2, some (.inl h), some (.inl l), some (.inl c), some (.inl s)]) (st' := [.inl l, .inl s]) rfl ?_
    refine n_ic_gt (pc0 := 60) (len := 3) (t := 122) rfl (by first | assumption | omega | (unfold R32 at *; omega) | (unfold R64 at *; omega) | (simp only [R32, R64] at *; omega)) (by first | assumption | omega | (unfold R32 at *; omega) | (unfold R64 at *; omega) | (simp only [R32, R64] at *; omega)) (fun h_60 => ?_) (fun h_60 => ?_)
    · show WV _ _ _ 122 _ _ _ _ _
      rw [if_pos h_60] at hK
      exact hK _ _ hX (show (v 103 4) ≤ 300 * c + 300 from (by first | assumption | omega | (unfold R32 at *; omega) | (unfold R64 at *; omega) | (simp only [R32, R64] at *; omega)))
    · show WV _ _ _ 63 _ _ _ _ _
      rw [if_neg h_60] at hK
      refine r_ex 4 (pc' := 71) (lo' := [some (.inr (.inr (some 103))), some (.inr (.inr (some (107 + 2 * q)))), o2, some (.inl h), some (.inl l), some (.inl c), some (.inl s)]) (st' := [.inl 0, .inr (.inr (some 68))]) rfl ?_
      refine r_puti2 (j := 0) (pc' := 74) (pc0 := 71) (len := 3) rfl (s_68 _) rfl rfl rfl (Or.inl rfl) rfl rfl ?_
      have hX_14 : XI (v2 v 68 0 0) := XI.put hX (show 0 ≤ 0 ∧ 0 ≤ 5 from (by first | assumption | omega | (unfold R32 at *; omega) | (unfold R64 at *; omega) | (simp only [R32, R64] at *; omega)))
      refine r_ex 6 (pc' := 86) (lo' := [some (.inr (.inr (some 103))), some (.inr (.inr (some (107 + 2 * q)))), o2, some (.inl h), some (.inl l), some (.inl c), some (.inl s)]) (st' := [.inl h, .inl s, .inl c, .inr (.inr (some 68))]) rfl ?_
      have hp_15 : 0 ≤ c ∧ c ≤ 8 := (by first | assumption | omega | (unfold R32 at *; omega) | (unfold R64 at *; omega) | (simp only [R32, R64] at *; omega))
      have hp_16 : 0 ≤ s ∧ s ≤ 299 := (by first | assumption | omega | (unfold R32 at *; omega) | (unfold R64 at *; omega) | (simp only [R32, R64] at *; omega))
      have hp_17 : 0 ≤ h ∧ h ≤ 99 := (by first | assumption | omega | (unfold R32 at *; omega) | (unfold R64 at *; omega) | (simp only [R32, R64] at *; omega))
      refine r_call (m := 52) (args := [.inr (.inr (some 68)), .inl c, .inl s, .inl h]) (n' := 168) (pc' := 89) (lo' := [some (.inr (.inr (some 103))), some (.inr (.inr (some (107 + 2 * q)))), o2, some (.inl h), some (.inl l), some (.inl c), some (.inl s)]) (st' := []) (I := .invokevirtual 52) (pc0 := 86) (len := 3) rfl rfl rfl (e_cl_stAdd hX_14 hp_15 hp_16 hp_17) ?_
      show WV _ _ _ 89 _ [] _ (cl_stAdd (v2 v 68 0 0) c s h) _
      have hX_18 : XI (cl_stAdd (v2 v 68 0 0) c s h) := i_cl_stAdd (v := (v2 v 68 0 0)) (c := c) (s := s) (h := h) hX_14 hp_15 hp_16 hp_17
      have hb_19 : (cl_stAdd (v2 v 68 0 0) c s h) 103 4 = (v 103 4) := by rw [o_cl_stAdd (by omega)] <;> rfl
      refine r_ex 2 (pc' := 93) (lo' := [some (.inr (.inr (some 103))), some (.inr (.inr (some (107 + 2 * q)))), o2, some (.inl h), some (.inl l), some (.inl c), some (.inl s)]) (st' := [.inr (.inr (some 91))]) rfl ?_
      refine r_call (m := 74) (args := [.inr (.inr (some 91))]) (n' := 168) (pc' := 96) (lo' := [some (.inr (.inr (some 103))), some (.inr (.inr (some (107 + 2 * q)))), o2, some (.inl h), some (.inl l), some (.inl c), some (.inl s)]) (st' := []) (I := .invokevirtual 74) (pc0 := 93) (len := 3) rfl rfl rfl (x_play91 hX_18) ?_
      show WV _ _ _ 96 _ [] _ (xplay 91 (cl_stAdd (v2 v 68 0 0) c s h)) _
      have hX_20 : XI (xplay 91 (cl_stAdd (v2 v 68 0 0) c s h)) := XI_play91 (v := (cl_stAdd (v2 v 68 0 0) c s h)) hX_18
      have hb_21 : (xplay 91 (cl_stAdd (v2 v 68 0 0) c s h)) 103 4 = ((cl_stAdd (v2 v 68 0 0) c s h) 103 4) := by rw [o_xplay91 (by omega)] <;> rfl
      refine r_ex 3 (pc' := 101) (lo' := [some (.inr (.inr (some 103))), some (.inr (.inr (some (107 + 2 * q)))), o2, some (.inl h), some (.inl l), some (.inl c), some (.inl s)]) (st' := [.inr (.inr (some (107 + 2 * q))), .inr (.inr (some 91))]) rfl ?_
      have hp_22 : q < 4 := (by first | assumption | omega | (unfold R32 at *; omega) | (unfold R64 at *; omega) | (simp only [R32, R64] at *; omega))
      refine r_call (m := 173) (args := [.inr (.inr (some 91)), .inr (.inr (some (107 + 2 * q)))]) (n' := 168) (pc' := 104) (lo' := [some (.inr (.inr (some 103))), some (.inr (.inr (some (107 + 2 * q)))), o2, some (.inl h), some (.inl l), some (.inl c), some (.inl s)]) (st' := []) (I := .invokevirtual 173) (pc0 := 101) (len := 3) rfl rfl rfl (e_cl_firstOdd91 hX_20 hp_22) ?_
      show WV _ _ _ 104 _ [.inl (cl_firstOdd91 (xplay 91 (cl_stAdd (v2 v 68 0 0) c s h)) q)] _ _ _
      have hb_23 := n_cl_firstOdd91 (v := (xplay 91 (cl_stAdd (v2 v 68 0 0) c s h))) (q := q) hX_20 hp_22
      refine r_ex 1 (pc' := 105) (lo' := [some (.inr (.inr (some 103))), some (.inr (.inr (some (107 + 2 * q)))), o2, some (.inl h), some (.inl l), some (.inl c), some (.inl s)]) (st' := [.inl (-1), .inl (cl_firstOdd91 (xplay 91 (cl_stAdd (v2 v 68 0 0) c s h)) q)]) rfl ?_
      refine n_ic_ne (pc0 := 105) (len := 3) (t := 116) rfl (by first | assumption | omega | (unfold R32 at *; omega) | (unfold R64 at *; omega) | (simp only [R32, R64] at *; omega)) (by first | assumption | omega | (unfold R32 at *; omega) | (unfold R64 at *; omega) | (simp only [R32, R64] at *; omega)) (fun h_105 => ?_) (fun h_105 => ?_)
      · show WV _ _ _ 116 _ _ _ _ _
        rw [if_neg h_105] at hK
        refine r_ex 2 (pc' := 56) (lo' := [some (.inr (.inr (some 103))), some (.inr (.inr (some (107 + 2 * q)))), o2, some (.inl h), some (.inl l), some (.inl c), some (.inl (s + 1))]) (st' := []) rfl ?_
        refine ih (xplay 91 (cl_stAdd (v2 v 68 0 0) c s h)) q h l c (s + 1) _ hX_20 (by first | assumption | omega | (unfold R32 at *; omega) | (unfold R64 at *; omega) | (simp only [R32, R64] at *; omega)) (by first | assumption | omega | (unfold R32 at *; omega) | (unfold R64 at *; omega) | (simp only [R32, R64] at *; omega)) (by first | assumption | omega | (unfold R32 at *; omega) | (unfold R64 at *; omega) | (simp only [R32, R64] at *; omega)) (by first | assumption | omega | (unfold R32 at *; omega) | (unfold R64 at *; omega) | (simp only [R32, R64] at *; omega)) (show ((xplay 91 (cl_stAdd (v2 v 68 0 0) c s h)) 103 4) ≤ 300 * c + (s + 1) from (by first | assumption | omega | (unfold R32 at *; omega) | (unfold R64 at *; omega) | (simp only [R32, R64] at *; omega))) (by first | assumption | omega | (unfold R32 at *; omega) | (unfold R64 at *; omega) | (simp only [R32, R64] at *; omega)) (by first | assumption | omega | (unfold R32 at *; omega) | (unfold R64 at *; omega) | (simp only [R32, R64] at *; omega)) hK
      · show WV _ _ _ 108 _ _ _ _ _
        rw [if_pos h_105] at hK
        refine r_ex 3 (pc' := 113) (lo' := [some (.inr (.inr (some 103))), some (.inr (.inr (some (107 + 2 * q)))), o2, some (.inl h), some (.inl l), some (.inl c), some (.inl s)]) (st' := [.inl s, .inl c, .inr (.inr (some 103))]) rfl ?_
        have hp_24 : 0 ≤ c ∧ c ≤ 8 := (by first | assumption | omega | (unfold R32 at *; omega) | (unfold R64 at *; omega) | (simp only [R32, R64] at *; omega))
        have hp_25 : 0 ≤ s ∧ s ≤ 299 := (by first | assumption | omega | (unfold R32 at *; omega) | (unfold R64 at *; omega) | (simp only [R32, R64] at *; omega))
        have hp_26 : ((xplay 91 (cl_stAdd (v2 v 68 0 0) c s h)) 103 4) < 2700 := (show ((xplay 91 (cl_stAdd (v2 v 68 0 0) c s h)) 103 4) < 2700 from (by first | assumption | omega | (unfold R32 at *; omega) | (unfold R64 at *; omega) | (simp only [R32, R64] at *; omega)))
        refine r_call (m := 175) (args := [.inr (.inr (some 103)), .inl c, .inl s]) (n' := 168) (pc' := 116) (lo' := [some (.inr (.inr (some 103))), some (.inr (.inr (some (107 + 2 * q)))), o2, some (.inl h), some (.inl l), some (.inl c), some (.inl s)]) (st' := []) (I := .invokevirtual 175) (pc0 := 113) (len := 3) rfl rfl rfl (e_cl_note hX_20 hp_24 hp_25 hp_26) ?_
        show WV _ _ _ 116 _ [] _ (cl_note (xplay 91 (cl_stAdd (v2 v 68 0 0) c s h)) c s) _
        have hX_27 : XI (cl_note (xplay 91 (cl_stAdd (v2 v 68 0 0) c s h)) c s) := i_cl_note (v := (xplay 91 (cl_stAdd (v2 v 68 0 0) c s h))) (c := c) (s := s) hX_20 hp_24 hp_25 hp_26
        have hb_28 : ((cl_note (xplay 91 (cl_stAdd (v2 v 68 0 0) c s h)) c s) 103 4) = ((xplay 91 (cl_stAdd (v2 v 68 0 0) c s h)) 103 4) + 1 := n_cl_note (v := (xplay 91 (cl_stAdd (v2 v 68 0 0) c s h))) (c := c) (s := s) hX_20 hp_24 hp_25 hp_26
        refine r_ex 2 (pc' := 56) (lo' := [some (.inr (.inr (some 103))), some (.inr (.inr (some (107 + 2 * q)))), o2, some (.inl h), some (.inl l), some (.inl c), some (.inl (s + 1))]) (st' := []) rfl ?_
        refine ih (cl_note (xplay 91 (cl_stAdd (v2 v 68 0 0) c s h)) c s) q h l c (s + 1) _ hX_27 (by first | assumption | omega | (unfold R32 at *; omega) | (unfold R64 at *; omega) | (simp only [R32, R64] at *; omega)) (by first | assumption | omega | (unfold R32 at *; omega) | (unfold R64 at *; omega) | (simp only [R32, R64] at *; omega)) (by first | assumption | omega | (unfold R32 at *; omega) | (unfold R64 at *; omega) | (simp only [R32, R64] at *; omega)) (by first | assumption | omega | (unfold R32 at *; omega) | (unfold R64 at *; omega) | (simp only [R32, R64] at *; omega)) (show ((cl_note (xplay 91 (cl_stAdd (v2 v 68 0 0) c s h)) c s) 103 4) ≤ 300 * c + (s + 1) from (by first | assumption | omega | (unfold R32 at *; omega) | (unfold R64 at *; omega) | (simp only [R32, R64] at *; omega))) (by first | assumption | omega | (unfold R32 at *; omega) | (unfold R64 at *; omega) | (simp only [R32, R64] at *; omega)) (by first | assumption | omega | (unfold R32 at *; omega) | (unfold R64 at *; omega) | (simp only [R32, R64] at *; omega)) hK

theorem of_cl_seek_56 {rk : Nat} (hk : (rk < 68 ∨ 71 < rk) ∧ (rk < 73 ∨ 78 < rk) ∧ (rk < 91 ∨ 103 < rk)) : ∀ (f : Nat) {v : VS} {q : Nat} {h : Int} {l : Int} {c : Int} {s : Int}, (cl_seek_56 f v q h l c s) rk = v rk := by
  intro f
  induction f with
  | zero => intro v q h l c s; rfl
  | succ f ih =>
    intro v q h l c s
    rw [cl_seek_56]
    by_cases hc_ : l < s
    · rw [if_pos hc_]
      all_goals (show v rk = _)
      all_goals rfl
    · rw [if_neg hc_]
      by_cases hc_ : (cl_firstOdd91 (xplay 91 (cl_stAdd (v2 v 68 0 0) c s h)) q) = (-1)
      · rw [if_pos hc_]
        all_goals (rw [ih, o_cl_note (by omega), o_xplay91 (by omega), o_cl_stAdd (by omega), v2_row (by omega)])
      · rw [if_neg hc_]
        all_goals (rw [ih, o_xplay91 (by omega), o_cl_stAdd (by omega), v2_row (by omega)])
theorem o_cl_seek_56 {rk : Nat} {f : Nat} {v : VS} {q : Nat} {h : Int} {l : Int} {c : Int} {s : Int} (hk : (rk < 68 ∨ 71 < rk) ∧ (rk < 73 ∨ 78 < rk) ∧ (rk < 91 ∨ 103 < rk)) : (cl_seek_56 f v q h l c s) rk = v rk := of_cl_seek_56 hk f

theorem l_cl_seek_41 {X : PX} {d b : Nat} {Q : Option PV → Nat → VS → Prop}  : ∀ (f : Nat) (v : VS) (q : Nat) (h : Int) (l : Int) (c : Int) (o2 : Option PV) (o6 : Option PV), XI v → (0 ≤ h ∧ h ≤ 99) → (0 ≤ l ∧ l ≤ 299) → (0 ≤ c ∧ c ≤ 9) → ((v 103 4) ≤ 300 * c) → (q < 4) → (9 < c + f) → (XI (cl_seek_41 f v q h l c) → Q none b (cl_seek_41 f v q h l c)) → WV X (d + 1 + 1 + 1 + 1 + 1 + 1) 168 41 [some (.inr (.inr (some 103))), some (.inr (.inr (some (107 + 2 * q)))), o2, some (.inl h), some (.inl l), some (.inl c), o6] [] b v Q := by
  intro f
  induction f with
  | zero =>
    intro v q h l c o2 o6 hX hi_0 hi_1 hi_2 hi_3 hi_4 hf hQ
    exfalso
    omega
  | succ f ih =>
    intro v q h l c o2 o6 hX hi_0 hi_1 hi_2 hi_3 hi_4 hf hQ
    rw [cl_seek_41] at hQ
    refine r_ex 4 (pc' := 50) (lo' := [some (.inr (.inr (some 103))), some (.inr (.inr (some (107 + 2 * q)))), o2, some (.inl h), some (.inl l), some (.inl c), o6]) (st' := [.inl (v 33 0), .inl c]) rfl ?_
    have hb_13 : 0 ≤ (v 33 0) ∧ (v 33 0) ≤ 9 := hX 33 0
    refine n_ic_ge (pc0 := 50) (len := 3) (t := 128) rfl (by first | assumption | omega | (unfold R32 at *; omega) | (unfold R64 at *; omega) | (simp only [R32, R64] at *; omega)) (by first | assumption | omega | (unfold R32 at *; omega) | (unfold R64 at *; omega) | (simp only [R32, R64] at *; omega)) (fun h_50 => ?_) (fun h_50 => ?_)
    · show WV _ _ _ 128 _ _ _ _ _
      rw [if_neg h_50] at hQ
      refine r_ret (rr := none) (I := .return_) (pc0 := 128) (len := 1) rfl rfl ?_
      exact hQ hX 
    · show WV _ _ _ 53 _ _ _ _ _
      rw [if_pos h_50] at hQ
      refine r_ex 2 (pc' := 56) (lo' := [some (.inr (.inr (some 103))), some (.inr (.inr (some (107 + 2 * q)))), o2, some (.inl h), some (.inl l), some (.inl c), some (.inl 0)]) (st' := []) rfl ?_
      refine l_cl_seek_56 301 v q h l c 0 _ hX (by first | assumption | omega | (unfold R32 at *; omega) | (unfold R64 at *; omega) | (simp only [R32, R64] at *; omega)) (by first | assumption | omega | (unfold R32 at *; omega) | (unfold R64 at *; omega) | (simp only [R32, R64] at *; omega)) (by first | assumption | omega | (unfold R32 at *; omega) | (unfold R64 at *; omega) | (simp only [R32, R64] at *; omega)) (by first | assumption | omega | (unfold R32 at *; omega) | (unfold R64 at *; omega) | (simp only [R32, R64] at *; omega)) (show (v 103 4) ≤ 300 * c + 0 from (by first | assumption | omega | (unfold R32 at *; omega) | (unfold R64 at *; omega) | (simp only [R32, R64] at *; omega))) (by first | assumption | omega | (unfold R32 at *; omega) | (unfold R64 at *; omega) | (simp only [R32, R64] at *; omega)) (by first | assumption | omega | (unfold R32 at *; omega) | (unfold R64 at *; omega) | (simp only [R32, R64] at *; omega)) (fun o2_29 o6_29 hX_29 hv_29_0 => ?_)
      show WV _ _ _ 122 _ _ _ _ _
      refine r_ex 2 (pc' := 41) (lo' := [some (.inr (.inr (some 103))), some (.inr (.inr (some (107 + 2 * q)))), o2_29, some (.inl h), some (.inl l), some (.inl (c + 1)), o6_29]) (st' := []) rfl ?_
      refine ih (cl_seek_56 301 v q h l c 0) q h l (c + 1) _ _ hX_29 (by first | assumption | omega | (unfold R32 at *; omega) | (unfold R64 at *; omega) | (simp only [R32, R64] at *; omega)) (by first | assumption | omega | (unfold R32 at *; omega) | (unfold R64 at *; omega) | (simp only [R32, R64] at *; omega)) (by first | assumption | omega | (unfold R32 at *; omega) | (unfold R64 at *; omega) | (simp only [R32, R64] at *; omega)) (show ((cl_seek_56 301 v q h l c 0) 103 4) ≤ 300 * (c + 1) from (by first | assumption | omega | (unfold R32 at *; omega) | (unfold R64 at *; omega) | (simp only [R32, R64] at *; omega))) (by first | assumption | omega | (unfold R32 at *; omega) | (unfold R64 at *; omega) | (simp only [R32, R64] at *; omega)) (by first | assumption | omega | (unfold R32 at *; omega) | (unfold R64 at *; omega) | (simp only [R32, R64] at *; omega)) hQ

theorem of_cl_seek_41 {rk : Nat} (hk : (rk < 68 ∨ 71 < rk) ∧ (rk < 73 ∨ 78 < rk) ∧ (rk < 91 ∨ 103 < rk)) : ∀ (f : Nat) {v : VS} {q : Nat} {h : Int} {l : Int} {c : Int}, (cl_seek_41 f v q h l c) rk = v rk := by
  intro f
  induction f with
  | zero => intro v q h l c; rfl
  | succ f ih =>
    intro v q h l c
    rw [cl_seek_41]
    by_cases hc_ : c < (v 33 0)
    · rw [if_pos hc_]
      all_goals (rw [ih, o_cl_seek_56 (by omega)])
    · rw [if_neg hc_]
      all_goals (show v rk = _)
      all_goals rfl
theorem o_cl_seek_41 {rk : Nat} {f : Nat} {v : VS} {q : Nat} {h : Int} {l : Int} {c : Int} (hk : (rk < 68 ∨ 71 < rk) ∧ (rk < 73 ∨ 78 < rk) ∧ (rk < 91 ∨ 103 < rk)) : (cl_seek_41 f v q h l c) rk = v rk := of_cl_seek_41 hk f

theorem l_cl_seek_27 {X : PX} {d b : Nat} {Q : Option PV → Nat → VS → Prop}  : ∀ (v : VS) (q : Nat) (h : Int) (l : Int) (o2 : Option PV) (o5 : Option PV) (o6 : Option PV), XI v → (0 ≤ h ∧ h ≤ 99) → (0 ≤ l ∧ l ≤ 299) → ((v 103 4) = 0) → (TH v q) → (q < 4) → (XI (cl_seek_27 v q h l) → Q none b (cl_seek_27 v q h l)) → WV X (d + 1 + 1 + 1 + 1 + 1 + 1) 168 27 [some (.inr (.inr (some 103))), some (.inr (.inr (some (107 + 2 * q)))), o2, some (.inl h), some (.inl l), o5, o6] [] b v Q := by
  intro v q h l o2 o5 o6 hX hi_0 hi_1 hi_2 hi_3 hi_4 hQ
  rw [cl_seek_27] at hQ
  refine r_ex 3 (pc' := 32) (lo' := [some (.inr (.inr (some 103))), some (.inr (.inr (some (107 + 2 * q)))), o2, some (.inl h), some (.inl l), o5, o6]) (st' := [.inr (.inr (some (107 + 2 * q))), .inr (.inr (some 67))]) rfl ?_
  have hp_9 : q < 4 := (by first | assumption | omega | (unfold R32 at *; omega) | (unfold R64 at *; omega) | (simp only [R32, R64] at *; omega))
  have hp_10 : TH v q := (by first | assumption | omega | (unfold R32 at *; omega) | (unfold R64 at *; omega) | (simp only [R32, R64] at *; omega))
  refine r_call (m := 171) (args := [.inr (.inr (some (107 + 2 * q)))]) (n' := 168) (pc' := 35) (lo' := [some (.inr (.inr (some 103))), some (.inr (.inr (some (107 + 2 * q)))), o2, some (.inl h), some (.inl l), o5, o6]) (st' := [.inr (.inr (some 67))]) (I := .invokevirtual 171) (pc0 := 32) (len := 3) rfl (cs_slot (by first | assumption | omega) rfl rfl rfl (Nat.le_of_ble_eq_true rfl) (Nat.le_of_ble_eq_true rfl) rfl) rfl (e_cl_mostSecond hX hp_9 hp_10) ?_
  show WV _ _ _ 35 _ [.inl (cl_mostSecond v q), .inr (.inr (some 67))] _ _ _
  have hb_11 := n_cl_mostSecond (v := v) (q := q) hX hp_9 hp_10
  refine r_puti2 (j := 6) (pc' := 38) (pc0 := 35) (len := 3) rfl (s_67 _) rfl rfl rfl (Or.inl rfl) rfl rfl ?_
  have hX_12 : XI (v2 v 67 6 (cl_mostSecond v q)) := XI.put hX (show -1 ≤ (cl_mostSecond v q) ∧ (cl_mostSecond v q) ≤ 299 from (by first | assumption | omega | (unfold R32 at *; omega) | (unfold R64 at *; omega) | (simp only [R32, R64] at *; omega)))
  refine r_ex 2 (pc' := 41) (lo' := [some (.inr (.inr (some 103))), some (.inr (.inr (some (107 + 2 * q)))), o2, some (.inl h), some (.inl l), some (.inl 0), o6]) (st' := []) rfl ?_
  exact l_cl_seek_41 10 (v2 v 67 6 (cl_mostSecond v q)) q h l 0 _ _ hX_12 (by first | assumption | omega | (unfold R32 at *; omega) | (unfold R64 at *; omega) | (simp only [R32, R64] at *; omega)) (by first | assumption | omega | (unfold R32 at *; omega) | (unfold R64 at *; omega) | (simp only [R32, R64] at *; omega)) (by first | assumption | omega | (unfold R32 at *; omega) | (unfold R64 at *; omega) | (simp only [R32, R64] at *; omega)) (show (v 103 4) ≤ 300 * 0 from (by first | assumption | omega | (unfold R32 at *; omega) | (unfold R64 at *; omega) | (simp only [R32, R64] at *; omega))) (by first | assumption | omega | (unfold R32 at *; omega) | (unfold R64 at *; omega) | (simp only [R32, R64] at *; omega)) (by first | assumption | omega | (unfold R32 at *; omega) | (unfold R64 at *; omega) | (simp only [R32, R64] at *; omega)) hQ

theorem o_cl_seek_27 {rk : Nat} {v : VS} {q : Nat} {h : Int} {l : Int} (hk : (rk < 67 ∨ 71 < rk) ∧ (rk < 73 ∨ 78 < rk) ∧ (rk < 91 ∨ 103 < rk)) : (cl_seek_27 v q h l) rk = v rk := by
  unfold cl_seek_27
  all_goals (rw [o_cl_seek_41 (by omega), v2_row (by omega)])

theorem w_cl_seek {X : PX} {d b : Nat} {v : VS} {q : Nat} {m : Int} {h : Int} (hX : XI v) (hp_a : q < 4) (hp_b : 0 ≤ m ∧ m ≤ 299) (hp_c : 0 ≤ h ∧ h ≤ 99) (hp_d : TH v q) {Q : Option PV → Nat → VS → Prop} (hQ : XI (cl_seek v q m h) → Q none b (cl_seek v q m h)) : WV X (d + 1 + 1 + 1 + 1 + 1 + 1) 168 0 [some (.inr (.inr (some 103))), some (.inr (.inr (some (107 + 2 * q)))), some (.inl m), some (.inl h), none, none, none] [] b v Q := by
  rw [cl_seek] at hQ
  refine r_ex 2 (pc' := 2) (lo' := [some (.inr (.inr (some 103))), some (.inr (.inr (some (107 + 2 * q)))), some (.inl m), some (.inl h), none, none, none]) (st' := [.inl 0, .inr (.inr (some 103))]) rfl ?_
  refine r_puti2 (j := 4) (pc' := 5) (pc0 := 2) (len := 3) rfl (s_103 _) rfl rfl rfl (Or.inl rfl) rfl rfl ?_
  have hX_1 : XI (v2 v 103 4 0) := XI.put hX (show 0 ≤ 0 ∧ 0 ≤ 2700 from (by first | assumption | omega | (unfold R32 at *; omega) | (unfold R64 at *; omega) | (simp only [R32, R64] at *; omega)))
  refine r_ex 2 (pc' := 7) (lo' := [some (.inr (.inr (some 103))), some (.inr (.inr (some (107 + 2 * q)))), some (.inl m), some (.inl h), none, none, none]) (st' := [.inl (-1), .inr (.inr (some 103))]) rfl ?_
  refine r_puti2 (j := 5) (pc' := 10) (pc0 := 7) (len := 3) rfl (s_103 _) rfl rfl rfl (Or.inl rfl) rfl rfl ?_
  have hX_2 : XI (v2 (v2 v 103 4 0) 103 5 (-1)) := XI.put hX_1 (show -1 ≤ (-1) ∧ (-1) ≤ 8 from (by first | assumption | omega | (unfold R32 at *; omega) | (unfold R64 at *; omega) | (simp only [R32, R64] at *; omega)))
  refine r_ex 2 (pc' := 12) (lo' := [some (.inr (.inr (some 103))), some (.inr (.inr (some (107 + 2 * q)))), some (.inl m), some (.inl h), none, none, none]) (st' := [.inl (-1), .inr (.inr (some 103))]) rfl ?_
  refine r_puti2 (j := 6) (pc' := 15) (pc0 := 12) (len := 3) rfl (s_103 _) rfl rfl rfl (Or.inl rfl) rfl rfl ?_
  have hX_3 : XI (v2 (v2 (v2 v 103 4 0) 103 5 (-1)) 103 6 (-1)) := XI.put hX_2 (show -1 ≤ (-1) ∧ (-1) ≤ 299 from (by first | assumption | omega | (unfold R32 at *; omega) | (unfold R64 at *; omega) | (simp only [R32, R64] at *; omega)))
  refine r_ex 2 (pc' := 17) (lo' := [some (.inr (.inr (some 103))), some (.inr (.inr (some (107 + 2 * q)))), some (.inl m), some (.inl h), none, none, none]) (st' := [.inl (-1), .inr (.inr (some 103))]) rfl ?_
  refine r_puti2 (j := 7) (pc' := 20) (pc0 := 17) (len := 3) rfl (s_103 _) rfl rfl rfl (Or.inl rfl) rfl rfl ?_
  have hX_4 : XI (v2 (v2 (v2 (v2 v 103 4 0) 103 5 (-1)) 103 6 (-1)) 103 7 (-1)) := XI.put hX_3 (show -1 ≤ (-1) ∧ (-1) ≤ 8 from (by first | assumption | omega | (unfold R32 at *; omega) | (unfold R64 at *; omega) | (simp only [R32, R64] at *; omega)))
  refine r_ex 2 (pc' := 22) (lo' := [some (.inr (.inr (some 103))), some (.inr (.inr (some (107 + 2 * q)))), some (.inl m), some (.inl h), none, none, none]) (st' := [.inl m, .inr (.inr (some (107 + 2 * q)))]) rfl ?_
  have hp_5 : q < 4 := (by first | assumption | omega | (unfold R32 at *; omega) | (unfold R64 at *; omega) | (simp only [R32, R64] at *; omega))
  have hp_6 : 0 ≤ m ∧ m ≤ 299 := (by first | assumption | omega | (unfold R32 at *; omega) | (unfold R64 at *; omega) | (simp only [R32, R64] at *; omega))
  have hp_7 : TH (v2 (v2 (v2 (v2 v 103 4 0) 103 5 (-1)) 103 6 (-1)) 103 7 (-1)) q := (TH.of hp_d (by rw [v2_row (by omega), v2_row (by omega), v2_row (by omega), v2_row (by omega)]) (by rw [v2_row (by omega), v2_row (by omega), v2_row (by omega), v2_row (by omega)]))
  refine r_call (m := 169) (args := [.inr (.inr (some (107 + 2 * q))), .inl m]) (n' := 168) (pc' := 25) (lo' := [some (.inr (.inr (some 103))), some (.inr (.inr (some (107 + 2 * q)))), some (.inl m), some (.inl h), none, none, none]) (st' := []) (I := .invokevirtual 169) (pc0 := 22) (len := 3) rfl (cs_slot (by first | assumption | omega) rfl rfl rfl (Nat.le_of_ble_eq_true rfl) (Nat.le_of_ble_eq_true rfl) rfl) rfl (e_cl_leastSecond hX_4 hp_5 hp_6 hp_7) ?_
  show WV _ _ _ 25 _ [.inl (cl_leastSecond (v2 (v2 (v2 (v2 v 103 4 0) 103 5 (-1)) 103 6 (-1)) 103 7 (-1)) q m)] _ _ _
  have hb_8 := n_cl_leastSecond (v := (v2 (v2 (v2 (v2 v 103 4 0) 103 5 (-1)) 103 6 (-1)) 103 7 (-1))) (q := q) (m := m) hX_4 hp_5 hp_6 hp_7
  refine r_ex 1 (pc' := 27) (lo' := [some (.inr (.inr (some 103))), some (.inr (.inr (some (107 + 2 * q)))), some (.inl m), some (.inl h), some (.inl (cl_leastSecond (v2 (v2 (v2 (v2 v 103 4 0) 103 5 (-1)) 103 6 (-1)) 103 7 (-1)) q m)), none, none]) (st' := []) rfl ?_
  exact l_cl_seek_27  (v2 (v2 (v2 (v2 v 103 4 0) 103 5 (-1)) 103 6 (-1)) 103 7 (-1)) q h (cl_leastSecond (v2 (v2 (v2 (v2 v 103 4 0) 103 5 (-1)) 103 6 (-1)) 103 7 (-1)) q m) _ _ _ hX_4 (by first | assumption | omega | (unfold R32 at *; omega) | (unfold R64 at *; omega) | (simp only [R32, R64] at *; omega)) (by first | assumption | omega | (unfold R32 at *; omega) | (unfold R64 at *; omega) | (simp only [R32, R64] at *; omega)) (show 0 = 0 from (by first | assumption | omega | (unfold R32 at *; omega) | (unfold R64 at *; omega) | (simp only [R32, R64] at *; omega))) (TH.of hp_d (by rw [v2_row (by omega), v2_row (by omega), v2_row (by omega), v2_row (by omega)]) (by rw [v2_row (by omega), v2_row (by omega), v2_row (by omega), v2_row (by omega)])) (by first | assumption | omega | (unfold R32 at *; omega) | (unfold R64 at *; omega) | (simp only [R32, R64] at *; omega)) hQ

theorem e_cl_seek {X : PX} {d b : Nat} {v : VS} {q : Nat} {m : Int} {h : Int} (hX : XI v) (hp_a : q < 4) (hp_b : 0 ≤ m ∧ m ≤ 299) (hp_c : 0 ≤ h ∧ h ≤ 99) (hp_d : TH v q) : EvV X (d + 1 + 1 + 1 + 1 + 1 + 1) 168 [.inr (.inr (some 103)), .inr (.inr (some (107 + 2 * q))), .inl m, .inl h] b v none b (cl_seek v q m h) := EvV.of (w_cl_seek hX hp_a hp_b hp_c hp_d (fun _ => ⟨rfl, rfl, rfl⟩))

theorem i_cl_seek {v : VS} {q : Nat} {m : Int} {h : Int} (hX : XI v) (hp_a : q < 4) (hp_b : 0 ≤ m ∧ m ≤ 299) (hp_c : 0 ≤ h ∧ h ≤ 99) (hp_d : TH v q) : XI (cl_seek v q m h) := by
  have q : WV (0, fun _ => 0, none) (0 + 1 + 1 + 1 + 1 + 1 + 1) 168 0 [some (.inr (.inr (some 103))), some (.inr (.inr (some (107 + 2 * q)))), some (.inl m), some (.inl h), none, none, none] [] 1 v (fun _ _ _ => XI (cl_seek v q m h)) := w_cl_seek (X := (0, fun _ => 0, none)) (d := 0) (b := 1) hX hp_a hp_b hp_c hp_d (fun q => q)
  obtain ⟨_, _, _, _, _, _, _, q⟩ := q
  exact q

theorem o_cl_seek {rk : Nat} {v : VS} {q : Nat} {m : Int} {h : Int} (hk : (rk < 67 ∨ 71 < rk) ∧ (rk < 73 ∨ 78 < rk) ∧ (rk < 91 ∨ 103 < rk)) : (cl_seek v q m h) rk = v rk := by
  unfold cl_seek
  all_goals (rw [o_cl_seek_27 (by omega), v2_row (by omega), v2_row (by omega), v2_row (by omega), v2_row (by omega)])

def cl_began (v : VS) (s : Int) (m : Int) (h : Int) : Int × VS :=
  (if (cl_refusalOf v s m h) = 0 then (((cl_seek (cl_asTold v) ((s).toNat) m h) 103 4), (cl_seek (cl_asTold v) ((s).toNat) m h)) else ((cl_refusalOf v s m h), v))
theorem w_cl_began {X : PX} {d b : Nat} {v : VS} {s : Int} {m : Int} {h : Int} (hX : XI v) (hp_a : R32 s) (hp_b : R32 m) (hp_c : R32 h) {Q : Option PV → Nat → VS → Prop} (hQ : XI (cl_began v s m h).2 → Q (some (.inl (cl_began v s m h).1)) b (cl_began v s m h).2) : WV X (d + 1 + 1 + 1 + 1 + 1 + 1 + 1) 166 0 [some (.inr (.inr (some 0))), some (.inl s), some (.inl m), some (.inl h), none] [] b v Q := by
  rw [cl_began] at hQ
  refine r_ex 4 (pc' := 4) (lo' := [some (.inr (.inr (some 0))), some (.inl s), some (.inl m), some (.inl h), none]) (st' := [.inl h, .inl m, .inl s, .inr (.inr (some 0))]) rfl ?_
  have hp_1 : R32 s := (by first | assumption | omega | (unfold R32 at *; omega) | (unfold R64 at *; omega) | (simp only [R32, R64] at *; omega))
  have hp_2 : R32 m := (by first | assumption | omega | (unfold R32 at *; omega) | (unfold R64 at *; omega) | (simp only [R32, R64] at *; omega))
  have hp_3 : R32 h := (by first | assumption | omega | (unfold R32 at *; omega) | (unfold R64 at *; omega) | (simp only [R32, R64] at *; omega))
  refine r_call (m := 167) (args := [.inr (.inr (some 0)), .inl s, .inl m, .inl h]) (n' := 166) (pc' := 7) (lo' := [some (.inr (.inr (some 0))), some (.inl s), some (.inl m), some (.inl h), none]) (st' := []) (I := .invokevirtual 167) (pc0 := 4) (len := 3) rfl rfl rfl (e_cl_refusalOf hX hp_1 hp_2 hp_3) ?_
  show WV _ _ _ 7 _ [.inl (cl_refusalOf v s m h)] _ _ _
  have hb_4 := n_cl_refusalOf (v := v) (s := s) (i := m) (h := h) hX hp_1 hp_2 hp_3
  refine r_ex 2 (pc' := 11) (lo' := [some (.inr (.inr (some 0))), some (.inl s), some (.inl m), some (.inl h), some (.inl (cl_refusalOf v s m h))]) (st' := [.inl (cl_refusalOf v s m h)]) rfl ?_
  refine n_if_eq (pc0 := 11) (len := 3) (t := 17) rfl (by first | assumption | omega | (unfold R32 at *; omega) | (unfold R64 at *; omega) | (simp only [R32, R64] at *; omega)) (fun h_11 => ?_) (fun h_11 => ?_)
  · show WV _ _ _ 17 _ _ _ _ _
    rw [if_pos h_11] at hQ
    have hr0 := refusalOf_0 h_11
    have hr_ := refusal_0 hX hr0.2.2
    have hb33 : 0 ≤ v 33 1 ∧ v 33 1 ≤ 300 := hX 33 1
    refine r_ex 4 (pc' := 25) (lo' := [some (.inr (.inr (some 0))), some (.inl s), some (.inl m), some (.inl h), some (.inl (cl_refusalOf v s m h))]) (st' := [.inr (.inr (some 33)), .inr (.inr (some 67))]) rfl ?_
    refine r_call (m := 73) (args := [.inr (.inr (some 67)), .inr (.inr (some 33))]) (n' := 166) (pc' := 28) (lo' := [some (.inr (.inr (some 0))), some (.inl s), some (.inl m), some (.inl h), some (.inl (cl_refusalOf v s m h))]) (st' := []) (I := .invokevirtual 73) (pc0 := 25) (len := 3) rfl rfl rfl (e_cl_asTold hX) ?_
    show WV _ _ _ 28 _ [] _ (cl_asTold v) _
    have hX_5 : XI (cl_asTold v) := i_cl_asTold (v := v) hX
    refine r_ex 5 (pc' := 37) (lo' := [some (.inr (.inr (some 0))), some (.inl s), some (.inl m), some (.inl h), some (.inl (cl_refusalOf v s m h))]) (st' := [.inl s, .inr (.inr (some 106)), .inr (.inr (some 103))]) rfl ?_
    refine r_aald2 (z := some (107 + 2 * (s).toNat)) (pc' := 38) (pc0 := 37) (len := 1) rfl (s_106 _) (Or.inl rfl) (by first | assumption | omega | (unfold R32 at *; omega) | (unfold R64 at *; omega) | (simp only [R32, R64] at *; omega)) (by decide) (slot_at (by first | assumption | omega)) rfl ?_
    refine r_ex 2 (pc' := 40) (lo' := [some (.inr (.inr (some 0))), some (.inl s), some (.inl m), some (.inl h), some (.inl (cl_refusalOf v s m h))]) (st' := [.inl h, .inl m, .inr (.inr (some (107 + 2 * (s).toNat))), .inr (.inr (some 103))]) rfl ?_
    have hp_6 : ((s).toNat) < 4 := (by first | assumption | omega | (unfold R32 at *; omega) | (unfold R64 at *; omega) | (simp only [R32, R64] at *; omega))
    have hp_7 : 0 ≤ m ∧ m ≤ 299 := (by first | assumption | omega | (unfold R32 at *; omega) | (unfold R64 at *; omega) | (simp only [R32, R64] at *; omega))
    have hp_8 : 0 ≤ h ∧ h ≤ 99 := (by first | assumption | omega | (unfold R32 at *; omega) | (unfold R64 at *; omega) | (simp only [R32, R64] at *; omega))
    have hp_9 : TH (cl_asTold v) ((s).toNat) := (TH.of hr_.2.2.2 (by rw [o_cl_asTold (by omega)]) (by rw [o_cl_asTold (by omega)]))
    refine r_call (m := 168) (args := [.inr (.inr (some 103)), .inr (.inr (some (107 + 2 * (s).toNat))), .inl m, .inl h]) (n' := 166) (pc' := 43) (lo' := [some (.inr (.inr (some 0))), some (.inl s), some (.inl m), some (.inl h), some (.inl (cl_refusalOf v s m h))]) (st' := []) (I := .invokevirtual 168) (pc0 := 40) (len := 3) rfl rfl rfl (e_cl_seek hX_5 hp_6 hp_7 hp_8 hp_9) ?_
    show WV _ _ _ 43 _ [] _ (cl_seek (cl_asTold v) ((s).toNat) m h) _
    have hX_10 : XI (cl_seek (cl_asTold v) ((s).toNat) m h) := i_cl_seek (v := (cl_asTold v)) (q := (s).toNat) (m := m) (h := h) hX_5 hp_6 hp_7 hp_8 hp_9
    refine r_ex 3 (pc' := 50) (lo' := [some (.inr (.inr (some 0))), some (.inl s), some (.inl m), some (.inl h), some (.inl (cl_refusalOf v s m h))]) (st' := [.inl ((cl_seek (cl_asTold v) ((s).toNat) m h) 103 4)]) rfl ?_
    have hb_11 : 0 ≤ ((cl_seek (cl_asTold v) ((s).toNat) m h) 103 4) ∧ ((cl_seek (cl_asTold v) ((s).toNat) m h) 103 4) ≤ 2700 := hX_10 103 4
    refine r_ret (rr := some (.inl ((cl_seek (cl_asTold v) ((s).toNat) m h) 103 4))) (I := .ireturn) (pc0 := 50) (len := 1) rfl rfl ?_
    exact hQ hX_10 
  · show WV _ _ _ 14 _ _ _ _ _
    rw [if_neg h_11] at hQ
    refine r_ex 1 (pc' := 16) (lo' := [some (.inr (.inr (some 0))), some (.inl s), some (.inl m), some (.inl h), some (.inl (cl_refusalOf v s m h))]) (st' := [.inl (cl_refusalOf v s m h)]) rfl ?_
    refine r_ret (rr := some (.inl (cl_refusalOf v s m h))) (I := .ireturn) (pc0 := 16) (len := 1) rfl rfl ?_
    exact hQ hX 

theorem e_cl_began {X : PX} {d b : Nat} {v : VS} {s : Int} {m : Int} {h : Int} (hX : XI v) (hp_a : R32 s) (hp_b : R32 m) (hp_c : R32 h) : EvV X (d + 1 + 1 + 1 + 1 + 1 + 1 + 1) 166 [.inr (.inr (some 0)), .inl s, .inl m, .inl h] b v (some (.inl (cl_began v s m h).1)) b ((cl_began v s m h).2) := EvV.of (w_cl_began hX hp_a hp_b hp_c (fun _ => ⟨rfl, rfl, rfl⟩))

theorem i_cl_began {v : VS} {s : Int} {m : Int} {h : Int} (hX : XI v) (hp_a : R32 s) (hp_b : R32 m) (hp_c : R32 h) : XI ((cl_began v s m h).2) := by
  have q : WV (0, fun _ => 0, none) (0 + 1 + 1 + 1 + 1 + 1 + 1 + 1) 166 0 [some (.inr (.inr (some 0))), some (.inl s), some (.inl m), some (.inl h), none] [] 1 v (fun _ _ _ => XI ((cl_began v s m h).2)) := w_cl_began (X := (0, fun _ => 0, none)) (d := 0) (b := 1) hX hp_a hp_b hp_c (fun q => q)
  obtain ⟨_, _, _, _, _, _, _, q⟩ := q
  exact q

theorem o_cl_began {rk : Nat} {v : VS} {s : Int} {m : Int} {h : Int} (hk : (rk < 67 ∨ 78 < rk) ∧ (rk < 91 ∨ 103 < rk)) : (cl_began v s m h).2 rk = v rk := by
  unfold cl_began
  by_cases hc_ : (cl_refusalOf v s m h) = 0
  · rw [if_pos hc_]
    all_goals (show (cl_seek (cl_asTold v) ((s).toNat) m h) rk = _)
    all_goals (rw [o_cl_seek (by omega), o_cl_asTold (by omega)])
  · rw [if_neg hc_]
    all_goals (show v rk = _)
    all_goals rfl

def cl_first (v : VS) (s : Int) (m : Int) (h : Int) (w : Int) : Int × VS :=
  (if w < 0 then ((-2), v) else (if 1 < w then ((-2), v) else (if (cl_refusalOf v s m h) = 0 then (if w = 0 then (((cl_seek (cl_asTold v) ((s).toNat) m h) 103 5), (cl_seek (cl_asTold v) ((s).toNat) m h)) else (((cl_seek (cl_asTold v) ((s).toNat) m h) 103 6), (cl_seek (cl_asTold v) ((s).toNat) m h))) else ((cl_refusalOf v s m h), v))))
theorem w_cl_first {X : PX} {d b : Nat} {v : VS} {s : Int} {m : Int} {h : Int} {w : Int} (hX : XI v) (hp_a : R32 s) (hp_b : R32 m) (hp_c : R32 h) (hp_d : R32 w) {Q : Option PV → Nat → VS → Prop} (hQ : XI (cl_first v s m h w).2 → Q (some (.inl (cl_first v s m h w).1)) b (cl_first v s m h w).2) : WV X (d + 1 + 1 + 1 + 1 + 1 + 1 + 1) 176 0 [some (.inr (.inr (some 0))), some (.inl s), some (.inl m), some (.inl h), some (.inl w), none] [] b v Q := by
  rw [cl_first] at hQ
  refine r_ex 1 (pc' := 2) (lo' := [some (.inr (.inr (some 0))), some (.inl s), some (.inl m), some (.inl h), some (.inl w), none]) (st' := [.inl w]) rfl ?_
  refine n_if_lt (pc0 := 2) (len := 3) (t := 11) rfl (by first | assumption | omega | (unfold R32 at *; omega) | (unfold R64 at *; omega) | (simp only [R32, R64] at *; omega)) (fun h_2 => ?_) (fun h_2 => ?_)
  · show WV _ _ _ 11 _ _ _ _ _
    rw [if_pos h_2] at hQ
    refine r_ex 1 (pc' := 13) (lo' := [some (.inr (.inr (some 0))), some (.inl s), some (.inl m), some (.inl h), some (.inl w), none]) (st' := [.inl (-2)]) rfl ?_
    refine r_ret (rr := some (.inl (-2))) (I := .ireturn) (pc0 := 13) (len := 1) rfl rfl ?_
    exact hQ hX 
  · show WV _ _ _ 5 _ _ _ _ _
    rw [if_neg h_2] at hQ
    refine r_ex 2 (pc' := 8) (lo' := [some (.inr (.inr (some 0))), some (.inl s), some (.inl m), some (.inl h), some (.inl w), none]) (st' := [.inl 1, .inl w]) rfl ?_
    refine n_ic_le (pc0 := 8) (len := 3) (t := 14) rfl (by first | assumption | omega | (unfold R32 at *; omega) | (unfold R64 at *; omega) | (simp only [R32, R64] at *; omega)) (by first | assumption | omega | (unfold R32 at *; omega) | (unfold R64 at *; omega) | (simp only [R32, R64] at *; omega)) (fun h_8 => ?_) (fun h_8 => ?_)
    · show WV _ _ _ 14 _ _ _ _ _
      rw [if_neg h_8] at hQ
      refine r_ex 4 (pc' := 18) (lo' := [some (.inr (.inr (some 0))), some (.inl s), some (.inl m), some (.inl h), some (.inl w), none]) (st' := [.inl h, .inl m, .inl s, .inr (.inr (some 0))]) rfl ?_
      have hp_1 : R32 s := (by first | assumption | omega | (unfold R32 at *; omega) | (unfold R64 at *; omega) | (simp only [R32, R64] at *; omega))
      have hp_2 : R32 m := (by first | assumption | omega | (unfold R32 at *; omega) | (unfold R64 at *; omega) | (simp only [R32, R64] at *; omega))
      have hp_3 : R32 h := (by first | assumption | omega | (unfold R32 at *; omega) | (unfold R64 at *; omega) | (simp only [R32, R64] at *; omega))
      refine r_call (m := 167) (args := [.inr (.inr (some 0)), .inl s, .inl m, .inl h]) (n' := 176) (pc' := 21) (lo' := [some (.inr (.inr (some 0))), some (.inl s), some (.inl m), some (.inl h), some (.inl w), none]) (st' := []) (I := .invokevirtual 167) (pc0 := 18) (len := 3) rfl rfl rfl (e_cl_refusalOf hX hp_1 hp_2 hp_3) ?_
      show WV _ _ _ 21 _ [.inl (cl_refusalOf v s m h)] _ _ _
      have hb_4 := n_cl_refusalOf (v := v) (s := s) (i := m) (h := h) hX hp_1 hp_2 hp_3
      refine r_ex 2 (pc' := 25) (lo' := [some (.inr (.inr (some 0))), some (.inl s), some (.inl m), some (.inl h), some (.inl w), some (.inl (cl_refusalOf v s m h))]) (st' := [.inl (cl_refusalOf v s m h)]) rfl ?_
      refine n_if_eq (pc0 := 25) (len := 3) (t := 31) rfl (by first | assumption | omega | (unfold R32 at *; omega) | (unfold R64 at *; omega) | (simp only [R32, R64] at *; omega)) (fun h_25 => ?_) (fun h_25 => ?_)
      · show WV _ _ _ 31 _ _ _ _ _
        rw [if_pos h_25] at hQ
        have hr0 := refusalOf_0 h_25
        have hr_ := refusal_0 hX hr0.2.2
        have hb33 : 0 ≤ v 33 1 ∧ v 33 1 ≤ 300 := hX 33 1
        refine r_ex 4 (pc' := 39) (lo' := [some (.inr (.inr (some 0))), some (.inl s), some (.inl m), some (.inl h), some (.inl w), some (.inl (cl_refusalOf v s m h))]) (st' := [.inr (.inr (some 33)), .inr (.inr (some 67))]) rfl ?_
        refine r_call (m := 73) (args := [.inr (.inr (some 67)), .inr (.inr (some 33))]) (n' := 176) (pc' := 42) (lo' := [some (.inr (.inr (some 0))), some (.inl s), some (.inl m), some (.inl h), some (.inl w), some (.inl (cl_refusalOf v s m h))]) (st' := []) (I := .invokevirtual 73) (pc0 := 39) (len := 3) rfl rfl rfl (e_cl_asTold hX) ?_
        show WV _ _ _ 42 _ [] _ (cl_asTold v) _
        have hX_5 : XI (cl_asTold v) := i_cl_asTold (v := v) hX
        refine r_ex 5 (pc' := 51) (lo' := [some (.inr (.inr (some 0))), some (.inl s), some (.inl m), some (.inl h), some (.inl w), some (.inl (cl_refusalOf v s m h))]) (st' := [.inl s, .inr (.inr (some 106)), .inr (.inr (some 103))]) rfl ?_
        refine r_aald2 (z := some (107 + 2 * (s).toNat)) (pc' := 52) (pc0 := 51) (len := 1) rfl (s_106 _) (Or.inl rfl) (by first | assumption | omega | (unfold R32 at *; omega) | (unfold R64 at *; omega) | (simp only [R32, R64] at *; omega)) (by decide) (slot_at (by first | assumption | omega)) rfl ?_
        refine r_ex 2 (pc' := 54) (lo' := [some (.inr (.inr (some 0))), some (.inl s), some (.inl m), some (.inl h), some (.inl w), some (.inl (cl_refusalOf v s m h))]) (st' := [.inl h, .inl m, .inr (.inr (some (107 + 2 * (s).toNat))), .inr (.inr (some 103))]) rfl ?_
        have hp_6 : ((s).toNat) < 4 := (by first | assumption | omega | (unfold R32 at *; omega) | (unfold R64 at *; omega) | (simp only [R32, R64] at *; omega))
        have hp_7 : 0 ≤ m ∧ m ≤ 299 := (by first | assumption | omega | (unfold R32 at *; omega) | (unfold R64 at *; omega) | (simp only [R32, R64] at *; omega))
        have hp_8 : 0 ≤ h ∧ h ≤ 99 := (by first | assumption | omega | (unfold R32 at *; omega) | (unfold R64 at *; omega) | (simp only [R32, R64] at *; omega))
        have hp_9 : TH (cl_asTold v) ((s).toNat) := (TH.of hr_.2.2.2 (by rw [o_cl_asTold (by omega)]) (by rw [o_cl_asTold (by omega)]))
        refine r_call (m := 168) (args := [.inr (.inr (some 103)), .inr (.inr (some (107 + 2 * (s).toNat))), .inl m, .inl h]) (n' := 176) (pc' := 57) (lo' := [some (.inr (.inr (some 0))), some (.inl s), some (.inl m), some (.inl h), some (.inl w), some (.inl (cl_refusalOf v s m h))]) (st' := []) (I := .invokevirtual 168) (pc0 := 54) (len := 3) rfl rfl rfl (e_cl_seek hX_5 hp_6 hp_7 hp_8 hp_9) ?_
        show WV _ _ _ 57 _ [] _ (cl_seek (cl_asTold v) ((s).toNat) m h) _
        have hX_10 : XI (cl_seek (cl_asTold v) ((s).toNat) m h) := i_cl_seek (v := (cl_asTold v)) (q := (s).toNat) (m := m) (h := h) hX_5 hp_6 hp_7 hp_8 hp_9
        refine r_ex 1 (pc' := 59) (lo' := [some (.inr (.inr (some 0))), some (.inl s), some (.inl m), some (.inl h), some (.inl w), some (.inl (cl_refusalOf v s m h))]) (st' := [.inl w]) rfl ?_
        refine n_if_ne (pc0 := 59) (len := 3) (t := 72) rfl (by first | assumption | omega | (unfold R32 at *; omega) | (unfold R64 at *; omega) | (simp only [R32, R64] at *; omega)) (fun h_59 => ?_) (fun h_59 => ?_)
        · show WV _ _ _ 72 _ _ _ _ _
          rw [if_neg h_59] at hQ
          refine r_ex 3 (pc' := 79) (lo' := [some (.inr (.inr (some 0))), some (.inl s), some (.inl m), some (.inl h), some (.inl w), some (.inl (cl_refusalOf v s m h))]) (st' := [.inl ((cl_seek (cl_asTold v) ((s).toNat) m h) 103 6)]) rfl ?_
          have hb_11 : -1 ≤ ((cl_seek (cl_asTold v) ((s).toNat) m h) 103 6) ∧ ((cl_seek (cl_asTold v) ((s).toNat) m h) 103 6) ≤ 299 := hX_10 103 6
          refine r_ret (rr := some (.inl ((cl_seek (cl_asTold v) ((s).toNat) m h) 103 6))) (I := .ireturn) (pc0 := 79) (len := 1) rfl rfl ?_
          exact hQ hX_10 
        · show WV _ _ _ 62 _ _ _ _ _
          rw [if_pos h_59] at hQ
          refine r_ex 4 (pc' := 79) (lo' := [some (.inr (.inr (some 0))), some (.inl s), some (.inl m), some (.inl h), some (.inl w), some (.inl (cl_refusalOf v s m h))]) (st' := [.inl ((cl_seek (cl_asTold v) ((s).toNat) m h) 103 5)]) rfl ?_
          have hb_12 : -1 ≤ ((cl_seek (cl_asTold v) ((s).toNat) m h) 103 5) ∧ ((cl_seek (cl_asTold v) ((s).toNat) m h) 103 5) ≤ 8 := hX_10 103 5
          refine r_ret (rr := some (.inl ((cl_seek (cl_asTold v) ((s).toNat) m h) 103 5))) (I := .ireturn) (pc0 := 79) (len := 1) rfl rfl ?_
          exact hQ hX_10 
      · show WV _ _ _ 28 _ _ _ _ _
        rw [if_neg h_25] at hQ
        refine r_ex 1 (pc' := 30) (lo' := [some (.inr (.inr (some 0))), some (.inl s), some (.inl m), some (.inl h), some (.inl w), some (.inl (cl_refusalOf v s m h))]) (st' := [.inl (cl_refusalOf v s m h)]) rfl ?_
        refine r_ret (rr := some (.inl (cl_refusalOf v s m h))) (I := .ireturn) (pc0 := 30) (len := 1) rfl rfl ?_
        exact hQ hX 
    · show WV _ _ _ 11 _ _ _ _ _
      rw [if_pos h_8] at hQ
      refine r_ex 1 (pc' := 13) (lo' := [some (.inr (.inr (some 0))), some (.inl s), some (.inl m), some (.inl h), some (.inl w), none]) (st' := [.inl (-2)]) rfl ?_
      refine r_ret (rr := some (.inl (-2))) (I := .ireturn) (pc0 := 13) (len := 1) rfl rfl ?_
      exact hQ hX 

theorem e_cl_first {X : PX} {d b : Nat} {v : VS} {s : Int} {m : Int} {h : Int} {w : Int} (hX : XI v) (hp_a : R32 s) (hp_b : R32 m) (hp_c : R32 h) (hp_d : R32 w) : EvV X (d + 1 + 1 + 1 + 1 + 1 + 1 + 1) 176 [.inr (.inr (some 0)), .inl s, .inl m, .inl h, .inl w] b v (some (.inl (cl_first v s m h w).1)) b ((cl_first v s m h w).2) := EvV.of (w_cl_first hX hp_a hp_b hp_c hp_d (fun _ => ⟨rfl, rfl, rfl⟩))

theorem i_cl_first {v : VS} {s : Int} {m : Int} {h : Int} {w : Int} (hX : XI v) (hp_a : R32 s) (hp_b : R32 m) (hp_c : R32 h) (hp_d : R32 w) : XI ((cl_first v s m h w).2) := by
  have q : WV (0, fun _ => 0, none) (0 + 1 + 1 + 1 + 1 + 1 + 1 + 1) 176 0 [some (.inr (.inr (some 0))), some (.inl s), some (.inl m), some (.inl h), some (.inl w), none] [] 1 v (fun _ _ _ => XI ((cl_first v s m h w).2)) := w_cl_first (X := (0, fun _ => 0, none)) (d := 0) (b := 1) hX hp_a hp_b hp_c hp_d (fun q => q)
  obtain ⟨_, _, _, _, _, _, _, q⟩ := q
  exact q

theorem o_cl_first {rk : Nat} {v : VS} {s : Int} {m : Int} {h : Int} {w : Int} (hk : (rk < 67 ∨ 78 < rk) ∧ (rk < 91 ∨ 103 < rk)) : (cl_first v s m h w).2 rk = v rk := by
  unfold cl_first
  by_cases hc_ : w < 0
  · rw [if_pos hc_]
    all_goals (show v rk = _)
    all_goals rfl
  · rw [if_neg hc_]
    by_cases hc_ : 1 < w
    · rw [if_pos hc_]
      all_goals (show v rk = _)
      all_goals rfl
    · rw [if_neg hc_]
      by_cases hc_ : (cl_refusalOf v s m h) = 0
      · rw [if_pos hc_]
        by_cases hc_ : w = 0
        · rw [if_pos hc_]
          all_goals (show (cl_seek (cl_asTold v) ((s).toNat) m h) rk = _)
          all_goals (rw [o_cl_seek (by omega), o_cl_asTold (by omega)])
        · rw [if_neg hc_]
          all_goals (show (cl_seek (cl_asTold v) ((s).toNat) m h) rk = _)
          all_goals (rw [o_cl_seek (by omega), o_cl_asTold (by omega)])
      · rw [if_neg hc_]
        all_goals (show v rk = _)
        all_goals rfl

def cl_sure (v : VS) (s : Int) (m : Int) (h : Int) : Int × VS :=
  (if (cl_refusalOf v s m h) = 0 then (if ((cl_seek (cl_asTold v) ((s).toNat) m h) 103 5) = ((cl_seek (cl_asTold v) ((s).toNat) m h) 103 7) then (((cl_seek (cl_asTold v) ((s).toNat) m h) 103 5), (cl_seek (cl_asTold v) ((s).toNat) m h)) else ((-1), (cl_seek (cl_asTold v) ((s).toNat) m h))) else ((cl_refusalOf v s m h), v))
theorem w_cl_sure {X : PX} {d b : Nat} {v : VS} {s : Int} {m : Int} {h : Int} (hX : XI v) (hp_a : R32 s) (hp_b : R32 m) (hp_c : R32 h) {Q : Option PV → Nat → VS → Prop} (hQ : XI (cl_sure v s m h).2 → Q (some (.inl (cl_sure v s m h).1)) b (cl_sure v s m h).2) : WV X (d + 1 + 1 + 1 + 1 + 1 + 1 + 1) 177 0 [some (.inr (.inr (some 0))), some (.inl s), some (.inl m), some (.inl h), none] [] b v Q := by
  rw [cl_sure] at hQ
  refine r_ex 4 (pc' := 4) (lo' := [some (.inr (.inr (some 0))), some (.inl s), some (.inl m), some (.inl h), none]) (st' := [.inl h, .inl m, .inl s, .inr (.inr (some 0))]) rfl ?_
  have hp_1 : R32 s := (by first | assumption | omega | (unfold R32 at *; omega) | (unfold R64 at *; omega) | (simp only [R32, R64] at *; omega))
  have hp_2 : R32 m := (by first | assumption | omega | (unfold R32 at *; omega) | (unfold R64 at *; omega) | (simp only [R32, R64] at *; omega))
  have hp_3 : R32 h := (by first | assumption | omega | (unfold R32 at *; omega) | (unfold R64 at *; omega) | (simp only [R32, R64] at *; omega))
  refine r_call (m := 167) (args := [.inr (.inr (some 0)), .inl s, .inl m, .inl h]) (n' := 177) (pc' := 7) (lo' := [some (.inr (.inr (some 0))), some (.inl s), some (.inl m), some (.inl h), none]) (st' := []) (I := .invokevirtual 167) (pc0 := 4) (len := 3) rfl rfl rfl (e_cl_refusalOf hX hp_1 hp_2 hp_3) ?_
  show WV _ _ _ 7 _ [.inl (cl_refusalOf v s m h)] _ _ _
  have hb_4 := n_cl_refusalOf (v := v) (s := s) (i := m) (h := h) hX hp_1 hp_2 hp_3
  refine r_ex 2 (pc' := 11) (lo' := [some (.inr (.inr (some 0))), some (.inl s), some (.inl m), some (.inl h), some (.inl (cl_refusalOf v s m h))]) (st' := [.inl (cl_refusalOf v s m h)]) rfl ?_
  refine n_if_eq (pc0 := 11) (len := 3) (t := 17) rfl (by first | assumption | omega | (unfold R32 at *; omega) | (unfold R64 at *; omega) | (simp only [R32, R64] at *; omega)) (fun h_11 => ?_) (fun h_11 => ?_)
  · show WV _ _ _ 17 _ _ _ _ _
    rw [if_pos h_11] at hQ
    have hr0 := refusalOf_0 h_11
    have hr_ := refusal_0 hX hr0.2.2
    have hb33 : 0 ≤ v 33 1 ∧ v 33 1 ≤ 300 := hX 33 1
    refine r_ex 4 (pc' := 25) (lo' := [some (.inr (.inr (some 0))), some (.inl s), some (.inl m), some (.inl h), some (.inl (cl_refusalOf v s m h))]) (st' := [.inr (.inr (some 33)), .inr (.inr (some 67))]) rfl ?_
    refine r_call (m := 73) (args := [.inr (.inr (some 67)), .inr (.inr (some 33))]) (n' := 177) (pc' := 28) (lo' := [some (.inr (.inr (some 0))), some (.inl s), some (.inl m), some (.inl h), some (.inl (cl_refusalOf v s m h))]) (st' := []) (I := .invokevirtual 73) (pc0 := 25) (len := 3) rfl rfl rfl (e_cl_asTold hX) ?_
    show WV _ _ _ 28 _ [] _ (cl_asTold v) _
    have hX_5 : XI (cl_asTold v) := i_cl_asTold (v := v) hX
    refine r_ex 5 (pc' := 37) (lo' := [some (.inr (.inr (some 0))), some (.inl s), some (.inl m), some (.inl h), some (.inl (cl_refusalOf v s m h))]) (st' := [.inl s, .inr (.inr (some 106)), .inr (.inr (some 103))]) rfl ?_
    refine r_aald2 (z := some (107 + 2 * (s).toNat)) (pc' := 38) (pc0 := 37) (len := 1) rfl (s_106 _) (Or.inl rfl) (by first | assumption | omega | (unfold R32 at *; omega) | (unfold R64 at *; omega) | (simp only [R32, R64] at *; omega)) (by decide) (slot_at (by first | assumption | omega)) rfl ?_
    refine r_ex 2 (pc' := 40) (lo' := [some (.inr (.inr (some 0))), some (.inl s), some (.inl m), some (.inl h), some (.inl (cl_refusalOf v s m h))]) (st' := [.inl h, .inl m, .inr (.inr (some (107 + 2 * (s).toNat))), .inr (.inr (some 103))]) rfl ?_
    have hp_6 : ((s).toNat) < 4 := (by first | assumption | omega | (unfold R32 at *; omega) | (unfold R64 at *; omega) | (simp only [R32, R64] at *; omega))
    have hp_7 : 0 ≤ m ∧ m ≤ 299 := (by first | assumption | omega | (unfold R32 at *; omega) | (unfold R64 at *; omega) | (simp only [R32, R64] at *; omega))
    have hp_8 : 0 ≤ h ∧ h ≤ 99 := (by first | assumption | omega | (unfold R32 at *; omega) | (unfold R64 at *; omega) | (simp only [R32, R64] at *; omega))
    have hp_9 : TH (cl_asTold v) ((s).toNat) := (TH.of hr_.2.2.2 (by rw [o_cl_asTold (by omega)]) (by rw [o_cl_asTold (by omega)]))
    refine r_call (m := 168) (args := [.inr (.inr (some 103)), .inr (.inr (some (107 + 2 * (s).toNat))), .inl m, .inl h]) (n' := 177) (pc' := 43) (lo' := [some (.inr (.inr (some 0))), some (.inl s), some (.inl m), some (.inl h), some (.inl (cl_refusalOf v s m h))]) (st' := []) (I := .invokevirtual 168) (pc0 := 40) (len := 3) rfl rfl rfl (e_cl_seek hX_5 hp_6 hp_7 hp_8 hp_9) ?_
    show WV _ _ _ 43 _ [] _ (cl_seek (cl_asTold v) ((s).toNat) m h) _
    have hX_10 : XI (cl_seek (cl_asTold v) ((s).toNat) m h) := i_cl_seek (v := (cl_asTold v)) (q := (s).toNat) (m := m) (h := h) hX_5 hp_6 hp_7 hp_8 hp_9
    refine r_ex 6 (pc' := 57) (lo' := [some (.inr (.inr (some 0))), some (.inl s), some (.inl m), some (.inl h), some (.inl (cl_refusalOf v s m h))]) (st' := [.inl ((cl_seek (cl_asTold v) ((s).toNat) m h) 103 7), .inl ((cl_seek (cl_asTold v) ((s).toNat) m h) 103 5)]) rfl ?_
    have hb_11 : -1 ≤ ((cl_seek (cl_asTold v) ((s).toNat) m h) 103 5) ∧ ((cl_seek (cl_asTold v) ((s).toNat) m h) 103 5) ≤ 8 := hX_10 103 5
    have hb_12 : -1 ≤ ((cl_seek (cl_asTold v) ((s).toNat) m h) 103 7) ∧ ((cl_seek (cl_asTold v) ((s).toNat) m h) 103 7) ≤ 8 := hX_10 103 7
    refine n_ic_ne (pc0 := 57) (len := 3) (t := 70) rfl (by first | assumption | omega | (unfold R32 at *; omega) | (unfold R64 at *; omega) | (simp only [R32, R64] at *; omega)) (by first | assumption | omega | (unfold R32 at *; omega) | (unfold R64 at *; omega) | (simp only [R32, R64] at *; omega)) (fun h_57 => ?_) (fun h_57 => ?_)
    · show WV _ _ _ 70 _ _ _ _ _
      rw [if_neg h_57] at hQ
      refine r_ex 1 (pc' := 71) (lo' := [some (.inr (.inr (some 0))), some (.inl s), some (.inl m), some (.inl h), some (.inl (cl_refusalOf v s m h))]) (st' := [.inl (-1)]) rfl ?_
      refine r_ret (rr := some (.inl (-1))) (I := .ireturn) (pc0 := 71) (len := 1) rfl rfl ?_
      exact hQ hX_10 
    · show WV _ _ _ 60 _ _ _ _ _
      rw [if_pos h_57] at hQ
      refine r_ex 4 (pc' := 71) (lo' := [some (.inr (.inr (some 0))), some (.inl s), some (.inl m), some (.inl h), some (.inl (cl_refusalOf v s m h))]) (st' := [.inl ((cl_seek (cl_asTold v) ((s).toNat) m h) 103 5)]) rfl ?_
      refine r_ret (rr := some (.inl ((cl_seek (cl_asTold v) ((s).toNat) m h) 103 5))) (I := .ireturn) (pc0 := 71) (len := 1) rfl rfl ?_
      exact hQ hX_10 
  · show WV _ _ _ 14 _ _ _ _ _
    rw [if_neg h_11] at hQ
    refine r_ex 1 (pc' := 16) (lo' := [some (.inr (.inr (some 0))), some (.inl s), some (.inl m), some (.inl h), some (.inl (cl_refusalOf v s m h))]) (st' := [.inl (cl_refusalOf v s m h)]) rfl ?_
    refine r_ret (rr := some (.inl (cl_refusalOf v s m h))) (I := .ireturn) (pc0 := 16) (len := 1) rfl rfl ?_
    exact hQ hX 

theorem e_cl_sure {X : PX} {d b : Nat} {v : VS} {s : Int} {m : Int} {h : Int} (hX : XI v) (hp_a : R32 s) (hp_b : R32 m) (hp_c : R32 h) : EvV X (d + 1 + 1 + 1 + 1 + 1 + 1 + 1) 177 [.inr (.inr (some 0)), .inl s, .inl m, .inl h] b v (some (.inl (cl_sure v s m h).1)) b ((cl_sure v s m h).2) := EvV.of (w_cl_sure hX hp_a hp_b hp_c (fun _ => ⟨rfl, rfl, rfl⟩))

theorem i_cl_sure {v : VS} {s : Int} {m : Int} {h : Int} (hX : XI v) (hp_a : R32 s) (hp_b : R32 m) (hp_c : R32 h) : XI ((cl_sure v s m h).2) := by
  have q : WV (0, fun _ => 0, none) (0 + 1 + 1 + 1 + 1 + 1 + 1 + 1) 177 0 [some (.inr (.inr (some 0))), some (.inl s), some (.inl m), some (.inl h), none] [] 1 v (fun _ _ _ => XI ((cl_sure v s m h).2)) := w_cl_sure (X := (0, fun _ => 0, none)) (d := 0) (b := 1) hX hp_a hp_b hp_c (fun q => q)
  obtain ⟨_, _, _, _, _, _, _, q⟩ := q
  exact q

theorem o_cl_sure {rk : Nat} {v : VS} {s : Int} {m : Int} {h : Int} (hk : (rk < 67 ∨ 78 < rk) ∧ (rk < 91 ∨ 103 < rk)) : (cl_sure v s m h).2 rk = v rk := by
  unfold cl_sure
  by_cases hc_ : (cl_refusalOf v s m h) = 0
  · rw [if_pos hc_]
    by_cases hc_ : ((cl_seek (cl_asTold v) ((s).toNat) m h) 103 5) = ((cl_seek (cl_asTold v) ((s).toNat) m h) 103 7)
    · rw [if_pos hc_]
      all_goals (show (cl_seek (cl_asTold v) ((s).toNat) m h) rk = _)
      all_goals (rw [o_cl_seek (by omega), o_cl_asTold (by omega)])
    · rw [if_neg hc_]
      all_goals (show (cl_seek (cl_asTold v) ((s).toNat) m h) rk = _)
      all_goals (rw [o_cl_seek (by omega), o_cl_asTold (by omega)])
  · rw [if_neg hc_]
    all_goals (show v rk = _)
    all_goals rfl

def cl_odd (v : VS) (s : Int) : Int × VS :=
  (if (cl_refusal v s) = 0 then ((cl_firstOdd79 (cl_asItIs v) ((s).toNat)), (cl_asItIs v)) else ((cl_refusal v s), v))
theorem w_cl_odd {X : PX} {d b : Nat} {v : VS} {s : Int} (hX : XI v) (hp_a : R32 s) {Q : Option PV → Nat → VS → Prop} (hQ : XI (cl_odd v s).2 → Q (some (.inl (cl_odd v s).1)) b (cl_odd v s).2) : WV X (d + 1 + 1 + 1 + 1 + 1 + 1 + 1) 178 0 [some (.inr (.inr (some 0))), some (.inl s), none] [] b v Q := by
  rw [cl_odd] at hQ
  refine r_ex 2 (pc' := 2) (lo' := [some (.inr (.inr (some 0))), some (.inl s), none]) (st' := [.inl s, .inr (.inr (some 0))]) rfl ?_
  have hp_1 : R32 s := (by first | assumption | omega | (unfold R32 at *; omega) | (unfold R64 at *; omega) | (simp only [R32, R64] at *; omega))
  refine r_call (m := 162) (args := [.inr (.inr (some 0)), .inl s]) (n' := 178) (pc' := 5) (lo' := [some (.inr (.inr (some 0))), some (.inl s), none]) (st' := []) (I := .invokevirtual 162) (pc0 := 2) (len := 3) rfl rfl rfl (e_cl_refusal hX hp_1) ?_
  show WV _ _ _ 5 _ [.inl (cl_refusal v s)] _ _ _
  have hb_2 := n_cl_refusal (v := v) (s := s) hX hp_1
  refine r_ex 2 (pc' := 7) (lo' := [some (.inr (.inr (some 0))), some (.inl s), some (.inl (cl_refusal v s))]) (st' := [.inl (cl_refusal v s)]) rfl ?_
  refine n_if_eq (pc0 := 7) (len := 3) (t := 14) rfl (by first | assumption | omega | (unfold R32 at *; omega) | (unfold R64 at *; omega) | (simp only [R32, R64] at *; omega)) (fun h_7 => ?_) (fun h_7 => ?_)
  · show WV _ _ _ 14 _ _ _ _ _
    rw [if_pos h_7] at hQ
    have hr_ := refusal_0 hX h_7
    refine r_ex 1 (pc' := 15) (lo' := [some (.inr (.inr (some 0))), some (.inl s), some (.inl (cl_refusal v s))]) (st' := [.inr (.inr (some 0))]) rfl ?_
    refine r_call (m := 72) (args := [.inr (.inr (some 0))]) (n' := 178) (pc' := 18) (lo' := [some (.inr (.inr (some 0))), some (.inl s), some (.inl (cl_refusal v s))]) (st' := []) (I := .invokevirtual 72) (pc0 := 15) (len := 3) rfl rfl rfl (e_cl_asItIs hX) ?_
    show WV _ _ _ 18 _ [.inr (.inr (some 79))] _ (cl_asItIs v) _
    have hX_3 : XI (cl_asItIs v) := i_cl_asItIs (v := v) hX
    refine r_ex 3 (pc' := 23) (lo' := [some (.inr (.inr (some 0))), some (.inl s), some (.inl (cl_refusal v s))]) (st' := [.inl s, .inr (.inr (some 106)), .inr (.inr (some 79))]) rfl ?_
    refine r_aald2 (z := some (107 + 2 * (s).toNat)) (pc' := 24) (pc0 := 23) (len := 1) rfl (s_106 _) (Or.inl rfl) (by first | assumption | omega | (unfold R32 at *; omega) | (unfold R64 at *; omega) | (simp only [R32, R64] at *; omega)) (by decide) (slot_at (by first | assumption | omega)) rfl ?_
    have hp_4 : ((s).toNat) < 4 := (by first | assumption | omega | (unfold R32 at *; omega) | (unfold R64 at *; omega) | (simp only [R32, R64] at *; omega))
    refine r_call (m := 173) (args := [.inr (.inr (some 79)), .inr (.inr (some (107 + 2 * (s).toNat)))]) (n' := 178) (pc' := 27) (lo' := [some (.inr (.inr (some 0))), some (.inl s), some (.inl (cl_refusal v s))]) (st' := []) (I := .invokevirtual 173) (pc0 := 24) (len := 3) rfl rfl rfl (e_cl_firstOdd79 hX_3 hp_4) ?_
    show WV _ _ _ 27 _ [.inl (cl_firstOdd79 (cl_asItIs v) ((s).toNat))] _ _ _
    have hb_5 := n_cl_firstOdd79 (v := (cl_asItIs v)) (q := (s).toNat) hX_3 hp_4
    refine r_ret (rr := some (.inl (cl_firstOdd79 (cl_asItIs v) ((s).toNat)))) (I := .ireturn) (pc0 := 27) (len := 1) rfl rfl ?_
    exact hQ hX_3 
  · show WV _ _ _ 10 _ _ _ _ _
    rw [if_neg h_7] at hQ
    refine r_ex 2 (pc' := 27) (lo' := [some (.inr (.inr (some 0))), some (.inl s), some (.inl (cl_refusal v s))]) (st' := [.inl (cl_refusal v s)]) rfl ?_
    refine r_ret (rr := some (.inl (cl_refusal v s))) (I := .ireturn) (pc0 := 27) (len := 1) rfl rfl ?_
    exact hQ hX 

theorem e_cl_odd {X : PX} {d b : Nat} {v : VS} {s : Int} (hX : XI v) (hp_a : R32 s) : EvV X (d + 1 + 1 + 1 + 1 + 1 + 1 + 1) 178 [.inr (.inr (some 0)), .inl s] b v (some (.inl (cl_odd v s).1)) b ((cl_odd v s).2) := EvV.of (w_cl_odd hX hp_a (fun _ => ⟨rfl, rfl, rfl⟩))

theorem i_cl_odd {v : VS} {s : Int} (hX : XI v) (hp_a : R32 s) : XI ((cl_odd v s).2) := by
  have q : WV (0, fun _ => 0, none) (0 + 1 + 1 + 1 + 1 + 1 + 1 + 1) 178 0 [some (.inr (.inr (some 0))), some (.inl s), none] [] 1 v (fun _ _ _ => XI ((cl_odd v s).2)) := w_cl_odd (X := (0, fun _ => 0, none)) (d := 0) (b := 1) hX hp_a (fun q => q)
  obtain ⟨_, _, _, _, _, _, _, q⟩ := q
  exact q

theorem o_cl_odd {rk : Nat} {v : VS} {s : Int} (hk : (rk < 0 ∨ 0 < rk) ∧ (rk < 67 ∨ 90 < rk) ∧ (rk < 105 ∨ 105 < rk)) : (cl_odd v s).2 rk = v rk := by
  unfold cl_odd
  by_cases hc_ : (cl_refusal v s) = 0
  · rw [if_pos hc_]
    all_goals (show (cl_asItIs v) rk = _)
    all_goals (rw [o_cl_asItIs (by omega)])
  · rw [if_neg hc_]
    all_goals (show v rk = _)
    all_goals rfl

def cl_nearest_15 : Nat → VS → Nat → Int → Int → Int → Int
  | 0, v, q, g, m, j => 0
  | f + 1, v, q, g, m, j => (if j < (v 33 0) then (if (cl_nextOf79 v j 0) = (-1) then (if 300 < m then (cl_nearest_15 f v q j 300 (j + 1)) else (cl_nearest_15 f v q g m (j + 1))) else (if (iab ((v 80 (((cl_nextOf79 v j 0)).toNat)) - (v (108 + 2 * q) ((j).toNat)))) < m then (cl_nearest_15 f v q j (iab ((v 80 (((cl_nextOf79 v j 0)).toNat)) - (v (108 + 2 * q) ((j).toNat)))) (j + 1)) else (cl_nearest_15 f v q g m (j + 1)))) else g)
def cl_nearest (v : VS) (q : Nat) : Int × VS :=
  ((cl_nearest_15 10 (cl_asItIs v) q (-1) 300 0), (cl_asItIs v))
theorem l_cl_nearest_15 {X : PX} {d b : Nat} {Q : Option PV → Nat → VS → Prop}  : ∀ (f : Nat) (v : VS) (q : Nat) (g : Int) (m : Int) (j : Int) (o6 : Option PV) (o7 : Option PV), XI v → (TS v q) → (0 ≤ j ∧ j ≤ 9) → (-1 ≤ g ∧ g ≤ 8) → (0 ≤ m ∧ m ≤ 300) → (v (107 + 2 * q) 2 = v 33 0) → (q < 4) → (9 < j + f) → (∀ qx0 : Option PV, ∀ qx1 : Option PV, ∀ qx2 : Option PV, ∀ qx4 : Option PV, ∀ qx5 : Option PV, ∀ qx6 : Option PV, ∀ qx7 : Option PV, (-1 ≤ (cl_nearest_15 f v q g m j) ∧ (cl_nearest_15 f v q g m j) ≤ 8) → WV X (d + 1 + 1 + 1 + 1 + 1 + 1 + 1) 186 89 [qx0, qx1, qx2, some (.inl (cl_nearest_15 f v q g m j)), qx4, qx5, qx6, qx7] [] b v Q) → WV X (d + 1 + 1 + 1 + 1 + 1 + 1 + 1) 186 15 [some (.inr (.inr (some 0))), some (.inr (.inr (some (107 + 2 * q)))), some (.inr (.inr (some 79))), some (.inl g), some (.inl m), some (.inl j), o6, o7] [] b v Q := by
  intro f
  induction f with
  | zero =>
    intro v q g m j o6 o7 hX hi_0 hi_1 hi_2 hi_3 hi_4 hi_5 hf hK
    exfalso
    omega
  | succ f ih =>
    intro v q g m j o6 o7 hX hi_0 hi_1 hi_2 hi_3 hi_4 hi_5 hf hK
    rw [cl_nearest_15] at hK
    refine r_ex 4 (pc' := 24) (lo' := [some (.inr (.inr (some 0))), some (.inr (.inr (some (107 + 2 * q)))), some (.inr (.inr (some 79))), some (.inl g), some (.inl m), some (.inl j), o6, o7]) (st' := [.inl (v 33 0), .inl j]) rfl ?_
    have hb_2 : 0 ≤ (v 33 0) ∧ (v 33 0) ≤ 9 := hX 33 0
    refine n_ic_ge (pc0 := 24) (len := 3) (t := 89) rfl (by first | assumption | omega | (unfold R32 at *; omega) | (unfold R64 at *; omega) | (simp only [R32, R64] at *; omega)) (by first | assumption | omega | (unfold R32 at *; omega) | (unfold R64 at *; omega) | (simp only [R32, R64] at *; omega)) (fun h_24 => ?_) (fun h_24 => ?_)
    · show WV _ _ _ 89 _ _ _ _ _
      rw [if_neg h_24] at hK
      exact hK _ _ _ _ _ _ _  (by first | assumption | omega | (unfold R32 at *; omega) | (unfold R64 at *; omega) | (simp only [R32, R64] at *; omega))
    · show WV _ _ _ 27 _ _ _ _ _
      rw [if_pos h_24] at hK
      refine r_ex 3 (pc' := 31) (lo' := [some (.inr (.inr (some 0))), some (.inr (.inr (some (107 + 2 * q)))), some (.inr (.inr (some 79))), some (.inl g), some (.inl m), some (.inl j), o6, o7]) (st' := [.inl 0, .inl j, .inr (.inr (some 79))]) rfl ?_
      have hp_3 : R32 j := (by first | assumption | omega | (unfold R32 at *; omega) | (unfold R64 at *; omega) | (simp only [R32, R64] at *; omega))
      have hp_4 : 0 ≤ (0 : Int) ∧ (0 : Int) ≤ 300 := (by first | assumption | omega | (unfold R32 at *; omega) | (unfold R64 at *; omega) | (simp only [R32, R64] at *; omega))
      refine r_call (m := 93) (args := [.inr (.inr (some 79)), .inl j, .inl 0]) (n' := 186) (pc' := 34) (lo' := [some (.inr (.inr (some 0))), some (.inr (.inr (some (107 + 2 * q)))), some (.inr (.inr (some 79))), some (.inl g), some (.inl m), some (.inl j), o6, o7]) (st' := []) (I := .invokevirtual 93) (pc0 := 31) (len := 3) rfl rfl rfl (e_cl_nextOf79 hX hp_3 hp_4) ?_
      show WV _ _ _ 34 _ [.inl (cl_nextOf79 v j 0)] _ _ _
      have hb_5 := n_cl_nextOf79 (v := v) (c := j) (s := 0) hX hp_3 hp_4
      refine r_ex 3 (pc' := 39) (lo' := [some (.inr (.inr (some 0))), some (.inr (.inr (some (107 + 2 * q)))), some (.inr (.inr (some 79))), some (.inl g), some (.inl m), some (.inl j), some (.inl (cl_nextOf79 v j 0)), o7]) (st' := [.inl (-1), .inl (cl_nextOf79 v j 0)]) rfl ?_
      refine n_ic_ne (pc0 := 39) (len := 3) (t := 48) rfl (by first | assumption | omega | (unfold R32 at *; omega) | (unfold R64 at *; omega) | (simp only [R32, R64] at *; omega)) (by first | assumption | omega | (unfold R32 at *; omega) | (unfold R64 at *; omega) | (simp only [R32, R64] at *; omega)) (fun h_39 => ?_) (fun h_39 => ?_)
      · show WV _ _ _ 48 _ _ _ _ _
        rw [if_neg h_39] at hK
        refine r_ex 3 (pc' := 54) (lo' := [some (.inr (.inr (some 0))), some (.inr (.inr (some (107 + 2 * q)))), some (.inr (.inr (some 79))), some (.inl g), some (.inl m), some (.inl j), some (.inl (cl_nextOf79 v j 0)), o7]) (st' := [.inl (cl_nextOf79 v j 0), .inr (.inr (some 80))]) rfl ?_
        refine r_iald2 (j := 0) (x := (v 80 (((cl_nextOf79 v j 0)).toNat))) (pc' := 55) (pc0 := 54) (len := 1) rfl (s_80 _) (by first | assumption | omega | (unfold R32 at *; omega) | (unfold R64 at *; omega) | (simp only [R32, R64] at *; omega)) (by decide) rfl rfl ?_
        have hb_6 : 0 ≤ (v 80 (((cl_nextOf79 v j 0)).toNat)) ∧ (v 80 (((cl_nextOf79 v j 0)).toNat)) ≤ 299 := hX 80 (((cl_nextOf79 v j 0)).toNat)
        refine r_ex 1 (pc' := 56) (lo' := [some (.inr (.inr (some 0))), some (.inr (.inr (some (107 + 2 * q)))), some (.inr (.inr (some 79))), some (.inl g), some (.inl m), some (.inl j), some (.inl (cl_nextOf79 v j 0)), o7]) (st' := [.inr (.inr (some (107 + 2 * q))), .inl (v 80 (((cl_nextOf79 v j 0)).toNat))]) rfl ?_
        refine r_getr2 (z := some (108 + 2 * q)) (pc' := 59) (pc0 := 56) (len := 3) rfl (s_slot _ (by first | assumption | omega)) rfl rfl rfl ?_
        refine r_ex 1 (pc' := 61) (lo' := [some (.inr (.inr (some 0))), some (.inr (.inr (some (107 + 2 * q)))), some (.inr (.inr (some 79))), some (.inl g), some (.inl m), some (.inl j), some (.inl (cl_nextOf79 v j 0)), o7]) (st' := [.inl j, .inr (.inr (some (108 + 2 * q))), .inl (v 80 (((cl_nextOf79 v j 0)).toNat))]) rfl ?_
        refine r_lald2 (x := (v (108 + 2 * q) ((j).toNat))) (pc' := 62) (pc0 := 61) (len := 1) rfl (s_slotr _ (by first | assumption | omega)) (by first | assumption | omega | (unfold R32 at *; omega) | (unfold R64 at *; omega) | (simp only [R32, R64] at *; omega)) (by decide) rfl rfl ?_
        have hb_7 : R64 (v (108 + 2 * q) ((j).toNat)) := XI_slotr hX (by first | assumption | omega) _
        have ht1 := hi_0 j.toNat (by omega)
        refine r_ex 2 (pc' := 64) (lo' := [some (.inr (.inr (some 0))), some (.inr (.inr (some (107 + 2 * q)))), some (.inr (.inr (some 79))), some (.inl g), some (.inl m), some (.inl j), some (.inl (cl_nextOf79 v j 0)), o7]) (st' := [.inl ((v 80 (((cl_nextOf79 v j 0)).toNat)) - (v (108 + 2 * q) ((j).toNat)))]) rfl ?_
        refine r_prim (x := .inl (if 0 ≤ w32 ((v 80 (((cl_nextOf79 v j 0)).toNat)) - (v (108 + 2 * q) ((j).toNat))) then ((v 80 (((cl_nextOf79 v j 0)).toNat)) - (v (108 + 2 * q) ((j).toNat))) else 0 - ((v 80 (((cl_nextOf79 v j 0)).toNat)) - (v (108 + 2 * q) ((j).toNat))))) (m := 187) (args := [.inl ((v 80 (((cl_nextOf79 v j 0)).toNat)) - (v (108 + 2 * q) ((j).toNat)))]) (n' := 186) (pc' := 67) (lo' := [some (.inr (.inr (some 0))), some (.inr (.inr (some (107 + 2 * q)))), some (.inr (.inr (some 79))), some (.inl g), some (.inl m), some (.inl j), some (.inl (cl_nextOf79 v j 0)), o7]) (st' := []) (I := .invokestatic 187) (pc0 := 64) (len := 3) rfl rfl rfl ?_
        rw [ab32 (by first | assumption | omega | (unfold R32 at *; omega) | (unfold R64 at *; omega) | (simp only [R32, R64] at *; omega))]
        have hb_8 := iab_in ((v 80 (((cl_nextOf79 v j 0)).toNat)) - (v (108 + 2 * q) ((j).toNat)))
        refine r_ex 3 (pc' := 73) (lo' := [some (.inr (.inr (some 0))), some (.inr (.inr (some (107 + 2 * q)))), some (.inr (.inr (some 79))), some (.inl g), some (.inl m), some (.inl j), some (.inl (cl_nextOf79 v j 0)), some (.inl (iab ((v 80 (((cl_nextOf79 v j 0)).toNat)) - (v (108 + 2 * q) ((j).toNat)))))]) (st' := [.inl m, .inl (iab ((v 80 (((cl_nextOf79 v j 0)).toNat)) - (v (108 + 2 * q) ((j).toNat))))]) rfl ?_
        refine n_ic_ge (pc0 := 73) (len := 3) (t := 83) rfl (by first | assumption | omega | (unfold R32 at *; omega) | (unfold R64 at *; omega) | (simp only [R32, R64] at *; omega)) (by first | assumption | omega | (unfold R32 at *; omega) | (unfold R64 at *; omega) | (simp only [R32, R64] at *; omega)) (fun h_73 => ?_) (fun h_73 => ?_)
        · show WV _ _ _ 83 _ _ _ _ _
          rw [if_neg h_73] at hK
          refine r_ex 2 (pc' := 15) (lo' := [some (.inr (.inr (some 0))), some (.inr (.inr (some (107 + 2 * q)))), some (.inr (.inr (some 79))), some (.inl g), some (.inl m), some (.inl (j + 1)), some (.inl (cl_nextOf79 v j 0)), some (.inl (iab ((v 80 (((cl_nextOf79 v j 0)).toNat)) - (v (108 + 2 * q) ((j).toNat)))))]) (st' := []) rfl ?_
          refine ih v q g m (j + 1) _ _ hX (by first | assumption | exact TS.of hp_b (by rw [o_cl_asItIs (by omega)]) (by rw [o_cl_asItIs (by omega)])) (by first | assumption | omega | (unfold R32 at *; omega) | (unfold R64 at *; omega) | (simp only [R32, R64] at *; omega)) (by first | assumption | omega | (unfold R32 at *; omega) | (unfold R64 at *; omega) | (simp only [R32, R64] at *; omega)) (by first | assumption | omega | (unfold R32 at *; omega) | (unfold R64 at *; omega) | (simp only [R32, R64] at *; omega)) (by first | assumption | (rw [o_cl_asItIs (by omega), o_cl_asItIs (by omega)]; assumption)) (by first | assumption | omega | (unfold R32 at *; omega) | (unfold R64 at *; omega) | (simp only [R32, R64] at *; omega)) (by first | assumption | omega | (unfold R32 at *; omega) | (unfold R64 at *; omega) | (simp only [R32, R64] at *; omega)) hK
        · show WV _ _ _ 76 _ _ _ _ _
          rw [if_pos h_73] at hK
          refine r_ex 6 (pc' := 15) (lo' := [some (.inr (.inr (some 0))), some (.inr (.inr (some (107 + 2 * q)))), some (.inr (.inr (some 79))), some (.inl j), some (.inl (iab ((v 80 (((cl_nextOf79 v j 0)).toNat)) - (v (108 + 2 * q) ((j).toNat))))), some (.inl (j + 1)), some (.inl (cl_nextOf79 v j 0)), some (.inl (iab ((v 80 (((cl_nextOf79 v j 0)).toNat)) - (v (108 + 2 * q) ((j).toNat)))))]) (st' := []) rfl ?_
          refine ih v q j (iab ((v 80 (((cl_nextOf79 v j 0)).toNat)) - (v (108 + 2 * q) ((j).toNat)))) (j + 1) _ _ hX (by first | assumption | exact TS.of hp_b (by rw [o_cl_asItIs (by omega)]) (by rw [o_cl_asItIs (by omega)])) (by first | assumption | omega | (unfold R32 at *; omega) | (unfold R64 at *; omega) | (simp only [R32, R64] at *; omega)) (by first | assumption | omega | (unfold R32 at *; omega) | (unfold R64 at *; omega) | (simp only [R32, R64] at *; omega)) (by first | assumption | omega | (unfold R32 at *; omega) | (unfold R64 at *; omega) | (simp only [R32, R64] at *; omega)) (by first | assumption | (rw [o_cl_asItIs (by omega), o_cl_asItIs (by omega)]; assumption)) (by first | assumption | omega | (unfold R32 at *; omega) | (unfold R64 at *; omega) | (simp only [R32, R64] at *; omega)) (by first | assumption | omega | (unfold R32 at *; omega) | (unfold R64 at *; omega) | (simp only [R32, R64] at *; omega)) hK
      · show WV _ _ _ 42 _ _ _ _ _
        rw [if_pos h_39] at hK
        refine r_ex 5 (pc' := 73) (lo' := [some (.inr (.inr (some 0))), some (.inr (.inr (some (107 + 2 * q)))), some (.inr (.inr (some 79))), some (.inl g), some (.inl m), some (.inl j), some (.inl (cl_nextOf79 v j 0)), some (.inl 300)]) (st' := [.inl m, .inl 300]) rfl ?_
        refine n_ic_ge (pc0 := 73) (len := 3) (t := 83) rfl (by first | assumption | omega | (unfold R32 at *; omega) | (unfold R64 at *; omega) | (simp only [R32, R64] at *; omega)) (by first | assumption | omega | (unfold R32 at *; omega) | (unfold R64 at *; omega) | (simp only [R32, R64] at *; omega)) (fun h_73 => ?_) (fun h_73 => ?_)
        · show WV _ _ _ 83 _ _ _ _ _
          rw [if_neg h_73] at hK
          refine r_ex 2 (pc' := 15) (lo' := [some (.inr (.inr (some 0))), some (.inr (.inr (some (107 + 2 * q)))), some (.inr (.inr (some 79))), some (.inl g), some (.inl m), some (.inl (j + 1)), some (.inl (cl_nextOf79 v j 0)), some (.inl 300)]) (st' := []) rfl ?_
          refine ih v q g m (j + 1) _ _ hX (by first | assumption | exact TS.of hp_b (by rw [o_cl_asItIs (by omega)]) (by rw [o_cl_asItIs (by omega)])) (by first | assumption | omega | (unfold R32 at *; omega) | (unfold R64 at *; omega) | (simp only [R32, R64] at *; omega)) (by first | assumption | omega | (unfold R32 at *; omega) | (unfold R64 at *; omega) | (simp only [R32, R64] at *; omega)) (by first | assumption | omega | (unfold R32 at *; omega) | (unfold R64 at *; omega) | (simp only [R32, R64] at *; omega)) (by first | assumption | (rw [o_cl_asItIs (by omega), o_cl_asItIs (by omega)]; assumption)) (by first | assumption | omega | (unfold R32 at *; omega) | (unfold R64 at *; omega) | (simp only [R32, R64] at *; omega)) (by first | assumption | omega | (unfold R32 at *; omega) | (unfold R64 at *; omega) | (simp only [R32, R64] at *; omega)) hK
        · show WV _ _ _ 76 _ _ _ _ _
          rw [if_pos h_73] at hK
          refine r_ex 6 (pc' := 15) (lo' := [some (.inr (.inr (some 0))), some (.inr (.inr (some (107 + 2 * q)))), some (.inr (.inr (some 79))), some (.inl j), some (.inl 300), some (.inl (j + 1)), some (.inl (cl_nextOf79 v j 0)), some (.inl 300)]) (st' := []) rfl ?_
          refine ih v q j 300 (j + 1) _ _ hX (by first | assumption | exact TS.of hp_b (by rw [o_cl_asItIs (by omega)]) (by rw [o_cl_asItIs (by omega)])) (by first | assumption | omega | (unfold R32 at *; omega) | (unfold R64 at *; omega) | (simp only [R32, R64] at *; omega)) (by first | assumption | omega | (unfold R32 at *; omega) | (unfold R64 at *; omega) | (simp only [R32, R64] at *; omega)) (by first | assumption | omega | (unfold R32 at *; omega) | (unfold R64 at *; omega) | (simp only [R32, R64] at *; omega)) (by first | assumption | (rw [o_cl_asItIs (by omega), o_cl_asItIs (by omega)]; assumption)) (by first | assumption | omega | (unfold R32 at *; omega) | (unfold R64 at *; omega) | (simp only [R32, R64] at *; omega)) (by first | assumption | omega | (unfold R32 at *; omega) | (unfold R64 at *; omega) | (simp only [R32, R64] at *; omega)) hK

theorem w_cl_nearest {X : PX} {d b : Nat} {v : VS} {q : Nat} (hX : XI v) (hp_a : q < 4) (hp_b : TS v q) (hp_c : v (107 + 2 * q) 2 = v 33 0) {Q : Option PV → Nat → VS → Prop} (hQ : XI (cl_nearest v q).2 → Q (some (.inl (cl_nearest v q).1)) b (cl_nearest v q).2) : WV X (d + 1 + 1 + 1 + 1 + 1 + 1 + 1) 186 0 [some (.inr (.inr (some 0))), some (.inr (.inr (some (107 + 2 * q)))), none, none, none, none, none, none] [] b v Q := by
  rw [cl_nearest] at hQ
  refine r_ex 1 (pc' := 1) (lo' := [some (.inr (.inr (some 0))), some (.inr (.inr (some (107 + 2 * q)))), none, none, none, none, none, none]) (st' := [.inr (.inr (some 0))]) rfl ?_
  refine r_call (m := 72) (args := [.inr (.inr (some 0))]) (n' := 186) (pc' := 4) (lo' := [some (.inr (.inr (some 0))), some (.inr (.inr (some (107 + 2 * q)))), none, none, none, none, none, none]) (st' := []) (I := .invokevirtual 72) (pc0 := 1) (len := 3) rfl rfl rfl (e_cl_asItIs hX) ?_
  show WV _ _ _ 4 _ [.inr (.inr (some 79))] _ (cl_asItIs v) _
  have hX_1 : XI (cl_asItIs v) := i_cl_asItIs (v := v) hX
  refine r_ex 7 (pc' := 15) (lo' := [some (.inr (.inr (some 0))), some (.inr (.inr (some (107 + 2 * q)))), some (.inr (.inr (some 79))), some (.inl (-1)), some (.inl 300), some (.inl 0), none, none]) (st' := []) rfl ?_
  refine l_cl_nearest_15 10 (cl_asItIs v) q (-1) 300 0 _ _ hX_1 (by first | assumption | exact TS.of hp_b (by rw [o_cl_asItIs (by omega)]) (by rw [o_cl_asItIs (by omega)])) (by first | assumption | omega | (unfold R32 at *; omega) | (unfold R64 at *; omega) | (simp only [R32, R64] at *; omega)) (by first | assumption | omega | (unfold R32 at *; omega) | (unfold R64 at *; omega) | (simp only [R32, R64] at *; omega)) (by first | assumption | omega | (unfold R32 at *; omega) | (unfold R64 at *; omega) | (simp only [R32, R64] at *; omega)) (by first | assumption | (rw [o_cl_asItIs (by omega), o_cl_asItIs (by omega)]; assumption)) (by first | assumption | omega | (unfold R32 at *; omega) | (unfold R64 at *; omega) | (simp only [R32, R64] at *; omega)) (by first | assumption | omega | (unfold R32 at *; omega) | (unfold R64 at *; omega) | (simp only [R32, R64] at *; omega)) (fun o0_9 o1_9 o2_9 o4_9 o5_9 o6_9 o7_9  hv_9_0 => ?_)
  show WV _ _ _ 89 _ _ _ _ _
  refine r_ex 1 (pc' := 90) (lo' := [o0_9, o1_9, o2_9, some (.inl (cl_nearest_15 10 (cl_asItIs v) q (-1) 300 0)), o4_9, o5_9, o6_9, o7_9]) (st' := [.inl (cl_nearest_15 10 (cl_asItIs v) q (-1) 300 0)]) rfl ?_
  refine r_ret (rr := some (.inl (cl_nearest_15 10 (cl_asItIs v) q (-1) 300 0))) (I := .ireturn) (pc0 := 90) (len := 1) rfl rfl ?_
  exact hQ hX_1 

theorem e_cl_nearest {X : PX} {d b : Nat} {v : VS} {q : Nat} (hX : XI v) (hp_a : q < 4) (hp_b : TS v q) (hp_c : v (107 + 2 * q) 2 = v 33 0) : EvV X (d + 1 + 1 + 1 + 1 + 1 + 1 + 1) 186 [.inr (.inr (some 0)), .inr (.inr (some (107 + 2 * q)))] b v (some (.inl (cl_nearest v q).1)) b ((cl_nearest v q).2) := EvV.of (w_cl_nearest hX hp_a hp_b hp_c (fun _ => ⟨rfl, rfl, rfl⟩))

theorem i_cl_nearest {v : VS} {q : Nat} (hX : XI v) (hp_a : q < 4) (hp_b : TS v q) (hp_c : v (107 + 2 * q) 2 = v 33 0) : XI ((cl_nearest v q).2) := by
  have q : WV (0, fun _ => 0, none) (0 + 1 + 1 + 1 + 1 + 1 + 1 + 1) 186 0 [some (.inr (.inr (some 0))), some (.inr (.inr (some (107 + 2 * q)))), none, none, none, none, none, none] [] 1 v (fun _ _ _ => XI ((cl_nearest v q).2)) := w_cl_nearest (X := (0, fun _ => 0, none)) (d := 0) (b := 1) hX hp_a hp_b hp_c (fun q => q)
  obtain ⟨_, _, _, _, _, _, _, q⟩ := q
  exact q

theorem o_cl_nearest {rk : Nat} {v : VS} {q : Nat} (hk : (rk < 0 ∨ 0 < rk) ∧ (rk < 67 ∨ 90 < rk) ∧ (rk < 105 ∨ 105 < rk)) : (cl_nearest v q).2 rk = v rk := by
  unfold cl_nearest
  all_goals (show (cl_asItIs v) rk = _)
  all_goals (rw [o_cl_asItIs (by omega)])

def cl_bets (v : VS) (s : Int) : Int × VS :=
  (if 0 ≤ s ∧ s < 4 then (if 0 < v 33 2 then (if (v (107 + 2 * (s).toNat) 0) = 0 then ((-6), v) else (if (v (107 + 2 * (s).toNat) 2) = (v 33 0) then (if (cl_hasSeconds v ((s).toNat) (v 33 1)) = 0 then ((-2), v) else ((cl_nearest v ((s).toNat)).1, (cl_nearest v ((s).toNat)).2)) else ((-7), v))) else ((-2), v)) else ((-2), v))
theorem w_cl_bets {X : PX} {d b : Nat} {v : VS} {s : Int} (hX : XI v) (hp_a : R32 s) {Q : Option PV → Nat → VS → Prop} (hQ : XI (cl_bets v s).2 → Q (some (.inl (cl_bets v s).1)) b (cl_bets v s).2) : WV X (d + 1 + 1 + 1 + 1 + 1 + 1 + 1 + 1) 184 0 [some (.inr (.inr (some 0))), some (.inl s), none] [] b v Q := by
  rw [cl_bets] at hQ
  refine r_ex 1 (pc' := 1) (lo' := [some (.inr (.inr (some 0))), some (.inl s), none]) (st' := [.inl s]) rfl ?_
  have hp_1 : R32 s := (by first | assumption | omega | (unfold R32 at *; omega) | (unfold R64 at *; omega) | (simp only [R32, R64] at *; omega))
  refine r_callb (P := 0 ≤ s ∧ s < 4) (m := 163) (args := [.inl s]) (n' := 184) (pc' := 4) (lo' := [some (.inr (.inr (some 0))), some (.inl s), none]) (st' := []) (I := .invokestatic 163) (pc0 := 1) (len := 3) rfl rfl rfl (e_cl_isSlot hX hp_1) (fun h_1 => ?_) (fun h_1 => ?_)
  · show WV _ _ _ 4 _ _ _ _ _
    rw [if_pos h_1] at hQ
    refine r_ex 2 (pc' := 8) (lo' := [some (.inr (.inr (some 0))), some (.inl s), none]) (st' := [.inr (.inr (some 0))]) rfl ?_
    have hb_2 : 0 ≤ v 33 2 ∧ v 33 2 ≤ 2001 := hX 33 2
    refine r_callb (P := 0 < v 33 2) (m := 71) (args := [.inr (.inr (some 0))]) (n' := 184) (pc' := 11) (lo' := [some (.inr (.inr (some 0))), some (.inl s), none]) (st' := []) (I := .invokevirtual 71) (pc0 := 8) (len := 3) rfl rfl rfl (e_cl_hasBay hX) (fun h_8 => ?_) (fun h_8 => ?_)
    · show WV _ _ _ 11 _ _ _ _ _
      rw [if_pos h_8] at hQ
      refine r_ex 4 (pc' := 22) (lo' := [some (.inr (.inr (some 0))), some (.inl s), none]) (st' := [.inl s, .inr (.inr (some 106))]) rfl ?_
      refine r_aald2 (z := some (107 + 2 * (s).toNat)) (pc' := 23) (pc0 := 22) (len := 1) rfl (s_106 _) (Or.inl rfl) (by first | assumption | omega | (unfold R32 at *; omega) | (unfold R64 at *; omega) | (simp only [R32, R64] at *; omega)) (by decide) (slot_at (by first | assumption | omega)) rfl ?_
      refine r_ex 2 (pc' := 25) (lo' := [some (.inr (.inr (some 0))), some (.inl s), some (.inr (.inr (some (107 + 2 * (s).toNat))))]) (st' := [.inr (.inr (some (107 + 2 * (s).toNat)))]) rfl ?_
      refine r_geti2 (x := (v (107 + 2 * (s).toNat) 0)) (j := 0) (pc' := 28) (pc0 := 25) (len := 3) rfl (s_slot _ (by first | assumption | omega)) rfl rfl rfl (by decide) rfl rfl ?_
      have hb_3 : 0 ≤ (v (107 + 2 * (s).toNat) 0) ∧ (v (107 + 2 * (s).toNat) 0) ≤ 1 := XI_slot0 hX (by first | assumption | omega)
      refine n_if_ne (pc0 := 28) (len := 3) (t := 34) rfl (by first | assumption | omega | (unfold R32 at *; omega) | (unfold R64 at *; omega) | (simp only [R32, R64] at *; omega)) (fun h_28 => ?_) (fun h_28 => ?_)
      · show WV _ _ _ 34 _ _ _ _ _
        rw [if_neg h_28] at hQ
        refine r_ex 1 (pc' := 35) (lo' := [some (.inr (.inr (some 0))), some (.inl s), some (.inr (.inr (some (107 + 2 * (s).toNat))))]) (st' := [.inr (.inr (some (107 + 2 * (s).toNat)))]) rfl ?_
        refine r_geti2 (x := (v (107 + 2 * (s).toNat) 2)) (j := 2) (pc' := 38) (pc0 := 35) (len := 3) rfl (s_slot _ (by first | assumption | omega)) rfl rfl rfl (by decide) rfl rfl ?_
        have hb_4 : 0 ≤ (v (107 + 2 * (s).toNat) 2) ∧ (v (107 + 2 * (s).toNat) 2) ≤ 60 := XI_slot2 hX (by first | assumption | omega)
        refine r_ex 3 (pc' := 45) (lo' := [some (.inr (.inr (some 0))), some (.inl s), some (.inr (.inr (some (107 + 2 * (s).toNat))))]) (st' := [.inl (v 33 0), .inl (v (107 + 2 * (s).toNat) 2)]) rfl ?_
        have hb_5 : 0 ≤ (v 33 0) ∧ (v 33 0) ≤ 9 := hX 33 0
        refine n_ic_eq (pc0 := 45) (len := 3) (t := 51) rfl (by first | assumption | omega | (unfold R32 at *; omega) | (unfold R64 at *; omega) | (simp only [R32, R64] at *; omega)) (by first | assumption | omega | (unfold R32 at *; omega) | (unfold R64 at *; omega) | (simp only [R32, R64] at *; omega)) (fun h_45 => ?_) (fun h_45 => ?_)
        · show WV _ _ _ 51 _ _ _ _ _
          rw [if_pos h_45] at hQ
          refine r_ex 4 (pc' := 59) (lo' := [some (.inr (.inr (some 0))), some (.inl s), some (.inr (.inr (some (107 + 2 * (s).toNat))))]) (st' := [.inl (v 33 1), .inr (.inr (some (107 + 2 * (s).toNat)))]) rfl ?_
          have hb_6 : 0 ≤ (v 33 1) ∧ (v 33 1) ≤ 300 := hX 33 1
          have hp_7 : ((s).toNat) < 4 := (by first | assumption | omega | (unfold R32 at *; omega) | (unfold R64 at *; omega) | (simp only [R32, R64] at *; omega))
          have hp_8 : R32 (v 33 1) := (by first | assumption | omega | (unfold R32 at *; omega) | (unfold R64 at *; omega) | (simp only [R32, R64] at *; omega))
          refine r_call (m := 185) (args := [.inr (.inr (some (107 + 2 * (s).toNat))), .inl (v 33 1)]) (n' := 184) (pc' := 62) (lo' := [some (.inr (.inr (some 0))), some (.inl s), some (.inr (.inr (some (107 + 2 * (s).toNat))))]) (st' := []) (I := .invokevirtual 185) (pc0 := 59) (len := 3) rfl (cs_slot (by first | assumption | omega) rfl rfl rfl (Nat.le_of_ble_eq_true rfl) (Nat.le_of_ble_eq_true rfl) rfl) rfl (e_cl_hasSeconds hX hp_7 hp_8) ?_
          show WV _ _ _ 62 _ [.inl (cl_hasSeconds v ((s).toNat) (v 33 1))] _ _ _
          have hb_9 := n_cl_hasSeconds (v := v) (q := (s).toNat) (s := (v 33 1)) hX hp_7 hp_8
          refine n_if_eq (pc0 := 62) (len := 3) (t := 73) rfl (by first | assumption | omega | (unfold R32 at *; omega) | (unfold R64 at *; omega) | (simp only [R32, R64] at *; omega)) (fun h_62 => ?_) (fun h_62 => ?_)
          · show WV _ _ _ 73 _ _ _ _ _
            rw [if_pos h_62] at hQ
            refine r_ex 1 (pc' := 75) (lo' := [some (.inr (.inr (some 0))), some (.inl s), some (.inr (.inr (some (107 + 2 * (s).toNat))))]) (st' := [.inl (-2)]) rfl ?_
            refine r_ret (rr := some (.inl (-2))) (I := .ireturn) (pc0 := 75) (len := 1) rfl rfl ?_
            exact hQ hX 
          · show WV _ _ _ 65 _ _ _ _ _
            rw [if_neg h_62] at hQ
            have hts := seconds h_62 (by omega) (by omega)
            refine r_ex 2 (pc' := 67) (lo' := [some (.inr (.inr (some 0))), some (.inl s), some (.inr (.inr (some (107 + 2 * (s).toNat))))]) (st' := [.inr (.inr (some (107 + 2 * (s).toNat))), .inr (.inr (some 0))]) rfl ?_
            have hp_10 : ((s).toNat) < 4 := (by first | assumption | omega | (unfold R32 at *; omega) | (unfold R64 at *; omega) | (simp only [R32, R64] at *; omega))
            have hp_11 : TS v ((s).toNat) := (by first | assumption | omega | (unfold R32 at *; omega) | (unfold R64 at *; omega) | (simp only [R32, R64] at *; omega))
            have hp_12 : v (107 + 2 * ((s).toNat)) 2 = v 33 0 := (by first | assumption | omega | (unfold R32 at *; omega) | (unfold R64 at *; omega) | (simp only [R32, R64] at *; omega))
            refine r_call (m := 186) (args := [.inr (.inr (some 0)), .inr (.inr (some (107 + 2 * (s).toNat)))]) (n' := 184) (pc' := 70) (lo' := [some (.inr (.inr (some 0))), some (.inl s), some (.inr (.inr (some (107 + 2 * (s).toNat))))]) (st' := []) (I := .invokevirtual 186) (pc0 := 67) (len := 3) rfl rfl rfl (e_cl_nearest hX hp_10 hp_11 hp_12) ?_
            show WV _ _ _ 70 _ [.inl ((cl_nearest v ((s).toNat)).1)] _ (cl_nearest v ((s).toNat)).2 _
            have hX_13 : XI (cl_nearest v ((s).toNat)).2 := i_cl_nearest (v := v) (q := (s).toNat) hX hp_10 hp_11 hp_12
            refine r_ex 1 (pc' := 75) (lo' := [some (.inr (.inr (some 0))), some (.inl s), some (.inr (.inr (some (107 + 2 * (s).toNat))))]) (st' := [.inl ((cl_nearest v ((s).toNat)).1)]) rfl ?_
            refine r_ret (rr := some (.inl ((cl_nearest v ((s).toNat)).1))) (I := .ireturn) (pc0 := 75) (len := 1) rfl rfl ?_
            exact hQ hX_13 
        · show WV _ _ _ 48 _ _ _ _ _
          rw [if_neg h_45] at hQ
          refine r_ex 1 (pc' := 50) (lo' := [some (.inr (.inr (some 0))), some (.inl s), some (.inr (.inr (some (107 + 2 * (s).toNat))))]) (st' := [.inl (-7)]) rfl ?_
          refine r_ret (rr := some (.inl (-7))) (I := .ireturn) (pc0 := 50) (len := 1) rfl rfl ?_
          exact hQ hX 
      · show WV _ _ _ 31 _ _ _ _ _
        rw [if_pos h_28] at hQ
        refine r_ex 1 (pc' := 33) (lo' := [some (.inr (.inr (some 0))), some (.inl s), some (.inr (.inr (some (107 + 2 * (s).toNat))))]) (st' := [.inl (-6)]) rfl ?_
        refine r_ret (rr := some (.inl (-6))) (I := .ireturn) (pc0 := 33) (len := 1) rfl rfl ?_
        exact hQ hX 
    · show WV _ _ _ 11 _ _ _ _ _
      rw [if_neg h_8] at hQ
      refine r_ex 2 (pc' := 16) (lo' := [some (.inr (.inr (some 0))), some (.inl s), none]) (st' := [.inl (-2)]) rfl ?_
      refine r_ret (rr := some (.inl (-2))) (I := .ireturn) (pc0 := 16) (len := 1) rfl rfl ?_
      exact hQ hX 
  · show WV _ _ _ 4 _ _ _ _ _
    rw [if_neg h_1] at hQ
    refine r_ex 2 (pc' := 16) (lo' := [some (.inr (.inr (some 0))), some (.inl s), none]) (st' := [.inl (-2)]) rfl ?_
    refine r_ret (rr := some (.inl (-2))) (I := .ireturn) (pc0 := 16) (len := 1) rfl rfl ?_
    exact hQ hX 

theorem e_cl_bets {X : PX} {d b : Nat} {v : VS} {s : Int} (hX : XI v) (hp_a : R32 s) : EvV X (d + 1 + 1 + 1 + 1 + 1 + 1 + 1 + 1) 184 [.inr (.inr (some 0)), .inl s] b v (some (.inl (cl_bets v s).1)) b ((cl_bets v s).2) := EvV.of (w_cl_bets hX hp_a (fun _ => ⟨rfl, rfl, rfl⟩))

theorem i_cl_bets {v : VS} {s : Int} (hX : XI v) (hp_a : R32 s) : XI ((cl_bets v s).2) := by
  have q : WV (0, fun _ => 0, none) (0 + 1 + 1 + 1 + 1 + 1 + 1 + 1 + 1) 184 0 [some (.inr (.inr (some 0))), some (.inl s), none] [] 1 v (fun _ _ _ => XI ((cl_bets v s).2)) := w_cl_bets (X := (0, fun _ => 0, none)) (d := 0) (b := 1) hX hp_a (fun q => q)
  obtain ⟨_, _, _, _, _, _, _, q⟩ := q
  exact q

theorem o_cl_bets {rk : Nat} {v : VS} {s : Int} (hk : (rk < 0 ∨ 0 < rk) ∧ (rk < 67 ∨ 90 < rk) ∧ (rk < 105 ∨ 105 < rk)) : (cl_bets v s).2 rk = v rk := by
  unfold cl_bets
  by_cases hc_ : 0 ≤ s ∧ s < 4
  · rw [if_pos hc_]
    by_cases hc_ : 0 < v 33 2
    · rw [if_pos hc_]
      by_cases hc_ : (v (107 + 2 * (s).toNat) 0) = 0
      · rw [if_pos hc_]
        all_goals (show v rk = _)
        all_goals rfl
      · rw [if_neg hc_]
        by_cases hc_ : (v (107 + 2 * (s).toNat) 2) = (v 33 0)
        · rw [if_pos hc_]
          by_cases hc_ : (cl_hasSeconds v ((s).toNat) (v 33 1)) = 0
          · rw [if_pos hc_]
            all_goals (show v rk = _)
            all_goals rfl
          · rw [if_neg hc_]
            all_goals (show ((cl_nearest v ((s).toNat)).2) rk = _)
            all_goals (rw [o_cl_nearest (by omega)])
        · rw [if_neg hc_]
          all_goals (show v rk = _)
          all_goals rfl
    · rw [if_neg hc_]
      all_goals (show v rk = _)
      all_goals rfl
  · rw [if_neg hc_]
    all_goals (show v rk = _)
    all_goals rfl

def cl_slotsWithRows_4 : Nat → VS → Int → Int → Int
  | 0, v, n, i => 0
  | f + 1, v, n, i => (if i < 4 then (if (v (107 + 2 * (i).toNat) 0) = 0 then (cl_slotsWithRows_4 f v n (i + 1)) else (cl_slotsWithRows_4 f v (n + 1) (i + 1))) else n)
def cl_slotsWithRows (v : VS)  : Int :=
  (cl_slotsWithRows_4 5 v 0 0)
theorem l_cl_slotsWithRows_4 {X : PX} {d b : Nat} {Q : Option PV → Nat → VS → Prop}  : ∀ (f : Nat) (v : VS) (n : Int) (i : Int), XI v → (0 ≤ i ∧ i ≤ 4) → (0 ≤ n ∧ n ≤ i) → (4 < i + f) → (∀ qx0 : Option PV, ∀ qx2 : Option PV, (0 ≤ (cl_slotsWithRows_4 f v n i) ∧ (cl_slotsWithRows_4 f v n i) ≤ 4) → WV X d 189 30 [qx0, some (.inl (cl_slotsWithRows_4 f v n i)), qx2] [] b v Q) → WV X d 189 4 [some (.inr (.inr (some 0))), some (.inl n), some (.inl i)] [] b v Q := by
  intro f
  induction f with
  | zero =>
    intro v n i hX hi_0 hi_1 hf hK
    exfalso
    omega
  | succ f ih =>
    intro v n i hX hi_0 hi_1 hf hK
    rw [cl_slotsWithRows_4] at hK
    refine r_ex 2 (pc' := 6) (lo' := [some (.inr (.inr (some 0))), some (.inl n), some (.inl i)]) (st' := [.inl 4, .inl i]) rfl ?_
    refine n_ic_ge (pc0 := 6) (len := 3) (t := 30) rfl (by first | assumption | omega | (unfold R32 at *; omega) | (unfold R64 at *; omega) | (simp only [R32, R64] at *; omega)) (by first | assumption | omega | (unfold R32 at *; omega) | (unfold R64 at *; omega) | (simp only [R32, R64] at *; omega)) (fun h_6 => ?_) (fun h_6 => ?_)
    · show WV _ _ _ 30 _ _ _ _ _
      rw [if_neg h_6] at hK
      exact hK _ _  (by first | assumption | omega | (unfold R32 at *; omega) | (unfold R64 at *; omega) | (simp only [R32, R64] at *; omega))
    · show WV _ _ _ 9 _ _ _ _ _
      rw [if_pos h_6] at hK
      refine r_ex 3 (pc' := 14) (lo' := [some (.inr (.inr (some 0))), some (.inl n), some (.inl i)]) (st' := [.inl i, .inr (.inr (some 106))]) rfl ?_
      refine r_aald2 (z := some (107 + 2 * (i).toNat)) (pc' := 15) (pc0 := 14) (len := 1) rfl (s_106 _) (Or.inl rfl) (by first | assumption | omega | (unfold R32 at *; omega) | (unfold R64 at *; omega) | (simp only [R32, R64] at *; omega)) (by decide) (slot_at (by first | assumption | omega)) rfl ?_
      refine r_geti2 (x := (v (107 + 2 * (i).toNat) 0)) (j := 0) (pc' := 18) (pc0 := 15) (len := 3) rfl (s_slot _ (by first | assumption | omega)) rfl rfl rfl (by decide) rfl rfl ?_
      have hb_1 : 0 ≤ (v (107 + 2 * (i).toNat) 0) ∧ (v (107 + 2 * (i).toNat) 0) ≤ 1 := XI_slot0 hX (by first | assumption | omega)
      refine n_if_eq (pc0 := 18) (len := 3) (t := 24) rfl (by first | assumption | omega | (unfold R32 at *; omega) | (unfold R64 at *; omega) | (simp only [R32, R64] at *; omega)) (fun h_18 => ?_) (fun h_18 => ?_)
      · show WV _ _ _ 24 _ _ _ _ _
        rw [if_pos h_18] at hK
        refine r_ex 2 (pc' := 4) (lo' := [some (.inr (.inr (some 0))), some (.inl n), some (.inl (i + 1))]) (st' := []) rfl ?_
        refine ih v n (i + 1)  hX (by first | assumption | omega | (unfold R32 at *; omega) | (unfold R64 at *; omega) | (simp only [R32, R64] at *; omega)) (by first | assumption | omega | (unfold R32 at *; omega) | (unfold R64 at *; omega) | (simp only [R32, R64] at *; omega)) (by first | assumption | omega | (unfold R32 at *; omega) | (unfold R64 at *; omega) | (simp only [R32, R64] at *; omega)) hK
      · show WV _ _ _ 21 _ _ _ _ _
        rw [if_neg h_18] at hK
        refine r_ex 3 (pc' := 4) (lo' := [some (.inr (.inr (some 0))), some (.inl (n + 1)), some (.inl (i + 1))]) (st' := []) rfl ?_
        refine ih v (n + 1) (i + 1)  hX (by first | assumption | omega | (unfold R32 at *; omega) | (unfold R64 at *; omega) | (simp only [R32, R64] at *; omega)) (by first | assumption | omega | (unfold R32 at *; omega) | (unfold R64 at *; omega) | (simp only [R32, R64] at *; omega)) (by first | assumption | omega | (unfold R32 at *; omega) | (unfold R64 at *; omega) | (simp only [R32, R64] at *; omega)) hK

theorem w_cl_slotsWithRows {X : PX} {d b : Nat} {v : VS}  (hX : XI v)  {Q : Option PV → Nat → VS → Prop} (hQ : (0 ≤ (cl_slotsWithRows v) ∧ (cl_slotsWithRows v) ≤ 4) → Q (some (.inl (cl_slotsWithRows v))) b v) : WV X d 189 0 [some (.inr (.inr (some 0))), none, none] [] b v Q := by
  rw [cl_slotsWithRows] at hQ
  refine r_ex 4 (pc' := 4) (lo' := [some (.inr (.inr (some 0))), some (.inl 0), some (.inl 0)]) (st' := []) rfl ?_
  refine l_cl_slotsWithRows_4 5 v 0 0  hX (by first | assumption | omega | (unfold R32 at *; omega) | (unfold R64 at *; omega) | (simp only [R32, R64] at *; omega)) (by first | assumption | omega | (unfold R32 at *; omega) | (unfold R64 at *; omega) | (simp only [R32, R64] at *; omega)) (by first | assumption | omega | (unfold R32 at *; omega) | (unfold R64 at *; omega) | (simp only [R32, R64] at *; omega)) (fun o0_2 o2_2  hv_2_0 => ?_)
  show WV _ _ _ 30 _ _ _ _ _
  refine r_ex 1 (pc' := 31) (lo' := [o0_2, some (.inl (cl_slotsWithRows_4 5 v 0 0)), o2_2]) (st' := [.inl (cl_slotsWithRows_4 5 v 0 0)]) rfl ?_
  refine r_ret (rr := some (.inl (cl_slotsWithRows_4 5 v 0 0))) (I := .ireturn) (pc0 := 31) (len := 1) rfl rfl ?_
  exact hQ (by first | assumption | omega | (unfold R32 at *; omega) | (unfold R64 at *; omega) | (simp only [R32, R64] at *; omega))

theorem e_cl_slotsWithRows {X : PX} {d b : Nat} {v : VS}  (hX : XI v)  : EvV X d 189 [.inr (.inr (some 0))] b v (some (.inl (cl_slotsWithRows v))) b v := EvV.of (w_cl_slotsWithRows hX  (fun _ => ⟨rfl, rfl, rfl⟩))

theorem n_cl_slotsWithRows {v : VS}  (hX : XI v)  : 0 ≤ (cl_slotsWithRows v) ∧ (cl_slotsWithRows v) ≤ 4 := by
  have q : WV (0, fun _ => 0, none) 0 189 0 [some (.inr (.inr (some 0))), none, none] [] 1 v (fun _ _ _ => 0 ≤ (cl_slotsWithRows v) ∧ (cl_slotsWithRows v) ≤ 4) := w_cl_slotsWithRows (X := (0, fun _ => 0, none)) (d := 0) (b := 1) hX  (fun q => q)
  obtain ⟨_, _, _, _, _, _, _, q⟩ := q
  exact q

def cl_count (v : VS) (w : Int) : Int :=
  (if w = 0 then (v 33 0) else (if w = 1 then (v 33 1) else (if w = 2 then (v 37 0) else (if w = 3 then (v 42 0) else (if w = 4 then (v 33 2) else (if w = 5 then (v 0 1) else (if w = 6 then (v 33 4) else (if w = 7 then (v 33 5) else (if w = 8 then (cl_slotsWithRows v) else (-1))))))))))
theorem w_cl_count {X : PX} {d b : Nat} {v : VS} {w : Int} (hX : XI v) (hp_a : R32 w) {Q : Option PV → Nat → VS → Prop} (hQ : Q (some (.inl (cl_count v w))) b v) : WV X (d + 1) 188 0 [some (.inr (.inr (some 0))), some (.inl w)] [] b v Q := by
  rw [cl_count] at hQ
  refine r_ex 1 (pc' := 1) (lo' := [some (.inr (.inr (some 0))), some (.inl w)]) (st' := [.inl w]) rfl ?_
  by_cases h_1_0 : w = 0
  · refine n_ts (pc' := 52) (pc0 := 1) (len := 51) (x := w) (y := 0) rfl h_1_0 rfl ?_
    rw [if_pos h_1_0] at hQ
    refine r_ex 3 (pc' := 59) (lo' := [some (.inr (.inr (some 0))), some (.inl w)]) (st' := [.inl (v 33 0)]) rfl ?_
    have hb_2 : 0 ≤ (v 33 0) ∧ (v 33 0) ≤ 9 := hX 33 0
    refine r_ret (rr := some (.inl (v 33 0))) (I := .ireturn) (pc0 := 59) (len := 1) rfl rfl ?_
    exact hQ 
  · rw [if_neg h_1_0] at hQ
    by_cases h_1_1 : w = 1
    · refine n_ts (pc' := 60) (pc0 := 1) (len := 51) (x := w) (y := 1) rfl h_1_1 rfl ?_
      rw [if_pos h_1_1] at hQ
      refine r_ex 3 (pc' := 67) (lo' := [some (.inr (.inr (some 0))), some (.inl w)]) (st' := [.inl (v 33 1)]) rfl ?_
      have hb_4 : 0 ≤ (v 33 1) ∧ (v 33 1) ≤ 300 := hX 33 1
      refine r_ret (rr := some (.inl (v 33 1))) (I := .ireturn) (pc0 := 67) (len := 1) rfl rfl ?_
      exact hQ 
    · rw [if_neg h_1_1] at hQ
      by_cases h_1_2 : w = 2
      · refine n_ts (pc' := 68) (pc0 := 1) (len := 51) (x := w) (y := 2) rfl h_1_2 rfl ?_
        rw [if_pos h_1_2] at hQ
        refine r_ex 4 (pc' := 78) (lo' := [some (.inr (.inr (some 0))), some (.inl w)]) (st' := [.inl (v 37 0)]) rfl ?_
        have hb_6 : 0 ≤ (v 37 0) ∧ (v 37 0) ≤ 12 := hX 37 0
        refine r_ret (rr := some (.inl (v 37 0))) (I := .ireturn) (pc0 := 78) (len := 1) rfl rfl ?_
        exact hQ 
      · rw [if_neg h_1_2] at hQ
        by_cases h_1_3 : w = 3
        · refine n_ts (pc' := 79) (pc0 := 1) (len := 51) (x := w) (y := 3) rfl h_1_3 rfl ?_
          rw [if_pos h_1_3] at hQ
          refine r_ex 4 (pc' := 89) (lo' := [some (.inr (.inr (some 0))), some (.inl w)]) (st' := [.inl (v 42 0)]) rfl ?_
          have hb_8 : 0 ≤ (v 42 0) ∧ (v 42 0) ≤ 4 := hX 42 0
          refine r_ret (rr := some (.inl (v 42 0))) (I := .ireturn) (pc0 := 89) (len := 1) rfl rfl ?_
          exact hQ 
        · rw [if_neg h_1_3] at hQ
          by_cases h_1_4 : w = 4
          · refine n_ts (pc' := 90) (pc0 := 1) (len := 51) (x := w) (y := 4) rfl h_1_4 rfl ?_
            rw [if_pos h_1_4] at hQ
            refine r_ex 3 (pc' := 97) (lo' := [some (.inr (.inr (some 0))), some (.inl w)]) (st' := [.inl (v 33 2)]) rfl ?_
            have hb_10 : 0 ≤ (v 33 2) ∧ (v 33 2) ≤ 2001 := hX 33 2
            refine r_ret (rr := some (.inl (v 33 2))) (I := .ireturn) (pc0 := 97) (len := 1) rfl rfl ?_
            exact hQ 
          · rw [if_neg h_1_4] at hQ
            by_cases h_1_5 : w = 5
            · refine n_ts (pc' := 98) (pc0 := 1) (len := 51) (x := w) (y := 5) rfl h_1_5 rfl ?_
              rw [if_pos h_1_5] at hQ
              refine r_ex 2 (pc' := 102) (lo' := [some (.inr (.inr (some 0))), some (.inl w)]) (st' := [.inl (v 0 1)]) rfl ?_
              have hb_12 : 0 ≤ (v 0 1) ∧ (v 0 1) ≤ 2000 := hX 0 1
              refine r_ret (rr := some (.inl (v 0 1))) (I := .ireturn) (pc0 := 102) (len := 1) rfl rfl ?_
              exact hQ 
            · rw [if_neg h_1_5] at hQ
              by_cases h_1_6 : w = 6
              · refine n_ts (pc' := 103) (pc0 := 1) (len := 51) (x := w) (y := 6) rfl h_1_6 rfl ?_
                rw [if_pos h_1_6] at hQ
                refine r_ex 3 (pc' := 110) (lo' := [some (.inr (.inr (some 0))), some (.inl w)]) (st' := [.inl (v 33 4)]) rfl ?_
                have hb_14 : 0 ≤ (v 33 4) ∧ (v 33 4) ≤ 511 := hX 33 4
                refine r_ret (rr := some (.inl (v 33 4))) (I := .ireturn) (pc0 := 110) (len := 1) rfl rfl ?_
                exact hQ 
              · rw [if_neg h_1_6] at hQ
                by_cases h_1_7 : w = 7
                · refine n_ts (pc' := 111) (pc0 := 1) (len := 51) (x := w) (y := 7) rfl h_1_7 rfl ?_
                  rw [if_pos h_1_7] at hQ
                  refine r_ex 3 (pc' := 118) (lo' := [some (.inr (.inr (some 0))), some (.inl w)]) (st' := [.inl (v 33 5)]) rfl ?_
                  have hb_16 : 0 ≤ (v 33 5) ∧ (v 33 5) ≤ 4095 := hX 33 5
                  refine r_ret (rr := some (.inl (v 33 5))) (I := .ireturn) (pc0 := 118) (len := 1) rfl rfl ?_
                  exact hQ 
                · rw [if_neg h_1_7] at hQ
                  by_cases h_1_8 : w = 8
                  · refine n_ts (pc' := 119) (pc0 := 1) (len := 51) (x := w) (y := 8) rfl h_1_8 rfl ?_
                    rw [if_pos h_1_8] at hQ
                    refine r_ex 1 (pc' := 120) (lo' := [some (.inr (.inr (some 0))), some (.inl w)]) (st' := [.inr (.inr (some 0))]) rfl ?_
                    refine r_call (m := 189) (args := [.inr (.inr (some 0))]) (n' := 188) (pc' := 123) (lo' := [some (.inr (.inr (some 0))), some (.inl w)]) (st' := []) (I := .invokevirtual 189) (pc0 := 120) (len := 3) rfl rfl rfl (e_cl_slotsWithRows hX) ?_
                    show WV _ _ _ 123 _ [.inl (cl_slotsWithRows v)] _ _ _
                    have hb_18 := n_cl_slotsWithRows (v := v) hX
                    refine r_ret (rr := some (.inl (cl_slotsWithRows v))) (I := .ireturn) (pc0 := 123) (len := 1) rfl rfl ?_
                    exact hQ 
                  · rw [if_neg h_1_8] at hQ
                    refine n_ts_d (pc' := 124) (pc0 := 1) (len := 51) (x := w) rfl (by first | assumption | omega | (unfold R32 at *; omega) | (unfold R64 at *; omega) | (simp only [R32, R64] at *; omega)) (by first | assumption | omega | (unfold R32 at *; omega) | (unfold R64 at *; omega) | (simp only [R32, R64] at *; omega)) ?_
                    refine r_ex 1 (pc' := 125) (lo' := [some (.inr (.inr (some 0))), some (.inl w)]) (st' := [.inl (-1)]) rfl ?_
                    refine r_ret (rr := some (.inl (-1))) (I := .ireturn) (pc0 := 125) (len := 1) rfl rfl ?_
                    exact hQ 

theorem e_cl_count {X : PX} {d b : Nat} {v : VS} {w : Int} (hX : XI v) (hp_a : R32 w) : EvV X (d + 1) 188 [.inr (.inr (some 0)), .inl w] b v (some (.inl (cl_count v w))) b v := EvV.of (w_cl_count hX hp_a (⟨rfl, rfl, rfl⟩))

def cl_row (v : VS) (s : Int) (w : Int) (n : Int) : Int × VS :=
  (if 0 ≤ s ∧ s < 4 then (if w < 0 then ((-2), v) else (if 3 < w then ((-2), v) else (if 60 < n then ((-2), v) else (if n < 0 then ((-3), v) else (0, (cl_lay v ((s).toNat) w n)))))) else ((-2), v))
theorem w_cl_row {X : PX} {d b : Nat} {v : VS} {s : Int} {w : Int} {n : Int} (hX : XI v) (hp_a : R32 s) (hp_b : R32 w) (hp_c : R32 n) {Q : Option PV → Nat → VS → Prop} (hQ : XI (cl_row v s w n).2 → Q (some (.inl (cl_row v s w n).1)) b (cl_row v s w n).2) : WV X (d + 1 + 1) 192 0 [some (.inr (.inr (some 0))), some (.inl s), some (.inl w), some (.inl n)] [] b v Q := by
  rw [cl_row] at hQ
  refine r_ex 1 (pc' := 1) (lo' := [some (.inr (.inr (some 0))), some (.inl s), some (.inl w), some (.inl n)]) (st' := [.inl s]) rfl ?_
  have hp_1 : R32 s := (by first | assumption | omega | (unfold R32 at *; omega) | (unfold R64 at *; omega) | (simp only [R32, R64] at *; omega))
  refine r_callb (P := 0 ≤ s ∧ s < 4) (m := 163) (args := [.inl s]) (n' := 192) (pc' := 4) (lo' := [some (.inr (.inr (some 0))), some (.inl s), some (.inl w), some (.inl n)]) (st' := []) (I := .invokestatic 163) (pc0 := 1) (len := 3) rfl rfl rfl (e_cl_isSlot hX hp_1) (fun h_1 => ?_) (fun h_1 => ?_)
  · show WV _ _ _ 4 _ _ _ _ _
    rw [if_pos h_1] at hQ
    refine r_ex 2 (pc' := 8) (lo' := [some (.inr (.inr (some 0))), some (.inl s), some (.inl w), some (.inl n)]) (st' := [.inl w]) rfl ?_
    refine n_if_lt (pc0 := 8) (len := 3) (t := 22) rfl (by first | assumption | omega | (unfold R32 at *; omega) | (unfold R64 at *; omega) | (simp only [R32, R64] at *; omega)) (fun h_8 => ?_) (fun h_8 => ?_)
    · show WV _ _ _ 22 _ _ _ _ _
      rw [if_pos h_8] at hQ
      refine r_ex 1 (pc' := 24) (lo' := [some (.inr (.inr (some 0))), some (.inl s), some (.inl w), some (.inl n)]) (st' := [.inl (-2)]) rfl ?_
      refine r_ret (rr := some (.inl (-2))) (I := .ireturn) (pc0 := 24) (len := 1) rfl rfl ?_
      exact hQ hX 
    · show WV _ _ _ 11 _ _ _ _ _
      rw [if_neg h_8] at hQ
      refine r_ex 2 (pc' := 13) (lo' := [some (.inr (.inr (some 0))), some (.inl s), some (.inl w), some (.inl n)]) (st' := [.inl 3, .inl w]) rfl ?_
      refine n_ic_gt (pc0 := 13) (len := 3) (t := 22) rfl (by first | assumption | omega | (unfold R32 at *; omega) | (unfold R64 at *; omega) | (simp only [R32, R64] at *; omega)) (by first | assumption | omega | (unfold R32 at *; omega) | (unfold R64 at *; omega) | (simp only [R32, R64] at *; omega)) (fun h_13 => ?_) (fun h_13 => ?_)
      · show WV _ _ _ 22 _ _ _ _ _
        rw [if_pos h_13] at hQ
        refine r_ex 1 (pc' := 24) (lo' := [some (.inr (.inr (some 0))), some (.inl s), some (.inl w), some (.inl n)]) (st' := [.inl (-2)]) rfl ?_
        refine r_ret (rr := some (.inl (-2))) (I := .ireturn) (pc0 := 24) (len := 1) rfl rfl ?_
        exact hQ hX 
      · show WV _ _ _ 16 _ _ _ _ _
        rw [if_neg h_13] at hQ
        refine r_ex 2 (pc' := 19) (lo' := [some (.inr (.inr (some 0))), some (.inl s), some (.inl w), some (.inl n)]) (st' := [.inl 60, .inl n]) rfl ?_
        refine n_ic_le (pc0 := 19) (len := 3) (t := 25) rfl (by first | assumption | omega | (unfold R32 at *; omega) | (unfold R64 at *; omega) | (simp only [R32, R64] at *; omega)) (by first | assumption | omega | (unfold R32 at *; omega) | (unfold R64 at *; omega) | (simp only [R32, R64] at *; omega)) (fun h_19 => ?_) (fun h_19 => ?_)
        · show WV _ _ _ 25 _ _ _ _ _
          rw [if_neg h_19] at hQ
          refine r_ex 1 (pc' := 26) (lo' := [some (.inr (.inr (some 0))), some (.inl s), some (.inl w), some (.inl n)]) (st' := [.inl n]) rfl ?_
          refine n_if_ge (pc0 := 26) (len := 3) (t := 32) rfl (by first | assumption | omega | (unfold R32 at *; omega) | (unfold R64 at *; omega) | (simp only [R32, R64] at *; omega)) (fun h_26 => ?_) (fun h_26 => ?_)
          · show WV _ _ _ 32 _ _ _ _ _
            rw [if_neg h_26] at hQ
            refine r_ex 3 (pc' := 37) (lo' := [some (.inr (.inr (some 0))), some (.inl s), some (.inl w), some (.inl n)]) (st' := [.inl s, .inr (.inr (some 106))]) rfl ?_
            refine r_aald2 (z := some (107 + 2 * (s).toNat)) (pc' := 38) (pc0 := 37) (len := 1) rfl (s_106 _) (Or.inl rfl) (by first | assumption | omega | (unfold R32 at *; omega) | (unfold R64 at *; omega) | (simp only [R32, R64] at *; omega)) (by decide) (slot_at (by first | assumption | omega)) rfl ?_
            refine r_ex 2 (pc' := 40) (lo' := [some (.inr (.inr (some 0))), some (.inl s), some (.inl w), some (.inl n)]) (st' := [.inl n, .inl w, .inr (.inr (some (107 + 2 * (s).toNat)))]) rfl ?_
            have hp_2 : ((s).toNat) < 4 := (by first | assumption | omega | (unfold R32 at *; omega) | (unfold R64 at *; omega) | (simp only [R32, R64] at *; omega))
            have hp_3 : 0 ≤ w ∧ w ≤ 3 := (by first | assumption | omega | (unfold R32 at *; omega) | (unfold R64 at *; omega) | (simp only [R32, R64] at *; omega))
            have hp_4 : 0 ≤ n ∧ n ≤ 60 := (by first | assumption | omega | (unfold R32 at *; omega) | (unfold R64 at *; omega) | (simp only [R32, R64] at *; omega))
            refine r_call (m := 193) (args := [.inr (.inr (some (107 + 2 * (s).toNat))), .inl w, .inl n]) (n' := 192) (pc' := 43) (lo' := [some (.inr (.inr (some 0))), some (.inl s), some (.inl w), some (.inl n)]) (st' := []) (I := .invokevirtual 193) (pc0 := 40) (len := 3) rfl (cs_slot (by first | assumption | omega) rfl rfl rfl (Nat.le_of_ble_eq_true rfl) (Nat.le_of_ble_eq_true rfl) rfl) rfl (e_cl_lay hX hp_2 hp_3 hp_4) ?_
            show WV _ _ _ 43 _ [] _ (cl_lay v ((s).toNat) w n) _
            have hX_5 : XI (cl_lay v ((s).toNat) w n) := i_cl_lay (v := v) (q := (s).toNat) (w := w) (n := n) hX hp_2 hp_3 hp_4
            refine r_ex 1 (pc' := 44) (lo' := [some (.inr (.inr (some 0))), some (.inl s), some (.inl w), some (.inl n)]) (st' := [.inl 0]) rfl ?_
            refine r_ret (rr := some (.inl 0)) (I := .ireturn) (pc0 := 44) (len := 1) rfl rfl ?_
            exact hQ hX_5 
          · show WV _ _ _ 29 _ _ _ _ _
            rw [if_pos h_26] at hQ
            refine r_ex 1 (pc' := 31) (lo' := [some (.inr (.inr (some 0))), some (.inl s), some (.inl w), some (.inl n)]) (st' := [.inl (-3)]) rfl ?_
            refine r_ret (rr := some (.inl (-3))) (I := .ireturn) (pc0 := 31) (len := 1) rfl rfl ?_
            exact hQ hX 
        · show WV _ _ _ 22 _ _ _ _ _
          rw [if_pos h_19] at hQ
          refine r_ex 1 (pc' := 24) (lo' := [some (.inr (.inr (some 0))), some (.inl s), some (.inl w), some (.inl n)]) (st' := [.inl (-2)]) rfl ?_
          refine r_ret (rr := some (.inl (-2))) (I := .ireturn) (pc0 := 24) (len := 1) rfl rfl ?_
          exact hQ hX 
  · show WV _ _ _ 4 _ _ _ _ _
    rw [if_neg h_1] at hQ
    refine r_ex 2 (pc' := 24) (lo' := [some (.inr (.inr (some 0))), some (.inl s), some (.inl w), some (.inl n)]) (st' := [.inl (-2)]) rfl ?_
    refine r_ret (rr := some (.inl (-2))) (I := .ireturn) (pc0 := 24) (len := 1) rfl rfl ?_
    exact hQ hX 

theorem e_cl_row {X : PX} {d b : Nat} {v : VS} {s : Int} {w : Int} {n : Int} (hX : XI v) (hp_a : R32 s) (hp_b : R32 w) (hp_c : R32 n) : EvV X (d + 1 + 1) 192 [.inr (.inr (some 0)), .inl s, .inl w, .inl n] b v (some (.inl (cl_row v s w n).1)) b ((cl_row v s w n).2) := EvV.of (w_cl_row hX hp_a hp_b hp_c (fun _ => ⟨rfl, rfl, rfl⟩))

theorem i_cl_row {v : VS} {s : Int} {w : Int} {n : Int} (hX : XI v) (hp_a : R32 s) (hp_b : R32 w) (hp_c : R32 n) : XI ((cl_row v s w n).2) := by
  have q : WV (0, fun _ => 0, none) (0 + 1 + 1) 192 0 [some (.inr (.inr (some 0))), some (.inl s), some (.inl w), some (.inl n)] [] 1 v (fun _ _ _ => XI ((cl_row v s w n).2)) := w_cl_row (X := (0, fun _ => 0, none)) (d := 0) (b := 1) hX hp_a hp_b hp_c (fun q => q)
  obtain ⟨_, _, _, _, _, _, _, q⟩ := q
  exact q

theorem o_cl_row {rk : Nat} {v : VS} {s : Int} {w : Int} {n : Int} (hk : (rk < 107 ∨ 114 < rk)) : (cl_row v s w n).2 rk = v rk := by
  unfold cl_row
  by_cases hc_ : 0 ≤ s ∧ s < 4
  · rw [if_pos hc_]
    by_cases hc_ : w < 0
    · rw [if_pos hc_]
      all_goals (show v rk = _)
      all_goals rfl
    · rw [if_neg hc_]
      by_cases hc_ : 3 < w
      · rw [if_pos hc_]
        all_goals (show v rk = _)
        all_goals rfl
      · rw [if_neg hc_]
        by_cases hc_ : 60 < n
        · rw [if_pos hc_]
          all_goals (show v rk = _)
          all_goals rfl
        · rw [if_neg hc_]
          by_cases hc_ : n < 0
          · rw [if_pos hc_]
            all_goals (show v rk = _)
            all_goals rfl
          · rw [if_neg hc_]
            all_goals (show (cl_lay v ((s).toNat) w n) rk = _)
            all_goals (rw [o_cl_lay (by omega)])
  · rw [if_neg hc_]
    all_goals (show v rk = _)
    all_goals rfl

def cl_write (v : VS) (s : Int) (i : Int) (y : Int) : Int × VS :=
  (if 0 ≤ s ∧ s < 4 then (if (v (107 + 2 * (s).toNat) 0) = 0 then ((-6), v) else (if i < 0 then ((-7), v) else (if i < (v (107 + 2 * (s).toNat) 2) then (0, (v2 v (108 + 2 * (s).toNat) ((i).toNat) (cl_narrow v ((s).toNat) y))) else ((-7), v)))) else ((-2), v))
theorem w_cl_write {X : PX} {d b : Nat} {v : VS} {s : Int} {i : Int} {y : Int} (hX : XI v) (hp_a : R32 s) (hp_b : R32 i) (hp_c : R64 y) {Q : Option PV → Nat → VS → Prop} (hQ : XI (cl_write v s i y).2 → Q (some (.inl (cl_write v s i y).1)) b (cl_write v s i y).2) : WV X (d + 1) 195 0 [some (.inr (.inr (some 0))), some (.inl s), some (.inl i), some (.inr (.inl y)), none, none] [] b v Q := by
  rw [cl_write] at hQ
  refine r_ex 1 (pc' := 1) (lo' := [some (.inr (.inr (some 0))), some (.inl s), some (.inl i), some (.inr (.inl y)), none, none]) (st' := [.inl s]) rfl ?_
  have hp_1 : R32 s := (by first | assumption | omega | (unfold R32 at *; omega) | (unfold R64 at *; omega) | (simp only [R32, R64] at *; omega))
  refine r_callb (P := 0 ≤ s ∧ s < 4) (m := 163) (args := [.inl s]) (n' := 195) (pc' := 4) (lo' := [some (.inr (.inr (some 0))), some (.inl s), some (.inl i), some (.inr (.inl y)), none, none]) (st' := []) (I := .invokestatic 163) (pc0 := 1) (len := 3) rfl rfl rfl (e_cl_isSlot hX hp_1) (fun h_1 => ?_) (fun h_1 => ?_)
  · show WV _ _ _ 4 _ _ _ _ _
    rw [if_pos h_1] at hQ
    refine r_ex 4 (pc' := 15) (lo' := [some (.inr (.inr (some 0))), some (.inl s), some (.inl i), some (.inr (.inl y)), none, none]) (st' := [.inl s, .inr (.inr (some 106))]) rfl ?_
    refine r_aald2 (z := some (107 + 2 * (s).toNat)) (pc' := 16) (pc0 := 15) (len := 1) rfl (s_106 _) (Or.inl rfl) (by first | assumption | omega | (unfold R32 at *; omega) | (unfold R64 at *; omega) | (simp only [R32, R64] at *; omega)) (by decide) (slot_at (by first | assumption | omega)) rfl ?_
    refine r_ex 2 (pc' := 20) (lo' := [some (.inr (.inr (some 0))), some (.inl s), some (.inl i), some (.inr (.inl y)), none, some (.inr (.inr (some (107 + 2 * (s).toNat))))]) (st' := [.inr (.inr (some (107 + 2 * (s).toNat)))]) rfl ?_
    refine r_geti2 (x := (v (107 + 2 * (s).toNat) 0)) (j := 0) (pc' := 23) (pc0 := 20) (len := 3) rfl (s_slot _ (by first | assumption | omega)) rfl rfl rfl (by decide) rfl rfl ?_
    have hb_2 : 0 ≤ (v (107 + 2 * (s).toNat) 0) ∧ (v (107 + 2 * (s).toNat) 0) ≤ 1 := XI_slot0 hX (by first | assumption | omega)
    refine n_if_ne (pc0 := 23) (len := 3) (t := 29) rfl (by first | assumption | omega | (unfold R32 at *; omega) | (unfold R64 at *; omega) | (simp only [R32, R64] at *; omega)) (fun h_23 => ?_) (fun h_23 => ?_)
    · show WV _ _ _ 29 _ _ _ _ _
      rw [if_neg h_23] at hQ
      refine r_ex 1 (pc' := 30) (lo' := [some (.inr (.inr (some 0))), some (.inl s), some (.inl i), some (.inr (.inl y)), none, some (.inr (.inr (some (107 + 2 * (s).toNat))))]) (st' := [.inl i]) rfl ?_
      refine n_if_lt (pc0 := 30) (len := 3) (t := 42) rfl (by first | assumption | omega | (unfold R32 at *; omega) | (unfold R64 at *; omega) | (simp only [R32, R64] at *; omega)) (fun h_30 => ?_) (fun h_30 => ?_)
      · show WV _ _ _ 42 _ _ _ _ _
        rw [if_pos h_30] at hQ
        refine r_ex 1 (pc' := 44) (lo' := [some (.inr (.inr (some 0))), some (.inl s), some (.inl i), some (.inr (.inl y)), none, some (.inr (.inr (some (107 + 2 * (s).toNat))))]) (st' := [.inl (-7)]) rfl ?_
        refine r_ret (rr := some (.inl (-7))) (I := .ireturn) (pc0 := 44) (len := 1) rfl rfl ?_
        exact hQ hX 
      · show WV _ _ _ 33 _ _ _ _ _
        rw [if_neg h_30] at hQ
        refine r_ex 2 (pc' := 36) (lo' := [some (.inr (.inr (some 0))), some (.inl s), some (.inl i), some (.inr (.inl y)), none, some (.inr (.inr (some (107 + 2 * (s).toNat))))]) (st' := [.inr (.inr (some (107 + 2 * (s).toNat))), .inl i]) rfl ?_
        refine r_geti2 (x := (v (107 + 2 * (s).toNat) 2)) (j := 2) (pc' := 39) (pc0 := 36) (len := 3) rfl (s_slot _ (by first | assumption | omega)) rfl rfl rfl (by decide) rfl rfl ?_
        have hb_3 : 0 ≤ (v (107 + 2 * (s).toNat) 2) ∧ (v (107 + 2 * (s).toNat) 2) ≤ 60 := XI_slot2 hX (by first | assumption | omega)
        refine n_ic_lt (pc0 := 39) (len := 3) (t := 45) rfl (by first | assumption | omega | (unfold R32 at *; omega) | (unfold R64 at *; omega) | (simp only [R32, R64] at *; omega)) (by first | assumption | omega | (unfold R32 at *; omega) | (unfold R64 at *; omega) | (simp only [R32, R64] at *; omega)) (fun h_39 => ?_) (fun h_39 => ?_)
        · show WV _ _ _ 45 _ _ _ _ _
          rw [if_pos h_39] at hQ
          refine r_ex 1 (pc' := 47) (lo' := [some (.inr (.inr (some 0))), some (.inl s), some (.inl i), some (.inr (.inl y)), none, some (.inr (.inr (some (107 + 2 * (s).toNat))))]) (st' := [.inr (.inr (some (107 + 2 * (s).toNat)))]) rfl ?_
          refine r_getr2 (z := some (108 + 2 * (s).toNat)) (pc' := 50) (pc0 := 47) (len := 3) rfl (s_slot _ (by first | assumption | omega)) rfl rfl rfl ?_
          refine r_ex 3 (pc' := 54) (lo' := [some (.inr (.inr (some 0))), some (.inl s), some (.inl i), some (.inr (.inl y)), none, some (.inr (.inr (some (107 + 2 * (s).toNat))))]) (st' := [.inr (.inl y), .inr (.inr (some (107 + 2 * (s).toNat))), .inl i, .inr (.inr (some (108 + 2 * (s).toNat)))]) rfl ?_
          have hp_4 : ((s).toNat) < 4 := (by first | assumption | omega | (unfold R32 at *; omega) | (unfold R64 at *; omega) | (simp only [R32, R64] at *; omega))
          have hp_5 : R64 y := (by first | assumption | omega | (unfold R32 at *; omega) | (unfold R64 at *; omega) | (simp only [R32, R64] at *; omega))
          refine r_call (m := 196) (args := [.inr (.inr (some (107 + 2 * (s).toNat))), .inr (.inl y)]) (n' := 195) (pc' := 57) (lo' := [some (.inr (.inr (some 0))), some (.inl s), some (.inl i), some (.inr (.inl y)), none, some (.inr (.inr (some (107 + 2 * (s).toNat))))]) (st' := [.inl i, .inr (.inr (some (108 + 2 * (s).toNat)))]) (I := .invokevirtual 196) (pc0 := 54) (len := 3) rfl (cs_slot (by first | assumption | omega) rfl rfl rfl (Nat.le_of_ble_eq_true rfl) (Nat.le_of_ble_eq_true rfl) rfl) rfl (e_cl_narrow hX hp_4 hp_5) ?_
          show WV _ _ _ 57 _ [.inr (.inl (cl_narrow v ((s).toNat) y)), .inl i, .inr (.inr (some (108 + 2 * (s).toNat)))] _ _ _
          have hb_6 := n_cl_narrow (v := v) (q := (s).toNat) (y := y) hX hp_4 hp_5
          refine r_last2 (pc' := 58) (pc0 := 57) (len := 1) rfl (s_slotr _ (by first | assumption | omega)) (by first | assumption | omega | (unfold R32 at *; omega) | (unfold R64 at *; omega) | (simp only [R32, R64] at *; omega)) (by decide) rfl ?_
          have hX_7 : XI (v2 v (108 + 2 * (s).toNat) ((i).toNat) (cl_narrow v ((s).toNat) y)) := XI_slotpr hX (by first | assumption | omega) (by first | assumption | omega | (unfold R32 at *; omega) | (unfold R64 at *; omega) | (simp only [R32, R64] at *; omega))
          refine r_ex 1 (pc' := 59) (lo' := [some (.inr (.inr (some 0))), some (.inl s), some (.inl i), some (.inr (.inl y)), none, some (.inr (.inr (some (107 + 2 * (s).toNat))))]) (st' := [.inl 0]) rfl ?_
          refine r_ret (rr := some (.inl 0)) (I := .ireturn) (pc0 := 59) (len := 1) rfl rfl ?_
          exact hQ hX_7 
        · show WV _ _ _ 42 _ _ _ _ _
          rw [if_neg h_39] at hQ
          refine r_ex 1 (pc' := 44) (lo' := [some (.inr (.inr (some 0))), some (.inl s), some (.inl i), some (.inr (.inl y)), none, some (.inr (.inr (some (107 + 2 * (s).toNat))))]) (st' := [.inl (-7)]) rfl ?_
          refine r_ret (rr := some (.inl (-7))) (I := .ireturn) (pc0 := 44) (len := 1) rfl rfl ?_
          exact hQ hX 
    · show WV _ _ _ 26 _ _ _ _ _
      rw [if_pos h_23] at hQ
      refine r_ex 1 (pc' := 28) (lo' := [some (.inr (.inr (some 0))), some (.inl s), some (.inl i), some (.inr (.inl y)), none, some (.inr (.inr (some (107 + 2 * (s).toNat))))]) (st' := [.inl (-6)]) rfl ?_
      refine r_ret (rr := some (.inl (-6))) (I := .ireturn) (pc0 := 28) (len := 1) rfl rfl ?_
      exact hQ hX 
  · show WV _ _ _ 4 _ _ _ _ _
    rw [if_neg h_1] at hQ
    refine r_ex 2 (pc' := 9) (lo' := [some (.inr (.inr (some 0))), some (.inl s), some (.inl i), some (.inr (.inl y)), none, none]) (st' := [.inl (-2)]) rfl ?_
    refine r_ret (rr := some (.inl (-2))) (I := .ireturn) (pc0 := 9) (len := 1) rfl rfl ?_
    exact hQ hX 

theorem e_cl_write {X : PX} {d b : Nat} {v : VS} {s : Int} {i : Int} {y : Int} (hX : XI v) (hp_a : R32 s) (hp_b : R32 i) (hp_c : R64 y) : EvV X (d + 1) 195 [.inr (.inr (some 0)), .inl s, .inl i, .inr (.inl y)] b v (some (.inl (cl_write v s i y).1)) b ((cl_write v s i y).2) := EvV.of (w_cl_write hX hp_a hp_b hp_c (fun _ => ⟨rfl, rfl, rfl⟩))

theorem i_cl_write {v : VS} {s : Int} {i : Int} {y : Int} (hX : XI v) (hp_a : R32 s) (hp_b : R32 i) (hp_c : R64 y) : XI ((cl_write v s i y).2) := by
  have q : WV (0, fun _ => 0, none) (0 + 1) 195 0 [some (.inr (.inr (some 0))), some (.inl s), some (.inl i), some (.inr (.inl y)), none, none] [] 1 v (fun _ _ _ => XI ((cl_write v s i y).2)) := w_cl_write (X := (0, fun _ => 0, none)) (d := 0) (b := 1) hX hp_a hp_b hp_c (fun q => q)
  obtain ⟨_, _, _, _, _, _, _, q⟩ := q
  exact q

theorem o_cl_write {rk : Nat} {v : VS} {s : Int} {i : Int} {y : Int} (hk : (rk < 107 ∨ 114 < rk)) : (cl_write v s i y).2 rk = v rk := by
  unfold cl_write
  by_cases hc_ : 0 ≤ s ∧ s < 4
  · rw [if_pos hc_]
    by_cases hc_ : (v (107 + 2 * (s).toNat) 0) = 0
    · rw [if_pos hc_]
      all_goals (show v rk = _)
      all_goals rfl
    · rw [if_neg hc_]
      by_cases hc_ : i < 0
      · rw [if_pos hc_]
        all_goals (show v rk = _)
        all_goals rfl
      · rw [if_neg hc_]
        by_cases hc_ : i < (v (107 + 2 * (s).toNat) 2)
        · rw [if_pos hc_]
          all_goals (show (v2 v (108 + 2 * (s).toNat) ((i).toNat) (cl_narrow v ((s).toNat) y)) rk = _)
          all_goals (rw [v2_row (by omega)])
        · rw [if_neg hc_]
          all_goals (show v rk = _)
          all_goals rfl
  · rw [if_neg hc_]
    all_goals (show v rk = _)
    all_goals rfl

def cl_paste (v : VS) (s : Int) (i : Int) (o : Int) (k : Int) (n : Int) : Int × VS :=
  (if 0 ≤ s ∧ s < 4 then (if 0 ≤ o ∧ o < 4 then (if (v (107 + 2 * (s).toNat) 0) = 0 then ((-6), v) else (if (v (107 + 2 * (o).toNat) 0) = 0 then ((-6), v) else (if (v (107 + 2 * (s).toNat) 1) = (v (107 + 2 * (o).toNat) 1) then (if 0 ≤ i ∧ 0 ≤ n ∧ i + n ≤ v (107 + 2 * ((s).toNat)) 2 then (if 0 ≤ k ∧ 0 ≤ n ∧ k + n ≤ v (107 + 2 * ((o).toNat)) 2 then (0, (vcp v (108 + 2 * (s).toNat) (108 + 2 * (o).toNat) (i).toNat (k).toNat (n).toNat)) else ((-7), v)) else ((-7), v)) else ((-8), v)))) else ((-2), v)) else ((-2), v))
theorem w_cl_paste {X : PX} {d b : Nat} {v : VS} {s : Int} {i : Int} {o : Int} {k : Int} {n : Int} (hX : XI v) (hp_a : R32 s) (hp_b : R32 i) (hp_c : R32 o) (hp_d : R32 k) (hp_e : R32 n) {Q : Option PV → Nat → VS → Prop} (hQ : XI (cl_paste v s i o k n).2 → Q (some (.inl (cl_paste v s i o k n).1)) b (cl_paste v s i o k n).2) : WV X (d + 1) 197 0 [some (.inr (.inr (some 0))), some (.inl s), some (.inl i), some (.inl o), some (.inl k), some (.inl n), none, none] [] b v Q := by
  rw [cl_paste] at hQ
  refine r_ex 1 (pc' := 1) (lo' := [some (.inr (.inr (some 0))), some (.inl s), some (.inl i), some (.inl o), some (.inl k), some (.inl n), none, none]) (st' := [.inl s]) rfl ?_
  have hp_1 : R32 s := (by first | assumption | omega | (unfold R32 at *; omega) | (unfold R64 at *; omega) | (simp only [R32, R64] at *; omega))
  refine r_callb (P := 0 ≤ s ∧ s < 4) (m := 163) (args := [.inl s]) (n' := 197) (pc' := 4) (lo' := [some (.inr (.inr (some 0))), some (.inl s), some (.inl i), some (.inl o), some (.inl k), some (.inl n), none, none]) (st' := []) (I := .invokestatic 163) (pc0 := 1) (len := 3) rfl rfl rfl (e_cl_isSlot hX hp_1) (fun h_1 => ?_) (fun h_1 => ?_)
  · show WV _ _ _ 4 _ _ _ _ _
    rw [if_pos h_1] at hQ
    refine r_ex 2 (pc' := 8) (lo' := [some (.inr (.inr (some 0))), some (.inl s), some (.inl i), some (.inl o), some (.inl k), some (.inl n), none, none]) (st' := [.inl o]) rfl ?_
    have hp_2 : R32 o := (by first | assumption | omega | (unfold R32 at *; omega) | (unfold R64 at *; omega) | (simp only [R32, R64] at *; omega))
    refine r_callb (P := 0 ≤ o ∧ o < 4) (m := 163) (args := [.inl o]) (n' := 197) (pc' := 11) (lo' := [some (.inr (.inr (some 0))), some (.inl s), some (.inl i), some (.inl o), some (.inl k), some (.inl n), none, none]) (st' := []) (I := .invokestatic 163) (pc0 := 8) (len := 3) rfl rfl rfl (e_cl_isSlot hX hp_2) (fun h_8 => ?_) (fun h_8 => ?_)
    · show WV _ _ _ 11 _ _ _ _ _
      rw [if_pos h_8] at hQ
      refine r_ex 4 (pc' := 22) (lo' := [some (.inr (.inr (some 0))), some (.inl s), some (.inl i), some (.inl o), some (.inl k), some (.inl n), none, none]) (st' := [.inl s, .inr (.inr (some 106))]) rfl ?_
      refine r_aald2 (z := some (107 + 2 * (s).toNat)) (pc' := 23) (pc0 := 22) (len := 1) rfl (s_106 _) (Or.inl rfl) (by first | assumption | omega | (unfold R32 at *; omega) | (unfold R64 at *; omega) | (simp only [R32, R64] at *; omega)) (by decide) (slot_at (by first | assumption | omega)) rfl ?_
      refine r_ex 4 (pc' := 30) (lo' := [some (.inr (.inr (some 0))), some (.inl s), some (.inl i), some (.inl o), some (.inl k), some (.inl n), some (.inr (.inr (some (107 + 2 * (s).toNat)))), none]) (st' := [.inl o, .inr (.inr (some 106))]) rfl ?_
      refine r_aald2 (z := some (107 + 2 * (o).toNat)) (pc' := 31) (pc0 := 30) (len := 1) rfl (s_106 _) (Or.inl rfl) (by first | assumption | omega | (unfold R32 at *; omega) | (unfold R64 at *; omega) | (simp only [R32, R64] at *; omega)) (by decide) (slot_at (by first | assumption | omega)) rfl ?_
      refine r_ex 2 (pc' := 35) (lo' := [some (.inr (.inr (some 0))), some (.inl s), some (.inl i), some (.inl o), some (.inl k), some (.inl n), some (.inr (.inr (some (107 + 2 * (s).toNat)))), some (.inr (.inr (some (107 + 2 * (o).toNat))))]) (st' := [.inr (.inr (some (107 + 2 * (s).toNat)))]) rfl ?_
      refine r_geti2 (x := (v (107 + 2 * (s).toNat) 0)) (j := 0) (pc' := 38) (pc0 := 35) (len := 3) rfl (s_slot _ (by first | assumption | omega)) rfl rfl rfl (by decide) rfl rfl ?_
      have hb_3 : 0 ≤ (v (107 + 2 * (s).toNat) 0) ∧ (v (107 + 2 * (s).toNat) 0) ≤ 1 := XI_slot0 hX (by first | assumption | omega)
      refine n_if_eq (pc0 := 38) (len := 3) (t := 49) rfl (by first | assumption | omega | (unfold R32 at *; omega) | (unfold R64 at *; omega) | (simp only [R32, R64] at *; omega)) (fun h_38 => ?_) (fun h_38 => ?_)
      · show WV _ _ _ 49 _ _ _ _ _
        rw [if_pos h_38] at hQ
        refine r_ex 1 (pc' := 51) (lo' := [some (.inr (.inr (some 0))), some (.inl s), some (.inl i), some (.inl o), some (.inl k), some (.inl n), some (.inr (.inr (some (107 + 2 * (s).toNat)))), some (.inr (.inr (some (107 + 2 * (o).toNat))))]) (st' := [.inl (-6)]) rfl ?_
        refine r_ret (rr := some (.inl (-6))) (I := .ireturn) (pc0 := 51) (len := 1) rfl rfl ?_
        exact hQ hX 
      · show WV _ _ _ 41 _ _ _ _ _
        rw [if_neg h_38] at hQ
        refine r_ex 1 (pc' := 43) (lo' := [some (.inr (.inr (some 0))), some (.inl s), some (.inl i), some (.inl o), some (.inl k), some (.inl n), some (.inr (.inr (some (107 + 2 * (s).toNat)))), some (.inr (.inr (some (107 + 2 * (o).toNat))))]) (st' := [.inr (.inr (some (107 + 2 * (o).toNat)))]) rfl ?_
        refine r_geti2 (x := (v (107 + 2 * (o).toNat) 0)) (j := 0) (pc' := 46) (pc0 := 43) (len := 3) rfl (s_slot _ (by first | assumption | omega)) rfl rfl rfl (by decide) rfl rfl ?_
        have hb_4 : 0 ≤ (v (107 + 2 * (o).toNat) 0) ∧ (v (107 + 2 * (o).toNat) 0) ≤ 1 := XI_slot0 hX (by first | assumption | omega)
        refine n_if_ne (pc0 := 46) (len := 3) (t := 52) rfl (by first | assumption | omega | (unfold R32 at *; omega) | (unfold R64 at *; omega) | (simp only [R32, R64] at *; omega)) (fun h_46 => ?_) (fun h_46 => ?_)
        · show WV _ _ _ 52 _ _ _ _ _
          rw [if_neg h_46] at hQ
          refine r_ex 1 (pc' := 54) (lo' := [some (.inr (.inr (some 0))), some (.inl s), some (.inl i), some (.inl o), some (.inl k), some (.inl n), some (.inr (.inr (some (107 + 2 * (s).toNat)))), some (.inr (.inr (some (107 + 2 * (o).toNat))))]) (st' := [.inr (.inr (some (107 + 2 * (s).toNat)))]) rfl ?_
          refine r_geti2 (x := (v (107 + 2 * (s).toNat) 1)) (j := 1) (pc' := 57) (pc0 := 54) (len := 3) rfl (s_slot _ (by first | assumption | omega)) rfl rfl rfl (by decide) rfl rfl ?_
          have hb_5 : 0 ≤ (v (107 + 2 * (s).toNat) 1) ∧ (v (107 + 2 * (s).toNat) 1) ≤ 3 := XI_slot1 hX (by first | assumption | omega)
          refine r_ex 1 (pc' := 59) (lo' := [some (.inr (.inr (some 0))), some (.inl s), some (.inl i), some (.inl o), some (.inl k), some (.inl n), some (.inr (.inr (some (107 + 2 * (s).toNat)))), some (.inr (.inr (some (107 + 2 * (o).toNat))))]) (st' := [.inr (.inr (some (107 + 2 * (o).toNat))), .inl (v (107 + 2 * (s).toNat) 1)]) rfl ?_
          refine r_geti2 (x := (v (107 + 2 * (o).toNat) 1)) (j := 1) (pc' := 62) (pc0 := 59) (len := 3) rfl (s_slot _ (by first | assumption | omega)) rfl rfl rfl (by decide) rfl rfl ?_
          have hb_6 : 0 ≤ (v (107 + 2 * (o).toNat) 1) ∧ (v (107 + 2 * (o).toNat) 1) ≤ 3 := XI_slot1 hX (by first | assumption | omega)
          refine n_ic_eq (pc0 := 62) (len := 3) (t := 68) rfl (by first | assumption | omega | (unfold R32 at *; omega) | (unfold R64 at *; omega) | (simp only [R32, R64] at *; omega)) (by first | assumption | omega | (unfold R32 at *; omega) | (unfold R64 at *; omega) | (simp only [R32, R64] at *; omega)) (fun h_62 => ?_) (fun h_62 => ?_)
          · show WV _ _ _ 68 _ _ _ _ _
            rw [if_pos h_62] at hQ
            refine r_ex 3 (pc' := 73) (lo' := [some (.inr (.inr (some 0))), some (.inl s), some (.inl i), some (.inl o), some (.inl k), some (.inl n), some (.inr (.inr (some (107 + 2 * (s).toNat)))), some (.inr (.inr (some (107 + 2 * (o).toNat))))]) (st' := [.inl n, .inl i, .inr (.inr (some (107 + 2 * (s).toNat)))]) rfl ?_
            have hp_7 : ((s).toNat) < 4 := (by first | assumption | omega | (unfold R32 at *; omega) | (unfold R64 at *; omega) | (simp only [R32, R64] at *; omega))
            have hp_8 : R32 i := (by first | assumption | omega | (unfold R32 at *; omega) | (unfold R64 at *; omega) | (simp only [R32, R64] at *; omega))
            have hp_9 : R32 n := (by first | assumption | omega | (unfold R32 at *; omega) | (unfold R64 at *; omega) | (simp only [R32, R64] at *; omega))
            refine r_callb (P := 0 ≤ i ∧ 0 ≤ n ∧ i + n ≤ v (107 + 2 * ((s).toNat)) 2) (m := 198) (args := [.inr (.inr (some (107 + 2 * (s).toNat))), .inl i, .inl n]) (n' := 197) (pc' := 76) (lo' := [some (.inr (.inr (some 0))), some (.inl s), some (.inl i), some (.inl o), some (.inl k), some (.inl n), some (.inr (.inr (some (107 + 2 * (s).toNat)))), some (.inr (.inr (some (107 + 2 * (o).toNat))))]) (st' := []) (I := .invokevirtual 198) (pc0 := 73) (len := 3) rfl (cs_slot (by first | assumption | omega) rfl rfl rfl (Nat.le_of_ble_eq_true rfl) (Nat.le_of_ble_eq_true rfl) rfl) rfl (e_cl_holds hX hp_7 hp_8 hp_9) (fun h_73 => ?_) (fun h_73 => ?_)
            · show WV _ _ _ 76 _ _ _ _ _
              rw [if_pos h_73] at hQ
              refine r_ex 4 (pc' := 85) (lo' := [some (.inr (.inr (some 0))), some (.inl s), some (.inl i), some (.inl o), some (.inl k), some (.inl n), some (.inr (.inr (some (107 + 2 * (s).toNat)))), some (.inr (.inr (some (107 + 2 * (o).toNat))))]) (st' := [.inl n, .inl k, .inr (.inr (some (107 + 2 * (o).toNat)))]) rfl ?_
              have hp_10 : ((o).toNat) < 4 := (by first | assumption | omega | (unfold R32 at *; omega) | (unfold R64 at *; omega) | (simp only [R32, R64] at *; omega))
              have hp_11 : R32 k := (by first | assumption | omega | (unfold R32 at *; omega) | (unfold R64 at *; omega) | (simp only [R32, R64] at *; omega))
              have hp_12 : R32 n := (by first | assumption | omega | (unfold R32 at *; omega) | (unfold R64 at *; omega) | (simp only [R32, R64] at *; omega))
              refine r_callb (P := 0 ≤ k ∧ 0 ≤ n ∧ k + n ≤ v (107 + 2 * ((o).toNat)) 2) (m := 198) (args := [.inr (.inr (some (107 + 2 * (o).toNat))), .inl k, .inl n]) (n' := 197) (pc' := 88) (lo' := [some (.inr (.inr (some 0))), some (.inl s), some (.inl i), some (.inl o), some (.inl k), some (.inl n), some (.inr (.inr (some (107 + 2 * (s).toNat)))), some (.inr (.inr (some (107 + 2 * (o).toNat))))]) (st' := []) (I := .invokevirtual 198) (pc0 := 85) (len := 3) rfl (cs_slot (by first | assumption | omega) rfl rfl rfl (Nat.le_of_ble_eq_true rfl) (Nat.le_of_ble_eq_true rfl) rfl) rfl (e_cl_holds hX hp_10 hp_11 hp_12) (fun h_85 => ?_) (fun h_85 => ?_)
              · show WV _ _ _ 88 _ _ _ _ _
                rw [if_pos h_85] at hQ
                have hz1 := XI_slot2 hX (q := s.toNat) (by omega)
                have hz2 := XI_slot2 hX (q := o.toNat) (by omega)
                refine r_ex 2 (pc' := 96) (lo' := [some (.inr (.inr (some 0))), some (.inl s), some (.inl i), some (.inl o), some (.inl k), some (.inl n), some (.inr (.inr (some (107 + 2 * (s).toNat)))), some (.inr (.inr (some (107 + 2 * (o).toNat))))]) (st' := [.inr (.inr (some (107 + 2 * (s).toNat)))]) rfl ?_
                refine r_getr2 (z := some (108 + 2 * (s).toNat)) (pc' := 99) (pc0 := 96) (len := 3) rfl (s_slot _ (by first | assumption | omega)) rfl rfl rfl ?_
                refine r_ex 2 (pc' := 102) (lo' := [some (.inr (.inr (some 0))), some (.inl s), some (.inl i), some (.inl o), some (.inl k), some (.inl n), some (.inr (.inr (some (107 + 2 * (s).toNat)))), some (.inr (.inr (some (107 + 2 * (o).toNat))))]) (st' := [.inr (.inr (some (107 + 2 * (o).toNat))), .inl i, .inr (.inr (some (108 + 2 * (s).toNat)))]) rfl ?_
                refine r_getr2 (z := some (108 + 2 * (o).toNat)) (pc' := 105) (pc0 := 102) (len := 3) rfl (s_slot _ (by first | assumption | omega)) rfl rfl rfl ?_
                refine r_ex 2 (pc' := 109) (lo' := [some (.inr (.inr (some 0))), some (.inl s), some (.inl i), some (.inl o), some (.inl k), some (.inl n), some (.inr (.inr (some (107 + 2 * (s).toNat)))), some (.inr (.inr (some (107 + 2 * (o).toNat))))]) (st' := [.inl n, .inl k, .inr (.inr (some (108 + 2 * (o).toNat))), .inl i, .inr (.inr (some (108 + 2 * (s).toNat)))]) rfl ?_
                refine r_copy2 (pc' := 112) (pc0 := 109) (len := 3) rfl (s_slotr _ (by first | assumption | omega)) (s_slotr _ (by first | assumption | omega)) (Or.inr rfl) (by omega) (by decide) (by decide) rfl ?_
                have hX_13 : XI (vcp v (108 + 2 * (s).toNat) (108 + 2 * (o).toNat) (i).toNat (k).toNat (n).toNat) := XI_slotf hX (by omega) (fun j => by unfold va_cpy; split; exact XI_slotr hX (by omega) _; exact XI_slotr hX (by omega) _)
                show WV _ _ _ 112 _ _ _ (vcp v (108 + 2 * (s).toNat) (108 + 2 * (o).toNat) (i).toNat (k).toNat (n).toNat) _
                refine r_ex 1 (pc' := 113) (lo' := [some (.inr (.inr (some 0))), some (.inl s), some (.inl i), some (.inl o), some (.inl k), some (.inl n), some (.inr (.inr (some (107 + 2 * (s).toNat)))), some (.inr (.inr (some (107 + 2 * (o).toNat))))]) (st' := [.inl 0]) rfl ?_
                refine r_ret (rr := some (.inl 0)) (I := .ireturn) (pc0 := 113) (len := 1) rfl rfl ?_
                exact hQ hX_13 
              · show WV _ _ _ 88 _ _ _ _ _
                rw [if_neg h_85] at hQ
                refine r_ex 2 (pc' := 93) (lo' := [some (.inr (.inr (some 0))), some (.inl s), some (.inl i), some (.inl o), some (.inl k), some (.inl n), some (.inr (.inr (some (107 + 2 * (s).toNat)))), some (.inr (.inr (some (107 + 2 * (o).toNat))))]) (st' := [.inl (-7)]) rfl ?_
                refine r_ret (rr := some (.inl (-7))) (I := .ireturn) (pc0 := 93) (len := 1) rfl rfl ?_
                exact hQ hX 
            · show WV _ _ _ 76 _ _ _ _ _
              rw [if_neg h_73] at hQ
              refine r_ex 2 (pc' := 93) (lo' := [some (.inr (.inr (some 0))), some (.inl s), some (.inl i), some (.inl o), some (.inl k), some (.inl n), some (.inr (.inr (some (107 + 2 * (s).toNat)))), some (.inr (.inr (some (107 + 2 * (o).toNat))))]) (st' := [.inl (-7)]) rfl ?_
              refine r_ret (rr := some (.inl (-7))) (I := .ireturn) (pc0 := 93) (len := 1) rfl rfl ?_
              exact hQ hX 
          · show WV _ _ _ 65 _ _ _ _ _
            rw [if_neg h_62] at hQ
            refine r_ex 1 (pc' := 67) (lo' := [some (.inr (.inr (some 0))), some (.inl s), some (.inl i), some (.inl o), some (.inl k), some (.inl n), some (.inr (.inr (some (107 + 2 * (s).toNat)))), some (.inr (.inr (some (107 + 2 * (o).toNat))))]) (st' := [.inl (-8)]) rfl ?_
            refine r_ret (rr := some (.inl (-8))) (I := .ireturn) (pc0 := 67) (len := 1) rfl rfl ?_
            exact hQ hX 
        · show WV _ _ _ 49 _ _ _ _ _
          rw [if_pos h_46] at hQ
          refine r_ex 1 (pc' := 51) (lo' := [some (.inr (.inr (some 0))), some (.inl s), some (.inl i), some (.inl o), some (.inl k), some (.inl n), some (.inr (.inr (some (107 + 2 * (s).toNat)))), some (.inr (.inr (some (107 + 2 * (o).toNat))))]) (st' := [.inl (-6)]) rfl ?_
          refine r_ret (rr := some (.inl (-6))) (I := .ireturn) (pc0 := 51) (len := 1) rfl rfl ?_
          exact hQ hX 
    · show WV _ _ _ 11 _ _ _ _ _
      rw [if_neg h_8] at hQ
      refine r_ex 2 (pc' := 16) (lo' := [some (.inr (.inr (some 0))), some (.inl s), some (.inl i), some (.inl o), some (.inl k), some (.inl n), none, none]) (st' := [.inl (-2)]) rfl ?_
      refine r_ret (rr := some (.inl (-2))) (I := .ireturn) (pc0 := 16) (len := 1) rfl rfl ?_
      exact hQ hX 
  · show WV _ _ _ 4 _ _ _ _ _
    rw [if_neg h_1] at hQ
    refine r_ex 2 (pc' := 16) (lo' := [some (.inr (.inr (some 0))), some (.inl s), some (.inl i), some (.inl o), some (.inl k), some (.inl n), none, none]) (st' := [.inl (-2)]) rfl ?_
    refine r_ret (rr := some (.inl (-2))) (I := .ireturn) (pc0 := 16) (len := 1) rfl rfl ?_
    exact hQ hX 

theorem e_cl_paste {X : PX} {d b : Nat} {v : VS} {s : Int} {i : Int} {o : Int} {k : Int} {n : Int} (hX : XI v) (hp_a : R32 s) (hp_b : R32 i) (hp_c : R32 o) (hp_d : R32 k) (hp_e : R32 n) : EvV X (d + 1) 197 [.inr (.inr (some 0)), .inl s, .inl i, .inl o, .inl k, .inl n] b v (some (.inl (cl_paste v s i o k n).1)) b ((cl_paste v s i o k n).2) := EvV.of (w_cl_paste hX hp_a hp_b hp_c hp_d hp_e (fun _ => ⟨rfl, rfl, rfl⟩))

theorem i_cl_paste {v : VS} {s : Int} {i : Int} {o : Int} {k : Int} {n : Int} (hX : XI v) (hp_a : R32 s) (hp_b : R32 i) (hp_c : R32 o) (hp_d : R32 k) (hp_e : R32 n) : XI ((cl_paste v s i o k n).2) := by
  have q : WV (0, fun _ => 0, none) (0 + 1) 197 0 [some (.inr (.inr (some 0))), some (.inl s), some (.inl i), some (.inl o), some (.inl k), some (.inl n), none, none] [] 1 v (fun _ _ _ => XI ((cl_paste v s i o k n).2)) := w_cl_paste (X := (0, fun _ => 0, none)) (d := 0) (b := 1) hX hp_a hp_b hp_c hp_d hp_e (fun q => q)
  obtain ⟨_, _, _, _, _, _, _, q⟩ := q
  exact q

theorem o_cl_paste {rk : Nat} {v : VS} {s : Int} {i : Int} {o : Int} {k : Int} {n : Int} (hk : (rk < 107 ∨ 114 < rk)) : (cl_paste v s i o k n).2 rk = v rk := by
  unfold cl_paste
  by_cases hc_ : 0 ≤ s ∧ s < 4
  · rw [if_pos hc_]
    by_cases hc_ : 0 ≤ o ∧ o < 4
    · rw [if_pos hc_]
      by_cases hc_ : (v (107 + 2 * (s).toNat) 0) = 0
      · rw [if_pos hc_]
        all_goals (show v rk = _)
        all_goals rfl
      · rw [if_neg hc_]
        by_cases hc_ : (v (107 + 2 * (o).toNat) 0) = 0
        · rw [if_pos hc_]
          all_goals (show v rk = _)
          all_goals rfl
        · rw [if_neg hc_]
          by_cases hc_ : (v (107 + 2 * (s).toNat) 1) = (v (107 + 2 * (o).toNat) 1)
          · rw [if_pos hc_]
            by_cases hc_ : 0 ≤ i ∧ 0 ≤ n ∧ i + n ≤ v (107 + 2 * ((s).toNat)) 2
            · rw [if_pos hc_]
              by_cases hc_ : 0 ≤ k ∧ 0 ≤ n ∧ k + n ≤ v (107 + 2 * ((o).toNat)) 2
              · rw [if_pos hc_]
                all_goals (show (vcp v (108 + 2 * (s).toNat) (108 + 2 * (o).toNat) (i).toNat (k).toNat (n).toNat) rk = _)
                all_goals (rw [vcp_row (by omega)])
              · rw [if_neg hc_]
                all_goals (show v rk = _)
                all_goals rfl
            · rw [if_neg hc_]
              all_goals (show v rk = _)
              all_goals rfl
          · rw [if_neg hc_]
            all_goals (show v rk = _)
            all_goals rfl
    · rw [if_neg hc_]
      all_goals (show v rk = _)
      all_goals rfl
  · rw [if_neg hc_]
    all_goals (show v rk = _)
    all_goals rfl
