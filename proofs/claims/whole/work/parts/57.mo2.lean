/-! the run of the reference -/
/-- the rows of what is due hang together -/
def LK (v : VS) : Prop := (∀ k : Nat, (k : Int) < v 203 43 → v 225 (5 * k + 4) = -1 ∨ ((k : Int) < v 225 (5 * k + 4) ∧ v 225 (5 * k + 4) < v 203 43)) ∧ (∀ t : Nat, t < 300 → v 226 t = -1 ∨ ((0 ≤ v 226 t ∧ v 226 t < v 203 43) ∧ (0 ≤ v 227 t ∧ v 227 t < v 203 43)))
theorem LK.of {v v' : VS} (h : LK v) (e : ∀ k, 225 ≤ k → k ≤ 227 → v' k = v k) (e2 : v' 203 43 = v 203 43) : LK v' := by
  unfold LK at *
  rw [e 225 (by omega) (by omega), e 226 (by omega) (by omega), e 227 (by omega) (by omega), e2]
  exact h
theorem LK.nx {v : VS} (h : LK v) {k : Int} (h0 : 0 ≤ k) (h1 : k < v 203 43) : v 225 (5 * k + 4).toNat = -1 ∨ (k < v 225 (5 * k + 4).toNat ∧ v 225 (5 * k + 4).toNat < v 203 43) := by
  have q := h.1 k.toNat (by omega)
  rw [show (5 * k + 4).toNat = 5 * k.toNat + 4 by omega]
  omega
theorem LK.hd {v : VS} (h : LK v) {t : Int} (h0 : 0 ≤ t ∧ t < 300) : v 226 t.toNat = -1 ∨ ((0 ≤ v 226 t.toNat ∧ v 226 t.toNat < v 203 43) ∧ (0 ≤ v 227 t.toNat ∧ v 227 t.toNat < v 203 43)) := h.2 t.toNat (by omega)
def dputA (v : VS) (c h y e : Int) : VS := v2 (v2 (v2 (v2 (v2 v 225 (5 * v 203 43).toNat c) 225 (5 * v 203 43 + 1).toNat h) 225 (5 * v 203 43 + 2).toNat y) 225 (5 * v 203 43 + 3).toNat e) 225 (5 * v 203 43 + 4).toNat (-1)
theorem dputA_row {v : VS} {c h y e : Int} {k : Nat} (hk : k ≠ 225) : dputA v c h y e k = v k := by
  unfold dputA
  rw [v2_row hk, v2_row hk, v2_row hk, v2_row hk, v2_row hk]
theorem dputA_4 {v : VS} {c h y e : Int} (hd : 0 ≤ v 203 43) (k : Nat) : dputA v c h y e 225 (5 * k + 4) = if (k : Int) = v 203 43 then -1 else v 225 (5 * k + 4) := by
  unfold dputA
  simp only [v2_eq]
  by_cases q : (k : Int) = v 203 43
  · rw [if_pos ⟨trivial, by omega⟩, if_pos q]
  · rw [if_neg (by omega), if_neg (by omega), if_neg (by omega), if_neg (by omega), if_neg (by omega), if_neg q]
theorem LK.put1 {v : VS} {c h y e t : Int} (hl : LK v) (hd : 0 ≤ v 203 43) (ht : 0 ≤ t ∧ t < 300) : LK (v2 (v2 (v2 (dputA v c h y e) 226 t.toNat (v 203 43)) 227 t.toNat (v 203 43)) 203 43 (v 203 43 + 1)) := by
  obtain ⟨h1, h2⟩ := hl
  have e43 : (v2 (v2 (v2 (dputA v c h y e) 226 t.toNat (v 203 43)) 227 t.toNat (v 203 43)) 203 43 (v 203 43 + 1)) 203 43 = v 203 43 + 1 := by rw [v2_eq, if_pos ⟨rfl, rfl⟩]
  unfold LK
  rw [e43]
  refine ⟨fun k hk => ?_, fun j hj => ?_⟩
  · rw [v2_row (by omega), v2_row (by omega), v2_row (by omega), dputA_4 hd]
    by_cases q : (k : Int) = v 203 43
    · rw [if_pos q]; exact Or.inl rfl
    · rw [if_neg q]
      have := h1 k (by omega)
      omega
  · rw [v2_row (show 226 ≠ 203 by omega), v2_row (show 226 ≠ 227 by omega), v2_row (show 227 ≠ 203 by omega), v2_eq, v2_eq, v2_row (show 227 ≠ 226 by omega), dputA_row (by omega), dputA_row (by omega)]
    have := h2 j hj
    by_cases q : j = t.toNat
    · rw [if_pos ⟨rfl, q⟩, if_pos ⟨rfl, q⟩]; omega
    · rw [if_neg (by omega), if_neg (by omega)]; omega
theorem LK.put2 {v : VS} {c h y e t : Int} (hl : LK v) (hd : 0 ≤ v 203 43) (ht : 0 ≤ t ∧ t < 300) (hh : ¬ v 226 t.toNat = -1) : LK (v2 (v2 (v2 (dputA v c h y e) 225 (5 * v 227 t.toNat + 4).toNat (v 203 43)) 227 t.toNat (v 203 43)) 203 43 (v 203 43 + 1)) := by
  have hhd := hl.hd ht
  obtain ⟨h1, h2⟩ := hl
  have e43 : (v2 (v2 (v2 (dputA v c h y e) 225 (5 * v 227 t.toNat + 4).toNat (v 203 43)) 227 t.toNat (v 203 43)) 203 43 (v 203 43 + 1)) 203 43 = v 203 43 + 1 := by rw [v2_eq, if_pos ⟨rfl, rfl⟩]
  unfold LK
  rw [e43]
  refine ⟨fun k hk => ?_, fun j hj => ?_⟩
  · rw [v2_row (show 225 ≠ 203 by omega), v2_row (show 225 ≠ 227 by omega), v2_eq, dputA_4 hd]
    by_cases q : (k : Int) = v 227 t.toNat
    · rw [if_pos ⟨rfl, by omega⟩]
      omega
    · rw [if_neg (by omega)]
      by_cases q : (k : Int) = v 203 43
      · rw [if_pos q]; exact Or.inl rfl
      · rw [if_neg q]
        have := h1 k (by omega)
        omega
  · rw [v2_row (show 226 ≠ 203 by omega), v2_row (show 226 ≠ 227 by omega), v2_row (show 226 ≠ 225 by omega), v2_row (show 227 ≠ 203 by omega), v2_eq, v2_row (show 227 ≠ 225 by omega), dputA_row (by omega), dputA_row (by omega)]
    have := h2 j hj
    by_cases q : j = t.toNat
    · rw [if_pos ⟨rfl, q⟩]; rw [q] at this ⊢; omega
    · rw [if_neg (by omega)]; omega
def HQ (v : VS) (t : Int) : Prop := ∀ j : Nat, (j : Int) < t → v 226 j = -1
def HN (v : VS) : Prop := HQ v 300
theorem HQ.nil {v : VS} : HQ v 0 := fun j hj => absurd hj (by omega)
theorem HQ.step {v : VS} {t : Int} (h : HQ v t) (h0 : 0 ≤ t) : HQ (v2 v 226 t.toNat (-1)) (t + 1) := by
  intro j hj
  rw [v2_eq]
  by_cases e : j = t.toNat
  · rw [if_pos ⟨rfl, e⟩]
  · rw [if_neg (by omega)]; exact h j (by omega)
theorem HN.of {v v' : VS} (h : HN v) (e : v' 226 = v 226) : HN v' := by
  unfold HN HQ at *
  rw [e]
  exact h
theorem LK.init {v : VS} (h0 : v 203 43 = 0) (h : HN v) : LK v := by
  refine ⟨fun k hk => absurd hk (by omega), fun t ht => Or.inl (h t (by omega))⟩

def mo_puts (v : VS) (t : Int) (c : Int) (h : Int) (y : Int) (e : Int) : VS :=
  (if (v 226 ((t).toNat)) = (-1) then (v2 (v2 (v2 (v2 (v2 (v2 (v2 (v2 v 225 (((5 * (v 203 43))).toNat) c) 225 ((((5 * (v 203 43)) + 1)).toNat) h) 225 ((((5 * (v 203 43)) + 2)).toNat) y) 225 ((((5 * (v 203 43)) + 3)).toNat) e) 225 ((((5 * (v 203 43)) + 4)).toNat) (-1)) 226 ((t).toNat) (v 203 43)) 227 ((t).toNat) (v 203 43)) 203 43 ((v 203 43) + 1)) else (v2 (v2 (v2 (v2 (v2 (v2 (v2 (v2 v 225 (((5 * (v 203 43))).toNat) c) 225 ((((5 * (v 203 43)) + 1)).toNat) h) 225 ((((5 * (v 203 43)) + 2)).toNat) y) 225 ((((5 * (v 203 43)) + 3)).toNat) e) 225 ((((5 * (v 203 43)) + 4)).toNat) (-1)) 225 ((((5 * (v 227 ((t).toNat))) + 4)).toNat) (v 203 43)) 227 ((t).toNat) (v 203 43)) 203 43 ((v 203 43) + 1)))
theorem w_mo_puts {X : PX} {d b : Nat} {v : VS} {t : Int} {c : Int} {h : Int} {y : Int} {e : Int} (hX : XI v) (hp_a : 0 ≤ t ∧ t < 300) (hp_b : 0 ≤ c ∧ c ≤ 8) (hp_c : -1 ≤ h ∧ h ≤ 3699) (hp_d : -1 ≤ y ∧ y ≤ 299) (hp_e : -1 ≤ e ∧ e ≤ 11) (hp_f : (v 203 43) < 3700) (hp_g : LK v) {Q : Option PV → Nat → VS → Prop} (hQ : XI (mo_puts v t c h y e) → (((mo_puts v t c h y e) 203 43) = (v 203 43) + 1) → (((mo_puts v t c h y e) 203 37) = (v 203 37)) → (LK (mo_puts v t c h y e)) → Q none b (mo_puts v t c h y e)) : WV X d 248 0 [some (.inr (.inr (some 203))), some (.inl t), some (.inl c), some (.inl h), some (.inl y), some (.inl e), none] [] b v Q := by
  rw [mo_puts] at hQ
  refine r_ex 9 (pc' := 15) (lo' := [some (.inr (.inr (some 203))), some (.inl t), some (.inl c), some (.inl h), some (.inl y), some (.inl e), some (.inl (5 * (v 203 43)))]) (st' := [.inl c, .inl (5 * (v 203 43)), .inr (.inr (some 225))]) rfl ?_
  have hb_1 : 0 ≤ (v 203 43) ∧ (v 203 43) ≤ 3700 := hX 203 43
  refine r_iast2 (pc' := 16) (pc0 := 15) (len := 1) rfl (s_225 _) (by first | assumption | omega | (unfold R32 at *; omega) | (unfold R64 at *; omega) | (simp only [R32, R64] at *; omega)) (by decide) rfl ?_
  have hX_2 : XI (v2 v 225 (((5 * (v 203 43))).toNat) c) := XI.put hX (show -1 ≤ c ∧ c ≤ 3699 from (by first | assumption | omega | (unfold R32 at *; omega) | (unfold R64 at *; omega) | (simp only [R32, R64] at *; omega)))
  refine r_ex 6 (pc' := 25) (lo' := [some (.inr (.inr (some 203))), some (.inl t), some (.inl c), some (.inl h), some (.inl y), some (.inl e), some (.inl (5 * (v 203 43)))]) (st' := [.inl h, .inl ((5 * (v 203 43)) + 1), .inr (.inr (some 225))]) rfl ?_
  refine r_iast2 (pc' := 26) (pc0 := 25) (len := 1) rfl (s_225 _) (by first | assumption | omega | (unfold R32 at *; omega) | (unfold R64 at *; omega) | (simp only [R32, R64] at *; omega)) (by decide) rfl ?_
  have hX_3 : XI (v2 (v2 v 225 (((5 * (v 203 43))).toNat) c) 225 ((((5 * (v 203 43)) + 1)).toNat) h) := XI.put hX_2 (show -1 ≤ h ∧ h ≤ 3699 from (by first | assumption | omega | (unfold R32 at *; omega) | (unfold R64 at *; omega) | (simp only [R32, R64] at *; omega)))
  refine r_ex 6 (pc' := 36) (lo' := [some (.inr (.inr (some 203))), some (.inl t), some (.inl c), some (.inl h), some (.inl y), some (.inl e), some (.inl (5 * (v 203 43)))]) (st' := [.inl y, .inl ((5 * (v 203 43)) + 2), .inr (.inr (some 225))]) rfl ?_
  refine r_iast2 (pc' := 37) (pc0 := 36) (len := 1) rfl (s_225 _) (by first | assumption | omega | (unfold R32 at *; omega) | (unfold R64 at *; omega) | (simp only [R32, R64] at *; omega)) (by decide) rfl ?_
  have hX_4 : XI (v2 (v2 (v2 v 225 (((5 * (v 203 43))).toNat) c) 225 ((((5 * (v 203 43)) + 1)).toNat) h) 225 ((((5 * (v 203 43)) + 2)).toNat) y) := XI.put hX_3 (show -1 ≤ y ∧ y ≤ 3699 from (by first | assumption | omega | (unfold R32 at *; omega) | (unfold R64 at *; omega) | (simp only [R32, R64] at *; omega)))
  refine r_ex 6 (pc' := 47) (lo' := [some (.inr (.inr (some 203))), some (.inl t), some (.inl c), some (.inl h), some (.inl y), some (.inl e), some (.inl (5 * (v 203 43)))]) (st' := [.inl e, .inl ((5 * (v 203 43)) + 3), .inr (.inr (some 225))]) rfl ?_
  refine r_iast2 (pc' := 48) (pc0 := 47) (len := 1) rfl (s_225 _) (by first | assumption | omega | (unfold R32 at *; omega) | (unfold R64 at *; omega) | (simp only [R32, R64] at *; omega)) (by decide) rfl ?_
  have hX_5 : XI (v2 (v2 (v2 (v2 v 225 (((5 * (v 203 43))).toNat) c) 225 ((((5 * (v 203 43)) + 1)).toNat) h) 225 ((((5 * (v 203 43)) + 2)).toNat) y) 225 ((((5 * (v 203 43)) + 3)).toNat) e) := XI.put hX_4 (show -1 ≤ e ∧ e ≤ 3699 from (by first | assumption | omega | (unfold R32 at *; omega) | (unfold R64 at *; omega) | (simp only [R32, R64] at *; omega)))
  refine r_ex 6 (pc' := 57) (lo' := [some (.inr (.inr (some 203))), some (.inl t), some (.inl c), some (.inl h), some (.inl y), some (.inl e), some (.inl (5 * (v 203 43)))]) (st' := [.inl (-1), .inl ((5 * (v 203 43)) + 4), .inr (.inr (some 225))]) rfl ?_
  refine r_iast2 (pc' := 58) (pc0 := 57) (len := 1) rfl (s_225 _) (by first | assumption | omega | (unfold R32 at *; omega) | (unfold R64 at *; omega) | (simp only [R32, R64] at *; omega)) (by decide) rfl ?_
  have hX_6 : XI (v2 (v2 (v2 (v2 (v2 v 225 (((5 * (v 203 43))).toNat) c) 225 ((((5 * (v 203 43)) + 1)).toNat) h) 225 ((((5 * (v 203 43)) + 2)).toNat) y) 225 ((((5 * (v 203 43)) + 3)).toNat) e) 225 ((((5 * (v 203 43)) + 4)).toNat) (-1)) := XI.put hX_5 (show -1 ≤ (-1) ∧ (-1) ≤ 3699 from (by first | assumption | omega | (unfold R32 at *; omega) | (unfold R64 at *; omega) | (simp only [R32, R64] at *; omega)))
  refine r_ex 3 (pc' := 63) (lo' := [some (.inr (.inr (some 203))), some (.inl t), some (.inl c), some (.inl h), some (.inl y), some (.inl e), some (.inl (5 * (v 203 43)))]) (st' := [.inl t, .inr (.inr (some 226))]) rfl ?_
  refine r_iald2 (j := 0) (x := (v 226 ((t).toNat))) (pc' := 64) (pc0 := 63) (len := 1) rfl (s_226 _) (by first | assumption | omega | (unfold R32 at *; omega) | (unfold R64 at *; omega) | (simp only [R32, R64] at *; omega)) (by decide) rfl rfl ?_
  have hb_7 : -1 ≤ (v 226 ((t).toNat)) ∧ (v 226 ((t).toNat)) ≤ 3699 := hX_6 226 ((t).toNat)
  refine r_ex 1 (pc' := 65) (lo' := [some (.inr (.inr (some 203))), some (.inl t), some (.inl c), some (.inl h), some (.inl y), some (.inl e), some (.inl (5 * (v 203 43)))]) (st' := [.inl (-1), .inl (v 226 ((t).toNat))]) rfl ?_
  refine n_ic_ne (pc0 := 65) (len := 3) (t := 81) rfl (by first | assumption | omega | (unfold R32 at *; omega) | (unfold R64 at *; omega) | (simp only [R32, R64] at *; omega)) (by first | assumption | omega | (unfold R32 at *; omega) | (unfold R64 at *; omega) | (simp only [R32, R64] at *; omega)) (fun h_65 => ?_) (fun h_65 => ?_)
  · show WV _ _ _ 81 _ _ _ _ _
    rw [if_neg h_65] at hQ
    refine r_ex 6 (pc' := 91) (lo' := [some (.inr (.inr (some 203))), some (.inl t), some (.inl c), some (.inl h), some (.inl y), some (.inl e), some (.inl (5 * (v 203 43)))]) (st' := [.inl t, .inr (.inr (some 227)), .inl 5, .inr (.inr (some 225))]) rfl ?_
    refine r_iald2 (j := 0) (x := (v 227 ((t).toNat))) (pc' := 92) (pc0 := 91) (len := 1) rfl (s_227 _) (by first | assumption | omega | (unfold R32 at *; omega) | (unfold R64 at *; omega) | (simp only [R32, R64] at *; omega)) (by decide) rfl rfl ?_
    have hb_8 : 0 ≤ (v 227 ((t).toNat)) ∧ (v 227 ((t).toNat)) ≤ 3699 := hX_6 227 ((t).toNat)
    refine r_ex 5 (pc' := 99) (lo' := [some (.inr (.inr (some 203))), some (.inl t), some (.inl c), some (.inl h), some (.inl y), some (.inl e), some (.inl (5 * (v 203 43)))]) (st' := [.inl (v 203 43), .inl ((5 * (v 227 ((t).toNat))) + 4), .inr (.inr (some 225))]) rfl ?_
    have hb_9 : 0 ≤ (v 203 43) ∧ (v 203 43) ≤ 3700 := hX_6 203 43
    refine r_iast2 (pc' := 100) (pc0 := 99) (len := 1) rfl (s_225 _) (by first | assumption | omega | (unfold R32 at *; omega) | (unfold R64 at *; omega) | (simp only [R32, R64] at *; omega)) (by decide) rfl ?_
    have hX_10 : XI (v2 (v2 (v2 (v2 (v2 (v2 v 225 (((5 * (v 203 43))).toNat) c) 225 ((((5 * (v 203 43)) + 1)).toNat) h) 225 ((((5 * (v 203 43)) + 2)).toNat) y) 225 ((((5 * (v 203 43)) + 3)).toNat) e) 225 ((((5 * (v 203 43)) + 4)).toNat) (-1)) 225 ((((5 * (v 227 ((t).toNat))) + 4)).toNat) (v 203 43)) := XI.put hX_6 (show -1 ≤ (v 203 43) ∧ (v 203 43) ≤ 3699 from (by first | assumption | omega | (unfold R32 at *; omega) | (unfold R64 at *; omega) | (simp only [R32, R64] at *; omega)))
    refine r_ex 5 (pc' := 109) (lo' := [some (.inr (.inr (some 203))), some (.inl t), some (.inl c), some (.inl h), some (.inl y), some (.inl e), some (.inl (5 * (v 203 43)))]) (st' := [.inl (v 203 43), .inl t, .inr (.inr (some 227))]) rfl ?_
    have hb_11 : 0 ≤ (v 203 43) ∧ (v 203 43) ≤ 3700 := hX_10 203 43
    refine r_iast2 (pc' := 110) (pc0 := 109) (len := 1) rfl (s_227 _) (by first | assumption | omega | (unfold R32 at *; omega) | (unfold R64 at *; omega) | (simp only [R32, R64] at *; omega)) (by decide) rfl ?_
    have hX_12 : XI (v2 (v2 (v2 (v2 (v2 (v2 (v2 v 225 (((5 * (v 203 43))).toNat) c) 225 ((((5 * (v 203 43)) + 1)).toNat) h) 225 ((((5 * (v 203 43)) + 2)).toNat) y) 225 ((((5 * (v 203 43)) + 3)).toNat) e) 225 ((((5 * (v 203 43)) + 4)).toNat) (-1)) 225 ((((5 * (v 227 ((t).toNat))) + 4)).toNat) (v 203 43)) 227 ((t).toNat) (v 203 43)) := XI.put hX_10 (show 0 ≤ (v 203 43) ∧ (v 203 43) ≤ 3699 from (by first | assumption | omega | (unfold R32 at *; omega) | (unfold R64 at *; omega) | (simp only [R32, R64] at *; omega)))
    refine r_ex 5 (pc' := 117) (lo' := [some (.inr (.inr (some 203))), some (.inl t), some (.inl c), some (.inl h), some (.inl y), some (.inl e), some (.inl (5 * (v 203 43)))]) (st' := [.inl ((v 203 43) + 1), .inr (.inr (some 203))]) rfl ?_
    have hb_13 : 0 ≤ (v 203 43) ∧ (v 203 43) ≤ 3700 := hX_12 203 43
    refine r_puti2 (j := 43) (pc' := 120) (pc0 := 117) (len := 3) rfl (s_203 _) rfl rfl rfl (Or.inl rfl) rfl rfl ?_
    have hX_14 : XI (v2 (v2 (v2 (v2 (v2 (v2 (v2 (v2 v 225 (((5 * (v 203 43))).toNat) c) 225 ((((5 * (v 203 43)) + 1)).toNat) h) 225 ((((5 * (v 203 43)) + 2)).toNat) y) 225 ((((5 * (v 203 43)) + 3)).toNat) e) 225 ((((5 * (v 203 43)) + 4)).toNat) (-1)) 225 ((((5 * (v 227 ((t).toNat))) + 4)).toNat) (v 203 43)) 227 ((t).toNat) (v 203 43)) 203 43 ((v 203 43) + 1)) := XI.put hX_12 (show 0 ≤ ((v 203 43) + 1) ∧ ((v 203 43) + 1) ≤ 3700 from (by first | assumption | omega | (unfold R32 at *; omega) | (unfold R64 at *; omega) | (simp only [R32, R64] at *; omega)))
    refine r_ret (rr := none) (I := .return_) (pc0 := 120) (len := 1) rfl rfl ?_
    exact hQ hX_14 (show ((v 203 43) + 1) = (v 203 43) + 1 from (by first | assumption | omega | (unfold R32 at *; omega) | (unfold R64 at *; omega) | (simp only [R32, R64] at *; omega))) (show (v 203 37) = (v 203 37) from (by first | assumption | omega | (unfold R32 at *; omega) | (unfold R64 at *; omega) | (simp only [R32, R64] at *; omega))) (by first | exact LK.put1 hp_g (by omega) (by omega) | exact LK.put2 hp_g (by omega) (by omega) h_65)
  · show WV _ _ _ 68 _ _ _ _ _
    rw [if_pos h_65] at hQ
    refine r_ex 5 (pc' := 77) (lo' := [some (.inr (.inr (some 203))), some (.inl t), some (.inl c), some (.inl h), some (.inl y), some (.inl e), some (.inl (5 * (v 203 43)))]) (st' := [.inl (v 203 43), .inl t, .inr (.inr (some 226))]) rfl ?_
    have hb_15 : 0 ≤ (v 203 43) ∧ (v 203 43) ≤ 3700 := hX_6 203 43
    refine r_iast2 (pc' := 78) (pc0 := 77) (len := 1) rfl (s_226 _) (by first | assumption | omega | (unfold R32 at *; omega) | (unfold R64 at *; omega) | (simp only [R32, R64] at *; omega)) (by decide) rfl ?_
    have hX_16 : XI (v2 (v2 (v2 (v2 (v2 (v2 v 225 (((5 * (v 203 43))).toNat) c) 225 ((((5 * (v 203 43)) + 1)).toNat) h) 225 ((((5 * (v 203 43)) + 2)).toNat) y) 225 ((((5 * (v 203 43)) + 3)).toNat) e) 225 ((((5 * (v 203 43)) + 4)).toNat) (-1)) 226 ((t).toNat) (v 203 43)) := XI.put hX_6 (show -1 ≤ (v 203 43) ∧ (v 203 43) ≤ 3699 from (by first | assumption | omega | (unfold R32 at *; omega) | (unfold R64 at *; omega) | (simp only [R32, R64] at *; omega)))
    refine r_ex 6 (pc' := 109) (lo' := [some (.inr (.inr (some 203))), some (.inl t), some (.inl c), some (.inl h), some (.inl y), some (.inl e), some (.inl (5 * (v 203 43)))]) (st' := [.inl (v 203 43), .inl t, .inr (.inr (some 227))]) rfl ?_
    have hb_17 : 0 ≤ (v 203 43) ∧ (v 203 43) ≤ 3700 := hX_16 203 43
    refine r_iast2 (pc' := 110) (pc0 := 109) (len := 1) rfl (s_227 _) (by first | assumption | omega | (unfold R32 at *; omega) | (unfold R64 at *; omega) | (simp only [R32, R64] at *; omega)) (by decide) rfl ?_
    have hX_18 : XI (v2 (v2 (v2 (v2 (v2 (v2 (v2 v 225 (((5 * (v 203 43))).toNat) c) 225 ((((5 * (v 203 43)) + 1)).toNat) h) 225 ((((5 * (v 203 43)) + 2)).toNat) y) 225 ((((5 * (v 203 43)) + 3)).toNat) e) 225 ((((5 * (v 203 43)) + 4)).toNat) (-1)) 226 ((t).toNat) (v 203 43)) 227 ((t).toNat) (v 203 43)) := XI.put hX_16 (show 0 ≤ (v 203 43) ∧ (v 203 43) ≤ 3699 from (by first | assumption | omega | (unfold R32 at *; omega) | (unfold R64 at *; omega) | (simp only [R32, R64] at *; omega)))
    refine r_ex 5 (pc' := 117) (lo' := [some (.inr (.inr (some 203))), some (.inl t), some (.inl c), some (.inl h), some (.inl y), some (.inl e), some (.inl (5 * (v 203 43)))]) (st' := [.inl ((v 203 43) + 1), .inr (.inr (some 203))]) rfl ?_
    have hb_19 : 0 ≤ (v 203 43) ∧ (v 203 43) ≤ 3700 := hX_18 203 43
    refine r_puti2 (j := 43) (pc' := 120) (pc0 := 117) (len := 3) rfl (s_203 _) rfl rfl rfl (Or.inl rfl) rfl rfl ?_
    have hX_20 : XI (v2 (v2 (v2 (v2 (v2 (v2 (v2 (v2 v 225 (((5 * (v 203 43))).toNat) c) 225 ((((5 * (v 203 43)) + 1)).toNat) h) 225 ((((5 * (v 203 43)) + 2)).toNat) y) 225 ((((5 * (v 203 43)) + 3)).toNat) e) 225 ((((5 * (v 203 43)) + 4)).toNat) (-1)) 226 ((t).toNat) (v 203 43)) 227 ((t).toNat) (v 203 43)) 203 43 ((v 203 43) + 1)) := XI.put hX_18 (show 0 ≤ ((v 203 43) + 1) ∧ ((v 203 43) + 1) ≤ 3700 from (by first | assumption | omega | (unfold R32 at *; omega) | (unfold R64 at *; omega) | (simp only [R32, R64] at *; omega)))
    refine r_ret (rr := none) (I := .return_) (pc0 := 120) (len := 1) rfl rfl ?_
    exact hQ hX_20 (show ((v 203 43) + 1) = (v 203 43) + 1 from (by first | assumption | omega | (unfold R32 at *; omega) | (unfold R64 at *; omega) | (simp only [R32, R64] at *; omega))) (show (v 203 37) = (v 203 37) from (by first | assumption | omega | (unfold R32 at *; omega) | (unfold R64 at *; omega) | (simp only [R32, R64] at *; omega))) (by first | exact LK.put1 hp_g (by omega) (by omega) | exact LK.put2 hp_g (by omega) (by omega) h_65)

theorem e_mo_puts {X : PX} {d b : Nat} {v : VS} {t : Int} {c : Int} {h : Int} {y : Int} {e : Int} (hX : XI v) (hp_a : 0 ≤ t ∧ t < 300) (hp_b : 0 ≤ c ∧ c ≤ 8) (hp_c : -1 ≤ h ∧ h ≤ 3699) (hp_d : -1 ≤ y ∧ y ≤ 299) (hp_e : -1 ≤ e ∧ e ≤ 11) (hp_f : (v 203 43) < 3700) (hp_g : LK v) : EvV X d 248 [.inr (.inr (some 203)), .inl t, .inl c, .inl h, .inl y, .inl e] b v none b (mo_puts v t c h y e) := EvV.of (w_mo_puts hX hp_a hp_b hp_c hp_d hp_e hp_f hp_g (fun _ _ _ _ => ⟨rfl, rfl, rfl⟩))

theorem i_mo_puts {v : VS} {t : Int} {c : Int} {h : Int} {y : Int} {e : Int} (hX : XI v) (hp_a : 0 ≤ t ∧ t < 300) (hp_b : 0 ≤ c ∧ c ≤ 8) (hp_c : -1 ≤ h ∧ h ≤ 3699) (hp_d : -1 ≤ y ∧ y ≤ 299) (hp_e : -1 ≤ e ∧ e ≤ 11) (hp_f : (v 203 43) < 3700) (hp_g : LK v) : XI (mo_puts v t c h y e) := by
  have q : WV (0, fun _ => 0, none) 0 248 0 [some (.inr (.inr (some 203))), some (.inl t), some (.inl c), some (.inl h), some (.inl y), some (.inl e), none] [] 1 v (fun _ _ _ => XI (mo_puts v t c h y e)) := w_mo_puts (X := (0, fun _ => 0, none)) (d := 0) (b := 1) hX hp_a hp_b hp_c hp_d hp_e hp_f hp_g (fun q _ _ _ => q)
  obtain ⟨_, _, _, _, _, _, _, q⟩ := q
  exact q

theorem n0_mo_puts {v : VS} {t : Int} {c : Int} {h : Int} {y : Int} {e : Int} (hX : XI v) (hp_a : 0 ≤ t ∧ t < 300) (hp_b : 0 ≤ c ∧ c ≤ 8) (hp_c : -1 ≤ h ∧ h ≤ 3699) (hp_d : -1 ≤ y ∧ y ≤ 299) (hp_e : -1 ≤ e ∧ e ≤ 11) (hp_f : (v 203 43) < 3700) (hp_g : LK v) : ((mo_puts v t c h y e) 203 43) = (v 203 43) + 1 := by
  have q : WV (0, fun _ => 0, none) 0 248 0 [some (.inr (.inr (some 203))), some (.inl t), some (.inl c), some (.inl h), some (.inl y), some (.inl e), none] [] 1 v (fun _ _ _ => ((mo_puts v t c h y e) 203 43) = (v 203 43) + 1) := w_mo_puts (X := (0, fun _ => 0, none)) (d := 0) (b := 1) hX hp_a hp_b hp_c hp_d hp_e hp_f hp_g (fun _ q _ _ => q)
  obtain ⟨_, _, _, _, _, _, _, q⟩ := q
  exact q

theorem n1_mo_puts {v : VS} {t : Int} {c : Int} {h : Int} {y : Int} {e : Int} (hX : XI v) (hp_a : 0 ≤ t ∧ t < 300) (hp_b : 0 ≤ c ∧ c ≤ 8) (hp_c : -1 ≤ h ∧ h ≤ 3699) (hp_d : -1 ≤ y ∧ y ≤ 299) (hp_e : -1 ≤ e ∧ e ≤ 11) (hp_f : (v 203 43) < 3700) (hp_g : LK v) : ((mo_puts v t c h y e) 203 37) = (v 203 37) := by
  have q : WV (0, fun _ => 0, none) 0 248 0 [some (.inr (.inr (some 203))), some (.inl t), some (.inl c), some (.inl h), some (.inl y), some (.inl e), none] [] 1 v (fun _ _ _ => ((mo_puts v t c h y e) 203 37) = (v 203 37)) := w_mo_puts (X := (0, fun _ => 0, none)) (d := 0) (b := 1) hX hp_a hp_b hp_c hp_d hp_e hp_f hp_g (fun _ _ q _ => q)
  obtain ⟨_, _, _, _, _, _, _, q⟩ := q
  exact q

theorem n2_mo_puts {v : VS} {t : Int} {c : Int} {h : Int} {y : Int} {e : Int} (hX : XI v) (hp_a : 0 ≤ t ∧ t < 300) (hp_b : 0 ≤ c ∧ c ≤ 8) (hp_c : -1 ≤ h ∧ h ≤ 3699) (hp_d : -1 ≤ y ∧ y ≤ 299) (hp_e : -1 ≤ e ∧ e ≤ 11) (hp_f : (v 203 43) < 3700) (hp_g : LK v) : LK (mo_puts v t c h y e) := by
  have q : WV (0, fun _ => 0, none) 0 248 0 [some (.inr (.inr (some 203))), some (.inl t), some (.inl c), some (.inl h), some (.inl y), some (.inl e), none] [] 1 v (fun _ _ _ => LK (mo_puts v t c h y e)) := w_mo_puts (X := (0, fun _ => 0, none)) (d := 0) (b := 1) hX hp_a hp_b hp_c hp_d hp_e hp_f hp_g (fun _ _ _ q => q)
  obtain ⟨_, _, _, _, _, _, _, q⟩ := q
  exact q

theorem o_mo_puts {rk : Nat} {v : VS} {t : Int} {c : Int} {h : Int} {y : Int} {e : Int} (hk : (rk < 203 ∨ 203 < rk) ∧ (rk < 225 ∨ 227 < rk)) : (mo_puts v t c h y e) rk = v rk := by
  unfold mo_puts
  by_cases hc_ : (v 226 ((t).toNat)) = (-1)
  · rw [if_pos hc_]
    all_goals (show (v2 (v2 (v2 (v2 (v2 (v2 (v2 (v2 v 225 (((5 * (v 203 43))).toNat) c) 225 ((((5 * (v 203 43)) + 1)).toNat) h) 225 ((((5 * (v 203 43)) + 2)).toNat) y) 225 ((((5 * (v 203 43)) + 3)).toNat) e) 225 ((((5 * (v 203 43)) + 4)).toNat) (-1)) 226 ((t).toNat) (v 203 43)) 227 ((t).toNat) (v 203 43)) 203 43 ((v 203 43) + 1)) rk = _)
    all_goals (rw [v2_row (by omega), v2_row (by omega), v2_row (by omega), v2_row (by omega), v2_row (by omega), v2_row (by omega), v2_row (by omega), v2_row (by omega)])
  · rw [if_neg hc_]
    all_goals (show (v2 (v2 (v2 (v2 (v2 (v2 (v2 (v2 v 225 (((5 * (v 203 43))).toNat) c) 225 ((((5 * (v 203 43)) + 1)).toNat) h) 225 ((((5 * (v 203 43)) + 2)).toNat) y) 225 ((((5 * (v 203 43)) + 3)).toNat) e) 225 ((((5 * (v 203 43)) + 4)).toNat) (-1)) 225 ((((5 * (v 227 ((t).toNat))) + 4)).toNat) (v 203 43)) 227 ((t).toNat) (v 203 43)) 203 43 ((v 203 43) + 1)) rk = _)
    all_goals (rw [v2_row (by omega), v2_row (by omega), v2_row (by omega), v2_row (by omega), v2_row (by omega), v2_row (by omega), v2_row (by omega), v2_row (by omega)])

def mo_goesBy_183 (v : VS) (e : Int) (i : Int) (a : Int) (c : Int) (n : Int) (g : Int) : VS :=
  (if 99 < g then (v2 v 221 6 ((v 221 6) + 1)) else (if (v 203 34) = 6 then (if (a + 0) < n then (mo_puts (v2 v 224 ((e).toNat) ((v 224 ((e).toNat)) + 1)) (a + 0) c g i e) else (v2 v 221 5 ((v 221 5) + 1))) else (if (a + (v 211 ((((3 * c) + 1)).toNat))) < n then (mo_puts (v2 v 224 ((e).toNat) ((v 224 ((e).toNat)) + 1)) (a + (v 211 ((((3 * c) + 1)).toNat))) c g i e) else (v2 v 221 5 ((v 221 5) + 1)))))
def mo_goesBy_144 (v : VS) (e : Int) (i : Int) (h : Int) (a : Int) (c : Int) (n : Int) : VS :=
  (if (v 203 34) = 2 then (mo_goesBy_183  v e i a c n (h + 0)) else (if (mo_isIn217 v (v 210 8) c a) = 0 then (mo_goesBy_183  v e i a c n (h + 0)) else (mo_goesBy_183  v e i a c n (h + 1))))
def mo_goesBy_104 (v : VS) (e : Int) (i : Int) (h : Int) (a : Int) (c : Int) (n : Int) : VS :=
  (if (v 203 34) = 1 then (mo_goesBy_144  v e i h a c n) else (if (mo_isIn216 v (v 210 7) c a) = 0 then (mo_goesBy_144  v e i h a c n) else (v2 v 221 1 ((v 221 1) + 1))))
def mo_goesBy (v : VS) (e : Int) (i : Int) (t : Int) (h : Int) : VS :=
  (if (t + (mo_takesOf v e t)) < (v 210 1) then (if (v 203 34) = 0 then (mo_goesBy_104  (v2 v 222 ((e).toNat) ((v 222 ((e).toNat)) + 1)) e i h (t + (mo_takesOf v e t)) (v 212 (((4 * e)).toNat)) (v 210 1)) else (if (mo_isIn215 (v2 v 222 ((e).toNat) ((v 222 ((e).toNat)) + 1)) (v 210 6) e (t + (mo_takesOf v e t))) = 0 then (mo_goesBy_104  (v2 v 222 ((e).toNat) ((v 222 ((e).toNat)) + 1)) e i h (t + (mo_takesOf v e t)) (v 212 (((4 * e)).toNat)) (v 210 1)) else (v2 (v2 (v2 v 222 ((e).toNat) ((v 222 ((e).toNat)) + 1)) 223 ((e).toNat) ((v 223 ((e).toNat)) + 1)) 221 0 ((v 221 0) + 1)))) else (v2 (v2 v 222 ((e).toNat) ((v 222 ((e).toNat)) + 1)) 221 5 ((v 221 5) + 1)))
theorem l_mo_goesBy_183 {X : PX} {d b : Nat} {Q : Option PV → Nat → VS → Prop}  : ∀ (v : VS) (e : Int) (i : Int) (a : Int) (c : Int) (n : Int) (g : Int) (o3 : Option PV) (o9 : Option PV) (z4 : Int), XI v → (0 ≤ e ∧ e < 12) → (0 ≤ i ∧ i < 300) → (0 ≤ a ∧ a < 300) → (0 ≤ c ∧ c ≤ 8) → (0 ≤ n ∧ n ≤ 300) → (a < n) → (-1 ≤ g ∧ g ≤ 3700) → ((v 203 43) < 3700) → (LK v) → (XI (mo_goesBy_183 v e i a c n g) → (((mo_goesBy_183 v e i a c n g) 203 43) ≤ (v 203 43) + 1) → (((mo_goesBy_183 v e i a c n g) 203 37) = (v 203 37)) → (LK (mo_goesBy_183 v e i a c n g)) → Q none b (mo_goesBy_183 v e i a c n g)) → WV X (d + 1) 251 183 [some (.inr (.inr (some 203))), some (.inl e), some (.inl i), o3, some (.inl z4), some (.inl a), some (.inl c), some (.inl n), some (.inl g), o9] [] b v Q := by
  intro v e i a c n g o3 o9 z4 hX hi_0 hi_1 hi_2 hi_3 hi_4 hi_5 hi_6 hi_7 hi_8 hQ
  rw [mo_goesBy_183] at hQ
  refine r_ex 2 (pc' := 187) (lo' := [some (.inr (.inr (some 203))), some (.inl e), some (.inl i), o3, some (.inl z4), some (.inl a), some (.inl c), some (.inl n), some (.inl g), o9]) (st' := [.inl 99, .inl g]) rfl ?_
  refine n_ic_le (pc0 := 187) (len := 3) (t := 202) rfl (by first | assumption | omega | (unfold R32 at *; omega) | (unfold R64 at *; omega) | (simp only [R32, R64] at *; omega)) (by first | assumption | omega | (unfold R32 at *; omega) | (unfold R64 at *; omega) | (simp only [R32, R64] at *; omega)) (fun h_187 => ?_) (fun h_187 => ?_)
  · show WV _ _ _ 202 _ _ _ _ _
    rw [if_neg h_187] at hQ
    refine r_ex 4 (pc' := 210) (lo' := [some (.inr (.inr (some 203))), some (.inl e), some (.inl i), o3, some (.inl z4), some (.inl a), some (.inl c), some (.inl n), some (.inl g), o9]) (st' := [.inl 6, .inl (v 203 34), .inl a]) rfl ?_
    have hb_10 : -1 ≤ (v 203 34) ∧ (v 203 34) ≤ 6 := hX 203 34
    refine n_ic_ne (pc0 := 210) (len := 3) (t := 217) rfl (by first | assumption | omega | (unfold R32 at *; omega) | (unfold R64 at *; omega) | (simp only [R32, R64] at *; omega)) (by first | assumption | omega | (unfold R32 at *; omega) | (unfold R64 at *; omega) | (simp only [R32, R64] at *; omega)) (fun h_210 => ?_) (fun h_210 => ?_)
    · show WV _ _ _ 217 _ _ _ _ _
      rw [if_neg h_210] at hQ
      refine r_ex 7 (pc' := 227) (lo' := [some (.inr (.inr (some 203))), some (.inl e), some (.inl i), o3, some (.inl z4), some (.inl a), some (.inl c), some (.inl n), some (.inl g), o9]) (st' := [.inl ((3 * c) + 1), .inr (.inr (some 211)), .inl a]) rfl ?_
      refine r_iald2 (j := 0) (x := (v 211 ((((3 * c) + 1)).toNat))) (pc' := 228) (pc0 := 227) (len := 1) rfl (s_211 _) (by first | assumption | omega | (unfold R32 at *; omega) | (unfold R64 at *; omega) | (simp only [R32, R64] at *; omega)) (by decide) rfl rfl ?_
      have hb_11 : 0 ≤ (v 211 ((((3 * c) + 1)).toNat)) ∧ (v 211 ((((3 * c) + 1)).toNat)) ≤ 99 := hX 211 ((((3 * c) + 1)).toNat)
      refine r_ex 4 (pc' := 235) (lo' := [some (.inr (.inr (some 203))), some (.inl e), some (.inl i), o3, some (.inl z4), some (.inl a), some (.inl c), some (.inl n), some (.inl g), some (.inl (a + (v 211 ((((3 * c) + 1)).toNat))))]) (st' := [.inl n, .inl (a + (v 211 ((((3 * c) + 1)).toNat)))]) rfl ?_
      refine n_ic_lt (pc0 := 235) (len := 3) (t := 249) rfl (by first | assumption | omega | (unfold R32 at *; omega) | (unfold R64 at *; omega) | (simp only [R32, R64] at *; omega)) (by first | assumption | omega | (unfold R32 at *; omega) | (unfold R64 at *; omega) | (simp only [R32, R64] at *; omega)) (fun h_235 => ?_) (fun h_235 => ?_)
      · show WV _ _ _ 249 _ _ _ _ _
        rw [if_pos h_235] at hQ
        refine r_ex 4 (pc' := 255) (lo' := [some (.inr (.inr (some 203))), some (.inl e), some (.inl i), o3, some (.inl z4), some (.inl a), some (.inl c), some (.inl n), some (.inl g), some (.inl (a + (v 211 ((((3 * c) + 1)).toNat))))]) (st' := [.inl e, .inr (.inr (some 224)), .inl e, .inr (.inr (some 224))]) rfl ?_
        refine r_iald2 (j := 0) (x := (v 224 ((e).toNat))) (pc' := 256) (pc0 := 255) (len := 1) rfl (s_224 _) (by first | assumption | omega | (unfold R32 at *; omega) | (unfold R64 at *; omega) | (simp only [R32, R64] at *; omega)) (by decide) rfl rfl ?_
        refine r_ex 2 (pc' := 258) (lo' := [some (.inr (.inr (some 203))), some (.inl e), some (.inl i), o3, some (.inl z4), some (.inl a), some (.inl c), some (.inl n), some (.inl g), some (.inl (a + (v 211 ((((3 * c) + 1)).toNat))))]) (st' := [.inl ((v 224 ((e).toNat)) + 1), .inl e, .inr (.inr (some 224))]) rfl ?_
        refine r_iast2 (pc' := 259) (pc0 := 258) (len := 1) rfl (s_224 _) (by first | assumption | omega | (unfold R32 at *; omega) | (unfold R64 at *; omega) | (simp only [R32, R64] at *; omega)) (by decide) rfl ?_
        have hX_12 : XI (v2 v 224 ((e).toNat) ((v 224 ((e).toNat)) + 1)) := XI.put hX trivial
        refine r_ex 6 (pc' := 268) (lo' := [some (.inr (.inr (some 203))), some (.inl e), some (.inl i), o3, some (.inl z4), some (.inl a), some (.inl c), some (.inl n), some (.inl g), some (.inl (a + (v 211 ((((3 * c) + 1)).toNat))))]) (st' := [.inl e, .inl i, .inl g, .inl c, .inl (a + (v 211 ((((3 * c) + 1)).toNat))), .inr (.inr (some 203))]) rfl ?_
        have hp_13 : 0 ≤ (a + (v 211 ((((3 * c) + 1)).toNat))) ∧ (a + (v 211 ((((3 * c) + 1)).toNat))) < 300 := (by first | assumption | omega | (unfold R32 at *; omega) | (unfold R64 at *; omega) | (simp only [R32, R64] at *; omega))
        have hp_14 : 0 ≤ c ∧ c ≤ 8 := (by first | assumption | omega | (unfold R32 at *; omega) | (unfold R64 at *; omega) | (simp only [R32, R64] at *; omega))
        have hp_15 : -1 ≤ g ∧ g ≤ 3699 := (by first | assumption | omega | (unfold R32 at *; omega) | (unfold R64 at *; omega) | (simp only [R32, R64] at *; omega))
        have hp_16 : -1 ≤ i ∧ i ≤ 299 := (by first | assumption | omega | (unfold R32 at *; omega) | (unfold R64 at *; omega) | (simp only [R32, R64] at *; omega))
        have hp_17 : -1 ≤ e ∧ e ≤ 11 := (by first | assumption | omega | (unfold R32 at *; omega) | (unfold R64 at *; omega) | (simp only [R32, R64] at *; omega))
        have hp_18 : ((v2 v 224 ((e).toNat) ((v 224 ((e).toNat)) + 1)) 203 43) < 3700 := (show (v 203 43) < 3700 from (by first | assumption | omega | (unfold R32 at *; omega) | (unfold R64 at *; omega) | (simp only [R32, R64] at *; omega)))
        have hp_19 : LK (v2 v 224 ((e).toNat) ((v 224 ((e).toNat)) + 1)) := show LK (v2 v 224 ((e).toNat) ((v 224 ((e).toNat)) + 1)) from LK.of hi_8 (fun k h1 h2 => by rw [v2_row (by omega)]) rfl
        refine r_call (m := 248) (args := [.inr (.inr (some 203)), .inl (a + (v 211 ((((3 * c) + 1)).toNat))), .inl c, .inl g, .inl i, .inl e]) (n' := 251) (pc' := 271) (lo' := [some (.inr (.inr (some 203))), some (.inl e), some (.inl i), o3, some (.inl z4), some (.inl a), some (.inl c), some (.inl n), some (.inl g), some (.inl (a + (v 211 ((((3 * c) + 1)).toNat))))]) (st' := []) (I := .invokevirtual 248) (pc0 := 268) (len := 3) rfl rfl rfl (e_mo_puts hX_12 hp_13 hp_14 hp_15 hp_16 hp_17 hp_18 hp_19) ?_
        show WV _ _ _ 271 _ [] _ (mo_puts (v2 v 224 ((e).toNat) ((v 224 ((e).toNat)) + 1)) (a + (v 211 ((((3 * c) + 1)).toNat))) c g i e) _
        have hX_20 : XI (mo_puts (v2 v 224 ((e).toNat) ((v 224 ((e).toNat)) + 1)) (a + (v 211 ((((3 * c) + 1)).toNat))) c g i e) := i_mo_puts (v := (v2 v 224 ((e).toNat) ((v 224 ((e).toNat)) + 1))) (t := (a + (v 211 ((((3 * c) + 1)).toNat)))) (c := c) (h := g) (y := i) (e := e) hX_12 hp_13 hp_14 hp_15 hp_16 hp_17 hp_18 hp_19
        have hb_21 : ((mo_puts (v2 v 224 ((e).toNat) ((v 224 ((e).toNat)) + 1)) (a + (v 211 ((((3 * c) + 1)).toNat))) c g i e) 203 43) = (v 203 43) + 1 := n0_mo_puts (v := (v2 v 224 ((e).toNat) ((v 224 ((e).toNat)) + 1))) (t := (a + (v 211 ((((3 * c) + 1)).toNat)))) (c := c) (h := g) (y := i) (e := e) hX_12 hp_13 hp_14 hp_15 hp_16 hp_17 hp_18 hp_19
        have hb_22 : ((mo_puts (v2 v 224 ((e).toNat) ((v 224 ((e).toNat)) + 1)) (a + (v 211 ((((3 * c) + 1)).toNat))) c g i e) 203 37) = (v 203 37) := n1_mo_puts (v := (v2 v 224 ((e).toNat) ((v 224 ((e).toNat)) + 1))) (t := (a + (v 211 ((((3 * c) + 1)).toNat)))) (c := c) (h := g) (y := i) (e := e) hX_12 hp_13 hp_14 hp_15 hp_16 hp_17 hp_18 hp_19
        have hl_23 := n2_mo_puts (v := (v2 v 224 ((e).toNat) ((v 224 ((e).toNat)) + 1))) (t := (a + (v 211 ((((3 * c) + 1)).toNat)))) (c := c) (h := g) (y := i) (e := e) hX_12 hp_13 hp_14 hp_15 hp_16 hp_17 hp_18 hp_19
        refine r_ret (rr := none) (I := .return_) (pc0 := 271) (len := 1) rfl rfl ?_
        exact hQ hX_20 (show ((mo_puts (v2 v 224 ((e).toNat) ((v 224 ((e).toNat)) + 1)) (a + (v 211 ((((3 * c) + 1)).toNat))) c g i e) 203 43) ≤ (v 203 43) + 1 from (by first | assumption | omega | (unfold R32 at *; omega) | (unfold R64 at *; omega) | (simp only [R32, R64] at *; omega))) (show ((mo_puts (v2 v 224 ((e).toNat) ((v 224 ((e).toNat)) + 1)) (a + (v 211 ((((3 * c) + 1)).toNat))) c g i e) 203 37) = (v 203 37) from (by first | assumption | omega | (unfold R32 at *; omega) | (unfold R64 at *; omega) | (simp only [R32, R64] at *; omega))) (hl_23)
      · show WV _ _ _ 238 _ _ _ _ _
        rw [if_neg h_235] at hQ
        refine r_ex 4 (pc' := 244) (lo' := [some (.inr (.inr (some 203))), some (.inl e), some (.inl i), o3, some (.inl z4), some (.inl a), some (.inl c), some (.inl n), some (.inl g), some (.inl (a + (v 211 ((((3 * c) + 1)).toNat))))]) (st' := [.inl 5, .inr (.inr (some 221)), .inl 5, .inr (.inr (some 221))]) rfl ?_
        refine r_iald2 (j := 0) (x := (v 221 5)) (pc' := 245) (pc0 := 244) (len := 1) rfl (s_221 _) (by first | assumption | omega | (unfold R32 at *; omega) | (unfold R64 at *; omega) | (simp only [R32, R64] at *; omega)) (by decide) rfl rfl ?_
        refine r_ex 2 (pc' := 247) (lo' := [some (.inr (.inr (some 203))), some (.inl e), some (.inl i), o3, some (.inl z4), some (.inl a), some (.inl c), some (.inl n), some (.inl g), some (.inl (a + (v 211 ((((3 * c) + 1)).toNat))))]) (st' := [.inl ((v 221 5) + 1), .inl 5, .inr (.inr (some 221))]) rfl ?_
        refine r_iast2 (pc' := 248) (pc0 := 247) (len := 1) rfl (s_221 _) (by first | assumption | omega | (unfold R32 at *; omega) | (unfold R64 at *; omega) | (simp only [R32, R64] at *; omega)) (by decide) rfl ?_
        have hX_24 : XI (v2 v 221 5 ((v 221 5) + 1)) := XI.put hX trivial
        show WV _ _ _ 248 _ _ _ (v2 v 221 5 ((v 221 5) + 1)) _
        refine r_ret (rr := none) (I := .return_) (pc0 := 248) (len := 1) rfl rfl ?_
        exact hQ hX_24 (show (v 203 43) ≤ (v 203 43) + 1 from (by first | assumption | omega | (unfold R32 at *; omega) | (unfold R64 at *; omega) | (simp only [R32, R64] at *; omega))) (show (v 203 37) = (v 203 37) from (by first | assumption | omega | (unfold R32 at *; omega) | (unfold R64 at *; omega) | (simp only [R32, R64] at *; omega))) (show LK (v2 v 221 5 ((v 221 5) + 1)) from LK.of hi_8 (fun k h1 h2 => by rw [v2_row (by omega)]) rfl)
    · show WV _ _ _ 213 _ _ _ _ _
      rw [if_pos h_210] at hQ
      refine r_ex 6 (pc' := 235) (lo' := [some (.inr (.inr (some 203))), some (.inl e), some (.inl i), o3, some (.inl z4), some (.inl a), some (.inl c), some (.inl n), some (.inl g), some (.inl (a + 0))]) (st' := [.inl n, .inl (a + 0)]) rfl ?_
      refine n_ic_lt (pc0 := 235) (len := 3) (t := 249) rfl (by first | assumption | omega | (unfold R32 at *; omega) | (unfold R64 at *; omega) | (simp only [R32, R64] at *; omega)) (by first | assumption | omega | (unfold R32 at *; omega) | (unfold R64 at *; omega) | (simp only [R32, R64] at *; omega)) (fun h_235 => ?_) (fun h_235 => ?_)
      · show WV _ _ _ 249 _ _ _ _ _
        rw [if_pos h_235] at hQ
        refine r_ex 4 (pc' := 255) (lo' := [some (.inr (.inr (some 203))), some (.inl e), some (.inl i), o3, some (.inl z4), some (.inl a), some (.inl c), some (.inl n), some (.inl g), some (.inl (a + 0))]) (st' := [.inl e, .inr (.inr (some 224)), .inl e, .inr (.inr (some 224))]) rfl ?_
        refine r_iald2 (j := 0) (x := (v 224 ((e).toNat))) (pc' := 256) (pc0 := 255) (len := 1) rfl (s_224 _) (by first | assumption | omega | (unfold R32 at *; omega) | (unfold R64 at *; omega) | (simp only [R32, R64] at *; omega)) (by decide) rfl rfl ?_
        refine r_ex 2 (pc' := 258) (lo' := [some (.inr (.inr (some 203))), some (.inl e), some (.inl i), o3, some (.inl z4), some (.inl a), some (.inl c), some (.inl n), some (.inl g), some (.inl (a + 0))]) (st' := [.inl ((v 224 ((e).toNat)) + 1), .inl e, .inr (.inr (some 224))]) rfl ?_
        refine r_iast2 (pc' := 259) (pc0 := 258) (len := 1) rfl (s_224 _) (by first | assumption | omega | (unfold R32 at *; omega) | (unfold R64 at *; omega) | (simp only [R32, R64] at *; omega)) (by decide) rfl ?_
        have hX_25 : XI (v2 v 224 ((e).toNat) ((v 224 ((e).toNat)) + 1)) := XI.put hX trivial
        refine r_ex 6 (pc' := 268) (lo' := [some (.inr (.inr (some 203))), some (.inl e), some (.inl i), o3, some (.inl z4), some (.inl a), some (.inl c), some (.inl n), some (.inl g), some (.inl (a + 0))]) (st' := [.inl e, .inl i, .inl g, .inl c, .inl (a + 0), .inr (.inr (some 203))]) rfl ?_
        have hp_26 : 0 ≤ (a + 0) ∧ (a + 0) < 300 := (by first | assumption | omega | (unfold R32 at *; omega) | (unfold R64 at *; omega) | (simp only [R32, R64] at *; omega))
        have hp_27 : 0 ≤ c ∧ c ≤ 8 := (by first | assumption | omega | (unfold R32 at *; omega) | (unfold R64 at *; omega) | (simp only [R32, R64] at *; omega))
        have hp_28 : -1 ≤ g ∧ g ≤ 3699 := (by first | assumption | omega | (unfold R32 at *; omega) | (unfold R64 at *; omega) | (simp only [R32, R64] at *; omega))
        have hp_29 : -1 ≤ i ∧ i ≤ 299 := (by first | assumption | omega | (unfold R32 at *; omega) | (unfold R64 at *; omega) | (simp only [R32, R64] at *; omega))
        have hp_30 : -1 ≤ e ∧ e ≤ 11 := (by first | assumption | omega | (unfold R32 at *; omega) | (unfold R64 at *; omega) | (simp only [R32, R64] at *; omega))
        have hp_31 : ((v2 v 224 ((e).toNat) ((v 224 ((e).toNat)) + 1)) 203 43) < 3700 := (show (v 203 43) < 3700 from (by first | assumption | omega | (unfold R32 at *; omega) | (unfold R64 at *; omega) | (simp only [R32, R64] at *; omega)))
        have hp_32 : LK (v2 v 224 ((e).toNat) ((v 224 ((e).toNat)) + 1)) := show LK (v2 v 224 ((e).toNat) ((v 224 ((e).toNat)) + 1)) from LK.of hi_8 (fun k h1 h2 => by rw [v2_row (by omega)]) rfl
        refine r_call (m := 248) (args := [.inr (.inr (some 203)), .inl (a + 0), .inl c, .inl g, .inl i, .inl e]) (n' := 251) (pc' := 271) (lo' := [some (.inr (.inr (some 203))), some (.inl e), some (.inl i), o3, some (.inl z4), some (.inl a), some (.inl c), some (.inl n), some (.inl g), some (.inl (a + 0))]) (st' := []) (I := .invokevirtual 248) (pc0 := 268) (len := 3) rfl rfl rfl (e_mo_puts hX_25 hp_26 hp_27 hp_28 hp_29 hp_30 hp_31 hp_32) ?_
        show WV _ _ _ 271 _ [] _ (mo_puts (v2 v 224 ((e).toNat) ((v 224 ((e).toNat)) + 1)) (a + 0) c g i e) _
        have hX_33 : XI (mo_puts (v2 v 224 ((e).toNat) ((v 224 ((e).toNat)) + 1)) (a + 0) c g i e) := i_mo_puts (v := (v2 v 224 ((e).toNat) ((v 224 ((e).toNat)) + 1))) (t := (a + 0)) (c := c) (h := g) (y := i) (e := e) hX_25 hp_26 hp_27 hp_28 hp_29 hp_30 hp_31 hp_32
        have hb_34 : ((mo_puts (v2 v 224 ((e).toNat) ((v 224 ((e).toNat)) + 1)) (a + 0) c g i e) 203 43) = (v 203 43) + 1 := n0_mo_puts (v := (v2 v 224 ((e).toNat) ((v 224 ((e).toNat)) + 1))) (t := (a + 0)) (c := c) (h := g) (y := i) (e := e) hX_25 hp_26 hp_27 hp_28 hp_29 hp_30 hp_31 hp_32
        have hb_35 : ((mo_puts (v2 v 224 ((e).toNat) ((v 224 ((e).toNat)) + 1)) (a + 0) c g i e) 203 37) = (v 203 37) := n1_mo_puts (v := (v2 v 224 ((e).toNat) ((v 224 ((e).toNat)) + 1))) (t := (a + 0)) (c := c) (h := g) (y := i) (e := e) hX_25 hp_26 hp_27 hp_28 hp_29 hp_30 hp_31 hp_32
        have hl_36 := n2_mo_puts (v := (v2 v 224 ((e).toNat) ((v 224 ((e).toNat)) + 1))) (t := (a + 0)) (c := c) (h := g) (y := i) (e := e) hX_25 hp_26 hp_27 hp_28 hp_29 hp_30 hp_31 hp_32
        refine r_ret (rr := none) (I := .return_) (pc0 := 271) (len := 1) rfl rfl ?_
        exact hQ hX_33 (show ((mo_puts (v2 v 224 ((e).toNat) ((v 224 ((e).toNat)) + 1)) (a + 0) c g i e) 203 43) ≤ (v 203 43) + 1 from (by first | assumption | omega | (unfold R32 at *; omega) | (unfold R64 at *; omega) | (simp only [R32, R64] at *; omega))) (show ((mo_puts (v2 v 224 ((e).toNat) ((v 224 ((e).toNat)) + 1)) (a + 0) c g i e) 203 37) = (v 203 37) from (by first | assumption | omega | (unfold R32 at *; omega) | (unfold R64 at *; omega) | (simp only [R32, R64] at *; omega))) (hl_36)
      · show WV _ _ _ 238 _ _ _ _ _
        rw [if_neg h_235] at hQ
        refine r_ex 4 (pc' := 244) (lo' := [some (.inr (.inr (some 203))), some (.inl e), some (.inl i), o3, some (.inl z4), some (.inl a), some (.inl c), some (.inl n), some (.inl g), some (.inl (a + 0))]) (st' := [.inl 5, .inr (.inr (some 221)), .inl 5, .inr (.inr (some 221))]) rfl ?_
        refine r_iald2 (j := 0) (x := (v 221 5)) (pc' := 245) (pc0 := 244) (len := 1) rfl (s_221 _) (by first | assumption | omega | (unfold R32 at *; omega) | (unfold R64 at *; omega) | (simp only [R32, R64] at *; omega)) (by decide) rfl rfl ?_
        refine r_ex 2 (pc' := 247) (lo' := [some (.inr (.inr (some 203))), some (.inl e), some (.inl i), o3, some (.inl z4), some (.inl a), some (.inl c), some (.inl n), some (.inl g), some (.inl (a + 0))]) (st' := [.inl ((v 221 5) + 1), .inl 5, .inr (.inr (some 221))]) rfl ?_
        refine r_iast2 (pc' := 248) (pc0 := 247) (len := 1) rfl (s_221 _) (by first | assumption | omega | (unfold R32 at *; omega) | (unfold R64 at *; omega) | (simp only [R32, R64] at *; omega)) (by decide) rfl ?_
        have hX_37 : XI (v2 v 221 5 ((v 221 5) + 1)) := XI.put hX trivial
        show WV _ _ _ 248 _ _ _ (v2 v 221 5 ((v 221 5) + 1)) _
        refine r_ret (rr := none) (I := .return_) (pc0 := 248) (len := 1) rfl rfl ?_
        exact hQ hX_37 (show (v 203 43) ≤ (v 203 43) + 1 from (by first | assumption | omega | (unfold R32 at *; omega) | (unfold R64 at *; omega) | (simp only [R32, R64] at *; omega))) (show (v 203 37) = (v 203 37) from (by first | assumption | omega | (unfold R32 at *; omega) | (unfold R64 at *; omega) | (simp only [R32, R64] at *; omega))) (show LK (v2 v 221 5 ((v 221 5) + 1)) from LK.of hi_8 (fun k h1 h2 => by rw [v2_row (by omega)]) rfl)
  · show WV _ _ _ 190 _ _ _ _ _
    rw [if_pos h_187] at hQ
    refine r_ex 4 (pc' := 197) (lo' := [some (.inr (.inr (some 203))), some (.inl e), some (.inl i), o3, some (.inl z4), some (.inl a), some (.inl c), some (.inl n), some (.inl g), o9]) (st' := [.inl 6, .inr (.inr (some 221)), .inl 6, .inr (.inr (some 221))]) rfl ?_
    refine r_iald2 (j := 0) (x := (v 221 6)) (pc' := 198) (pc0 := 197) (len := 1) rfl (s_221 _) (by first | assumption | omega | (unfold R32 at *; omega) | (unfold R64 at *; omega) | (simp only [R32, R64] at *; omega)) (by decide) rfl rfl ?_
    refine r_ex 2 (pc' := 200) (lo' := [some (.inr (.inr (some 203))), some (.inl e), some (.inl i), o3, some (.inl z4), some (.inl a), some (.inl c), some (.inl n), some (.inl g), o9]) (st' := [.inl ((v 221 6) + 1), .inl 6, .inr (.inr (some 221))]) rfl ?_
    refine r_iast2 (pc' := 201) (pc0 := 200) (len := 1) rfl (s_221 _) (by first | assumption | omega | (unfold R32 at *; omega) | (unfold R64 at *; omega) | (simp only [R32, R64] at *; omega)) (by decide) rfl ?_
    have hX_38 : XI (v2 v 221 6 ((v 221 6) + 1)) := XI.put hX trivial
    show WV _ _ _ 201 _ _ _ (v2 v 221 6 ((v 221 6) + 1)) _
    refine r_ret (rr := none) (I := .return_) (pc0 := 201) (len := 1) rfl rfl ?_
    exact hQ hX_38 (show (v 203 43) ≤ (v 203 43) + 1 from (by first | assumption | omega | (unfold R32 at *; omega) | (unfold R64 at *; omega) | (simp only [R32, R64] at *; omega))) (show (v 203 37) = (v 203 37) from (by first | assumption | omega | (unfold R32 at *; omega) | (unfold R64 at *; omega) | (simp only [R32, R64] at *; omega))) (show LK (v2 v 221 6 ((v 221 6) + 1)) from LK.of hi_8 (fun k h1 h2 => by rw [v2_row (by omega)]) rfl)

theorem o_mo_goesBy_183 {rk : Nat} {v : VS} {e : Int} {i : Int} {a : Int} {c : Int} {n : Int} {g : Int} (hk : (rk < 203 ∨ 203 < rk) ∧ (rk < 221 ∨ 221 < rk) ∧ (rk < 224 ∨ 227 < rk)) : (mo_goesBy_183 v e i a c n g) rk = v rk := by
  unfold mo_goesBy_183
  by_cases hc_ : 99 < g
  · rw [if_pos hc_]
    all_goals (show (v2 v 221 6 ((v 221 6) + 1)) rk = _)
    all_goals (rw [v2_row (by omega)])
  · rw [if_neg hc_]
    by_cases hc_ : (v 203 34) = 6
    · rw [if_pos hc_]
      by_cases hc_ : (a + 0) < n
      · rw [if_pos hc_]
        all_goals (show (mo_puts (v2 v 224 ((e).toNat) ((v 224 ((e).toNat)) + 1)) (a + 0) c g i e) rk = _)
        all_goals (rw [o_mo_puts (by omega), v2_row (by omega)])
      · rw [if_neg hc_]
        all_goals (show (v2 v 221 5 ((v 221 5) + 1)) rk = _)
        all_goals (rw [v2_row (by omega)])
    · rw [if_neg hc_]
      by_cases hc_ : (a + (v 211 ((((3 * c) + 1)).toNat))) < n
      · rw [if_pos hc_]
        all_goals (show (mo_puts (v2 v 224 ((e).toNat) ((v 224 ((e).toNat)) + 1)) (a + (v 211 ((((3 * c) + 1)).toNat))) c g i e) rk = _)
        all_goals (rw [o_mo_puts (by omega), v2_row (by omega)])
      · rw [if_neg hc_]
        all_goals (show (v2 v 221 5 ((v 221 5) + 1)) rk = _)
        all_goals (rw [v2_row (by omega)])

theorem l_mo_goesBy_144 {X : PX} {d b : Nat} {Q : Option PV → Nat → VS → Prop}  : ∀ (v : VS) (e : Int) (i : Int) (h : Int) (a : Int) (c : Int) (n : Int) (o3 : Option PV) (o8 : Option PV) (o9 : Option PV), XI v → (0 ≤ e ∧ e < 12) → (0 ≤ i ∧ i < 300) → (-1 ≤ h ∧ h ≤ 3699) → (0 ≤ a ∧ a < 300) → (0 ≤ c ∧ c ≤ 8) → (0 ≤ n ∧ n ≤ 300) → (a < n) → ((v 203 43) < 3700) → (LK v) → (XI (mo_goesBy_144 v e i h a c n) → (((mo_goesBy_144 v e i h a c n) 203 43) ≤ (v 203 43) + 1) → (((mo_goesBy_144 v e i h a c n) 203 37) = (v 203 37)) → (LK (mo_goesBy_144 v e i h a c n)) → Q none b (mo_goesBy_144 v e i h a c n)) → WV X (d + 1) 251 144 [some (.inr (.inr (some 203))), some (.inl e), some (.inl i), o3, some (.inl h), some (.inl a), some (.inl c), some (.inl n), o8, o9] [] b v Q := by
  intro v e i h a c n o3 o8 o9 hX hi_0 hi_1 hi_2 hi_3 hi_4 hi_5 hi_6 hi_7 hi_8 hQ
  rw [mo_goesBy_144] at hQ
  refine r_ex 4 (pc' := 151) (lo' := [some (.inr (.inr (some 203))), some (.inl e), some (.inl i), o3, some (.inl h), some (.inl a), some (.inl c), some (.inl n), o8, o9]) (st' := [.inl 2, .inl (v 203 34), .inl h]) rfl ?_
  have hb_9 : -1 ≤ (v 203 34) ∧ (v 203 34) ≤ 6 := hX 203 34
  refine n_ic_eq (pc0 := 151) (len := 3) (t := 179) rfl (by first | assumption | omega | (unfold R32 at *; omega) | (unfold R64 at *; omega) | (simp only [R32, R64] at *; omega)) (by first | assumption | omega | (unfold R32 at *; omega) | (unfold R64 at *; omega) | (simp only [R32, R64] at *; omega)) (fun h_151 => ?_) (fun h_151 => ?_)
  · show WV _ _ _ 179 _ _ _ _ _
    rw [if_pos h_151] at hQ
    refine r_ex 3 (pc' := 183) (lo' := [some (.inr (.inr (some 203))), some (.inl e), some (.inl i), o3, some (.inl h), some (.inl a), some (.inl c), some (.inl n), some (.inl (h + 0)), o9]) (st' := []) rfl ?_
    exact l_mo_goesBy_183  v e i a c n (h + 0) _ _ _ hX (by first | assumption | omega | (unfold R32 at *; omega) | (unfold R64 at *; omega) | (simp only [R32, R64] at *; omega)) (by first | assumption | omega | (unfold R32 at *; omega) | (unfold R64 at *; omega) | (simp only [R32, R64] at *; omega)) (by first | assumption | omega | (unfold R32 at *; omega) | (unfold R64 at *; omega) | (simp only [R32, R64] at *; omega)) (by first | assumption | omega | (unfold R32 at *; omega) | (unfold R64 at *; omega) | (simp only [R32, R64] at *; omega)) (by first | assumption | omega | (unfold R32 at *; omega) | (unfold R64 at *; omega) | (simp only [R32, R64] at *; omega)) (by first | assumption | omega | (unfold R32 at *; omega) | (unfold R64 at *; omega) | (simp only [R32, R64] at *; omega)) (by first | assumption | omega | (unfold R32 at *; omega) | (unfold R64 at *; omega) | (simp only [R32, R64] at *; omega)) (show (v 203 43) < 3700 from (by first | assumption | omega | (unfold R32 at *; omega) | (unfold R64 at *; omega) | (simp only [R32, R64] at *; omega))) (hi_8) (fun hx_ p_0 p_1 p_2 => hQ hx_ (by have q_ : ((mo_goesBy_183  v e i a c n (h + 0)) 203 43) ≤ (v 203 43) + 1 := p_0; omega) (by have q_ : ((mo_goesBy_183  v e i a c n (h + 0)) 203 37) = (v 203 37) := p_1; omega) p_2)
  · show WV _ _ _ 154 _ _ _ _ _
    rw [if_neg h_151] at hQ
    refine r_ex 5 (pc' := 164) (lo' := [some (.inr (.inr (some 203))), some (.inl e), some (.inl i), o3, some (.inl h), some (.inl a), some (.inl c), some (.inl n), o8, o9]) (st' := [.inl 8, .inr (.inr (some 210)), .inr (.inr (some 217)), .inl h]) rfl ?_
    refine r_iald2 (j := 0) (x := (v 210 8)) (pc' := 165) (pc0 := 164) (len := 1) rfl (s_210 _) (by first | assumption | omega | (unfold R32 at *; omega) | (unfold R64 at *; omega) | (simp only [R32, R64] at *; omega)) (by decide) rfl rfl ?_
    have hb_39 : 0 ≤ (v 210 8) ∧ (v 210 8) ≤ 6 := hX 210 8
    refine r_ex 2 (pc' := 169) (lo' := [some (.inr (.inr (some 203))), some (.inl e), some (.inl i), o3, some (.inl h), some (.inl a), some (.inl c), some (.inl n), o8, o9]) (st' := [.inl a, .inl c, .inl (v 210 8), .inr (.inr (some 217)), .inl h]) rfl ?_
    have hp_40 : 0 ≤ (v 210 8) ∧ (v 210 8) ≤ 6 := (by first | assumption | omega | (unfold R32 at *; omega) | (unfold R64 at *; omega) | (simp only [R32, R64] at *; omega))
    have hp_41 : R32 c := (by first | assumption | omega | (unfold R32 at *; omega) | (unfold R64 at *; omega) | (simp only [R32, R64] at *; omega))
    have hp_42 : R32 a := (by first | assumption | omega | (unfold R32 at *; omega) | (unfold R64 at *; omega) | (simp only [R32, R64] at *; omega))
    refine r_call (m := 252) (args := [.inr (.inr (some 217)), .inl (v 210 8), .inl c, .inl a]) (n' := 251) (pc' := 172) (lo' := [some (.inr (.inr (some 203))), some (.inl e), some (.inl i), o3, some (.inl h), some (.inl a), some (.inl c), some (.inl n), o8, o9]) (st' := [.inl h]) (I := .invokestatic 252) (pc0 := 169) (len := 3) rfl rfl rfl (e_mo_isIn217 hX hp_40 hp_41 hp_42) ?_
    show WV _ _ _ 172 _ [.inl (mo_isIn217 v (v 210 8) c a), .inl h] _ _ _
    have hb_43 := n_mo_isIn217 (v := v) (n := (v 210 8)) (o := c) (t := a) hX hp_40 hp_41 hp_42
    refine n_if_eq (pc0 := 172) (len := 3) (t := 179) rfl (by first | assumption | omega | (unfold R32 at *; omega) | (unfold R64 at *; omega) | (simp only [R32, R64] at *; omega)) (fun h_172 => ?_) (fun h_172 => ?_)
    · show WV _ _ _ 179 _ _ _ _ _
      rw [if_pos h_172] at hQ
      refine r_ex 3 (pc' := 183) (lo' := [some (.inr (.inr (some 203))), some (.inl e), some (.inl i), o3, some (.inl h), some (.inl a), some (.inl c), some (.inl n), some (.inl (h + 0)), o9]) (st' := []) rfl ?_
      exact l_mo_goesBy_183  v e i a c n (h + 0) _ _ _ hX (by first | assumption | omega | (unfold R32 at *; omega) | (unfold R64 at *; omega) | (simp only [R32, R64] at *; omega)) (by first | assumption | omega | (unfold R32 at *; omega) | (unfold R64 at *; omega) | (simp only [R32, R64] at *; omega)) (by first | assumption | omega | (unfold R32 at *; omega) | (unfold R64 at *; omega) | (simp only [R32, R64] at *; omega)) (by first | assumption | omega | (unfold R32 at *; omega) | (unfold R64 at *; omega) | (simp only [R32, R64] at *; omega)) (by first | assumption | omega | (unfold R32 at *; omega) | (unfold R64 at *; omega) | (simp only [R32, R64] at *; omega)) (by first | assumption | omega | (unfold R32 at *; omega) | (unfold R64 at *; omega) | (simp only [R32, R64] at *; omega)) (by first | assumption | omega | (unfold R32 at *; omega) | (unfold R64 at *; omega) | (simp only [R32, R64] at *; omega)) (show (v 203 43) < 3700 from (by first | assumption | omega | (unfold R32 at *; omega) | (unfold R64 at *; omega) | (simp only [R32, R64] at *; omega))) (hi_8) (fun hx_ p_0 p_1 p_2 => hQ hx_ (by have q_ : ((mo_goesBy_183  v e i a c n (h + 0)) 203 43) ≤ (v 203 43) + 1 := p_0; omega) (by have q_ : ((mo_goesBy_183  v e i a c n (h + 0)) 203 37) = (v 203 37) := p_1; omega) p_2)
    · show WV _ _ _ 175 _ _ _ _ _
      rw [if_neg h_172] at hQ
      refine r_ex 4 (pc' := 183) (lo' := [some (.inr (.inr (some 203))), some (.inl e), some (.inl i), o3, some (.inl h), some (.inl a), some (.inl c), some (.inl n), some (.inl (h + 1)), o9]) (st' := []) rfl ?_
      exact l_mo_goesBy_183  v e i a c n (h + 1) _ _ _ hX (by first | assumption | omega | (unfold R32 at *; omega) | (unfold R64 at *; omega) | (simp only [R32, R64] at *; omega)) (by first | assumption | omega | (unfold R32 at *; omega) | (unfold R64 at *; omega) | (simp only [R32, R64] at *; omega)) (by first | assumption | omega | (unfold R32 at *; omega) | (unfold R64 at *; omega) | (simp only [R32, R64] at *; omega)) (by first | assumption | omega | (unfold R32 at *; omega) | (unfold R64 at *; omega) | (simp only [R32, R64] at *; omega)) (by first | assumption | omega | (unfold R32 at *; omega) | (unfold R64 at *; omega) | (simp only [R32, R64] at *; omega)) (by first | assumption | omega | (unfold R32 at *; omega) | (unfold R64 at *; omega) | (simp only [R32, R64] at *; omega)) (by first | assumption | omega | (unfold R32 at *; omega) | (unfold R64 at *; omega) | (simp only [R32, R64] at *; omega)) (show (v 203 43) < 3700 from (by first | assumption | omega | (unfold R32 at *; omega) | (unfold R64 at *; omega) | (simp only [R32, R64] at *; omega))) (hi_8) (fun hx_ p_0 p_1 p_2 => hQ hx_ (by have q_ : ((mo_goesBy_183  v e i a c n (h + 1)) 203 43) ≤ (v 203 43) + 1 := p_0; omega) (by have q_ : ((mo_goesBy_183  v e i a c n (h + 1)) 203 37) = (v 203 37) := p_1; omega) p_2)

theorem o_mo_goesBy_144 {rk : Nat} {v : VS} {e : Int} {i : Int} {h : Int} {a : Int} {c : Int} {n : Int} (hk : (rk < 203 ∨ 203 < rk) ∧ (rk < 221 ∨ 221 < rk) ∧ (rk < 224 ∨ 227 < rk)) : (mo_goesBy_144 v e i h a c n) rk = v rk := by
  unfold mo_goesBy_144
  by_cases hc_ : (v 203 34) = 2
  · rw [if_pos hc_]
    all_goals (rw [o_mo_goesBy_183 (by omega)])
  · rw [if_neg hc_]
    by_cases hc_ : (mo_isIn217 v (v 210 8) c a) = 0
    · rw [if_pos hc_]
      all_goals (rw [o_mo_goesBy_183 (by omega)])
    · rw [if_neg hc_]
      all_goals (rw [o_mo_goesBy_183 (by omega)])

theorem l_mo_goesBy_104 {X : PX} {d b : Nat} {Q : Option PV → Nat → VS → Prop}  : ∀ (v : VS) (e : Int) (i : Int) (h : Int) (a : Int) (c : Int) (n : Int) (o3 : Option PV) (o8 : Option PV) (o9 : Option PV), XI v → (0 ≤ e ∧ e < 12) → (0 ≤ i ∧ i < 300) → (-1 ≤ h ∧ h ≤ 3699) → (0 ≤ a ∧ a < 300) → (0 ≤ c ∧ c ≤ 8) → (0 ≤ n ∧ n ≤ 300) → (a < n) → ((v 203 43) < 3700) → (LK v) → (XI (mo_goesBy_104 v e i h a c n) → (((mo_goesBy_104 v e i h a c n) 203 43) ≤ (v 203 43) + 1) → (((mo_goesBy_104 v e i h a c n) 203 37) = (v 203 37)) → (LK (mo_goesBy_104 v e i h a c n)) → Q none b (mo_goesBy_104 v e i h a c n)) → WV X (d + 1) 251 104 [some (.inr (.inr (some 203))), some (.inl e), some (.inl i), o3, some (.inl h), some (.inl a), some (.inl c), some (.inl n), o8, o9] [] b v Q := by
  intro v e i h a c n o3 o8 o9 hX hi_0 hi_1 hi_2 hi_3 hi_4 hi_5 hi_6 hi_7 hi_8 hQ
  rw [mo_goesBy_104] at hQ
  refine r_ex 3 (pc' := 109) (lo' := [some (.inr (.inr (some 203))), some (.inl e), some (.inl i), o3, some (.inl h), some (.inl a), some (.inl c), some (.inl n), o8, o9]) (st' := [.inl 1, .inl (v 203 34)]) rfl ?_
  have hb_8 : -1 ≤ (v 203 34) ∧ (v 203 34) ≤ 6 := hX 203 34
  refine n_ic_eq (pc0 := 109) (len := 3) (t := 144) rfl (by first | assumption | omega | (unfold R32 at *; omega) | (unfold R64 at *; omega) | (simp only [R32, R64] at *; omega)) (by first | assumption | omega | (unfold R32 at *; omega) | (unfold R64 at *; omega) | (simp only [R32, R64] at *; omega)) (fun h_109 => ?_) (fun h_109 => ?_)
  · show WV _ _ _ 144 _ _ _ _ _
    rw [if_pos h_109] at hQ
    exact l_mo_goesBy_144  v e i h a c n _ _ _ hX (by first | assumption | omega | (unfold R32 at *; omega) | (unfold R64 at *; omega) | (simp only [R32, R64] at *; omega)) (by first | assumption | omega | (unfold R32 at *; omega) | (unfold R64 at *; omega) | (simp only [R32, R64] at *; omega)) (by first | assumption | omega | (unfold R32 at *; omega) | (unfold R64 at *; omega) | (simp only [R32, R64] at *; omega)) (by first | assumption | omega | (unfold R32 at *; omega) | (unfold R64 at *; omega) | (simp only [R32, R64] at *; omega)) (by first | assumption | omega | (unfold R32 at *; omega) | (unfold R64 at *; omega) | (simp only [R32, R64] at *; omega)) (by first | assumption | omega | (unfold R32 at *; omega) | (unfold R64 at *; omega) | (simp only [R32, R64] at *; omega)) (by first | assumption | omega | (unfold R32 at *; omega) | (unfold R64 at *; omega) | (simp only [R32, R64] at *; omega)) (show (v 203 43) < 3700 from (by first | assumption | omega | (unfold R32 at *; omega) | (unfold R64 at *; omega) | (simp only [R32, R64] at *; omega))) (hi_8) (fun hx_ p_0 p_1 p_2 => hQ hx_ (by have q_ : ((mo_goesBy_144  v e i h a c n) 203 43) ≤ (v 203 43) + 1 := p_0; omega) (by have q_ : ((mo_goesBy_144  v e i h a c n) 203 37) = (v 203 37) := p_1; omega) p_2)
  · show WV _ _ _ 112 _ _ _ _ _
    rw [if_neg h_109] at hQ
    refine r_ex 5 (pc' := 122) (lo' := [some (.inr (.inr (some 203))), some (.inl e), some (.inl i), o3, some (.inl h), some (.inl a), some (.inl c), some (.inl n), o8, o9]) (st' := [.inl 7, .inr (.inr (some 210)), .inr (.inr (some 216))]) rfl ?_
    refine r_iald2 (j := 0) (x := (v 210 7)) (pc' := 123) (pc0 := 122) (len := 1) rfl (s_210 _) (by first | assumption | omega | (unfold R32 at *; omega) | (unfold R64 at *; omega) | (simp only [R32, R64] at *; omega)) (by decide) rfl rfl ?_
    have hb_44 : 0 ≤ (v 210 7) ∧ (v 210 7) ≤ 6 := hX 210 7
    refine r_ex 2 (pc' := 127) (lo' := [some (.inr (.inr (some 203))), some (.inl e), some (.inl i), o3, some (.inl h), some (.inl a), some (.inl c), some (.inl n), o8, o9]) (st' := [.inl a, .inl c, .inl (v 210 7), .inr (.inr (some 216))]) rfl ?_
    have hp_45 : 0 ≤ (v 210 7) ∧ (v 210 7) ≤ 6 := (by first | assumption | omega | (unfold R32 at *; omega) | (unfold R64 at *; omega) | (simp only [R32, R64] at *; omega))
    have hp_46 : R32 c := (by first | assumption | omega | (unfold R32 at *; omega) | (unfold R64 at *; omega) | (simp only [R32, R64] at *; omega))
    have hp_47 : R32 a := (by first | assumption | omega | (unfold R32 at *; omega) | (unfold R64 at *; omega) | (simp only [R32, R64] at *; omega))
    refine r_call (m := 252) (args := [.inr (.inr (some 216)), .inl (v 210 7), .inl c, .inl a]) (n' := 251) (pc' := 130) (lo' := [some (.inr (.inr (some 203))), some (.inl e), some (.inl i), o3, some (.inl h), some (.inl a), some (.inl c), some (.inl n), o8, o9]) (st' := []) (I := .invokestatic 252) (pc0 := 127) (len := 3) rfl rfl rfl (e_mo_isIn216 hX hp_45 hp_46 hp_47) ?_
    show WV _ _ _ 130 _ [.inl (mo_isIn216 v (v 210 7) c a)] _ _ _
    have hb_48 := n_mo_isIn216 (v := v) (n := (v 210 7)) (o := c) (t := a) hX hp_45 hp_46 hp_47
    refine n_if_eq (pc0 := 130) (len := 3) (t := 144) rfl (by first | assumption | omega | (unfold R32 at *; omega) | (unfold R64 at *; omega) | (simp only [R32, R64] at *; omega)) (fun h_130 => ?_) (fun h_130 => ?_)
    · show WV _ _ _ 144 _ _ _ _ _
      rw [if_pos h_130] at hQ
      exact l_mo_goesBy_144  v e i h a c n _ _ _ hX (by first | assumption | omega | (unfold R32 at *; omega) | (unfold R64 at *; omega) | (simp only [R32, R64] at *; omega)) (by first | assumption | omega | (unfold R32 at *; omega) | (unfold R64 at *; omega) | (simp only [R32, R64] at *; omega)) (by first | assumption | omega | (unfold R32 at *; omega) | (unfold R64 at *; omega) | (simp only [R32, R64] at *; omega)) (by first | assumption | omega | (unfold R32 at *; omega) | (unfold R64 at *; omega) | (simp only [R32, R64] at *; omega)) (by first | assumption | omega | (unfold R32 at *; omega) | (unfold R64 at *; omega) | (simp only [R32, R64] at *; omega)) (by first | assumption | omega | (unfold R32 at *; omega) | (unfold R64 at *; omega) | (simp only [R32, R64] at *; omega)) (by first | assumption | omega | (unfold R32 at *; omega) | (unfold R64 at *; omega) | (simp only [R32, R64] at *; omega)) (show (v 203 43) < 3700 from (by first | assumption | omega | (unfold R32 at *; omega) | (unfold R64 at *; omega) | (simp only [R32, R64] at *; omega))) (hi_8) (fun hx_ p_0 p_1 p_2 => hQ hx_ (by have q_ : ((mo_goesBy_144  v e i h a c n) 203 43) ≤ (v 203 43) + 1 := p_0; omega) (by have q_ : ((mo_goesBy_144  v e i h a c n) 203 37) = (v 203 37) := p_1; omega) p_2)
    · show WV _ _ _ 133 _ _ _ _ _
      rw [if_neg h_130] at hQ
      refine r_ex 4 (pc' := 139) (lo' := [some (.inr (.inr (some 203))), some (.inl e), some (.inl i), o3, some (.inl h), some (.inl a), some (.inl c), some (.inl n), o8, o9]) (st' := [.inl 1, .inr (.inr (some 221)), .inl 1, .inr (.inr (some 221))]) rfl ?_
      refine r_iald2 (j := 0) (x := (v 221 1)) (pc' := 140) (pc0 := 139) (len := 1) rfl (s_221 _) (by first | assumption | omega | (unfold R32 at *; omega) | (unfold R64 at *; omega) | (simp only [R32, R64] at *; omega)) (by decide) rfl rfl ?_
      refine r_ex 2 (pc' := 142) (lo' := [some (.inr (.inr (some 203))), some (.inl e), some (.inl i), o3, some (.inl h), some (.inl a), some (.inl c), some (.inl n), o8, o9]) (st' := [.inl ((v 221 1) + 1), .inl 1, .inr (.inr (some 221))]) rfl ?_
      refine r_iast2 (pc' := 143) (pc0 := 142) (len := 1) rfl (s_221 _) (by first | assumption | omega | (unfold R32 at *; omega) | (unfold R64 at *; omega) | (simp only [R32, R64] at *; omega)) (by decide) rfl ?_
      have hX_49 : XI (v2 v 221 1 ((v 221 1) + 1)) := XI.put hX trivial
      show WV _ _ _ 143 _ _ _ (v2 v 221 1 ((v 221 1) + 1)) _
      refine r_ret (rr := none) (I := .return_) (pc0 := 143) (len := 1) rfl rfl ?_
      exact hQ hX_49 (show (v 203 43) ≤ (v 203 43) + 1 from (by first | assumption | omega | (unfold R32 at *; omega) | (unfold R64 at *; omega) | (simp only [R32, R64] at *; omega))) (show (v 203 37) = (v 203 37) from (by first | assumption | omega | (unfold R32 at *; omega) | (unfold R64 at *; omega) | (simp only [R32, R64] at *; omega))) (show LK (v2 v 221 1 ((v 221 1) + 1)) from LK.of hi_8 (fun k h1 h2 => by rw [v2_row (by omega)]) rfl)

theorem o_mo_goesBy_104 {rk : Nat} {v : VS} {e : Int} {i : Int} {h : Int} {a : Int} {c : Int} {n : Int} (hk : (rk < 203 ∨ 203 < rk) ∧ (rk < 221 ∨ 221 < rk) ∧ (rk < 224 ∨ 227 < rk)) : (mo_goesBy_104 v e i h a c n) rk = v rk := by
  unfold mo_goesBy_104
  by_cases hc_ : (v 203 34) = 1
  · rw [if_pos hc_]
    all_goals (rw [o_mo_goesBy_144 (by omega)])
  · rw [if_neg hc_]
    by_cases hc_ : (mo_isIn216 v (v 210 7) c a) = 0
    · rw [if_pos hc_]
      all_goals (rw [o_mo_goesBy_144 (by omega)])
    · rw [if_neg hc_]
      all_goals (show (v2 v 221 1 ((v 221 1) + 1)) rk = _)
      all_goals (rw [v2_row (by omega)])

theorem w_mo_goesBy {X : PX} {d b : Nat} {v : VS} {e : Int} {i : Int} {t : Int} {h : Int} (hX : XI v) (hp_a : 0 ≤ e ∧ e < 12) (hp_b : 0 ≤ i ∧ i < 300) (hp_c : 0 ≤ t ∧ t < 300) (hp_d : -1 ≤ h ∧ h ≤ 3699) (hp_e : (v 203 43) < 3700) (hp_f : LK v) (hp_g : CF v) {Q : Option PV → Nat → VS → Prop} (hQ : XI (mo_goesBy v e i t h) → (((mo_goesBy v e i t h) 203 43) ≤ (v 203 43) + 1) → (((mo_goesBy v e i t h) 203 37) = (v 203 37)) → (LK (mo_goesBy v e i t h)) → Q none b (mo_goesBy v e i t h)) : WV X (d + 1) 251 0 [some (.inr (.inr (some 203))), some (.inl e), some (.inl i), some (.inl t), some (.inl h), none, none, none, none, none] [] b v Q := by
  rw [mo_goesBy] at hQ
  refine r_ex 4 (pc' := 4) (lo' := [some (.inr (.inr (some 203))), some (.inl e), some (.inl i), some (.inl t), some (.inl h), none, none, none, none, none]) (st' := [.inl t, .inl e, .inr (.inr (some 203)), .inl t]) rfl ?_
  have hp_1 : 0 ≤ e ∧ e < 12 := (by first | assumption | omega | (unfold R32 at *; omega) | (unfold R64 at *; omega) | (simp only [R32, R64] at *; omega))
  have hp_2 : 0 ≤ t ∧ t < 300 := (by first | assumption | omega | (unfold R32 at *; omega) | (unfold R64 at *; omega) | (simp only [R32, R64] at *; omega))
  refine r_call (m := 243) (args := [.inr (.inr (some 203)), .inl e, .inl t]) (n' := 251) (pc' := 7) (lo' := [some (.inr (.inr (some 203))), some (.inl e), some (.inl i), some (.inl t), some (.inl h), none, none, none, none, none]) (st' := [.inl t]) (I := .invokevirtual 243) (pc0 := 4) (len := 3) rfl rfl rfl (e_mo_takesOf hX hp_1 hp_2) ?_
  show WV _ _ _ 7 _ [.inl (mo_takesOf v e t), .inl t] _ _ _
  have hb_3 := n_mo_takesOf (v := v) (e := e) (t := t) hX hp_1 hp_2
  refine r_ex 7 (pc' := 17) (lo' := [some (.inr (.inr (some 203))), some (.inl e), some (.inl i), some (.inl t), some (.inl h), some (.inl (t + (mo_takesOf v e t))), none, none, none, none]) (st' := [.inl (4 * e), .inr (.inr (some 212))]) rfl ?_
  refine r_iald2 (j := 0) (x := (v 212 (((4 * e)).toNat))) (pc' := 18) (pc0 := 17) (len := 1) rfl (s_212 _) (by first | assumption | omega | (unfold R32 at *; omega) | (unfold R64 at *; omega) | (simp only [R32, R64] at *; omega)) (by decide) rfl rfl ?_
  have hb_4 : 0 ≤ (v 212 (((4 * e)).toNat)) ∧ (v 212 (((4 * e)).toNat)) ≤ 60 := hX 212 (((4 * e)).toNat)
  have he_ : 0 ≤ (v 212 (((4 * e)).toNat)) ∧ (v 212 (((4 * e)).toNat)) ≤ 8 := CF.ear (hp_g) (by omega)
  refine r_ex 4 (pc' := 25) (lo' := [some (.inr (.inr (some 203))), some (.inl e), some (.inl i), some (.inl t), some (.inl h), some (.inl (t + (mo_takesOf v e t))), some (.inl (v 212 (((4 * e)).toNat))), none, none, none]) (st' := [.inl 1, .inr (.inr (some 210))]) rfl ?_
  refine r_iald2 (j := 0) (x := (v 210 1)) (pc' := 26) (pc0 := 25) (len := 1) rfl (s_210 _) (by first | assumption | omega | (unfold R32 at *; omega) | (unfold R64 at *; omega) | (simp only [R32, R64] at *; omega)) (by decide) rfl rfl ?_
  have hb_5 : 0 ≤ (v 210 1) ∧ (v 210 1) ≤ 300 := hX 210 1
  refine r_ex 5 (pc' := 34) (lo' := [some (.inr (.inr (some 203))), some (.inl e), some (.inl i), some (.inl t), some (.inl h), some (.inl (t + (mo_takesOf v e t))), some (.inl (v 212 (((4 * e)).toNat))), some (.inl (v 210 1)), none, none]) (st' := [.inl e, .inr (.inr (some 222)), .inl e, .inr (.inr (some 222))]) rfl ?_
  refine r_iald2 (j := 0) (x := (v 222 ((e).toNat))) (pc' := 35) (pc0 := 34) (len := 1) rfl (s_222 _) (by first | assumption | omega | (unfold R32 at *; omega) | (unfold R64 at *; omega) | (simp only [R32, R64] at *; omega)) (by decide) rfl rfl ?_
  refine r_ex 2 (pc' := 37) (lo' := [some (.inr (.inr (some 203))), some (.inl e), some (.inl i), some (.inl t), some (.inl h), some (.inl (t + (mo_takesOf v e t))), some (.inl (v 212 (((4 * e)).toNat))), some (.inl (v 210 1)), none, none]) (st' := [.inl ((v 222 ((e).toNat)) + 1), .inl e, .inr (.inr (some 222))]) rfl ?_
  refine r_iast2 (pc' := 38) (pc0 := 37) (len := 1) rfl (s_222 _) (by first | assumption | omega | (unfold R32 at *; omega) | (unfold R64 at *; omega) | (simp only [R32, R64] at *; omega)) (by decide) rfl ?_
  have hX_6 : XI (v2 v 222 ((e).toNat) ((v 222 ((e).toNat)) + 1)) := XI.put hX trivial
  refine r_ex 2 (pc' := 42) (lo' := [some (.inr (.inr (some 203))), some (.inl e), some (.inl i), some (.inl t), some (.inl h), some (.inl (t + (mo_takesOf v e t))), some (.inl (v 212 (((4 * e)).toNat))), some (.inl (v 210 1)), none, none]) (st' := [.inl (v 210 1), .inl (t + (mo_takesOf v e t))]) rfl ?_
  refine n_ic_lt (pc0 := 42) (len := 3) (t := 56) rfl (by first | assumption | omega | (unfold R32 at *; omega) | (unfold R64 at *; omega) | (simp only [R32, R64] at *; omega)) (by first | assumption | omega | (unfold R32 at *; omega) | (unfold R64 at *; omega) | (simp only [R32, R64] at *; omega)) (fun h_42 => ?_) (fun h_42 => ?_)
  · show WV _ _ _ 56 _ _ _ _ _
    rw [if_pos h_42] at hQ
    refine r_ex 2 (pc' := 60) (lo' := [some (.inr (.inr (some 203))), some (.inl e), some (.inl i), some (.inl t), some (.inl h), some (.inl (t + (mo_takesOf v e t))), some (.inl (v 212 (((4 * e)).toNat))), some (.inl (v 210 1)), none, none]) (st' := [.inl (v 203 34)]) rfl ?_
    have hb_7 : -1 ≤ (v 203 34) ∧ (v 203 34) ≤ 6 := hX_6 203 34
    refine n_if_eq (pc0 := 60) (len := 3) (t := 104) rfl (by first | assumption | omega | (unfold R32 at *; omega) | (unfold R64 at *; omega) | (simp only [R32, R64] at *; omega)) (fun h_60 => ?_) (fun h_60 => ?_)
    · show WV _ _ _ 104 _ _ _ _ _
      rw [if_pos h_60] at hQ
      exact l_mo_goesBy_104  (v2 v 222 ((e).toNat) ((v 222 ((e).toNat)) + 1)) e i h (t + (mo_takesOf v e t)) (v 212 (((4 * e)).toNat)) (v 210 1) _ _ _ hX_6 (by first | assumption | omega | (unfold R32 at *; omega) | (unfold R64 at *; omega) | (simp only [R32, R64] at *; omega)) (by first | assumption | omega | (unfold R32 at *; omega) | (unfold R64 at *; omega) | (simp only [R32, R64] at *; omega)) (by first | assumption | omega | (unfold R32 at *; omega) | (unfold R64 at *; omega) | (simp only [R32, R64] at *; omega)) (by first | assumption | omega | (unfold R32 at *; omega) | (unfold R64 at *; omega) | (simp only [R32, R64] at *; omega)) (by first | assumption | omega | (unfold R32 at *; omega) | (unfold R64 at *; omega) | (simp only [R32, R64] at *; omega)) (by first | assumption | omega | (unfold R32 at *; omega) | (unfold R64 at *; omega) | (simp only [R32, R64] at *; omega)) (by first | assumption | omega | (unfold R32 at *; omega) | (unfold R64 at *; omega) | (simp only [R32, R64] at *; omega)) (show (v 203 43) < 3700 from (by first | assumption | omega | (unfold R32 at *; omega) | (unfold R64 at *; omega) | (simp only [R32, R64] at *; omega))) (show LK (v2 v 222 ((e).toNat) ((v 222 ((e).toNat)) + 1)) from LK.of hp_f (fun k h1 h2 => by rw [v2_row (by omega)]) rfl) (fun hx_ p_0 p_1 p_2 => hQ hx_ (by have q_ : ((mo_goesBy_104  (v2 v 222 ((e).toNat) ((v 222 ((e).toNat)) + 1)) e i h (t + (mo_takesOf v e t)) (v 212 (((4 * e)).toNat)) (v 210 1)) 203 43) ≤ (v 203 43) + 1 := p_0; omega) (by have q_ : ((mo_goesBy_104  (v2 v 222 ((e).toNat) ((v 222 ((e).toNat)) + 1)) e i h (t + (mo_takesOf v e t)) (v 212 (((4 * e)).toNat)) (v 210 1)) 203 37) = (v 203 37) := p_1; omega) p_2)
    · show WV _ _ _ 63 _ _ _ _ _
      rw [if_neg h_60] at hQ
      refine r_ex 5 (pc' := 73) (lo' := [some (.inr (.inr (some 203))), some (.inl e), some (.inl i), some (.inl t), some (.inl h), some (.inl (t + (mo_takesOf v e t))), some (.inl (v 212 (((4 * e)).toNat))), some (.inl (v 210 1)), none, none]) (st' := [.inl 6, .inr (.inr (some 210)), .inr (.inr (some 215))]) rfl ?_
      refine r_iald2 (j := 0) (x := (v 210 6)) (pc' := 74) (pc0 := 73) (len := 1) rfl (s_210 _) (by first | assumption | omega | (unfold R32 at *; omega) | (unfold R64 at *; omega) | (simp only [R32, R64] at *; omega)) (by decide) rfl rfl ?_
      have hb_50 : 0 ≤ (v 210 6) ∧ (v 210 6) ≤ 6 := hX_6 210 6
      refine r_ex 2 (pc' := 77) (lo' := [some (.inr (.inr (some 203))), some (.inl e), some (.inl i), some (.inl t), some (.inl h), some (.inl (t + (mo_takesOf v e t))), some (.inl (v 212 (((4 * e)).toNat))), some (.inl (v 210 1)), none, none]) (st' := [.inl (t + (mo_takesOf v e t)), .inl e, .inl (v 210 6), .inr (.inr (some 215))]) rfl ?_
      have hp_51 : 0 ≤ (v 210 6) ∧ (v 210 6) ≤ 6 := (by first | assumption | omega | (unfold R32 at *; omega) | (unfold R64 at *; omega) | (simp only [R32, R64] at *; omega))
      have hp_52 : R32 e := (by first | assumption | omega | (unfold R32 at *; omega) | (unfold R64 at *; omega) | (simp only [R32, R64] at *; omega))
      have hp_53 : R32 (t + (mo_takesOf v e t)) := (by first | assumption | omega | (unfold R32 at *; omega) | (unfold R64 at *; omega) | (simp only [R32, R64] at *; omega))
      refine r_call (m := 252) (args := [.inr (.inr (some 215)), .inl (v 210 6), .inl e, .inl (t + (mo_takesOf v e t))]) (n' := 251) (pc' := 80) (lo' := [some (.inr (.inr (some 203))), some (.inl e), some (.inl i), some (.inl t), some (.inl h), some (.inl (t + (mo_takesOf v e t))), some (.inl (v 212 (((4 * e)).toNat))), some (.inl (v 210 1)), none, none]) (st' := []) (I := .invokestatic 252) (pc0 := 77) (len := 3) rfl rfl rfl (e_mo_isIn215 hX_6 hp_51 hp_52 hp_53) ?_
      show WV _ _ _ 80 _ [.inl (mo_isIn215 (v2 v 222 ((e).toNat) ((v 222 ((e).toNat)) + 1)) (v 210 6) e (t + (mo_takesOf v e t)))] _ _ _
      have hb_54 := n_mo_isIn215 (v := (v2 v 222 ((e).toNat) ((v 222 ((e).toNat)) + 1))) (n := (v 210 6)) (o := e) (t := (t + (mo_takesOf v e t))) hX_6 hp_51 hp_52 hp_53
      refine n_if_eq (pc0 := 80) (len := 3) (t := 104) rfl (by first | assumption | omega | (unfold R32 at *; omega) | (unfold R64 at *; omega) | (simp only [R32, R64] at *; omega)) (fun h_80 => ?_) (fun h_80 => ?_)
      · show WV _ _ _ 104 _ _ _ _ _
        rw [if_pos h_80] at hQ
        exact l_mo_goesBy_104  (v2 v 222 ((e).toNat) ((v 222 ((e).toNat)) + 1)) e i h (t + (mo_takesOf v e t)) (v 212 (((4 * e)).toNat)) (v 210 1) _ _ _ hX_6 (by first | assumption | omega | (unfold R32 at *; omega) | (unfold R64 at *; omega) | (simp only [R32, R64] at *; omega)) (by first | assumption | omega | (unfold R32 at *; omega) | (unfold R64 at *; omega) | (simp only [R32, R64] at *; omega)) (by first | assumption | omega | (unfold R32 at *; omega) | (unfold R64 at *; omega) | (simp only [R32, R64] at *; omega)) (by first | assumption | omega | (unfold R32 at *; omega) | (unfold R64 at *; omega) | (simp only [R32, R64] at *; omega)) (by first | assumption | omega | (unfold R32 at *; omega) | (unfold R64 at *; omega) | (simp only [R32, R64] at *; omega)) (by first | assumption | omega | (unfold R32 at *; omega) | (unfold R64 at *; omega) | (simp only [R32, R64] at *; omega)) (by first | assumption | omega | (unfold R32 at *; omega) | (unfold R64 at *; omega) | (simp only [R32, R64] at *; omega)) (show (v 203 43) < 3700 from (by first | assumption | omega | (unfold R32 at *; omega) | (unfold R64 at *; omega) | (simp only [R32, R64] at *; omega))) (show LK (v2 v 222 ((e).toNat) ((v 222 ((e).toNat)) + 1)) from LK.of hp_f (fun k h1 h2 => by rw [v2_row (by omega)]) rfl) (fun hx_ p_0 p_1 p_2 => hQ hx_ (by have q_ : ((mo_goesBy_104  (v2 v 222 ((e).toNat) ((v 222 ((e).toNat)) + 1)) e i h (t + (mo_takesOf v e t)) (v 212 (((4 * e)).toNat)) (v 210 1)) 203 43) ≤ (v 203 43) + 1 := p_0; omega) (by have q_ : ((mo_goesBy_104  (v2 v 222 ((e).toNat) ((v 222 ((e).toNat)) + 1)) e i h (t + (mo_takesOf v e t)) (v 212 (((4 * e)).toNat)) (v 210 1)) 203 37) = (v 203 37) := p_1; omega) p_2)
      · show WV _ _ _ 83 _ _ _ _ _
        rw [if_neg h_80] at hQ
        refine r_ex 4 (pc' := 89) (lo' := [some (.inr (.inr (some 203))), some (.inl e), some (.inl i), some (.inl t), some (.inl h), some (.inl (t + (mo_takesOf v e t))), some (.inl (v 212 (((4 * e)).toNat))), some (.inl (v 210 1)), none, none]) (st' := [.inl e, .inr (.inr (some 223)), .inl e, .inr (.inr (some 223))]) rfl ?_
        refine r_iald2 (j := 0) (x := (v 223 ((e).toNat))) (pc' := 90) (pc0 := 89) (len := 1) rfl (s_223 _) (by first | assumption | omega | (unfold R32 at *; omega) | (unfold R64 at *; omega) | (simp only [R32, R64] at *; omega)) (by decide) rfl rfl ?_
        refine r_ex 2 (pc' := 92) (lo' := [some (.inr (.inr (some 203))), some (.inl e), some (.inl i), some (.inl t), some (.inl h), some (.inl (t + (mo_takesOf v e t))), some (.inl (v 212 (((4 * e)).toNat))), some (.inl (v 210 1)), none, none]) (st' := [.inl ((v 223 ((e).toNat)) + 1), .inl e, .inr (.inr (some 223))]) rfl ?_
        refine r_iast2 (pc' := 93) (pc0 := 92) (len := 1) rfl (s_223 _) (by first | assumption | omega | (unfold R32 at *; omega) | (unfold R64 at *; omega) | (simp only [R32, R64] at *; omega)) (by decide) rfl ?_
        have hX_55 : XI (v2 (v2 v 222 ((e).toNat) ((v 222 ((e).toNat)) + 1)) 223 ((e).toNat) ((v 223 ((e).toNat)) + 1)) := XI.put hX_6 trivial
        refine r_ex 4 (pc' := 99) (lo' := [some (.inr (.inr (some 203))), some (.inl e), some (.inl i), some (.inl t), some (.inl h), some (.inl (t + (mo_takesOf v e t))), some (.inl (v 212 (((4 * e)).toNat))), some (.inl (v 210 1)), none, none]) (st' := [.inl 0, .inr (.inr (some 221)), .inl 0, .inr (.inr (some 221))]) rfl ?_
        refine r_iald2 (j := 0) (x := (v 221 0)) (pc' := 100) (pc0 := 99) (len := 1) rfl (s_221 _) (by first | assumption | omega | (unfold R32 at *; omega) | (unfold R64 at *; omega) | (simp only [R32, R64] at *; omega)) (by decide) rfl rfl ?_
        refine r_ex 2 (pc' := 102) (lo' := [some (.inr (.inr (some 203))), some (.inl e), some (.inl i), some (.inl t), some (.inl h), some (.inl (t + (mo_takesOf v e t))), some (.inl (v 212 (((4 * e)).toNat))), some (.inl (v 210 1)), none, none]) (st' := [.inl ((v 221 0) + 1), .inl 0, .inr (.inr (some 221))]) rfl ?_
        refine r_iast2 (pc' := 103) (pc0 := 102) (len := 1) rfl (s_221 _) (by first | assumption | omega | (unfold R32 at *; omega) | (unfold R64 at *; omega) | (simp only [R32, R64] at *; omega)) (by decide) rfl ?_
        have hX_56 : XI (v2 (v2 (v2 v 222 ((e).toNat) ((v 222 ((e).toNat)) + 1)) 223 ((e).toNat) ((v 223 ((e).toNat)) + 1)) 221 0 ((v 221 0) + 1)) := XI.put hX_55 trivial
        show WV _ _ _ 103 _ _ _ (v2 (v2 (v2 v 222 ((e).toNat) ((v 222 ((e).toNat)) + 1)) 223 ((e).toNat) ((v 223 ((e).toNat)) + 1)) 221 0 ((v 221 0) + 1)) _
        refine r_ret (rr := none) (I := .return_) (pc0 := 103) (len := 1) rfl rfl ?_
        exact hQ hX_56 (show (v 203 43) ≤ (v 203 43) + 1 from (by first | assumption | omega | (unfold R32 at *; omega) | (unfold R64 at *; omega) | (simp only [R32, R64] at *; omega))) (show (v 203 37) = (v 203 37) from (by first | assumption | omega | (unfold R32 at *; omega) | (unfold R64 at *; omega) | (simp only [R32, R64] at *; omega))) (show LK (v2 (v2 (v2 v 222 ((e).toNat) ((v 222 ((e).toNat)) + 1)) 223 ((e).toNat) ((v 223 ((e).toNat)) + 1)) 221 0 ((v 221 0) + 1)) from LK.of hp_f (fun k h1 h2 => by rw [v2_row (by omega), v2_row (by omega), v2_row (by omega)]) rfl)
  · show WV _ _ _ 45 _ _ _ _ _
    rw [if_neg h_42] at hQ
    refine r_ex 4 (pc' := 51) (lo' := [some (.inr (.inr (some 203))), some (.inl e), some (.inl i), some (.inl t), some (.inl h), some (.inl (t + (mo_takesOf v e t))), some (.inl (v 212 (((4 * e)).toNat))), some (.inl (v 210 1)), none, none]) (st' := [.inl 5, .inr (.inr (some 221)), .inl 5, .inr (.inr (some 221))]) rfl ?_
    refine r_iald2 (j := 0) (x := (v 221 5)) (pc' := 52) (pc0 := 51) (len := 1) rfl (s_221 _) (by first | assumption | omega | (unfold R32 at *; omega) | (unfold R64 at *; omega) | (simp only [R32, R64] at *; omega)) (by decide) rfl rfl ?_
    refine r_ex 2 (pc' := 54) (lo' := [some (.inr (.inr (some 203))), some (.inl e), some (.inl i), some (.inl t), some (.inl h), some (.inl (t + (mo_takesOf v e t))), some (.inl (v 212 (((4 * e)).toNat))), some (.inl (v 210 1)), none, none]) (st' := [.inl ((v 221 5) + 1), .inl 5, .inr (.inr (some 221))]) rfl ?_
    refine r_iast2 (pc' := 55) (pc0 := 54) (len := 1) rfl (s_221 _) (by first | assumption | omega | (unfold R32 at *; omega) | (unfold R64 at *; omega) | (simp only [R32, R64] at *; omega)) (by decide) rfl ?_
    have hX_57 : XI (v2 (v2 v 222 ((e).toNat) ((v 222 ((e).toNat)) + 1)) 221 5 ((v 221 5) + 1)) := XI.put hX_6 trivial
    show WV _ _ _ 55 _ _ _ (v2 (v2 v 222 ((e).toNat) ((v 222 ((e).toNat)) + 1)) 221 5 ((v 221 5) + 1)) _
    refine r_ret (rr := none) (I := .return_) (pc0 := 55) (len := 1) rfl rfl ?_
    exact hQ hX_57 (show (v 203 43) ≤ (v 203 43) + 1 from (by first | assumption | omega | (unfold R32 at *; omega) | (unfold R64 at *; omega) | (simp only [R32, R64] at *; omega))) (show (v 203 37) = (v 203 37) from (by first | assumption | omega | (unfold R32 at *; omega) | (unfold R64 at *; omega) | (simp only [R32, R64] at *; omega))) (show LK (v2 (v2 v 222 ((e).toNat) ((v 222 ((e).toNat)) + 1)) 221 5 ((v 221 5) + 1)) from LK.of hp_f (fun k h1 h2 => by rw [v2_row (by omega), v2_row (by omega)]) rfl)

theorem e_mo_goesBy {X : PX} {d b : Nat} {v : VS} {e : Int} {i : Int} {t : Int} {h : Int} (hX : XI v) (hp_a : 0 ≤ e ∧ e < 12) (hp_b : 0 ≤ i ∧ i < 300) (hp_c : 0 ≤ t ∧ t < 300) (hp_d : -1 ≤ h ∧ h ≤ 3699) (hp_e : (v 203 43) < 3700) (hp_f : LK v) (hp_g : CF v) : EvV X (d + 1) 251 [.inr (.inr (some 203)), .inl e, .inl i, .inl t, .inl h] b v none b (mo_goesBy v e i t h) := EvV.of (w_mo_goesBy hX hp_a hp_b hp_c hp_d hp_e hp_f hp_g (fun _ _ _ _ => ⟨rfl, rfl, rfl⟩))

theorem i_mo_goesBy {v : VS} {e : Int} {i : Int} {t : Int} {h : Int} (hX : XI v) (hp_a : 0 ≤ e ∧ e < 12) (hp_b : 0 ≤ i ∧ i < 300) (hp_c : 0 ≤ t ∧ t < 300) (hp_d : -1 ≤ h ∧ h ≤ 3699) (hp_e : (v 203 43) < 3700) (hp_f : LK v) (hp_g : CF v) : XI (mo_goesBy v e i t h) := by
  have q : WV (0, fun _ => 0, none) (0 + 1) 251 0 [some (.inr (.inr (some 203))), some (.inl e), some (.inl i), some (.inl t), some (.inl h), none, none, none, none, none] [] 1 v (fun _ _ _ => XI (mo_goesBy v e i t h)) := w_mo_goesBy (X := (0, fun _ => 0, none)) (d := 0) (b := 1) hX hp_a hp_b hp_c hp_d hp_e hp_f hp_g (fun q _ _ _ => q)
  obtain ⟨_, _, _, _, _, _, _, q⟩ := q
  exact q

theorem n0_mo_goesBy {v : VS} {e : Int} {i : Int} {t : Int} {h : Int} (hX : XI v) (hp_a : 0 ≤ e ∧ e < 12) (hp_b : 0 ≤ i ∧ i < 300) (hp_c : 0 ≤ t ∧ t < 300) (hp_d : -1 ≤ h ∧ h ≤ 3699) (hp_e : (v 203 43) < 3700) (hp_f : LK v) (hp_g : CF v) : ((mo_goesBy v e i t h) 203 43) ≤ (v 203 43) + 1 := by
  have q : WV (0, fun _ => 0, none) (0 + 1) 251 0 [some (.inr (.inr (some 203))), some (.inl e), some (.inl i), some (.inl t), some (.inl h), none, none, none, none, none] [] 1 v (fun _ _ _ => ((mo_goesBy v e i t h) 203 43) ≤ (v 203 43) + 1) := w_mo_goesBy (X := (0, fun _ => 0, none)) (d := 0) (b := 1) hX hp_a hp_b hp_c hp_d hp_e hp_f hp_g (fun _ q _ _ => q)
  obtain ⟨_, _, _, _, _, _, _, q⟩ := q
  exact q

theorem n1_mo_goesBy {v : VS} {e : Int} {i : Int} {t : Int} {h : Int} (hX : XI v) (hp_a : 0 ≤ e ∧ e < 12) (hp_b : 0 ≤ i ∧ i < 300) (hp_c : 0 ≤ t ∧ t < 300) (hp_d : -1 ≤ h ∧ h ≤ 3699) (hp_e : (v 203 43) < 3700) (hp_f : LK v) (hp_g : CF v) : ((mo_goesBy v e i t h) 203 37) = (v 203 37) := by
  have q : WV (0, fun _ => 0, none) (0 + 1) 251 0 [some (.inr (.inr (some 203))), some (.inl e), some (.inl i), some (.inl t), some (.inl h), none, none, none, none, none] [] 1 v (fun _ _ _ => ((mo_goesBy v e i t h) 203 37) = (v 203 37)) := w_mo_goesBy (X := (0, fun _ => 0, none)) (d := 0) (b := 1) hX hp_a hp_b hp_c hp_d hp_e hp_f hp_g (fun _ _ q _ => q)
  obtain ⟨_, _, _, _, _, _, _, q⟩ := q
  exact q

theorem n2_mo_goesBy {v : VS} {e : Int} {i : Int} {t : Int} {h : Int} (hX : XI v) (hp_a : 0 ≤ e ∧ e < 12) (hp_b : 0 ≤ i ∧ i < 300) (hp_c : 0 ≤ t ∧ t < 300) (hp_d : -1 ≤ h ∧ h ≤ 3699) (hp_e : (v 203 43) < 3700) (hp_f : LK v) (hp_g : CF v) : LK (mo_goesBy v e i t h) := by
  have q : WV (0, fun _ => 0, none) (0 + 1) 251 0 [some (.inr (.inr (some 203))), some (.inl e), some (.inl i), some (.inl t), some (.inl h), none, none, none, none, none] [] 1 v (fun _ _ _ => LK (mo_goesBy v e i t h)) := w_mo_goesBy (X := (0, fun _ => 0, none)) (d := 0) (b := 1) hX hp_a hp_b hp_c hp_d hp_e hp_f hp_g (fun _ _ _ q => q)
  obtain ⟨_, _, _, _, _, _, _, q⟩ := q
  exact q

theorem o_mo_goesBy {rk : Nat} {v : VS} {e : Int} {i : Int} {t : Int} {h : Int} (hk : (rk < 203 ∨ 203 < rk) ∧ (rk < 221 ∨ 227 < rk)) : (mo_goesBy v e i t h) rk = v rk := by
  unfold mo_goesBy
  by_cases hc_ : (t + (mo_takesOf v e t)) < (v 210 1)
  · rw [if_pos hc_]
    by_cases hc_ : (v 203 34) = 0
    · rw [if_pos hc_]
      all_goals (rw [o_mo_goesBy_104 (by omega), v2_row (by omega)])
    · rw [if_neg hc_]
      by_cases hc_ : (mo_isIn215 (v2 v 222 ((e).toNat) ((v 222 ((e).toNat)) + 1)) (v 210 6) e (t + (mo_takesOf v e t))) = 0
      · rw [if_pos hc_]
        all_goals (rw [o_mo_goesBy_104 (by omega), v2_row (by omega)])
      · rw [if_neg hc_]
        all_goals (show (v2 (v2 (v2 v 222 ((e).toNat) ((v 222 ((e).toNat)) + 1)) 223 ((e).toNat) ((v 223 ((e).toNat)) + 1)) 221 0 ((v 221 0) + 1)) rk = _)
        all_goals (rw [v2_row (by omega), v2_row (by omega), v2_row (by omega)])
  · rw [if_neg hc_]
    all_goals (show (v2 (v2 v 222 ((e).toNat) ((v 222 ((e).toNat)) + 1)) 221 5 ((v 221 5) + 1)) rk = _)
    all_goals (rw [v2_row (by omega), v2_row (by omega)])

def mo_strikesAt_167 : Nat → VS → Int → Int → Int → Int → Int → VS
  | 0, v, t, c, k, i, e => v
  | f + 1, v, t, c, k, i, e => (if e < (v 210 3) then (if (v 212 ((((4 * e) + 1)).toNat)) = c then (if (bt (v 203 31) e) = 0 then (mo_strikesAt_167 f (mo_goesBy v e i t (v 225 (((k + 1)).toNat))) t c k i (e + 1)) else (mo_strikesAt_167 f v t c k i (e + 1))) else (mo_strikesAt_167 f v t c k i (e + 1))) else v)
def mo_strikesAt_134 (v : VS) (t : Int) (c : Int) (k : Int) (i : Int) : VS :=
  (if (v 203 37) = 300 then (v2 v 231 ((c).toNat) ((v 231 ((c).toNat)) + 1)) else (if i = (v 203 35) then (v2 v 231 ((c).toNat) ((v 231 ((c).toNat)) + 1)) else (mo_strikesAt_167 13 (v2 v 231 ((c).toNat) ((v 231 ((c).toNat)) + 1)) t c k i 0)))
def mo_strikesAt (v : VS) (t : Int) (c : Int) (k : Int) : VS :=
  (if (v 230 ((c).toNat)) = (-1) then (mo_strikesAt_134  (v2 (v2 (v2 (v2 (v2 (v2 (v2 (v2 (v2 v 220 (((5 * (v 203 37))).toNat) t) 220 ((((5 * (v 203 37)) + 1)).toNat) c) 220 ((((5 * (v 203 37)) + 2)).toNat) (v 225 (((k + 1)).toNat))) 220 ((((5 * (v 203 37)) + 3)).toNat) (v 225 (((k + 2)).toNat))) 220 ((((5 * (v 203 37)) + 4)).toNat) (v 225 (((k + 3)).toNat))) 203 37 ((v 203 37) + 1)) 228 ((c).toNat) t) 229 ((c).toNat) (v 225 (((k + 1)).toNat))) 230 ((c).toNat) (v 203 37)) t c k (v 203 37)) else (mo_strikesAt_134  (v2 (v2 (v2 (v2 (v2 (v2 (v2 (v2 v 220 (((5 * (v 203 37))).toNat) t) 220 ((((5 * (v 203 37)) + 1)).toNat) c) 220 ((((5 * (v 203 37)) + 2)).toNat) (v 225 (((k + 1)).toNat))) 220 ((((5 * (v 203 37)) + 3)).toNat) (v 225 (((k + 2)).toNat))) 220 ((((5 * (v 203 37)) + 4)).toNat) (v 225 (((k + 3)).toNat))) 203 37 ((v 203 37) + 1)) 228 ((c).toNat) t) 229 ((c).toNat) (v 225 (((k + 1)).toNat))) t c k (v 203 37)))
theorem l_mo_strikesAt_167 {X : PX} {d b : Nat} {Q : Option PV → Nat → VS → Prop}  : ∀ (f : Nat) (v : VS) (t : Int) (c : Int) (k : Int) (i : Int) (e : Int), XI v → (0 ≤ t ∧ t < 300) → (0 ≤ c ∧ c ≤ 8) → (0 ≤ k ∧ k ≤ 18495) → (0 ≤ i ∧ i < 299) → ((v 203 37) = i + 1) → ((v 203 43) ≤ 5 + 12 * i + e) → (0 ≤ e ∧ e ≤ 12) → (LK v) → (CF v) → (12 < e + f) → (XI (mo_strikesAt_167 f v t c k i e) → (((mo_strikesAt_167 f v t c k i e) 203 43) ≤ 5 + 12 * ((mo_strikesAt_167 f v t c k i e) 203 37)) → (LK (mo_strikesAt_167 f v t c k i e)) → Q none b (mo_strikesAt_167 f v t c k i e)) → WV X (d + 1 + 1) 250 167 [some (.inr (.inr (some 203))), some (.inl t), some (.inl c), some (.inl k), some (.inl i), some (.inl e)] [] b v Q := by
  intro f
  induction f with
  | zero =>
    intro v t c k i e hX hi_0 hi_1 hi_2 hi_3 hi_4 hi_5 hi_6 hi_7 hi_8 hf hQ
    exfalso
    omega
  | succ f ih =>
    intro v t c k i e hX hi_0 hi_1 hi_2 hi_3 hi_4 hi_5 hi_6 hi_7 hi_8 hf hQ
    rw [mo_strikesAt_167] at hQ
    refine r_ex 4 (pc' := 174) (lo' := [some (.inr (.inr (some 203))), some (.inl t), some (.inl c), some (.inl k), some (.inl i), some (.inl e)]) (st' := [.inl 3, .inr (.inr (some 210)), .inl e]) rfl ?_
    refine r_iald2 (j := 0) (x := (v 210 3)) (pc' := 175) (pc0 := 174) (len := 1) rfl (s_210 _) (by first | assumption | omega | (unfold R32 at *; omega) | (unfold R64 at *; omega) | (simp only [R32, R64] at *; omega)) (by decide) rfl rfl ?_
    have hb_19 : 0 ≤ (v 210 3) ∧ (v 210 3) ≤ 12 := hX 210 3
    refine n_ic_ge (pc0 := 175) (len := 3) (t := 228) rfl (by first | assumption | omega | (unfold R32 at *; omega) | (unfold R64 at *; omega) | (simp only [R32, R64] at *; omega)) (by first | assumption | omega | (unfold R32 at *; omega) | (unfold R64 at *; omega) | (simp only [R32, R64] at *; omega)) (fun h_175 => ?_) (fun h_175 => ?_)
    · show WV _ _ _ 228 _ _ _ _ _
      rw [if_neg h_175] at hQ
      refine r_ret (rr := none) (I := .return_) (pc0 := 228) (len := 1) rfl rfl ?_
      exact hQ hX (show (v 203 43) ≤ 5 + 12 * (v 203 37) from (by first | assumption | omega | (unfold R32 at *; omega) | (unfold R64 at *; omega) | (simp only [R32, R64] at *; omega))) (hi_7)
    · show WV _ _ _ 178 _ _ _ _ _
      rw [if_pos h_175] at hQ
      refine r_ex 7 (pc' := 188) (lo' := [some (.inr (.inr (some 203))), some (.inl t), some (.inl c), some (.inl k), some (.inl i), some (.inl e)]) (st' := [.inl ((4 * e) + 1), .inr (.inr (some 212))]) rfl ?_
      refine r_iald2 (j := 0) (x := (v 212 ((((4 * e) + 1)).toNat))) (pc' := 189) (pc0 := 188) (len := 1) rfl (s_212 _) (by first | assumption | omega | (unfold R32 at *; omega) | (unfold R64 at *; omega) | (simp only [R32, R64] at *; omega)) (by decide) rfl rfl ?_
      have hb_20 : 0 ≤ (v 212 ((((4 * e) + 1)).toNat)) ∧ (v 212 ((((4 * e) + 1)).toNat)) ≤ 60 := hX 212 ((((4 * e) + 1)).toNat)
      refine r_ex 1 (pc' := 190) (lo' := [some (.inr (.inr (some 203))), some (.inl t), some (.inl c), some (.inl k), some (.inl i), some (.inl e)]) (st' := [.inl c, .inl (v 212 ((((4 * e) + 1)).toNat))]) rfl ?_
      refine n_ic_ne (pc0 := 190) (len := 3) (t := 222) rfl (by first | assumption | omega | (unfold R32 at *; omega) | (unfold R64 at *; omega) | (simp only [R32, R64] at *; omega)) (by first | assumption | omega | (unfold R32 at *; omega) | (unfold R64 at *; omega) | (simp only [R32, R64] at *; omega)) (fun h_190 => ?_) (fun h_190 => ?_)
      · show WV _ _ _ 222 _ _ _ _ _
        rw [if_neg h_190] at hQ
        refine r_ex 2 (pc' := 167) (lo' := [some (.inr (.inr (some 203))), some (.inl t), some (.inl c), some (.inl k), some (.inl i), some (.inl (e + 1))]) (st' := []) rfl ?_
        refine ih v t c k i (e + 1)  hX (by first | assumption | omega | (unfold R32 at *; omega) | (unfold R64 at *; omega) | (simp only [R32, R64] at *; omega)) (by first | assumption | omega | (unfold R32 at *; omega) | (unfold R64 at *; omega) | (simp only [R32, R64] at *; omega)) (by first | assumption | omega | (unfold R32 at *; omega) | (unfold R64 at *; omega) | (simp only [R32, R64] at *; omega)) (by first | assumption | omega | (unfold R32 at *; omega) | (unfold R64 at *; omega) | (simp only [R32, R64] at *; omega)) (show (v 203 37) = i + 1 from (by first | assumption | omega | (unfold R32 at *; omega) | (unfold R64 at *; omega) | (simp only [R32, R64] at *; omega))) (show (v 203 43) ≤ 5 + 12 * i + (e + 1) from (by first | assumption | omega | (unfold R32 at *; omega) | (unfold R64 at *; omega) | (simp only [R32, R64] at *; omega))) (by first | assumption | omega | (unfold R32 at *; omega) | (unfold R64 at *; omega) | (simp only [R32, R64] at *; omega)) (hi_7) (hi_8) (by first | assumption | omega | (unfold R32 at *; omega) | (unfold R64 at *; omega) | (simp only [R32, R64] at *; omega)) hQ
      · show WV _ _ _ 193 _ _ _ _ _
        rw [if_pos h_190] at hQ
        refine r_ex 6 (pc' := 202) (lo' := [some (.inr (.inr (some 203))), some (.inl t), some (.inl c), some (.inl k), some (.inl i), some (.inl e)]) (st' := [.inl (pm_and (pm_shr (v 203 31) e) 1)]) rfl ?_
        have hb_21 : 0 ≤ (v 203 31) ∧ (v 203 31) ≤ 4095 := hX 203 31
        rw [bit_eq (x := (v 203 31)) (c := e) (by first | assumption | omega | (unfold R32 at *; omega) | (unfold R64 at *; omega) | (simp only [R32, R64] at *; omega)) (by first | assumption | omega | (unfold R32 at *; omega) | (unfold R64 at *; omega) | (simp only [R32, R64] at *; omega))]
        have hb_22 := bt01 (v 203 31) e
        refine n_if_ne (pc0 := 202) (len := 3) (t := 222) rfl (by first | assumption | omega | (unfold R32 at *; omega) | (unfold R64 at *; omega) | (simp only [R32, R64] at *; omega)) (fun h_202 => ?_) (fun h_202 => ?_)
        · show WV _ _ _ 222 _ _ _ _ _
          rw [if_neg h_202] at hQ
          refine r_ex 2 (pc' := 167) (lo' := [some (.inr (.inr (some 203))), some (.inl t), some (.inl c), some (.inl k), some (.inl i), some (.inl (e + 1))]) (st' := []) rfl ?_
          refine ih v t c k i (e + 1)  hX (by first | assumption | omega | (unfold R32 at *; omega) | (unfold R64 at *; omega) | (simp only [R32, R64] at *; omega)) (by first | assumption | omega | (unfold R32 at *; omega) | (unfold R64 at *; omega) | (simp only [R32, R64] at *; omega)) (by first | assumption | omega | (unfold R32 at *; omega) | (unfold R64 at *; omega) | (simp only [R32, R64] at *; omega)) (by first | assumption | omega | (unfold R32 at *; omega) | (unfold R64 at *; omega) | (simp only [R32, R64] at *; omega)) (show (v 203 37) = i + 1 from (by first | assumption | omega | (unfold R32 at *; omega) | (unfold R64 at *; omega) | (simp only [R32, R64] at *; omega))) (show (v 203 43) ≤ 5 + 12 * i + (e + 1) from (by first | assumption | omega | (unfold R32 at *; omega) | (unfold R64 at *; omega) | (simp only [R32, R64] at *; omega))) (by first | assumption | omega | (unfold R32 at *; omega) | (unfold R64 at *; omega) | (simp only [R32, R64] at *; omega)) (hi_7) (hi_8) (by first | assumption | omega | (unfold R32 at *; omega) | (unfold R64 at *; omega) | (simp only [R32, R64] at *; omega)) hQ
        · show WV _ _ _ 205 _ _ _ _ _
          rw [if_pos h_202] at hQ
          refine r_ex 9 (pc' := 218) (lo' := [some (.inr (.inr (some 203))), some (.inl t), some (.inl c), some (.inl k), some (.inl i), some (.inl e)]) (st' := [.inl (k + 1), .inr (.inr (some 225)), .inl t, .inl i, .inl e, .inr (.inr (some 203))]) rfl ?_
          refine r_iald2 (j := 0) (x := (v 225 (((k + 1)).toNat))) (pc' := 219) (pc0 := 218) (len := 1) rfl (s_225 _) (by first | assumption | omega | (unfold R32 at *; omega) | (unfold R64 at *; omega) | (simp only [R32, R64] at *; omega)) (by decide) rfl rfl ?_
          have hb_23 : -1 ≤ (v 225 (((k + 1)).toNat)) ∧ (v 225 (((k + 1)).toNat)) ≤ 3699 := hX 225 (((k + 1)).toNat)
          have hp_24 : 0 ≤ e ∧ e < 12 := (by first | assumption | omega | (unfold R32 at *; omega) | (unfold R64 at *; omega) | (simp only [R32, R64] at *; omega))
          have hp_25 : 0 ≤ i ∧ i < 300 := (by first | assumption | omega | (unfold R32 at *; omega) | (unfold R64 at *; omega) | (simp only [R32, R64] at *; omega))
          have hp_26 : 0 ≤ t ∧ t < 300 := (by first | assumption | omega | (unfold R32 at *; omega) | (unfold R64 at *; omega) | (simp only [R32, R64] at *; omega))
          have hp_27 : -1 ≤ (v 225 (((k + 1)).toNat)) ∧ (v 225 (((k + 1)).toNat)) ≤ 3699 := (by first | assumption | omega | (unfold R32 at *; omega) | (unfold R64 at *; omega) | (simp only [R32, R64] at *; omega))
          have hp_28 : (v 203 43) < 3700 := (show (v 203 43) < 3700 from (by first | assumption | omega | (unfold R32 at *; omega) | (unfold R64 at *; omega) | (simp only [R32, R64] at *; omega)))
          have hp_29 : LK v := hi_7
          have hp_30 : CF v := hi_8
          refine r_call (m := 251) (args := [.inr (.inr (some 203)), .inl e, .inl i, .inl t, .inl (v 225 (((k + 1)).toNat))]) (n' := 250) (pc' := 222) (lo' := [some (.inr (.inr (some 203))), some (.inl t), some (.inl c), some (.inl k), some (.inl i), some (.inl e)]) (st' := []) (I := .invokevirtual 251) (pc0 := 219) (len := 3) rfl rfl rfl (e_mo_goesBy hX hp_24 hp_25 hp_26 hp_27 hp_28 hp_29 hp_30) ?_
          show WV _ _ _ 222 _ [] _ (mo_goesBy v e i t (v 225 (((k + 1)).toNat))) _
          have hX_31 : XI (mo_goesBy v e i t (v 225 (((k + 1)).toNat))) := i_mo_goesBy (v := v) (e := e) (i := i) (t := t) (h := (v 225 (((k + 1)).toNat))) hX hp_24 hp_25 hp_26 hp_27 hp_28 hp_29 hp_30
          have hb_32 : ((mo_goesBy v e i t (v 225 (((k + 1)).toNat))) 203 43) ≤ (v 203 43) + 1 := n0_mo_goesBy (v := v) (e := e) (i := i) (t := t) (h := (v 225 (((k + 1)).toNat))) hX hp_24 hp_25 hp_26 hp_27 hp_28 hp_29 hp_30
          have hb_33 : ((mo_goesBy v e i t (v 225 (((k + 1)).toNat))) 203 37) = (v 203 37) := n1_mo_goesBy (v := v) (e := e) (i := i) (t := t) (h := (v 225 (((k + 1)).toNat))) hX hp_24 hp_25 hp_26 hp_27 hp_28 hp_29 hp_30
          have hl_34 := n2_mo_goesBy (v := v) (e := e) (i := i) (t := t) (h := (v 225 (((k + 1)).toNat))) hX hp_24 hp_25 hp_26 hp_27 hp_28 hp_29 hp_30
          refine r_ex 2 (pc' := 167) (lo' := [some (.inr (.inr (some 203))), some (.inl t), some (.inl c), some (.inl k), some (.inl i), some (.inl (e + 1))]) (st' := []) rfl ?_
          refine ih (mo_goesBy v e i t (v 225 (((k + 1)).toNat))) t c k i (e + 1)  hX_31 (by first | assumption | omega | (unfold R32 at *; omega) | (unfold R64 at *; omega) | (simp only [R32, R64] at *; omega)) (by first | assumption | omega | (unfold R32 at *; omega) | (unfold R64 at *; omega) | (simp only [R32, R64] at *; omega)) (by first | assumption | omega | (unfold R32 at *; omega) | (unfold R64 at *; omega) | (simp only [R32, R64] at *; omega)) (by first | assumption | omega | (unfold R32 at *; omega) | (unfold R64 at *; omega) | (simp only [R32, R64] at *; omega)) (show ((mo_goesBy v e i t (v 225 (((k + 1)).toNat))) 203 37) = i + 1 from (by first | assumption | omega | (unfold R32 at *; omega) | (unfold R64 at *; omega) | (simp only [R32, R64] at *; omega))) (show ((mo_goesBy v e i t (v 225 (((k + 1)).toNat))) 203 43) ≤ 5 + 12 * i + (e + 1) from (by first | assumption | omega | (unfold R32 at *; omega) | (unfold R64 at *; omega) | (simp only [R32, R64] at *; omega))) (by first | assumption | omega | (unfold R32 at *; omega) | (unfold R64 at *; omega) | (simp only [R32, R64] at *; omega)) (hl_34) (show CF (mo_goesBy v e i t (v 225 (((k + 1)).toNat))) from (show CF (mo_goesBy v e i t (v 225 (((k + 1)).toNat))) from CF.of hi_8 (fun k h1 h2 => by rw [o_mo_goesBy (by omega)]))) (by first | assumption | omega | (unfold R32 at *; omega) | (unfold R64 at *; omega) | (simp only [R32, R64] at *; omega)) hQ

theorem of_mo_strikesAt_167 {rk : Nat} (hk : (rk < 203 ∨ 203 < rk) ∧ (rk < 221 ∨ 227 < rk)) : ∀ (f : Nat) {v : VS} {t : Int} {c : Int} {k : Int} {i : Int} {e : Int}, (mo_strikesAt_167 f v t c k i e) rk = v rk := by
  intro f
  induction f with
  | zero => intro v t c k i e; rfl
  | succ f ih =>
    intro v t c k i e
    rw [mo_strikesAt_167]
    by_cases hc_ : e < (v 210 3)
    · rw [if_pos hc_]
      by_cases hc_ : (v 212 ((((4 * e) + 1)).toNat)) = c
      · rw [if_pos hc_]
        by_cases hc_ : (bt (v 203 31) e) = 0
        · rw [if_pos hc_]
          all_goals (rw [ih, o_mo_goesBy (by omega)])
        · rw [if_neg hc_]
          all_goals (rw [ih])
      · rw [if_neg hc_]
        all_goals (rw [ih])
    · rw [if_neg hc_]
      all_goals (show v rk = _)
      all_goals rfl
theorem o_mo_strikesAt_167 {rk : Nat} {f : Nat} {v : VS} {t : Int} {c : Int} {k : Int} {i : Int} {e : Int} (hk : (rk < 203 ∨ 203 < rk) ∧ (rk < 221 ∨ 227 < rk)) : (mo_strikesAt_167 f v t c k i e) rk = v rk := of_mo_strikesAt_167 hk f

theorem l_mo_strikesAt_134 {X : PX} {d b : Nat} {Q : Option PV → Nat → VS → Prop}  : ∀ (v : VS) (t : Int) (c : Int) (k : Int) (i : Int) (o5 : Option PV), XI v → (0 ≤ t ∧ t < 300) → (0 ≤ c ∧ c ≤ 8) → (0 ≤ k ∧ k ≤ 18495) → (0 ≤ i ∧ i < 300) → ((v 203 37) = i + 1) → ((v 203 43) ≤ 5 + 12 * i) → (LK v) → (CF v) → (XI (mo_strikesAt_134 v t c k i) → (((mo_strikesAt_134 v t c k i) 203 43) ≤ 5 + 12 * ((mo_strikesAt_134 v t c k i) 203 37)) → (LK (mo_strikesAt_134 v t c k i)) → Q none b (mo_strikesAt_134 v t c k i)) → WV X (d + 1 + 1) 250 134 [some (.inr (.inr (some 203))), some (.inl t), some (.inl c), some (.inl k), some (.inl i), o5] [] b v Q := by
  intro v t c k i o5 hX hi_0 hi_1 hi_2 hi_3 hi_4 hi_5 hi_6 hi_7 hQ
  rw [mo_strikesAt_134] at hQ
  refine r_ex 4 (pc' := 140) (lo' := [some (.inr (.inr (some 203))), some (.inl t), some (.inl c), some (.inl k), some (.inl i), o5]) (st' := [.inl c, .inr (.inr (some 231)), .inl c, .inr (.inr (some 231))]) rfl ?_
  refine r_iald2 (j := 0) (x := (v 231 ((c).toNat))) (pc' := 141) (pc0 := 140) (len := 1) rfl (s_231 _) (by first | assumption | omega | (unfold R32 at *; omega) | (unfold R64 at *; omega) | (simp only [R32, R64] at *; omega)) (by decide) rfl rfl ?_
  refine r_ex 2 (pc' := 143) (lo' := [some (.inr (.inr (some 203))), some (.inl t), some (.inl c), some (.inl k), some (.inl i), o5]) (st' := [.inl ((v 231 ((c).toNat)) + 1), .inl c, .inr (.inr (some 231))]) rfl ?_
  refine r_iast2 (pc' := 144) (pc0 := 143) (len := 1) rfl (s_231 _) (by first | assumption | omega | (unfold R32 at *; omega) | (unfold R64 at *; omega) | (simp only [R32, R64] at *; omega)) (by decide) rfl ?_
  have hX_16 : XI (v2 v 231 ((c).toNat) ((v 231 ((c).toNat)) + 1)) := XI.put hX trivial
  refine r_ex 3 (pc' := 151) (lo' := [some (.inr (.inr (some 203))), some (.inl t), some (.inl c), some (.inl k), some (.inl i), o5]) (st' := [.inl 300, .inl (v 203 37)]) rfl ?_
  have hb_17 : 0 ≤ (v 203 37) ∧ (v 203 37) ≤ 300 := hX_16 203 37
  refine n_ic_eq (pc0 := 151) (len := 3) (t := 163) rfl (by first | assumption | omega | (unfold R32 at *; omega) | (unfold R64 at *; omega) | (simp only [R32, R64] at *; omega)) (by first | assumption | omega | (unfold R32 at *; omega) | (unfold R64 at *; omega) | (simp only [R32, R64] at *; omega)) (fun h_151 => ?_) (fun h_151 => ?_)
  · show WV _ _ _ 163 _ _ _ _ _
    rw [if_pos h_151] at hQ
    refine r_ret (rr := none) (I := .return_) (pc0 := 163) (len := 1) rfl rfl ?_
    exact hQ hX_16 (show (v 203 43) ≤ 5 + 12 * (v 203 37) from (by first | assumption | omega | (unfold R32 at *; omega) | (unfold R64 at *; omega) | (simp only [R32, R64] at *; omega))) (show LK (v2 v 231 ((c).toNat) ((v 231 ((c).toNat)) + 1)) from LK.of hi_6 (fun k h1 h2 => by rw [v2_row (by omega)]) rfl)
  · show WV _ _ _ 154 _ _ _ _ _
    rw [if_neg h_151] at hQ
    refine r_ex 3 (pc' := 160) (lo' := [some (.inr (.inr (some 203))), some (.inl t), some (.inl c), some (.inl k), some (.inl i), o5]) (st' := [.inl (v 203 35), .inl i]) rfl ?_
    have hb_18 : -1 ≤ (v 203 35) ∧ (v 203 35) ≤ 299 := hX_16 203 35
    refine n_ic_ne (pc0 := 160) (len := 3) (t := 164) rfl (by first | assumption | omega | (unfold R32 at *; omega) | (unfold R64 at *; omega) | (simp only [R32, R64] at *; omega)) (by first | assumption | omega | (unfold R32 at *; omega) | (unfold R64 at *; omega) | (simp only [R32, R64] at *; omega)) (fun h_160 => ?_) (fun h_160 => ?_)
    · show WV _ _ _ 164 _ _ _ _ _
      rw [if_neg h_160] at hQ
      refine r_ex 2 (pc' := 167) (lo' := [some (.inr (.inr (some 203))), some (.inl t), some (.inl c), some (.inl k), some (.inl i), some (.inl 0)]) (st' := []) rfl ?_
      exact l_mo_strikesAt_167 13 (v2 v 231 ((c).toNat) ((v 231 ((c).toNat)) + 1)) t c k i 0  hX_16 (by first | assumption | omega | (unfold R32 at *; omega) | (unfold R64 at *; omega) | (simp only [R32, R64] at *; omega)) (by first | assumption | omega | (unfold R32 at *; omega) | (unfold R64 at *; omega) | (simp only [R32, R64] at *; omega)) (by first | assumption | omega | (unfold R32 at *; omega) | (unfold R64 at *; omega) | (simp only [R32, R64] at *; omega)) (by first | assumption | omega | (unfold R32 at *; omega) | (unfold R64 at *; omega) | (simp only [R32, R64] at *; omega)) (show (v 203 37) = i + 1 from (by first | assumption | omega | (unfold R32 at *; omega) | (unfold R64 at *; omega) | (simp only [R32, R64] at *; omega))) (show (v 203 43) ≤ 5 + 12 * i + 0 from (by first | assumption | omega | (unfold R32 at *; omega) | (unfold R64 at *; omega) | (simp only [R32, R64] at *; omega))) (by first | assumption | omega | (unfold R32 at *; omega) | (unfold R64 at *; omega) | (simp only [R32, R64] at *; omega)) (show LK (v2 v 231 ((c).toNat) ((v 231 ((c).toNat)) + 1)) from LK.of hi_6 (fun k h1 h2 => by rw [v2_row (by omega)]) rfl) (show CF (v2 v 231 ((c).toNat) ((v 231 ((c).toNat)) + 1)) from (show CF (v2 v 231 ((c).toNat) ((v 231 ((c).toNat)) + 1)) from CF.of hi_7 (fun k h1 h2 => by rw [v2_row (by omega)]))) (by first | assumption | omega | (unfold R32 at *; omega) | (unfold R64 at *; omega) | (simp only [R32, R64] at *; omega)) hQ
    · show WV _ _ _ 163 _ _ _ _ _
      rw [if_pos h_160] at hQ
      refine r_ret (rr := none) (I := .return_) (pc0 := 163) (len := 1) rfl rfl ?_
      exact hQ hX_16 (show (v 203 43) ≤ 5 + 12 * (v 203 37) from (by first | assumption | omega | (unfold R32 at *; omega) | (unfold R64 at *; omega) | (simp only [R32, R64] at *; omega))) (show LK (v2 v 231 ((c).toNat) ((v 231 ((c).toNat)) + 1)) from LK.of hi_6 (fun k h1 h2 => by rw [v2_row (by omega)]) rfl)

theorem o_mo_strikesAt_134 {rk : Nat} {v : VS} {t : Int} {c : Int} {k : Int} {i : Int} (hk : (rk < 203 ∨ 203 < rk) ∧ (rk < 221 ∨ 227 < rk) ∧ (rk < 231 ∨ 231 < rk)) : (mo_strikesAt_134 v t c k i) rk = v rk := by
  unfold mo_strikesAt_134
  by_cases hc_ : (v 203 37) = 300
  · rw [if_pos hc_]
    all_goals (show (v2 v 231 ((c).toNat) ((v 231 ((c).toNat)) + 1)) rk = _)
    all_goals (rw [v2_row (by omega)])
  · rw [if_neg hc_]
    by_cases hc_ : i = (v 203 35)
    · rw [if_pos hc_]
      all_goals (show (v2 v 231 ((c).toNat) ((v 231 ((c).toNat)) + 1)) rk = _)
      all_goals (rw [v2_row (by omega)])
    · rw [if_neg hc_]
      all_goals (rw [o_mo_strikesAt_167 (by omega), v2_row (by omega)])

theorem w_mo_strikesAt {X : PX} {d b : Nat} {v : VS} {t : Int} {c : Int} {k : Int} (hX : XI v) (hp_a : 0 ≤ t ∧ t < 300) (hp_b : 0 ≤ c ∧ c ≤ 8) (hp_c : 0 ≤ k ∧ k ≤ 18495) (hp_d : (v 203 37) < 300) (hp_e : (v 203 43) ≤ 5 + 12 * (v 203 37)) (hp_f : LK v) (hp_g : CF v) {Q : Option PV → Nat → VS → Prop} (hQ : XI (mo_strikesAt v t c k) → (((mo_strikesAt v t c k) 203 43) ≤ 5 + 12 * ((mo_strikesAt v t c k) 203 37)) → (LK (mo_strikesAt v t c k)) → Q none b (mo_strikesAt v t c k)) : WV X (d + 1 + 1) 250 0 [some (.inr (.inr (some 203))), some (.inl t), some (.inl c), some (.inl k), none, none] [] b v Q := by
  rw [mo_strikesAt] at hQ
  refine r_ex 9 (pc' := 15) (lo' := [some (.inr (.inr (some 203))), some (.inl t), some (.inl c), some (.inl k), some (.inl (v 203 37)), none]) (st' := [.inl t, .inl (5 * (v 203 37)), .inr (.inr (some 220))]) rfl ?_
  have hb_1 : 0 ≤ (v 203 37) ∧ (v 203 37) ≤ 300 := hX 203 37
  refine r_iast2 (pc' := 16) (pc0 := 15) (len := 1) rfl (s_220 _) (by first | assumption | omega | (unfold R32 at *; omega) | (unfold R64 at *; omega) | (simp only [R32, R64] at *; omega)) (by decide) rfl ?_
  have hX_2 : XI (v2 v 220 (((5 * (v 203 37))).toNat) t) := XI.put hX (show -1 ≤ t ∧ t ≤ 3699 from (by first | assumption | omega | (unfold R32 at *; omega) | (unfold R64 at *; omega) | (simp only [R32, R64] at *; omega)))
  refine r_ex 8 (pc' := 27) (lo' := [some (.inr (.inr (some 203))), some (.inl t), some (.inl c), some (.inl k), some (.inl (v 203 37)), none]) (st' := [.inl c, .inl ((5 * (v 203 37)) + 1), .inr (.inr (some 220))]) rfl ?_
  refine r_iast2 (pc' := 28) (pc0 := 27) (len := 1) rfl (s_220 _) (by first | assumption | omega | (unfold R32 at *; omega) | (unfold R64 at *; omega) | (simp only [R32, R64] at *; omega)) (by decide) rfl ?_
  have hX_3 : XI (v2 (v2 v 220 (((5 * (v 203 37))).toNat) t) 220 ((((5 * (v 203 37)) + 1)).toNat) c) := XI.put hX_2 (show -1 ≤ c ∧ c ≤ 3699 from (by first | assumption | omega | (unfold R32 at *; omega) | (unfold R64 at *; omega) | (simp only [R32, R64] at *; omega)))
  refine r_ex 12 (pc' := 45) (lo' := [some (.inr (.inr (some 203))), some (.inl t), some (.inl c), some (.inl k), some (.inl (v 203 37)), none]) (st' := [.inl (k + 1), .inr (.inr (some 225)), .inl ((5 * (v 203 37)) + 2), .inr (.inr (some 220))]) rfl ?_
  refine r_iald2 (j := 0) (x := (v 225 (((k + 1)).toNat))) (pc' := 46) (pc0 := 45) (len := 1) rfl (s_225 _) (by first | assumption | omega | (unfold R32 at *; omega) | (unfold R64 at *; omega) | (simp only [R32, R64] at *; omega)) (by decide) rfl rfl ?_
  have hb_4 : -1 ≤ (v 225 (((k + 1)).toNat)) ∧ (v 225 (((k + 1)).toNat)) ≤ 3699 := hX_3 225 (((k + 1)).toNat)
  refine r_iast2 (pc' := 47) (pc0 := 46) (len := 1) rfl (s_220 _) (by first | assumption | omega | (unfold R32 at *; omega) | (unfold R64 at *; omega) | (simp only [R32, R64] at *; omega)) (by decide) rfl ?_
  have hX_5 : XI (v2 (v2 (v2 v 220 (((5 * (v 203 37))).toNat) t) 220 ((((5 * (v 203 37)) + 1)).toNat) c) 220 ((((5 * (v 203 37)) + 2)).toNat) (v 225 (((k + 1)).toNat))) := XI.put hX_3 (show -1 ≤ (v 225 (((k + 1)).toNat)) ∧ (v 225 (((k + 1)).toNat)) ≤ 3699 from (by first | assumption | omega | (unfold R32 at *; omega) | (unfold R64 at *; omega) | (simp only [R32, R64] at *; omega)))
  refine r_ex 12 (pc' := 64) (lo' := [some (.inr (.inr (some 203))), some (.inl t), some (.inl c), some (.inl k), some (.inl (v 203 37)), none]) (st' := [.inl (k + 2), .inr (.inr (some 225)), .inl ((5 * (v 203 37)) + 3), .inr (.inr (some 220))]) rfl ?_
  refine r_iald2 (j := 0) (x := (v 225 (((k + 2)).toNat))) (pc' := 65) (pc0 := 64) (len := 1) rfl (s_225 _) (by first | assumption | omega | (unfold R32 at *; omega) | (unfold R64 at *; omega) | (simp only [R32, R64] at *; omega)) (by decide) rfl rfl ?_
  have hb_6 : -1 ≤ (v 225 (((k + 2)).toNat)) ∧ (v 225 (((k + 2)).toNat)) ≤ 3699 := hX_5 225 (((k + 2)).toNat)
  refine r_iast2 (pc' := 66) (pc0 := 65) (len := 1) rfl (s_220 _) (by first | assumption | omega | (unfold R32 at *; omega) | (unfold R64 at *; omega) | (simp only [R32, R64] at *; omega)) (by decide) rfl ?_
  have hX_7 : XI (v2 (v2 (v2 (v2 v 220 (((5 * (v 203 37))).toNat) t) 220 ((((5 * (v 203 37)) + 1)).toNat) c) 220 ((((5 * (v 203 37)) + 2)).toNat) (v 225 (((k + 1)).toNat))) 220 ((((5 * (v 203 37)) + 3)).toNat) (v 225 (((k + 2)).toNat))) := XI.put hX_5 (show -1 ≤ (v 225 (((k + 2)).toNat)) ∧ (v 225 (((k + 2)).toNat)) ≤ 3699 from (by first | assumption | omega | (unfold R32 at *; omega) | (unfold R64 at *; omega) | (simp only [R32, R64] at *; omega)))
  refine r_ex 12 (pc' := 83) (lo' := [some (.inr (.inr (some 203))), some (.inl t), some (.inl c), some (.inl k), some (.inl (v 203 37)), none]) (st' := [.inl (k + 3), .inr (.inr (some 225)), .inl ((5 * (v 203 37)) + 4), .inr (.inr (some 220))]) rfl ?_
  refine r_iald2 (j := 0) (x := (v 225 (((k + 3)).toNat))) (pc' := 84) (pc0 := 83) (len := 1) rfl (s_225 _) (by first | assumption | omega | (unfold R32 at *; omega) | (unfold R64 at *; omega) | (simp only [R32, R64] at *; omega)) (by decide) rfl rfl ?_
  have hb_8 : -1 ≤ (v 225 (((k + 3)).toNat)) ∧ (v 225 (((k + 3)).toNat)) ≤ 3699 := hX_7 225 (((k + 3)).toNat)
  refine r_iast2 (pc' := 85) (pc0 := 84) (len := 1) rfl (s_220 _) (by first | assumption | omega | (unfold R32 at *; omega) | (unfold R64 at *; omega) | (simp only [R32, R64] at *; omega)) (by decide) rfl ?_
  have hX_9 : XI (v2 (v2 (v2 (v2 (v2 v 220 (((5 * (v 203 37))).toNat) t) 220 ((((5 * (v 203 37)) + 1)).toNat) c) 220 ((((5 * (v 203 37)) + 2)).toNat) (v 225 (((k + 1)).toNat))) 220 ((((5 * (v 203 37)) + 3)).toNat) (v 225 (((k + 2)).toNat))) 220 ((((5 * (v 203 37)) + 4)).toNat) (v 225 (((k + 3)).toNat))) := XI.put hX_7 (show -1 ≤ (v 225 (((k + 3)).toNat)) ∧ (v 225 (((k + 3)).toNat)) ≤ 3699 from (by first | assumption | omega | (unfold R32 at *; omega) | (unfold R64 at *; omega) | (simp only [R32, R64] at *; omega)))
  refine r_ex 5 (pc' := 92) (lo' := [some (.inr (.inr (some 203))), some (.inl t), some (.inl c), some (.inl k), some (.inl (v 203 37)), none]) (st' := [.inl ((v 203 37) + 1), .inr (.inr (some 203))]) rfl ?_
  have hb_10 : 0 ≤ (v 203 37) ∧ (v 203 37) ≤ 300 := hX_9 203 37
  refine r_puti2 (j := 37) (pc' := 95) (pc0 := 92) (len := 3) rfl (s_203 _) rfl rfl rfl (Or.inl rfl) rfl rfl ?_
  have hX_11 : XI (v2 (v2 (v2 (v2 (v2 (v2 v 220 (((5 * (v 203 37))).toNat) t) 220 ((((5 * (v 203 37)) + 1)).toNat) c) 220 ((((5 * (v 203 37)) + 2)).toNat) (v 225 (((k + 1)).toNat))) 220 ((((5 * (v 203 37)) + 3)).toNat) (v 225 (((k + 2)).toNat))) 220 ((((5 * (v 203 37)) + 4)).toNat) (v 225 (((k + 3)).toNat))) 203 37 ((v 203 37) + 1)) := XI.put hX_9 (show 0 ≤ ((v 203 37) + 1) ∧ ((v 203 37) + 1) ≤ 300 from (by first | assumption | omega | (unfold R32 at *; omega) | (unfold R64 at *; omega) | (simp only [R32, R64] at *; omega)))
  refine r_ex 4 (pc' := 101) (lo' := [some (.inr (.inr (some 203))), some (.inl t), some (.inl c), some (.inl k), some (.inl (v 203 37)), none]) (st' := [.inl t, .inl c, .inr (.inr (some 228))]) rfl ?_
  refine r_iast2 (pc' := 102) (pc0 := 101) (len := 1) rfl (s_228 _) (by first | assumption | omega | (unfold R32 at *; omega) | (unfold R64 at *; omega) | (simp only [R32, R64] at *; omega)) (by decide) rfl ?_
  have hX_12 : XI (v2 (v2 (v2 (v2 (v2 (v2 (v2 v 220 (((5 * (v 203 37))).toNat) t) 220 ((((5 * (v 203 37)) + 1)).toNat) c) 220 ((((5 * (v 203 37)) + 2)).toNat) (v 225 (((k + 1)).toNat))) 220 ((((5 * (v 203 37)) + 3)).toNat) (v 225 (((k + 2)).toNat))) 220 ((((5 * (v 203 37)) + 4)).toNat) (v 225 (((k + 3)).toNat))) 203 37 ((v 203 37) + 1)) 228 ((c).toNat) t) := XI.put hX_11 (show -1 ≤ t ∧ t ≤ 299 from (by first | assumption | omega | (unfold R32 at *; omega) | (unfold R64 at *; omega) | (simp only [R32, R64] at *; omega)))
  refine r_ex 8 (pc' := 114) (lo' := [some (.inr (.inr (some 203))), some (.inl t), some (.inl c), some (.inl k), some (.inl (v 203 37)), none]) (st' := [.inl (k + 1), .inr (.inr (some 225)), .inl c, .inr (.inr (some 229))]) rfl ?_
  refine r_iald2 (j := 0) (x := (v 225 (((k + 1)).toNat))) (pc' := 115) (pc0 := 114) (len := 1) rfl (s_225 _) (by first | assumption | omega | (unfold R32 at *; omega) | (unfold R64 at *; omega) | (simp only [R32, R64] at *; omega)) (by decide) rfl rfl ?_
  have hb_13 : -1 ≤ (v 225 (((k + 1)).toNat)) ∧ (v 225 (((k + 1)).toNat)) ≤ 3699 := hX_12 225 (((k + 1)).toNat)
  refine r_iast2 (pc' := 116) (pc0 := 115) (len := 1) rfl (s_229 _) (by first | assumption | omega | (unfold R32 at *; omega) | (unfold R64 at *; omega) | (simp only [R32, R64] at *; omega)) (by decide) rfl ?_
  have hX_14 : XI (v2 (v2 (v2 (v2 (v2 (v2 (v2 (v2 v 220 (((5 * (v 203 37))).toNat) t) 220 ((((5 * (v 203 37)) + 1)).toNat) c) 220 ((((5 * (v 203 37)) + 2)).toNat) (v 225 (((k + 1)).toNat))) 220 ((((5 * (v 203 37)) + 3)).toNat) (v 225 (((k + 2)).toNat))) 220 ((((5 * (v 203 37)) + 4)).toNat) (v 225 (((k + 3)).toNat))) 203 37 ((v 203 37) + 1)) 228 ((c).toNat) t) 229 ((c).toNat) (v 225 (((k + 1)).toNat))) := XI.put hX_12 (show -1 ≤ (v 225 (((k + 1)).toNat)) ∧ (v 225 (((k + 1)).toNat)) ≤ 3699 from (by first | assumption | omega | (unfold R32 at *; omega) | (unfold R64 at *; omega) | (simp only [R32, R64] at *; omega)))
  refine r_ex 3 (pc' := 121) (lo' := [some (.inr (.inr (some 203))), some (.inl t), some (.inl c), some (.inl k), some (.inl (v 203 37)), none]) (st' := [.inl c, .inr (.inr (some 230))]) rfl ?_
  refine r_iald2 (j := 0) (x := (v 230 ((c).toNat))) (pc' := 122) (pc0 := 121) (len := 1) rfl (s_230 _) (by first | assumption | omega | (unfold R32 at *; omega) | (unfold R64 at *; omega) | (simp only [R32, R64] at *; omega)) (by decide) rfl rfl ?_
  have hb_15 : -1 ≤ (v 230 ((c).toNat)) ∧ (v 230 ((c).toNat)) ≤ 299 := hX_14 230 ((c).toNat)
  refine r_ex 1 (pc' := 123) (lo' := [some (.inr (.inr (some 203))), some (.inl t), some (.inl c), some (.inl k), some (.inl (v 203 37)), none]) (st' := [.inl (-1), .inl (v 230 ((c).toNat))]) rfl ?_
  refine n_ic_ne (pc0 := 123) (len := 3) (t := 134) rfl (by first | assumption | omega | (unfold R32 at *; omega) | (unfold R64 at *; omega) | (simp only [R32, R64] at *; omega)) (by first | assumption | omega | (unfold R32 at *; omega) | (unfold R64 at *; omega) | (simp only [R32, R64] at *; omega)) (fun h_123 => ?_) (fun h_123 => ?_)
  · show WV _ _ _ 134 _ _ _ _ _
    rw [if_neg h_123] at hQ
    exact l_mo_strikesAt_134  (v2 (v2 (v2 (v2 (v2 (v2 (v2 (v2 v 220 (((5 * (v 203 37))).toNat) t) 220 ((((5 * (v 203 37)) + 1)).toNat) c) 220 ((((5 * (v 203 37)) + 2)).toNat) (v 225 (((k + 1)).toNat))) 220 ((((5 * (v 203 37)) + 3)).toNat) (v 225 (((k + 2)).toNat))) 220 ((((5 * (v 203 37)) + 4)).toNat) (v 225 (((k + 3)).toNat))) 203 37 ((v 203 37) + 1)) 228 ((c).toNat) t) 229 ((c).toNat) (v 225 (((k + 1)).toNat))) t c k (v 203 37) _ hX_14 (by first | assumption | omega | (unfold R32 at *; omega) | (unfold R64 at *; omega) | (simp only [R32, R64] at *; omega)) (by first | assumption | omega | (unfold R32 at *; omega) | (unfold R64 at *; omega) | (simp only [R32, R64] at *; omega)) (by first | assumption | omega | (unfold R32 at *; omega) | (unfold R64 at *; omega) | (simp only [R32, R64] at *; omega)) (by first | assumption | omega | (unfold R32 at *; omega) | (unfold R64 at *; omega) | (simp only [R32, R64] at *; omega)) (show ((v 203 37) + 1) = (v 203 37) + 1 from (by first | assumption | omega | (unfold R32 at *; omega) | (unfold R64 at *; omega) | (simp only [R32, R64] at *; omega))) (show (v 203 43) ≤ 5 + 12 * (v 203 37) from (by first | assumption | omega | (unfold R32 at *; omega) | (unfold R64 at *; omega) | (simp only [R32, R64] at *; omega))) (show LK (v2 (v2 (v2 (v2 (v2 (v2 (v2 (v2 v 220 (((5 * (v 203 37))).toNat) t) 220 ((((5 * (v 203 37)) + 1)).toNat) c) 220 ((((5 * (v 203 37)) + 2)).toNat) (v 225 (((k + 1)).toNat))) 220 ((((5 * (v 203 37)) + 3)).toNat) (v 225 (((k + 2)).toNat))) 220 ((((5 * (v 203 37)) + 4)).toNat) (v 225 (((k + 3)).toNat))) 203 37 ((v 203 37) + 1)) 228 ((c).toNat) t) 229 ((c).toNat) (v 225 (((k + 1)).toNat))) from LK.of hp_f (fun k h1 h2 => by rw [v2_row (by omega), v2_row (by omega), v2_row (by omega), v2_row (by omega), v2_row (by omega), v2_row (by omega), v2_row (by omega), v2_row (by omega)]) rfl) (show CF (v2 (v2 (v2 (v2 (v2 (v2 (v2 (v2 v 220 (((5 * (v 203 37))).toNat) t) 220 ((((5 * (v 203 37)) + 1)).toNat) c) 220 ((((5 * (v 203 37)) + 2)).toNat) (v 225 (((k + 1)).toNat))) 220 ((((5 * (v 203 37)) + 3)).toNat) (v 225 (((k + 2)).toNat))) 220 ((((5 * (v 203 37)) + 4)).toNat) (v 225 (((k + 3)).toNat))) 203 37 ((v 203 37) + 1)) 228 ((c).toNat) t) 229 ((c).toNat) (v 225 (((k + 1)).toNat))) from (show CF (v2 (v2 (v2 (v2 (v2 (v2 (v2 (v2 v 220 (((5 * (v 203 37))).toNat) t) 220 ((((5 * (v 203 37)) + 1)).toNat) c) 220 ((((5 * (v 203 37)) + 2)).toNat) (v 225 (((k + 1)).toNat))) 220 ((((5 * (v 203 37)) + 3)).toNat) (v 225 (((k + 2)).toNat))) 220 ((((5 * (v 203 37)) + 4)).toNat) (v 225 (((k + 3)).toNat))) 203 37 ((v 203 37) + 1)) 228 ((c).toNat) t) 229 ((c).toNat) (v 225 (((k + 1)).toNat))) from CF.of hp_g (fun k h1 h2 => by rw [v2_row (by omega), v2_row (by omega), v2_row (by omega), v2_row (by omega), v2_row (by omega), v2_row (by omega), v2_row (by omega), v2_row (by omega)]))) hQ
  · show WV _ _ _ 126 _ _ _ _ _
    rw [if_pos h_123] at hQ
    refine r_ex 4 (pc' := 133) (lo' := [some (.inr (.inr (some 203))), some (.inl t), some (.inl c), some (.inl k), some (.inl (v 203 37)), none]) (st' := [.inl (v 203 37), .inl c, .inr (.inr (some 230))]) rfl ?_
    refine r_iast2 (pc' := 134) (pc0 := 133) (len := 1) rfl (s_230 _) (by first | assumption | omega | (unfold R32 at *; omega) | (unfold R64 at *; omega) | (simp only [R32, R64] at *; omega)) (by decide) rfl ?_
    have hX_35 : XI (v2 (v2 (v2 (v2 (v2 (v2 (v2 (v2 (v2 v 220 (((5 * (v 203 37))).toNat) t) 220 ((((5 * (v 203 37)) + 1)).toNat) c) 220 ((((5 * (v 203 37)) + 2)).toNat) (v 225 (((k + 1)).toNat))) 220 ((((5 * (v 203 37)) + 3)).toNat) (v 225 (((k + 2)).toNat))) 220 ((((5 * (v 203 37)) + 4)).toNat) (v 225 (((k + 3)).toNat))) 203 37 ((v 203 37) + 1)) 228 ((c).toNat) t) 229 ((c).toNat) (v 225 (((k + 1)).toNat))) 230 ((c).toNat) (v 203 37)) := XI.put hX_14 (show -1 ≤ (v 203 37) ∧ (v 203 37) ≤ 299 from (by first | assumption | omega | (unfold R32 at *; omega) | (unfold R64 at *; omega) | (simp only [R32, R64] at *; omega)))
    exact l_mo_strikesAt_134  (v2 (v2 (v2 (v2 (v2 (v2 (v2 (v2 (v2 v 220 (((5 * (v 203 37))).toNat) t) 220 ((((5 * (v 203 37)) + 1)).toNat) c) 220 ((((5 * (v 203 37)) + 2)).toNat) (v 225 (((k + 1)).toNat))) 220 ((((5 * (v 203 37)) + 3)).toNat) (v 225 (((k + 2)).toNat))) 220 ((((5 * (v 203 37)) + 4)).toNat) (v 225 (((k + 3)).toNat))) 203 37 ((v 203 37) + 1)) 228 ((c).toNat) t) 229 ((c).toNat) (v 225 (((k + 1)).toNat))) 230 ((c).toNat) (v 203 37)) t c k (v 203 37) _ hX_35 (by first | assumption | omega | (unfold R32 at *; omega) | (unfold R64 at *; omega) | (simp only [R32, R64] at *; omega)) (by first | assumption | omega | (unfold R32 at *; omega) | (unfold R64 at *; omega) | (simp only [R32, R64] at *; omega)) (by first | assumption | omega | (unfold R32 at *; omega) | (unfold R64 at *; omega) | (simp only [R32, R64] at *; omega)) (by first | assumption | omega | (unfold R32 at *; omega) | (unfold R64 at *; omega) | (simp only [R32, R64] at *; omega)) (show ((v 203 37) + 1) = (v 203 37) + 1 from (by first | assumption | omega | (unfold R32 at *; omega) | (unfold R64 at *; omega) | (simp only [R32, R64] at *; omega))) (show (v 203 43) ≤ 5 + 12 * (v 203 37) from (by first | assumption | omega | (unfold R32 at *; omega) | (unfold R64 at *; omega) | (simp only [R32, R64] at *; omega))) (show LK (v2 (v2 (v2 (v2 (v2 (v2 (v2 (v2 (v2 v 220 (((5 * (v 203 37))).toNat) t) 220 ((((5 * (v 203 37)) + 1)).toNat) c) 220 ((((5 * (v 203 37)) + 2)).toNat) (v 225 (((k + 1)).toNat))) 220 ((((5 * (v 203 37)) + 3)).toNat) (v 225 (((k + 2)).toNat))) 220 ((((5 * (v 203 37)) + 4)).toNat) (v 225 (((k + 3)).toNat))) 203 37 ((v 203 37) + 1)) 228 ((c).toNat) t) 229 ((c).toNat) (v 225 (((k + 1)).toNat))) 230 ((c).toNat) (v 203 37)) from LK.of hp_f (fun k h1 h2 => by rw [v2_row (by omega), v2_row (by omega), v2_row (by omega), v2_row (by omega), v2_row (by omega), v2_row (by omega), v2_row (by omega), v2_row (by omega), v2_row (by omega)]) rfl) (show CF (v2 (v2 (v2 (v2 (v2 (v2 (v2 (v2 (v2 v 220 (((5 * (v 203 37))).toNat) t) 220 ((((5 * (v 203 37)) + 1)).toNat) c) 220 ((((5 * (v 203 37)) + 2)).toNat) (v 225 (((k + 1)).toNat))) 220 ((((5 * (v 203 37)) + 3)).toNat) (v 225 (((k + 2)).toNat))) 220 ((((5 * (v 203 37)) + 4)).toNat) (v 225 (((k + 3)).toNat))) 203 37 ((v 203 37) + 1)) 228 ((c).toNat) t) 229 ((c).toNat) (v 225 (((k + 1)).toNat))) 230 ((c).toNat) (v 203 37)) from (show CF (v2 (v2 (v2 (v2 (v2 (v2 (v2 (v2 (v2 v 220 (((5 * (v 203 37))).toNat) t) 220 ((((5 * (v 203 37)) + 1)).toNat) c) 220 ((((5 * (v 203 37)) + 2)).toNat) (v 225 (((k + 1)).toNat))) 220 ((((5 * (v 203 37)) + 3)).toNat) (v 225 (((k + 2)).toNat))) 220 ((((5 * (v 203 37)) + 4)).toNat) (v 225 (((k + 3)).toNat))) 203 37 ((v 203 37) + 1)) 228 ((c).toNat) t) 229 ((c).toNat) (v 225 (((k + 1)).toNat))) 230 ((c).toNat) (v 203 37)) from CF.of hp_g (fun k h1 h2 => by rw [v2_row (by omega), v2_row (by omega), v2_row (by omega), v2_row (by omega), v2_row (by omega), v2_row (by omega), v2_row (by omega), v2_row (by omega), v2_row (by omega)]))) hQ

theorem e_mo_strikesAt {X : PX} {d b : Nat} {v : VS} {t : Int} {c : Int} {k : Int} (hX : XI v) (hp_a : 0 ≤ t ∧ t < 300) (hp_b : 0 ≤ c ∧ c ≤ 8) (hp_c : 0 ≤ k ∧ k ≤ 18495) (hp_d : (v 203 37) < 300) (hp_e : (v 203 43) ≤ 5 + 12 * (v 203 37)) (hp_f : LK v) (hp_g : CF v) : EvV X (d + 1 + 1) 250 [.inr (.inr (some 203)), .inl t, .inl c, .inl k] b v none b (mo_strikesAt v t c k) := EvV.of (w_mo_strikesAt hX hp_a hp_b hp_c hp_d hp_e hp_f hp_g (fun _ _ _ => ⟨rfl, rfl, rfl⟩))

theorem i_mo_strikesAt {v : VS} {t : Int} {c : Int} {k : Int} (hX : XI v) (hp_a : 0 ≤ t ∧ t < 300) (hp_b : 0 ≤ c ∧ c ≤ 8) (hp_c : 0 ≤ k ∧ k ≤ 18495) (hp_d : (v 203 37) < 300) (hp_e : (v 203 43) ≤ 5 + 12 * (v 203 37)) (hp_f : LK v) (hp_g : CF v) : XI (mo_strikesAt v t c k) := by
  have q : WV (0, fun _ => 0, none) (0 + 1 + 1) 250 0 [some (.inr (.inr (some 203))), some (.inl t), some (.inl c), some (.inl k), none, none] [] 1 v (fun _ _ _ => XI (mo_strikesAt v t c k)) := w_mo_strikesAt (X := (0, fun _ => 0, none)) (d := 0) (b := 1) hX hp_a hp_b hp_c hp_d hp_e hp_f hp_g (fun q _ _ => q)
  obtain ⟨_, _, _, _, _, _, _, q⟩ := q
  exact q

theorem n0_mo_strikesAt {v : VS} {t : Int} {c : Int} {k : Int} (hX : XI v) (hp_a : 0 ≤ t ∧ t < 300) (hp_b : 0 ≤ c ∧ c ≤ 8) (hp_c : 0 ≤ k ∧ k ≤ 18495) (hp_d : (v 203 37) < 300) (hp_e : (v 203 43) ≤ 5 + 12 * (v 203 37)) (hp_f : LK v) (hp_g : CF v) : ((mo_strikesAt v t c k) 203 43) ≤ 5 + 12 * ((mo_strikesAt v t c k) 203 37) := by
  have q : WV (0, fun _ => 0, none) (0 + 1 + 1) 250 0 [some (.inr (.inr (some 203))), some (.inl t), some (.inl c), some (.inl k), none, none] [] 1 v (fun _ _ _ => ((mo_strikesAt v t c k) 203 43) ≤ 5 + 12 * ((mo_strikesAt v t c k) 203 37)) := w_mo_strikesAt (X := (0, fun _ => 0, none)) (d := 0) (b := 1) hX hp_a hp_b hp_c hp_d hp_e hp_f hp_g (fun _ q _ => q)
  obtain ⟨_, _, _, _, _, _, _, q⟩ := q
  exact q

theorem n1_mo_strikesAt {v : VS} {t : Int} {c : Int} {k : Int} (hX : XI v) (hp_a : 0 ≤ t ∧ t < 300) (hp_b : 0 ≤ c ∧ c ≤ 8) (hp_c : 0 ≤ k ∧ k ≤ 18495) (hp_d : (v 203 37) < 300) (hp_e : (v 203 43) ≤ 5 + 12 * (v 203 37)) (hp_f : LK v) (hp_g : CF v) : LK (mo_strikesAt v t c k) := by
  have q : WV (0, fun _ => 0, none) (0 + 1 + 1) 250 0 [some (.inr (.inr (some 203))), some (.inl t), some (.inl c), some (.inl k), none, none] [] 1 v (fun _ _ _ => LK (mo_strikesAt v t c k)) := w_mo_strikesAt (X := (0, fun _ => 0, none)) (d := 0) (b := 1) hX hp_a hp_b hp_c hp_d hp_e hp_f hp_g (fun _ _ q => q)
  obtain ⟨_, _, _, _, _, _, _, q⟩ := q
  exact q

theorem o_mo_strikesAt {rk : Nat} {v : VS} {t : Int} {c : Int} {k : Int} (hk : (rk < 203 ∨ 203 < rk) ∧ (rk < 220 ∨ 231 < rk)) : (mo_strikesAt v t c k) rk = v rk := by
  unfold mo_strikesAt
  by_cases hc_ : (v 230 ((c).toNat)) = (-1)
  · rw [if_pos hc_]
    all_goals (rw [o_mo_strikesAt_134 (by omega), v2_row (by omega), v2_row (by omega), v2_row (by omega), v2_row (by omega), v2_row (by omega), v2_row (by omega), v2_row (by omega), v2_row (by omega), v2_row (by omega)])
  · rw [if_neg hc_]
    all_goals (rw [o_mo_strikesAt_134 (by omega), v2_row (by omega), v2_row (by omega), v2_row (by omega), v2_row (by omega), v2_row (by omega), v2_row (by omega), v2_row (by omega), v2_row (by omega)])

def mo_falls_10 : Nat → VS → Int → Int → Int → Int → Int × VS
  | 0, v, t, c, g, k => (0, v)
  | f + 1, v, t, c, g, k => (if k = (-1) then (g, v) else (if (v 225 (((5 * k)).toNat)) = c then (if g = (-1) then (if g = (-1) then (mo_falls_10 f v t c k (v 225 ((((5 * k) + 4)).toNat))) else (if (v 225 ((((5 * g) + 1)).toNat)) < (v 225 ((((5 * k) + 1)).toNat)) then (mo_falls_10 f v t c k (v 225 ((((5 * k) + 4)).toNat))) else (mo_falls_10 f v t c g (v 225 ((((5 * k) + 4)).toNat))))) else (if g = (-1) then (mo_falls_10 f (v2 v 221 7 ((v 221 7) + 1)) t c k (v 225 ((((5 * k) + 4)).toNat))) else (if (v 225 ((((5 * g) + 1)).toNat)) < (v 225 ((((5 * k) + 1)).toNat)) then (mo_falls_10 f (v2 v 221 7 ((v 221 7) + 1)) t c k (v 225 ((((5 * k) + 4)).toNat))) else (mo_falls_10 f (v2 v 221 7 ((v 221 7) + 1)) t c g (v 225 ((((5 * k) + 4)).toNat)))))) else (mo_falls_10 f v t c g (v 225 ((((5 * k) + 4)).toNat)))))
def mo_falls (v : VS) (t : Int) (c : Int) : VS :=
  (if (mo_falls_10 3702 v t c (-1) (v 226 ((t).toNat))).1 = (-1) then (mo_falls_10 3702 v t c (-1) (v 226 ((t).toNat))).2 else (if (bt ((mo_falls_10 3702 v t c (-1) (v 226 ((t).toNat))).2 203 30) c) = 1 then (v2 ((mo_falls_10 3702 v t c (-1) (v 226 ((t).toNat))).2) 221 4 (((mo_falls_10 3702 v t c (-1) (v 226 ((t).toNat))).2 221 4) + 1)) else (if ((mo_falls_10 3702 v t c (-1) (v 226 ((t).toNat))).2 203 34) = 4 then (if ((mo_falls_10 3702 v t c (-1) (v 226 ((t).toNat))).2 203 34) = 5 then (mo_strikesAt ((mo_falls_10 3702 v t c (-1) (v 226 ((t).toNat))).2) t c (5 * (mo_falls_10 3702 v t c (-1) (v 226 ((t).toNat))).1)) else (if ((mo_falls_10 3702 v t c (-1) (v 226 ((t).toNat))).2 211 (((3 * c)).toNat)) = 1 then (if ((mo_falls_10 3702 v t c (-1) (v 226 ((t).toNat))).2 229 ((c).toNat)) < ((mo_falls_10 3702 v t c (-1) (v 226 ((t).toNat))).2 225 ((((5 * (mo_falls_10 3702 v t c (-1) (v 226 ((t).toNat))).1) + 1)).toNat)) then (mo_strikesAt ((mo_falls_10 3702 v t c (-1) (v 226 ((t).toNat))).2) t c (5 * (mo_falls_10 3702 v t c (-1) (v 226 ((t).toNat))).1)) else (v2 ((mo_falls_10 3702 v t c (-1) (v 226 ((t).toNat))).2) 221 3 (((mo_falls_10 3702 v t c (-1) (v 226 ((t).toNat))).2 221 3) + 1))) else (mo_strikesAt ((mo_falls_10 3702 v t c (-1) (v 226 ((t).toNat))).2) t c (5 * (mo_falls_10 3702 v t c (-1) (v 226 ((t).toNat))).1)))) else (if ((mo_falls_10 3702 v t c (-1) (v 226 ((t).toNat))).2 228 ((c).toNat)) = (-1) then (if ((mo_falls_10 3702 v t c (-1) (v 226 ((t).toNat))).2 203 34) = 5 then (mo_strikesAt ((mo_falls_10 3702 v t c (-1) (v 226 ((t).toNat))).2) t c (5 * (mo_falls_10 3702 v t c (-1) (v 226 ((t).toNat))).1)) else (if ((mo_falls_10 3702 v t c (-1) (v 226 ((t).toNat))).2 211 (((3 * c)).toNat)) = 1 then (if ((mo_falls_10 3702 v t c (-1) (v 226 ((t).toNat))).2 229 ((c).toNat)) < ((mo_falls_10 3702 v t c (-1) (v 226 ((t).toNat))).2 225 ((((5 * (mo_falls_10 3702 v t c (-1) (v 226 ((t).toNat))).1) + 1)).toNat)) then (mo_strikesAt ((mo_falls_10 3702 v t c (-1) (v 226 ((t).toNat))).2) t c (5 * (mo_falls_10 3702 v t c (-1) (v 226 ((t).toNat))).1)) else (v2 ((mo_falls_10 3702 v t c (-1) (v 226 ((t).toNat))).2) 221 3 (((mo_falls_10 3702 v t c (-1) (v 226 ((t).toNat))).2 221 3) + 1))) else (mo_strikesAt ((mo_falls_10 3702 v t c (-1) (v 226 ((t).toNat))).2) t c (5 * (mo_falls_10 3702 v t c (-1) (v 226 ((t).toNat))).1)))) else (if ((mo_falls_10 3702 v t c (-1) (v 226 ((t).toNat))).2 211 ((((3 * c) + 2)).toNat)) < (t - ((mo_falls_10 3702 v t c (-1) (v 226 ((t).toNat))).2 228 ((c).toNat))) then (if ((mo_falls_10 3702 v t c (-1) (v 226 ((t).toNat))).2 203 34) = 5 then (mo_strikesAt ((mo_falls_10 3702 v t c (-1) (v 226 ((t).toNat))).2) t c (5 * (mo_falls_10 3702 v t c (-1) (v 226 ((t).toNat))).1)) else (if ((mo_falls_10 3702 v t c (-1) (v 226 ((t).toNat))).2 211 (((3 * c)).toNat)) = 1 then (if ((mo_falls_10 3702 v t c (-1) (v 226 ((t).toNat))).2 229 ((c).toNat)) < ((mo_falls_10 3702 v t c (-1) (v 226 ((t).toNat))).2 225 ((((5 * (mo_falls_10 3702 v t c (-1) (v 226 ((t).toNat))).1) + 1)).toNat)) then (mo_strikesAt ((mo_falls_10 3702 v t c (-1) (v 226 ((t).toNat))).2) t c (5 * (mo_falls_10 3702 v t c (-1) (v 226 ((t).toNat))).1)) else (v2 ((mo_falls_10 3702 v t c (-1) (v 226 ((t).toNat))).2) 221 3 (((mo_falls_10 3702 v t c (-1) (v 226 ((t).toNat))).2 221 3) + 1))) else (mo_strikesAt ((mo_falls_10 3702 v t c (-1) (v 226 ((t).toNat))).2) t c (5 * (mo_falls_10 3702 v t c (-1) (v 226 ((t).toNat))).1)))) else (v2 ((mo_falls_10 3702 v t c (-1) (v 226 ((t).toNat))).2) 221 2 (((mo_falls_10 3702 v t c (-1) (v 226 ((t).toNat))).2 221 2) + 1)))))))
theorem l_mo_falls_10 {X : PX} {d b : Nat} {Q : Option PV → Nat → VS → Prop}  : ∀ (f : Nat) (v : VS) (t : Int) (c : Int) (g : Int) (k : Int), XI v → (0 ≤ t ∧ t < 300) → (0 ≤ c ∧ c ≤ 8) → (-1 ≤ g ∧ g ≤ 3699) → (-1 ≤ k ∧ k ≤ 3699) → (k < (v 203 43) ∨ k = -1) → (LK v) → ((k = -1 ∧ 0 < f) ∨ (0 ≤ k ∧ 3700 < k + f)) → (∀ qx4 : Option PV, XI ((mo_falls_10 f v t c g k).2) → (-1 ≤ (mo_falls_10 f v t c g k).1 ∧ (mo_falls_10 f v t c g k).1 ≤ 3699) → (LK ((mo_falls_10 f v t c g k).2)) → WV X (d + 1 + 1 + 1) 249 96 [some (.inr (.inr (some 203))), some (.inl t), some (.inl c), some (.inl ((mo_falls_10 f v t c g k).1)), qx4] [] b (mo_falls_10 f v t c g k).2 Q) → WV X (d + 1 + 1 + 1) 249 10 [some (.inr (.inr (some 203))), some (.inl t), some (.inl c), some (.inl g), some (.inl k)] [] b v Q := by
  intro f
  induction f with
  | zero =>
    intro v t c g k hX hi_0 hi_1 hi_2 hi_3 hi_4 hi_5 hf hK
    exfalso
    omega
  | succ f ih =>
    intro v t c g k hX hi_0 hi_1 hi_2 hi_3 hi_4 hi_5 hf hK
    rw [mo_falls_10] at hK
    refine r_ex 2 (pc' := 13) (lo' := [some (.inr (.inr (some 203))), some (.inl t), some (.inl c), some (.inl g), some (.inl k)]) (st' := [.inl (-1), .inl k]) rfl ?_
    refine n_ic_eq (pc0 := 13) (len := 3) (t := 96) rfl (by first | assumption | omega | (unfold R32 at *; omega) | (unfold R64 at *; omega) | (simp only [R32, R64] at *; omega)) (by first | assumption | omega | (unfold R32 at *; omega) | (unfold R64 at *; omega) | (simp only [R32, R64] at *; omega)) (fun h_13 => ?_) (fun h_13 => ?_)
    · show WV _ _ _ 96 _ _ _ _ _
      rw [if_pos h_13] at hK
      exact hK _ hX (by first | assumption | omega | (unfold R32 at *; omega) | (unfold R64 at *; omega) | (simp only [R32, R64] at *; omega)) (hi_5)
    · show WV _ _ _ 16 _ _ _ _ _
      rw [if_neg h_13] at hK
      refine r_ex 5 (pc' := 24) (lo' := [some (.inr (.inr (some 203))), some (.inl t), some (.inl c), some (.inl g), some (.inl k)]) (st' := [.inl (5 * k), .inr (.inr (some 225))]) rfl ?_
      refine r_iald2 (j := 0) (x := (v 225 (((5 * k)).toNat))) (pc' := 25) (pc0 := 24) (len := 1) rfl (s_225 _) (by first | assumption | omega | (unfold R32 at *; omega) | (unfold R64 at *; omega) | (simp only [R32, R64] at *; omega)) (by decide) rfl rfl ?_
      have hb_2 : -1 ≤ (v 225 (((5 * k)).toNat)) ∧ (v 225 (((5 * k)).toNat)) ≤ 3699 := hX 225 (((5 * k)).toNat)
      refine r_ex 1 (pc' := 26) (lo' := [some (.inr (.inr (some 203))), some (.inl t), some (.inl c), some (.inl g), some (.inl k)]) (st' := [.inl c, .inl (v 225 (((5 * k)).toNat))]) rfl ?_
      refine n_ic_eq (pc0 := 26) (len := 3) (t := 32) rfl (by first | assumption | omega | (unfold R32 at *; omega) | (unfold R64 at *; omega) | (simp only [R32, R64] at *; omega)) (by first | assumption | omega | (unfold R32 at *; omega) | (unfold R64 at *; omega) | (simp only [R32, R64] at *; omega)) (fun h_26 => ?_) (fun h_26 => ?_)
      · show WV _ _ _ 32 _ _ _ _ _
        rw [if_pos h_26] at hK
        refine r_ex 2 (pc' := 34) (lo' := [some (.inr (.inr (some 203))), some (.inl t), some (.inl c), some (.inl g), some (.inl k)]) (st' := [.inl (-1), .inl g]) rfl ?_
        refine n_ic_eq (pc0 := 34) (len := 3) (t := 48) rfl (by first | assumption | omega | (unfold R32 at *; omega) | (unfold R64 at *; omega) | (simp only [R32, R64] at *; omega)) (by first | assumption | omega | (unfold R32 at *; omega) | (unfold R64 at *; omega) | (simp only [R32, R64] at *; omega)) (fun h_34 => ?_) (fun h_34 => ?_)
        · show WV _ _ _ 48 _ _ _ _ _
          rw [if_pos h_34] at hK
          refine r_ex 2 (pc' := 50) (lo' := [some (.inr (.inr (some 203))), some (.inl t), some (.inl c), some (.inl g), some (.inl k)]) (st' := [.inl (-1), .inl g]) rfl ?_
          refine n_ic_eq (pc0 := 50) (len := 3) (t := 77) rfl (by first | assumption | omega | (unfold R32 at *; omega) | (unfold R64 at *; omega) | (simp only [R32, R64] at *; omega)) (by first | assumption | omega | (unfold R32 at *; omega) | (unfold R64 at *; omega) | (simp only [R32, R64] at *; omega)) (fun h_50 => ?_) (fun h_50 => ?_)
          · show WV _ _ _ 77 _ _ _ _ _
            rw [if_pos h_50] at hK
            refine r_ex 9 (pc' := 90) (lo' := [some (.inr (.inr (some 203))), some (.inl t), some (.inl c), some (.inl k), some (.inl k)]) (st' := [.inl ((5 * k) + 4), .inr (.inr (some 225))]) rfl ?_
            refine r_iald2 (j := 0) (x := (v 225 ((((5 * k) + 4)).toNat))) (pc' := 91) (pc0 := 90) (len := 1) rfl (s_225 _) (by first | assumption | omega | (unfold R32 at *; omega) | (unfold R64 at *; omega) | (simp only [R32, R64] at *; omega)) (by decide) rfl rfl ?_
            have hb_3 : -1 ≤ (v 225 ((((5 * k) + 4)).toNat)) ∧ (v 225 ((((5 * k) + 4)).toNat)) ≤ 3699 := hX 225 ((((5 * k) + 4)).toNat)
            have hn_ := LK.nx hi_5 (k := k) (by omega) (by omega)
            refine r_ex 2 (pc' := 10) (lo' := [some (.inr (.inr (some 203))), some (.inl t), some (.inl c), some (.inl k), some (.inl (v 225 ((((5 * k) + 4)).toNat)))]) (st' := []) rfl ?_
            refine ih v t c k (v 225 ((((5 * k) + 4)).toNat))  hX (by first | assumption | omega | (unfold R32 at *; omega) | (unfold R64 at *; omega) | (simp only [R32, R64] at *; omega)) (by first | assumption | omega | (unfold R32 at *; omega) | (unfold R64 at *; omega) | (simp only [R32, R64] at *; omega)) (by first | assumption | omega | (unfold R32 at *; omega) | (unfold R64 at *; omega) | (simp only [R32, R64] at *; omega)) (by first | assumption | omega | (unfold R32 at *; omega) | (unfold R64 at *; omega) | (simp only [R32, R64] at *; omega)) (show (v 225 ((((5 * k) + 4)).toNat)) < (v 203 43) ∨ (v 225 ((((5 * k) + 4)).toNat)) = -1 from (by first | assumption | omega | (unfold R32 at *; omega) | (unfold R64 at *; omega) | (simp only [R32, R64] at *; omega))) (hi_5) (by first | assumption | omega | (unfold R32 at *; omega) | (unfold R64 at *; omega) | (simp only [R32, R64] at *; omega)) hK
          · show WV _ _ _ 53 _ _ _ _ _
            rw [if_neg h_50] at hK
            refine r_ex 7 (pc' := 63) (lo' := [some (.inr (.inr (some 203))), some (.inl t), some (.inl c), some (.inl g), some (.inl k)]) (st' := [.inl ((5 * k) + 1), .inr (.inr (some 225))]) rfl ?_
            refine r_iald2 (j := 0) (x := (v 225 ((((5 * k) + 1)).toNat))) (pc' := 64) (pc0 := 63) (len := 1) rfl (s_225 _) (by first | assumption | omega | (unfold R32 at *; omega) | (unfold R64 at *; omega) | (simp only [R32, R64] at *; omega)) (by decide) rfl rfl ?_
            have hb_4 : -1 ≤ (v 225 ((((5 * k) + 1)).toNat)) ∧ (v 225 ((((5 * k) + 1)).toNat)) ≤ 3699 := hX 225 ((((5 * k) + 1)).toNat)
            refine r_ex 7 (pc' := 73) (lo' := [some (.inr (.inr (some 203))), some (.inl t), some (.inl c), some (.inl g), some (.inl k)]) (st' := [.inl ((5 * g) + 1), .inr (.inr (some 225)), .inl (v 225 ((((5 * k) + 1)).toNat))]) rfl ?_
            refine r_iald2 (j := 0) (x := (v 225 ((((5 * g) + 1)).toNat))) (pc' := 74) (pc0 := 73) (len := 1) rfl (s_225 _) (by first | assumption | omega | (unfold R32 at *; omega) | (unfold R64 at *; omega) | (simp only [R32, R64] at *; omega)) (by decide) rfl rfl ?_
            have hb_5 : -1 ≤ (v 225 ((((5 * g) + 1)).toNat)) ∧ (v 225 ((((5 * g) + 1)).toNat)) ≤ 3699 := hX 225 ((((5 * g) + 1)).toNat)
            refine n_ic_le (pc0 := 74) (len := 3) (t := 80) rfl (by first | assumption | omega | (unfold R32 at *; omega) | (unfold R64 at *; omega) | (simp only [R32, R64] at *; omega)) (by first | assumption | omega | (unfold R32 at *; omega) | (unfold R64 at *; omega) | (simp only [R32, R64] at *; omega)) (fun h_74 => ?_) (fun h_74 => ?_)
            · show WV _ _ _ 80 _ _ _ _ _
              rw [if_neg h_74] at hK
              refine r_ex 7 (pc' := 90) (lo' := [some (.inr (.inr (some 203))), some (.inl t), some (.inl c), some (.inl g), some (.inl k)]) (st' := [.inl ((5 * k) + 4), .inr (.inr (some 225))]) rfl ?_
              refine r_iald2 (j := 0) (x := (v 225 ((((5 * k) + 4)).toNat))) (pc' := 91) (pc0 := 90) (len := 1) rfl (s_225 _) (by first | assumption | omega | (unfold R32 at *; omega) | (unfold R64 at *; omega) | (simp only [R32, R64] at *; omega)) (by decide) rfl rfl ?_
              have hb_6 : -1 ≤ (v 225 ((((5 * k) + 4)).toNat)) ∧ (v 225 ((((5 * k) + 4)).toNat)) ≤ 3699 := hX 225 ((((5 * k) + 4)).toNat)
              have hn_ := LK.nx hi_5 (k := k) (by omega) (by omega)
              refine r_ex 2 (pc' := 10) (lo' := [some (.inr (.inr (some 203))), some (.inl t), some (.inl c), some (.inl g), some (.inl (v 225 ((((5 * k) + 4)).toNat)))]) (st' := []) rfl ?_
              refine ih v t c g (v 225 ((((5 * k) + 4)).toNat))  hX (by first | assumption | omega | (unfold R32 at *; omega) | (unfold R64 at *; omega) | (simp only [R32, R64] at *; omega)) (by first | assumption | omega | (unfold R32 at *; omega) | (unfold R64 at *; omega) | (simp only [R32, R64] at *; omega)) (by first | assumption | omega | (unfold R32 at *; omega) | (unfold R64 at *; omega) | (simp only [R32, R64] at *; omega)) (by first | assumption | omega | (unfold R32 at *; omega) | (unfold R64 at *; omega) | (simp only [R32, R64] at *; omega)) (show (v 225 ((((5 * k) + 4)).toNat)) < (v 203 43) ∨ (v 225 ((((5 * k) + 4)).toNat)) = -1 from (by first | assumption | omega | (unfold R32 at *; omega) | (unfold R64 at *; omega) | (simp only [R32, R64] at *; omega))) (hi_5) (by first | assumption | omega | (unfold R32 at *; omega) | (unfold R64 at *; omega) | (simp only [R32, R64] at *; omega)) hK
            · show WV _ _ _ 77 _ _ _ _ _
              rw [if_pos h_74] at hK
              refine r_ex 9 (pc' := 90) (lo' := [some (.inr (.inr (some 203))), some (.inl t), some (.inl c), some (.inl k), some (.inl k)]) (st' := [.inl ((5 * k) + 4), .inr (.inr (some 225))]) rfl ?_
              refine r_iald2 (j := 0) (x := (v 225 ((((5 * k) + 4)).toNat))) (pc' := 91) (pc0 := 90) (len := 1) rfl (s_225 _) (by first | assumption | omega | (unfold R32 at *; omega) | (unfold R64 at *; omega) | (simp only [R32, R64] at *; omega)) (by decide) rfl rfl ?_
              have hb_7 : -1 ≤ (v 225 ((((5 * k) + 4)).toNat)) ∧ (v 225 ((((5 * k) + 4)).toNat)) ≤ 3699 := hX 225 ((((5 * k) + 4)).toNat)
              have hn_ := LK.nx hi_5 (k := k) (by omega) (by omega)
              refine r_ex 2 (pc' := 10) (lo' := [some (.inr (.inr (some 203))), some (.inl t), some (.inl c), some (.inl k), some (.inl (v 225 ((((5 * k) + 4)).toNat)))]) (st' := []) rfl ?_
              refine ih v t c k (v 225 ((((5 * k) + 4)).toNat))  hX (by first | assumption | omega | (unfold R32 at *; omega) | (unfold R64 at *; omega) | (simp only [R32, R64] at *; omega)) (by first | assumption | omega | (unfold R32 at *; omega) | (unfold R64 at *; omega) | (simp only [R32, R64] at *; omega)) (by first | assumption | omega | (unfold R32 at *; omega) | (unfold R64 at *; omega) | (simp only [R32, R64] at *; omega)) (by first | assumption | omega | (unfold R32 at *; omega) | (unfold R64 at *; omega) | (simp only [R32, R64] at *; omega)) (show (v 225 ((((5 * k) + 4)).toNat)) < (v 203 43) ∨ (v 225 ((((5 * k) + 4)).toNat)) = -1 from (by first | assumption | omega | (unfold R32 at *; omega) | (unfold R64 at *; omega) | (simp only [R32, R64] at *; omega))) (hi_5) (by first | assumption | omega | (unfold R32 at *; omega) | (unfold R64 at *; omega) | (simp only [R32, R64] at *; omega)) hK
        · show WV _ _ _ 37 _ _ _ _ _
          rw [if_neg h_34] at hK
          refine r_ex 4 (pc' := 44) (lo' := [some (.inr (.inr (some 203))), some (.inl t), some (.inl c), some (.inl g), some (.inl k)]) (st' := [.inl 7, .inr (.inr (some 221)), .inl 7, .inr (.inr (some 221))]) rfl ?_
          refine r_iald2 (j := 0) (x := (v 221 7)) (pc' := 45) (pc0 := 44) (len := 1) rfl (s_221 _) (by first | assumption | omega | (unfold R32 at *; omega) | (unfold R64 at *; omega) | (simp only [R32, R64] at *; omega)) (by decide) rfl rfl ?_
          refine r_ex 2 (pc' := 47) (lo' := [some (.inr (.inr (some 203))), some (.inl t), some (.inl c), some (.inl g), some (.inl k)]) (st' := [.inl ((v 221 7) + 1), .inl 7, .inr (.inr (some 221))]) rfl ?_
          refine r_iast2 (pc' := 48) (pc0 := 47) (len := 1) rfl (s_221 _) (by first | assumption | omega | (unfold R32 at *; omega) | (unfold R64 at *; omega) | (simp only [R32, R64] at *; omega)) (by decide) rfl ?_
          have hX_8 : XI (v2 v 221 7 ((v 221 7) + 1)) := XI.put hX trivial
          show WV _ _ _ 48 _ _ _ (v2 v 221 7 ((v 221 7) + 1)) _
          refine r_ex 2 (pc' := 50) (lo' := [some (.inr (.inr (some 203))), some (.inl t), some (.inl c), some (.inl g), some (.inl k)]) (st' := [.inl (-1), .inl g]) rfl ?_
          refine n_ic_eq (pc0 := 50) (len := 3) (t := 77) rfl (by first | assumption | omega | (unfold R32 at *; omega) | (unfold R64 at *; omega) | (simp only [R32, R64] at *; omega)) (by first | assumption | omega | (unfold R32 at *; omega) | (unfold R64 at *; omega) | (simp only [R32, R64] at *; omega)) (fun h_50 => ?_) (fun h_50 => ?_)
          · show WV _ _ _ 77 _ _ _ _ _
            rw [if_pos h_50] at hK
            refine r_ex 9 (pc' := 90) (lo' := [some (.inr (.inr (some 203))), some (.inl t), some (.inl c), some (.inl k), some (.inl k)]) (st' := [.inl ((5 * k) + 4), .inr (.inr (some 225))]) rfl ?_
            refine r_iald2 (j := 0) (x := (v 225 ((((5 * k) + 4)).toNat))) (pc' := 91) (pc0 := 90) (len := 1) rfl (s_225 _) (by first | assumption | omega | (unfold R32 at *; omega) | (unfold R64 at *; omega) | (simp only [R32, R64] at *; omega)) (by decide) rfl rfl ?_
            have hb_9 : -1 ≤ (v 225 ((((5 * k) + 4)).toNat)) ∧ (v 225 ((((5 * k) + 4)).toNat)) ≤ 3699 := hX_8 225 ((((5 * k) + 4)).toNat)
            have hn_ := LK.nx hi_5 (k := k) (by omega) (by omega)
            refine r_ex 2 (pc' := 10) (lo' := [some (.inr (.inr (some 203))), some (.inl t), some (.inl c), some (.inl k), some (.inl (v 225 ((((5 * k) + 4)).toNat)))]) (st' := []) rfl ?_
            refine ih (v2 v 221 7 ((v 221 7) + 1)) t c k (v 225 ((((5 * k) + 4)).toNat))  hX_8 (by first | assumption | omega | (unfold R32 at *; omega) | (unfold R64 at *; omega) | (simp only [R32, R64] at *; omega)) (by first | assumption | omega | (unfold R32 at *; omega) | (unfold R64 at *; omega) | (simp only [R32, R64] at *; omega)) (by first | assumption | omega | (unfold R32 at *; omega) | (unfold R64 at *; omega) | (simp only [R32, R64] at *; omega)) (by first | assumption | omega | (unfold R32 at *; omega) | (unfold R64 at *; omega) | (simp only [R32, R64] at *; omega)) (show (v 225 ((((5 * k) + 4)).toNat)) < (v 203 43) ∨ (v 225 ((((5 * k) + 4)).toNat)) = -1 from (by first | assumption | omega | (unfold R32 at *; omega) | (unfold R64 at *; omega) | (simp only [R32, R64] at *; omega))) (show LK (v2 v 221 7 ((v 221 7) + 1)) from LK.of hi_5 (fun k h1 h2 => by rw [v2_row (by omega)]) rfl) (by first | assumption | omega | (unfold R32 at *; omega) | (unfold R64 at *; omega) | (simp only [R32, R64] at *; omega)) hK
          · show WV _ _ _ 53 _ _ _ _ _
            rw [if_neg h_50] at hK
            refine r_ex 7 (pc' := 63) (lo' := [some (.inr (.inr (some 203))), some (.inl t), some (.inl c), some (.inl g), some (.inl k)]) (st' := [.inl ((5 * k) + 1), .inr (.inr (some 225))]) rfl ?_
            refine r_iald2 (j := 0) (x := (v 225 ((((5 * k) + 1)).toNat))) (pc' := 64) (pc0 := 63) (len := 1) rfl (s_225 _) (by first | assumption | omega | (unfold R32 at *; omega) | (unfold R64 at *; omega) | (simp only [R32, R64] at *; omega)) (by decide) rfl rfl ?_
            have hb_10 : -1 ≤ (v 225 ((((5 * k) + 1)).toNat)) ∧ (v 225 ((((5 * k) + 1)).toNat)) ≤ 3699 := hX_8 225 ((((5 * k) + 1)).toNat)
            refine r_ex 7 (pc' := 73) (lo' := [some (.inr (.inr (some 203))), some (.inl t), some (.inl c), some (.inl g), some (.inl k)]) (st' := [.inl ((5 * g) + 1), .inr (.inr (some 225)), .inl (v 225 ((((5 * k) + 1)).toNat))]) rfl ?_
            refine r_iald2 (j := 0) (x := (v 225 ((((5 * g) + 1)).toNat))) (pc' := 74) (pc0 := 73) (len := 1) rfl (s_225 _) (by first | assumption | omega | (unfold R32 at *; omega) | (unfold R64 at *; omega) | (simp only [R32, R64] at *; omega)) (by decide) rfl rfl ?_
            have hb_11 : -1 ≤ (v 225 ((((5 * g) + 1)).toNat)) ∧ (v 225 ((((5 * g) + 1)).toNat)) ≤ 3699 := hX_8 225 ((((5 * g) + 1)).toNat)
            refine n_ic_le (pc0 := 74) (len := 3) (t := 80) rfl (by first | assumption | omega | (unfold R32 at *; omega) | (unfold R64 at *; omega) | (simp only [R32, R64] at *; omega)) (by first | assumption | omega | (unfold R32 at *; omega) | (unfold R64 at *; omega) | (simp only [R32, R64] at *; omega)) (fun h_74 => ?_) (fun h_74 => ?_)
            · show WV _ _ _ 80 _ _ _ _ _
              rw [if_neg h_74] at hK
              refine r_ex 7 (pc' := 90) (lo' := [some (.inr (.inr (some 203))), some (.inl t), some (.inl c), some (.inl g), some (.inl k)]) (st' := [.inl ((5 * k) + 4), .inr (.inr (some 225))]) rfl ?_
              refine r_iald2 (j := 0) (x := (v 225 ((((5 * k) + 4)).toNat))) (pc' := 91) (pc0 := 90) (len := 1) rfl (s_225 _) (by first | assumption | omega | (unfold R32 at *; omega) | (unfold R64 at *; omega) | (simp only [R32, R64] at *; omega)) (by decide) rfl rfl ?_
              have hb_12 : -1 ≤ (v 225 ((((5 * k) + 4)).toNat)) ∧ (v 225 ((((5 * k) + 4)).toNat)) ≤ 3699 := hX_8 225 ((((5 * k) + 4)).toNat)
              have hn_ := LK.nx hi_5 (k := k) (by omega) (by omega)
              refine r_ex 2 (pc' := 10) (lo' := [some (.inr (.inr (some 203))), some (.inl t), some (.inl c), some (.inl g), some (.inl (v 225 ((((5 * k) + 4)).toNat)))]) (st' := []) rfl ?_
              refine ih (v2 v 221 7 ((v 221 7) + 1)) t c g (v 225 ((((5 * k) + 4)).toNat))  hX_8 (by first | assumption | omega | (unfold R32 at *; omega) | (unfold R64 at *; omega) | (simp only [R32, R64] at *; omega)) (by first | assumption | omega | (unfold R32 at *; omega) | (unfold R64 at *; omega) | (simp only [R32, R64] at *; omega)) (by first | assumption | omega | (unfold R32 at *; omega) | (unfold R64 at *; omega) | (simp only [R32, R64] at *; omega)) (by first | assumption | omega | (unfold R32 at *; omega) | (unfold R64 at *; omega) | (simp only [R32, R64] at *; omega)) (show (v 225 ((((5 * k) + 4)).toNat)) < (v 203 43) ∨ (v 225 ((((5 * k) + 4)).toNat)) = -1 from (by first | assumption | omega | (unfold R32 at *; omega) | (unfold R64 at *; omega) | (simp only [R32, R64] at *; omega))) (show LK (v2 v 221 7 ((v 221 7) + 1)) from LK.of hi_5 (fun k h1 h2 => by rw [v2_row (by omega)]) rfl) (by first | assumption | omega | (unfold R32 at *; omega) | (unfold R64 at *; omega) | (simp only [R32, R64] at *; omega)) hK
            · show WV _ _ _ 77 _ _ _ _ _
              rw [if_pos h_74] at hK
              refine r_ex 9 (pc' := 90) (lo' := [some (.inr (.inr (some 203))), some (.inl t), some (.inl c), some (.inl k), some (.inl k)]) (st' := [.inl ((5 * k) + 4), .inr (.inr (some 225))]) rfl ?_
              refine r_iald2 (j := 0) (x := (v 225 ((((5 * k) + 4)).toNat))) (pc' := 91) (pc0 := 90) (len := 1) rfl (s_225 _) (by first | assumption | omega | (unfold R32 at *; omega) | (unfold R64 at *; omega) | (simp only [R32, R64] at *; omega)) (by decide) rfl rfl ?_
              have hb_13 : -1 ≤ (v 225 ((((5 * k) + 4)).toNat)) ∧ (v 225 ((((5 * k) + 4)).toNat)) ≤ 3699 := hX_8 225 ((((5 * k) + 4)).toNat)
              have hn_ := LK.nx hi_5 (k := k) (by omega) (by omega)
              refine r_ex 2 (pc' := 10) (lo' := [some (.inr (.inr (some 203))), some (.inl t), some (.inl c), some (.inl k), some (.inl (v 225 ((((5 * k) + 4)).toNat)))]) (st' := []) rfl ?_
              refine ih (v2 v 221 7 ((v 221 7) + 1)) t c k (v 225 ((((5 * k) + 4)).toNat))  hX_8 (by first | assumption | omega | (unfold R32 at *; omega) | (unfold R64 at *; omega) | (simp only [R32, R64] at *; omega)) (by first | assumption | omega | (unfold R32 at *; omega) | (unfold R64 at *; omega) | (simp only [R32, R64] at *; omega)) (by first | assumption | omega | (unfold R32 at *; omega) | (unfold R64 at *; omega) | (simp only [R32, R64] at *; omega)) (by first | assumption | omega | (unfold R32 at *; omega) | (unfold R64 at *; omega) | (simp only [R32, R64] at *; omega)) (show (v 225 ((((5 * k) + 4)).toNat)) < (v 203 43) ∨ (v 225 ((((5 * k) + 4)).toNat)) = -1 from (by first | assumption | omega | (unfold R32 at *; omega) | (unfold R64 at *; omega) | (simp only [R32, R64] at *; omega))) (show LK (v2 v 221 7 ((v 221 7) + 1)) from LK.of hi_5 (fun k h1 h2 => by rw [v2_row (by omega)]) rfl) (by first | assumption | omega | (unfold R32 at *; omega) | (unfold R64 at *; omega) | (simp only [R32, R64] at *; omega)) hK
      · show WV _ _ _ 29 _ _ _ _ _
        rw [if_neg h_26] at hK
        refine r_ex 8 (pc' := 90) (lo' := [some (.inr (.inr (some 203))), some (.inl t), some (.inl c), some (.inl g), some (.inl k)]) (st' := [.inl ((5 * k) + 4), .inr (.inr (some 225))]) rfl ?_
        refine r_iald2 (j := 0) (x := (v 225 ((((5 * k) + 4)).toNat))) (pc' := 91) (pc0 := 90) (len := 1) rfl (s_225 _) (by first | assumption | omega | (unfold R32 at *; omega) | (unfold R64 at *; omega) | (simp only [R32, R64] at *; omega)) (by decide) rfl rfl ?_
        have hb_14 : -1 ≤ (v 225 ((((5 * k) + 4)).toNat)) ∧ (v 225 ((((5 * k) + 4)).toNat)) ≤ 3699 := hX 225 ((((5 * k) + 4)).toNat)
        have hn_ := LK.nx hi_5 (k := k) (by omega) (by omega)
        refine r_ex 2 (pc' := 10) (lo' := [some (.inr (.inr (some 203))), some (.inl t), some (.inl c), some (.inl g), some (.inl (v 225 ((((5 * k) + 4)).toNat)))]) (st' := []) rfl ?_
        refine ih v t c g (v 225 ((((5 * k) + 4)).toNat))  hX (by first | assumption | omega | (unfold R32 at *; omega) | (unfold R64 at *; omega) | (simp only [R32, R64] at *; omega)) (by first | assumption | omega | (unfold R32 at *; omega) | (unfold R64 at *; omega) | (simp only [R32, R64] at *; omega)) (by first | assumption | omega | (unfold R32 at *; omega) | (unfold R64 at *; omega) | (simp only [R32, R64] at *; omega)) (by first | assumption | omega | (unfold R32 at *; omega) | (unfold R64 at *; omega) | (simp only [R32, R64] at *; omega)) (show (v 225 ((((5 * k) + 4)).toNat)) < (v 203 43) ∨ (v 225 ((((5 * k) + 4)).toNat)) = -1 from (by first | assumption | omega | (unfold R32 at *; omega) | (unfold R64 at *; omega) | (simp only [R32, R64] at *; omega))) (hi_5) (by first | assumption | omega | (unfold R32 at *; omega) | (unfold R64 at *; omega) | (simp only [R32, R64] at *; omega)) hK

theorem of_mo_falls_10 {rk : Nat} (hk : (rk < 221 ∨ 221 < rk)) : ∀ (f : Nat) {v : VS} {t : Int} {c : Int} {g : Int} {k : Int}, (mo_falls_10 f v t c g k).2 rk = v rk := by
  intro f
  induction f with
  | zero => intro v t c g k; rfl
  | succ f ih =>
    intro v t c g k
    rw [mo_falls_10]
    by_cases hc_ : k = (-1)
    · rw [if_pos hc_]
      all_goals (show v rk = _)
      all_goals rfl
    · rw [if_neg hc_]
      by_cases hc_ : (v 225 (((5 * k)).toNat)) = c
      · rw [if_pos hc_]
        by_cases hc_ : g = (-1)
        · rw [if_pos hc_]
          by_cases hc_ : g = (-1)
          · rw [if_pos hc_]
            all_goals (rw [ih])
          · rw [if_neg hc_]
            by_cases hc_ : (v 225 ((((5 * g) + 1)).toNat)) < (v 225 ((((5 * k) + 1)).toNat))
            · rw [if_pos hc_]
              all_goals (rw [ih])
            · rw [if_neg hc_]
              all_goals (rw [ih])
        · rw [if_neg hc_]
          by_cases hc_ : g = (-1)
          · rw [if_pos hc_]
            all_goals (rw [ih, v2_row (by omega)])
          · rw [if_neg hc_]
            by_cases hc_ : (v 225 ((((5 * g) + 1)).toNat)) < (v 225 ((((5 * k) + 1)).toNat))
            · rw [if_pos hc_]
              all_goals (rw [ih, v2_row (by omega)])
            · rw [if_neg hc_]
              all_goals (rw [ih, v2_row (by omega)])
      · rw [if_neg hc_]
        all_goals (rw [ih])
theorem o_mo_falls_10 {rk : Nat} {f : Nat} {v : VS} {t : Int} {c : Int} {g : Int} {k : Int} (hk : (rk < 221 ∨ 221 < rk)) : (mo_falls_10 f v t c g k).2 rk = v rk := of_mo_falls_10 hk f

theorem w_mo_falls {X : PX} {d b : Nat} {v : VS} {t : Int} {c : Int} (hX : XI v) (hp_a : 0 ≤ t ∧ t < 300) (hp_b : 0 ≤ c ∧ c ≤ 8) (hp_c : (v 203 37) < 300) (hp_d : (v 203 43) ≤ 5 + 12 * (v 203 37)) (hp_e : LK v) (hp_f : CF v) {Q : Option PV → Nat → VS → Prop} (hQ : XI (mo_falls v t c) → (((mo_falls v t c) 203 43) ≤ 5 + 12 * ((mo_falls v t c) 203 37)) → (LK (mo_falls v t c)) → Q none b (mo_falls v t c)) : WV X (d + 1 + 1 + 1) 249 0 [some (.inr (.inr (some 203))), some (.inl t), some (.inl c), none, none] [] b v Q := by
  rw [mo_falls] at hQ
  refine r_ex 5 (pc' := 7) (lo' := [some (.inr (.inr (some 203))), some (.inl t), some (.inl c), some (.inl (-1)), none]) (st' := [.inl t, .inr (.inr (some 226))]) rfl ?_
  refine r_iald2 (j := 0) (x := (v 226 ((t).toNat))) (pc' := 8) (pc0 := 7) (len := 1) rfl (s_226 _) (by first | assumption | omega | (unfold R32 at *; omega) | (unfold R64 at *; omega) | (simp only [R32, R64] at *; omega)) (by decide) rfl rfl ?_
  have hb_1 : -1 ≤ (v 226 ((t).toNat)) ∧ (v 226 ((t).toNat)) ≤ 3699 := hX 226 ((t).toNat)
  have hd_ := LK.hd (hp_e) (t := t) (by omega)
  refine r_ex 1 (pc' := 10) (lo' := [some (.inr (.inr (some 203))), some (.inl t), some (.inl c), some (.inl (-1)), some (.inl (v 226 ((t).toNat)))]) (st' := []) rfl ?_
  refine l_mo_falls_10 3702 v t c (-1) (v 226 ((t).toNat))  hX (by first | assumption | omega | (unfold R32 at *; omega) | (unfold R64 at *; omega) | (simp only [R32, R64] at *; omega)) (by first | assumption | omega | (unfold R32 at *; omega) | (unfold R64 at *; omega) | (simp only [R32, R64] at *; omega)) (by first | assumption | omega | (unfold R32 at *; omega) | (unfold R64 at *; omega) | (simp only [R32, R64] at *; omega)) (by first | assumption | omega | (unfold R32 at *; omega) | (unfold R64 at *; omega) | (simp only [R32, R64] at *; omega)) (show (v 226 ((t).toNat)) < (v 203 43) ∨ (v 226 ((t).toNat)) = -1 from (by first | assumption | omega | (unfold R32 at *; omega) | (unfold R64 at *; omega) | (simp only [R32, R64] at *; omega))) (hp_e) (by first | assumption | omega | (unfold R32 at *; omega) | (unfold R64 at *; omega) | (simp only [R32, R64] at *; omega)) (fun o4_15 hX_15 hv_15_0 hv_15_1 => ?_)
  have hb_16 : ((mo_falls_10 3702 v t c (-1) (v 226 ((t).toNat))).2) 203 37 = (v 203 37) := by rw [o_mo_falls_10 (by omega)] <;> rfl
  have hb_17 : ((mo_falls_10 3702 v t c (-1) (v 226 ((t).toNat))).2) 203 43 = (v 203 43) := by rw [o_mo_falls_10 (by omega)] <;> rfl
  show WV _ _ _ 96 _ _ _ _ _
  refine r_ex 2 (pc' := 98) (lo' := [some (.inr (.inr (some 203))), some (.inl t), some (.inl c), some (.inl ((mo_falls_10 3702 v t c (-1) (v 226 ((t).toNat))).1)), o4_15]) (st' := [.inl (-1), .inl ((mo_falls_10 3702 v t c (-1) (v 226 ((t).toNat))).1)]) rfl ?_
  refine n_ic_ne (pc0 := 98) (len := 3) (t := 102) rfl (by first | assumption | omega | (unfold R32 at *; omega) | (unfold R64 at *; omega) | (simp only [R32, R64] at *; omega)) (by first | assumption | omega | (unfold R32 at *; omega) | (unfold R64 at *; omega) | (simp only [R32, R64] at *; omega)) (fun h_98 => ?_) (fun h_98 => ?_)
  · show WV _ _ _ 102 _ _ _ _ _
    rw [if_neg h_98] at hQ
    refine r_ex 6 (pc' := 110) (lo' := [some (.inr (.inr (some 203))), some (.inl t), some (.inl c), some (.inl ((mo_falls_10 3702 v t c (-1) (v 226 ((t).toNat))).1)), o4_15]) (st' := [.inl (pm_and (pm_shr ((mo_falls_10 3702 v t c (-1) (v 226 ((t).toNat))).2 203 30) c) 1)]) rfl ?_
    have hb_18 : 0 ≤ ((mo_falls_10 3702 v t c (-1) (v 226 ((t).toNat))).2 203 30) ∧ ((mo_falls_10 3702 v t c (-1) (v 226 ((t).toNat))).2 203 30) ≤ 511 := hX_15 203 30
    rw [bit_eq (x := ((mo_falls_10 3702 v t c (-1) (v 226 ((t).toNat))).2 203 30)) (c := c) (by first | assumption | omega | (unfold R32 at *; omega) | (unfold R64 at *; omega) | (simp only [R32, R64] at *; omega)) (by first | assumption | omega | (unfold R32 at *; omega) | (unfold R64 at *; omega) | (simp only [R32, R64] at *; omega))]
    have hb_19 := bt01 ((mo_falls_10 3702 v t c (-1) (v 226 ((t).toNat))).2 203 30) c
    refine r_ex 1 (pc' := 111) (lo' := [some (.inr (.inr (some 203))), some (.inl t), some (.inl c), some (.inl ((mo_falls_10 3702 v t c (-1) (v 226 ((t).toNat))).1)), o4_15]) (st' := [.inl 1, .inl (bt ((mo_falls_10 3702 v t c (-1) (v 226 ((t).toNat))).2 203 30) c)]) rfl ?_
    refine n_ic_ne (pc0 := 111) (len := 3) (t := 127) rfl (by first | assumption | omega | (unfold R32 at *; omega) | (unfold R64 at *; omega) | (simp only [R32, R64] at *; omega)) (by first | assumption | omega | (unfold R32 at *; omega) | (unfold R64 at *; omega) | (simp only [R32, R64] at *; omega)) (fun h_111 => ?_) (fun h_111 => ?_)
    · show WV _ _ _ 127 _ _ _ _ _
      rw [if_neg h_111] at hQ
      refine r_ex 3 (pc' := 132) (lo' := [some (.inr (.inr (some 203))), some (.inl t), some (.inl c), some (.inl ((mo_falls_10 3702 v t c (-1) (v 226 ((t).toNat))).1)), o4_15]) (st' := [.inl 4, .inl ((mo_falls_10 3702 v t c (-1) (v 226 ((t).toNat))).2 203 34)]) rfl ?_
      have hb_20 : -1 ≤ ((mo_falls_10 3702 v t c (-1) (v 226 ((t).toNat))).2 203 34) ∧ ((mo_falls_10 3702 v t c (-1) (v 226 ((t).toNat))).2 203 34) ≤ 6 := hX_15 203 34
      refine n_ic_eq (pc0 := 132) (len := 3) (t := 179) rfl (by first | assumption | omega | (unfold R32 at *; omega) | (unfold R64 at *; omega) | (simp only [R32, R64] at *; omega)) (by first | assumption | omega | (unfold R32 at *; omega) | (unfold R64 at *; omega) | (simp only [R32, R64] at *; omega)) (fun h_132 => ?_) (fun h_132 => ?_)
      · show WV _ _ _ 179 _ _ _ _ _
        rw [if_pos h_132] at hQ
        refine r_ex 3 (pc' := 184) (lo' := [some (.inr (.inr (some 203))), some (.inl t), some (.inl c), some (.inl ((mo_falls_10 3702 v t c (-1) (v 226 ((t).toNat))).1)), o4_15]) (st' := [.inl 5, .inl ((mo_falls_10 3702 v t c (-1) (v 226 ((t).toNat))).2 203 34)]) rfl ?_
        refine n_ic_eq (pc0 := 184) (len := 3) (t := 231) rfl (by first | assumption | omega | (unfold R32 at *; omega) | (unfold R64 at *; omega) | (simp only [R32, R64] at *; omega)) (by first | assumption | omega | (unfold R32 at *; omega) | (unfold R64 at *; omega) | (simp only [R32, R64] at *; omega)) (fun h_184 => ?_) (fun h_184 => ?_)
        · show WV _ _ _ 231 _ _ _ _ _
          rw [if_pos h_184] at hQ
          refine r_ex 6 (pc' := 237) (lo' := [some (.inr (.inr (some 203))), some (.inl t), some (.inl c), some (.inl ((mo_falls_10 3702 v t c (-1) (v 226 ((t).toNat))).1)), o4_15]) (st' := [.inl (5 * (mo_falls_10 3702 v t c (-1) (v 226 ((t).toNat))).1), .inl c, .inl t, .inr (.inr (some 203))]) rfl ?_
          have hp_21 : 0 ≤ t ∧ t < 300 := (by first | assumption | omega | (unfold R32 at *; omega) | (unfold R64 at *; omega) | (simp only [R32, R64] at *; omega))
          have hp_22 : 0 ≤ c ∧ c ≤ 8 := (by first | assumption | omega | (unfold R32 at *; omega) | (unfold R64 at *; omega) | (simp only [R32, R64] at *; omega))
          have hp_23 : 0 ≤ (5 * (mo_falls_10 3702 v t c (-1) (v 226 ((t).toNat))).1) ∧ (5 * (mo_falls_10 3702 v t c (-1) (v 226 ((t).toNat))).1) ≤ 18495 := (by first | assumption | omega | (unfold R32 at *; omega) | (unfold R64 at *; omega) | (simp only [R32, R64] at *; omega))
          have hp_24 : (((mo_falls_10 3702 v t c (-1) (v 226 ((t).toNat))).2) 203 37) < 300 := (show ((mo_falls_10 3702 v t c (-1) (v 226 ((t).toNat))).2 203 37) < 300 from (by first | assumption | omega | (unfold R32 at *; omega) | (unfold R64 at *; omega) | (simp only [R32, R64] at *; omega)))
          have hp_25 : (((mo_falls_10 3702 v t c (-1) (v 226 ((t).toNat))).2) 203 43) ≤ 5 + 12 * (((mo_falls_10 3702 v t c (-1) (v 226 ((t).toNat))).2) 203 37) := (show ((mo_falls_10 3702 v t c (-1) (v 226 ((t).toNat))).2 203 43) ≤ 5 + 12 * ((mo_falls_10 3702 v t c (-1) (v 226 ((t).toNat))).2 203 37) from (by first | assumption | omega | (unfold R32 at *; omega) | (unfold R64 at *; omega) | (simp only [R32, R64] at *; omega)))
          have hp_26 : LK (mo_falls_10 3702 v t c (-1) (v 226 ((t).toNat))).2 := hv_15_1
          have hp_27 : CF (mo_falls_10 3702 v t c (-1) (v 226 ((t).toNat))).2 := show CF ((mo_falls_10 3702 v t c (-1) (v 226 ((t).toNat))).2) from (show CF ((mo_falls_10 3702 v t c (-1) (v 226 ((t).toNat))).2) from CF.of hp_f (fun k h1 h2 => by rw [o_mo_falls_10 (by omega)]))
          refine r_call (m := 250) (args := [.inr (.inr (some 203)), .inl t, .inl c, .inl (5 * (mo_falls_10 3702 v t c (-1) (v 226 ((t).toNat))).1)]) (n' := 249) (pc' := 240) (lo' := [some (.inr (.inr (some 203))), some (.inl t), some (.inl c), some (.inl ((mo_falls_10 3702 v t c (-1) (v 226 ((t).toNat))).1)), o4_15]) (st' := []) (I := .invokevirtual 250) (pc0 := 237) (len := 3) rfl rfl rfl (e_mo_strikesAt hX_15 hp_21 hp_22 hp_23 hp_24 hp_25 hp_26 hp_27) ?_
          show WV _ _ _ 240 _ [] _ (mo_strikesAt ((mo_falls_10 3702 v t c (-1) (v 226 ((t).toNat))).2) t c (5 * (mo_falls_10 3702 v t c (-1) (v 226 ((t).toNat))).1)) _
          have hX_28 : XI (mo_strikesAt ((mo_falls_10 3702 v t c (-1) (v 226 ((t).toNat))).2) t c (5 * (mo_falls_10 3702 v t c (-1) (v 226 ((t).toNat))).1)) := i_mo_strikesAt (v := (mo_falls_10 3702 v t c (-1) (v 226 ((t).toNat))).2) (t := t) (c := c) (k := (5 * (mo_falls_10 3702 v t c (-1) (v 226 ((t).toNat))).1)) hX_15 hp_21 hp_22 hp_23 hp_24 hp_25 hp_26 hp_27
          have hb_29 : ((mo_strikesAt ((mo_falls_10 3702 v t c (-1) (v 226 ((t).toNat))).2) t c (5 * (mo_falls_10 3702 v t c (-1) (v 226 ((t).toNat))).1)) 203 43) ≤ 5 + 12 * ((mo_strikesAt ((mo_falls_10 3702 v t c (-1) (v 226 ((t).toNat))).2) t c (5 * (mo_falls_10 3702 v t c (-1) (v 226 ((t).toNat))).1)) 203 37) := n0_mo_strikesAt (v := (mo_falls_10 3702 v t c (-1) (v 226 ((t).toNat))).2) (t := t) (c := c) (k := (5 * (mo_falls_10 3702 v t c (-1) (v 226 ((t).toNat))).1)) hX_15 hp_21 hp_22 hp_23 hp_24 hp_25 hp_26 hp_27
          have hl_30 := n1_mo_strikesAt (v := (mo_falls_10 3702 v t c (-1) (v 226 ((t).toNat))).2) (t := t) (c := c) (k := (5 * (mo_falls_10 3702 v t c (-1) (v 226 ((t).toNat))).1)) hX_15 hp_21 hp_22 hp_23 hp_24 hp_25 hp_26 hp_27
          refine r_ret (rr := none) (I := .return_) (pc0 := 240) (len := 1) rfl rfl ?_
          exact hQ hX_28 (show ((mo_strikesAt ((mo_falls_10 3702 v t c (-1) (v 226 ((t).toNat))).2) t c (5 * (mo_falls_10 3702 v t c (-1) (v 226 ((t).toNat))).1)) 203 43) ≤ 5 + 12 * ((mo_strikesAt ((mo_falls_10 3702 v t c (-1) (v 226 ((t).toNat))).2) t c (5 * (mo_falls_10 3702 v t c (-1) (v 226 ((t).toNat))).1)) 203 37) from (by first | assumption | omega | (unfold R32 at *; omega) | (unfold R64 at *; omega) | (simp only [R32, R64] at *; omega))) (hl_30)
        · show WV _ _ _ 187 _ _ _ _ _
          rw [if_neg h_184] at hQ
          refine r_ex 5 (pc' := 194) (lo' := [some (.inr (.inr (some 203))), some (.inl t), some (.inl c), some (.inl ((mo_falls_10 3702 v t c (-1) (v 226 ((t).toNat))).1)), o4_15]) (st' := [.inl (3 * c), .inr (.inr (some 211))]) rfl ?_
          refine r_iald2 (j := 0) (x := ((mo_falls_10 3702 v t c (-1) (v 226 ((t).toNat))).2 211 (((3 * c)).toNat))) (pc' := 195) (pc0 := 194) (len := 1) rfl (s_211 _) (by first | assumption | omega | (unfold R32 at *; omega) | (unfold R64 at *; omega) | (simp only [R32, R64] at *; omega)) (by decide) rfl rfl ?_
          have hb_31 : 0 ≤ ((mo_falls_10 3702 v t c (-1) (v 226 ((t).toNat))).2 211 (((3 * c)).toNat)) ∧ ((mo_falls_10 3702 v t c (-1) (v 226 ((t).toNat))).2 211 (((3 * c)).toNat)) ≤ 99 := hX_15 211 (((3 * c)).toNat)
          refine r_ex 1 (pc' := 196) (lo' := [some (.inr (.inr (some 203))), some (.inl t), some (.inl c), some (.inl ((mo_falls_10 3702 v t c (-1) (v 226 ((t).toNat))).1)), o4_15]) (st' := [.inl 1, .inl ((mo_falls_10 3702 v t c (-1) (v 226 ((t).toNat))).2 211 (((3 * c)).toNat))]) rfl ?_
          refine n_ic_ne (pc0 := 196) (len := 3) (t := 231) rfl (by first | assumption | omega | (unfold R32 at *; omega) | (unfold R64 at *; omega) | (simp only [R32, R64] at *; omega)) (by first | assumption | omega | (unfold R32 at *; omega) | (unfold R64 at *; omega) | (simp only [R32, R64] at *; omega)) (fun h_196 => ?_) (fun h_196 => ?_)
          · show WV _ _ _ 231 _ _ _ _ _
            rw [if_neg h_196] at hQ
            refine r_ex 6 (pc' := 237) (lo' := [some (.inr (.inr (some 203))), some (.inl t), some (.inl c), some (.inl ((mo_falls_10 3702 v t c (-1) (v 226 ((t).toNat))).1)), o4_15]) (st' := [.inl (5 * (mo_falls_10 3702 v t c (-1) (v 226 ((t).toNat))).1), .inl c, .inl t, .inr (.inr (some 203))]) rfl ?_
            have hp_32 : 0 ≤ t ∧ t < 300 := (by first | assumption | omega | (unfold R32 at *; omega) | (unfold R64 at *; omega) | (simp only [R32, R64] at *; omega))
            have hp_33 : 0 ≤ c ∧ c ≤ 8 := (by first | assumption | omega | (unfold R32 at *; omega) | (unfold R64 at *; omega) | (simp only [R32, R64] at *; omega))
            have hp_34 : 0 ≤ (5 * (mo_falls_10 3702 v t c (-1) (v 226 ((t).toNat))).1) ∧ (5 * (mo_falls_10 3702 v t c (-1) (v 226 ((t).toNat))).1) ≤ 18495 := (by first | assumption | omega | (unfold R32 at *; omega) | (unfold R64 at *; omega) | (simp only [R32, R64] at *; omega))
            have hp_35 : (((mo_falls_10 3702 v t c (-1) (v 226 ((t).toNat))).2) 203 37) < 300 := (show ((mo_falls_10 3702 v t c (-1) (v 226 ((t).toNat))).2 203 37) < 300 from (by first | assumption | omega | (unfold R32 at *; omega) | (unfold R64 at *; omega) | (simp only [R32, R64] at *; omega)))
            have hp_36 : (((mo_falls_10 3702 v t c (-1) (v 226 ((t).toNat))).2) 203 43) ≤ 5 + 12 * (((mo_falls_10 3702 v t c (-1) (v 226 ((t).toNat))).2) 203 37) := (show ((mo_falls_10 3702 v t c (-1) (v 226 ((t).toNat))).2 203 43) ≤ 5 + 12 * ((mo_falls_10 3702 v t c (-1) (v 226 ((t).toNat))).2 203 37) from (by first | assumption | omega | (unfold R32 at *; omega) | (unfold R64 at *; omega) | (simp only [R32, R64] at *; omega)))
            have hp_37 : LK (mo_falls_10 3702 v t c (-1) (v 226 ((t).toNat))).2 := hv_15_1
            have hp_38 : CF (mo_falls_10 3702 v t c (-1) (v 226 ((t).toNat))).2 := show CF ((mo_falls_10 3702 v t c (-1) (v 226 ((t).toNat))).2) from (show CF ((mo_falls_10 3702 v t c (-1) (v 226 ((t).toNat))).2) from CF.of hp_f (fun k h1 h2 => by rw [o_mo_falls_10 (by omega)]))
            refine r_call (m := 250) (args := [.inr (.inr (some 203)), .inl t, .inl c, .inl (5 * (mo_falls_10 3702 v t c (-1) (v 226 ((t).toNat))).1)]) (n' := 249) (pc' := 240) (lo' := [some (.inr (.inr (some 203))), some (.inl t), some (.inl c), some (.inl ((mo_falls_10 3702 v t c (-1) (v 226 ((t).toNat))).1)), o4_15]) (st' := []) (I := .invokevirtual 250) (pc0 := 237) (len := 3) rfl rfl rfl (e_mo_strikesAt hX_15 hp_32 hp_33 hp_34 hp_35 hp_36 hp_37 hp_38) ?_
            show WV _ _ _ 240 _ [] _ (mo_strikesAt ((mo_falls_10 3702 v t c (-1) (v 226 ((t).toNat))).2) t c (5 * (mo_falls_10 3702 v t c (-1) (v 226 ((t).toNat))).1)) _
            have hX_39 : XI (mo_strikesAt ((mo_falls_10 3702 v t c (-1) (v 226 ((t).toNat))).2) t c (5 * (mo_falls_10 3702 v t c (-1) (v 226 ((t).toNat))).1)) := i_mo_strikesAt (v := (mo_falls_10 3702 v t c (-1) (v 226 ((t).toNat))).2) (t := t) (c := c) (k := (5 * (mo_falls_10 3702 v t c (-1) (v 226 ((t).toNat))).1)) hX_15 hp_32 hp_33 hp_34 hp_35 hp_36 hp_37 hp_38
            have hb_40 : ((mo_strikesAt ((mo_falls_10 3702 v t c (-1) (v 226 ((t).toNat))).2) t c (5 * (mo_falls_10 3702 v t c (-1) (v 226 ((t).toNat))).1)) 203 43) ≤ 5 + 12 * ((mo_strikesAt ((mo_falls_10 3702 v t c (-1) (v 226 ((t).toNat))).2) t c (5 * (mo_falls_10 3702 v t c (-1) (v 226 ((t).toNat))).1)) 203 37) := n0_mo_strikesAt (v := (mo_falls_10 3702 v t c (-1) (v 226 ((t).toNat))).2) (t := t) (c := c) (k := (5 * (mo_falls_10 3702 v t c (-1) (v 226 ((t).toNat))).1)) hX_15 hp_32 hp_33 hp_34 hp_35 hp_36 hp_37 hp_38
            have hl_41 := n1_mo_strikesAt (v := (mo_falls_10 3702 v t c (-1) (v 226 ((t).toNat))).2) (t := t) (c := c) (k := (5 * (mo_falls_10 3702 v t c (-1) (v 226 ((t).toNat))).1)) hX_15 hp_32 hp_33 hp_34 hp_35 hp_36 hp_37 hp_38
            refine r_ret (rr := none) (I := .return_) (pc0 := 240) (len := 1) rfl rfl ?_
            exact hQ hX_39 (show ((mo_strikesAt ((mo_falls_10 3702 v t c (-1) (v 226 ((t).toNat))).2) t c (5 * (mo_falls_10 3702 v t c (-1) (v 226 ((t).toNat))).1)) 203 43) ≤ 5 + 12 * ((mo_strikesAt ((mo_falls_10 3702 v t c (-1) (v 226 ((t).toNat))).2) t c (5 * (mo_falls_10 3702 v t c (-1) (v 226 ((t).toNat))).1)) 203 37) from (by first | assumption | omega | (unfold R32 at *; omega) | (unfold R64 at *; omega) | (simp only [R32, R64] at *; omega))) (hl_41)
          · show WV _ _ _ 199 _ _ _ _ _
            rw [if_pos h_196] at hQ
            refine r_ex 3 (pc' := 204) (lo' := [some (.inr (.inr (some 203))), some (.inl t), some (.inl c), some (.inl ((mo_falls_10 3702 v t c (-1) (v 226 ((t).toNat))).1)), o4_15]) (st' := [.inl c, .inr (.inr (some 229))]) rfl ?_
            refine r_iald2 (j := 0) (x := ((mo_falls_10 3702 v t c (-1) (v 226 ((t).toNat))).2 229 ((c).toNat))) (pc' := 205) (pc0 := 204) (len := 1) rfl (s_229 _) (by first | assumption | omega | (unfold R32 at *; omega) | (unfold R64 at *; omega) | (simp only [R32, R64] at *; omega)) (by decide) rfl rfl ?_
            have hb_42 : -1 ≤ ((mo_falls_10 3702 v t c (-1) (v 226 ((t).toNat))).2 229 ((c).toNat)) ∧ ((mo_falls_10 3702 v t c (-1) (v 226 ((t).toNat))).2 229 ((c).toNat)) ≤ 3699 := hX_15 229 ((c).toNat)
            refine r_ex 7 (pc' := 214) (lo' := [some (.inr (.inr (some 203))), some (.inl t), some (.inl c), some (.inl ((mo_falls_10 3702 v t c (-1) (v 226 ((t).toNat))).1)), o4_15]) (st' := [.inl ((5 * (mo_falls_10 3702 v t c (-1) (v 226 ((t).toNat))).1) + 1), .inr (.inr (some 225)), .inl ((mo_falls_10 3702 v t c (-1) (v 226 ((t).toNat))).2 229 ((c).toNat))]) rfl ?_
            refine r_iald2 (j := 0) (x := ((mo_falls_10 3702 v t c (-1) (v 226 ((t).toNat))).2 225 ((((5 * (mo_falls_10 3702 v t c (-1) (v 226 ((t).toNat))).1) + 1)).toNat))) (pc' := 215) (pc0 := 214) (len := 1) rfl (s_225 _) (by first | assumption | omega | (unfold R32 at *; omega) | (unfold R64 at *; omega) | (simp only [R32, R64] at *; omega)) (by decide) rfl rfl ?_
            have hb_43 : -1 ≤ ((mo_falls_10 3702 v t c (-1) (v 226 ((t).toNat))).2 225 ((((5 * (mo_falls_10 3702 v t c (-1) (v 226 ((t).toNat))).1) + 1)).toNat)) ∧ ((mo_falls_10 3702 v t c (-1) (v 226 ((t).toNat))).2 225 ((((5 * (mo_falls_10 3702 v t c (-1) (v 226 ((t).toNat))).1) + 1)).toNat)) ≤ 3699 := hX_15 225 ((((5 * (mo_falls_10 3702 v t c (-1) (v 226 ((t).toNat))).1) + 1)).toNat)
            refine n_ic_lt (pc0 := 215) (len := 3) (t := 231) rfl (by first | assumption | omega | (unfold R32 at *; omega) | (unfold R64 at *; omega) | (simp only [R32, R64] at *; omega)) (by first | assumption | omega | (unfold R32 at *; omega) | (unfold R64 at *; omega) | (simp only [R32, R64] at *; omega)) (fun h_215 => ?_) (fun h_215 => ?_)
            · show WV _ _ _ 231 _ _ _ _ _
              rw [if_pos h_215] at hQ
              refine r_ex 6 (pc' := 237) (lo' := [some (.inr (.inr (some 203))), some (.inl t), some (.inl c), some (.inl ((mo_falls_10 3702 v t c (-1) (v 226 ((t).toNat))).1)), o4_15]) (st' := [.inl (5 * (mo_falls_10 3702 v t c (-1) (v 226 ((t).toNat))).1), .inl c, .inl t, .inr (.inr (some 203))]) rfl ?_
              have hp_44 : 0 ≤ t ∧ t < 300 := (by first | assumption | omega | (unfold R32 at *; omega) | (unfold R64 at *; omega) | (simp only [R32, R64] at *; omega))
              have hp_45 : 0 ≤ c ∧ c ≤ 8 := (by first | assumption | omega | (unfold R32 at *; omega) | (unfold R64 at *; omega) | (simp only [R32, R64] at *; omega))
              have hp_46 : 0 ≤ (5 * (mo_falls_10 3702 v t c (-1) (v 226 ((t).toNat))).1) ∧ (5 * (mo_falls_10 3702 v t c (-1) (v 226 ((t).toNat))).1) ≤ 18495 := (by first | assumption | omega | (unfold R32 at *; omega) | (unfold R64 at *; omega) | (simp only [R32, R64] at *; omega))
              have hp_47 : (((mo_falls_10 3702 v t c (-1) (v 226 ((t).toNat))).2) 203 37) < 300 := (show ((mo_falls_10 3702 v t c (-1) (v 226 ((t).toNat))).2 203 37) < 300 from (by first | assumption | omega | (unfold R32 at *; omega) | (unfold R64 at *; omega) | (simp only [R32, R64] at *; omega)))
              have hp_48 : (((mo_falls_10 3702 v t c (-1) (v 226 ((t).toNat))).2) 203 43) ≤ 5 + 12 * (((mo_falls_10 3702 v t c (-1) (v 226 ((t).toNat))).2) 203 37) := (show ((mo_falls_10 3702 v t c (-1) (v 226 ((t).toNat))).2 203 43) ≤ 5 + 12 * ((mo_falls_10 3702 v t c (-1) (v 226 ((t).toNat))).2 203 37) from (by first | assumption | omega | (unfold R32 at *; omega) | (unfold R64 at *; omega) | (simp only [R32, R64] at *; omega)))
              have hp_49 : LK (mo_falls_10 3702 v t c (-1) (v 226 ((t).toNat))).2 := hv_15_1
              have hp_50 : CF (mo_falls_10 3702 v t c (-1) (v 226 ((t).toNat))).2 := show CF ((mo_falls_10 3702 v t c (-1) (v 226 ((t).toNat))).2) from (show CF ((mo_falls_10 3702 v t c (-1) (v 226 ((t).toNat))).2) from CF.of hp_f (fun k h1 h2 => by rw [o_mo_falls_10 (by omega)]))
              refine r_call (m := 250) (args := [.inr (.inr (some 203)), .inl t, .inl c, .inl (5 * (mo_falls_10 3702 v t c (-1) (v 226 ((t).toNat))).1)]) (n' := 249) (pc' := 240) (lo' := [some (.inr (.inr (some 203))), some (.inl t), some (.inl c), some (.inl ((mo_falls_10 3702 v t c (-1) (v 226 ((t).toNat))).1)), o4_15]) (st' := []) (I := .invokevirtual 250) (pc0 := 237) (len := 3) rfl rfl rfl (e_mo_strikesAt hX_15 hp_44 hp_45 hp_46 hp_47 hp_48 hp_49 hp_50) ?_
              show WV _ _ _ 240 _ [] _ (mo_strikesAt ((mo_falls_10 3702 v t c (-1) (v 226 ((t).toNat))).2) t c (5 * (mo_falls_10 3702 v t c (-1) (v 226 ((t).toNat))).1)) _
              have hX_51 : XI (mo_strikesAt ((mo_falls_10 3702 v t c (-1) (v 226 ((t).toNat))).2) t c (5 * (mo_falls_10 3702 v t c (-1) (v 226 ((t).toNat))).1)) := i_mo_strikesAt (v := (mo_falls_10 3702 v t c (-1) (v 226 ((t).toNat))).2) (t := t) (c := c) (k := (5 * (mo_falls_10 3702 v t c (-1) (v 226 ((t).toNat))).1)) hX_15 hp_44 hp_45 hp_46 hp_47 hp_48 hp_49 hp_50
              have hb_52 : ((mo_strikesAt ((mo_falls_10 3702 v t c (-1) (v 226 ((t).toNat))).2) t c (5 * (mo_falls_10 3702 v t c (-1) (v 226 ((t).toNat))).1)) 203 43) ≤ 5 + 12 * ((mo_strikesAt ((mo_falls_10 3702 v t c (-1) (v 226 ((t).toNat))).2) t c (5 * (mo_falls_10 3702 v t c (-1) (v 226 ((t).toNat))).1)) 203 37) := n0_mo_strikesAt (v := (mo_falls_10 3702 v t c (-1) (v 226 ((t).toNat))).2) (t := t) (c := c) (k := (5 * (mo_falls_10 3702 v t c (-1) (v 226 ((t).toNat))).1)) hX_15 hp_44 hp_45 hp_46 hp_47 hp_48 hp_49 hp_50
              have hl_53 := n1_mo_strikesAt (v := (mo_falls_10 3702 v t c (-1) (v 226 ((t).toNat))).2) (t := t) (c := c) (k := (5 * (mo_falls_10 3702 v t c (-1) (v 226 ((t).toNat))).1)) hX_15 hp_44 hp_45 hp_46 hp_47 hp_48 hp_49 hp_50
              refine r_ret (rr := none) (I := .return_) (pc0 := 240) (len := 1) rfl rfl ?_
              exact hQ hX_51 (show ((mo_strikesAt ((mo_falls_10 3702 v t c (-1) (v 226 ((t).toNat))).2) t c (5 * (mo_falls_10 3702 v t c (-1) (v 226 ((t).toNat))).1)) 203 43) ≤ 5 + 12 * ((mo_strikesAt ((mo_falls_10 3702 v t c (-1) (v 226 ((t).toNat))).2) t c (5 * (mo_falls_10 3702 v t c (-1) (v 226 ((t).toNat))).1)) 203 37) from (by first | assumption | omega | (unfold R32 at *; omega) | (unfold R64 at *; omega) | (simp only [R32, R64] at *; omega))) (hl_53)
            · show WV _ _ _ 218 _ _ _ _ _
              rw [if_neg h_215] at hQ
              refine r_ex 4 (pc' := 224) (lo' := [some (.inr (.inr (some 203))), some (.inl t), some (.inl c), some (.inl ((mo_falls_10 3702 v t c (-1) (v 226 ((t).toNat))).1)), o4_15]) (st' := [.inl 3, .inr (.inr (some 221)), .inl 3, .inr (.inr (some 221))]) rfl ?_
              refine r_iald2 (j := 0) (x := ((mo_falls_10 3702 v t c (-1) (v 226 ((t).toNat))).2 221 3)) (pc' := 225) (pc0 := 224) (len := 1) rfl (s_221 _) (by first | assumption | omega | (unfold R32 at *; omega) | (unfold R64 at *; omega) | (simp only [R32, R64] at *; omega)) (by decide) rfl rfl ?_
              refine r_ex 2 (pc' := 227) (lo' := [some (.inr (.inr (some 203))), some (.inl t), some (.inl c), some (.inl ((mo_falls_10 3702 v t c (-1) (v 226 ((t).toNat))).1)), o4_15]) (st' := [.inl (((mo_falls_10 3702 v t c (-1) (v 226 ((t).toNat))).2 221 3) + 1), .inl 3, .inr (.inr (some 221))]) rfl ?_
              refine r_iast2 (pc' := 228) (pc0 := 227) (len := 1) rfl (s_221 _) (by first | assumption | omega | (unfold R32 at *; omega) | (unfold R64 at *; omega) | (simp only [R32, R64] at *; omega)) (by decide) rfl ?_
              have hX_54 : XI (v2 ((mo_falls_10 3702 v t c (-1) (v 226 ((t).toNat))).2) 221 3 (((mo_falls_10 3702 v t c (-1) (v 226 ((t).toNat))).2 221 3) + 1)) := XI.put hX_15 trivial
              show WV _ _ _ 228 _ _ _ (v2 ((mo_falls_10 3702 v t c (-1) (v 226 ((t).toNat))).2) 221 3 (((mo_falls_10 3702 v t c (-1) (v 226 ((t).toNat))).2 221 3) + 1)) _
              refine r_ex 1 (pc' := 240) (lo' := [some (.inr (.inr (some 203))), some (.inl t), some (.inl c), some (.inl ((mo_falls_10 3702 v t c (-1) (v 226 ((t).toNat))).1)), o4_15]) (st' := []) rfl ?_
              refine r_ret (rr := none) (I := .return_) (pc0 := 240) (len := 1) rfl rfl ?_
              exact hQ hX_54 (show ((mo_falls_10 3702 v t c (-1) (v 226 ((t).toNat))).2 203 43) ≤ 5 + 12 * ((mo_falls_10 3702 v t c (-1) (v 226 ((t).toNat))).2 203 37) from (by first | assumption | omega | (unfold R32 at *; omega) | (unfold R64 at *; omega) | (simp only [R32, R64] at *; omega))) (show LK (v2 ((mo_falls_10 3702 v t c (-1) (v 226 ((t).toNat))).2) 221 3 (((mo_falls_10 3702 v t c (-1) (v 226 ((t).toNat))).2 221 3) + 1)) from LK.of hv_15_1 (fun k h1 h2 => by rw [v2_row (by omega)]) rfl)
      · show WV _ _ _ 135 _ _ _ _ _
        rw [if_neg h_132] at hQ
        refine r_ex 3 (pc' := 140) (lo' := [some (.inr (.inr (some 203))), some (.inl t), some (.inl c), some (.inl ((mo_falls_10 3702 v t c (-1) (v 226 ((t).toNat))).1)), o4_15]) (st' := [.inl c, .inr (.inr (some 228))]) rfl ?_
        refine r_iald2 (j := 0) (x := ((mo_falls_10 3702 v t c (-1) (v 226 ((t).toNat))).2 228 ((c).toNat))) (pc' := 141) (pc0 := 140) (len := 1) rfl (s_228 _) (by first | assumption | omega | (unfold R32 at *; omega) | (unfold R64 at *; omega) | (simp only [R32, R64] at *; omega)) (by decide) rfl rfl ?_
        have hb_55 : -1 ≤ ((mo_falls_10 3702 v t c (-1) (v 226 ((t).toNat))).2 228 ((c).toNat)) ∧ ((mo_falls_10 3702 v t c (-1) (v 226 ((t).toNat))).2 228 ((c).toNat)) ≤ 299 := hX_15 228 ((c).toNat)
        refine r_ex 1 (pc' := 142) (lo' := [some (.inr (.inr (some 203))), some (.inl t), some (.inl c), some (.inl ((mo_falls_10 3702 v t c (-1) (v 226 ((t).toNat))).1)), o4_15]) (st' := [.inl (-1), .inl ((mo_falls_10 3702 v t c (-1) (v 226 ((t).toNat))).2 228 ((c).toNat))]) rfl ?_
        refine n_ic_eq (pc0 := 142) (len := 3) (t := 179) rfl (by first | assumption | omega | (unfold R32 at *; omega) | (unfold R64 at *; omega) | (simp only [R32, R64] at *; omega)) (by first | assumption | omega | (unfold R32 at *; omega) | (unfold R64 at *; omega) | (simp only [R32, R64] at *; omega)) (fun h_142 => ?_) (fun h_142 => ?_)
        · show WV _ _ _ 179 _ _ _ _ _
          rw [if_pos h_142] at hQ
          refine r_ex 3 (pc' := 184) (lo' := [some (.inr (.inr (some 203))), some (.inl t), some (.inl c), some (.inl ((mo_falls_10 3702 v t c (-1) (v 226 ((t).toNat))).1)), o4_15]) (st' := [.inl 5, .inl ((mo_falls_10 3702 v t c (-1) (v 226 ((t).toNat))).2 203 34)]) rfl ?_
          refine n_ic_eq (pc0 := 184) (len := 3) (t := 231) rfl (by first | assumption | omega | (unfold R32 at *; omega) | (unfold R64 at *; omega) | (simp only [R32, R64] at *; omega)) (by first | assumption | omega | (unfold R32 at *; omega) | (unfold R64 at *; omega) | (simp only [R32, R64] at *; omega)) (fun h_184 => ?_) (fun h_184 => ?_)
          · show WV _ _ _ 231 _ _ _ _ _
            rw [if_pos h_184] at hQ
            refine r_ex 6 (pc' := 237) (lo' := [some (.inr (.inr (some 203))), some (.inl t), some (.inl c), some (.inl ((mo_falls_10 3702 v t c (-1) (v 226 ((t).toNat))).1)), o4_15]) (st' := [.inl (5 * (mo_falls_10 3702 v t c (-1) (v 226 ((t).toNat))).1), .inl c, .inl t, .inr (.inr (some 203))]) rfl ?_
            have hp_56 : 0 ≤ t ∧ t < 300 := (by first | assumption | omega | (unfold R32 at *; omega) | (unfold R64 at *; omega) | (simp only [R32, R64] at *; omega))
            have hp_57 : 0 ≤ c ∧ c ≤ 8 := (by first | assumption | omega | (unfold R32 at *; omega) | (unfold R64 at *; omega) | (simp only [R32, R64] at *; omega))
            have hp_58 : 0 ≤ (5 * (mo_falls_10 3702 v t c (-1) (v 226 ((t).toNat))).1) ∧ (5 * (mo_falls_10 3702 v t c (-1) (v 226 ((t).toNat))).1) ≤ 18495 := (by first | assumption | omega | (unfold R32 at *; omega) | (unfold R64 at *; omega) | (simp only [R32, R64] at *; omega))
            have hp_59 : (((mo_falls_10 3702 v t c (-1) (v 226 ((t).toNat))).2) 203 37) < 300 := (show ((mo_falls_10 3702 v t c (-1) (v 226 ((t).toNat))).2 203 37) < 300 from (by first | assumption | omega | (unfold R32 at *; omega) | (unfold R64 at *; omega) | (simp only [R32, R64] at *; omega)))
            have hp_60 : (((mo_falls_10 3702 v t c (-1) (v 226 ((t).toNat))).2) 203 43) ≤ 5 + 12 * (((mo_falls_10 3702 v t c (-1) (v 226 ((t).toNat))).2) 203 37) := (show ((mo_falls_10 3702 v t c (-1) (v 226 ((t).toNat))).2 203 43) ≤ 5 + 12 * ((mo_falls_10 3702 v t c (-1) (v 226 ((t).toNat))).2 203 37) from (by first | assumption | omega | (unfold R32 at *; omega) | (unfold R64 at *; omega) | (simp only [R32, R64] at *; omega)))
            have hp_61 : LK (mo_falls_10 3702 v t c (-1) (v 226 ((t).toNat))).2 := hv_15_1
            have hp_62 : CF (mo_falls_10 3702 v t c (-1) (v 226 ((t).toNat))).2 := show CF ((mo_falls_10 3702 v t c (-1) (v 226 ((t).toNat))).2) from (show CF ((mo_falls_10 3702 v t c (-1) (v 226 ((t).toNat))).2) from CF.of hp_f (fun k h1 h2 => by rw [o_mo_falls_10 (by omega)]))
            refine r_call (m := 250) (args := [.inr (.inr (some 203)), .inl t, .inl c, .inl (5 * (mo_falls_10 3702 v t c (-1) (v 226 ((t).toNat))).1)]) (n' := 249) (pc' := 240) (lo' := [some (.inr (.inr (some 203))), some (.inl t), some (.inl c), some (.inl ((mo_falls_10 3702 v t c (-1) (v 226 ((t).toNat))).1)), o4_15]) (st' := []) (I := .invokevirtual 250) (pc0 := 237) (len := 3) rfl rfl rfl (e_mo_strikesAt hX_15 hp_56 hp_57 hp_58 hp_59 hp_60 hp_61 hp_62) ?_
            show WV _ _ _ 240 _ [] _ (mo_strikesAt ((mo_falls_10 3702 v t c (-1) (v 226 ((t).toNat))).2) t c (5 * (mo_falls_10 3702 v t c (-1) (v 226 ((t).toNat))).1)) _
            have hX_63 : XI (mo_strikesAt ((mo_falls_10 3702 v t c (-1) (v 226 ((t).toNat))).2) t c (5 * (mo_falls_10 3702 v t c (-1) (v 226 ((t).toNat))).1)) := i_mo_strikesAt (v := (mo_falls_10 3702 v t c (-1) (v 226 ((t).toNat))).2) (t := t) (c := c) (k := (5 * (mo_falls_10 3702 v t c (-1) (v 226 ((t).toNat))).1)) hX_15 hp_56 hp_57 hp_58 hp_59 hp_60 hp_61 hp_62
            have hb_64 : ((mo_strikesAt ((mo_falls_10 3702 v t c (-1) (v 226 ((t).toNat))).2) t c (5 * (mo_falls_10 3702 v t c (-1) (v 226 ((t).toNat))).1)) 203 43) ≤ 5 + 12 * ((mo_strikesAt ((mo_falls_10 3702 v t c (-1) (v 226 ((t).toNat))).2) t c (5 * (mo_falls_10 3702 v t c (-1) (v 226 ((t).toNat))).1)) 203 37) := n0_mo_strikesAt (v := (mo_falls_10 3702 v t c (-1) (v 226 ((t).toNat))).2) (t := t) (c := c) (k := (5 * (mo_falls_10 3702 v t c (-1) (v 226 ((t).toNat))).1)) hX_15 hp_56 hp_57 hp_58 hp_59 hp_60 hp_61 hp_62
            have hl_65 := n1_mo_strikesAt (v := (mo_falls_10 3702 v t c (-1) (v 226 ((t).toNat))).2) (t := t) (c := c) (k := (5 * (mo_falls_10 3702 v t c (-1) (v 226 ((t).toNat))).1)) hX_15 hp_56 hp_57 hp_58 hp_59 hp_60 hp_61 hp_62
            refine r_ret (rr := none) (I := .return_) (pc0 := 240) (len := 1) rfl rfl ?_
            exact hQ hX_63 (show ((mo_strikesAt ((mo_falls_10 3702 v t c (-1) (v 226 ((t).toNat))).2) t c (5 * (mo_falls_10 3702 v t c (-1) (v 226 ((t).toNat))).1)) 203 43) ≤ 5 + 12 * ((mo_strikesAt ((mo_falls_10 3702 v t c (-1) (v 226 ((t).toNat))).2) t c (5 * (mo_falls_10 3702 v t c (-1) (v 226 ((t).toNat))).1)) 203 37) from (by first | assumption | omega | (unfold R32 at *; omega) | (unfold R64 at *; omega) | (simp only [R32, R64] at *; omega))) (hl_65)
          · show WV _ _ _ 187 _ _ _ _ _
            rw [if_neg h_184] at hQ
            refine r_ex 5 (pc' := 194) (lo' := [some (.inr (.inr (some 203))), some (.inl t), some (.inl c), some (.inl ((mo_falls_10 3702 v t c (-1) (v 226 ((t).toNat))).1)), o4_15]) (st' := [.inl (3 * c), .inr (.inr (some 211))]) rfl ?_
            refine r_iald2 (j := 0) (x := ((mo_falls_10 3702 v t c (-1) (v 226 ((t).toNat))).2 211 (((3 * c)).toNat))) (pc' := 195) (pc0 := 194) (len := 1) rfl (s_211 _) (by first | assumption | omega | (unfold R32 at *; omega) | (unfold R64 at *; omega) | (simp only [R32, R64] at *; omega)) (by decide) rfl rfl ?_
            have hb_66 : 0 ≤ ((mo_falls_10 3702 v t c (-1) (v 226 ((t).toNat))).2 211 (((3 * c)).toNat)) ∧ ((mo_falls_10 3702 v t c (-1) (v 226 ((t).toNat))).2 211 (((3 * c)).toNat)) ≤ 99 := hX_15 211 (((3 * c)).toNat)
            refine r_ex 1 (pc' := 196) (lo' := [some (.inr (.inr (some 203))), some (.inl t), some (.inl c), some (.inl ((mo_falls_10 3702 v t c (-1) (v 226 ((t).toNat))).1)), o4_15]) (st' := [.inl 1, .inl ((mo_falls_10 3702 v t c (-1) (v 226 ((t).toNat))).2 211 (((3 * c)).toNat))]) rfl ?_
            refine n_ic_ne (pc0 := 196) (len := 3) (t := 231) rfl (by first | assumption | omega | (unfold R32 at *; omega) | (unfold R64 at *; omega) | (simp only [R32, R64] at *; omega)) (by first | assumption | omega | (unfold R32 at *; omega) | (unfold R64 at *; omega) | (simp only [R32, R64] at *; omega)) (fun h_196 => ?_) (fun h_196 => ?_)
            · show WV _ _ _ 231 _ _ _ _ _
              rw [if_neg h_196] at hQ
              refine r_ex 6 (pc' := 237) (lo' := [some (.inr (.inr (some 203))), some (.inl t), some (.inl c), some (.inl ((mo_falls_10 3702 v t c (-1) (v 226 ((t).toNat))).1)), o4_15]) (st' := [.inl (5 * (mo_falls_10 3702 v t c (-1) (v 226 ((t).toNat))).1), .inl c, .inl t, .inr (.inr (some 203))]) rfl ?_
              have hp_67 : 0 ≤ t ∧ t < 300 := (by first | assumption | omega | (unfold R32 at *; omega) | (unfold R64 at *; omega) | (simp only [R32, R64] at *; omega))
              have hp_68 : 0 ≤ c ∧ c ≤ 8 := (by first | assumption | omega | (unfold R32 at *; omega) | (unfold R64 at *; omega) | (simp only [R32, R64] at *; omega))
              have hp_69 : 0 ≤ (5 * (mo_falls_10 3702 v t c (-1) (v 226 ((t).toNat))).1) ∧ (5 * (mo_falls_10 3702 v t c (-1) (v 226 ((t).toNat))).1) ≤ 18495 := (by first | assumption | omega | (unfold R32 at *; omega) | (unfold R64 at *; omega) | (simp only [R32, R64] at *; omega))
              have hp_70 : (((mo_falls_10 3702 v t c (-1) (v 226 ((t).toNat))).2) 203 37) < 300 := (show ((mo_falls_10 3702 v t c (-1) (v 226 ((t).toNat))).2 203 37) < 300 from (by first | assumption | omega | (unfold R32 at *; omega) | (unfold R64 at *; omega) | (simp only [R32, R64] at *; omega)))
              have hp_71 : (((mo_falls_10 3702 v t c (-1) (v 226 ((t).toNat))).2) 203 43) ≤ 5 + 12 * (((mo_falls_10 3702 v t c (-1) (v 226 ((t).toNat))).2) 203 37) := (show ((mo_falls_10 3702 v t c (-1) (v 226 ((t).toNat))).2 203 43) ≤ 5 + 12 * ((mo_falls_10 3702 v t c (-1) (v 226 ((t).toNat))).2 203 37) from (by first | assumption | omega | (unfold R32 at *; omega) | (unfold R64 at *; omega) | (simp only [R32, R64] at *; omega)))
              have hp_72 : LK (mo_falls_10 3702 v t c (-1) (v 226 ((t).toNat))).2 := hv_15_1
              have hp_73 : CF (mo_falls_10 3702 v t c (-1) (v 226 ((t).toNat))).2 := show CF ((mo_falls_10 3702 v t c (-1) (v 226 ((t).toNat))).2) from (show CF ((mo_falls_10 3702 v t c (-1) (v 226 ((t).toNat))).2) from CF.of hp_f (fun k h1 h2 => by rw [o_mo_falls_10 (by omega)]))
              refine r_call (m := 250) (args := [.inr (.inr (some 203)), .inl t, .inl c, .inl (5 * (mo_falls_10 3702 v t c (-1) (v 226 ((t).toNat))).1)]) (n' := 249) (pc' := 240) (lo' := [some (.inr (.inr (some 203))), some (.inl t), some (.inl c), some (.inl ((mo_falls_10 3702 v t c (-1) (v 226 ((t).toNat))).1)), o4_15]) (st' := []) (I := .invokevirtual 250) (pc0 := 237) (len := 3) rfl rfl rfl (e_mo_strikesAt hX_15 hp_67 hp_68 hp_69 hp_70 hp_71 hp_72 hp_73) ?_
              show WV _ _ _ 240 _ [] _ (mo_strikesAt ((mo_falls_10 3702 v t c (-1) (v 226 ((t).toNat))).2) t c (5 * (mo_falls_10 3702 v t c (-1) (v 226 ((t).toNat))).1)) _
              have hX_74 : XI (mo_strikesAt ((mo_falls_10 3702 v t c (-1) (v 226 ((t).toNat))).2) t c (5 * (mo_falls_10 3702 v t c (-1) (v 226 ((t).toNat))).1)) := i_mo_strikesAt (v := (mo_falls_10 3702 v t c (-1) (v 226 ((t).toNat))).2) (t := t) (c := c) (k := (5 * (mo_falls_10 3702 v t c (-1) (v 226 ((t).toNat))).1)) hX_15 hp_67 hp_68 hp_69 hp_70 hp_71 hp_72 hp_73
              have hb_75 : ((mo_strikesAt ((mo_falls_10 3702 v t c (-1) (v 226 ((t).toNat))).2) t c (5 * (mo_falls_10 3702 v t c (-1) (v 226 ((t).toNat))).1)) 203 43) ≤ 5 + 12 * ((mo_strikesAt ((mo_falls_10 3702 v t c (-1) (v 226 ((t).toNat))).2) t c (5 * (mo_falls_10 3702 v t c (-1) (v 226 ((t).toNat))).1)) 203 37) := n0_mo_strikesAt (v := (mo_falls_10 3702 v t c (-1) (v 226 ((t).toNat))).2) (t := t) (c := c) (k := (5 * (mo_falls_10 3702 v t c (-1) (v 226 ((t).toNat))).1)) hX_15 hp_67 hp_68 hp_69 hp_70 hp_71 hp_72 hp_73
              have hl_76 := n1_mo_strikesAt (v := (mo_falls_10 3702 v t c (-1) (v 226 ((t).toNat))).2) (t := t) (c := c) (k := (5 * (mo_falls_10 3702 v t c (-1) (v 226 ((t).toNat))).1)) hX_15 hp_67 hp_68 hp_69 hp_70 hp_71 hp_72 hp_73
              refine r_ret (rr := none) (I := .return_) (pc0 := 240) (len := 1) rfl rfl ?_
              exact hQ hX_74 (show ((mo_strikesAt ((mo_falls_10 3702 v t c (-1) (v 226 ((t).toNat))).2) t c (5 * (mo_falls_10 3702 v t c (-1) (v 226 ((t).toNat))).1)) 203 43) ≤ 5 + 12 * ((mo_strikesAt ((mo_falls_10 3702 v t c (-1) (v 226 ((t).toNat))).2) t c (5 * (mo_falls_10 3702 v t c (-1) (v 226 ((t).toNat))).1)) 203 37) from (by first | assumption | omega | (unfold R32 at *; omega) | (unfold R64 at *; omega) | (simp only [R32, R64] at *; omega))) (hl_76)
            · show WV _ _ _ 199 _ _ _ _ _
              rw [if_pos h_196] at hQ
              refine r_ex 3 (pc' := 204) (lo' := [some (.inr (.inr (some 203))), some (.inl t), some (.inl c), some (.inl ((mo_falls_10 3702 v t c (-1) (v 226 ((t).toNat))).1)), o4_15]) (st' := [.inl c, .inr (.inr (some 229))]) rfl ?_
              refine r_iald2 (j := 0) (x := ((mo_falls_10 3702 v t c (-1) (v 226 ((t).toNat))).2 229 ((c).toNat))) (pc' := 205) (pc0 := 204) (len := 1) rfl (s_229 _) (by first | assumption | omega | (unfold R32 at *; omega) | (unfold R64 at *; omega) | (simp only [R32, R64] at *; omega)) (by decide) rfl rfl ?_
              have hb_77 : -1 ≤ ((mo_falls_10 3702 v t c (-1) (v 226 ((t).toNat))).2 229 ((c).toNat)) ∧ ((mo_falls_10 3702 v t c (-1) (v 226 ((t).toNat))).2 229 ((c).toNat)) ≤ 3699 := hX_15 229 ((c).toNat)
              refine r_ex 7 (pc' := 214) (lo' := [some (.inr (.inr (some 203))), some (.inl t), some (.inl c), some (.inl ((mo_falls_10 3702 v t c (-1) (v 226 ((t).toNat))).1)), o4_15]) (st' := [.inl ((5 * (mo_falls_10 3702 v t c (-1) (v 226 ((t).toNat))).1) + 1), .inr (.inr (some 225)), .inl ((mo_falls_10 3702 v t c (-1) (v 226 ((t).toNat))).2 229 ((c).toNat))]) rfl ?_
              refine r_iald2 (j := 0) (x := ((mo_falls_10 3702 v t c (-1) (v 226 ((t).toNat))).2 225 ((((5 * (mo_falls_10 3702 v t c (-1) (v 226 ((t).toNat))).1) + 1)).toNat))) (pc' := 215) (pc0 := 214) (len := 1) rfl (s_225 _) (by first | assumption | omega | (unfold R32 at *; omega) | (unfold R64 at *; omega) | (simp only [R32, R64] at *; omega)) (by decide) rfl rfl ?_
              have hb_78 : -1 ≤ ((mo_falls_10 3702 v t c (-1) (v 226 ((t).toNat))).2 225 ((((5 * (mo_falls_10 3702 v t c (-1) (v 226 ((t).toNat))).1) + 1)).toNat)) ∧ ((mo_falls_10 3702 v t c (-1) (v 226 ((t).toNat))).2 225 ((((5 * (mo_falls_10 3702 v t c (-1) (v 226 ((t).toNat))).1) + 1)).toNat)) ≤ 3699 := hX_15 225 ((((5 * (mo_falls_10 3702 v t c (-1) (v 226 ((t).toNat))).1) + 1)).toNat)
              refine n_ic_lt (pc0 := 215) (len := 3) (t := 231) rfl (by first | assumption | omega | (unfold R32 at *; omega) | (unfold R64 at *; omega) | (simp only [R32, R64] at *; omega)) (by first | assumption | omega | (unfold R32 at *; omega) | (unfold R64 at *; omega) | (simp only [R32, R64] at *; omega)) (fun h_215 => ?_) (fun h_215 => ?_)
              · show WV _ _ _ 231 _ _ _ _ _
                rw [if_pos h_215] at hQ
                refine r_ex 6 (pc' := 237) (lo' := [some (.inr (.inr (some 203))), some (.inl t), some (.inl c), some (.inl ((mo_falls_10 3702 v t c (-1) (v 226 ((t).toNat))).1)), o4_15]) (st' := [.inl (5 * (mo_falls_10 3702 v t c (-1) (v 226 ((t).toNat))).1), .inl c, .inl t, .inr (.inr (some 203))]) rfl ?_
                have hp_79 : 0 ≤ t ∧ t < 300 := (by first | assumption | omega | (unfold R32 at *; omega) | (unfold R64 at *; omega) | (simp only [R32, R64] at *; omega))
                have hp_80 : 0 ≤ c ∧ c ≤ 8 := (by first | assumption | omega | (unfold R32 at *; omega) | (unfold R64 at *; omega) | (simp only [R32, R64] at *; omega))
                have hp_81 : 0 ≤ (5 * (mo_falls_10 3702 v t c (-1) (v 226 ((t).toNat))).1) ∧ (5 * (mo_falls_10 3702 v t c (-1) (v 226 ((t).toNat))).1) ≤ 18495 := (by first | assumption | omega | (unfold R32 at *; omega) | (unfold R64 at *; omega) | (simp only [R32, R64] at *; omega))
                have hp_82 : (((mo_falls_10 3702 v t c (-1) (v 226 ((t).toNat))).2) 203 37) < 300 := (show ((mo_falls_10 3702 v t c (-1) (v 226 ((t).toNat))).2 203 37) < 300 from (by first | assumption | omega | (unfold R32 at *; omega) | (unfold R64 at *; omega) | (simp only [R32, R64] at *; omega)))
                have hp_83 : (((mo_falls_10 3702 v t c (-1) (v 226 ((t).toNat))).2) 203 43) ≤ 5 + 12 * (((mo_falls_10 3702 v t c (-1) (v 226 ((t).toNat))).2) 203 37) := (show ((mo_falls_10 3702 v t c (-1) (v 226 ((t).toNat))).2 203 43) ≤ 5 + 12 * ((mo_falls_10 3702 v t c (-1) (v 226 ((t).toNat))).2 203 37) from (by first | assumption | omega | (unfold R32 at *; omega) | (unfold R64 at *; omega) | (simp only [R32, R64] at *; omega)))
                have hp_84 : LK (mo_falls_10 3702 v t c (-1) (v 226 ((t).toNat))).2 := hv_15_1
                have hp_85 : CF (mo_falls_10 3702 v t c (-1) (v 226 ((t).toNat))).2 := show CF ((mo_falls_10 3702 v t c (-1) (v 226 ((t).toNat))).2) from (show CF ((mo_falls_10 3702 v t c (-1) (v 226 ((t).toNat))).2) from CF.of hp_f (fun k h1 h2 => by rw [o_mo_falls_10 (by omega)]))
                refine r_call (m := 250) (args := [.inr (.inr (some 203)), .inl t, .inl c, .inl (5 * (mo_falls_10 3702 v t c (-1) (v 226 ((t).toNat))).1)]) (n' := 249) (pc' := 240) (lo' := [some (.inr (.inr (some 203))), some (.inl t), some (.inl c), some (.inl ((mo_falls_10 3702 v t c (-1) (v 226 ((t).toNat))).1)), o4_15]) (st' := []) (I := .invokevirtual 250) (pc0 := 237) (len := 3) rfl rfl rfl (e_mo_strikesAt hX_15 hp_79 hp_80 hp_81 hp_82 hp_83 hp_84 hp_85) ?_
                show WV _ _ _ 240 _ [] _ (mo_strikesAt ((mo_falls_10 3702 v t c (-1) (v 226 ((t).toNat))).2) t c (5 * (mo_falls_10 3702 v t c (-1) (v 226 ((t).toNat))).1)) _
                have hX_86 : XI (mo_strikesAt ((mo_falls_10 3702 v t c (-1) (v 226 ((t).toNat))).2) t c (5 * (mo_falls_10 3702 v t c (-1) (v 226 ((t).toNat))).1)) := i_mo_strikesAt (v := (mo_falls_10 3702 v t c (-1) (v 226 ((t).toNat))).2) (t := t) (c := c) (k := (5 * (mo_falls_10 3702 v t c (-1) (v 226 ((t).toNat))).1)) hX_15 hp_79 hp_80 hp_81 hp_82 hp_83 hp_84 hp_85
                have hb_87 : ((mo_strikesAt ((mo_falls_10 3702 v t c (-1) (v 226 ((t).toNat))).2) t c (5 * (mo_falls_10 3702 v t c (-1) (v 226 ((t).toNat))).1)) 203 43) ≤ 5 + 12 * ((mo_strikesAt ((mo_falls_10 3702 v t c (-1) (v 226 ((t).toNat))).2) t c (5 * (mo_falls_10 3702 v t c (-1) (v 226 ((t).toNat))).1)) 203 37) := n0_mo_strikesAt (v := (mo_falls_10 3702 v t c (-1) (v 226 ((t).toNat))).2) (t := t) (c := c) (k := (5 * (mo_falls_10 3702 v t c (-1) (v 226 ((t).toNat))).1)) hX_15 hp_79 hp_80 hp_81 hp_82 hp_83 hp_84 hp_85
                have hl_88 := n1_mo_strikesAt (v := (mo_falls_10 3702 v t c (-1) (v 226 ((t).toNat))).2) (t := t) (c := c) (k := (5 * (mo_falls_10 3702 v t c (-1) (v 226 ((t).toNat))).1)) hX_15 hp_79 hp_80 hp_81 hp_82 hp_83 hp_84 hp_85
                refine r_ret (rr := none) (I := .return_) (pc0 := 240) (len := 1) rfl rfl ?_
                exact hQ hX_86 (show ((mo_strikesAt ((mo_falls_10 3702 v t c (-1) (v 226 ((t).toNat))).2) t c (5 * (mo_falls_10 3702 v t c (-1) (v 226 ((t).toNat))).1)) 203 43) ≤ 5 + 12 * ((mo_strikesAt ((mo_falls_10 3702 v t c (-1) (v 226 ((t).toNat))).2) t c (5 * (mo_falls_10 3702 v t c (-1) (v 226 ((t).toNat))).1)) 203 37) from (by first | assumption | omega | (unfold R32 at *; omega) | (unfold R64 at *; omega) | (simp only [R32, R64] at *; omega))) (hl_88)
              · show WV _ _ _ 218 _ _ _ _ _
                rw [if_neg h_215] at hQ
                refine r_ex 4 (pc' := 224) (lo' := [some (.inr (.inr (some 203))), some (.inl t), some (.inl c), some (.inl ((mo_falls_10 3702 v t c (-1) (v 226 ((t).toNat))).1)), o4_15]) (st' := [.inl 3, .inr (.inr (some 221)), .inl 3, .inr (.inr (some 221))]) rfl ?_
                refine r_iald2 (j := 0) (x := ((mo_falls_10 3702 v t c (-1) (v 226 ((t).toNat))).2 221 3)) (pc' := 225) (pc0 := 224) (len := 1) rfl (s_221 _) (by first | assumption | omega | (unfold R32 at *; omega) | (unfold R64 at *; omega) | (simp only [R32, R64] at *; omega)) (by decide) rfl rfl ?_
                refine r_ex 2 (pc' := 227) (lo' := [some (.inr (.inr (some 203))), some (.inl t), some (.inl c), some (.inl ((mo_falls_10 3702 v t c (-1) (v 226 ((t).toNat))).1)), o4_15]) (st' := [.inl (((mo_falls_10 3702 v t c (-1) (v 226 ((t).toNat))).2 221 3) + 1), .inl 3, .inr (.inr (some 221))]) rfl ?_
                refine r_iast2 (pc' := 228) (pc0 := 227) (len := 1) rfl (s_221 _) (by first | assumption | omega | (unfold R32 at *; omega) | (unfold R64 at *; omega) | (simp only [R32, R64] at *; omega)) (by decide) rfl ?_
                have hX_89 : XI (v2 ((mo_falls_10 3702 v t c (-1) (v 226 ((t).toNat))).2) 221 3 (((mo_falls_10 3702 v t c (-1) (v 226 ((t).toNat))).2 221 3) + 1)) := XI.put hX_15 trivial
                show WV _ _ _ 228 _ _ _ (v2 ((mo_falls_10 3702 v t c (-1) (v 226 ((t).toNat))).2) 221 3 (((mo_falls_10 3702 v t c (-1) (v 226 ((t).toNat))).2 221 3) + 1)) _
                refine r_ex 1 (pc' := 240) (lo' := [some (.inr (.inr (some 203))), some (.inl t), some (.inl c), some (.inl ((mo_falls_10 3702 v t c (-1) (v 226 ((t).toNat))).1)), o4_15]) (st' := []) rfl ?_
                refine r_ret (rr := none) (I := .return_) (pc0 := 240) (len := 1) rfl rfl ?_
                exact hQ hX_89 (show ((mo_falls_10 3702 v t c (-1) (v 226 ((t).toNat))).2 203 43) ≤ 5 + 12 * ((mo_falls_10 3702 v t c (-1) (v 226 ((t).toNat))).2 203 37) from (by first | assumption | omega | (unfold R32 at *; omega) | (unfold R64 at *; omega) | (simp only [R32, R64] at *; omega))) (show LK (v2 ((mo_falls_10 3702 v t c (-1) (v 226 ((t).toNat))).2) 221 3 (((mo_falls_10 3702 v t c (-1) (v 226 ((t).toNat))).2 221 3) + 1)) from LK.of hv_15_1 (fun k h1 h2 => by rw [v2_row (by omega)]) rfl)
        · show WV _ _ _ 145 _ _ _ _ _
          rw [if_neg h_142] at hQ
          refine r_ex 4 (pc' := 151) (lo' := [some (.inr (.inr (some 203))), some (.inl t), some (.inl c), some (.inl ((mo_falls_10 3702 v t c (-1) (v 226 ((t).toNat))).1)), o4_15]) (st' := [.inl c, .inr (.inr (some 228)), .inl t]) rfl ?_
          refine r_iald2 (j := 0) (x := ((mo_falls_10 3702 v t c (-1) (v 226 ((t).toNat))).2 228 ((c).toNat))) (pc' := 152) (pc0 := 151) (len := 1) rfl (s_228 _) (by first | assumption | omega | (unfold R32 at *; omega) | (unfold R64 at *; omega) | (simp only [R32, R64] at *; omega)) (by decide) rfl rfl ?_
          refine r_ex 8 (pc' := 162) (lo' := [some (.inr (.inr (some 203))), some (.inl t), some (.inl c), some (.inl ((mo_falls_10 3702 v t c (-1) (v 226 ((t).toNat))).1)), o4_15]) (st' := [.inl ((3 * c) + 2), .inr (.inr (some 211)), .inl (t - ((mo_falls_10 3702 v t c (-1) (v 226 ((t).toNat))).2 228 ((c).toNat)))]) rfl ?_
          refine r_iald2 (j := 0) (x := ((mo_falls_10 3702 v t c (-1) (v 226 ((t).toNat))).2 211 ((((3 * c) + 2)).toNat))) (pc' := 163) (pc0 := 162) (len := 1) rfl (s_211 _) (by first | assumption | omega | (unfold R32 at *; omega) | (unfold R64 at *; omega) | (simp only [R32, R64] at *; omega)) (by decide) rfl rfl ?_
          have hb_90 : 0 ≤ ((mo_falls_10 3702 v t c (-1) (v 226 ((t).toNat))).2 211 ((((3 * c) + 2)).toNat)) ∧ ((mo_falls_10 3702 v t c (-1) (v 226 ((t).toNat))).2 211 ((((3 * c) + 2)).toNat)) ≤ 99 := hX_15 211 ((((3 * c) + 2)).toNat)
          refine n_ic_gt (pc0 := 163) (len := 3) (t := 179) rfl (by first | assumption | omega | (unfold R32 at *; omega) | (unfold R64 at *; omega) | (simp only [R32, R64] at *; omega)) (by first | assumption | omega | (unfold R32 at *; omega) | (unfold R64 at *; omega) | (simp only [R32, R64] at *; omega)) (fun h_163 => ?_) (fun h_163 => ?_)
          · show WV _ _ _ 179 _ _ _ _ _
            rw [if_pos h_163] at hQ
            refine r_ex 3 (pc' := 184) (lo' := [some (.inr (.inr (some 203))), some (.inl t), some (.inl c), some (.inl ((mo_falls_10 3702 v t c (-1) (v 226 ((t).toNat))).1)), o4_15]) (st' := [.inl 5, .inl ((mo_falls_10 3702 v t c (-1) (v 226 ((t).toNat))).2 203 34)]) rfl ?_
            refine n_ic_eq (pc0 := 184) (len := 3) (t := 231) rfl (by first | assumption | omega | (unfold R32 at *; omega) | (unfold R64 at *; omega) | (simp only [R32, R64] at *; omega)) (by first | assumption | omega | (unfold R32 at *; omega) | (unfold R64 at *; omega) | (simp only [R32, R64] at *; omega)) (fun h_184 => ?_) (fun h_184 => ?_)
            · show WV _ _ _ 231 _ _ _ _ _
              rw [if_pos h_184] at hQ
              refine r_ex 6 (pc' := 237) (lo' := [some (.inr (.inr (some 203))), some (.inl t), some (.inl c), some (.inl ((mo_falls_10 3702 v t c (-1) (v 226 ((t).toNat))).1)), o4_15]) (st' := [.inl (5 * (mo_falls_10 3702 v t c (-1) (v 226 ((t).toNat))).1), .inl c, .inl t, .inr (.inr (some 203))]) rfl ?_
              have hp_91 : 0 ≤ t ∧ t < 300 := (by first | assumption | omega | (unfold R32 at *; omega) | (unfold R64 at *; omega) | (simp only [R32, R64] at *; omega))
              have hp_92 : 0 ≤ c ∧ c ≤ 8 := (by first | assumption | omega | (unfold R32 at *; omega) | (unfold R64 at *; omega) | (simp only [R32, R64] at *; omega))
              have hp_93 : 0 ≤ (5 * (mo_falls_10 3702 v t c (-1) (v 226 ((t).toNat))).1) ∧ (5 * (mo_falls_10 3702 v t c (-1) (v 226 ((t).toNat))).1) ≤ 18495 := (by first | assumption | omega | (unfold R32 at *; omega) | (unfold R64 at *; omega) | (simp only [R32, R64] at *; omega))
              have hp_94 : (((mo_falls_10 3702 v t c (-1) (v 226 ((t).toNat))).2) 203 37) < 300 := (show ((mo_falls_10 3702 v t c (-1) (v 226 ((t).toNat))).2 203 37) < 300 from (by first | assumption | omega | (unfold R32 at *; omega) | (unfold R64 at *; omega) | (simp only [R32, R64] at *; omega)))
              have hp_95 : (((mo_falls_10 3702 v t c (-1) (v 226 ((t).toNat))).2) 203 43) ≤ 5 + 12 * (((mo_falls_10 3702 v t c (-1) (v 226 ((t).toNat))).2) 203 37) := (show ((mo_falls_10 3702 v t c (-1) (v 226 ((t).toNat))).2 203 43) ≤ 5 + 12 * ((mo_falls_10 3702 v t c (-1) (v 226 ((t).toNat))).2 203 37) from (by first | assumption | omega | (unfold R32 at *; omega) | (unfold R64 at *; omega) | (simp only [R32, R64] at *; omega)))
              have hp_96 : LK (mo_falls_10 3702 v t c (-1) (v 226 ((t).toNat))).2 := hv_15_1
              have hp_97 : CF (mo_falls_10 3702 v t c (-1) (v 226 ((t).toNat))).2 := show CF ((mo_falls_10 3702 v t c (-1) (v 226 ((t).toNat))).2) from (show CF ((mo_falls_10 3702 v t c (-1) (v 226 ((t).toNat))).2) from CF.of hp_f (fun k h1 h2 => by rw [o_mo_falls_10 (by omega)]))
              refine r_call (m := 250) (args := [.inr (.inr (some 203)), .inl t, .inl c, .inl (5 * (mo_falls_10 3702 v t c (-1) (v 226 ((t).toNat))).1)]) (n' := 249) (pc' := 240) (lo' := [some (.inr (.inr (some 203))), some (.inl t), some (.inl c), some (.inl ((mo_falls_10 3702 v t c (-1) (v 226 ((t).toNat))).1)), o4_15]) (st' := []) (I := .invokevirtual 250) (pc0 := 237) (len := 3) rfl rfl rfl (e_mo_strikesAt hX_15 hp_91 hp_92 hp_93 hp_94 hp_95 hp_96 hp_97) ?_
              show WV _ _ _ 240 _ [] _ (mo_strikesAt ((mo_falls_10 3702 v t c (-1) (v 226 ((t).toNat))).2) t c (5 * (mo_falls_10 3702 v t c (-1) (v 226 ((t).toNat))).1)) _
              have hX_98 : XI (mo_strikesAt ((mo_falls_10 3702 v t c (-1) (v 226 ((t).toNat))).2) t c (5 * (mo_falls_10 3702 v t c (-1) (v 226 ((t).toNat))).1)) := i_mo_strikesAt (v := (mo_falls_10 3702 v t c (-1) (v 226 ((t).toNat))).2) (t := t) (c := c) (k := (5 * (mo_falls_10 3702 v t c (-1) (v 226 ((t).toNat))).1)) hX_15 hp_91 hp_92 hp_93 hp_94 hp_95 hp_96 hp_97
              have hb_99 : ((mo_strikesAt ((mo_falls_10 3702 v t c (-1) (v 226 ((t).toNat))).2) t c (5 * (mo_falls_10 3702 v t c (-1) (v 226 ((t).toNat))).1)) 203 43) ≤ 5 + 12 * ((mo_strikesAt ((mo_falls_10 3702 v t c (-1) (v 226 ((t).toNat))).2) t c (5 * (mo_falls_10 3702 v t c (-1) (v 226 ((t).toNat))).1)) 203 37) := n0_mo_strikesAt (v := (mo_falls_10 3702 v t c (-1) (v 226 ((t).toNat))).2) (t := t) (c := c) (k := (5 * (mo_falls_10 3702 v t c (-1) (v 226 ((t).toNat))).1)) hX_15 hp_91 hp_92 hp_93 hp_94 hp_95 hp_96 hp_97
              have hl_100 := n1_mo_strikesAt (v := (mo_falls_10 3702 v t c (-1) (v 226 ((t).toNat))).2) (t := t) (c := c) (k := (5 * (mo_falls_10 3702 v t c (-1) (v 226 ((t).toNat))).1)) hX_15 hp_91 hp_92 hp_93 hp_94 hp_95 hp_96 hp_97
              refine r_ret (rr := none) (I := .return_) (pc0 := 240) (len := 1) rfl rfl ?_
              exact hQ hX_98 (show ((mo_strikesAt ((mo_falls_10 3702 v t c (-1) (v 226 ((t).toNat))).2) t c (5 * (mo_falls_10 3702 v t c (-1) (v 226 ((t).toNat))).1)) 203 43) ≤ 5 + 12 * ((mo_strikesAt ((mo_falls_10 3702 v t c (-1) (v 226 ((t).toNat))).2) t c (5 * (mo_falls_10 3702 v t c (-1) (v 226 ((t).toNat))).1)) 203 37) from (by first | assumption | omega | (unfold R32 at *; omega) | (unfold R64 at *; omega) | (simp only [R32, R64] at *; omega))) (hl_100)
            · show WV _ _ _ 187 _ _ _ _ _
              rw [if_neg h_184] at hQ
              refine r_ex 5 (pc' := 194) (lo' := [some (.inr (.inr (some 203))), some (.inl t), some (.inl c), some (.inl ((mo_falls_10 3702 v t c (-1) (v 226 ((t).toNat))).1)), o4_15]) (st' := [.inl (3 * c), .inr (.inr (some 211))]) rfl ?_
              refine r_iald2 (j := 0) (x := ((mo_falls_10 3702 v t c (-1) (v 226 ((t).toNat))).2 211 (((3 * c)).toNat))) (pc' := 195) (pc0 := 194) (len := 1) rfl (s_211 _) (by first | assumption | omega | (unfold R32 at *; omega) | (unfold R64 at *; omega) | (simp only [R32, R64] at *; omega)) (by decide) rfl rfl ?_
              have hb_101 : 0 ≤ ((mo_falls_10 3702 v t c (-1) (v 226 ((t).toNat))).2 211 (((3 * c)).toNat)) ∧ ((mo_falls_10 3702 v t c (-1) (v 226 ((t).toNat))).2 211 (((3 * c)).toNat)) ≤ 99 := hX_15 211 (((3 * c)).toNat)
              refine r_ex 1 (pc' := 196) (lo' := [some (.inr (.inr (some 203))), some (.inl t), some (.inl c), some (.inl ((mo_falls_10 3702 v t c (-1) (v 226 ((t).toNat))).1)), o4_15]) (st' := [.inl 1, .inl ((mo_falls_10 3702 v t c (-1) (v 226 ((t).toNat))).2 211 (((3 * c)).toNat))]) rfl ?_
              refine n_ic_ne (pc0 := 196) (len := 3) (t := 231) rfl (by first | assumption | omega | (unfold R32 at *; omega) | (unfold R64 at *; omega) | (simp only [R32, R64] at *; omega)) (by first | assumption | omega | (unfold R32 at *; omega) | (unfold R64 at *; omega) | (simp only [R32, R64] at *; omega)) (fun h_196 => ?_) (fun h_196 => ?_)
              · show WV _ _ _ 231 _ _ _ _ _
                rw [if_neg h_196] at hQ
                refine r_ex 6 (pc' := 237) (lo' := [some (.inr (.inr (some 203))), some (.inl t), some (.inl c), some (.inl ((mo_falls_10 3702 v t c (-1) (v 226 ((t).toNat))).1)), o4_15]) (st' := [.inl (5 * (mo_falls_10 3702 v t c (-1) (v 226 ((t).toNat))).1), .inl c, .inl t, .inr (.inr (some 203))]) rfl ?_
                have hp_102 : 0 ≤ t ∧ t < 300 := (by first | assumption | omega | (unfold R32 at *; omega) | (unfold R64 at *; omega) | (simp only [R32, R64] at *; omega))
                have hp_103 : 0 ≤ c ∧ c ≤ 8 := (by first | assumption | omega | (unfold R32 at *; omega) | (unfold R64 at *; omega) | (simp only [R32, R64] at *; omega))
                have hp_104 : 0 ≤ (5 * (mo_falls_10 3702 v t c (-1) (v 226 ((t).toNat))).1) ∧ (5 * (mo_falls_10 3702 v t c (-1) (v 226 ((t).toNat))).1) ≤ 18495 := (by first | assumption | omega | (unfold R32 at *; omega) | (unfold R64 at *; omega) | (simp only [R32, R64] at *; omega))
                have hp_105 : (((mo_falls_10 3702 v t c (-1) (v 226 ((t).toNat))).2) 203 37) < 300 := (show ((mo_falls_10 3702 v t c (-1) (v 226 ((t).toNat))).2 203 37) < 300 from (by first | assumption | omega | (unfold R32 at *; omega) | (unfold R64 at *; omega) | (simp only [R32, R64] at *; omega)))
                have hp_106 : (((mo_falls_10 3702 v t c (-1) (v 226 ((t).toNat))).2) 203 43) ≤ 5 + 12 * (((mo_falls_10 3702 v t c (-1) (v 226 ((t).toNat))).2) 203 37) := (show ((mo_falls_10 3702 v t c (-1) (v 226 ((t).toNat))).2 203 43) ≤ 5 + 12 * ((mo_falls_10 3702 v t c (-1) (v 226 ((t).toNat))).2 203 37) from (by first | assumption | omega | (unfold R32 at *; omega) | (unfold R64 at *; omega) | (simp only [R32, R64] at *; omega)))
                have hp_107 : LK (mo_falls_10 3702 v t c (-1) (v 226 ((t).toNat))).2 := hv_15_1
                have hp_108 : CF (mo_falls_10 3702 v t c (-1) (v 226 ((t).toNat))).2 := show CF ((mo_falls_10 3702 v t c (-1) (v 226 ((t).toNat))).2) from (show CF ((mo_falls_10 3702 v t c (-1) (v 226 ((t).toNat))).2) from CF.of hp_f (fun k h1 h2 => by rw [o_mo_falls_10 (by omega)]))
                refine r_call (m := 250) (args := [.inr (.inr (some 203)), .inl t, .inl c, .inl (5 * (mo_falls_10 3702 v t c (-1) (v 226 ((t).toNat))).1)]) (n' := 249) (pc' := 240) (lo' := [some (.inr (.inr (some 203))), some (.inl t), some (.inl c), some (.inl ((mo_falls_10 3702 v t c (-1) (v 226 ((t).toNat))).1)), o4_15]) (st' := []) (I := .invokevirtual 250) (pc0 := 237) (len := 3) rfl rfl rfl (e_mo_strikesAt hX_15 hp_102 hp_103 hp_104 hp_105 hp_106 hp_107 hp_108) ?_
                show WV _ _ _ 240 _ [] _ (mo_strikesAt ((mo_falls_10 3702 v t c (-1) (v 226 ((t).toNat))).2) t c (5 * (mo_falls_10 3702 v t c (-1) (v 226 ((t).toNat))).1)) _
                have hX_109 : XI (mo_strikesAt ((mo_falls_10 3702 v t c (-1) (v 226 ((t).toNat))).2) t c (5 * (mo_falls_10 3702 v t c (-1) (v 226 ((t).toNat))).1)) := i_mo_strikesAt (v := (mo_falls_10 3702 v t c (-1) (v 226 ((t).toNat))).2) (t := t) (c := c) (k := (5 * (mo_falls_10 3702 v t c (-1) (v 226 ((t).toNat))).1)) hX_15 hp_102 hp_103 hp_104 hp_105 hp_106 hp_107 hp_108
                have hb_110 : ((mo_strikesAt ((mo_falls_10 3702 v t c (-1) (v 226 ((t).toNat))).2) t c (5 * (mo_falls_10 3702 v t c (-1) (v 226 ((t).toNat))).1)) 203 43) ≤ 5 + 12 * ((mo_strikesAt ((mo_falls_10 3702 v t c (-1) (v 226 ((t).toNat))).2) t c (5 * (mo_falls_10 3702 v t c (-1) (v 226 ((t).toNat))).1)) 203 37) := n0_mo_strikesAt (v := (mo_falls_10 3702 v t c (-1) (v 226 ((t).toNat))).2) (t := t) (c := c) (k := (5 * (mo_falls_10 3702 v t c (-1) (v 226 ((t).toNat))).1)) hX_15 hp_102 hp_103 hp_104 hp_105 hp_106 hp_107 hp_108
                have hl_111 := n1_mo_strikesAt (v := (mo_falls_10 3702 v t c (-1) (v 226 ((t).toNat))).2) (t := t) (c := c) (k := (5 * (mo_falls_10 3702 v t c (-1) (v 226 ((t).toNat))).1)) hX_15 hp_102 hp_103 hp_104 hp_105 hp_106 hp_107 hp_108
                refine r_ret (rr := none) (I := .return_) (pc0 := 240) (len := 1) rfl rfl ?_
                exact hQ hX_109 (show ((mo_strikesAt ((mo_falls_10 3702 v t c (-1) (v 226 ((t).toNat))).2) t c (5 * (mo_falls_10 3702 v t c (-1) (v 226 ((t).toNat))).1)) 203 43) ≤ 5 + 12 * ((mo_strikesAt ((mo_falls_10 3702 v t c (-1) (v 226 ((t).toNat))).2) t c (5 * (mo_falls_10 3702 v t c (-1) (v 226 ((t).toNat))).1)) 203 37) from (by first | assumption | omega | (unfold R32 at *; omega) | (unfold R64 at *; omega) | (simp only [R32, R64] at *; omega))) (hl_111)
              · show WV _ _ _ 199 _ _ _ _ _
                rw [if_pos h_196] at hQ
                refine r_ex 3 (pc' := 204) (lo' := [some (.inr (.inr (some 203))), some (.inl t), some (.inl c), some (.inl ((mo_falls_10 3702 v t c (-1) (v 226 ((t).toNat))).1)), o4_15]) (st' := [.inl c, .inr (.inr (some 229))]) rfl ?_
                refine r_iald2 (j := 0) (x := ((mo_falls_10 3702 v t c (-1) (v 226 ((t).toNat))).2 229 ((c).toNat))) (pc' := 205) (pc0 := 204) (len := 1) rfl (s_229 _) (by first | assumption | omega | (unfold R32 at *; omega) | (unfold R64 at *; omega) | (simp only [R32, R64] at *; omega)) (by decide) rfl rfl ?_
                have hb_112 : -1 ≤ ((mo_falls_10 3702 v t c (-1) (v 226 ((t).toNat))).2 229 ((c).toNat)) ∧ ((mo_falls_10 3702 v t c (-1) (v 226 ((t).toNat))).2 229 ((c).toNat)) ≤ 3699 := hX_15 229 ((c).toNat)
                refine r_ex 7 (pc' := 214) (lo' := [some (.inr (.inr (some 203))), some (.inl t), some (.inl c), some (.inl ((mo_falls_10 3702 v t c (-1) (v 226 ((t).toNat))).1)), o4_15]) (st' := [.inl ((5 * (mo_falls_10 3702 v t c (-1) (v 226 ((t).toNat))).1) + 1), .inr (.inr (some 225)), .inl ((mo_falls_10 3702 v t c (-1) (v 226 ((t).toNat))).2 229 ((c).toNat))]) rfl ?_
                refine r_iald2 (j := 0) (x := ((mo_falls_10 3702 v t c (-1) (v 226 ((t).toNat))).2 225 ((((5 * (mo_falls_10 3702 v t c (-1) (v 226 ((t).toNat))).1) + 1)).toNat))) (pc' := 215) (pc0 := 214) (len := 1) rfl (s_225 _) (by first | assumption | omega | (unfold R32 at *; omega) | (unfold R64 at *; omega) | (simp only [R32, R64] at *; omega)) (by decide) rfl rfl ?_
                have hb_113 : -1 ≤ ((mo_falls_10 3702 v t c (-1) (v 226 ((t).toNat))).2 225 ((((5 * (mo_falls_10 3702 v t c (-1) (v 226 ((t).toNat))).1) + 1)).toNat)) ∧ ((mo_falls_10 3702 v t c (-1) (v 226 ((t).toNat))).2 225 ((((5 * (mo_falls_10 3702 v t c (-1) (v 226 ((t).toNat))).1) + 1)).toNat)) ≤ 3699 := hX_15 225 ((((5 * (mo_falls_10 3702 v t c (-1) (v 226 ((t).toNat))).1) + 1)).toNat)
                refine n_ic_lt (pc0 := 215) (len := 3) (t := 231) rfl (by first | assumption | omega | (unfold R32 at *; omega) | (unfold R64 at *; omega) | (simp only [R32, R64] at *; omega)) (by first | assumption | omega | (unfold R32 at *; omega) | (unfold R64 at *; omega) | (simp only [R32, R64] at *; omega)) (fun h_215 => ?_) (fun h_215 => ?_)
                · show WV _ _ _ 231 _ _ _ _ _
                  rw [if_pos h_215] at hQ
                  refine r_ex 6 (pc' := 237) (lo' := [some (.inr (.inr (some 203))), some (.inl t), some (.inl c), some (.inl ((mo_falls_10 3702 v t c (-1) (v 226 ((t).toNat))).1)), o4_15]) (st' := [.inl (5 * (mo_falls_10 3702 v t c (-1) (v 226 ((t).toNat))).1), .inl c, .inl t, .inr (.inr (some 203))]) rfl ?_
                  have hp_114 : 0 ≤ t ∧ t < 300 := (by first | assumption | omega | (unfold R32 at *; omega) | (unfold R64 at *; omega) | (simp only [R32, R64] at *; omega))
                  have hp_115 : 0 ≤ c ∧ c ≤ 8 := (by first | assumption | omega | (unfold R32 at *; omega) | (unfold R64 at *; omega) | (simp only [R32, R64] at *; omega))
                  have hp_116 : 0 ≤ (5 * (mo_falls_10 3702 v t c (-1) (v 226 ((t).toNat))).1) ∧ (5 * (mo_falls_10 3702 v t c (-1) (v 226 ((t).toNat))).1) ≤ 18495 := (by first | assumption | omega | (unfold R32 at *; omega) | (unfold R64 at *; omega) | (simp only [R32, R64] at *; omega))
                  have hp_117 : (((mo_falls_10 3702 v t c (-1) (v 226 ((t).toNat))).2) 203 37) < 300 := (show ((mo_falls_10 3702 v t c (-1) (v 226 ((t).toNat))).2 203 37) < 300 from (by first | assumption | omega | (unfold R32 at *; omega) | (unfold R64 at *; omega) | (simp only [R32, R64] at *; omega)))
                  have hp_118 : (((mo_falls_10 3702 v t c (-1) (v 226 ((t).toNat))).2) 203 43) ≤ 5 + 12 * (((mo_falls_10 3702 v t c (-1) (v 226 ((t).toNat))).2) 203 37) := (show ((mo_falls_10 3702 v t c (-1) (v 226 ((t).toNat))).2 203 43) ≤ 5 + 12 * ((mo_falls_10 3702 v t c (-1) (v 226 ((t).toNat))).2 203 37) from (by first | assumption | omega | (unfold R32 at *; omega) | (unfold R64 at *; omega) | (simp only [R32, R64] at *; omega)))
                  have hp_119 : LK (mo_falls_10 3702 v t c (-1) (v 226 ((t).toNat))).2 := hv_15_1
                  have hp_120 : CF (mo_falls_10 3702 v t c (-1) (v 226 ((t).toNat))).2 := show CF ((mo_falls_10 3702 v t c (-1) (v 226 ((t).toNat))).2) from (show CF ((mo_falls_10 3702 v t c (-1) (v 226 ((t).toNat))).2) from CF.of hp_f (fun k h1 h2 => by rw [o_mo_falls_10 (by omega)]))
                  refine r_call (m := 250) (args := [.inr (.inr (some 203)), .inl t, .inl c, .inl (5 * (mo_falls_10 3702 v t c (-1) (v 226 ((t).toNat))).1)]) (n' := 249) (pc' := 240) (lo' := [some (.inr (.inr (some 203))), some (.inl t), some (.inl c), some (.inl ((mo_falls_10 3702 v t c (-1) (v 226 ((t).toNat))).1)), o4_15]) (st' := []) (I := .invokevirtual 250) (pc0 := 237) (len := 3) rfl rfl rfl (e_mo_strikesAt hX_15 hp_114 hp_115 hp_116 hp_117 hp_118 hp_119 hp_120) ?_
                  show WV _ _ _ 240 _ [] _ (mo_strikesAt ((mo_falls_10 3702 v t c (-1) (v 226 ((t).toNat))).2) t c (5 * (mo_falls_10 3702 v t c (-1) (v 226 ((t).toNat))).1)) _
                  have hX_121 : XI (mo_strikesAt ((mo_falls_10 3702 v t c (-1) (v 226 ((t).toNat))).2) t c (5 * (mo_falls_10 3702 v t c (-1) (v 226 ((t).toNat))).1)) := i_mo_strikesAt (v := (mo_falls_10 3702 v t c (-1) (v 226 ((t).toNat))).2) (t := t) (c := c) (k := (5 * (mo_falls_10 3702 v t c (-1) (v 226 ((t).toNat))).1)) hX_15 hp_114 hp_115 hp_116 hp_117 hp_118 hp_119 hp_120
                  have hb_122 : ((mo_strikesAt ((mo_falls_10 3702 v t c (-1) (v 226 ((t).toNat))).2) t c (5 * (mo_falls_10 3702 v t c (-1) (v 226 ((t).toNat))).1)) 203 43) ≤ 5 + 12 * ((mo_strikesAt ((mo_falls_10 3702 v t c (-1) (v 226 ((t).toNat))).2) t c (5 * (mo_falls_10 3702 v t c (-1) (v 226 ((t).toNat))).1)) 203 37) := n0_mo_strikesAt (v := (mo_falls_10 3702 v t c (-1) (v 226 ((t).toNat))).2) (t := t) (c := c) (k := (5 * (mo_falls_10 3702 v t c (-1) (v 226 ((t).toNat))).1)) hX_15 hp_114 hp_115 hp_116 hp_117 hp_118 hp_119 hp_120
                  have hl_123 := n1_mo_strikesAt (v := (mo_falls_10 3702 v t c (-1) (v 226 ((t).toNat))).2) (t := t) (c := c) (k := (5 * (mo_falls_10 3702 v t c (-1) (v 226 ((t).toNat))).1)) hX_15 hp_114 hp_115 hp_116 hp_117 hp_118 hp_119 hp_120
                  refine r_ret (rr := none) (I := .return_) (pc0 := 240) (len := 1) rfl rfl ?_
                  exact hQ hX_121 (show ((mo_strikesAt ((mo_falls_10 3702 v t c (-1) (v 226 ((t).toNat))).2) t c (5 * (mo_falls_10 3702 v t c (-1) (v 226 ((t).toNat))).1)) 203 43) ≤ 5 + 12 * ((mo_strikesAt ((mo_falls_10 3702 v t c (-1) (v 226 ((t).toNat))).2) t c (5 * (mo_falls_10 3702 v t c (-1) (v 226 ((t).toNat))).1)) 203 37) from (by first | assumption | omega | (unfold R32 at *; omega) | (unfold R64 at *; omega) | (simp only [R32, R64] at *; omega))) (hl_123)
                · show WV _ _ _ 218 _ _ _ _ _
                  rw [if_neg h_215] at hQ
                  refine r_ex 4 (pc' := 224) (lo' := [some (.inr (.inr (some 203))), some (.inl t), some (.inl c), some (.inl ((mo_falls_10 3702 v t c (-1) (v 226 ((t).toNat))).1)), o4_15]) (st' := [.inl 3, .inr (.inr (some 221)), .inl 3, .inr (.inr (some 221))]) rfl ?_
                  refine r_iald2 (j := 0) (x := ((mo_falls_10 3702 v t c (-1) (v 226 ((t).toNat))).2 221 3)) (pc' := 225) (pc0 := 224) (len := 1) rfl (s_221 _) (by first | assumption | omega | (unfold R32 at *; omega) | (unfold R64 at *; omega) | (simp only [R32, R64] at *; omega)) (by decide) rfl rfl ?_
                  refine r_ex 2 (pc' := 227) (lo' := [some (.inr (.inr (some 203))), some (.inl t), some (.inl c), some (.inl ((mo_falls_10 3702 v t c (-1) (v 226 ((t).toNat))).1)), o4_15]) (st' := [.inl (((mo_falls_10 3702 v t c (-1) (v 226 ((t).toNat))).2 221 3) + 1), .inl 3, .inr (.inr (some 221))]) rfl ?_
                  refine r_iast2 (pc' := 228) (pc0 := 227) (len := 1) rfl (s_221 _) (by first | assumption | omega | (unfold R32 at *; omega) | (unfold R64 at *; omega) | (simp only [R32, R64] at *; omega)) (by decide) rfl ?_
                  have hX_124 : XI (v2 ((mo_falls_10 3702 v t c (-1) (v 226 ((t).toNat))).2) 221 3 (((mo_falls_10 3702 v t c (-1) (v 226 ((t).toNat))).2 221 3) + 1)) := XI.put hX_15 trivial
                  show WV _ _ _ 228 _ _ _ (v2 ((mo_falls_10 3702 v t c (-1) (v 226 ((t).toNat))).2) 221 3 (((mo_falls_10 3702 v t c (-1) (v 226 ((t).toNat))).2 221 3) + 1)) _
                  refine r_ex 1 (pc' := 240) (lo' := [some (.inr (.inr (some 203))), some (.inl t), some (.inl c), some (.inl ((mo_falls_10 3702 v t c (-1) (v 226 ((t).toNat))).1)), o4_15]) (st' := []) rfl ?_
                  refine r_ret (rr := none) (I := .return_) (pc0 := 240) (len := 1) rfl rfl ?_
                  exact hQ hX_124 (show ((mo_falls_10 3702 v t c (-1) (v 226 ((t).toNat))).2 203 43) ≤ 5 + 12 * ((mo_falls_10 3702 v t c (-1) (v 226 ((t).toNat))).2 203 37) from (by first | assumption | omega | (unfold R32 at *; omega) | (unfold R64 at *; omega) | (simp only [R32, R64] at *; omega))) (show LK (v2 ((mo_falls_10 3702 v t c (-1) (v 226 ((t).toNat))).2) 221 3 (((mo_falls_10 3702 v t c (-1) (v 226 ((t).toNat))).2 221 3) + 1)) from LK.of hv_15_1 (fun k h1 h2 => by rw [v2_row (by omega)]) rfl)
          · show WV _ _ _ 166 _ _ _ _ _
            rw [if_neg h_163] at hQ
            refine r_ex 4 (pc' := 172) (lo' := [some (.inr (.inr (some 203))), some (.inl t), some (.inl c), some (.inl ((mo_falls_10 3702 v t c (-1) (v 226 ((t).toNat))).1)), o4_15]) (st' := [.inl 2, .inr (.inr (some 221)), .inl 2, .inr (.inr (some 221))]) rfl ?_
            refine r_iald2 (j := 0) (x := ((mo_falls_10 3702 v t c (-1) (v 226 ((t).toNat))).2 221 2)) (pc' := 173) (pc0 := 172) (len := 1) rfl (s_221 _) (by first | assumption | omega | (unfold R32 at *; omega) | (unfold R64 at *; omega) | (simp only [R32, R64] at *; omega)) (by decide) rfl rfl ?_
            refine r_ex 2 (pc' := 175) (lo' := [some (.inr (.inr (some 203))), some (.inl t), some (.inl c), some (.inl ((mo_falls_10 3702 v t c (-1) (v 226 ((t).toNat))).1)), o4_15]) (st' := [.inl (((mo_falls_10 3702 v t c (-1) (v 226 ((t).toNat))).2 221 2) + 1), .inl 2, .inr (.inr (some 221))]) rfl ?_
            refine r_iast2 (pc' := 176) (pc0 := 175) (len := 1) rfl (s_221 _) (by first | assumption | omega | (unfold R32 at *; omega) | (unfold R64 at *; omega) | (simp only [R32, R64] at *; omega)) (by decide) rfl ?_
            have hX_125 : XI (v2 ((mo_falls_10 3702 v t c (-1) (v 226 ((t).toNat))).2) 221 2 (((mo_falls_10 3702 v t c (-1) (v 226 ((t).toNat))).2 221 2) + 1)) := XI.put hX_15 trivial
            show WV _ _ _ 176 _ _ _ (v2 ((mo_falls_10 3702 v t c (-1) (v 226 ((t).toNat))).2) 221 2 (((mo_falls_10 3702 v t c (-1) (v 226 ((t).toNat))).2 221 2) + 1)) _
            refine r_ex 1 (pc' := 240) (lo' := [some (.inr (.inr (some 203))), some (.inl t), some (.inl c), some (.inl ((mo_falls_10 3702 v t c (-1) (v 226 ((t).toNat))).1)), o4_15]) (st' := []) rfl ?_
            refine r_ret (rr := none) (I := .return_) (pc0 := 240) (len := 1) rfl rfl ?_
            exact hQ hX_125 (show ((mo_falls_10 3702 v t c (-1) (v 226 ((t).toNat))).2 203 43) ≤ 5 + 12 * ((mo_falls_10 3702 v t c (-1) (v 226 ((t).toNat))).2 203 37) from (by first | assumption | omega | (unfold R32 at *; omega) | (unfold R64 at *; omega) | (simp only [R32, R64] at *; omega))) (show LK (v2 ((mo_falls_10 3702 v t c (-1) (v 226 ((t).toNat))).2) 221 2 (((mo_falls_10 3702 v t c (-1) (v 226 ((t).toNat))).2 221 2) + 1)) from LK.of hv_15_1 (fun k h1 h2 => by rw [v2_row (by omega)]) rfl)
    · show WV _ _ _ 114 _ _ _ _ _
      rw [if_pos h_111] at hQ
      refine r_ex 4 (pc' := 120) (lo' := [some (.inr (.inr (some 203))), some (.inl t), some (.inl c), some (.inl ((mo_falls_10 3702 v t c (-1) (v 226 ((t).toNat))).1)), o4_15]) (st' := [.inl 4, .inr (.inr (some 221)), .inl 4, .inr (.inr (some 221))]) rfl ?_
      refine r_iald2 (j := 0) (x := ((mo_falls_10 3702 v t c (-1) (v 226 ((t).toNat))).2 221 4)) (pc' := 121) (pc0 := 120) (len := 1) rfl (s_221 _) (by first | assumption | omega | (unfold R32 at *; omega) | (unfold R64 at *; omega) | (simp only [R32, R64] at *; omega)) (by decide) rfl rfl ?_
      refine r_ex 2 (pc' := 123) (lo' := [some (.inr (.inr (some 203))), some (.inl t), some (.inl c), some (.inl ((mo_falls_10 3702 v t c (-1) (v 226 ((t).toNat))).1)), o4_15]) (st' := [.inl (((mo_falls_10 3702 v t c (-1) (v 226 ((t).toNat))).2 221 4) + 1), .inl 4, .inr (.inr (some 221))]) rfl ?_
      refine r_iast2 (pc' := 124) (pc0 := 123) (len := 1) rfl (s_221 _) (by first | assumption | omega | (unfold R32 at *; omega) | (unfold R64 at *; omega) | (simp only [R32, R64] at *; omega)) (by decide) rfl ?_
      have hX_126 : XI (v2 ((mo_falls_10 3702 v t c (-1) (v 226 ((t).toNat))).2) 221 4 (((mo_falls_10 3702 v t c (-1) (v 226 ((t).toNat))).2 221 4) + 1)) := XI.put hX_15 trivial
      show WV _ _ _ 124 _ _ _ (v2 ((mo_falls_10 3702 v t c (-1) (v 226 ((t).toNat))).2) 221 4 (((mo_falls_10 3702 v t c (-1) (v 226 ((t).toNat))).2 221 4) + 1)) _
      refine r_ex 1 (pc' := 240) (lo' := [some (.inr (.inr (some 203))), some (.inl t), some (.inl c), some (.inl ((mo_falls_10 3702 v t c (-1) (v 226 ((t).toNat))).1)), o4_15]) (st' := []) rfl ?_
      refine r_ret (rr := none) (I := .return_) (pc0 := 240) (len := 1) rfl rfl ?_
      exact hQ hX_126 (show ((mo_falls_10 3702 v t c (-1) (v 226 ((t).toNat))).2 203 43) ≤ 5 + 12 * ((mo_falls_10 3702 v t c (-1) (v 226 ((t).toNat))).2 203 37) from (by first | assumption | omega | (unfold R32 at *; omega) | (unfold R64 at *; omega) | (simp only [R32, R64] at *; omega))) (show LK (v2 ((mo_falls_10 3702 v t c (-1) (v 226 ((t).toNat))).2) 221 4 (((mo_falls_10 3702 v t c (-1) (v 226 ((t).toNat))).2 221 4) + 1)) from LK.of hv_15_1 (fun k h1 h2 => by rw [v2_row (by omega)]) rfl)
  · show WV _ _ _ 101 _ _ _ _ _
    rw [if_pos h_98] at hQ
    refine r_ret (rr := none) (I := .return_) (pc0 := 101) (len := 1) rfl rfl ?_
    exact hQ hX_15 (show ((mo_falls_10 3702 v t c (-1) (v 226 ((t).toNat))).2 203 43) ≤ 5 + 12 * ((mo_falls_10 3702 v t c (-1) (v 226 ((t).toNat))).2 203 37) from (by first | assumption | omega | (unfold R32 at *; omega) | (unfold R64 at *; omega) | (simp only [R32, R64] at *; omega))) (hv_15_1)

theorem e_mo_falls {X : PX} {d b : Nat} {v : VS} {t : Int} {c : Int} (hX : XI v) (hp_a : 0 ≤ t ∧ t < 300) (hp_b : 0 ≤ c ∧ c ≤ 8) (hp_c : (v 203 37) < 300) (hp_d : (v 203 43) ≤ 5 + 12 * (v 203 37)) (hp_e : LK v) (hp_f : CF v) : EvV X (d + 1 + 1 + 1) 249 [.inr (.inr (some 203)), .inl t, .inl c] b v none b (mo_falls v t c) := EvV.of (w_mo_falls hX hp_a hp_b hp_c hp_d hp_e hp_f (fun _ _ _ => ⟨rfl, rfl, rfl⟩))

theorem i_mo_falls {v : VS} {t : Int} {c : Int} (hX : XI v) (hp_a : 0 ≤ t ∧ t < 300) (hp_b : 0 ≤ c ∧ c ≤ 8) (hp_c : (v 203 37) < 300) (hp_d : (v 203 43) ≤ 5 + 12 * (v 203 37)) (hp_e : LK v) (hp_f : CF v) : XI (mo_falls v t c) := by
  have q : WV (0, fun _ => 0, none) (0 + 1 + 1 + 1) 249 0 [some (.inr (.inr (some 203))), some (.inl t), some (.inl c), none, none] [] 1 v (fun _ _ _ => XI (mo_falls v t c)) := w_mo_falls (X := (0, fun _ => 0, none)) (d := 0) (b := 1) hX hp_a hp_b hp_c hp_d hp_e hp_f (fun q _ _ => q)
  obtain ⟨_, _, _, _, _, _, _, q⟩ := q
  exact q

theorem n0_mo_falls {v : VS} {t : Int} {c : Int} (hX : XI v) (hp_a : 0 ≤ t ∧ t < 300) (hp_b : 0 ≤ c ∧ c ≤ 8) (hp_c : (v 203 37) < 300) (hp_d : (v 203 43) ≤ 5 + 12 * (v 203 37)) (hp_e : LK v) (hp_f : CF v) : ((mo_falls v t c) 203 43) ≤ 5 + 12 * ((mo_falls v t c) 203 37) := by
  have q : WV (0, fun _ => 0, none) (0 + 1 + 1 + 1) 249 0 [some (.inr (.inr (some 203))), some (.inl t), some (.inl c), none, none] [] 1 v (fun _ _ _ => ((mo_falls v t c) 203 43) ≤ 5 + 12 * ((mo_falls v t c) 203 37)) := w_mo_falls (X := (0, fun _ => 0, none)) (d := 0) (b := 1) hX hp_a hp_b hp_c hp_d hp_e hp_f (fun _ q _ => q)
  obtain ⟨_, _, _, _, _, _, _, q⟩ := q
  exact q

theorem n1_mo_falls {v : VS} {t : Int} {c : Int} (hX : XI v) (hp_a : 0 ≤ t ∧ t < 300) (hp_b : 0 ≤ c ∧ c ≤ 8) (hp_c : (v 203 37) < 300) (hp_d : (v 203 43) ≤ 5 + 12 * (v 203 37)) (hp_e : LK v) (hp_f : CF v) : LK (mo_falls v t c) := by
  have q : WV (0, fun _ => 0, none) (0 + 1 + 1 + 1) 249 0 [some (.inr (.inr (some 203))), some (.inl t), some (.inl c), none, none] [] 1 v (fun _ _ _ => LK (mo_falls v t c)) := w_mo_falls (X := (0, fun _ => 0, none)) (d := 0) (b := 1) hX hp_a hp_b hp_c hp_d hp_e hp_f (fun _ _ q => q)
  obtain ⟨_, _, _, _, _, _, _, q⟩ := q
  exact q

theorem o_mo_falls {rk : Nat} {v : VS} {t : Int} {c : Int} (hk : (rk < 203 ∨ 203 < rk) ∧ (rk < 220 ∨ 231 < rk)) : (mo_falls v t c) rk = v rk := by
  unfold mo_falls
  by_cases hc_ : (mo_falls_10 3702 v t c (-1) (v 226 ((t).toNat))).1 = (-1)
  · rw [if_pos hc_]
    all_goals (show ((mo_falls_10 3702 v t c (-1) (v 226 ((t).toNat))).2) rk = _)
    all_goals (rw [o_mo_falls_10 (by omega)])
  · rw [if_neg hc_]
    by_cases hc_ : (bt ((mo_falls_10 3702 v t c (-1) (v 226 ((t).toNat))).2 203 30) c) = 1
    · rw [if_pos hc_]
      all_goals (show (v2 ((mo_falls_10 3702 v t c (-1) (v 226 ((t).toNat))).2) 221 4 (((mo_falls_10 3702 v t c (-1) (v 226 ((t).toNat))).2 221 4) + 1)) rk = _)
      all_goals (rw [v2_row (by omega), o_mo_falls_10 (by omega)])
    · rw [if_neg hc_]
      by_cases hc_ : ((mo_falls_10 3702 v t c (-1) (v 226 ((t).toNat))).2 203 34) = 4
      · rw [if_pos hc_]
        by_cases hc_ : ((mo_falls_10 3702 v t c (-1) (v 226 ((t).toNat))).2 203 34) = 5
        · rw [if_pos hc_]
          all_goals (show (mo_strikesAt ((mo_falls_10 3702 v t c (-1) (v 226 ((t).toNat))).2) t c (5 * (mo_falls_10 3702 v t c (-1) (v 226 ((t).toNat))).1)) rk = _)
          all_goals (rw [o_mo_strikesAt (by omega), o_mo_falls_10 (by omega)])
        · rw [if_neg hc_]
          by_cases hc_ : ((mo_falls_10 3702 v t c (-1) (v 226 ((t).toNat))).2 211 (((3 * c)).toNat)) = 1
          · rw [if_pos hc_]
            by_cases hc_ : ((mo_falls_10 3702 v t c (-1) (v 226 ((t).toNat))).2 229 ((c).toNat)) < ((mo_falls_10 3702 v t c (-1) (v 226 ((t).toNat))).2 225 ((((5 * (mo_falls_10 3702 v t c (-1) (v 226 ((t).toNat))).1) + 1)).toNat))
            · rw [if_pos hc_]
              all_goals (show (mo_strikesAt ((mo_falls_10 3702 v t c (-1) (v 226 ((t).toNat))).2) t c (5 * (mo_falls_10 3702 v t c (-1) (v 226 ((t).toNat))).1)) rk = _)
              all_goals (rw [o_mo_strikesAt (by omega), o_mo_falls_10 (by omega)])
            · rw [if_neg hc_]
              all_goals (show (v2 ((mo_falls_10 3702 v t c (-1) (v 226 ((t).toNat))).2) 221 3 (((mo_falls_10 3702 v t c (-1) (v 226 ((t).toNat))).2 221 3) + 1)) rk = _)
              all_goals (rw [v2_row (by omega), o_mo_falls_10 (by omega)])
          · rw [if_neg hc_]
            all_goals (show (mo_strikesAt ((mo_falls_10 3702 v t c (-1) (v 226 ((t).toNat))).2) t c (5 * (mo_falls_10 3702 v t c (-1) (v 226 ((t).toNat))).1)) rk = _)
            all_goals (rw [o_mo_strikesAt (by omega), o_mo_falls_10 (by omega)])
      · rw [if_neg hc_]
        by_cases hc_ : ((mo_falls_10 3702 v t c (-1) (v 226 ((t).toNat))).2 228 ((c).toNat)) = (-1)
        · rw [if_pos hc_]
          by_cases hc_ : ((mo_falls_10 3702 v t c (-1) (v 226 ((t).toNat))).2 203 34) = 5
          · rw [if_pos hc_]
            all_goals (show (mo_strikesAt ((mo_falls_10 3702 v t c (-1) (v 226 ((t).toNat))).2) t c (5 * (mo_falls_10 3702 v t c (-1) (v 226 ((t).toNat))).1)) rk = _)
            all_goals (rw [o_mo_strikesAt (by omega), o_mo_falls_10 (by omega)])
          · rw [if_neg hc_]
            by_cases hc_ : ((mo_falls_10 3702 v t c (-1) (v 226 ((t).toNat))).2 211 (((3 * c)).toNat)) = 1
            · rw [if_pos hc_]
              by_cases hc_ : ((mo_falls_10 3702 v t c (-1) (v 226 ((t).toNat))).2 229 ((c).toNat)) < ((mo_falls_10 3702 v t c (-1) (v 226 ((t).toNat))).2 225 ((((5 * (mo_falls_10 3702 v t c (-1) (v 226 ((t).toNat))).1) + 1)).toNat))
              · rw [if_pos hc_]
                all_goals (show (mo_strikesAt ((mo_falls_10 3702 v t c (-1) (v 226 ((t).toNat))).2) t c (5 * (mo_falls_10 3702 v t c (-1) (v 226 ((t).toNat))).1)) rk = _)
                all_goals (rw [o_mo_strikesAt (by omega), o_mo_falls_10 (by omega)])
              · rw [if_neg hc_]
                all_goals (show (v2 ((mo_falls_10 3702 v t c (-1) (v 226 ((t).toNat))).2) 221 3 (((mo_falls_10 3702 v t c (-1) (v 226 ((t).toNat))).2 221 3) + 1)) rk = _)
                all_goals (rw [v2_row (by omega), o_mo_falls_10 (by omega)])
            · rw [if_neg hc_]
              all_goals (show (mo_strikesAt ((mo_falls_10 3702 v t c (-1) (v 226 ((t).toNat))).2) t c (5 * (mo_falls_10 3702 v t c (-1) (v 226 ((t).toNat))).1)) rk = _)
              all_goals (rw [o_mo_strikesAt (by omega), o_mo_falls_10 (by omega)])
        · rw [if_neg hc_]
          by_cases hc_ : ((mo_falls_10 3702 v t c (-1) (v 226 ((t).toNat))).2 211 ((((3 * c) + 2)).toNat)) < (t - ((mo_falls_10 3702 v t c (-1) (v 226 ((t).toNat))).2 228 ((c).toNat)))
          · rw [if_pos hc_]
            by_cases hc_ : ((mo_falls_10 3702 v t c (-1) (v 226 ((t).toNat))).2 203 34) = 5
            · rw [if_pos hc_]
              all_goals (show (mo_strikesAt ((mo_falls_10 3702 v t c (-1) (v 226 ((t).toNat))).2) t c (5 * (mo_falls_10 3702 v t c (-1) (v 226 ((t).toNat))).1)) rk = _)
              all_goals (rw [o_mo_strikesAt (by omega), o_mo_falls_10 (by omega)])
            · rw [if_neg hc_]
              by_cases hc_ : ((mo_falls_10 3702 v t c (-1) (v 226 ((t).toNat))).2 211 (((3 * c)).toNat)) = 1
              · rw [if_pos hc_]
                by_cases hc_ : ((mo_falls_10 3702 v t c (-1) (v 226 ((t).toNat))).2 229 ((c).toNat)) < ((mo_falls_10 3702 v t c (-1) (v 226 ((t).toNat))).2 225 ((((5 * (mo_falls_10 3702 v t c (-1) (v 226 ((t).toNat))).1) + 1)).toNat))
                · rw [if_pos hc_]
                  all_goals (show (mo_strikesAt ((mo_falls_10 3702 v t c (-1) (v 226 ((t).toNat))).2) t c (5 * (mo_falls_10 3702 v t c (-1) (v 226 ((t).toNat))).1)) rk = _)
                  all_goals (rw [o_mo_strikesAt (by omega), o_mo_falls_10 (by omega)])
                · rw [if_neg hc_]
                  all_goals (show (v2 ((mo_falls_10 3702 v t c (-1) (v 226 ((t).toNat))).2) 221 3 (((mo_falls_10 3702 v t c (-1) (v 226 ((t).toNat))).2 221 3) + 1)) rk = _)
                  all_goals (rw [v2_row (by omega), o_mo_falls_10 (by omega)])
              · rw [if_neg hc_]
                all_goals (show (mo_strikesAt ((mo_falls_10 3702 v t c (-1) (v 226 ((t).toNat))).2) t c (5 * (mo_falls_10 3702 v t c (-1) (v 226 ((t).toNat))).1)) rk = _)
                all_goals (rw [o_mo_strikesAt (by omega), o_mo_falls_10 (by omega)])
          · rw [if_neg hc_]
            all_goals (show (v2 ((mo_falls_10 3702 v t c (-1) (v 226 ((t).toNat))).2) 221 2 (((mo_falls_10 3702 v t c (-1) (v 226 ((t).toNat))).2 221 2) + 1)) rk = _)
            all_goals (rw [v2_row (by omega), o_mo_falls_10 (by omega)])

def mo_goes_16 : Nat → VS → Int → VS
  | 0, v, t => v
  | f + 1, v, t => (if t < 8 then (mo_goes_16 f (v2 v 221 ((t).toNat) 0) (t + 1)) else v)
def mo_goes_37 : Nat → VS → Int → VS
  | 0, v, t => v
  | f + 1, v, t => (if t < 12 then (mo_goes_37 f (v2 (v2 (v2 v 222 ((t).toNat) 0) 223 ((t).toNat) 0) 224 ((t).toNat) 0) (t + 1)) else v)
def mo_goes_72 : Nat → VS → Int → VS
  | 0, v, t => v
  | f + 1, v, t => (if t < 300 then (mo_goes_72 f (v2 v 226 ((t).toNat) (-1)) (t + 1)) else v)
def mo_goes_94 : Nat → VS → Int → VS
  | 0, v, t => v
  | f + 1, v, t => (if t < 9 then (mo_goes_94 f (v2 (v2 (v2 (v2 v 228 ((t).toNat) (-1)) 229 ((t).toNat) 0) 230 ((t).toNat) (-1)) 231 ((t).toNat) 0) (t + 1)) else v)
def mo_goes_139 : Nat → VS → Int → VS
  | 0, v, t => v
  | f + 1, v, t => (if t < (v 203 33) then (mo_goes_139 f (mo_puts v (v 213 ((((3 * t) + 1)).toNat)) (v 213 (((3 * t)).toNat)) (v 213 ((((3 * t) + 2)).toNat)) (-1) (-1)) (t + 1)) else v)
def mo_goes_201 : Nat → VS → Int → Int → VS
  | 0, v, t, c => v
  | f + 1, v, t, c => (if c < (v 210 0) then (if (v 203 37) < 300 then (if (v 226 ((t).toNat)) = (-1) then (mo_goes_201 f v t (c + 1)) else (mo_goes_201 f (mo_falls v t c) t (c + 1))) else v) else v)
def mo_goes_189 : Nat → VS → Int → VS
  | 0, v, t => v
  | f + 1, v, t => (if t < (v 210 1) then (mo_goes_189 f (mo_goes_201 10 v t 0) (t + 1)) else v)
def mo_goes_134 (v : VS)  : VS :=
  (mo_goes_189 301 (mo_goes_139 6 v (v 203 32)) 0)
def mo_goes_92 (v : VS)  : VS :=
  (mo_goes_134  (mo_goes_94 10 v 0))
def mo_goes_70 (v : VS)  : VS :=
  (mo_goes_92  (mo_goes_72 301 v 0))
def mo_goes_35 (v : VS)  : VS :=
  (mo_goes_70  (mo_goes_37 13 v 0))
def mo_goes (v : VS)  : VS :=
  (mo_goes_35  (mo_goes_16 9 (v2 (v2 (mo_laysWinds v) 203 37 0) 203 43 0) 0))
theorem l_mo_goes_16 {X : PX} {d b : Nat} {Q : Option PV → Nat → VS → Prop}  : ∀ (f : Nat) (v : VS) (t : Int) (o2 : Option PV), XI v → (0 ≤ t ∧ t ≤ 8) → (8 < t + f) → (∀ qx1 : Option PV, ∀ qx2 : Option PV, XI (mo_goes_16 f v t) → WV X (d + 1 + 1 + 1 + 1) 247 35 [some (.inr (.inr (some 203))), qx1, qx2] [] b (mo_goes_16 f v t) Q) → WV X (d + 1 + 1 + 1 + 1) 247 16 [some (.inr (.inr (some 203))), some (.inl t), o2] [] b v Q := by
  intro f
  induction f with
  | zero =>
    intro v t o2 hX hi_0 hf hK
    exfalso
    omega
  | succ f ih =>
    intro v t o2 hX hi_0 hf hK
    rw [mo_goes_16] at hK
    refine r_ex 2 (pc' := 19) (lo' := [some (.inr (.inr (some 203))), some (.inl t), o2]) (st' := [.inl 8, .inl t]) rfl ?_
    refine n_ic_ge (pc0 := 19) (len := 3) (t := 35) rfl (by first | assumption | omega | (unfold R32 at *; omega) | (unfold R64 at *; omega) | (simp only [R32, R64] at *; omega)) (by first | assumption | omega | (unfold R32 at *; omega) | (unfold R64 at *; omega) | (simp only [R32, R64] at *; omega)) (fun h_19 => ?_) (fun h_19 => ?_)
    · show WV _ _ _ 35 _ _ _ _ _
      rw [if_neg h_19] at hK
      exact hK _ _ hX 
    · show WV _ _ _ 22 _ _ _ _ _
      rw [if_pos h_19] at hK
      refine r_ex 4 (pc' := 28) (lo' := [some (.inr (.inr (some 203))), some (.inl t), o2]) (st' := [.inl 0, .inl t, .inr (.inr (some 221))]) rfl ?_
      refine r_iast2 (pc' := 29) (pc0 := 28) (len := 1) rfl (s_221 _) (by first | assumption | omega | (unfold R32 at *; omega) | (unfold R64 at *; omega) | (simp only [R32, R64] at *; omega)) (by decide) rfl ?_
      have hX_5 : XI (v2 v 221 ((t).toNat) 0) := XI.put hX trivial
      refine r_ex 2 (pc' := 16) (lo' := [some (.inr (.inr (some 203))), some (.inl (t + 1)), o2]) (st' := []) rfl ?_
      refine ih (v2 v 221 ((t).toNat) 0) (t + 1) _ hX_5 (by first | assumption | omega | (unfold R32 at *; omega) | (unfold R64 at *; omega) | (simp only [R32, R64] at *; omega)) (by first | assumption | omega | (unfold R32 at *; omega) | (unfold R64 at *; omega) | (simp only [R32, R64] at *; omega)) hK

theorem of_mo_goes_16 {rk : Nat} (hk : (rk < 221 ∨ 221 < rk)) : ∀ (f : Nat) {v : VS} {t : Int}, (mo_goes_16 f v t) rk = v rk := by
  intro f
  induction f with
  | zero => intro v t; rfl
  | succ f ih =>
    intro v t
    rw [mo_goes_16]
    by_cases hc_ : t < 8
    · rw [if_pos hc_]
      all_goals (rw [ih, v2_row (by omega)])
    · rw [if_neg hc_]
      all_goals (show v rk = _)
      all_goals rfl
theorem o_mo_goes_16 {rk : Nat} {f : Nat} {v : VS} {t : Int} (hk : (rk < 221 ∨ 221 < rk)) : (mo_goes_16 f v t) rk = v rk := of_mo_goes_16 hk f

theorem l_mo_goes_37 {X : PX} {d b : Nat} {Q : Option PV → Nat → VS → Prop}  : ∀ (f : Nat) (v : VS) (t : Int) (o2 : Option PV), XI v → (0 ≤ t ∧ t ≤ 12) → (12 < t + f) → (∀ qx1 : Option PV, ∀ qx2 : Option PV, XI (mo_goes_37 f v t) → WV X (d + 1 + 1 + 1 + 1) 247 70 [some (.inr (.inr (some 203))), qx1, qx2] [] b (mo_goes_37 f v t) Q) → WV X (d + 1 + 1 + 1 + 1) 247 37 [some (.inr (.inr (some 203))), some (.inl t), o2] [] b v Q := by
  intro f
  induction f with
  | zero =>
    intro v t o2 hX hi_0 hf hK
    exfalso
    omega
  | succ f ih =>
    intro v t o2 hX hi_0 hf hK
    rw [mo_goes_37] at hK
    refine r_ex 2 (pc' := 40) (lo' := [some (.inr (.inr (some 203))), some (.inl t), o2]) (st' := [.inl 12, .inl t]) rfl ?_
    refine n_ic_ge (pc0 := 40) (len := 3) (t := 70) rfl (by first | assumption | omega | (unfold R32 at *; omega) | (unfold R64 at *; omega) | (simp only [R32, R64] at *; omega)) (by first | assumption | omega | (unfold R32 at *; omega) | (unfold R64 at *; omega) | (simp only [R32, R64] at *; omega)) (fun h_40 => ?_) (fun h_40 => ?_)
    · show WV _ _ _ 70 _ _ _ _ _
      rw [if_neg h_40] at hK
      exact hK _ _ hX 
    · show WV _ _ _ 43 _ _ _ _ _
      rw [if_pos h_40] at hK
      refine r_ex 4 (pc' := 49) (lo' := [some (.inr (.inr (some 203))), some (.inl t), o2]) (st' := [.inl 0, .inl t, .inr (.inr (some 222))]) rfl ?_
      refine r_iast2 (pc' := 50) (pc0 := 49) (len := 1) rfl (s_222 _) (by first | assumption | omega | (unfold R32 at *; omega) | (unfold R64 at *; omega) | (simp only [R32, R64] at *; omega)) (by decide) rfl ?_
      have hX_9 : XI (v2 v 222 ((t).toNat) 0) := XI.put hX trivial
      refine r_ex 4 (pc' := 56) (lo' := [some (.inr (.inr (some 203))), some (.inl t), o2]) (st' := [.inl 0, .inl t, .inr (.inr (some 223))]) rfl ?_
      refine r_iast2 (pc' := 57) (pc0 := 56) (len := 1) rfl (s_223 _) (by first | assumption | omega | (unfold R32 at *; omega) | (unfold R64 at *; omega) | (simp only [R32, R64] at *; omega)) (by decide) rfl ?_
      have hX_10 : XI (v2 (v2 v 222 ((t).toNat) 0) 223 ((t).toNat) 0) := XI.put hX_9 trivial
      refine r_ex 4 (pc' := 63) (lo' := [some (.inr (.inr (some 203))), some (.inl t), o2]) (st' := [.inl 0, .inl t, .inr (.inr (some 224))]) rfl ?_
      refine r_iast2 (pc' := 64) (pc0 := 63) (len := 1) rfl (s_224 _) (by first | assumption | omega | (unfold R32 at *; omega) | (unfold R64 at *; omega) | (simp only [R32, R64] at *; omega)) (by decide) rfl ?_
      have hX_11 : XI (v2 (v2 (v2 v 222 ((t).toNat) 0) 223 ((t).toNat) 0) 224 ((t).toNat) 0) := XI.put hX_10 trivial
      refine r_ex 2 (pc' := 37) (lo' := [some (.inr (.inr (some 203))), some (.inl (t + 1)), o2]) (st' := []) rfl ?_
      refine ih (v2 (v2 (v2 v 222 ((t).toNat) 0) 223 ((t).toNat) 0) 224 ((t).toNat) 0) (t + 1) _ hX_11 (by first | assumption | omega | (unfold R32 at *; omega) | (unfold R64 at *; omega) | (simp only [R32, R64] at *; omega)) (by first | assumption | omega | (unfold R32 at *; omega) | (unfold R64 at *; omega) | (simp only [R32, R64] at *; omega)) hK

theorem of_mo_goes_37 {rk : Nat} (hk : (rk < 222 ∨ 224 < rk)) : ∀ (f : Nat) {v : VS} {t : Int}, (mo_goes_37 f v t) rk = v rk := by
  intro f
  induction f with
  | zero => intro v t; rfl
  | succ f ih =>
    intro v t
    rw [mo_goes_37]
    by_cases hc_ : t < 12
    · rw [if_pos hc_]
      all_goals (rw [ih, v2_row (by omega), v2_row (by omega), v2_row (by omega)])
    · rw [if_neg hc_]
      all_goals (show v rk = _)
      all_goals rfl
theorem o_mo_goes_37 {rk : Nat} {f : Nat} {v : VS} {t : Int} (hk : (rk < 222 ∨ 224 < rk)) : (mo_goes_37 f v t) rk = v rk := of_mo_goes_37 hk f

theorem l_mo_goes_72 {X : PX} {d b : Nat} {Q : Option PV → Nat → VS → Prop}  : ∀ (f : Nat) (v : VS) (t : Int) (o2 : Option PV), XI v → (0 ≤ t ∧ t ≤ 300) → (HQ v t) → (300 < t + f) → (∀ qx1 : Option PV, ∀ qx2 : Option PV, XI (mo_goes_72 f v t) → (HN (mo_goes_72 f v t)) → WV X (d + 1 + 1 + 1 + 1) 247 92 [some (.inr (.inr (some 203))), qx1, qx2] [] b (mo_goes_72 f v t) Q) → WV X (d + 1 + 1 + 1 + 1) 247 72 [some (.inr (.inr (some 203))), some (.inl t), o2] [] b v Q := by
  intro f
  induction f with
  | zero =>
    intro v t o2 hX hi_0 hi_1 hf hK
    exfalso
    omega
  | succ f ih =>
    intro v t o2 hX hi_0 hi_1 hf hK
    rw [mo_goes_72] at hK
    refine r_ex 2 (pc' := 76) (lo' := [some (.inr (.inr (some 203))), some (.inl t), o2]) (st' := [.inl 300, .inl t]) rfl ?_
    refine n_ic_ge (pc0 := 76) (len := 3) (t := 92) rfl (by first | assumption | omega | (unfold R32 at *; omega) | (unfold R64 at *; omega) | (simp only [R32, R64] at *; omega)) (by first | assumption | omega | (unfold R32 at *; omega) | (unfold R64 at *; omega) | (simp only [R32, R64] at *; omega)) (fun h_76 => ?_) (fun h_76 => ?_)
    · show WV _ _ _ 92 _ _ _ _ _
      rw [if_neg h_76] at hK
      exact hK _ _ hX (fun j hj => hi_1 j (by omega))
    · show WV _ _ _ 79 _ _ _ _ _
      rw [if_pos h_76] at hK
      refine r_ex 4 (pc' := 85) (lo' := [some (.inr (.inr (some 203))), some (.inl t), o2]) (st' := [.inl (-1), .inl t, .inr (.inr (some 226))]) rfl ?_
      refine r_iast2 (pc' := 86) (pc0 := 85) (len := 1) rfl (s_226 _) (by first | assumption | omega | (unfold R32 at *; omega) | (unfold R64 at *; omega) | (simp only [R32, R64] at *; omega)) (by decide) rfl ?_
      have hX_15 : XI (v2 v 226 ((t).toNat) (-1)) := XI.put hX (show -1 ≤ (-1) ∧ (-1) ≤ 3699 from (by first | assumption | omega | (unfold R32 at *; omega) | (unfold R64 at *; omega) | (simp only [R32, R64] at *; omega)))
      refine r_ex 2 (pc' := 72) (lo' := [some (.inr (.inr (some 203))), some (.inl (t + 1)), o2]) (st' := []) rfl ?_
      refine ih (v2 v 226 ((t).toNat) (-1)) (t + 1) _ hX_15 (by first | assumption | omega | (unfold R32 at *; omega) | (unfold R64 at *; omega) | (simp only [R32, R64] at *; omega)) (by first | assumption | exact HQ.nil | exact HQ.step hi_1 (by omega)) (by first | assumption | omega | (unfold R32 at *; omega) | (unfold R64 at *; omega) | (simp only [R32, R64] at *; omega)) hK

theorem of_mo_goes_72 {rk : Nat} (hk : (rk < 226 ∨ 226 < rk)) : ∀ (f : Nat) {v : VS} {t : Int}, (mo_goes_72 f v t) rk = v rk := by
  intro f
  induction f with
  | zero => intro v t; rfl
  | succ f ih =>
    intro v t
    rw [mo_goes_72]
    by_cases hc_ : t < 300
    · rw [if_pos hc_]
      all_goals (rw [ih, v2_row (by omega)])
    · rw [if_neg hc_]
      all_goals (show v rk = _)
      all_goals rfl
theorem o_mo_goes_72 {rk : Nat} {f : Nat} {v : VS} {t : Int} (hk : (rk < 226 ∨ 226 < rk)) : (mo_goes_72 f v t) rk = v rk := of_mo_goes_72 hk f

theorem l_mo_goes_94 {X : PX} {d b : Nat} {Q : Option PV → Nat → VS → Prop}  : ∀ (f : Nat) (v : VS) (t : Int) (o2 : Option PV), XI v → (0 ≤ t ∧ t ≤ 9) → (9 < t + f) → (∀ qx1 : Option PV, ∀ qx2 : Option PV, XI (mo_goes_94 f v t) → WV X (d + 1 + 1 + 1 + 1) 247 134 [some (.inr (.inr (some 203))), qx1, qx2] [] b (mo_goes_94 f v t) Q) → WV X (d + 1 + 1 + 1 + 1) 247 94 [some (.inr (.inr (some 203))), some (.inl t), o2] [] b v Q := by
  intro f
  induction f with
  | zero =>
    intro v t o2 hX hi_0 hf hK
    exfalso
    omega
  | succ f ih =>
    intro v t o2 hX hi_0 hf hK
    rw [mo_goes_94] at hK
    refine r_ex 2 (pc' := 97) (lo' := [some (.inr (.inr (some 203))), some (.inl t), o2]) (st' := [.inl 9, .inl t]) rfl ?_
    refine n_ic_ge (pc0 := 97) (len := 3) (t := 134) rfl (by first | assumption | omega | (unfold R32 at *; omega) | (unfold R64 at *; omega) | (simp only [R32, R64] at *; omega)) (by first | assumption | omega | (unfold R32 at *; omega) | (unfold R64 at *; omega) | (simp only [R32, R64] at *; omega)) (fun h_97 => ?_) (fun h_97 => ?_)
    · show WV _ _ _ 134 _ _ _ _ _
      rw [if_neg h_97] at hK
      exact hK _ _ hX 
    · show WV _ _ _ 100 _ _ _ _ _
      rw [if_pos h_97] at hK
      refine r_ex 4 (pc' := 106) (lo' := [some (.inr (.inr (some 203))), some (.inl t), o2]) (st' := [.inl (-1), .inl t, .inr (.inr (some 228))]) rfl ?_
      refine r_iast2 (pc' := 107) (pc0 := 106) (len := 1) rfl (s_228 _) (by first | assumption | omega | (unfold R32 at *; omega) | (unfold R64 at *; omega) | (simp only [R32, R64] at *; omega)) (by decide) rfl ?_
      have hX_19 : XI (v2 v 228 ((t).toNat) (-1)) := XI.put hX (show -1 ≤ (-1) ∧ (-1) ≤ 299 from (by first | assumption | omega | (unfold R32 at *; omega) | (unfold R64 at *; omega) | (simp only [R32, R64] at *; omega)))
      refine r_ex 4 (pc' := 113) (lo' := [some (.inr (.inr (some 203))), some (.inl t), o2]) (st' := [.inl 0, .inl t, .inr (.inr (some 229))]) rfl ?_
      refine r_iast2 (pc' := 114) (pc0 := 113) (len := 1) rfl (s_229 _) (by first | assumption | omega | (unfold R32 at *; omega) | (unfold R64 at *; omega) | (simp only [R32, R64] at *; omega)) (by decide) rfl ?_
      have hX_20 : XI (v2 (v2 v 228 ((t).toNat) (-1)) 229 ((t).toNat) 0) := XI.put hX_19 (show -1 ≤ 0 ∧ 0 ≤ 3699 from (by first | assumption | omega | (unfold R32 at *; omega) | (unfold R64 at *; omega) | (simp only [R32, R64] at *; omega)))
      refine r_ex 4 (pc' := 120) (lo' := [some (.inr (.inr (some 203))), some (.inl t), o2]) (st' := [.inl (-1), .inl t, .inr (.inr (some 230))]) rfl ?_
      refine r_iast2 (pc' := 121) (pc0 := 120) (len := 1) rfl (s_230 _) (by first | assumption | omega | (unfold R32 at *; omega) | (unfold R64 at *; omega) | (simp only [R32, R64] at *; omega)) (by decide) rfl ?_
      have hX_21 : XI (v2 (v2 (v2 v 228 ((t).toNat) (-1)) 229 ((t).toNat) 0) 230 ((t).toNat) (-1)) := XI.put hX_20 (show -1 ≤ (-1) ∧ (-1) ≤ 299 from (by first | assumption | omega | (unfold R32 at *; omega) | (unfold R64 at *; omega) | (simp only [R32, R64] at *; omega)))
      refine r_ex 4 (pc' := 127) (lo' := [some (.inr (.inr (some 203))), some (.inl t), o2]) (st' := [.inl 0, .inl t, .inr (.inr (some 231))]) rfl ?_
      refine r_iast2 (pc' := 128) (pc0 := 127) (len := 1) rfl (s_231 _) (by first | assumption | omega | (unfold R32 at *; omega) | (unfold R64 at *; omega) | (simp only [R32, R64] at *; omega)) (by decide) rfl ?_
      have hX_22 : XI (v2 (v2 (v2 (v2 v 228 ((t).toNat) (-1)) 229 ((t).toNat) 0) 230 ((t).toNat) (-1)) 231 ((t).toNat) 0) := XI.put hX_21 trivial
      refine r_ex 2 (pc' := 94) (lo' := [some (.inr (.inr (some 203))), some (.inl (t + 1)), o2]) (st' := []) rfl ?_
      refine ih (v2 (v2 (v2 (v2 v 228 ((t).toNat) (-1)) 229 ((t).toNat) 0) 230 ((t).toNat) (-1)) 231 ((t).toNat) 0) (t + 1) _ hX_22 (by first | assumption | omega | (unfold R32 at *; omega) | (unfold R64 at *; omega) | (simp only [R32, R64] at *; omega)) (by first | assumption | omega | (unfold R32 at *; omega) | (unfold R64 at *; omega) | (simp only [R32, R64] at *; omega)) hK

theorem of_mo_goes_94 {rk : Nat} (hk : (rk < 228 ∨ 231 < rk)) : ∀ (f : Nat) {v : VS} {t : Int}, (mo_goes_94 f v t) rk = v rk := by
  intro f
  induction f with
  | zero => intro v t; rfl
  | succ f ih =>
    intro v t
    rw [mo_goes_94]
    by_cases hc_ : t < 9
    · rw [if_pos hc_]
      all_goals (rw [ih, v2_row (by omega), v2_row (by omega), v2_row (by omega), v2_row (by omega)])
    · rw [if_neg hc_]
      all_goals (show v rk = _)
      all_goals rfl
theorem o_mo_goes_94 {rk : Nat} {f : Nat} {v : VS} {t : Int} (hk : (rk < 228 ∨ 231 < rk)) : (mo_goes_94 f v t) rk = v rk := of_mo_goes_94 hk f

theorem l_mo_goes_139 {X : PX} {d b : Nat} {Q : Option PV → Nat → VS → Prop}  : ∀ (f : Nat) (v : VS) (t : Int) (o2 : Option PV), XI v → (0 ≤ t ∧ t ≤ 5) → ((v 203 43) ≤ t) → ((v 203 37) = 0) → (LK v) → (CF v) → (5 < t + f) → (∀ qx1 : Option PV, ∀ qx2 : Option PV, XI (mo_goes_139 f v t) → (((mo_goes_139 f v t) 203 43) ≤ 5) → (((mo_goes_139 f v t) 203 37) = 0) → (LK (mo_goes_139 f v t)) → WV X (d + 1 + 1 + 1 + 1) 247 187 [some (.inr (.inr (some 203))), qx1, qx2] [] b (mo_goes_139 f v t) Q) → WV X (d + 1 + 1 + 1 + 1) 247 139 [some (.inr (.inr (some 203))), some (.inl t), o2] [] b v Q := by
  intro f
  induction f with
  | zero =>
    intro v t o2 hX hi_0 hi_1 hi_2 hi_3 hi_4 hf hK
    exfalso
    omega
  | succ f ih =>
    intro v t o2 hX hi_0 hi_1 hi_2 hi_3 hi_4 hf hK
    rw [mo_goes_139] at hK
    refine r_ex 3 (pc' := 144) (lo' := [some (.inr (.inr (some 203))), some (.inl t), o2]) (st' := [.inl (v 203 33), .inl t]) rfl ?_
    have hb_27 : 0 ≤ (v 203 33) ∧ (v 203 33) ≤ 5 := hX 203 33
    refine n_ic_ge (pc0 := 144) (len := 3) (t := 187) rfl (by first | assumption | omega | (unfold R32 at *; omega) | (unfold R64 at *; omega) | (simp only [R32, R64] at *; omega)) (by first | assumption | omega | (unfold R32 at *; omega) | (unfold R64 at *; omega) | (simp only [R32, R64] at *; omega)) (fun h_144 => ?_) (fun h_144 => ?_)
    · show WV _ _ _ 187 _ _ _ _ _
      rw [if_neg h_144] at hK
      exact hK _ _ hX (show (v 203 43) ≤ 5 from (by first | assumption | omega | (unfold R32 at *; omega) | (unfold R64 at *; omega) | (simp only [R32, R64] at *; omega))) (show (v 203 37) = 0 from (by first | assumption | omega | (unfold R32 at *; omega) | (unfold R64 at *; omega) | (simp only [R32, R64] at *; omega))) (hi_3)
    · show WV _ _ _ 147 _ _ _ _ _
      rw [if_pos h_144] at hK
      refine r_ex 8 (pc' := 157) (lo' := [some (.inr (.inr (some 203))), some (.inl t), o2]) (st' := [.inl ((3 * t) + 1), .inr (.inr (some 213)), .inr (.inr (some 203))]) rfl ?_
      refine r_iald2 (j := 0) (x := (v 213 ((((3 * t) + 1)).toNat))) (pc' := 158) (pc0 := 157) (len := 1) rfl (s_213 _) (by first | assumption | omega | (unfold R32 at *; omega) | (unfold R64 at *; omega) | (simp only [R32, R64] at *; omega)) (by decide) rfl rfl ?_
      have hb_28 : 0 ≤ (v 213 ((((3 * t) + 1)).toNat)) ∧ (v 213 ((((3 * t) + 1)).toNat)) ≤ 299 := hX 213 ((((3 * t) + 1)).toNat)
      have hs1 := CF.st (hi_4) (k := t) (by omega)
      have hs2 := CF.sth (hi_4) (k := t) (by omega)
      refine r_ex 5 (pc' := 165) (lo' := [some (.inr (.inr (some 203))), some (.inl t), o2]) (st' := [.inl (3 * t), .inr (.inr (some 213)), .inl (v 213 ((((3 * t) + 1)).toNat)), .inr (.inr (some 203))]) rfl ?_
      refine r_iald2 (j := 0) (x := (v 213 (((3 * t)).toNat))) (pc' := 166) (pc0 := 165) (len := 1) rfl (s_213 _) (by first | assumption | omega | (unfold R32 at *; omega) | (unfold R64 at *; omega) | (simp only [R32, R64] at *; omega)) (by decide) rfl rfl ?_
      have hb_29 : 0 ≤ (v 213 (((3 * t)).toNat)) ∧ (v 213 (((3 * t)).toNat)) ≤ 299 := hX 213 (((3 * t)).toNat)
      refine r_ex 7 (pc' := 175) (lo' := [some (.inr (.inr (some 203))), some (.inl t), o2]) (st' := [.inl ((3 * t) + 2), .inr (.inr (some 213)), .inl (v 213 (((3 * t)).toNat)), .inl (v 213 ((((3 * t) + 1)).toNat)), .inr (.inr (some 203))]) rfl ?_
      refine r_iald2 (j := 0) (x := (v 213 ((((3 * t) + 2)).toNat))) (pc' := 176) (pc0 := 175) (len := 1) rfl (s_213 _) (by first | assumption | omega | (unfold R32 at *; omega) | (unfold R64 at *; omega) | (simp only [R32, R64] at *; omega)) (by decide) rfl rfl ?_
      have hb_30 : 0 ≤ (v 213 ((((3 * t) + 2)).toNat)) ∧ (v 213 ((((3 * t) + 2)).toNat)) ≤ 299 := hX 213 ((((3 * t) + 2)).toNat)
      refine r_ex 2 (pc' := 178) (lo' := [some (.inr (.inr (some 203))), some (.inl t), o2]) (st' := [.inl (-1), .inl (-1), .inl (v 213 ((((3 * t) + 2)).toNat)), .inl (v 213 (((3 * t)).toNat)), .inl (v 213 ((((3 * t) + 1)).toNat)), .inr (.inr (some 203))]) rfl ?_
      have hp_31 : 0 ≤ (v 213 ((((3 * t) + 1)).toNat)) ∧ (v 213 ((((3 * t) + 1)).toNat)) < 300 := (by first | assumption | omega | (unfold R32 at *; omega) | (unfold R64 at *; omega) | (simp only [R32, R64] at *; omega))
      have hp_32 : 0 ≤ (v 213 (((3 * t)).toNat)) ∧ (v 213 (((3 * t)).toNat)) ≤ 8 := (by first | assumption | omega | (unfold R32 at *; omega) | (unfold R64 at *; omega) | (simp only [R32, R64] at *; omega))
      have hp_33 : -1 ≤ (v 213 ((((3 * t) + 2)).toNat)) ∧ (v 213 ((((3 * t) + 2)).toNat)) ≤ 3699 := (by first | assumption | omega | (unfold R32 at *; omega) | (unfold R64 at *; omega) | (simp only [R32, R64] at *; omega))
      have hp_34 : -1 ≤ ((-1) : Int) ∧ ((-1) : Int) ≤ 299 := (by first | assumption | omega | (unfold R32 at *; omega) | (unfold R64 at *; omega) | (simp only [R32, R64] at *; omega))
      have hp_35 : -1 ≤ ((-1) : Int) ∧ ((-1) : Int) ≤ 11 := (by first | assumption | omega | (unfold R32 at *; omega) | (unfold R64 at *; omega) | (simp only [R32, R64] at *; omega))
      have hp_36 : (v 203 43) < 3700 := (show (v 203 43) < 3700 from (by first | assumption | omega | (unfold R32 at *; omega) | (unfold R64 at *; omega) | (simp only [R32, R64] at *; omega)))
      have hp_37 : LK v := hi_3
      refine r_call (m := 248) (args := [.inr (.inr (some 203)), .inl (v 213 ((((3 * t) + 1)).toNat)), .inl (v 213 (((3 * t)).toNat)), .inl (v 213 ((((3 * t) + 2)).toNat)), .inl (-1), .inl (-1)]) (n' := 247) (pc' := 181) (lo' := [some (.inr (.inr (some 203))), some (.inl t), o2]) (st' := []) (I := .invokevirtual 248) (pc0 := 178) (len := 3) rfl rfl rfl (e_mo_puts hX hp_31 hp_32 hp_33 hp_34 hp_35 hp_36 hp_37) ?_
      show WV _ _ _ 181 _ [] _ (mo_puts v (v 213 ((((3 * t) + 1)).toNat)) (v 213 (((3 * t)).toNat)) (v 213 ((((3 * t) + 2)).toNat)) (-1) (-1)) _
      have hX_38 : XI (mo_puts v (v 213 ((((3 * t) + 1)).toNat)) (v 213 (((3 * t)).toNat)) (v 213 ((((3 * t) + 2)).toNat)) (-1) (-1)) := i_mo_puts (v := v) (t := (v 213 ((((3 * t) + 1)).toNat))) (c := (v 213 (((3 * t)).toNat))) (h := (v 213 ((((3 * t) + 2)).toNat))) (y := (-1)) (e := (-1)) hX hp_31 hp_32 hp_33 hp_34 hp_35 hp_36 hp_37
      have hb_39 : ((mo_puts v (v 213 ((((3 * t) + 1)).toNat)) (v 213 (((3 * t)).toNat)) (v 213 ((((3 * t) + 2)).toNat)) (-1) (-1)) 203 43) = (v 203 43) + 1 := n0_mo_puts (v := v) (t := (v 213 ((((3 * t) + 1)).toNat))) (c := (v 213 (((3 * t)).toNat))) (h := (v 213 ((((3 * t) + 2)).toNat))) (y := (-1)) (e := (-1)) hX hp_31 hp_32 hp_33 hp_34 hp_35 hp_36 hp_37
      have hb_40 : ((mo_puts v (v 213 ((((3 * t) + 1)).toNat)) (v 213 (((3 * t)).toNat)) (v 213 ((((3 * t) + 2)).toNat)) (-1) (-1)) 203 37) = (v 203 37) := n1_mo_puts (v := v) (t := (v 213 ((((3 * t) + 1)).toNat))) (c := (v 213 (((3 * t)).toNat))) (h := (v 213 ((((3 * t) + 2)).toNat))) (y := (-1)) (e := (-1)) hX hp_31 hp_32 hp_33 hp_34 hp_35 hp_36 hp_37
      have hl_41 := n2_mo_puts (v := v) (t := (v 213 ((((3 * t) + 1)).toNat))) (c := (v 213 (((3 * t)).toNat))) (h := (v 213 ((((3 * t) + 2)).toNat))) (y := (-1)) (e := (-1)) hX hp_31 hp_32 hp_33 hp_34 hp_35 hp_36 hp_37
      refine r_ex 2 (pc' := 139) (lo' := [some (.inr (.inr (some 203))), some (.inl (t + 1)), o2]) (st' := []) rfl ?_
      refine ih (mo_puts v (v 213 ((((3 * t) + 1)).toNat)) (v 213 (((3 * t)).toNat)) (v 213 ((((3 * t) + 2)).toNat)) (-1) (-1)) (t + 1) _ hX_38 (by first | assumption | omega | (unfold R32 at *; omega) | (unfold R64 at *; omega) | (simp only [R32, R64] at *; omega)) (show ((mo_puts v (v 213 ((((3 * t) + 1)).toNat)) (v 213 (((3 * t)).toNat)) (v 213 ((((3 * t) + 2)).toNat)) (-1) (-1)) 203 43) ≤ (t + 1) from (by first | assumption | omega | (unfold R32 at *; omega) | (unfold R64 at *; omega) | (simp only [R32, R64] at *; omega))) (show ((mo_puts v (v 213 ((((3 * t) + 1)).toNat)) (v 213 (((3 * t)).toNat)) (v 213 ((((3 * t) + 2)).toNat)) (-1) (-1)) 203 37) = 0 from (by first | assumption | omega | (unfold R32 at *; omega) | (unfold R64 at *; omega) | (simp only [R32, R64] at *; omega))) (hl_41) (show CF (mo_puts v (v 213 ((((3 * t) + 1)).toNat)) (v 213 (((3 * t)).toNat)) (v 213 ((((3 * t) + 2)).toNat)) (-1) (-1)) from (show CF (mo_puts v (v 213 ((((3 * t) + 1)).toNat)) (v 213 (((3 * t)).toNat)) (v 213 ((((3 * t) + 2)).toNat)) (-1) (-1)) from CF.of hi_4 (fun k h1 h2 => by rw [o_mo_puts (by omega)]))) (by first | assumption | omega | (unfold R32 at *; omega) | (unfold R64 at *; omega) | (simp only [R32, R64] at *; omega)) hK

theorem of_mo_goes_139 {rk : Nat} (hk : (rk < 203 ∨ 203 < rk) ∧ (rk < 225 ∨ 227 < rk)) : ∀ (f : Nat) {v : VS} {t : Int}, (mo_goes_139 f v t) rk = v rk := by
  intro f
  induction f with
  | zero => intro v t; rfl
  | succ f ih =>
    intro v t
    rw [mo_goes_139]
    by_cases hc_ : t < (v 203 33)
    · rw [if_pos hc_]
      all_goals (rw [ih, o_mo_puts (by omega)])
    · rw [if_neg hc_]
      all_goals (show v rk = _)
      all_goals rfl
theorem o_mo_goes_139 {rk : Nat} {f : Nat} {v : VS} {t : Int} (hk : (rk < 203 ∨ 203 < rk) ∧ (rk < 225 ∨ 227 < rk)) : (mo_goes_139 f v t) rk = v rk := of_mo_goes_139 hk f

theorem l_mo_goes_201 {X : PX} {d b : Nat} {Q : Option PV → Nat → VS → Prop}  : ∀ (f : Nat) (v : VS) (t : Int) (c : Int), XI v → (0 ≤ t ∧ t ≤ 299) → (0 ≤ c ∧ c ≤ 9) → ((v 203 43) ≤ 5 + 12 * (v 203 37)) → (LK v) → (CF v) → (9 < c + f) → (∀ qx2 : Option PV, XI (mo_goes_201 f v t c) → (((mo_goes_201 f v t c) 203 43) ≤ 5 + 12 * ((mo_goes_201 f v t c) 203 37)) → (LK (mo_goes_201 f v t c)) → WV X (d + 1 + 1 + 1 + 1) 247 243 [some (.inr (.inr (some 203))), some (.inl t), qx2] [] b (mo_goes_201 f v t c) Q) → WV X (d + 1 + 1 + 1 + 1) 247 201 [some (.inr (.inr (some 203))), some (.inl t), some (.inl c)] [] b v Q := by
  intro f
  induction f with
  | zero =>
    intro v t c hX hi_0 hi_1 hi_2 hi_3 hi_4 hf hK
    exfalso
    omega
  | succ f ih =>
    intro v t c hX hi_0 hi_1 hi_2 hi_3 hi_4 hf hK
    rw [mo_goes_201] at hK
    refine r_ex 4 (pc' := 207) (lo' := [some (.inr (.inr (some 203))), some (.inl t), some (.inl c)]) (st' := [.inl 0, .inr (.inr (some 210)), .inl c]) rfl ?_
    refine r_iald2 (j := 0) (x := (v 210 0)) (pc' := 208) (pc0 := 207) (len := 1) rfl (s_210 _) (by first | assumption | omega | (unfold R32 at *; omega) | (unfold R64 at *; omega) | (simp only [R32, R64] at *; omega)) (by decide) rfl rfl ?_
    have hb_44 : 0 ≤ (v 210 0) ∧ (v 210 0) ≤ 9 := hX 210 0
    refine n_ic_ge (pc0 := 208) (len := 3) (t := 243) rfl (by first | assumption | omega | (unfold R32 at *; omega) | (unfold R64 at *; omega) | (simp only [R32, R64] at *; omega)) (by first | assumption | omega | (unfold R32 at *; omega) | (unfold R64 at *; omega) | (simp only [R32, R64] at *; omega)) (fun h_208 => ?_) (fun h_208 => ?_)
    · show WV _ _ _ 243 _ _ _ _ _
      rw [if_neg h_208] at hK
      exact hK _ hX (show (v 203 43) ≤ 5 + 12 * (v 203 37) from (by first | assumption | omega | (unfold R32 at *; omega) | (unfold R64 at *; omega) | (simp only [R32, R64] at *; omega))) (hi_3)
    · show WV _ _ _ 211 _ _ _ _ _
      rw [if_pos h_208] at hK
      refine r_ex 3 (pc' := 218) (lo' := [some (.inr (.inr (some 203))), some (.inl t), some (.inl c)]) (st' := [.inl 300, .inl (v 203 37)]) rfl ?_
      have hb_45 : 0 ≤ (v 203 37) ∧ (v 203 37) ≤ 300 := hX 203 37
      refine n_ic_ge (pc0 := 218) (len := 3) (t := 243) rfl (by first | assumption | omega | (unfold R32 at *; omega) | (unfold R64 at *; omega) | (simp only [R32, R64] at *; omega)) (by first | assumption | omega | (unfold R32 at *; omega) | (unfold R64 at *; omega) | (simp only [R32, R64] at *; omega)) (fun h_218 => ?_) (fun h_218 => ?_)
      · show WV _ _ _ 243 _ _ _ _ _
        rw [if_neg h_218] at hK
        exact hK _ hX (show (v 203 43) ≤ 5 + 12 * (v 203 37) from (by first | assumption | omega | (unfold R32 at *; omega) | (unfold R64 at *; omega) | (simp only [R32, R64] at *; omega))) (hi_3)
      · show WV _ _ _ 221 _ _ _ _ _
        rw [if_pos h_218] at hK
        refine r_ex 3 (pc' := 226) (lo' := [some (.inr (.inr (some 203))), some (.inl t), some (.inl c)]) (st' := [.inl t, .inr (.inr (some 226))]) rfl ?_
        refine r_iald2 (j := 0) (x := (v 226 ((t).toNat))) (pc' := 227) (pc0 := 226) (len := 1) rfl (s_226 _) (by first | assumption | omega | (unfold R32 at *; omega) | (unfold R64 at *; omega) | (simp only [R32, R64] at *; omega)) (by decide) rfl rfl ?_
        have hb_46 : -1 ≤ (v 226 ((t).toNat)) ∧ (v 226 ((t).toNat)) ≤ 3699 := hX 226 ((t).toNat)
        refine r_ex 1 (pc' := 228) (lo' := [some (.inr (.inr (some 203))), some (.inl t), some (.inl c)]) (st' := [.inl (-1), .inl (v 226 ((t).toNat))]) rfl ?_
        refine n_ic_eq (pc0 := 228) (len := 3) (t := 237) rfl (by first | assumption | omega | (unfold R32 at *; omega) | (unfold R64 at *; omega) | (simp only [R32, R64] at *; omega)) (by first | assumption | omega | (unfold R32 at *; omega) | (unfold R64 at *; omega) | (simp only [R32, R64] at *; omega)) (fun h_228 => ?_) (fun h_228 => ?_)
        · show WV _ _ _ 237 _ _ _ _ _
          rw [if_pos h_228] at hK
          refine r_ex 2 (pc' := 201) (lo' := [some (.inr (.inr (some 203))), some (.inl t), some (.inl (c + 1))]) (st' := []) rfl ?_
          refine ih v t (c + 1)  hX (by first | assumption | omega | (unfold R32 at *; omega) | (unfold R64 at *; omega) | (simp only [R32, R64] at *; omega)) (by first | assumption | omega | (unfold R32 at *; omega) | (unfold R64 at *; omega) | (simp only [R32, R64] at *; omega)) (show (v 203 43) ≤ 5 + 12 * (v 203 37) from (by first | assumption | omega | (unfold R32 at *; omega) | (unfold R64 at *; omega) | (simp only [R32, R64] at *; omega))) (hi_3) (hi_4) (by first | assumption | omega | (unfold R32 at *; omega) | (unfold R64 at *; omega) | (simp only [R32, R64] at *; omega)) hK
        · show WV _ _ _ 231 _ _ _ _ _
          rw [if_neg h_228] at hK
          refine r_ex 3 (pc' := 234) (lo' := [some (.inr (.inr (some 203))), some (.inl t), some (.inl c)]) (st' := [.inl c, .inl t, .inr (.inr (some 203))]) rfl ?_
          have hp_47 : 0 ≤ t ∧ t < 300 := (by first | assumption | omega | (unfold R32 at *; omega) | (unfold R64 at *; omega) | (simp only [R32, R64] at *; omega))
          have hp_48 : 0 ≤ c ∧ c ≤ 8 := (by first | assumption | omega | (unfold R32 at *; omega) | (unfold R64 at *; omega) | (simp only [R32, R64] at *; omega))
          have hp_49 : (v 203 37) < 300 := (show (v 203 37) < 300 from (by first | assumption | omega | (unfold R32 at *; omega) | (unfold R64 at *; omega) | (simp only [R32, R64] at *; omega)))
          have hp_50 : (v 203 43) ≤ 5 + 12 * (v 203 37) := (show (v 203 43) ≤ 5 + 12 * (v 203 37) from (by first | assumption | omega | (unfold R32 at *; omega) | (unfold R64 at *; omega) | (simp only [R32, R64] at *; omega)))
          have hp_51 : LK v := hi_3
          have hp_52 : CF v := hi_4
          refine r_call (m := 249) (args := [.inr (.inr (some 203)), .inl t, .inl c]) (n' := 247) (pc' := 237) (lo' := [some (.inr (.inr (some 203))), some (.inl t), some (.inl c)]) (st' := []) (I := .invokevirtual 249) (pc0 := 234) (len := 3) rfl rfl rfl (e_mo_falls hX hp_47 hp_48 hp_49 hp_50 hp_51 hp_52) ?_
          show WV _ _ _ 237 _ [] _ (mo_falls v t c) _
          have hX_53 : XI (mo_falls v t c) := i_mo_falls (v := v) (t := t) (c := c) hX hp_47 hp_48 hp_49 hp_50 hp_51 hp_52
          have hb_54 : ((mo_falls v t c) 203 43) ≤ 5 + 12 * ((mo_falls v t c) 203 37) := n0_mo_falls (v := v) (t := t) (c := c) hX hp_47 hp_48 hp_49 hp_50 hp_51 hp_52
          have hl_55 := n1_mo_falls (v := v) (t := t) (c := c) hX hp_47 hp_48 hp_49 hp_50 hp_51 hp_52
          refine r_ex 2 (pc' := 201) (lo' := [some (.inr (.inr (some 203))), some (.inl t), some (.inl (c + 1))]) (st' := []) rfl ?_
          refine ih (mo_falls v t c) t (c + 1)  hX_53 (by first | assumption | omega | (unfold R32 at *; omega) | (unfold R64 at *; omega) | (simp only [R32, R64] at *; omega)) (by first | assumption | omega | (unfold R32 at *; omega) | (unfold R64 at *; omega) | (simp only [R32, R64] at *; omega)) (show ((mo_falls v t c) 203 43) ≤ 5 + 12 * ((mo_falls v t c) 203 37) from (by first | assumption | omega | (unfold R32 at *; omega) | (unfold R64 at *; omega) | (simp only [R32, R64] at *; omega))) (hl_55) (show CF (mo_falls v t c) from (show CF (mo_falls v t c) from CF.of hi_4 (fun k h1 h2 => by rw [o_mo_falls (by omega)]))) (by first | assumption | omega | (unfold R32 at *; omega) | (unfold R64 at *; omega) | (simp only [R32, R64] at *; omega)) hK

theorem of_mo_goes_201 {rk : Nat} (hk : (rk < 203 ∨ 203 < rk) ∧ (rk < 220 ∨ 231 < rk)) : ∀ (f : Nat) {v : VS} {t : Int} {c : Int}, (mo_goes_201 f v t c) rk = v rk := by
  intro f
  induction f with
  | zero => intro v t c; rfl
  | succ f ih =>
    intro v t c
    rw [mo_goes_201]
    by_cases hc_ : c < (v 210 0)
    · rw [if_pos hc_]
      by_cases hc_ : (v 203 37) < 300
      · rw [if_pos hc_]
        by_cases hc_ : (v 226 ((t).toNat)) = (-1)
        · rw [if_pos hc_]
          all_goals (rw [ih])
        · rw [if_neg hc_]
          all_goals (rw [ih, o_mo_falls (by omega)])
      · rw [if_neg hc_]
        all_goals (show v rk = _)
        all_goals rfl
    · rw [if_neg hc_]
      all_goals (show v rk = _)
      all_goals rfl
theorem o_mo_goes_201 {rk : Nat} {f : Nat} {v : VS} {t : Int} {c : Int} (hk : (rk < 203 ∨ 203 < rk) ∧ (rk < 220 ∨ 231 < rk)) : (mo_goes_201 f v t c) rk = v rk := of_mo_goes_201 hk f

theorem l_mo_goes_189 {X : PX} {d b : Nat} {Q : Option PV → Nat → VS → Prop}  : ∀ (f : Nat) (v : VS) (t : Int) (o2 : Option PV), XI v → (0 ≤ t ∧ t ≤ 300) → ((v 203 43) ≤ 5 + 12 * (v 203 37)) → (LK v) → (CF v) → (300 < t + f) → (XI (mo_goes_189 f v t) → Q none b (mo_goes_189 f v t)) → WV X (d + 1 + 1 + 1 + 1) 247 189 [some (.inr (.inr (some 203))), some (.inl t), o2] [] b v Q := by
  intro f
  induction f with
  | zero =>
    intro v t o2 hX hi_0 hi_1 hi_2 hi_3 hf hQ
    exfalso
    omega
  | succ f ih =>
    intro v t o2 hX hi_0 hi_1 hi_2 hi_3 hf hQ
    rw [mo_goes_189] at hQ
    refine r_ex 4 (pc' := 195) (lo' := [some (.inr (.inr (some 203))), some (.inl t), o2]) (st' := [.inl 1, .inr (.inr (some 210)), .inl t]) rfl ?_
    refine r_iald2 (j := 0) (x := (v 210 1)) (pc' := 196) (pc0 := 195) (len := 1) rfl (s_210 _) (by first | assumption | omega | (unfold R32 at *; omega) | (unfold R64 at *; omega) | (simp only [R32, R64] at *; omega)) (by decide) rfl rfl ?_
    have hb_43 : 0 ≤ (v 210 1) ∧ (v 210 1) ≤ 300 := hX 210 1
    refine n_ic_ge (pc0 := 196) (len := 3) (t := 249) rfl (by first | assumption | omega | (unfold R32 at *; omega) | (unfold R64 at *; omega) | (simp only [R32, R64] at *; omega)) (by first | assumption | omega | (unfold R32 at *; omega) | (unfold R64 at *; omega) | (simp only [R32, R64] at *; omega)) (fun h_196 => ?_) (fun h_196 => ?_)
    · show WV _ _ _ 249 _ _ _ _ _
      rw [if_neg h_196] at hQ
      refine r_ret (rr := none) (I := .return_) (pc0 := 249) (len := 1) rfl rfl ?_
      exact hQ hX 
    · show WV _ _ _ 199 _ _ _ _ _
      rw [if_pos h_196] at hQ
      refine r_ex 2 (pc' := 201) (lo' := [some (.inr (.inr (some 203))), some (.inl t), some (.inl 0)]) (st' := []) rfl ?_
      refine l_mo_goes_201 10 v t 0  hX (by first | assumption | omega | (unfold R32 at *; omega) | (unfold R64 at *; omega) | (simp only [R32, R64] at *; omega)) (by first | assumption | omega | (unfold R32 at *; omega) | (unfold R64 at *; omega) | (simp only [R32, R64] at *; omega)) (show (v 203 43) ≤ 5 + 12 * (v 203 37) from (by first | assumption | omega | (unfold R32 at *; omega) | (unfold R64 at *; omega) | (simp only [R32, R64] at *; omega))) (hi_2) (hi_3) (by first | assumption | omega | (unfold R32 at *; omega) | (unfold R64 at *; omega) | (simp only [R32, R64] at *; omega)) (fun o2_56 hX_56 hv_56_0 hv_56_1 => ?_)
      show WV _ _ _ 243 _ _ _ _ _
      refine r_ex 2 (pc' := 189) (lo' := [some (.inr (.inr (some 203))), some (.inl (t + 1)), o2_56]) (st' := []) rfl ?_
      refine ih (mo_goes_201 10 v t 0) (t + 1) _ hX_56 (by first | assumption | omega | (unfold R32 at *; omega) | (unfold R64 at *; omega) | (simp only [R32, R64] at *; omega)) (show ((mo_goes_201 10 v t 0) 203 43) ≤ 5 + 12 * ((mo_goes_201 10 v t 0) 203 37) from (by first | assumption | omega | (unfold R32 at *; omega) | (unfold R64 at *; omega) | (simp only [R32, R64] at *; omega))) (hv_56_1) (show CF (mo_goes_201 10 v t 0) from (show CF (mo_goes_201 10 v t 0) from CF.of hi_3 (fun k h1 h2 => by rw [o_mo_goes_201 (by omega)]))) (by first | assumption | omega | (unfold R32 at *; omega) | (unfold R64 at *; omega) | (simp only [R32, R64] at *; omega)) hQ

theorem of_mo_goes_189 {rk : Nat} (hk : (rk < 203 ∨ 203 < rk) ∧ (rk < 220 ∨ 231 < rk)) : ∀ (f : Nat) {v : VS} {t : Int}, (mo_goes_189 f v t) rk = v rk := by
  intro f
  induction f with
  | zero => intro v t; rfl
  | succ f ih =>
    intro v t
    rw [mo_goes_189]
    by_cases hc_ : t < (v 210 1)
    · rw [if_pos hc_]
      all_goals (rw [ih, o_mo_goes_201 (by omega)])
    · rw [if_neg hc_]
      all_goals (show v rk = _)
      all_goals rfl
theorem o_mo_goes_189 {rk : Nat} {f : Nat} {v : VS} {t : Int} (hk : (rk < 203 ∨ 203 < rk) ∧ (rk < 220 ∨ 231 < rk)) : (mo_goes_189 f v t) rk = v rk := of_mo_goes_189 hk f

theorem l_mo_goes_134 {X : PX} {d b : Nat} {Q : Option PV → Nat → VS → Prop}  : ∀ (v : VS)  (o1 : Option PV) (o2 : Option PV), XI v → ((v 203 37) = 0) → ((v 203 43) = 0) → (CF v) → (HN v) → (XI (mo_goes_134 v) → Q none b (mo_goes_134 v)) → WV X (d + 1 + 1 + 1 + 1) 247 134 [some (.inr (.inr (some 203))), o1, o2] [] b v Q := by
  intro v o1 o2 hX hi_0 hi_1 hi_2 hi_3 hQ
  rw [mo_goes_134] at hQ
  refine r_ex 3 (pc' := 139) (lo' := [some (.inr (.inr (some 203))), some (.inl (v 203 32)), o2]) (st' := []) rfl ?_
  have hb_26 : 0 ≤ (v 203 32) ∧ (v 203 32) ≤ 4 := hX 203 32
  refine l_mo_goes_139 6 v (v 203 32) _ hX (by first | assumption | omega | (unfold R32 at *; omega) | (unfold R64 at *; omega) | (simp only [R32, R64] at *; omega)) (show (v 203 43) ≤ (v 203 32) from (by first | assumption | omega | (unfold R32 at *; omega) | (unfold R64 at *; omega) | (simp only [R32, R64] at *; omega))) (show (v 203 37) = 0 from (by first | assumption | omega | (unfold R32 at *; omega) | (unfold R64 at *; omega) | (simp only [R32, R64] at *; omega))) (LK.init (by omega) (hi_3)) (hi_2) (by first | assumption | omega | (unfold R32 at *; omega) | (unfold R64 at *; omega) | (simp only [R32, R64] at *; omega)) (fun o1_42 o2_42 hX_42 hv_42_0 hv_42_1 hv_42_2 => ?_)
  show WV _ _ _ 187 _ _ _ _ _
  refine r_ex 2 (pc' := 189) (lo' := [some (.inr (.inr (some 203))), some (.inl 0), o2_42]) (st' := []) rfl ?_
  exact l_mo_goes_189 301 (mo_goes_139 6 v (v 203 32)) 0 _ hX_42 (by first | assumption | omega | (unfold R32 at *; omega) | (unfold R64 at *; omega) | (simp only [R32, R64] at *; omega)) (show ((mo_goes_139 6 v (v 203 32)) 203 43) ≤ 5 + 12 * ((mo_goes_139 6 v (v 203 32)) 203 37) from (by first | assumption | omega | (unfold R32 at *; omega) | (unfold R64 at *; omega) | (simp only [R32, R64] at *; omega))) (hv_42_2) (show CF (mo_goes_139 6 v (v 203 32)) from (show CF (mo_goes_139 6 v (v 203 32)) from CF.of hi_2 (fun k h1 h2 => by rw [o_mo_goes_139 (by omega)]))) (by first | assumption | omega | (unfold R32 at *; omega) | (unfold R64 at *; omega) | (simp only [R32, R64] at *; omega)) hQ

theorem o_mo_goes_134 {rk : Nat} {v : VS}  (hk : (rk < 203 ∨ 203 < rk) ∧ (rk < 220 ∨ 231 < rk)) : (mo_goes_134 v ) rk = v rk := by
  unfold mo_goes_134
  all_goals (rw [o_mo_goes_189 (by omega), o_mo_goes_139 (by omega)])

theorem l_mo_goes_92 {X : PX} {d b : Nat} {Q : Option PV → Nat → VS → Prop}  : ∀ (v : VS)  (o1 : Option PV) (o2 : Option PV), XI v → ((v 203 37) = 0) → ((v 203 43) = 0) → (CF v) → (HN v) → (XI (mo_goes_92 v) → Q none b (mo_goes_92 v)) → WV X (d + 1 + 1 + 1 + 1) 247 92 [some (.inr (.inr (some 203))), o1, o2] [] b v Q := by
  intro v o1 o2 hX hi_0 hi_1 hi_2 hi_3 hQ
  rw [mo_goes_92] at hQ
  refine r_ex 2 (pc' := 94) (lo' := [some (.inr (.inr (some 203))), some (.inl 0), o2]) (st' := []) rfl ?_
  refine l_mo_goes_94 10 v 0 _ hX (by first | assumption | omega | (unfold R32 at *; omega) | (unfold R64 at *; omega) | (simp only [R32, R64] at *; omega)) (by first | assumption | omega | (unfold R32 at *; omega) | (unfold R64 at *; omega) | (simp only [R32, R64] at *; omega)) (fun o1_23 o2_23 hX_23  => ?_)
  have hb_24 : (mo_goes_94 10 v 0) 203 37 = (v 203 37) := by rw [o_mo_goes_94 (by omega)] <;> rfl
  have hb_25 : (mo_goes_94 10 v 0) 203 43 = (v 203 43) := by rw [o_mo_goes_94 (by omega)] <;> rfl
  show WV _ _ _ 134 _ _ _ _ _
  exact l_mo_goes_134  (mo_goes_94 10 v 0)  _ _ hX_23 (show ((mo_goes_94 10 v 0) 203 37) = 0 from (by first | assumption | omega | (unfold R32 at *; omega) | (unfold R64 at *; omega) | (simp only [R32, R64] at *; omega))) (show ((mo_goes_94 10 v 0) 203 43) = 0 from (by first | assumption | omega | (unfold R32 at *; omega) | (unfold R64 at *; omega) | (simp only [R32, R64] at *; omega))) (show CF (mo_goes_94 10 v 0) from (show CF (mo_goes_94 10 v 0) from CF.of hi_2 (fun k h1 h2 => by rw [o_mo_goes_94 (by omega)]))) (show HN (mo_goes_94 10 v 0) from HN.of hi_3 (by rw [o_mo_goes_94 (by omega)])) hQ

theorem o_mo_goes_92 {rk : Nat} {v : VS}  (hk : (rk < 203 ∨ 203 < rk) ∧ (rk < 220 ∨ 231 < rk)) : (mo_goes_92 v ) rk = v rk := by
  unfold mo_goes_92
  all_goals (rw [o_mo_goes_134 (by omega), o_mo_goes_94 (by omega)])

theorem l_mo_goes_70 {X : PX} {d b : Nat} {Q : Option PV → Nat → VS → Prop}  : ∀ (v : VS)  (o1 : Option PV) (o2 : Option PV), XI v → ((v 203 37) = 0) → ((v 203 43) = 0) → (CF v) → (XI (mo_goes_70 v) → Q none b (mo_goes_70 v)) → WV X (d + 1 + 1 + 1 + 1) 247 70 [some (.inr (.inr (some 203))), o1, o2] [] b v Q := by
  intro v o1 o2 hX hi_0 hi_1 hi_2 hQ
  rw [mo_goes_70] at hQ
  refine r_ex 2 (pc' := 72) (lo' := [some (.inr (.inr (some 203))), some (.inl 0), o2]) (st' := []) rfl ?_
  refine l_mo_goes_72 301 v 0 _ hX (by first | assumption | omega | (unfold R32 at *; omega) | (unfold R64 at *; omega) | (simp only [R32, R64] at *; omega)) (by first | assumption | exact HQ.nil | exact HQ.step hi_1 (by omega)) (by first | assumption | omega | (unfold R32 at *; omega) | (unfold R64 at *; omega) | (simp only [R32, R64] at *; omega)) (fun o1_16 o2_16 hX_16 hv_16_0 => ?_)
  have hb_17 : (mo_goes_72 301 v 0) 203 37 = (v 203 37) := by rw [o_mo_goes_72 (by omega)] <;> rfl
  have hb_18 : (mo_goes_72 301 v 0) 203 43 = (v 203 43) := by rw [o_mo_goes_72 (by omega)] <;> rfl
  show WV _ _ _ 92 _ _ _ _ _
  exact l_mo_goes_92  (mo_goes_72 301 v 0)  _ _ hX_16 (by rw [o_mo_goes_72 (by omega)]; exact hi_0) (by rw [o_mo_goes_72 (by omega)]; exact hi_1) (show CF (mo_goes_72 301 v 0) from (show CF (mo_goes_72 301 v 0) from CF.of hi_2 (fun k h1 h2 => by rw [o_mo_goes_72 (by omega)]))) (hv_16_0) hQ

theorem o_mo_goes_70 {rk : Nat} {v : VS}  (hk : (rk < 203 ∨ 203 < rk) ∧ (rk < 220 ∨ 231 < rk)) : (mo_goes_70 v ) rk = v rk := by
  unfold mo_goes_70
  all_goals (rw [o_mo_goes_92 (by omega), o_mo_goes_72 (by omega)])

theorem l_mo_goes_35 {X : PX} {d b : Nat} {Q : Option PV → Nat → VS → Prop}  : ∀ (v : VS)  (o1 : Option PV) (o2 : Option PV), XI v → ((v 203 37) = 0) → ((v 203 43) = 0) → (CF v) → (XI (mo_goes_35 v) → Q none b (mo_goes_35 v)) → WV X (d + 1 + 1 + 1 + 1) 247 35 [some (.inr (.inr (some 203))), o1, o2] [] b v Q := by
  intro v o1 o2 hX hi_0 hi_1 hi_2 hQ
  rw [mo_goes_35] at hQ
  refine r_ex 2 (pc' := 37) (lo' := [some (.inr (.inr (some 203))), some (.inl 0), o2]) (st' := []) rfl ?_
  refine l_mo_goes_37 13 v 0 _ hX (by first | assumption | omega | (unfold R32 at *; omega) | (unfold R64 at *; omega) | (simp only [R32, R64] at *; omega)) (by first | assumption | omega | (unfold R32 at *; omega) | (unfold R64 at *; omega) | (simp only [R32, R64] at *; omega)) (fun o1_12 o2_12 hX_12  => ?_)
  have hb_13 : (mo_goes_37 13 v 0) 203 37 = (v 203 37) := by rw [o_mo_goes_37 (by omega)] <;> rfl
  have hb_14 : (mo_goes_37 13 v 0) 203 43 = (v 203 43) := by rw [o_mo_goes_37 (by omega)] <;> rfl
  show WV _ _ _ 70 _ _ _ _ _
  exact l_mo_goes_70  (mo_goes_37 13 v 0)  _ _ hX_12 (show ((mo_goes_37 13 v 0) 203 37) = 0 from (by first | assumption | omega | (unfold R32 at *; omega) | (unfold R64 at *; omega) | (simp only [R32, R64] at *; omega))) (show ((mo_goes_37 13 v 0) 203 43) = 0 from (by first | assumption | omega | (unfold R32 at *; omega) | (unfold R64 at *; omega) | (simp only [R32, R64] at *; omega))) (show CF (mo_goes_37 13 v 0) from (show CF (mo_goes_37 13 v 0) from CF.of hi_2 (fun k h1 h2 => by rw [o_mo_goes_37 (by omega)]))) hQ

theorem o_mo_goes_35 {rk : Nat} {v : VS}  (hk : (rk < 203 ∨ 203 < rk) ∧ (rk < 220 ∨ 231 < rk)) : (mo_goes_35 v ) rk = v rk := by
  unfold mo_goes_35
  all_goals (rw [o_mo_goes_70 (by omega), o_mo_goes_37 (by omega)])

theorem w_mo_goes {X : PX} {d b : Nat} {v : VS}  (hX : XI v) (hp_a : CF v) {Q : Option PV → Nat → VS → Prop} (hQ : XI (mo_goes v) → Q none b (mo_goes v)) : WV X (d + 1 + 1 + 1 + 1) 247 0 [some (.inr (.inr (some 203))), none, none] [] b v Q := by
  rw [mo_goes] at hQ
  refine r_ex 1 (pc' := 1) (lo' := [some (.inr (.inr (some 203))), none, none]) (st' := [.inr (.inr (some 203))]) rfl ?_
  have hp_1 : CF v := hp_a
  refine r_call (m := 242) (args := [.inr (.inr (some 203))]) (n' := 247) (pc' := 4) (lo' := [some (.inr (.inr (some 203))), none, none]) (st' := []) (I := .invokevirtual 242) (pc0 := 1) (len := 3) rfl rfl rfl (e_mo_laysWinds hX hp_1) ?_
  show WV _ _ _ 4 _ [] _ (mo_laysWinds v) _
  have hX_2 : XI (mo_laysWinds v) := i_mo_laysWinds (v := v) hX hp_1
  refine r_ex 2 (pc' := 6) (lo' := [some (.inr (.inr (some 203))), none, none]) (st' := [.inl 0, .inr (.inr (some 203))]) rfl ?_
  refine r_puti2 (j := 37) (pc' := 9) (pc0 := 6) (len := 3) rfl (s_203 _) rfl rfl rfl (Or.inl rfl) rfl rfl ?_
  have hX_3 : XI (v2 (mo_laysWinds v) 203 37 0) := XI.put hX_2 (show 0 ≤ 0 ∧ 0 ≤ 300 from (by first | assumption | omega | (unfold R32 at *; omega) | (unfold R64 at *; omega) | (simp only [R32, R64] at *; omega)))
  refine r_ex 2 (pc' := 11) (lo' := [some (.inr (.inr (some 203))), none, none]) (st' := [.inl 0, .inr (.inr (some 203))]) rfl ?_
  refine r_puti2 (j := 43) (pc' := 14) (pc0 := 11) (len := 3) rfl (s_203 _) rfl rfl rfl (Or.inl rfl) rfl rfl ?_
  have hX_4 : XI (v2 (v2 (mo_laysWinds v) 203 37 0) 203 43 0) := XI.put hX_3 (show 0 ≤ 0 ∧ 0 ≤ 3700 from (by first | assumption | omega | (unfold R32 at *; omega) | (unfold R64 at *; omega) | (simp only [R32, R64] at *; omega)))
  refine r_ex 2 (pc' := 16) (lo' := [some (.inr (.inr (some 203))), some (.inl 0), none]) (st' := []) rfl ?_
  refine l_mo_goes_16 9 (v2 (v2 (mo_laysWinds v) 203 37 0) 203 43 0) 0 _ hX_4 (by first | assumption | omega | (unfold R32 at *; omega) | (unfold R64 at *; omega) | (simp only [R32, R64] at *; omega)) (by first | assumption | omega | (unfold R32 at *; omega) | (unfold R64 at *; omega) | (simp only [R32, R64] at *; omega)) (fun o1_6 o2_6 hX_6  => ?_)
  have hb_7 : (mo_goes_16 9 (v2 (v2 (mo_laysWinds v) 203 37 0) 203 43 0) 0) 203 37 = 0 := by rw [o_mo_goes_16 (by omega)] <;> rfl
  have hb_8 : (mo_goes_16 9 (v2 (v2 (mo_laysWinds v) 203 37 0) 203 43 0) 0) 203 43 = 0 := by rw [o_mo_goes_16 (by omega)] <;> rfl
  show WV _ _ _ 35 _ _ _ _ _
  exact l_mo_goes_35  (mo_goes_16 9 (v2 (v2 (mo_laysWinds v) 203 37 0) 203 43 0) 0)  _ _ hX_6 (show ((mo_goes_16 9 (v2 (v2 (mo_laysWinds v) 203 37 0) 203 43 0) 0) 203 37) = 0 from (by first | assumption | omega | (unfold R32 at *; omega) | (unfold R64 at *; omega) | (simp only [R32, R64] at *; omega))) (show ((mo_goes_16 9 (v2 (v2 (mo_laysWinds v) 203 37 0) 203 43 0) 0) 203 43) = 0 from (by first | assumption | omega | (unfold R32 at *; omega) | (unfold R64 at *; omega) | (simp only [R32, R64] at *; omega))) (show CF (mo_goes_16 9 (v2 (v2 (mo_laysWinds v) 203 37 0) 203 43 0) 0) from (show CF (mo_goes_16 9 (v2 (v2 (mo_laysWinds v) 203 37 0) 203 43 0) 0) from CF.of hp_a (fun k h1 h2 => by rw [o_mo_goes_16 (by omega), v2_row (by omega), v2_row (by omega), o_mo_laysWinds (by omega)]))) hQ

theorem e_mo_goes {X : PX} {d b : Nat} {v : VS}  (hX : XI v) (hp_a : CF v) : EvV X (d + 1 + 1 + 1 + 1) 247 [.inr (.inr (some 203))] b v none b (mo_goes v) := EvV.of (w_mo_goes hX hp_a (fun _ => ⟨rfl, rfl, rfl⟩))

theorem i_mo_goes {v : VS}  (hX : XI v) (hp_a : CF v) : XI (mo_goes v) := by
  have q : WV (0, fun _ => 0, none) (0 + 1 + 1 + 1 + 1) 247 0 [some (.inr (.inr (some 203))), none, none] [] 1 v (fun _ _ _ => XI (mo_goes v)) := w_mo_goes (X := (0, fun _ => 0, none)) (d := 0) (b := 1) hX hp_a (fun q => q)
  obtain ⟨_, _, _, _, _, _, _, q⟩ := q
  exact q

theorem o_mo_goes {rk : Nat} {v : VS}  (hk : (rk < 203 ∨ 203 < rk) ∧ (rk < 219 ∨ 231 < rk)) : (mo_goes v ) rk = v rk := by
  unfold mo_goes
  all_goals (rw [o_mo_goes_35 (by omega), o_mo_goes_16 (by omega), v2_row (by omega), v2_row (by omega), o_mo_laysWinds (by omega)])

def mo_asTold (v : VS)  : VS :=
  (mo_goes (mo_plainly v))
theorem w_mo_asTold {X : PX} {d b : Nat} {v : VS}  (hX : XI v) (hp_a : CF v) {Q : Option PV → Nat → VS → Prop} (hQ : XI (mo_asTold v) → Q none b (mo_asTold v)) : WV X (d + 1 + 1 + 1 + 1 + 1) 246 0 [some (.inr (.inr (some 203)))] [] b v Q := by
  rw [mo_asTold] at hQ
  refine r_ex 1 (pc' := 1) (lo' := [some (.inr (.inr (some 203)))]) (st' := [.inr (.inr (some 203))]) rfl ?_
  refine r_call (m := 241) (args := [.inr (.inr (some 203))]) (n' := 246) (pc' := 4) (lo' := [some (.inr (.inr (some 203)))]) (st' := []) (I := .invokevirtual 241) (pc0 := 1) (len := 3) rfl rfl rfl (e_mo_plainly hX) ?_
  show WV _ _ _ 4 _ [] _ (mo_plainly v) _
  have hX_1 : XI (mo_plainly v) := i_mo_plainly (v := v) hX
  refine r_ex 1 (pc' := 5) (lo' := [some (.inr (.inr (some 203)))]) (st' := [.inr (.inr (some 203))]) rfl ?_
  have hp_2 : CF (mo_plainly v) := show CF (mo_plainly v) from (show CF (mo_plainly v) from CF.of hp_a (fun k h1 h2 => by rw [o_mo_plainly (by omega)]))
  refine r_call (m := 247) (args := [.inr (.inr (some 203))]) (n' := 246) (pc' := 8) (lo' := [some (.inr (.inr (some 203)))]) (st' := []) (I := .invokevirtual 247) (pc0 := 5) (len := 3) rfl rfl rfl (e_mo_goes hX_1 hp_2) ?_
  show WV _ _ _ 8 _ [] _ (mo_goes (mo_plainly v)) _
  have hX_3 : XI (mo_goes (mo_plainly v)) := i_mo_goes (v := (mo_plainly v)) hX_1 hp_2
  refine r_ret (rr := none) (I := .return_) (pc0 := 8) (len := 1) rfl rfl ?_
  exact hQ hX_3 

theorem e_mo_asTold {X : PX} {d b : Nat} {v : VS}  (hX : XI v) (hp_a : CF v) : EvV X (d + 1 + 1 + 1 + 1 + 1) 246 [.inr (.inr (some 203))] b v none b (mo_asTold v) := EvV.of (w_mo_asTold hX hp_a (fun _ => ⟨rfl, rfl, rfl⟩))

theorem i_mo_asTold {v : VS}  (hX : XI v) (hp_a : CF v) : XI (mo_asTold v) := by
  have q : WV (0, fun _ => 0, none) (0 + 1 + 1 + 1 + 1 + 1) 246 0 [some (.inr (.inr (some 203)))] [] 1 v (fun _ _ _ => XI (mo_asTold v)) := w_mo_asTold (X := (0, fun _ => 0, none)) (d := 0) (b := 1) hX hp_a (fun q => q)
  obtain ⟨_, _, _, _, _, _, _, q⟩ := q
  exact q

theorem o_mo_asTold {rk : Nat} {v : VS}  (hk : (rk < 203 ∨ 203 < rk) ∧ (rk < 219 ∨ 231 < rk)) : (mo_asTold v ) rk = v rk := by
  unfold mo_asTold
  all_goals (show (mo_goes (mo_plainly v)) rk = _)
  all_goals (rw [o_mo_goes (by omega), o_mo_plainly (by omega)])
