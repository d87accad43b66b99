/-! the class's run, step by step beside the run of the bay -/
def RR (R : Nat) (P : VS) (a : SS) (v : VS) : Prop :=
  (XI v) ∧
  (RP P v) ∧
  (RA R a v) ∧
  (RD a v)
theorem RR.X {R : Nat} {P : VS} {a : SS} {v : VS} (h : RR R P a v) : XI v := h.1
theorem RR.P {R : Nat} {P : VS} {a : SS} {v : VS} (h : RR R P a v) : RP P v := h.2.1
theorem RR.A {R : Nat} {P : VS} {a : SS} {v : VS} (h : RR R P a v) : RA R a v := h.2.2.1
theorem RR.D {R : Nat} {P : VS} {a : SS} {v : VS} (h : RR R P a v) : RD a v := h.2.2.2
theorem ainc_row {a : SS} {k j k' : Nat} (h : k' ≠ k) : (ainc a k j).1 k' = a.1 k' := v2_row h
theorem aput_row {a : SS} {t c : Nat} {x : Int × Int × Int} : (aput a t c x).1 = a.1 := rfl
theorem toN (i : Nat) : ((i : Int)).toNat = i := by omega
theorem RR.cnt {R : Nat} {P : VS} {a : SS} {v : VS} (h : RR R P a v) (hR : R = 79 ∨ R = 91) {k j : Nat} (hk : 6 ≤ k ∧ k ≤ 9) (hj : j < 8 ∨ (7 ≤ k ∧ j < 12)) : RR R P (ainc a k j) (v2 v (R + k) j (v (R + k) j + 1)) := by
  have e : v (R + k) j = a.1 k j := by
    by_cases q : k = 6
    · subst q; exact h.A.lo j (by omega)
    · exact h.A.pe k j (by omega) (by omega) (by omega)
  have hx : inn (bd (R + k) j) (v (R + k) j + 1) := by
    have : bd (R + k) j = none := by
      rcases hR with rfl | rfl
      · have : k = 6 ∨ k = 7 ∨ k = 8 ∨ k = 9 := by omega
        rcases this with rfl | rfl | rfl | rfl <;> rfl
      · have : k = 6 ∨ k = 7 ∨ k = 8 ∨ k = 9 := by omega
        rcases this with rfl | rfl | rfl | rfl <;> rfl
    rw [this]
    exact trivial
  exact ⟨XI.put h.X hx, h.P.of (fun k' hk' => v2_row (by omega)), h.A.cnt hk (by omega), h.D.of (fun k' h1 h2 => v2_row (by omega)) rfl⟩
theorem RR.st {R : Nat} {P : VS} {a : SS} {v : VS} (h : RR R P a v) {k i : Nat} (hk : 1 ≤ k ∧ k ≤ 5) (hi : (i : Int) < a.1 0 0) : v (R + k) i = a.1 k i := h.A.st k i hk.1 hk.2 hi
theorem RR.bds {R : Nat} {P : VS} {a : SS} {v : VS} (h : RR R P a v) : (0 ≤ P 0 0 ∧ P 0 0 ≤ 9) ∧ (0 ≤ P 0 2 ∧ P 0 2 ≤ 300) ∧ (0 ≤ P 0 3 ∧ P 0 3 ≤ 12) ∧ (0 ≤ P 0 9 ∧ P 0 9 ≤ 5) := by
  have h1 : 0 ≤ v 33 0 ∧ v 33 0 ≤ 9 := h.X 33 0
  have h2 : 0 ≤ v 33 1 ∧ v 33 1 ≤ 300 := h.X 33 1
  have h3 : 0 ≤ v 37 0 ∧ v 37 0 ≤ 12 := h.X 37 0
  have h4 : 0 ≤ v 68 0 ∧ v 68 0 ≤ 5 := h.X 68 0
  have e1 := h.P.C
  have e2 := h.P.S
  have e3 := h.P.E
  have e4 := h.P.nst
  omega
theorem RR.nb {R : Nat} {P : VS} {a : SS} {v : VS} (h : RR R P a v) (hR : R = 79 ∨ R = 91) : 0 ≤ a.1 0 0 ∧ a.1 0 0 ≤ 300 := by
  have e := h.A.n
  have h1 : 0 ≤ v R 4 ∧ v R 4 ≤ 300 := by
    rcases hR with rfl | rfl
    · exact h.X 79 4
    · exact h.X 91 4
  omega
theorem RR.put {R : Nat} {P : VS} {a : SS} {v : VS} (h : RR R P a v) (hR : R = 79 ∨ R = 91) {t c : Nat} {x y e : Int} (ht : t < 300) (hc : c < 9) (hh : 0 ≤ x ∧ x ≤ 99) (hy : -1 ≤ y ∧ y ≤ 299) (he : -1 ≤ e ∧ e ≤ 11) : RR R P (aput a t c (x, y, e)) (xput v t c x y e) :=
  ⟨XI_put h.X (by omega) (by omega) hh hy he, h.P.of (fun k' hk' => xput_row (by omega)), h.A.of (fun k' h1 h2 => xput_row (by omega)) rfl, h.D.put h.X ht hc⟩
theorem RR.hear {R : Nat} {P : VS} {a : SS} {v : VS} (h : RR R P a v) (hR : R = 79 ∨ R = 91) {i e t l : Nat} (hi : (i : Int) < a.1 0 0) (he : (e : Int) < P 0 3) (ht : (t : Int) < P 0 2) (hl : (l : Int) < P 0 0) : RR R P (ahear P a i e t l) (xhear R v i e t l) := by
  have hb := h.bds
  have hn := h.nb hR
  have e1 : xmore v t l = P (400 + l) t := by
    unfold xmore
    rw [h.P.fnr l t hl ht, toN]
  have e2 : xdue v t l = t + P 3 l := by
    unfold xdue
    rw [← h.P.late l hl, toN]
  have e3 : v (R + 3) i = a.1 3 i := h.st (by omega) hi
  have e4 := h.P.S
  have h5 : 0 ≤ v (R + 3) i ∧ v (R + 3) i ≤ 99 := by
    rcases hR with rfl | rfl
    · exact h.X 82 i
    · exact h.X 94 i
  have h6 := xmore_in (v := v) t l
  have h7 := xdue_in h.X t l
  unfold xhear ahear
  rw [e1, e2, toN, toN, e3, e4]
  rw [e1] at h6
  rw [e2] at h7
  by_cases q1 : 99 < a.1 3 i + P (400 + l) t
  · rw [if_pos q1, if_pos q1]
    exact h.cnt hR (by omega) (by omega)
  · rw [if_neg q1, if_neg q1]
    by_cases q2 : P 0 2 ≤ t + P 3 l
    · rw [if_pos q2, if_pos q2]
      exact h.cnt hR (by omega) (by omega)
    · rw [if_neg q2, if_neg q2]
      have h8 := h.cnt hR (k := 8) (j := e) (by omega) (by omega)
      have e9 : ((t : Int) + P 3 l) = (((t : Int) + P 3 l).toNat : Int) := by omega
      have q := h8.put hR (t := ((t : Int) + P 3 l).toNat) (c := l) (x := a.1 3 i + P (400 + l) t) (y := i) (e := e) (by omega) (by omega) (by omega) (by omega) (by omega)
      rw [← e9] at q
      exact q
theorem RR.carry {R : Nat} {P : VS} {a : SS} {v : VS} (h : RR R P a v) (hR : R = 79 ∨ R = 91) {i e : Nat} (hi : (i : Int) < a.1 0 0) (he : (e : Int) < P 0 3) : RR R P (acarry P a i e) (xcarry R v i e) := by
  have hb := h.bds
  have hn := h.nb hR
  have e1 : v (R + 1) i = a.1 1 i := h.st (by omega) hi
  have h5 : 0 ≤ v (R + 1) i ∧ v (R + 1) i ≤ 299 := by
    rcases hR with rfl | rfl
    · exact h.X 80 i
    · exact h.X 92 i
  have e2 : xat R v i e = aat P a i e := by
    unfold xat aat
    rw [toN, e1, ← h.P.tk e (a.1 1 i).toNat he (by omega), show (((a.1 1 i).toNat : Nat) : Int) = a.1 1 i by omega]
  have h6 : 0 ≤ aat P a i e := by
    have q := xlag_in h.X e (xwind_in h.X (v (R + 1) i))
    rw [← e2]
    unfold xat
    rw [toN]
    omega
  obtain ⟨e3, h3⟩ := h.P.hr e he
  have h7 : 0 ≤ v 38 e ∧ v 38 e ≤ 8 := h.X 38 e
  have e4 := h.P.S
  unfold xcarry acarry
  rw [e2, toN, e3, e4]
  by_cases q1 : P 0 2 ≤ aat P a i e
  · rw [if_pos q1, if_pos q1]
    exact h.cnt hR (by omega) (by omega)
  · rw [if_neg q1, if_neg q1]
    have q2 := h.P.fog e (aat P a i e).toNat he (by omega)
    by_cases q3 : P (200 + e) (aat P a i e).toNat = 1
    · rw [if_pos (q2.mp q3), if_pos q3]
      have h8 := h.cnt hR (k := 6) (j := 0) (by omega) (by omega)
      have h9 := h8.cnt hR (k := 7) (j := e) (by omega) (by omega)
      rw [v2_row (k' := R + 7) (by omega)] at h9
      exact h9
    · rw [if_neg (fun g => q3 (q2.mpr g)), if_neg q3]
      have q4 := h.P.deaf (P 1 e).toNat (aat P a i e).toNat (by omega) (by omega)
      rw [show (((P 1 e).toNat : Nat) : Int) = P 1 e by omega] at q4
      by_cases q5 : P (300 + (P 1 e).toNat) (aat P a i e).toNat = 1
      · rw [if_pos (q4.mp q5), if_pos q5]
        exact h.cnt hR (by omega) (by omega)
      · rw [if_neg (fun g => q5 (q4.mpr g)), if_neg q5]
        have q := h.hear hR (i := i) (e := e) (t := (aat P a i e).toNat) (l := (P 1 e).toNat) hi he (by omega) (by omega)
        rw [show (((P 1 e).toNat : Nat) : Int) = P 1 e by omega, show (((aat P a i e).toNat : Nat) : Int) = aat P a i e by omega] at q
        exact q
theorem acarry_n {P : VS} {a : SS} {i e : Nat} : (acarry P a i e).1 0 = a.1 0 := by
  have hi : ∀ (a : SS) k j, k ≠ 0 → (ainc a k j).1 0 = a.1 0 := fun a k j hk => v2_row (by omega)
  unfold acarry
  split
  · exact hi _ _ _ (by omega)
  · split
    · rw [hi _ _ _ (by omega), hi _ _ _ (by omega)]
    · split
      · exact hi _ _ _ (by omega)
      · unfold ahear
        split
        · exact hi _ _ _ (by omega)
        · split
          · exact hi _ _ _ (by omega)
          · rw [aput_row]; exact hi _ _ _ (by omega)
theorem agoE_n {P : VS} {a : SS} {i e : Nat} : (agoE P a i e).1 0 = a.1 0 := by
  unfold agoE
  split
  · rw [acarry_n]
    exact ainc_row (by omega)
  · rfl
theorem agoL_n {P : VS} {i : Nat} : ∀ (m : Nat) (a : SS), (agoL P i m a).1 0 = a.1 0 := by
  intro m
  induction m with
  | zero => intro a; rfl
  | succ m ih => intro a; rw [agoL, agoE_n, ih]
theorem RR.goE {R : Nat} {P : VS} {a : SS} {v : VS} (h : RR R P a v) (hR : R = 79 ∨ R = 91) {i e : Nat} (hi : (i : Int) < a.1 0 0) (he : (e : Int) < P 0 3) : RR R P (agoE P a i e) (xgoE R v i e) := by
  have hb := h.bds
  unfold xgoE agoE
  rw [toN, toN, h.P.hd e he, h.st (k := 2) (by omega) hi, h.P.cu e he]
  split
  · have h1 := h.cnt hR (k := 9) (j := e) (by omega) (by omega)
    exact h1.carry hR (by rw [ainc_row (by omega)]; exact hi) he
  · exact h
theorem RR.goL {R : Nat} {P : VS} {a : SS} {v : VS} (h : RR R P a v) (hR : R = 79 ∨ R = 91) {i : Nat} (hi : (i : Int) < a.1 0 0) : ∀ (m : Nat), (m : Int) ≤ P 0 3 → RR R P (agoL P i m a) (xgoL R i m v) := by
  intro m
  induction m with
  | zero => intro _; exact h
  | succ m ih =>
    intro hm
    exact (ih (by omega)).goE hR (by rw [agoL_n]; exact hi) (by omega)
theorem RR.go {R : Nat} {P : VS} {a : SS} {v : VS} (h : RR R P a v) (hR : R = 79 ∨ R = 91) {i : Nat} (hi : (i : Int) < a.1 0 0) : RR R P (ago P a i) (xgo R v i) := by
  have hb := h.bds
  unfold xgo ago
  rw [h.A.ov, h.P.dumb, h.P.E]
  split
  · exact h
  · exact h.goL hR hi _ (by omega)
