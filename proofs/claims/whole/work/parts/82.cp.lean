/-! the parameters of a run, read off the class's state -/
def cP (v : VS) : VS := fun k j =>
  if k = 0 then (if j = 0 then v 33 0 else if j = 1 then v 67 6 + 1 else if j = 2 then v 33 1 else if j = 3 then v 37 0 else if j = 4 then (if v 67 4 = 4 then 1 else 0) else if j = 5 then v 67 5 else if j = 6 then v 67 7 else if j = 7 then v 67 8 else if j = 8 then v 67 9 else if j = 9 then v 68 0 else 0)
  else if k = 1 then v 38 j else if k = 2 then v 39 j else if k = 3 then (if v 67 4 = 6 then 0 else v 35 j) else if k = 4 then v 36 j else if k = 5 then (if v 34 j = 1 ∧ v 67 4 ≠ 5 then 1 else 0) else if k = 6 then bt (v 67 0) j else if k = 7 then bt (v 67 1) j else if k = 8 then (if j < 5 then v 70 j else 0) else if k = 9 then (if j < 5 then v 69 j else 0) else if k = 10 then (if j < 5 then v 71 j else 0)
  else if k < 200 then (if j < 300 then xlag v ((k - 100 : Nat) : Int) (xwind v j) else 0) else if k < 300 then (if v 67 4 = 0 then 0 else bt (v 64 j) ((k - 200 : Nat) : Int)) else if k < 400 then (if v 67 4 = 1 then 0 else bt (v 65 j) ((k - 300 : Nat) : Int)) else (if v 67 4 = 2 then 0 else bt (v 66 j) ((k - 400 : Nat) : Int))
theorem cP_0 (v : VS) : cP v 0 0 = v 33 0 ∧ cP v 0 1 = v 67 6 + 1 ∧ cP v 0 2 = v 33 1 ∧ cP v 0 3 = v 37 0 ∧ cP v 0 4 = (if v 67 4 = 4 then 1 else 0) ∧ cP v 0 5 = v 67 5 ∧ cP v 0 6 = v 67 7 ∧ cP v 0 7 = v 67 8 ∧ cP v 0 8 = v 67 9 ∧ cP v 0 9 = v 68 0 := by
  refine ⟨?_, ?_, ?_, ?_, ?_, ?_, ?_, ?_, ?_, ?_⟩ <;> simp [cP]
theorem cP_k (v : VS) (j : Nat) : cP v 1 j = v 38 j ∧ cP v 2 j = v 39 j ∧ cP v 3 j = (if v 67 4 = 6 then 0 else v 35 j) ∧ cP v 4 j = v 36 j ∧ cP v 5 j = (if v 34 j = 1 ∧ v 67 4 ≠ 5 then 1 else 0) ∧ cP v 6 j = bt (v 67 0) j ∧ cP v 7 j = bt (v 67 1) j ∧ cP v 8 j = (if j < 5 then v 70 j else 0) ∧ cP v 9 j = (if j < 5 then v 69 j else 0) ∧ cP v 10 j = (if j < 5 then v 71 j else 0) := by
  refine ⟨?_, ?_, ?_, ?_, ?_, ?_, ?_, ?_, ?_, ?_⟩ <;> simp [cP]
theorem cP_tk (v : VS) {e : Nat} (he : e < 100) {t : Nat} (ht : t < 300) : cP v (100 + e) t = xlag v e (xwind v t) := by
  unfold cP
  rw [if_neg (by omega), if_neg (by omega), if_neg (by omega), if_neg (by omega), if_neg (by omega), if_neg (by omega), if_neg (by omega), if_neg (by omega), if_neg (by omega), if_neg (by omega), if_neg (by omega), if_pos (by omega), if_pos ht, Nat.add_sub_cancel_left]
theorem cP_fg (v : VS) {e : Nat} (he : e < 100) (t : Nat) : cP v (200 + e) t = if v 67 4 = 0 then 0 else bt (v 64 t) e := by
  unfold cP
  rw [if_neg (by omega), if_neg (by omega), if_neg (by omega), if_neg (by omega), if_neg (by omega), if_neg (by omega), if_neg (by omega), if_neg (by omega), if_neg (by omega), if_neg (by omega), if_neg (by omega), if_neg (by omega), if_pos (by omega), Nat.add_sub_cancel_left]
theorem cP_df (v : VS) {c : Nat} (hc : c < 100) (t : Nat) : cP v (300 + c) t = if v 67 4 = 1 then 0 else bt (v 65 t) c := by
  unfold cP
  rw [if_neg (by omega), if_neg (by omega), if_neg (by omega), if_neg (by omega), if_neg (by omega), if_neg (by omega), if_neg (by omega), if_neg (by omega), if_neg (by omega), if_neg (by omega), if_neg (by omega), if_neg (by omega), if_neg (by omega), if_pos (by omega), Nat.add_sub_cancel_left]
theorem cP_fn (v : VS) (c t : Nat) : cP v (400 + c) t = if v 67 4 = 2 then 0 else bt (v 66 t) c := by
  unfold cP
  rw [if_neg (by omega), if_neg (by omega), if_neg (by omega), if_neg (by omega), if_neg (by omega), if_neg (by omega), if_neg (by omega), if_neg (by omega), if_neg (by omega), if_neg (by omega), if_neg (by omega), if_neg (by omega), if_neg (by omega), if_neg (by omega), Nat.add_sub_cancel_left]
def SG (s : VS) : Prop :=
  (XI s) ∧
  (VB 33 s) ∧
  (0 ≤ s 67 6 + 1 ∧ s 67 6 + 1 ≤ s 33 1) ∧
  (∀ k : Nat, (k : Int) < s 68 0 → s 70 k < s 33 1 ∧ s 69 k < s 33 0 ∧ 1 ≤ s 71 k)
theorem SG.x {s : VS} (h : SG s) : XI s := h.1
theorem SG.g {s : VS} (h : SG s) : VB 33 s := h.2.1
theorem SG.u {s : VS} (h : SG s) : 0 ≤ s 67 6 + 1 ∧ s 67 6 + 1 ≤ s 33 1 := h.2.2.1
theorem SG.st {s : VS} (h : SG s) : ∀ k : Nat, (k : Int) < s 68 0 → s 70 k < s 33 1 ∧ s 69 k < s 33 0 ∧ 1 ≤ s 71 k := h.2.2.2
theorem SG.rp {s : VS} (h : SG s) : RP (cP s) s := by
  obtain ⟨c0, c1, c2, c3, c4, c5, c6, c7, c8, c9⟩ := cP_0 s
  have hk := fun j => cP_k s j
  have hC : 0 ≤ s 33 0 ∧ s 33 0 ≤ 9 := h.x 33 0
  have hE : 0 ≤ s 37 0 ∧ s 37 0 ≤ 12 := h.x 37 0
  refine ⟨c0.symm, c1.symm, by rw [c1, c2]; exact h.u, c2.symm, c3.symm, fun e he => ?_, fun e he => ?_, fun e t he ht => ?_, fun e t he ht => ?_, fun c t hc ht => ?_, fun c t hc ht => ?_, fun c hc => ?_, fun c hc => ?_, ?_, fun c hc => ?_, fun c hc => ?_, fun e he => ?_, c5.symm, c6.symm, c7.symm, c8.symm, c9.symm, fun k hk' => ?_⟩
  · rw [c3] at he
    rw [(hk e).1, c0]
    exact ⟨rfl, (h.g.ea e he).1⟩
  · rw [(hk e).2.1]
  · rw [c3] at he
    rw [cP_tk s (by omega) ht]
  · rw [c3] at he
    rw [cP_fg s (by omega)]
    split
    · rename_i q
      exact ⟨fun g => by omega, fun g => absurd q g.1⟩
    · rename_i q
      exact ⟨fun g => ⟨q, g⟩, fun g => g.2⟩
  · rw [c0] at hc
    rw [cP_df s (by omega)]
    split
    · rename_i q
      exact ⟨fun g => by omega, fun g => absurd q g.1⟩
    · rename_i q
      exact ⟨fun g => ⟨q, g⟩, fun g => g.2⟩
  · rw [cP_fn]
  · rw [(hk c).2.2.1]
  · rw [(hk c).2.2.2.1]
  · rw [c4]
    split
    · rename_i q
      exact ⟨fun g => by omega, fun g => absurd q g⟩
    · rename_i q
      exact ⟨fun _ => q, fun _ => rfl⟩
  · rw [(hk c).2.2.2.2.1]
    split
    · rename_i q
      exact ⟨fun _ => q, fun _ => rfl⟩
    · rename_i q
      exact ⟨fun g => by omega, fun g => absurd g q⟩
  · rw [(hk c).2.2.2.2.2.1]
  · rw [(hk e).2.2.2.2.2.2.1]
  · have hN : 0 ≤ s 68 0 ∧ s 68 0 ≤ 5 := h.x 68 0
    rw [c9] at hk'
    obtain ⟨-, -, -, -, -, -, -, k8, k9, k10⟩ := hk k
    rw [if_pos (by omega)] at k8 k9 k10
    exact ⟨k8.symm, k9.symm, k10.symm⟩
theorem SG.pw {s : VS} (h : SG s) : PW (cP s) := by
  obtain ⟨c0, c1, c2, c3, c4, c5, c6, c7, c8, c9⟩ := cP_0 s
  have hC : 0 ≤ s 33 0 ∧ s 33 0 ≤ 9 := h.x 33 0
  have hS : 0 ≤ s 33 1 ∧ s 33 1 ≤ 300 := h.x 33 1
  have hE : 0 ≤ s 37 0 ∧ s 37 0 ≤ 12 := h.x 37 0
  have hN : 0 ≤ s 68 0 ∧ s 68 0 ≤ 5 := h.x 68 0
  refine ⟨by rw [c0]; exact hC, by rw [c1, c2]; exact ⟨h.u.1, h.u.2, hS.2⟩, by rw [c3]; exact hE, fun l t => ?_, fun e t he ht => ?_, fun c hc => ?_, by rw [c9]; exact hN, fun k hk => ?_⟩
  · rw [cP_fn]
    split
    · exact Int.le_refl _
    · have := bt01 (s 66 t) l
      omega
  · rw [c3] at he
    rw [c2] at ht
    rw [cP_tk s (by omega) (by omega)]
    exact (xlag_in h.x e (xwind_in h.x t)).1
  · rw [(cP_k s c).2.2.1]
    have h3 : 0 ≤ s 35 c ∧ s 35 c ≤ 60 := h.x 35 c
    split <;> omega
  · rw [c9] at hk
    obtain ⟨-, -, -, -, -, -, -, k8, k9, k10⟩ := cP_k s k
    rw [k8, k9, k10, c0, c2, if_pos (by omega), if_pos (by omega), if_pos (by omega)]
    have q := h.st k hk
    have h1 : 0 ≤ s 70 k ∧ s 70 k ≤ 299 := h.x 70 k
    have h2 : 0 ≤ s 69 k ∧ s 69 k ≤ 8 := h.x 69 k
    have h3 : 0 ≤ s 71 k ∧ s 71 k ≤ 99 := h.x 71 k
    omega
/-- what the class's run holds -/
theorem SG.play {s : VS} (h : SG s) (hW : WZ s) {R : Nat} (hR : R = 79 ∨ R = 91) : RR R (cP s) (arun (cP s)) (xplay R s) := RR.play hR h.x h.rp hW
/-- the same without an end before the end -/
def pln (P : VS) : VS := v2 (v2 (v2 (v2 P 0 1 (P 0 2)) 0 6 (-1)) 0 7 300) 0 8 300
theorem pln_row {P : VS} {k : Nat} (h : k ≠ 0) : pln P k = P k := by
  unfold pln
  rw [v2_row h, v2_row h, v2_row h, v2_row h]
theorem pln_0 (P : VS) (j : Nat) : pln P 0 j = if j = 1 then P 0 2 else if j = 6 then -1 else if j = 7 then 300 else if j = 8 then 300 else P 0 j := by
  unfold pln
  simp only [v2_eq]
  by_cases q8 : j = 8
  · subst q8; simp
  · by_cases q7 : j = 7
    · subst q7; simp
    · by_cases q6 : j = 6
      · subst q6; simp
      · by_cases q1 : j = 1
        · subst q1; simp
        · simp [q8, q7, q6, q1]
theorem PW.toPln {P : VS} (h : PW P) : PW (pln P) := by
  obtain ⟨h1, h2, h3, h4, h5, h6, h7, h8⟩ := h
  refine ⟨?_, ?_, ?_, fun l t => ?_, fun e t he ht => ?_, fun c hc => ?_, ?_, fun k hk => ?_⟩
  · simp only [pln_0]; simpa using h1
  · simp only [pln_0]
    simp
    omega
  · simp only [pln_0]; simpa using h3
  · rw [pln_row (by omega)]; exact h4 l t
  · simp only [pln_0] at he ht
    rw [pln_row (by omega)]
    exact h5 e t (by simpa using he) (by simpa using ht)
  · simp only [pln_0] at hc
    rw [pln_row (by omega)]
    exact h6 c (by simpa using hc)
  · simp only [pln_0]; simpa using h7
  · simp only [pln_0] at hk
    have q := h8 k (by simpa using hk)
    rw [pln_row (show 8 ≠ 0 by omega), pln_row (show 9 ≠ 0 by omega), pln_row (show 10 ≠ 0 by omega)]
    simp only [pln_0]
    simpa using q
theorem pln_id {P : VS} (h1 : P 0 1 = P 0 2) (h6 : P 0 6 = -1) (h7 : P 0 7 = 300) (h8 : P 0 8 = 300) : pln P = P := by
  unfold pln
  rw [v2_self P 0 1 h1.symm, v2_self P 0 6 h6.symm, v2_self P 0 7 h7.symm, v2_self P 0 8 h8.symm]
theorem cP_of2 {s s' : VS} (e : ∀ k, 33 ≤ k → k ≤ 41 ∨ (63 ≤ k ∧ k ≤ 66) → s' k = s k) (f0 : s' 67 0 = s 67 0) (f1 : s' 67 1 = s 67 1) (f4 : s' 67 4 = s 67 4) (f5 : s' 67 5 = s 67 5) (f6 : s' 67 6 = s 67 6) (f7 : s' 67 7 = s 67 7) (f8 : s' 67 8 = s 67 8) (f9 : s' 67 9 = s 67 9) (e68 : s' 68 0 = s 68 0) (e69 : ∀ j, j < 5 → s' 69 j = s 69 j ∧ s' 70 j = s 70 j ∧ s' 71 j = s 71 j) (e72 : ∀ j, j < 10 → s' 72 j = s 72 j) : cP s' = cP s := by
  have el : ∀ a b, xlag s' a b = xlag s a b := fun a b => by unfold xlag; rw [e 40 (by omega) (by omega), e 41 (by omega) (by omega)]
  have ew : ∀ t : Nat, t < 300 → xwind s' t = xwind s t := fun t ht => by
    unfold xwind
    rw [e72 _ (by omega), f4, e 63 (by omega) (by omega)]
  funext k j
  have g70 : (if j < 5 then s' 70 j else 0) = (if j < 5 then s 70 j else 0) := by
    split
    · rename_i q; exact (e69 j q).2.1
    · rfl
  have g69 : (if j < 5 then s' 69 j else 0) = (if j < 5 then s 69 j else 0) := by
    split
    · rename_i q; exact (e69 j q).1
    · rfl
  have g71 : (if j < 5 then s' 71 j else 0) = (if j < 5 then s 71 j else 0) := by
    split
    · rename_i q; exact (e69 j q).2.2
    · rfl
  have gt : (if j < 300 then xlag s' ((k - 100 : Nat) : Int) (xwind s' j) else 0) = (if j < 300 then xlag s ((k - 100 : Nat) : Int) (xwind s j) else 0) := by
    split
    · rename_i q; rw [el, ew j q]
    · rfl
  unfold cP
  rw [g70, g69, g71, gt, e 33 (by omega) (by omega), e 34 (by omega) (by omega), e 35 (by omega) (by omega), e 36 (by omega) (by omega), e 37 (by omega) (by omega), e 38 (by omega) (by omega), e 39 (by omega) (by omega), e 64 (by omega) (by omega), e 65 (by omega) (by omega), e 66 (by omega) (by omega), f0, f1, f4, f5, f6, f7, f8, f9, e68]
