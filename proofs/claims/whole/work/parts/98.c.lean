
/-! one token further -/
def PT (a b : VS) (n : Nat) : Prop :=
  (TK a b n) ∧
  (a 2 1 = b 203 12) ∧
  (a 2 1 ≠ 0 → a 2 2 = b 203 13) ∧
  (a 2 1 = 0 → a 2 2 = -1)
theorem PT.tk {a b : VS} {n : Nat} (h : PT a b n) : TK a b n := h.1
theorem PT.f {a b : VS} {n : Nat} (h : PT a b n) : a 2 1 = b 203 12 := h.2.1
theorem PT.p {a b : VS} {n : Nat} (h : PT a b n) : a 2 1 ≠ 0 → a 2 2 = b 203 13 := h.2.2.1
theorem PT.z {a b : VS} {n : Nat} (h : PT a b n) : a 2 1 = 0 → a 2 2 = -1 := h.2.2.2
theorem PT.new {a b a' b' : VS} {n q p : Nat} {κ : Int} (h : PT a b n) (e1 : a' 1 = a 1) (a4 : a' 2 4 = a 2 4) (a1 : a' 2 1 = a 2 1) (a2 : a' 2 2 = a 2 2) (a5 : a' 2 5 = κ) (a6 : a' 2 6 = q) (a7 : a' 2 7 = p) (e8 : b' 208 = b 208) (b6 : b' 203 6 = b 203 6) (b12 : b' 203 12 = b 203 12) (b13 : b' 203 13 = b 203 13) (b7 : b' 203 7 = p) (b8 : b' 203 8 = κ) (b9 : b' 203 9 = q) (lo : q ≤ p ∧ p ≤ n) (st : κ ≠ 0 → q < p) (nu : κ = 2 → a' 2 8 = min 1000000 (b' 203 10) ∧ 0 ≤ b' 203 10) (wo : κ = 1 → b' 203 11 = wfold (a 1) (p - q) 0 0 q ∧ LTR (a 1) q (p - q)) : RT a' b' n := by
  refine ⟨h.tk.of e1 a4 e8 b6, ?_, ?_, ?_, ?_, ?_, ?_, ?_, ?_, ?_, ?_⟩
  · rw [a1, b12]; exact h.f
  · rw [a1, a2, b13]; exact h.p
  · rw [a1, a2]; exact h.z
  · rw [a5, b8]
  · rw [a6, b9]
  · rw [a7, b7]
  · rw [a6, a7]; omega
  · rw [a5, a6, a7]; intro z; have := st z; omega
  · rw [a5]; exact nu
  · rw [a5, a6, a7, e1, toN, show ((p : Int) - (q : Int)).toNat = p - q by omega]; exact wo
theorem adv_pt {a b : VS} {n : Nat} (h : PT a b n) (ht : a 2 7 = b 203 7) (lo : 0 ≤ a 2 7 ∧ a 2 7 ≤ n) : RT (cl_advance a) (mo_next b) n ∧ a 2 7 ≤ (cl_advance a) 2 6 ∧ (cl_advance a) 2 1 = a 2 1 := by
  have hl := h.tk.l
  obtain ⟨p, hp⟩ := Int.eq_ofNat_of_zero_le (show 0 ≤ a 2 7 by omega)
  obtain ⟨q, q1, q2, q3, q4, q5⟩ := adv8 2001 p (v2 a 2 6 (a 2 7)) b (h.tk.of (v2_row (by omega)) (by rw [v2_eq, if_neg (by omega)]) rfl rfl) (by rw [v2_eq, if_pos ⟨rfl, rfl⟩, hp]) (by rw [← ht, hp]) (by omega) (by omega)
  rw [v2_two5] at q3
  rw [v2_row (by omega)] at q5
  have hc := h.tk.c
  have hm := h.tk.m
  have s6 : (v2 a 2 6 (q : Int)) 2 6 = q := by rw [v2_eq, if_pos ⟨rfl, rfl⟩]
  have s4 : (v2 a 2 6 (q : Int)) 2 4 = n := by rw [v2_eq, if_neg (by omega), hc]
  have s1 : (v2 a 2 6 (q : Int)) 1 = a 1 := v2_row (by omega)
  have u4 : (v2 (v2 a 2 6 (q : Int)) 2 7 (q : Int)) 2 4 = n := by rw [v2_eq, if_neg (by omega), s4]
  have u1 : (v2 (v2 a 2 6 (q : Int)) 2 7 (q : Int)) 1 = a 1 := by rw [v2_row (by omega), s1]
  have eA : cl_advance a = if (q : Int) < n then (if (q : Int) < n ∧ 97 ≤ a 1 q ∧ a 1 q ≤ 122 then cl_advance_103 2001 (v2 (v2 (v2 a 2 6 q) 2 7 q) 2 5 1) else (if (q : Int) < n ∧ 48 ≤ a 1 q ∧ a 1 q ≤ 57 then cl_advance_159 2001 (v2 (v2 (v2 (v2 a 2 6 q) 2 7 q) 2 5 2) 2 8 0) else (if a 1 q = 59 then v2 (v2 (v2 (v2 a 2 6 q) 2 7 q) 2 5 3) 2 7 ((q : Int) + 1) else v2 (v2 (v2 (v2 a 2 6 q) 2 7 q) 2 5 4) 2 7 ((q : Int) + 1)))) else v2 (v2 (v2 a 2 6 q) 2 7 q) 2 5 0 := by
    unfold cl_advance
    rw [q3, s6, s4, u4, u1, s1, toN]
  have m7 : (v2 b 203 7 (q : Int)) 203 7 = q := by rw [v2_eq, if_pos ⟨rfl, rfl⟩]
  have m6 : (v2 b 203 7 (q : Int)) 203 6 = n := by rw [v2_eq, if_neg (by omega), hm]
  have m8 : (v2 b 203 7 (q : Int)) 208 = b 208 := v2_row (by omega)
  have eB : mo_next b = if (q : Int) = n then v2 (v2 (v2 (v2 (v2 b 203 7 q) 203 9 q) 203 10 0) 203 11 0) 203 8 0 else (if (q : Int) < n ∧ (97 : Int) ≤ b 208 q ∧ b 208 q ≤ (122 : Int) then mo_next_102 2001 (v2 (v2 (v2 (v2 (v2 b 203 7 q) 203 9 q) 203 10 0) 203 11 0) 203 8 1) 0 else (if (q : Int) < n ∧ (48 : Int) ≤ b 208 q ∧ b 208 q ≤ (57 : Int) then mo_next_208 2001 (v2 (v2 (v2 (v2 (v2 b 203 7 q) 203 9 q) 203 10 0) 203 11 0) 203 8 2) else (if b 208 q = 59 then v2 (v2 (v2 (v2 (v2 (v2 b 203 7 q) 203 9 q) 203 10 0) 203 11 0) 203 8 3) 203 7 ((q : Int) + 1) else v2 (v2 (v2 (v2 (v2 (v2 b 203 7 q) 203 9 q) 203 10 0) 203 11 0) 203 8 4) 203 7 ((q : Int) + 1)))) := by
    unfold mo_next mo_next_43
    rw [q4, m7, m6, m8, toN]
  rw [eA, eB, hp]
  by_cases z : q < n
  · have eb := h.tk.t q z
    rw [if_pos (show (q : Int) < n by omega), if_neg (show ¬ (q : Int) = n by omega), ← eb]
    by_cases y : 97 ≤ a 1 q ∧ a 1 q ≤ 122
    · rw [if_pos (show (q : Int) < n ∧ 97 ≤ a 1 q ∧ a 1 q ≤ 122 by omega), if_pos (show (q : Int) < n ∧ 97 ≤ a 1 q ∧ a 1 q ≤ 122 by omega)]
      obtain ⟨p', g1, g2, g3, g4, g5, g6⟩ := adv103 (n := n) 2001 q (v2 (v2 (v2 a 2 6 q) 2 7 q) 2 5 1) (v2 (v2 (v2 (v2 (v2 b 203 7 q) 203 9 q) 203 10 0) 203 11 0) 203 8 1) 0 (h.tk.of (by simp [v2_row]) (by simp [v2_eq]) (by simp [v2_row]) (by simp [v2_eq])) (by simp [v2_eq]) (by simp [v2_eq]) (by omega) (by omega)
      have r1 : (v2 (v2 (v2 a 2 6 q) 2 7 q) 2 5 1) 1 = a 1 := by simp [v2_row]
      rw [r1] at g4 g5 g6
      have r11 : (v2 (v2 (v2 (v2 (v2 b 203 7 q) 203 9 q) 203 10 0) 203 11 0) 203 8 1) 203 11 = 0 := by simp [v2_eq]
      rw [r11] at g4
      rw [g3, g4]
      have gp : q < p' := by
        by_cases e : p' = q
        · exact absurd y (by have := g6 (by omega); rw [e] at this; exact this)
        · omega
      refine ⟨h.new (κ := 1) (q := q) (p := p') (by simp [v2_row]) (by simp [v2_eq]) (by simp [v2_eq]) (by simp [v2_eq]) (by simp [v2_eq]) (by simp [v2_eq]) (by simp [v2_eq]) (by simp [v2_row]) (by simp [v2_eq]) (by simp [v2_eq]) (by simp [v2_eq]) (by simp [v2_eq]) (by simp [v2_eq]) (by simp [v2_eq]) (by omega) (fun _ => gp) (fun w => absurd w (by decide)) (fun _ => ⟨by simp [v2_eq], fun j j1 j2 => g5 j j1 (by omega)⟩), ?_, by simp [v2_eq]⟩
      simp [v2_eq]; omega
    · rw [if_neg (show ¬ ((q : Int) < n ∧ 97 ≤ a 1 q ∧ a 1 q ≤ 122) by omega), if_neg (show ¬ ((q : Int) < n ∧ 97 ≤ a 1 q ∧ a 1 q ≤ 122) by omega)]
      by_cases x : 48 ≤ a 1 q ∧ a 1 q ≤ 57
      · rw [if_pos (show (q : Int) < n ∧ 48 ≤ a 1 q ∧ a 1 q ≤ 57 by omega), if_pos (show (q : Int) < n ∧ 48 ≤ a 1 q ∧ a 1 q ≤ 57 by omega)]
        obtain ⟨p', x', g1, g2, g3, g4, g5⟩ := adv159 (n := n) 2001 q (v2 (v2 (v2 (v2 a 2 6 q) 2 7 q) 2 5 2) 2 8 0) (v2 (v2 (v2 (v2 (v2 b 203 7 q) 203 9 q) 203 10 0) 203 11 0) 203 8 2) (h.tk.of (by simp [v2_row]) (by simp [v2_eq]) (by simp [v2_row]) (by simp [v2_eq])) (by simp [v2_eq]) (by simp [v2_eq]) (by omega) (by omega) (by simp [v2_eq]; omega) (by simp [v2_eq])
        have gp : q < p' := by
          obtain ⟨p2, x2, k1, k2, k3, k4, k5⟩ := adv159 (n := n) 2000 (q + 1) (v2 (v2 (v2 (v2 (v2 (v2 a 2 6 q) 2 7 q) 2 5 2) 2 8 0) 2 8 (a 1 q - 48)) 2 7 ((q : Int) + 1)) (v2 (v2 (v2 (v2 (v2 (v2 (v2 b 203 7 q) 203 9 q) 203 10 0) 203 11 0) 203 8 2) 203 10 (a 1 q - 48)) 203 7 ((q : Int) + 1)) (h.tk.of (by simp [v2_row]) (by simp [v2_eq]) (by simp [v2_row]) (by simp [v2_eq])) (by simp [v2_eq]) (by simp [v2_eq]) (by omega) (by omega) (by simp [v2_eq]; omega) (by simp [v2_eq]; omega)
          have e0 : cl_advance_159 2001 (v2 (v2 (v2 (v2 a 2 6 q) 2 7 q) 2 5 2) 2 8 0) = cl_advance_159 2000 (v2 (v2 (v2 (v2 (v2 (v2 a 2 6 q) 2 7 q) 2 5 2) 2 8 0) 2 8 (a 1 q - 48)) 2 7 ((q : Int) + 1)) := by
            have r7 : (v2 (v2 (v2 (v2 a 2 6 q) 2 7 q) 2 5 2) 2 8 0) 2 7 = q := by simp [v2_eq]
            have r4 : (v2 (v2 (v2 (v2 a 2 6 q) 2 7 q) 2 5 2) 2 8 0) 2 4 = n := by simp [v2_eq, hc]
            have r8 : (v2 (v2 (v2 (v2 a 2 6 q) 2 7 q) 2 5 2) 2 8 0) 2 8 = 0 := by simp [v2_eq]
            have r1 : (v2 (v2 (v2 (v2 a 2 6 q) 2 7 q) 2 5 2) 2 8 0) 1 = a 1 := by simp [v2_row]
            rw [cl_advance_159, r7, r4, r8, r1, toN, if_pos (show (q : Int) < n by omega), if_pos (show (q : Int) < n ∧ 48 ≤ a 1 q ∧ a 1 q ≤ 57 by omega), show min (1000000 : Int) (0 * 10 + a 1 q - 48) = a 1 q - 48 by omega]
          rw [e0, k3] at g3
          have e7 : (v2 (v2 (v2 (v2 (v2 (v2 (v2 (v2 a 2 6 q) 2 7 q) 2 5 2) 2 8 0) 2 8 (a 1 q - 48)) 2 7 ((q : Int) + 1)) 2 8 (min 1000000 x2)) 2 7 (p2 : Int)) 2 7 = (v2 (v2 (v2 (v2 (v2 (v2 a 2 6 q) 2 7 q) 2 5 2) 2 8 0) 2 8 (min 1000000 x')) 2 7 (p' : Int)) 2 7 := by rw [g3]
          rw [v2_eq, if_pos ⟨rfl, rfl⟩, v2_eq, if_pos ⟨rfl, rfl⟩] at e7
          omega
        rw [g3, g4]
        refine ⟨h.new (κ := 2) (q := q) (p := p') (by simp [v2_row]) (by simp [v2_eq]) (by simp [v2_eq]) (by simp [v2_eq]) (by simp [v2_eq]) (by simp [v2_eq]) (by simp [v2_eq]) (by simp [v2_row]) (by simp [v2_eq]) (by simp [v2_eq]) (by simp [v2_eq]) (by simp [v2_eq]) (by simp [v2_eq]) (by simp [v2_eq]) (by omega) (fun _ => gp) (fun _ => ?_) (fun w => absurd w (by decide)), ?_, by simp [v2_eq]⟩
        · simp [v2_eq]; omega
        · simp [v2_eq]; omega
      · rw [if_neg (show ¬ ((q : Int) < n ∧ 48 ≤ a 1 q ∧ a 1 q ≤ 57) by omega), if_neg (show ¬ ((q : Int) < n ∧ 48 ≤ a 1 q ∧ a 1 q ≤ 57) by omega)]
        by_cases w : a 1 q = 59
        · rw [if_pos w, if_pos w]
          refine ⟨h.new (κ := 3) (q := q) (p := q + 1) (by simp [v2_row]) (by simp [v2_eq]) (by simp [v2_eq]) (by simp [v2_eq]) (by simp [v2_eq]) (by simp [v2_eq]) (by simp [v2_eq]) (by simp [v2_row]) (by simp [v2_eq]) (by simp [v2_eq]) (by simp [v2_eq]) (by simp [v2_eq]) (by simp [v2_eq]) (by simp [v2_eq]) (by omega) (fun _ => by omega) (fun w => absurd w (by decide)) (fun w => absurd w (by decide)), ?_, by simp [v2_eq]⟩
          simp [v2_eq]; omega
        · rw [if_neg w, if_neg w]
          refine ⟨h.new (κ := 4) (q := q) (p := q + 1) (by simp [v2_row]) (by simp [v2_eq]) (by simp [v2_eq]) (by simp [v2_eq]) (by simp [v2_eq]) (by simp [v2_eq]) (by simp [v2_eq]) (by simp [v2_row]) (by simp [v2_eq]) (by simp [v2_eq]) (by simp [v2_eq]) (by simp [v2_eq]) (by simp [v2_eq]) (by simp [v2_eq]) (by omega) (fun _ => by omega) (fun w => absurd w (by decide)) (fun w => absurd w (by decide)), ?_, by simp [v2_eq]⟩
          simp [v2_eq]; omega
  · rw [if_neg (show ¬ (q : Int) < n by omega), if_pos (show (q : Int) = n by omega)]
    refine ⟨h.new (κ := 0) (q := q) (p := q) (by simp [v2_row]) (by simp [v2_eq]) (by simp [v2_eq]) (by simp [v2_eq]) (by simp [v2_eq]) (by simp [v2_eq]) (by simp [v2_eq]) (by simp [v2_row]) (by simp [v2_eq]) (by simp [v2_eq]) (by simp [v2_eq]) (by simp [v2_eq]) (by simp [v2_eq]) (by simp [v2_eq]) (by omega) (fun w => absurd rfl w) (fun w => absurd w (by decide)) (fun w => absurd w (by decide)), ?_, by simp [v2_eq]⟩
    simp [v2_eq]; omega
theorem adv_ok {a b : VS} {n : Nat} (h : RT a b n) : RT (cl_advance a) (mo_next b) n ∧ a 2 7 ≤ (cl_advance a) 2 6 ∧ (cl_advance a) 2 1 = a 2 1 := adv_pt ⟨h.tk, h.f, h.p, h.z⟩ h.t (by have := h.lo; omega)
