/-! splits -/
theorem sp56 {A : SS} {P x u : VS} (h : QQ A P x u) {n : Int} {t : Nat} : ∀ (f i : Nat) (v : VS), (∀ k, k ≠ 232 → v k = u k) → (i : Int) ≤ A.1 0 0 → A.1 0 0 < i + f → (∀ c : Nat, c < 9 → v 232 c = ahl A c i) →
    ∃ i' : Nat, (mo_splits_56 f v n i t).1 = i' ∧ i ≤ i' ∧ (i' : Int) ≤ A.1 0 0 ∧ (∀ j : Nat, i ≤ j → j < i' → A.1 1 j = t) ∧ ((i' : Int) < A.1 0 0 → A.1 1 i' ≠ t) ∧ (∀ c : Nat, c < 9 → (mo_splits_56 f v n i t).2 232 c = ahl A c i') := by
  have hC := h.pw.C
  intro f
  induction f with
  | zero => intro i v e h1 h2 h3; omega
  | succ f ih =>
    intro i v e h1 h2 h3
    have ea : ∀ k : Int, mo_at v i k = mo_at u i k := fun k => by unfold mo_at; rw [e 220 (by omega)]
    rw [mo_splits_56, e 203 (by omega), h.rm.n, ea, ea, ea]
    by_cases q : (i : Int) < A.1 0 0
    · obtain ⟨-, -, -, -, -, m0, m1, m2, -⟩ := h.rd q
      have hs := (h.aw.st i q).2.1
      rw [if_pos q, m0, m1, m2]
      by_cases q2 : A.1 1 i = t
      · rw [if_pos q2, show ((i : Int) + 1) = ((i + 1 : Nat) : Int) by omega]
        obtain ⟨c0, hc0⟩ : ∃ c0 : Nat, A.1 2 i = c0 := ⟨(A.1 2 i).toNat, by omega⟩
        rw [hc0, toN]
        obtain ⟨i', g1, g2, g3, g4, g5, g6⟩ := ih (i + 1) (v2 v 232 c0 (A.1 3 i)) (fun k hk => by rw [v2_row hk]; exact e k hk) (by omega) (by omega) (fun c hc => by
          rw [v2_eq, ahl, hc0]
          by_cases z : c = c0
          · rw [if_pos ⟨rfl, z⟩, if_pos (by omega)]
          · rw [if_neg (fun g => z g.2), if_neg (by omega)]
            exact h3 c hc)
        refine ⟨i', g1, by omega, g3, fun j j1 j2 => ?_, g5, g6⟩
        by_cases z : j = i
        · rw [z]; exact q2
        · exact g4 j (by omega) j2
      · rw [if_neg q2]
        exact ⟨i, rfl, Nat.le_refl _, h1, fun j j1 j2 => by omega, fun _ => q2, h3⟩
    · rw [if_neg q]
      exact ⟨i, rfl, Nat.le_refl _, h1, fun j j1 j2 => by omega, fun g => absurd g q, h3⟩
theorem sp106_1 {v : VS} {n s t : Int} : ∀ (f : Nat) (o c : Int), c ≤ v 210 0 → v 210 0 < c + f → mo_splits_106 f v n s t o 1 c = 1 := by
  intro f
  induction f with
  | zero => intro o c h1 hf; omega
  | succ f ih =>
    intro o c h1 hf
    rw [mo_splits_106]
    split
    · rw [if_neg (by omega)]
      split <;> exact ih _ _ (by omega) (by omega)
    · rfl
theorem sp106 {A : SS} {P x u : VS} (h : QQ A P x u) {v : VS} {n s : Int} {t : Nat} (ht : (t : Int) < x 33 1) (hv : v 210 0 = x 33 0) (hH : ∀ c : Nat, (c : Int) < x 33 0 → v 232 c = mo_hourOf u c t) : ∀ (f c : Nat) (o : Int), 0 ≤ o → (c : Int) ≤ x 33 0 → x 33 0 < c + f → mo_splits_106 f v n s t o 0 c = cl_isSplit_4 f x t o c := by
  intro f
  induction f with
  | zero => intro c o h0 h1 h2; omega
  | succ f ih =>
    intro c o h0 h1 h2
    rw [mo_splits_106, cl_isSplit_4, hv, toN, show ((c : Int) + 1) = ((c + 1 : Nat) : Int) by omega]
    by_cases q : (c : Int) < x 33 0
    · have hb := h.hb c t
      rw [if_pos q, if_pos q, if_pos rfl, hH c q, h.sl2 ⟨by omega, q⟩ ⟨by omega, ht⟩]
      obtain ⟨y, hy⟩ : ∃ y, y = mo_hourOf u c t := ⟨_, rfl⟩
      rw [← hy] at hb ⊢
      by_cases z0 : y = 0
      · rw [if_neg (by omega), if_neg (by omega), if_pos z0]
        exact ih _ _ h0 (by omega) (by omega)
      · rw [if_pos (show 0 < y by omega), if_pos (show 0 < y by omega), if_pos (show 0 < y by omega), if_neg z0]
        by_cases z1 : o = 0
        · rw [if_neg (by omega), if_pos z1]
          exact ih _ _ (by omega) (by omega) (by omega)
        · rw [if_pos (show 0 < o by omega), if_neg z1]
          by_cases z2 : y = o
          · rw [if_pos z2, if_pos z2]
            exact ih _ _ (by omega) (by omega) (by omega)
          · rw [if_neg z2, if_neg z2]
            exact sp106_1 f _ _ (by omega) (by omega)
    · rw [if_neg q, if_neg q]
theorem sp46 {A : SS} {P x u : VS} (h : QQ A P x u) : ∀ (f t i : Nat) (n : Int) (v : VS), (∀ k, k ≠ 232 → v k = u k) → (i : Int) ≤ A.1 0 0 → (∀ j : Nat, j < i → A.1 1 j < t) → ((i : Int) < A.1 0 0 → (t : Int) ≤ A.1 1 i) → (∀ c : Nat, c < 9 → v 232 c = ahl A c i) → (mo_splits_46 f v n i t).1 = cl_splits_19 f x n t ∧ ∀ k, k ≠ 232 → (mo_splits_46 f v n i t).2 k = u k := by
  have h9 := h.C9
  have hn := h.nb
  intro f
  induction f with
  | zero => intro t i n v e h1 h2 h3 h4; exact ⟨rfl, e⟩
  | succ f ih =>
    intro t i n v e h1 h2 h3 h4
    rw [mo_splits_46, cl_splits_19, e 210 (by omega), h.bS, show ((t : Int) + 1) = ((t + 1 : Nat) : Int) by omega, show n + 0 = n by omega]
    by_cases q : (t : Int) < x 33 1
    · rw [if_pos q, if_pos q]
      obtain ⟨i', g1, g2, g3, g4, g5, g6⟩ := sp56 h (n := n) (t := t) 301 i v e h1 (by omega) h4
      have er : ∀ k, k ≠ 232 → (mo_splits_56 301 v n i t).2 k = u k := fun k hk => by rw [o_mo_splits_56 (by omega)]; exact e k hk
      obtain ⟨w, hw⟩ : ∃ w, w = (mo_splits_56 301 v n i t).2 := ⟨_, rfl⟩
      rw [← hw] at g6 er
      rw [g1, ← hw]
      have hlow : ∀ j : Nat, j < i' → A.1 1 j ≤ t := by
        intro j hj
        by_cases z : j < i
        · have := h2 j z; omega
        · have := g4 j (by omega) hj; omega
      have hhigh : (i' : Int) < A.1 0 0 → (t : Int) < A.1 1 i' := by
        intro g
        have a1 := g5 g
        by_cases z : i' = i
        · rw [z] at g a1 ⊢
          have := h3 g
          omega
        · have a2 := g4 i (by omega) (by omega)
          have a3 := h.aw.srt i i' (by omega) g
          omega
      have hH : ∀ c : Nat, (c : Int) < x 33 0 → w 232 c = mo_hourOf u c t := by
        intro c hc
        rw [g6 c (by omega), h.ho]
        have e : aN A = i' + (aN A - i') := by unfold aN; omega
        rw [e, ahour_hi (aN A - i') (fun j a b => by
          have b1 : (j : Int) < A.1 0 0 := by unfold aN at b; omega
          have b2 := hhigh (by omega)
          have b3 := h.aw.srt i' j a b1
          omega), ahour_lo i' hlow]
      have es := sp106 h (v := w) (n := n) (s := (i' : Int)) (t := t) q (by rw [er 210 (by omega)]; exact h.bC) hH 10 0 0 (by omega) (by omega) (by omega)
      rw [show ((0 : Nat) : Int) = 0 from rfl] at es
      rw [es]
      have g2' : ∀ j : Nat, j < i' → A.1 1 j < ((t + 1 : Nat) : Int) := fun j hj => by have := hlow j hj; omega
      have g3' : (i' : Int) < A.1 0 0 → ((t + 1 : Nat) : Int) ≤ A.1 1 i' := fun g => by have := hhigh g; omega
      unfold cl_isSplit
      by_cases z : cl_isSplit_4 10 x t 0 0 = 0
      · rw [if_pos z, if_pos z]
        exact ih (t + 1) i' n w er g3 g2' g3' g6
      · rw [if_neg z, if_neg z]
        exact ih (t + 1) i' (n + 1) w er g3 g2' g3' g6
    · rw [if_neg q, if_neg q]
      exact ⟨rfl, e⟩
theorem sp21 {j : Nat} (hj : j < 9) : ∀ (f : Nat) (v : VS) (t : Int), 0 ≤ t → 9 < t + f → (t ≤ j ∨ v 232 j = 0) → (mo_splits_21 f v t) 232 j = 0 := by
  intro f
  induction f with
  | zero => intro v t h0 h1 h2; rcases h2 with h2 | h2; omega; exact h2
  | succ f ih =>
    intro v t h0 h1 h2
    rw [mo_splits_21]
    by_cases hk : t < 9
    · rw [if_pos hk]
      refine ih _ _ (by omega) (by omega) ?_
      rw [v2_eq]
      by_cases e : j = t.toNat
      · rw [if_pos ⟨rfl, e⟩]; exact Or.inr rfl
      · rw [if_neg (fun g => e g.2)]
        rcases h2 with h2 | h2
        · exact Or.inl (by omega)
        · exact Or.inr h2
    · rw [if_neg hk]; rcases h2 with h2 | h2; omega; exact h2
theorem q_splits {v : VS} (h : INV v) : (mo_splits (cl_splits v).2).1 = (cl_splits v).1 ∧ INV (mo_splits (cl_splits v).2).2 := by
  have q := h.qq
  have hn := q.nb
  obtain ⟨b0, b1, b3, b4, bL, -⟩ := h.b0
  obtain ⟨i0, i1, i3, i4, iL⟩ := h.isb
  unfold cl_splits
  by_cases z : 0 < v 33 2
  · rw [if_pos z]
    have em : mo_splits (cl_asItIs v) = mo_splits_40 (mo_splits_21 10 (mo_told (v2 (cl_asItIs v) 203 0 0)) 0) := by
      unfold mo_splits
      rw [iL, if_pos z]
    have hI := i_mo_splits h.is.i.x h.is.i.c q.sm
    obtain ⟨e1, e2⟩ := sp46 q 301 0 0 0 (mo_splits_21 10 (mo_told (v2 (cl_asItIs v) 203 0 0)) 0) (fun k hk => o_mo_splits_21 (by omega)) (by omega) (fun j hj => by omega) (fun g => by have := (q.aw.st 0 g).1; omega) (fun c hc => sp21 hc _ _ _ (by omega) (by omega) (Or.inl (by omega)))
    rw [show ((0 : Nat) : Int) = 0 from rfl] at e1 e2
    show (mo_splits (cl_asItIs v)).1 = _ ∧ INV (mo_splits (cl_asItIs v)).2
    have h1 := h.is.told
    rw [em] at hI ⊢
    refine ⟨e1, h1.ref hI (fun j hj => e2 j (by omega)) ?_ ?_ ?_⟩
    · show (mo_splits_46 301 (mo_splits_21 10 (mo_told (v2 (cl_asItIs v) 203 0 0)) 0) 0 0 0).2 203 6 = _
      rw [e2 203 (by omega)]
    · show (mo_splits_46 301 (mo_splits_21 10 (mo_told (v2 (cl_asItIs v) 203 0 0)) 0) 0 0 0).2 203 14 = _
      rw [e2 203 (by omega)]
    · show (mo_splits_46 301 (mo_splits_21 10 (mo_told (v2 (cl_asItIs v) 203 0 0)) 0) 0 0 0).2 203 15 = _
      rw [e2 203 (by omega)]
  · rw [if_neg z]
    show (mo_splits v).1 = _ ∧ INV (mo_splits v).2
    unfold mo_splits
    rw [bL, if_neg z]
    exact ⟨rfl, h.thr⟩
