/-! the reference's visits -/
def OV (a : SS) : Prop := a.1 0 1 ≠ 0 → 300 ≤ a.1 0 0
theorem OV.step {P : VS} {v : VS} {a : SS} {t c : Nat} (hM : MP P v) (h : OV a) (hn : a.1 0 1 = 0 → a.1 0 0 < 300) (ht : t < 300) : OV (astep P a t c) := by
  unfold astep
  split
  · exact h
  · rename_i q
    unfold avis
    split
    · exact h
    · unfold avisL
      split
      · unfold OV; rw [alose_n]; exact h
      · split
        · unfold OV; rw [alose_n]; exact h
        · split
          · unfold OV; rw [alose_n]; exact h
          · unfold OV
            rw [ago_n, (aring_r (i := 0)).1, (aring_r (i := 0)).2.2.1]
            have e0 : ∀ r : Nat, (aoth a r).1 0 = a.1 0 := fun r => by
              show v2 a.1 6 7 (a.1 6 7 + (r : Int)) 0 = _
              rw [v2_row (by omega)]
            rw [e0, auw_0 hM ht (by have := hn (by omega); omega)]
            intro g
            split at g
            · rename_i g2
              rcases g2 with g2 | g2
              · omega
              · exact g2
            · omega
theorem OV.inL {P : VS} {v : VS} {a : SS} {t : Nat} (hM : MP P v) (hP : PW P) (hA : AW P t 0 a) (h : OV a) (ht : (t : Int) < P 0 1) : ∀ k : Nat, (k : Int) ≤ P 0 0 → OV (ainL P t k a) := by
  intro k
  induction k with
  | zero => intro _; exact h
  | succ k ih =>
    intro hk
    have hT := hP.T
    exact (ih (by omega)).step hM (hA.inL hP ht k (by omega)).nn (by omega)
theorem OV.outL {P : VS} {v : VS} {a : SS} (hM : MP P v) (hP : PW P) (hA : AW P 0 0 a) (h : OV a) : ∀ k : Nat, (k : Int) ≤ P 0 1 → OV (aoutL P k a) := by
  intro k
  induction k with
  | zero => intro _; exact h
  | succ k ih =>
    intro hk
    have hC := hP.C
    exact OV.inL hM hP (hA.outL hP k (by omega)) (ih (by omega)) (by omega) _ (by omega)
def BN (a : SS) : Int := 5 + 12 * a.1 0 0
theorem RB.strike {P : VS} {a : SS} {v : VS} {t c b : Nat} (hP : PW P) (h : RB (BN a) P a v) (hA : AW P t c a) (ho : a.1 0 1 = 0) (ht : (t : Int) < P 0 2) (hc : (c : Int) < P 0 0) (hb : (b : Int) < v 203 43) : RB (BN a + 12) P (ago P (aring P a t c (ent v b)) (a.1 0 0).toNat) (mo_strikesAt v t c (5 * (b : Int))) := by
  have hT := hP.T
  have hC := hP.C
  have hn := hA.nn ho
  have h0 := hA.n
  have hr := h.ring (b := b) hA hn (by omega) (by omega)
  obtain ⟨N, hN⟩ : ∃ N : Nat, a.1 0 0 = N := ⟨(a.1 0 0).toNat, by omega⟩
  have e37 : v 203 37 = N := by rw [h.2.1.n, hN]
  have e35 := h.1.dumb
  have eo := (aring_r (P := P) (a := a) (t := t) (c := c) (i := 0) (x := ent v b)).2.2.1
  rw [auw_0 h.1 (by omega) (by omega)] at eo
  rw [sa_eq, e37, e35, hN, toN]
  unfold ago
  by_cases q : (N : Int) + 1 = 300
  · rw [if_pos q]
    rw [if_pos (Or.inr (by omega))] at eo
    rw [if_pos (Or.inl (by omega))]
    exact hr.mono (by omega)
  · rw [if_neg q]
    rw [if_neg (by omega)] at eo
    by_cases q2 : (N : Int) = P 0 5
    · rw [if_pos q2, if_pos (Or.inr q2)]
      exact hr.mono (by omega)
    · rw [if_neg q2, if_neg (fun g => g.elim (fun g => g eo) q2)]
      obtain ⟨-, -, -, a1, a2, a3, -⟩ := aring_r (P := P) (a := a) (t := t) (c := c) (i := N) (x := ent v b)
      rw [hN, toN, if_pos rfl] at a1 a2 a3
      have k1 : KB b (ent v b).1 (srg v t c (5 * (b : Int))) := by
        refine ⟨?_, ?_⟩
        · rw [srg_203, if_neg (by omega)]; exact hb
        · rw [srg_row (by omega)]; rfl
      have g := RK.goL (B := BN a) (P := P) (a0 := aring P a t c (ent v b)) (b := b) (i := N) (s := t) (c := c) (hh := (ent v b).1) hP a1 ht a2 a3 13 0 (srg v t c (5 * (b : Int))) ⟨hr.mono (by omega), k1⟩ (by have := hP.E; omega) (by omega)
      exact g.1
theorem RB.falls {P : VS} {a : SS} {v : VS} {t c : Nat} (hP : PW P) (h : RB (BN a) P a v) (hA : AW P t c a) (ho : a.1 0 1 = 0) (ht : (t : Int) < P 0 2) (hc : (c : Int) < P 0 0) : RB (BN (avis P a t c)) P (avis P a t c) (mo_falls v t c) := by
  have hT := hP.T
  have hC := hP.C
  have hn := hA.nn ho
  have h0 := hA.n
  have hh := h
  obtain ⟨h1, h2, L, m, h3, h4⟩ := hh
  unfold BN at h3
  have hlen := len_lt (m := m) (L t) 0 (h4.pw t) (fun k hk => ⟨Nat.zero_le _, h4.lt t k hk⟩) (Nat.zero_le _)
  obtain ⟨f1, f2⟩ := falls_none (t := (t : Int)) (c := (c : Int)) (L t) _ 3702 v (h4.ch t (by omega)) (by omega)
  have hdu := h4.du t c (by omega)
  unfold mo_falls
  rw [toN]
  cases hfl : (L t).filter (isC v c) with
  | nil =>
    have ea : avis P a t c = a := by
      unfold avis
      rw [hdu, hfl]
      rfl
    rw [ea, f1 hfl, if_pos rfl]
    exact h
  | cons k0 r =>
    obtain ⟨b, b1, b2, b3⟩ := f2 k0 r hfl
    have hbm := h4.lt t b b2
    have hm := h4.m
    have ed : a.2 t c = ent v k0 :: r.map (ent v) := by rw [hdu, hfl, List.map_cons]
    have ea : avis P a t c = avisL P a t c (ent v k0) (r.map (ent v)) := by
      unfold avis
      rw [ed]
    have hmem := hA.du t c (ent v b) (by rw [ed, b3]; exact abest_mem _ _)
    have hw7 : RB (BN a) P (aoth a r.length) (v2 v 221 7 (v 221 7 + (r.length : Int))) := h.l6 (j := 7) (by omega) (by rw [h2.lo 7 (by omega)])
    have hl6 : ∀ j, j < 7 → RB (BN (alose a r.length j)) P (alose a r.length j) (v2 (v2 v 221 7 (v 221 7 + (r.length : Int))) 221 j ((v2 v 221 7 (v 221 7 + (r.length : Int))) 221 j + 1)) := by
      intro j hj
      have eB : BN (alose a r.length j) = BN a := by unfold BN; rw [alose_n]
      rw [eB]
      refine hw7.l6 (j := j) (by omega) ?_
      rw [v2_eq, if_neg (by omega), h2.lo j (by omega)]
    have e0 : (aoth a r.length).1 0 = a.1 0 := by
      show v2 a.1 6 7 (a.1 6 7 + (r.length : Int)) 0 = _
      rw [v2_row (by omega)]
    have hAo : AW P t c (aoth a r.length) := hA.of (fun k' hk' => by
      show v2 a.1 6 7 (a.1 6 7 + (r.length : Int)) k' = _
      rw [v2_row (by omega)]) rfl
    have e203 : (v2 v 221 7 (v 221 7 + (r.length : Int))) 203 = v 203 := v2_row (by omega)
    have e211 : (v2 v 221 7 (v 221 7 + (r.length : Int))) 211 = v 211 := v2_row (by omega)
    have e225 : (v2 v 221 7 (v 221 7 + (r.length : Int))) 225 = v 225 := v2_row (by omega)
    have e228 : (v2 v 221 7 (v 221 7 + (r.length : Int))) 228 = v 228 := v2_row (by omega)
    have e229 : (v2 v 221 7 (v 221 7 + (r.length : Int))) 229 = v 229 := v2_row (by omega)
    rw [ea, b1]
    simp only
    obtain ⟨w, hw⟩ : ∃ w, w = v2 v 221 7 (v 221 7 + (r.length : Int)) := ⟨_, rfl⟩
    rw [← hw] at hw7 hl6 e203 e211 e225 e228 e229 ⊢
    have een : ent w b = ent v b := by unfold ent; rw [e225]
    have hstr : RB (BN (ago P (aring P (aoth a r.length) t c (ent v b)) (a.1 0 0).toNat)) P (ago P (aring P (aoth a r.length) t c (ent v b)) (a.1 0 0).toNat) (mo_strikesAt w t c (5 * (b : Int))) := by
      have eB : BN (ago P (aring P (aoth a r.length) t c (ent v b)) (a.1 0 0).toNat) = BN (aoth a r.length) + 12 := by
        unfold BN
        rw [ago_n, (aring_r (i := 0)).1]
        omega
      have eB2 : BN (aoth a r.length) = BN a := by unfold BN; rw [e0]
      rw [← eB2] at hw7
      have g := hw7.strike (b := b) hP hAo (by rw [e0]; exact ho) ht hc (by rw [e203, hm]; omega)
      rw [een, e0] at g
      rw [eB]
      exact g
    have e3 : (3 * (c : Int)).toNat = 3 * c := by omega
    have e32 : (3 * (c : Int) + 2).toNat = 3 * c + 2 := by omega
    obtain ⟨l10, l11, l13, l14⟩ := h2.la c (by omega)
    have hmu := h1.mu c hc
    have hre := h1.rest c hc
    have hno := h1.norest
    have hpr := h1.proud c hc
    rw [if_neg (show ¬ ((b : Int) = -1) by omega), e203, e211, e225, e228, e229, toN, e3, e32, t51, l10, l11, hre, ← hmu]
    unfold avisL
    rw [List.length_map, ← b3]
    have key : RB (BN (if a.1 12 c = 1 ∧ P 5 c = 1 ∧ (ent v b).1 ≤ a.1 11 c then alose a r.length 3 else ago P (aring P (aoth a r.length) t c (ent v b)) (a.1 0 0).toNat)) P (if a.1 12 c = 1 ∧ P 5 c = 1 ∧ (ent v b).1 ≤ a.1 11 c then alose a r.length 3 else ago P (aring P (aoth a r.length) t c (ent v b)) (a.1 0 0).toNat) (if v 203 34 = 5 then mo_strikesAt w t c (5 * (b : Int)) else if v 211 (3 * c) = 1 then if a.1 11 c < v 225 (5 * b + 1) then mo_strikesAt w t c (5 * (b : Int)) else v2 w 221 3 (w 221 3 + 1) else mo_strikesAt w t c (5 * (b : Int))) := by
      by_cases q1 : v 203 34 = 5
      · rw [if_pos q1, if_neg (fun g => (hpr.mp g.2.1).2 q1)]
        exact hstr
      · rw [if_neg q1]
        by_cases q2 : v 211 (3 * c) = 1
        · rw [if_pos q2]
          have q3 : P 5 c = 1 := hpr.mpr ⟨q2, q1⟩
          have q4 : (ent v b).1 = v 225 (5 * b + 1) := rfl
          by_cases q5 : a.1 11 c < v 225 (5 * b + 1)
          · rw [if_pos q5, if_neg (by omega)]
            exact hstr
          · have q6 : a.1 12 c = 1 := by
              rcases hA.b c with g | g
              · have := (hA.no c g).2.1
                omega
              · exact g
            rw [if_neg q5, if_pos ⟨q6, q3, by omega⟩]
            exact hl6 3 (by omega)
        · rw [if_neg q2, if_neg (fun g => q2 (hpr.mp g.2.1).1)]
          exact hstr
    by_cases q1 : P 6 c = 1
    · rw [if_pos q1, if_pos q1]
      exact hl6 4 (by omega)
    · rw [if_neg q1, if_neg q1]
      by_cases q2 : v 203 34 = 4
      · rw [if_pos q2, if_neg (fun g => hno.mp g.2.1 q2)]
        exact key
      · rw [if_neg q2]
        by_cases q3 : a.1 10 c = -1
        · have q4 : ¬ a.1 12 c = 1 := fun g => by
            have := (hA.ye c g).1
            omega
          rw [if_pos q3, if_neg (fun g => q4 g.1)]
          exact key
        · have q4 : a.1 12 c = 1 := by
            rcases hA.b c with g | g
            · exact absurd (hA.no c g).1 q3
            · exact g
          rw [if_neg q3]
          by_cases q5 : P 4 c < (t : Int) - a.1 10 c
          · rw [if_pos q5, if_neg (by omega)]
            exact key
          · rw [if_neg q5, if_pos ⟨q4, hno.mpr q2, by omega⟩]
            exact hl6 2 (by omega)
/-! its loops -/
theorem RB.go201 {P : VS} {a0 : SS} {t : Nat} (hP : PW P) (hA : AW P t 0 a0) (hO : OV a0) (ht : (t : Int) < P 0 1) : ∀ (f c : Nat) (v : VS), RB (BN (ainL P t c a0)) P (ainL P t c a0) v → (c : Int) ≤ P 0 0 → 9 < c + f → RB (BN (ainL P t (P 0 0).toNat a0)) P (ainL P t (P 0 0).toNat a0) (mo_goes_201 f v t c) := by
  intro f
  induction f with
  | zero =>
    intro c v h hc hf
    have := hP.C
    omega
  | succ f ih =>
    intro c v h hc hf
    have hT := hP.T
    have hC := hP.C
    have hAc := hA.inL hP ht c hc
    have hOc := hO.inL h.1 hP hA ht c hc
    have c1 : ((c : Int) + 1) = ((c + 1 : Nat) : Int) := by omega
    rw [mo_goes_201, h.1.C, toN, h.2.1.n]
    split
    · rename_i q1
      have hs : ainL P t (c + 1) a0 = astep P (ainL P t c a0) t c := rfl
      split
      · rename_i q2
        have q3 : (ainL P t c a0).1 0 1 = 0 := by
          by_cases g : (ainL P t c a0).1 0 1 = 0
          · exact g
          · have := hOc g
            omega
        have hs2 : astep P (ainL P t c a0) t c = avis P (ainL P t c a0) t c := by
          unfold astep
          rw [if_neg (fun g => g q3)]
        rw [c1]
        split
        · rename_i q4
          refine ih (c + 1) v ?_ (by omega) (by omega)
          obtain ⟨h1, h2, L, m, h3, h4⟩ := h
          have hnil : (ainL P t c a0).2 t c = [] := by
            rw [h4.du t c (by omega)]
            rcases h4.la t (by omega) with g | g
            · rw [g.1]; rfl
            · exact absurd q4 g.1
          rw [hs, astep_nil hnil]
          exact ⟨h1, h2, L, m, h3, h4⟩
        · refine ih (c + 1) _ ?_ (by omega) (by omega)
          rw [hs, hs2]
          exact h.falls hP hAc q3 (by omega) q1
      · rename_i q2
        have q3 : (ainL P t c a0).1 0 1 ≠ 0 := fun g => q2 (hAc.nn g)
        have e := ainL_stay (P := P) (t := t) (a := a0) (c := c) ((P 0 0).toNat - c) (fun k k1 k2 => astep_over q3)
        rw [show c + ((P 0 0).toNat - c) = (P 0 0).toNat by omega] at e
        rw [e]
        exact h
    · rename_i q1
      rw [show (P 0 0).toNat = c by omega]
      exact h
theorem RB.go189 {P : VS} {a0 : SS} (hP : PW P) (hA : AW P 0 0 a0) (hO : OV a0) : ∀ (f t : Nat) (v : VS), RB (BN (aoutL P t a0)) P (aoutL P t a0) v → (t : Int) ≤ P 0 1 → 300 < t + f → RB (BN (aoutL P (P 0 1).toNat a0)) P (aoutL P (P 0 1).toNat a0) (mo_goes_189 f v t) := by
  intro f
  induction f with
  | zero =>
    intro t v h ht hf
    have := hP.T
    omega
  | succ f ih =>
    intro t v h ht hf
    have hT := hP.T
    have hC := hP.C
    have t1 : ((t : Int) + 1) = ((t + 1 : Nat) : Int) := by omega
    rw [mo_goes_189, h.1.S, ← h.1.T]
    split
    · rename_i q1
      rw [t1]
      refine ih (t + 1) _ ?_ (by omega) (by omega)
      have hs : aoutL P (t + 1) a0 = ainL P t (P 0 0).toNat (aoutL P t a0) := rfl
      rw [hs]
      exact RB.go201 hP (hA.outL hP t ht) (hO.outL h.1 hP hA t ht) q1 10 0 v h (by omega) (by omega)
    · rename_i q1
      rw [show (P 0 1).toNat = t by omega]
      exact h
theorem RB.go139 {P : VS} (hP : PW P) : ∀ (f k : Nat) (v : VS), RB k P (abegL P k anil) v → (k : Int) ≤ P 0 9 → 5 < k + f → RB 5 P (abegL P (P 0 9).toNat anil) (mo_goes_139 f v (v 203 32 + k)) := by
  intro f
  induction f with
  | zero =>
    intro k v h hk hf
    have := hP.ns
    omega
  | succ f ih =>
    intro k v h hk hf
    have hns := hP.ns
    have hT := hP.T
    have e33 := h.1.nst
    have h32 := h.1.s0
    rw [mo_goes_139, e33]
    split
    · rename_i q1
      obtain ⟨s1, s2, s3⟩ := h.1.st k (by omega)
      obtain ⟨b1, b2, b3⟩ := hP.st k (by omega)
      rw [show (3 * (v 203 32 + (k : Int)) + 1).toNat = 3 * ((v 203 32).toNat + k) + 1 by omega, show (3 * (v 203 32 + (k : Int))).toNat = 3 * ((v 203 32).toNat + k) by omega, show (3 * (v 203 32 + (k : Int)) + 2).toNat = 3 * ((v 203 32).toNat + k) + 2 by omega, s1, s2, s3]
      have g := h.put (t := (P 8 k).toNat) (c := (P 9 k).toNat) (h := P 10 k) (y := -1) (e := -1) (by omega)
      rw [show (((P 8 k).toNat : Nat) : Int) = P 8 k by omega, show (((P 9 k).toNat : Nat) : Int) = P 9 k by omega] at g
      have g2 := ih (k + 1) _ (show RB ((k + 1 : Nat) : Int) P (abegL P (k + 1) anil) _ from g.mono (by omega)) (by omega) (by omega)
      rw [f_puts (by omega), show v 203 32 + ((k + 1 : Nat) : Int) = v 203 32 + (k : Int) + 1 by omega] at g2
      exact g2
    · rename_i q1
      rw [show (P 0 9).toNat = k by omega]
      exact h.mono (by omega)
theorem go16_z {j : Nat} (hj : j < 8) : ∀ (f : Nat) (v : VS) (t : Int), 0 ≤ t → 8 < t + f → (t ≤ j ∨ v 221 j = 0) → (mo_goes_16 f v t) 221 j = 0 := by
  intro f
  induction f with
  | zero => intro v t h0 h1 h2; rcases h2 with h2 | h2; omega; exact h2
  | succ f ih =>
    intro v t h0 h1 h2
    rw [mo_goes_16]
    by_cases hk : t < 8
    · rw [if_pos hk]
      refine ih _ _ (by omega) (by omega) ?_
      rw [v2_eq]
      by_cases e : j = t.toNat
      · rw [if_pos ⟨rfl, e⟩]; exact Or.inr rfl
      · rw [if_neg (fun g => e g.2)]
        rcases h2 with h2 | h2
        · exact Or.inl (by omega)
        · exact Or.inr h2
    · rw [if_neg hk]; rcases h2 with h2 | h2; omega; exact h2
theorem go37_z {j : Nat} (hj : j < 12) : ∀ (f : Nat) (v : VS) (t : Int), 0 ≤ t → 12 < t + f → (t ≤ j ∨ (v 222 j = 0 ∧ v 223 j = 0 ∧ v 224 j = 0)) → (mo_goes_37 f v t) 222 j = 0 ∧ (mo_goes_37 f v t) 223 j = 0 ∧ (mo_goes_37 f v t) 224 j = 0 := by
  intro f
  induction f with
  | zero => intro v t h0 h1 h2; rcases h2 with h2 | h2; omega; exact h2
  | succ f ih =>
    intro v t h0 h1 h2
    rw [mo_goes_37]
    by_cases hk : t < 12
    · rw [if_pos hk]
      refine ih _ _ (by omega) (by omega) ?_
      by_cases e : j = t.toNat
      · right
        subst e
        simp [v2_eq]
      · rcases h2 with h2 | h2
        · exact Or.inl (by omega)
        · right
          simp only [v2_eq]
          rw [if_neg (by omega), if_neg (by omega), if_neg (by omega), if_neg (by omega), if_neg (by omega), if_neg (by omega), if_neg (by omega), if_neg (by omega), if_neg (by omega)]
          exact h2
    · rw [if_neg hk]; rcases h2 with h2 | h2; omega; exact h2
theorem go72_z {j : Nat} (hj : j < 300) : ∀ (f : Nat) (v : VS) (t : Int), 0 ≤ t → 300 < t + f → (t ≤ j ∨ v 226 j = -1) → (mo_goes_72 f v t) 226 j = -1 := by
  intro f
  induction f with
  | zero => intro v t h0 h1 h2; rcases h2 with h2 | h2; omega; exact h2
  | succ f ih =>
    intro v t h0 h1 h2
    rw [mo_goes_72]
    by_cases hk : t < 300
    · rw [if_pos hk]
      refine ih _ _ (by omega) (by omega) ?_
      rw [v2_eq]
      by_cases e : j = t.toNat
      · rw [if_pos ⟨rfl, e⟩]; exact Or.inr rfl
      · rw [if_neg (fun g => e g.2)]
        rcases h2 with h2 | h2
        · exact Or.inl (by omega)
        · exact Or.inr h2
    · rw [if_neg hk]; rcases h2 with h2 | h2; omega; exact h2
theorem go94_z {j : Nat} (hj : j < 9) : ∀ (f : Nat) (v : VS) (t : Int), 0 ≤ t → 9 < t + f → (t ≤ j ∨ (v 228 j = -1 ∧ v 229 j = 0 ∧ v 230 j = -1 ∧ v 231 j = 0)) → (mo_goes_94 f v t) 228 j = -1 ∧ (mo_goes_94 f v t) 229 j = 0 ∧ (mo_goes_94 f v t) 230 j = -1 ∧ (mo_goes_94 f v t) 231 j = 0 := by
  intro f
  induction f with
  | zero => intro v t h0 h1 h2; rcases h2 with h2 | h2; omega; exact h2
  | succ f ih =>
    intro v t h0 h1 h2
    rw [mo_goes_94]
    by_cases hk : t < 9
    · rw [if_pos hk]
      refine ih _ _ (by omega) (by omega) ?_
      by_cases e : j = t.toNat
      · right
        subst e
        simp [v2_eq]
      · rcases h2 with h2 | h2
        · exact Or.inl (by omega)
        · right
          simp only [v2_eq]
          rw [if_neg (by omega), if_neg (by omega), if_neg (by omega), if_neg (by omega), if_neg (by omega), if_neg (by omega), if_neg (by omega), if_neg (by omega), if_neg (by omega), if_neg (by omega), if_neg (by omega), if_neg (by omega), if_neg (by omega), if_neg (by omega), if_neg (by omega), if_neg (by omega)]
          exact h2
    · rw [if_neg hk]; rcases h2 with h2 | h2; omega; exact h2
/-- the reference's run holds the run of the bay -/
theorem goes_RB {P : VS} {v : VS} (hP : PW P) (hM : MP P (mo_laysWinds v)) : RB (BN (arun P)) P (arun P) (mo_goes v) := by
  have hA := AW.beg hP
  have hO : OV (abeg P) := by
    unfold OV abeg
    rw [abegL_1]
    intro g
    exact absurd rfl g
  unfold mo_goes mo_goes_35 mo_goes_70 mo_goes_92 mo_goes_134
  obtain ⟨u, hu⟩ : ∃ u, u = mo_laysWinds v := ⟨_, rfl⟩
  rw [← hu] at hM ⊢
  obtain ⟨w, hw⟩ : ∃ w, w = mo_goes_94 10 (mo_goes_72 301 (mo_goes_37 13 (mo_goes_16 9 (v2 (v2 u 203 37 0) 203 43 0) 0) 0) 0) 0 := ⟨_, rfl⟩
  have e203 : ∀ j : Nat, w 203 j = if j = 43 then 0 else if j = 37 then 0 else u 203 j := by
    intro j
    rw [hw, o_mo_goes_94 (by omega), o_mo_goes_72 (by omega), o_mo_goes_37 (by omega), o_mo_goes_16 (by omega), v2_eq, v2_eq]
    by_cases q1 : j = 43
    · rw [if_pos ⟨rfl, q1⟩, if_pos q1]
    · rw [if_neg (fun g => q1 g.2), if_neg q1]
      by_cases q2 : j = 37
      · rw [if_pos ⟨rfl, q2⟩, if_pos q2]
      · rw [if_neg (fun g => q2 g.2), if_neg q2]
  have erow : ∀ k : Nat, 209 ≤ k → k ≤ 219 → w k = u k := by
    intro k k1 k2
    rw [hw, o_mo_goes_94 (by omega), o_mo_goes_72 (by omega), o_mo_goes_37 (by omega), o_mo_goes_16 (by omega), v2_row (by omega), v2_row (by omega)]
  have hMw : MP P w := hM.of erow (fun j a b => by rw [e203, if_neg (by omega), if_neg (by omega)])
  have hw0 : RB 0 P (abegL P 0 anil) w := by
    refine ⟨hMw, ⟨?_, ?_, ?_, ?_, ?_⟩, fun _ => [], 0, by omega, ?_⟩
    · rw [e203, if_neg (by omega), if_pos rfl]
      rfl
    · intro k i hk hi
      have hi : (i : Int) < 0 := hi
      omega
    · intro j hj
      rw [hw, o_mo_goes_94 (by omega), o_mo_goes_72 (by omega), o_mo_goes_37 (by omega), go16_z hj _ _ _ (by omega) (by omega) (Or.inl (by omega))]
      rfl
    · intro e he
      rw [hw, o_mo_goes_94 (by omega), o_mo_goes_72 (by omega), o_mo_goes_94 (by omega), o_mo_goes_72 (by omega), o_mo_goes_94 (by omega), o_mo_goes_72 (by omega)]
      exact go37_z he _ _ _ (by omega) (by omega) (Or.inl (by omega))
    · intro c hc
      rw [hw]
      exact go94_z hc _ _ _ (by omega) (by omega) (Or.inl (by omega))
    · have h226 : ∀ t : Nat, t < 300 → w 226 t = -1 := by
        intro t ht
        rw [hw, o_mo_goes_94 (by omega)]
        exact go72_z ht _ _ _ (by omega) (by omega) (Or.inl (by omega))
      refine ⟨?_, fun t ht => h226 t ht, fun t ht => Or.inl ⟨rfl, h226 t ht⟩, fun t k hk => by simp at hk, fun t t' k hk => by simp at hk, fun t => List.Pairwise.nil, fun t c ht => rfl⟩
      rw [e203, if_pos rfl]
      rfl
  have h1 := RB.go139 hP 6 0 w hw0 (by have := hP.ns; omega) (by omega)
  rw [show w 203 32 + ((0 : Nat) : Int) = w 203 32 by omega] at h1
  rw [← hw]
  have eB : BN (aoutL P 0 (abeg P)) = 5 := by
    show 5 + 12 * (abeg P).1 0 0 = 5
    unfold abeg
    rw [abegL_1]
    rfl
  have h2 := RB.go189 hP hA hO 301 0 _ (show RB (BN (aoutL P 0 (abeg P))) P (aoutL P 0 (abeg P)) (mo_goes_139 6 w (w 203 32)) by rw [eB]; exact h1) (by have := hP.T; omega) (by omega)
  exact h2
theorem run_RM {P : VS} {v : VS} (hP : PW P) (hM : MP P (mo_laysWinds v)) : RM (arun P) (mo_run v) := by
  rw [mo_run_eq]
  exact (goes_RB hP hM).2.1
