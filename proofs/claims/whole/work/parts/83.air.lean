/-! the air as it is told -/
def WB (n : Int) (f : Nat → Int) (t : Nat) (g : Int) : Prop :=
  (-1 ≤ g ∧ g < n) ∧
  (g = -1 → ∀ k : Nat, (k : Int) < n → (t : Int) < f k) ∧
  (g ≠ -1 → f g.toNat ≤ t) ∧
  (g ≠ -1 → ∀ k : Nat, (k : Int) < n → f k ≤ t → f k < f g.toNat ∨ (f k = f g.toNat ∧ (k : Int) ≤ g))
theorem WB.r {n : Int} {f : Nat → Int} {t : Nat} {g : Int} (h : WB n f t g) : -1 ≤ g ∧ g < n := h.1
theorem WB.no {n : Int} {f : Nat → Int} {t : Nat} {g : Int} (h : WB n f t g) : g = -1 → ∀ k : Nat, (k : Int) < n → (t : Int) < f k := h.2.1
theorem WB.le {n : Int} {f : Nat → Int} {t : Nat} {g : Int} (h : WB n f t g) : g ≠ -1 → f g.toNat ≤ t := h.2.2.1
theorem WB.mx {n : Int} {f : Nat → Int} {t : Nat} {g : Int} (h : WB n f t g) : g ≠ -1 → ∀ k : Nat, (k : Int) < n → f k ≤ t → f k < f g.toNat ∨ (f k = f g.toNat ∧ (k : Int) ≤ g) := h.2.2.2
theorem WB.uniq {n : Int} {f : Nat → Int} {t : Nat} {g g' : Int} (h : WB n f t g) (h' : WB n f t g') : g = g' := by
  have r := h.r
  have r' := h'.r
  by_cases q : g = -1
  · by_cases q' : g' = -1
    · omega
    · have a := h.no q g'.toNat (by omega)
      have b := h'.le q'
      omega
  · by_cases q' : g' = -1
    · have a := h'.no q' g.toNat (by omega)
      have b := h.le q
      omega
    · have a := h.mx q g'.toNat (by omega) (h'.le q')
      have b := h'.mx q' g.toNat (by omega) (h.le q)
      omega
def AIR (v : VS) : Prop :=
  (∀ t : Nat, (t : Int) < v 33 1 → ∃ g : Int, WB (v 46 0) (v 48) t g ∧ v 63 t = if g = -1 then 0 else v 47 g.toNat) ∧
  (∀ e t : Nat, e < 12 → t < 300 → (bt (v 64 t) e = 1 ↔ ∃ i : Nat, (i : Int) < v 50 0 ∧ v 51 i = e ∧ v 52 i ≤ t ∧ (t : Int) ≤ v 53 i)) ∧
  (∀ c t : Nat, c < 9 → t < 300 → (bt (v 65 t) c = 1 ↔ ∃ i : Nat, (i : Int) < v 54 0 ∧ v 55 i = c ∧ v 56 i ≤ t ∧ (t : Int) ≤ v 57 i)) ∧
  (∀ c t : Nat, c < 9 → t < 300 → (bt (v 66 t) c = 1 ↔ ∃ i : Nat, (i : Int) < v 58 0 ∧ v 59 i = c ∧ v 60 i ≤ t ∧ (t : Int) ≤ v 61 i))
theorem AIR.w {v : VS} (h : AIR v) : ∀ t : Nat, (t : Int) < v 33 1 → ∃ g : Int, WB (v 46 0) (v 48) t g ∧ v 63 t = if g = -1 then 0 else v 47 g.toNat := h.1
theorem AIR.f {v : VS} (h : AIR v) : ∀ e t : Nat, e < 12 → t < 300 → (bt (v 64 t) e = 1 ↔ ∃ i : Nat, (i : Int) < v 50 0 ∧ v 51 i = e ∧ v 52 i ≤ t ∧ (t : Int) ≤ v 53 i) := h.2.1
theorem AIR.d {v : VS} (h : AIR v) : ∀ c t : Nat, c < 9 → t < 300 → (bt (v 65 t) c = 1 ↔ ∃ i : Nat, (i : Int) < v 54 0 ∧ v 55 i = c ∧ v 56 i ≤ t ∧ (t : Int) ≤ v 57 i) := h.2.2.1
theorem AIR.u {v : VS} (h : AIR v) : ∀ c t : Nat, c < 9 → t < 300 → (bt (v 66 t) c = 1 ↔ ∃ i : Nat, (i : Int) < v 58 0 ∧ v 59 i = c ∧ v 60 i ≤ t ∧ (t : Int) ≤ v 61 i) := h.2.2.2
theorem AIR.of {v v' : VS} (h : AIR v) (e : ∀ k, 33 ≤ k → k ≤ 66 → v' k = v k) : AIR v' := by
  unfold AIR at *
  rw [e 33 (by omega) (by omega), e 46 (by omega) (by omega), e 47 (by omega) (by omega), e 48 (by omega) (by omega), e 50 (by omega) (by omega), e 51 (by omega) (by omega), e 52 (by omega) (by omega), e 53 (by omega) (by omega), e 54 (by omega) (by omega), e 55 (by omega) (by omega), e 56 (by omega) (by omega), e 57 (by omega) (by omega), e 58 (by omega) (by omega), e 59 (by omega) (by omega), e 60 (by omega) (by omega), e 61 (by omega) (by omega), e 63 (by omega) (by omega), e 64 (by omega) (by omega), e 65 (by omega) (by omega), e 66 (by omega) (by omega)]
  exact h
/-- the class's winds: the last told of a second -/
theorem blow48 {v : VS} {s : Int} : ∀ (f : Nat) (n : Int) (i : Nat), (i : Int) ≤ v 46 0 → v 46 0 < i + f →
    ((∀ k : Nat, i ≤ k → (k : Int) < v 46 0 → v 48 k ≠ s) → cl_blow_48 f v n s i = n) ∧
    (∀ g : Nat, i ≤ g → (g : Int) < v 46 0 → v 48 g = s → (∀ k : Nat, g < k → (k : Int) < v 46 0 → v 48 k ≠ s) → cl_blow_48 f v n s i = v 47 g) := by
  intro f
  induction f with
  | zero => intro n i h1 h2; omega
  | succ f ih =>
    intro n i h1 h2
    rw [cl_blow_48, toN, show ((i : Int) + 1) = ((i + 1 : Nat) : Int) by omega]
    by_cases q : (i : Int) < v 46 0
    · rw [if_pos q]
      by_cases q2 : v 48 i = s
      · rw [if_pos q2]
        obtain ⟨j1, j2⟩ := ih (v 47 i) (i + 1) (by omega) (by omega)
        refine ⟨fun h => absurd q2 (h i (by omega) q), fun g g1 g2 g3 g4 => ?_⟩
        by_cases q3 : g = i
        · subst q3
          exact j1 (fun k k1 k2 => g4 k (by omega) k2)
        · exact j2 g (by omega) g2 g3 g4
      · rw [if_neg q2]
        obtain ⟨j1, j2⟩ := ih n (i + 1) (by omega) (by omega)
        refine ⟨fun h => j1 (fun k k1 k2 => h k (by omega) k2), fun g g1 g2 g3 g4 => ?_⟩
        by_cases q3 : g = i
        · subst q3; exact absurd g3 q2
        · exact j2 g (by omega) g2 g3 g4
    · rw [if_neg q]
      exact ⟨fun _ => rfl, fun g g1 g2 => by omega⟩
theorem lastOf {f : Nat → Int} {s : Int} : ∀ n : Nat, (∀ k : Nat, k < n → f k ≠ s) ∨ ∃ g : Nat, g < n ∧ f g = s ∧ ∀ k : Nat, g < k → k < n → f k ≠ s := by
  intro n
  induction n with
  | zero => exact Or.inl (fun k hk => by omega)
  | succ n ih =>
    by_cases q : f n = s
    · exact Or.inr ⟨n, by omega, q, fun k k1 k2 => by omega⟩
    · rcases ih with ih | ⟨g, g1, g2, g3⟩
      · left
        intro k hk
        by_cases e : k = n
        · rw [e]; exact q
        · exact ih k (by omega)
      · right
        refine ⟨g, by omega, g2, fun k k1 k2 => ?_⟩
        by_cases e : k = n
        · rw [e]; exact q
        · exact g3 k k1 (by omega)
theorem blow37 : ∀ (f s : Nat) (n : Int) (v : VS), XI v → v 33 1 < s + f →
    (s = 0 → n = 0) → (∀ s' : Nat, s = s' + 1 → ∃ g : Int, WB (v 46 0) (v 48) s' g ∧ n = if g = -1 then 0 else v 47 g.toNat) →
    (∀ t : Nat, t < s → (cl_blow_37 f v n s) 63 t = v 63 t) ∧
    (∀ t : Nat, s ≤ t → (t : Int) < v 33 1 → ∃ g : Int, WB (v 46 0) (v 48) t g ∧ (cl_blow_37 f v n s) 63 t = if g = -1 then 0 else v 47 g.toNat) := by
  intro f
  induction f with
  | zero =>
    intro s n v hX hf h0 h1
    refine ⟨fun t ht => rfl, fun t t1 t2 => by omega⟩
  | succ f ih =>
    intro s n v hX hf h0 h1
    have hW : 0 ≤ v 46 0 ∧ v 46 0 ≤ 6 := hX 46 0
    have h48 : ∀ k : Nat, 0 ≤ v 48 k ∧ v 48 k ≤ 299 := fun k => hX 48 k
    rw [cl_blow_37, toN, show ((s : Int) + 1) = ((s + 1 : Nat) : Int) by omega]
    by_cases q : (s : Int) < v 33 1
    · rw [if_pos q]
      obtain ⟨b1, b2⟩ := blow48 (v := v) (s := (s : Int)) 7 n 0 (by omega) (by omega)
      have hnew : ∃ g : Int, WB (v 46 0) (v 48) s g ∧ cl_blow_48 7 v n s 0 = if g = -1 then 0 else v 47 g.toNat := by
        rcases lastOf (f := v 48) (s := (s : Int)) (v 46 0).toNat with c1 | ⟨g, c1, c2, c3⟩
        · have e : cl_blow_48 7 v n s 0 = n := b1 (fun k k1 k2 => c1 k (by omega))
          rw [e]
          by_cases z : s = 0
          · refine ⟨-1, ⟨by omega, fun _ k hk => ?_, fun g => absurd rfl g, fun g => absurd rfl g⟩, ?_⟩
            · have := c1 k (by omega)
              have := h48 k
              omega
            · rw [if_pos rfl]; exact h0 z
          · obtain ⟨s', hs'⟩ : ∃ s', s = s' + 1 := ⟨s - 1, by omega⟩
            obtain ⟨g, hg, hn⟩ := h1 s' hs'
            refine ⟨g, ⟨hg.r, fun a k hk => ?_, fun a => ?_, fun a k hk hle => ?_⟩, hn⟩
            · have := hg.no a k hk
              have := c1 k (by omega)
              omega
            · have := hg.le a
              omega
            · have := c1 k (by omega)
              exact hg.mx a k hk (by omega)
        · have e : cl_blow_48 7 v n s 0 = v 47 g := b2 g (by omega) (by omega) c2 (fun k k1 k2 => c3 k k1 (by omega))
          refine ⟨(g : Int), ⟨by omega, fun a => by omega, fun a => ?_, fun a k hk hle => ?_⟩, ?_⟩
          · rw [toN, c2]
            exact Int.le_refl _
          · rw [toN, c2]
            by_cases z : v 48 k = s
            · refine Or.inr ⟨z, ?_⟩
              by_cases z2 : g < k
              · exact absurd z (c3 k z2 (by omega))
              · omega
            · exact Or.inl (by omega)
          · rw [e, if_neg (by omega), toN]
      obtain ⟨x, hx⟩ : ∃ x, x = cl_blow_48 7 v n s 0 := ⟨_, rfl⟩
      rw [← hx] at hnew
      have e0 : cl_blow_48 7 v n (s : Int) 0 = x := hx.symm
      rw [e0]
      have hx63 : inn (bd 63 s) x := by
        obtain ⟨g, -, hg⟩ := hnew
        show -20 ≤ x ∧ x ≤ 20
        have h47 : -20 ≤ v 47 g.toNat ∧ v 47 g.toNat ≤ 20 := hX 47 g.toNat
        rw [hg]
        split <;> omega
      have r : ∀ k, k ≠ 63 → (v2 v 63 s x) k = v k := fun k hk => v2_row hk
      obtain ⟨j1, j2⟩ := ih (s + 1) x (v2 v 63 s x) (hX.put hx63) (by rw [r 33 (by omega)]; omega) (fun g => by omega) (fun s' hs' => by
        have : s' = s := by omega
        subst this
        rw [r 46 (by omega), r 48 (by omega), r 47 (by omega)]
        exact hnew)
      rw [r 33 (by omega), r 46 (by omega), r 48 (by omega), r 47 (by omega)] at j2
      refine ⟨fun t ht => ?_, fun t t1 t2 => ?_⟩
      · rw [j1 t (by omega), v2_eq, if_neg (by omega)]
      · by_cases z : t = s
        · subst z
          rw [j1 t (by omega), v2_eq, if_pos ⟨rfl, rfl⟩]
          exact hnew
        · exact j2 t (by omega) t2
    · rw [if_neg q]
      exact ⟨fun t ht => rfl, fun t t1 t2 => by omega⟩
