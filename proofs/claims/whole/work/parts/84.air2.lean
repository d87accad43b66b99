theorem sp64_22 : ∀ (f s : Nat) (v : VS) (i : Nat), (∀ t, 0 ≤ v 64 t ∧ v 64 t ≤ 4095) → (0 ≤ v 51 i ∧ v 51 i < 12) → 300 < s + f → (∀ t, 0 ≤ (cl_spread64_22 f v i s) 64 t ∧ (cl_spread64_22 f v i s) 64 t ≤ 4095) ∧ ∀ t e : Nat, t < 300 → e < 12 → (bt ((cl_spread64_22 f v i s) 64 t) e = 1 ↔ bt (v 64 t) e = 1 ∨ (s ≤ t ∧ (t : Int) ≤ v 53 i ∧ v 51 i = e)) := by
  intro f
  induction f with
  | zero => intro s v i hb ho hf; exact ⟨hb, fun t e ht he => ⟨Or.inl, fun g => g.elim id (fun g => by omega)⟩⟩
  | succ f ih =>
    intro s v i hb ho hf
    rw [cl_spread64_22, toN, toN, show ((s : Int) + 1) = ((s + 1 : Nat) : Int) by omega]
    by_cases q : v 53 i < s
    · rw [if_pos q]
      exact ⟨hb, fun t e ht he => ⟨Or.inl, fun g => g.elim id (fun g => by omega)⟩⟩
    · rw [if_neg q]
      by_cases q2 : (s : Int) < 300
      · rw [if_pos q2]
        obtain ⟨o, ho'⟩ : ∃ o : Nat, v 51 i = o := ⟨(v 51 i).toNat, by omega⟩
        have hs := setb_in (x := v 64 s) (c := v 51 i) (k := 12) (by have := hb s; omega) (by omega)
        have r : ∀ k, k ≠ 64 → (v2 v 64 s (setb (v 64 s) (v 51 i))) k = v k := fun k hk => v2_row hk
        obtain ⟨j1, j2⟩ := ih (s + 1) (v2 v 64 s (setb (v 64 s) (v 51 i))) i (fun t => by
          rw [v2_eq]
          split
          · omega
          · exact hb t) (by rw [r 51 (by omega)]; exact ho) (by omega)
        refine ⟨j1, fun t e ht he => ?_⟩
        rw [j2 t e ht he, r 51 (by omega), r 53 (by omega), v2_eq]
        by_cases q3 : t = s
        · subst q3
          rw [if_pos ⟨rfl, rfl⟩, ho', bt_setb (by have := hb t; omega) (by omega)]
          by_cases q4 : o = e
          · rw [if_pos q4]
            exact ⟨fun _ => Or.inr ⟨by omega, by omega, by omega⟩, fun _ => Or.inl rfl⟩
          · rw [if_neg q4]
            exact ⟨fun g => g.elim Or.inl (fun g => by omega), fun g => g.elim Or.inl (fun g => by omega)⟩
        · rw [if_neg (fun g => q3 g.2)]
          exact ⟨fun g => g.elim Or.inl (fun g => Or.inr ⟨by omega, g.2⟩), fun g => g.elim Or.inl (fun g => Or.inr ⟨by omega, g.2⟩)⟩
      · rw [if_neg q2]
        exact ⟨hb, fun t e ht he => ⟨Or.inl, fun g => g.elim id (fun g => by omega)⟩⟩
theorem sp64_7 : ∀ (f i : Nat) (v : VS), XI v → (∀ t, 0 ≤ v 64 t ∧ v 64 t ≤ 4095) → v 50 0 < i + f → ∀ t e : Nat, t < 300 → e < 12 → (bt ((cl_spread64_7 f v i) 64 t) e = 1 ↔ bt (v 64 t) e = 1 ∨ ∃ j : Nat, i ≤ j ∧ (j : Int) < v 50 0 ∧ v 51 j = e ∧ v 52 j ≤ t ∧ (t : Int) ≤ v 53 j) := by
  intro f
  induction f with
  | zero => intro i v hX hb hf t e ht he; exact ⟨Or.inl, fun g => g.elim id (fun ⟨j, g⟩ => by omega)⟩
  | succ f ih =>
    intro i v hX hb hf t e ht he
    rw [cl_spread64_7, toN, show ((i : Int) + 1) = ((i + 1 : Nat) : Int) by omega]
    by_cases q : (i : Int) < v 50 0
    · rw [if_pos q]
      have hO : 0 ≤ v 51 i ∧ v 51 i ≤ 11 := hX 51 i
      have hF : 0 ≤ v 52 i ∧ v 52 i ≤ 299 := hX 52 i
      obtain ⟨s, hs⟩ : ∃ s : Nat, v 52 i = s := ⟨(v 52 i).toNat, by omega⟩
      rw [hs]
      obtain ⟨a1, a2⟩ := sp64_22 301 s v i hb (by omega) (by omega)
      have r : ∀ k, k ≠ 64 → (cl_spread64_22 301 v i s) k = v k := fun k hk => o_cl_spread64_22 (by omega)
      have hX2 : XI (cl_spread64_22 301 v i s) := by
        intro k j
        by_cases e : k = 64
        · subst e
          exact a1 j
        · rw [r k e]; exact hX k j
      rw [ih (i + 1) _ hX2 a1 (by rw [r 50 (by omega)]; omega) t e ht he, a2 t e ht he, r 50 (by omega), r 51 (by omega), r 52 (by omega), r 53 (by omega)]
      constructor
      · rintro ((g | g) | ⟨j, g⟩)
        · exact Or.inl g
        · exact Or.inr ⟨i, by omega, q, g.2.2, by omega, g.2.1⟩
        · exact Or.inr ⟨j, by omega, g.2⟩
      · rintro (g | ⟨j, g⟩)
        · exact Or.inl (Or.inl g)
        · by_cases z : j = i
          · subst z
            exact Or.inl (Or.inr ⟨by omega, g.2.2.2.2, g.2.2.1⟩)
          · exact Or.inr ⟨j, by omega, g.2⟩
    · rw [if_neg q]
      exact ⟨Or.inl, fun g => g.elim id (fun ⟨j, g⟩ => by omega)⟩
theorem sp64_ok {v : VS} (hX : XI v) (t e : Nat) (ht : t < 300) (he : e < 12) : bt ((cl_spread64 v) 64 t) e = 1 ↔ ∃ j : Nat, (j : Int) < v 50 0 ∧ v 51 j = e ∧ v 52 j ≤ t ∧ (t : Int) ≤ v 53 j := by
  have hN : 0 ≤ v 50 0 ∧ v 50 0 ≤ 6 := hX 50 0
  have r : ∀ k, k ≠ 64 → (jf_64 v 0) k = v k := fun k hk => vfill_row hk
  have z : ∀ t, t < 300 → (jf_64 v 0) 64 t = 0 := fun t ht => by
    show vfill v 64 300 0 64 t = 0
    simp [vfill, fset_at, ht]
  have hX2 : XI (jf_64 v 0) := by
    intro k j
    by_cases e : k = 64
    · subst e
      by_cases q : j < 300
      · rw [z j q]
        show (0 : Int) ≤ 0 ∧ (0 : Int) ≤ _
        omega
      · have e2 : (jf_64 v 0) 64 j = v 64 j := by
          show vfill v 64 300 0 64 j = _
          simp [vfill, fset_at, q]
        rw [e2]
        exact hX 64 j
    · rw [r k e]; exact hX k j
  have hb : ∀ t, 0 ≤ (jf_64 v 0) 64 t ∧ (jf_64 v 0) 64 t ≤ 4095 := fun t => by
    exact hX2 64 t
  have q := sp64_7 7 0 (jf_64 v 0) hX2 hb (by rw [r 50 (by omega)]; omega) t e ht he
  unfold cl_spread64
  rw [show ((0 : Nat) : Int) = 0 from rfl] at q
  rw [q, z t ht, bt_0, r 50 (by omega), r 51 (by omega), r 52 (by omega), r 53 (by omega)]
  constructor
  · rintro (g | ⟨j, g⟩)
    · omega
    · exact ⟨j, g.2⟩
  · rintro ⟨j, g⟩
    exact Or.inr ⟨j, by omega, g⟩
theorem sp65_22 : ∀ (f s : Nat) (v : VS) (i : Nat), (∀ t, 0 ≤ v 65 t ∧ v 65 t ≤ 511) → (0 ≤ v 55 i ∧ v 55 i < 9) → 300 < s + f → (∀ t, 0 ≤ (cl_spread65_22 f v i s) 65 t ∧ (cl_spread65_22 f v i s) 65 t ≤ 511) ∧ ∀ t e : Nat, t < 300 → e < 9 → (bt ((cl_spread65_22 f v i s) 65 t) e = 1 ↔ bt (v 65 t) e = 1 ∨ (s ≤ t ∧ (t : Int) ≤ v 57 i ∧ v 55 i = e)) := by
  intro f
  induction f with
  | zero => intro s v i hb ho hf; exact ⟨hb, fun t e ht he => ⟨Or.inl, fun g => g.elim id (fun g => by omega)⟩⟩
  | succ f ih =>
    intro s v i hb ho hf
    rw [cl_spread65_22, toN, toN, show ((s : Int) + 1) = ((s + 1 : Nat) : Int) by omega]
    by_cases q : v 57 i < s
    · rw [if_pos q]
      exact ⟨hb, fun t e ht he => ⟨Or.inl, fun g => g.elim id (fun g => by omega)⟩⟩
    · rw [if_neg q]
      by_cases q2 : (s : Int) < 300
      · rw [if_pos q2]
        obtain ⟨o, ho'⟩ : ∃ o : Nat, v 55 i = o := ⟨(v 55 i).toNat, by omega⟩
        have hs := setb_in (x := v 65 s) (c := v 55 i) (k := 9) (by have := hb s; omega) (by omega)
        have r : ∀ k, k ≠ 65 → (v2 v 65 s (setb (v 65 s) (v 55 i))) k = v k := fun k hk => v2_row hk
        obtain ⟨j1, j2⟩ := ih (s + 1) (v2 v 65 s (setb (v 65 s) (v 55 i))) i (fun t => by
          rw [v2_eq]
          split
          · omega
          · exact hb t) (by rw [r 55 (by omega)]; exact ho) (by omega)
        refine ⟨j1, fun t e ht he => ?_⟩
        rw [j2 t e ht he, r 55 (by omega), r 57 (by omega), v2_eq]
        by_cases q3 : t = s
        · subst q3
          rw [if_pos ⟨rfl, rfl⟩, ho', bt_setb (by have := hb t; omega) (by omega)]
          by_cases q4 : o = e
          · rw [if_pos q4]
            exact ⟨fun _ => Or.inr ⟨by omega, by omega, by omega⟩, fun _ => Or.inl rfl⟩
          · rw [if_neg q4]
            exact ⟨fun g => g.elim Or.inl (fun g => by omega), fun g => g.elim Or.inl (fun g => by omega)⟩
        · rw [if_neg (fun g => q3 g.2)]
          exact ⟨fun g => g.elim Or.inl (fun g => Or.inr ⟨by omega, g.2⟩), fun g => g.elim Or.inl (fun g => Or.inr ⟨by omega, g.2⟩)⟩
      · rw [if_neg q2]
        exact ⟨hb, fun t e ht he => ⟨Or.inl, fun g => g.elim id (fun g => by omega)⟩⟩
theorem sp65_7 : ∀ (f i : Nat) (v : VS), XI v → (∀ t, 0 ≤ v 65 t ∧ v 65 t ≤ 511) → v 54 0 < i + f → ∀ t e : Nat, t < 300 → e < 9 → (bt ((cl_spread65_7 f v i) 65 t) e = 1 ↔ bt (v 65 t) e = 1 ∨ ∃ j : Nat, i ≤ j ∧ (j : Int) < v 54 0 ∧ v 55 j = e ∧ v 56 j ≤ t ∧ (t : Int) ≤ v 57 j) := by
  intro f
  induction f with
  | zero => intro i v hX hb hf t e ht he; exact ⟨Or.inl, fun g => g.elim id (fun ⟨j, g⟩ => by omega)⟩
  | succ f ih =>
    intro i v hX hb hf t e ht he
    rw [cl_spread65_7, toN, show ((i : Int) + 1) = ((i + 1 : Nat) : Int) by omega]
    by_cases q : (i : Int) < v 54 0
    · rw [if_pos q]
      have hO : 0 ≤ v 55 i ∧ v 55 i ≤ 8 := hX 55 i
      have hF : 0 ≤ v 56 i ∧ v 56 i ≤ 299 := hX 56 i
      obtain ⟨s, hs⟩ : ∃ s : Nat, v 56 i = s := ⟨(v 56 i).toNat, by omega⟩
      rw [hs]
      obtain ⟨a1, a2⟩ := sp65_22 301 s v i hb (by omega) (by omega)
      have r : ∀ k, k ≠ 65 → (cl_spread65_22 301 v i s) k = v k := fun k hk => o_cl_spread65_22 (by omega)
      have hX2 : XI (cl_spread65_22 301 v i s) := by
        intro k j
        by_cases e : k = 65
        · subst e
          exact a1 j
        · rw [r k e]; exact hX k j
      rw [ih (i + 1) _ hX2 a1 (by rw [r 54 (by omega)]; omega) t e ht he, a2 t e ht he, r 54 (by omega), r 55 (by omega), r 56 (by omega), r 57 (by omega)]
      constructor
      · rintro ((g | g) | ⟨j, g⟩)
        · exact Or.inl g
        · exact Or.inr ⟨i, by omega, q, g.2.2, by omega, g.2.1⟩
        · exact Or.inr ⟨j, by omega, g.2⟩
      · rintro (g | ⟨j, g⟩)
        · exact Or.inl (Or.inl g)
        · by_cases z : j = i
          · subst z
            exact Or.inl (Or.inr ⟨by omega, g.2.2.2.2, g.2.2.1⟩)
          · exact Or.inr ⟨j, by omega, g.2⟩
    · rw [if_neg q]
      exact ⟨Or.inl, fun g => g.elim id (fun ⟨j, g⟩ => by omega)⟩
theorem sp65_ok {v : VS} (hX : XI v) (t e : Nat) (ht : t < 300) (he : e < 9) : bt ((cl_spread65 v) 65 t) e = 1 ↔ ∃ j : Nat, (j : Int) < v 54 0 ∧ v 55 j = e ∧ v 56 j ≤ t ∧ (t : Int) ≤ v 57 j := by
  have hN : 0 ≤ v 54 0 ∧ v 54 0 ≤ 6 := hX 54 0
  have r : ∀ k, k ≠ 65 → (jf_65 v 0) k = v k := fun k hk => vfill_row hk
  have z : ∀ t, t < 300 → (jf_65 v 0) 65 t = 0 := fun t ht => by
    show vfill v 65 300 0 65 t = 0
    simp [vfill, fset_at, ht]
  have hX2 : XI (jf_65 v 0) := by
    intro k j
    by_cases e : k = 65
    · subst e
      by_cases q : j < 300
      · rw [z j q]
        show (0 : Int) ≤ 0 ∧ (0 : Int) ≤ _
        omega
      · have e2 : (jf_65 v 0) 65 j = v 65 j := by
          show vfill v 65 300 0 65 j = _
          simp [vfill, fset_at, q]
        rw [e2]
        exact hX 65 j
    · rw [r k e]; exact hX k j
  have hb : ∀ t, 0 ≤ (jf_65 v 0) 65 t ∧ (jf_65 v 0) 65 t ≤ 511 := fun t => by
    exact hX2 65 t
  have q := sp65_7 7 0 (jf_65 v 0) hX2 hb (by rw [r 54 (by omega)]; omega) t e ht he
  unfold cl_spread65
  rw [show ((0 : Nat) : Int) = 0 from rfl] at q
  rw [q, z t ht, bt_0, r 54 (by omega), r 55 (by omega), r 56 (by omega), r 57 (by omega)]
  constructor
  · rintro (g | ⟨j, g⟩)
    · omega
    · exact ⟨j, g.2⟩
  · rintro ⟨j, g⟩
    exact Or.inr ⟨j, by omega, g⟩
theorem sp66_22 : ∀ (f s : Nat) (v : VS) (i : Nat), (∀ t, 0 ≤ v 66 t ∧ v 66 t ≤ 511) → (0 ≤ v 59 i ∧ v 59 i < 9) → 300 < s + f → (∀ t, 0 ≤ (cl_spread66_22 f v i s) 66 t ∧ (cl_spread66_22 f v i s) 66 t ≤ 511) ∧ ∀ t e : Nat, t < 300 → e < 9 → (bt ((cl_spread66_22 f v i s) 66 t) e = 1 ↔ bt (v 66 t) e = 1 ∨ (s ≤ t ∧ (t : Int) ≤ v 61 i ∧ v 59 i = e)) := by
  intro f
  induction f with
  | zero => intro s v i hb ho hf; exact ⟨hb, fun t e ht he => ⟨Or.inl, fun g => g.elim id (fun g => by omega)⟩⟩
  | succ f ih =>
    intro s v i hb ho hf
    rw [cl_spread66_22, toN, toN, show ((s : Int) + 1) = ((s + 1 : Nat) : Int) by omega]
    by_cases q : v 61 i < s
    · rw [if_pos q]
      exact ⟨hb, fun t e ht he => ⟨Or.inl, fun g => g.elim id (fun g => by omega)⟩⟩
    · rw [if_neg q]
      by_cases q2 : (s : Int) < 300
      · rw [if_pos q2]
        obtain ⟨o, ho'⟩ : ∃ o : Nat, v 59 i = o := ⟨(v 59 i).toNat, by omega⟩
        have hs := setb_in (x := v 66 s) (c := v 59 i) (k := 9) (by have := hb s; omega) (by omega)
        have r : ∀ k, k ≠ 66 → (v2 v 66 s (setb (v 66 s) (v 59 i))) k = v k := fun k hk => v2_row hk
        obtain ⟨j1, j2⟩ := ih (s + 1) (v2 v 66 s (setb (v 66 s) (v 59 i))) i (fun t => by
          rw [v2_eq]
          split
          · omega
          · exact hb t) (by rw [r 59 (by omega)]; exact ho) (by omega)
        refine ⟨j1, fun t e ht he => ?_⟩
        rw [j2 t e ht he, r 59 (by omega), r 61 (by omega), v2_eq]
        by_cases q3 : t = s
        · subst q3
          rw [if_pos ⟨rfl, rfl⟩, ho', bt_setb (by have := hb t; omega) (by omega)]
          by_cases q4 : o = e
          · rw [if_pos q4]
            exact ⟨fun _ => Or.inr ⟨by omega, by omega, by omega⟩, fun _ => Or.inl rfl⟩
          · rw [if_neg q4]
            exact ⟨fun g => g.elim Or.inl (fun g => by omega), fun g => g.elim Or.inl (fun g => by omega)⟩
        · rw [if_neg (fun g => q3 g.2)]
          exact ⟨fun g => g.elim Or.inl (fun g => Or.inr ⟨by omega, g.2⟩), fun g => g.elim Or.inl (fun g => Or.inr ⟨by omega, g.2⟩)⟩
      · rw [if_neg q2]
        exact ⟨hb, fun t e ht he => ⟨Or.inl, fun g => g.elim id (fun g => by omega)⟩⟩
theorem sp66_7 : ∀ (f i : Nat) (v : VS), XI v → (∀ t, 0 ≤ v 66 t ∧ v 66 t ≤ 511) → v 58 0 < i + f → ∀ t e : Nat, t < 300 → e < 9 → (bt ((cl_spread66_7 f v i) 66 t) e = 1 ↔ bt (v 66 t) e = 1 ∨ ∃ j : Nat, i ≤ j ∧ (j : Int) < v 58 0 ∧ v 59 j = e ∧ v 60 j ≤ t ∧ (t : Int) ≤ v 61 j) := by
  intro f
  induction f with
  | zero => intro i v hX hb hf t e ht he; exact ⟨Or.inl, fun g => g.elim id (fun ⟨j, g⟩ => by omega)⟩
  | succ f ih =>
    intro i v hX hb hf t e ht he
    rw [cl_spread66_7, toN, show ((i : Int) + 1) = ((i + 1 : Nat) : Int) by omega]
    by_cases q : (i : Int) < v 58 0
    · rw [if_pos q]
      have hO : 0 ≤ v 59 i ∧ v 59 i ≤ 8 := hX 59 i
      have hF : 0 ≤ v 60 i ∧ v 60 i ≤ 299 := hX 60 i
      obtain ⟨s, hs⟩ : ∃ s : Nat, v 60 i = s := ⟨(v 60 i).toNat, by omega⟩
      rw [hs]
      obtain ⟨a1, a2⟩ := sp66_22 301 s v i hb (by omega) (by omega)
      have r : ∀ k, k ≠ 66 → (cl_spread66_22 301 v i s) k = v k := fun k hk => o_cl_spread66_22 (by omega)
      have hX2 : XI (cl_spread66_22 301 v i s) := by
        intro k j
        by_cases e : k = 66
        · subst e
          exact a1 j
        · rw [r k e]; exact hX k j
      rw [ih (i + 1) _ hX2 a1 (by rw [r 58 (by omega)]; omega) t e ht he, a2 t e ht he, r 58 (by omega), r 59 (by omega), r 60 (by omega), r 61 (by omega)]
      constructor
      · rintro ((g | g) | ⟨j, g⟩)
        · exact Or.inl g
        · exact Or.inr ⟨i, by omega, q, g.2.2, by omega, g.2.1⟩
        · exact Or.inr ⟨j, by omega, g.2⟩
      · rintro (g | ⟨j, g⟩)
        · exact Or.inl (Or.inl g)
        · by_cases z : j = i
          · subst z
            exact Or.inl (Or.inr ⟨by omega, g.2.2.2.2, g.2.2.1⟩)
          · exact Or.inr ⟨j, by omega, g.2⟩
    · rw [if_neg q]
      exact ⟨Or.inl, fun g => g.elim id (fun ⟨j, g⟩ => by omega)⟩
theorem sp66_ok {v : VS} (hX : XI v) (t e : Nat) (ht : t < 300) (he : e < 9) : bt ((cl_spread66 v) 66 t) e = 1 ↔ ∃ j : Nat, (j : Int) < v 58 0 ∧ v 59 j = e ∧ v 60 j ≤ t ∧ (t : Int) ≤ v 61 j := by
  have hN : 0 ≤ v 58 0 ∧ v 58 0 ≤ 6 := hX 58 0
  have r : ∀ k, k ≠ 66 → (jf_66 v 0) k = v k := fun k hk => vfill_row hk
  have z : ∀ t, t < 300 → (jf_66 v 0) 66 t = 0 := fun t ht => by
    show vfill v 66 300 0 66 t = 0
    simp [vfill, fset_at, ht]
  have hX2 : XI (jf_66 v 0) := by
    intro k j
    by_cases e : k = 66
    · subst e
      by_cases q : j < 300
      · rw [z j q]
        show (0 : Int) ≤ 0 ∧ (0 : Int) ≤ _
        omega
      · have e2 : (jf_66 v 0) 66 j = v 66 j := by
          show vfill v 66 300 0 66 j = _
          simp [vfill, fset_at, q]
        rw [e2]
        exact hX 66 j
    · rw [r k e]; exact hX k j
  have hb : ∀ t, 0 ≤ (jf_66 v 0) 66 t ∧ (jf_66 v 0) 66 t ≤ 511 := fun t => by
    exact hX2 66 t
  have q := sp66_7 7 0 (jf_66 v 0) hX2 hb (by rw [r 58 (by omega)]; omega) t e ht he
  unfold cl_spread66
  rw [show ((0 : Nat) : Int) = 0 from rfl] at q
  rw [q, z t ht, bt_0, r 58 (by omega), r 59 (by omega), r 60 (by omega), r 61 (by omega)]
  constructor
  · rintro (g | ⟨j, g⟩)
    · omega
    · exact ⟨j, g.2⟩
  · rintro ⟨j, g⟩
    exact Or.inr ⟨j, by omega, g⟩
theorem isIn215_ok {v : VS} {n t : Int} {o : Int} : ∀ (f k : Nat), n < k + f → (mo_isIn215_3 f v n o t k ≠ 0 ↔ ∃ j : Nat, k ≤ j ∧ (j : Int) < n ∧ v 215 (3 * j) = o ∧ v 215 (3 * j + 1) ≤ t ∧ t ≤ v 215 (3 * j + 2)) := by
  intro f
  induction f with
  | zero => intro k hf; exact ⟨fun g => absurd rfl g, fun ⟨j, g⟩ => by omega⟩
  | succ f ih =>
    intro k hf
    rw [mo_isIn215_3, show (3 * (k : Int)).toNat = 3 * k by omega, show (3 * (k : Int) + 1).toNat = 3 * k + 1 by omega, show (3 * (k : Int) + 2).toNat = 3 * k + 2 by omega, show ((k : Int) + 1) = ((k + 1 : Nat) : Int) by omega]
    have key : (¬ (v 215 (3 * k) = o ∧ v 215 (3 * k + 1) ≤ t ∧ t ≤ v 215 (3 * k + 2))) → ((mo_isIn215_3 f v n o t ((k + 1 : Nat) : Int) ≠ 0) ↔ ∃ j : Nat, k ≤ j ∧ (j : Int) < n ∧ v 215 (3 * j) = o ∧ v 215 (3 * j + 1) ≤ t ∧ t ≤ v 215 (3 * j + 2)) := by
      intro h
      rw [ih (k + 1) (by omega)]
      constructor
      · rintro ⟨j, g⟩
        exact ⟨j, by omega, g.2⟩
      · rintro ⟨j, g⟩
        by_cases z : j = k
        · subst z
          exact absurd g.2.2 h
        · exact ⟨j, by omega, g.2⟩
    by_cases q : (k : Int) < n
    · rw [if_pos q]
      by_cases q1 : v 215 (3 * k) = o
      · rw [if_pos q1]
        by_cases q2 : t < v 215 (3 * k + 1)
        · rw [if_pos q2]
          exact key (by omega)
        · rw [if_neg q2]
          by_cases q3 : v 215 (3 * k + 2) < t
          · rw [if_pos q3]
            exact key (by omega)
          · rw [if_neg q3]
            exact ⟨fun _ => ⟨k, by omega, q, q1, by omega, by omega⟩, fun _ => by omega⟩
      · rw [if_neg q1]
        exact key (fun g => q1 g.1)
    · rw [if_neg q]
      exact ⟨fun g => absurd rfl g, fun ⟨j, g⟩ => by omega⟩
theorem isIn216_ok {v : VS} {n t : Int} {o : Int} : ∀ (f k : Nat), n < k + f → (mo_isIn216_3 f v n o t k ≠ 0 ↔ ∃ j : Nat, k ≤ j ∧ (j : Int) < n ∧ v 216 (3 * j) = o ∧ v 216 (3 * j + 1) ≤ t ∧ t ≤ v 216 (3 * j + 2)) := by
  intro f
  induction f with
  | zero => intro k hf; exact ⟨fun g => absurd rfl g, fun ⟨j, g⟩ => by omega⟩
  | succ f ih =>
    intro k hf
    rw [mo_isIn216_3, show (3 * (k : Int)).toNat = 3 * k by omega, show (3 * (k : Int) + 1).toNat = 3 * k + 1 by omega, show (3 * (k : Int) + 2).toNat = 3 * k + 2 by omega, show ((k : Int) + 1) = ((k + 1 : Nat) : Int) by omega]
    have key : (¬ (v 216 (3 * k) = o ∧ v 216 (3 * k + 1) ≤ t ∧ t ≤ v 216 (3 * k + 2))) → ((mo_isIn216_3 f v n o t ((k + 1 : Nat) : Int) ≠ 0) ↔ ∃ j : Nat, k ≤ j ∧ (j : Int) < n ∧ v 216 (3 * j) = o ∧ v 216 (3 * j + 1) ≤ t ∧ t ≤ v 216 (3 * j + 2)) := by
      intro h
      rw [ih (k + 1) (by omega)]
      constructor
      · rintro ⟨j, g⟩
        exact ⟨j, by omega, g.2⟩
      · rintro ⟨j, g⟩
        by_cases z : j = k
        · subst z
          exact absurd g.2.2 h
        · exact ⟨j, by omega, g.2⟩
    by_cases q : (k : Int) < n
    · rw [if_pos q]
      by_cases q1 : v 216 (3 * k) = o
      · rw [if_pos q1]
        by_cases q2 : t < v 216 (3 * k + 1)
        · rw [if_pos q2]
          exact key (by omega)
        · rw [if_neg q2]
          by_cases q3 : v 216 (3 * k + 2) < t
          · rw [if_pos q3]
            exact key (by omega)
          · rw [if_neg q3]
            exact ⟨fun _ => ⟨k, by omega, q, q1, by omega, by omega⟩, fun _ => by omega⟩
      · rw [if_neg q1]
        exact key (fun g => q1 g.1)
    · rw [if_neg q]
      exact ⟨fun g => absurd rfl g, fun ⟨j, g⟩ => by omega⟩
theorem isIn217_ok {v : VS} {n t : Int} {o : Int} : ∀ (f k : Nat), n < k + f → (mo_isIn217_3 f v n o t k ≠ 0 ↔ ∃ j : Nat, k ≤ j ∧ (j : Int) < n ∧ v 217 (3 * j) = o ∧ v 217 (3 * j + 1) ≤ t ∧ t ≤ v 217 (3 * j + 2)) := by
  intro f
  induction f with
  | zero => intro k hf; exact ⟨fun g => absurd rfl g, fun ⟨j, g⟩ => by omega⟩
  | succ f ih =>
    intro k hf
    rw [mo_isIn217_3, show (3 * (k : Int)).toNat = 3 * k by omega, show (3 * (k : Int) + 1).toNat = 3 * k + 1 by omega, show (3 * (k : Int) + 2).toNat = 3 * k + 2 by omega, show ((k : Int) + 1) = ((k + 1 : Nat) : Int) by omega]
    have key : (¬ (v 217 (3 * k) = o ∧ v 217 (3 * k + 1) ≤ t ∧ t ≤ v 217 (3 * k + 2))) → ((mo_isIn217_3 f v n o t ((k + 1 : Nat) : Int) ≠ 0) ↔ ∃ j : Nat, k ≤ j ∧ (j : Int) < n ∧ v 217 (3 * j) = o ∧ v 217 (3 * j + 1) ≤ t ∧ t ≤ v 217 (3 * j + 2)) := by
      intro h
      rw [ih (k + 1) (by omega)]
      constructor
      · rintro ⟨j, g⟩
        exact ⟨j, by omega, g.2⟩
      · rintro ⟨j, g⟩
        by_cases z : j = k
        · subst z
          exact absurd g.2.2 h
        · exact ⟨j, by omega, g.2⟩
    by_cases q : (k : Int) < n
    · rw [if_pos q]
      by_cases q1 : v 217 (3 * k) = o
      · rw [if_pos q1]
        by_cases q2 : t < v 217 (3 * k + 1)
        · rw [if_pos q2]
          exact key (by omega)
        · rw [if_neg q2]
          by_cases q3 : v 217 (3 * k + 2) < t
          · rw [if_pos q3]
            exact key (by omega)
          · rw [if_neg q3]
            exact ⟨fun _ => ⟨k, by omega, q, q1, by omega, by omega⟩, fun _ => by omega⟩
      · rw [if_neg q1]
        exact key (fun g => q1 g.1)
    · rw [if_neg q]
      exact ⟨fun g => absurd rfl g, fun ⟨j, g⟩ => by omega⟩
theorem AIR.blow {v : VS} (hX : XI v) : AIR (cl_blow v) := by
  have x4 := i_cl_spread64 hX
  have x5 := i_cl_spread65 x4
  have x6 := i_cl_spread66 x5
  have hS : 0 ≤ v 33 1 ∧ v 33 1 ≤ 300 := hX 33 1
  have r : ∀ k, k < 63 ∨ 66 < k → (cl_blow v) k = v k := fun k hk => o_cl_blow (by omega)
  have r3 : ∀ k, k < 64 ∨ 66 < k → (cl_spread66 (cl_spread65 (cl_spread64 v))) k = v k := fun k hk => by
    rw [o_cl_spread66 (by omega), o_cl_spread65 (by omega), o_cl_spread64 (by omega)]
  refine ⟨fun t ht => ?_, fun e t he ht => ?_, fun c t hc ht => ?_, fun c t hc ht => ?_⟩
  · rw [r 33 (by omega)] at ht
    obtain ⟨-, q⟩ := blow37 301 0 0 (cl_spread66 (cl_spread65 (cl_spread64 v))) x6 (by rw [r3 33 (by omega)]; omega) (fun _ => rfl) (fun s' hs' => by omega)
    obtain ⟨g, q1, q2⟩ := q t (by omega) (by rw [r3 33 (by omega)]; exact ht)
    rw [r3 46 (by omega), r3 48 (by omega)] at q1
    rw [r3 47 (by omega)] at q2
    rw [r 46 (by omega), r 48 (by omega), r 47 (by omega)]
    exact ⟨g, q1, q2⟩
  · rw [r 50 (by omega), r 51 (by omega), r 52 (by omega), r 53 (by omega)]
    unfold cl_blow
    rw [o_cl_blow_37 (by omega), o_cl_spread66 (by omega), o_cl_spread65 (by omega)]
    exact sp64_ok hX t e ht he
  · rw [r 54 (by omega), r 55 (by omega), r 56 (by omega), r 57 (by omega)]
    unfold cl_blow
    rw [o_cl_blow_37 (by omega), o_cl_spread66 (by omega), sp65_ok x4 t c ht hc, o_cl_spread64 (by omega), o_cl_spread64 (by omega), o_cl_spread64 (by omega), o_cl_spread64 (by omega)]
  · rw [r 58 (by omega), r 59 (by omega), r 60 (by omega), r 61 (by omega)]
    unfold cl_blow
    rw [o_cl_blow_37 (by omega), sp66_ok x5 t c ht hc, o_cl_spread65 (by omega), o_cl_spread65 (by omega), o_cl_spread65 (by omega), o_cl_spread65 (by omega), o_cl_spread64 (by omega), o_cl_spread64 (by omega), o_cl_spread64 (by omega), o_cl_spread64 (by omega)]
