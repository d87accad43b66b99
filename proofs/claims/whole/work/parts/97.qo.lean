
/-! began, first, sure -/
theorem bI_congr {G H : Int → Int → Int} {l c : Int} (h : ∀ t, 0 ≤ t → t ≤ l → (G c t = -1 ↔ H c t = -1)) : ∀ (f : Nat) (t : Int) (s : Int × Int × Int × Int), 0 ≤ t → bI G f l c t s = bI H f l c t s := by
  intro f
  induction f with
  | zero => intro t s h0; rw [bI, bI]
  | succ f ih =>
    intro t s h0
    rw [bI, bI]
    by_cases q : l < t
    · rw [if_pos q, if_pos q]
    · rw [if_neg q, if_neg q, ih _ _ (by omega), ih _ _ (by omega)]
      by_cases z : G c t = -1
      · rw [if_pos z, if_pos ((h t h0 (by omega)).mp z)]
      · rw [if_neg z, if_neg (fun y => z ((h t h0 (by omega)).mpr y))]
theorem bO_congr {G H : Int → Int → Int} {l C : Int} (h : ∀ c t, 0 ≤ c → c < C → 0 ≤ t → t ≤ l → (G c t = -1 ↔ H c t = -1)) : ∀ (f : Nat) (c : Int) (s : Int × Int × Int × Int), 0 ≤ c → bO G f C l c s = bO H f C l c s := by
  intro f
  induction f with
  | zero => intro c s h0; rw [bO, bO]
  | succ f ih =>
    intro c s h0
    rw [bO, bO]
    by_cases q : c < C
    · rw [if_pos q, if_pos q, bI_congr (fun t a b => h c t h0 q a b) 301 0 s (by omega), ih _ _ (by omega)]
    · rw [if_neg q, if_neg q]
theorem bO_n {G : Int → Int → Int} {C l : Int} (hl : l ≤ 299) : ∀ (f : Nat) (c : Int) (s : Int × Int × Int × Int), N4 s c → s.1 ≤ 300 * c → 0 ≤ c → ∃ d, N4 (bO G f C l c s) d := by
  intro f
  induction f with
  | zero => intro c s n b h0; rw [bO]; exact ⟨c, n⟩
  | succ f ih =>
    intro c s n b h0
    rw [bO]
    by_cases q : c < C
    · rw [if_pos q]
      obtain ⟨b1, b2⟩ := bI_n (G := G) (l := l) hl h0 301 0 s n (by omega) (by omega)
      exact ih _ _ (b1.mono (by omega)) (by omega) (by omega)
    · rw [if_neg q]; exact ⟨c, n⟩
theorem whyB {v w : VS} (h : INV v) (e : ∀ k, 204 ≤ k → k ≤ 218 → w k = v k) (s m g : Int) : mo_whyNotBegan w s m g = cl_refusalOf v s m g := by
  obtain ⟨b0, b1, -⟩ := h.b0
  unfold mo_whyNotBegan cl_refusalOf
  rw [e 210 (by omega) (by omega), b1, (l_ref h e s).1]
theorem N4.ini : N4 (0, -1, -1, -1) 0 := ⟨by decide, fun _ => ⟨rfl, rfl, rfl⟩, fun z => by
    have z : (1 : Int) ≤ 0 := z
    omega⟩
theorem l_began {v : VS} (h : INV v) {s m g : Int} (hr : cl_refusalOf v s m g = 0) : ∃ st : Int × Int × Int × Int, (∃ d, N4 st d) ∧ ((cl_seek (cl_asTold v) s.toNat m g) 103 4 = st.1 ∧ (cl_seek (cl_asTold v) s.toNat m g) 103 5 = st.2.1 ∧ (cl_seek (cl_asTold v) s.toNat m g) 103 6 = st.2.2.1 ∧ (cl_seek (cl_asTold v) s.toNat m g) 103 7 = st.2.2.2) ∧ mo_whyNotBegan (v2 (cl_seek (cl_asTold v) s.toNat m g) 203 0 0) s m g = 0 ∧ RK4 (cl_seek (cl_asTold v) s.toNat m g) (mo_begans (v2 (cl_seek (cl_asTold v) s.toNat m g) 203 0 0) s m g) st := by
  have z : (0 ≤ m ∧ m < v 33 1) ∧ (1 ≤ g ∧ g ≤ 99) ∧ cl_refusal v s = 0 := by
    unfold cl_refusalOf at hr
    by_cases a : 0 ≤ m ∧ m < v 33 1
    · rw [if_pos a] at hr
      by_cases b : 1 ≤ g ∧ g ≤ 99
      · rw [if_pos b] at hr; exact ⟨a, b, hr⟩
      · rw [if_neg b] at hr; omega
    · rw [if_neg a] at hr; omega
  obtain ⟨hm, hg, hf⟩ := z
  have h3 : 0 ≤ v 33 1 ∧ v 33 1 ≤ 300 := h.i.x 33 1
  obtain ⟨-, r2⟩ := l_ref h (w := v2 v 203 0 0) (fun k a b => v2_row (by omega)) s
  obtain ⟨c, c1, c2, c3, c4⟩ := r2 hf
  obtain ⟨q, rfl⟩ := Int.eq_ofNat_of_zero_le c.1
  rw [toN] at c2 c3 c4 ⊢
  have hq : q < 4 := by omega
  obtain ⟨mo, k, sk⟩ := l_seek h hq c2 c3 (fun j j1 j2 => (c4 j j1 j2).1) hm hg
  obtain ⟨x, hx⟩ : ∃ x, x = cl_seek (cl_asTold v) q m g := ⟨_, rfl⟩
  rw [← hx] at sk ⊢
  have e33 : x 33 = v 33 := sk.e 33 (by omega)
  have k' : GQ x q mo g := ⟨sk.i, hq, by rw [sk.e _ (by omega)]; exact c2, by rw [sk.e _ (by omega)]; exact c3, by rw [sk.e _ (by omega), sk.e _ (by omega)]; exact k.ok, by rw [e33]; exact k.m, hg⟩
  have eG : ∀ c t, 0 ≤ c → c < v 33 0 → 0 ≤ t → t ≤ m → (gG x q mo g c t = -1 ↔ gG v q mo g c t = -1) := fun c t a1 a2 a3 a4 => by
    rw [k'.G (by rw [e33]; omega) (by rw [e33]; omega), k.G ⟨a1, a2⟩ (by omega), sG_v (fun j b1 b2 => sk.e j (by omega)), sk.e (107 + 2 * q) (by omega), sk.e (108 + 2 * q) (by omega)]
  have eB := bO_congr eG 10 0 (0, -1, -1, -1) (by omega)
  refine ⟨_, bO_n (l := m) (C := v 33 0) (G := gG v q mo g) (by omega) 10 0 (0, -1, -1, -1) N4.ini (by decide) (by omega), sk.n, ?_, ?_⟩
  · rw [whyB h (fun k a b => by rw [v2_row (by omega), sk.e k (by omega)])]
    exact hr
  · have b := begans13 k' (m := m) (by rw [e33]; omega) 10 (v2 (v2 (v2 x 203 0 0) 203 51 0) 203 54 (-1)) 0 (0, -1, -1, -1) ⟨?_, fun j hj => by rw [v2_row (by omega), v2_row (by omega), v2_row (by omega)], ?_, fun y => absurd rfl y, ?_⟩ N4.ini (by decide) (by omega)
    · rw [e33, eB] at b
      exact b
    · exact (sk.i.thr.fld (j := 51) (by omega) (show (0 : Int) ≤ 0 ∧ (0 : Int) ≤ 2700 by omega)).fld (j := 54) (by omega) trivial
    · simp [v2_eq]
    · simp [v2_eq]
theorem q_began {v : VS} (h : INV v) (s m g : Int) : (mo_began (cl_began v s m g).2 s m g).1 = (cl_began v s m g).1 ∧ INV (mo_began (cl_began v s m g).2 s m g).2 := by
  by_cases z : cl_refusalOf v s m g = 0
  · obtain ⟨st, -, ⟨n1, n2, n3, n4⟩, hw, rk⟩ := l_began h z
    have ec : cl_began v s m g = ((cl_seek (cl_asTold v) s.toNat m g) 103 4, cl_seek (cl_asTold v) s.toNat m g) := by
      unfold cl_began
      rw [if_pos z]
    rw [ec]
    dsimp only
    obtain ⟨x, hx⟩ : ∃ x, x = cl_seek (cl_asTold v) s.toNat m g := ⟨_, rfl⟩
    rw [← hx] at n1 hw rk ⊢
    have em : mo_began x s m g = ((mo_begans (v2 x 203 0 0) s m g) 203 51, mo_begans (v2 x 203 0 0) s m g) := by
      unfold mo_began
      rw [if_pos hw]
    rw [em]
    exact ⟨by dsimp only; rw [rk.n, n1], rk.i⟩
  · have ec : cl_began v s m g = (cl_refusalOf v s m g, v) := by
      unfold cl_began
      rw [if_neg z]
    rw [ec]
    dsimp only
    have e := whyB h (w := v2 v 203 0 0) (fun k a b => v2_row (by omega)) s m g
    have em : mo_began v s m g = (cl_refusalOf v s m g, v2 v 203 0 0) := by
      unfold mo_began
      rw [e, if_neg z]
    rw [em]
    exact ⟨rfl, h.thr⟩
theorem q_sure {v : VS} (h : INV v) (s m g : Int) : (mo_sure (cl_sure v s m g).2 s m g).1 = (cl_sure v s m g).1 ∧ INV (mo_sure (cl_sure v s m g).2 s m g).2 := by
  by_cases z : cl_refusalOf v s m g = 0
  · obtain ⟨st, ⟨d, nn⟩, ⟨n1, n2, n3, n4⟩, hw, rk⟩ := l_began h z
    obtain ⟨x, hx⟩ : ∃ x, x = cl_seek (cl_asTold v) s.toNat m g := ⟨_, rfl⟩
    have ec : cl_sure v s m g = ((if x 103 5 = x 103 7 then x 103 5 else -1), x) := by
      unfold cl_sure
      rw [if_pos z, ← hx]
      split <;> rfl
    rw [ec]
    dsimp only
    rw [← hx] at n1 n2 n4 hw rk
    have em : mo_sure x s m g = ((mo_begans (v2 x 203 0 0) s m g) 203 54, mo_begans (v2 x 203 0 0) s m g) := by
      unfold mo_sure
      rw [if_pos hw]
    rw [em]
    refine ⟨?_, rk.i⟩
    dsimp only
    rw [rk.s, n2, n4]
    by_cases y : st.1 = 0
    · obtain ⟨a, b, c⟩ := nn.2.1 y
      rw [if_pos y, a, c, if_pos rfl]
    · rw [if_neg y]
  · have ec : cl_sure v s m g = (cl_refusalOf v s m g, v) := by
      unfold cl_sure
      rw [if_neg z]
    rw [ec]
    dsimp only
    have e := whyB h (w := v2 v 203 0 0) (fun k a b => v2_row (by omega)) s m g
    have em : mo_sure v s m g = (cl_refusalOf v s m g, v2 v 203 0 0) := by
      unfold mo_sure
      rw [e, if_neg z]
    rw [em]
    exact ⟨rfl, h.thr⟩
theorem q_first {v : VS} (h : INV v) (s m g w : Int) : (mo_first (cl_first v s m g w).2 s m g w).1 = (cl_first v s m g w).1 ∧ INV (mo_first (cl_first v s m g w).2 s m g w).2 := by
  by_cases hw01 : 0 ≤ w ∧ w ≤ 1
  · by_cases z : cl_refusalOf v s m g = 0
    · obtain ⟨st, ⟨d, nn⟩, ⟨n1, n2, n3, n4⟩, hw, rk⟩ := l_began h z
      obtain ⟨x, hx⟩ : ∃ x, x = cl_seek (cl_asTold v) s.toNat m g := ⟨_, rfl⟩
      have ec : cl_first v s m g w = ((if w = 0 then x 103 5 else x 103 6), x) := by
        unfold cl_first
        rw [if_neg (by omega), if_neg (by omega), if_pos z, ← hx]
        split <;> rfl
      rw [ec]
      dsimp only
      rw [← hx] at n1 n2 n3 hw rk
      obtain ⟨u, hu⟩ : ∃ u, u = mo_begans (v2 x 203 0 0) s m g := ⟨_, rfl⟩
      rw [← hu] at rk
      have em : mo_first x s m g w = ((if u 203 51 = 0 then -1 else if w = 0 then u 203 52 else u 203 53), u) := by
        unfold mo_first
        rw [if_pos hw01, if_pos hw, ← hu]
        split
        · rfl
        · split <;> rfl
      rw [em]
      refine ⟨?_, rk.i⟩
      dsimp only
      rw [rk.n, n2, n3]
      by_cases y : st.1 = 0
      · obtain ⟨a, b, c⟩ := nn.2.1 y
        rw [if_pos y, a, b]
        split <;> rfl
      · obtain ⟨f1, f2⟩ := rk.f y
        rw [if_neg y, f1, f2]
    · have ec : cl_first v s m g w = (cl_refusalOf v s m g, v) := by
        unfold cl_first
        rw [if_neg (by omega), if_neg (by omega), if_neg z]
      rw [ec]
      dsimp only
      have e := whyB h (w := v2 v 203 0 0) (fun k a b => v2_row (by omega)) s m g
      have em : mo_first v s m g w = (cl_refusalOf v s m g, v2 v 203 0 0) := by
        unfold mo_first
        rw [if_pos hw01, e, if_neg z]
      rw [em]
      exact ⟨rfl, h.thr⟩
  · have ec : cl_first v s m g w = (-2, v) := by
      unfold cl_first
      by_cases a : w < 0
      · rw [if_pos a]
      · rw [if_neg a, if_pos (by omega)]
    rw [ec]
    dsimp only
    have em : mo_first v s m g w = (-2, v2 v 203 0 0) := by
      unfold mo_first
      rw [if_neg hw01]
    rw [em]
    exact ⟨rfl, h.thr⟩
