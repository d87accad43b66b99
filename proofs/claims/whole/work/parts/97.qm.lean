
/-! what began: the loops -/
def GQ (v : VS) (q : Nat) (mo g : Int) : Prop :=
  (INV v) ∧
  (q < 4) ∧
  (v (107 + 2 * q) 0 ≠ 0) ∧
  (v (107 + 2 * q) 2 % 3 = 0) ∧
  (∀ j : Nat, j % 3 = 0 → (j : Int) < v (107 + 2 * q) 2 → 0 ≤ v (108 + 2 * q) j ∧ v (108 + 2 * q) j ≤ mo) ∧
  (0 ≤ mo ∧ mo < v 33 1) ∧
  (1 ≤ g ∧ g ≤ 99)
theorem GQ.h {v : VS} {q : Nat} {mo g : Int} (h : GQ v q mo g) : INV v := h.1
theorem GQ.q4 {v : VS} {q : Nat} {mo g : Int} (h : GQ v q mo g) : q < 4 := h.2.1
theorem GQ.ne {v : VS} {q : Nat} {mo g : Int} (h : GQ v q mo g) : v (107 + 2 * q) 0 ≠ 0 := h.2.2.1
theorem GQ.n3 {v : VS} {q : Nat} {mo g : Int} (h : GQ v q mo g) : v (107 + 2 * q) 2 % 3 = 0 := h.2.2.2.1
theorem GQ.ok {v : VS} {q : Nat} {mo g : Int} (h : GQ v q mo g) : ∀ j : Nat, j % 3 = 0 → (j : Int) < v (107 + 2 * q) 2 → 0 ≤ v (108 + 2 * q) j ∧ v (108 + 2 * q) j ≤ mo := h.2.2.2.2.1
theorem GQ.m {v : VS} {q : Nat} {mo g : Int} (h : GQ v q mo g) : 0 ≤ mo ∧ mo < v 33 1 := h.2.2.2.2.2.1
theorem GQ.g {v : VS} {q : Nat} {mo g : Int} (h : GQ v q mo g) : 1 ≤ g ∧ g ≤ 99 := h.2.2.2.2.2.2
theorem GQ.odd {v x : VS} {q : Nat} {mo g c t : Int} (k : GQ v q mo g) (hc : 0 ≤ c ∧ c < v 33 0) (ht : 0 ≤ t ∧ t < v 33 1) (ra : RA 91 (arun (cP (sG v mo g c t))) x) (e7 : x (107 + 2 * q) = v (107 + 2 * q)) (e8 : x (108 + 2 * q) = v (108 + 2 * q)) : cl_firstOdd91 x q = -1 ↔ OD (v (107 + 2 * q) 2) (v (108 + 2 * q)) (arun (cP (sG v mo g c t))) := by
  have hl := k.h.i.x.len k.q4
  have sg := sG_sg k.h k.m hc ht k.g
  have r := odd91_OD ra (AW.run sg.pw) (q := q) (by rw [e7]; exact k.n3) (by rw [e7]; exact hl)
  rw [e7, e8] at r
  exact r
theorem GQ.G {v : VS} {q : Nat} {mo g c t : Int} (k : GQ v q mo g) (hc : 0 ≤ c ∧ c < v 33 0) (ht : 0 ≤ t ∧ t < v 33 1) : gG v q mo g c t = -1 ↔ OD (v (107 + 2 * q) 2) (v (108 + 2 * q)) (arun (cP (sG v mo g c t))) := by
  have sg := sG_sg k.h k.m hc ht k.g
  have hq := k.q4
  obtain ⟨a1, a2, a3, a4, a5, a6⟩ := add0 (v2 (cl_asTold v) 67 6 mo) c t g
  obtain ⟨g1, g2, g3⟩ := k.h.play (p := sG v mo g c t) (fun j hj => by
    unfold sG
    rw [a1 j (by omega), v2_row (by omega), o_cl_asTold (by omega)]) sg
  exact k.odd hc ht g2 (g3 _ (by omega)) (g3 _ (by omega))
theorem GQ.pl {v : VS} {q : Nat} {mo g c t : Int} (k : GQ v q mo g) (hc : 0 ≤ c ∧ c < v 33 0) (ht : 0 ≤ t ∧ t < v 33 1) : gG v q mo g c t = -1 ↔ OD (v (107 + 2 * q) 2) (v (108 + 2 * q)) (arun (pln (cP (sG v mo g c t)))) := by
  have sg := sG_sg k.h k.m hc ht k.g
  obtain ⟨p1, p2, p6, p7, p8, p9, p80⟩ := sG_P (v := v) (mo := mo) (c := c) (t := t) (g := g)
  rw [k.G hc ht]
  unfold OD
  have e : ∀ i : Nat, ((3 * i : Nat) : Int) < v (107 + 2 * q) 2 → (WSK (arun (cP (sG v mo g c t))) (v (108 + 2 * q) (3 * i)) (v (108 + 2 * q) (3 * i + 1)) (v (108 + 2 * q) (3 * i + 2)) ↔ WSK (arun (pln (cP (sG v mo g c t)))) (v (108 + 2 * q) (3 * i)) (v (108 + 2 * q) (3 * i + 1)) (v (108 + 2 * q) (3 * i + 2))) := fun i hi => by
    have := (k.ok (3 * i) (by omega) hi).2
    exact WSK.pre sg.pw p6 p7 p8 (by rw [p1]; omega)
  exact ⟨fun a i hi => (e i hi).mp (a i hi), fun a i hi => (e i hi).mpr (a i hi)⟩
theorem GQ.late {v : VS} {q : Nat} {mo g c t : Int} (k : GQ v q mo g) (hc : 0 ≤ c ∧ c < v 33 0) (ht : 0 ≤ t ∧ t < v 33 1) {i : Nat} (hi : ((3 * i : Nat) : Int) < v (107 + 2 * q) 2) (hl : v (108 + 2 * q) (3 * i) < t) : gG v q mo g c t ≠ -1 := by
  intro y
  have sg := sG_sg k.h k.m hc ht k.g
  obtain ⟨p1, p2, p6, p7, p8, p9, p80⟩ := sG_P (v := v) (mo := mo) (c := c) (t := t) (g := g)
  have w := (k.pl hc ht).mp y i hi
  obtain ⟨n, hn⟩ : ∃ n : Nat, t = n := ⟨t.toNat, by omega⟩
  have := WSK.late sg.pw.toPln (t0 := n) (by rw [pln_0]; simp; exact p9) (by rw [pln_row (by omega), p80, hn]) (by rw [pln_0, if_pos rfl, p2]; omega) w
  omega
theorem seek56 {v : VS} {q : Nat} {mo g c l : Int} (k : GQ v q mo g) (hc : 0 ≤ c ∧ c < v 33 0) (hl : l < v 33 1) : ∀ (f : Nat) (x : VS) (t : Int) (st : Int × Int × Int × Int), SK4 v x mo st → N4 st c → st.1 ≤ 300 * c + t → 0 ≤ t → SK4 v (cl_seek_56 f x q g l c t) mo (bI (gG v q mo g) f l c t st) := by
  have h9 : 0 ≤ v 33 0 ∧ v 33 0 ≤ 9 := k.h.i.x 33 0
  have h3 : 0 ≤ v 33 1 ∧ v 33 1 ≤ 300 := k.h.i.x 33 1
  have hq := k.q4
  intro f
  induction f with
  | zero => intro x t st s n b h0; rw [cl_seek_56, bI]; exact s
  | succ f ih =>
    intro x t st s n b h0
    rw [cl_seek_56, bI]
    by_cases z : l < t
    · rw [if_pos z, if_pos z]; exact s
    · rw [if_neg z, if_neg z]
      have ht : 0 ≤ t ∧ t < v 33 1 := by omega
      obtain ⟨g1, g2⟩ := s.play k.h k.m hc ht k.g
      have o := k.odd hc ht g2 (g1.e _ (by omega)) (g1.e _ (by omega))
      have o2 := k.G hc ht
      obtain ⟨n1, n2⟩ := n.note hc.1 t
      by_cases y : gG v q mo g c t = -1
      · rw [if_pos y, if_pos (o.mpr (o2.mp y))]
        exact ih _ _ _ (g1.note (by omega) (by omega) (by omega)) n1 (by omega) (by omega)
      · rw [if_neg y, if_neg (fun w => y (o2.mpr (o.mp w)))]
        exact ih _ _ _ g1 n (by omega) (by omega)
theorem N4.mono {s : Int × Int × Int × Int} {c d : Int} (h : N4 s c) (hd : c ≤ d) : N4 s d := ⟨h.1, h.2.1, fun g => by have := h.2.2 g; omega⟩
theorem seek41 {v : VS} {q : Nat} {mo g l : Int} (k : GQ v q mo g) (hl : l < v 33 1) : ∀ (f : Nat) (x : VS) (c : Int) (st : Int × Int × Int × Int), SK4 v x mo st → N4 st c → st.1 ≤ 300 * c → 0 ≤ c → SK4 v (cl_seek_41 f x q g l c) mo (bO (gG v q mo g) f (v 33 0) l c st) := by
  have h3 : 0 ≤ v 33 1 ∧ v 33 1 ≤ 300 := k.h.i.x 33 1
  intro f
  induction f with
  | zero => intro x c st s n b h0; rw [cl_seek_41, bO]; exact s
  | succ f ih =>
    intro x c st s n b h0
    rw [cl_seek_41, bO, s.e 33 (by omega)]
    by_cases z : c < v 33 0
    · rw [if_pos z, if_pos z]
      obtain ⟨b1, b2⟩ := bI_n (G := gG v q mo g) (l := l) (by omega) h0 301 0 st n (by omega) (by omega)
      exact ih _ _ _ (seek56 k ⟨h0, z⟩ hl 301 x 0 st s n (by omega) (by omega)) (b1.mono (by omega)) (by omega) (by omega)
    · rw [if_neg z, if_neg z]; exact s
/-! least and most second -/
theorem least6 {v : VS} {q : Nat} : ∀ (f i : Nat) (l : Int), ((3 * i : Nat) : Int) ≤ v (107 + 2 * q) 2 + 2 → v (107 + 2 * q) 2 + 2 < ((3 * i : Nat) : Int) + f → cl_leastSecond_6 f v q l ((3 * i : Nat) : Int) ≤ l ∧ (∀ j : Nat, i ≤ j → ((3 * j : Nat) : Int) < v (107 + 2 * q) 2 → cl_leastSecond_6 f v q l ((3 * i : Nat) : Int) ≤ v (108 + 2 * q) (3 * j)) ∧ (cl_leastSecond_6 f v q l ((3 * i : Nat) : Int) = l ∨ ∃ j : Nat, ((3 * j : Nat) : Int) < v (107 + 2 * q) 2 ∧ cl_leastSecond_6 f v q l ((3 * i : Nat) : Int) = v (108 + 2 * q) (3 * j)) := by
  intro f
  induction f with
  | zero => intro i l h1 h2; omega
  | succ f ih =>
    intro i l h1 h2
    rw [cl_leastSecond_6, toN, show (((3 * i : Nat) : Int) + 3) = ((3 * (i + 1) : Nat) : Int) by omega]
    by_cases z : ((3 * i : Nat) : Int) < v (107 + 2 * q) 2
    · rw [if_pos z]
      obtain ⟨a1, a2, a3⟩ := ih (i + 1) (min l (v (108 + 2 * q) (3 * i))) (by omega) (by omega)
      refine ⟨by omega, fun j j1 j2 => ?_, ?_⟩
      · by_cases e : j = i
        · rw [e]; omega
        · exact a2 j (by omega) j2
      · rcases a3 with a | ⟨j, b1, b2⟩
        · by_cases y : l ≤ v (108 + 2 * q) (3 * i)
          · left; omega
          · right; exact ⟨i, z, by omega⟩
        · right; exact ⟨j, b1, b2⟩
    · rw [if_neg z]
      exact ⟨by omega, fun j j1 j2 => by omega, Or.inl rfl⟩
theorem most4 {v : VS} {q : Nat} : ∀ (f i : Nat) (l : Int), ((3 * i : Nat) : Int) ≤ v (107 + 2 * q) 2 + 2 → v (107 + 2 * q) 2 + 2 < ((3 * i : Nat) : Int) + f → l ≤ cl_mostSecond_4 f v q l ((3 * i : Nat) : Int) ∧ (∀ j : Nat, i ≤ j → ((3 * j : Nat) : Int) < v (107 + 2 * q) 2 → v (108 + 2 * q) (3 * j) ≤ cl_mostSecond_4 f v q l ((3 * i : Nat) : Int)) ∧ (cl_mostSecond_4 f v q l ((3 * i : Nat) : Int) = l ∨ ∃ j : Nat, ((3 * j : Nat) : Int) < v (107 + 2 * q) 2 ∧ cl_mostSecond_4 f v q l ((3 * i : Nat) : Int) = v (108 + 2 * q) (3 * j)) := by
  intro f
  induction f with
  | zero => intro i l h1 h2; omega
  | succ f ih =>
    intro i l h1 h2
    rw [cl_mostSecond_4, toN, show (((3 * i : Nat) : Int) + 3) = ((3 * (i + 1) : Nat) : Int) by omega]
    by_cases z : ((3 * i : Nat) : Int) < v (107 + 2 * q) 2
    · rw [if_pos z]
      obtain ⟨a1, a2, a3⟩ := ih (i + 1) (max l (v (108 + 2 * q) (3 * i))) (by omega) (by omega)
      refine ⟨by omega, fun j j1 j2 => ?_, ?_⟩
      · by_cases e : j = i
        · rw [e]; omega
        · exact a2 j (by omega) j2
      · rcases a3 with a | ⟨j, b1, b2⟩
        · by_cases y : l ≤ v (108 + 2 * q) (3 * i)
          · right; exact ⟨i, z, by omega⟩
          · left; omega
        · right; exact ⟨j, b1, b2⟩
    · rw [if_neg z]
      exact ⟨by omega, fun j j1 j2 => by omega, Or.inl rfl⟩
theorem l_seek {v : VS} (h : INV v) {q : Nat} {m g : Int} (hq : q < 4) (hv : v (107 + 2 * q) 0 ≠ 0) (h3 : v (107 + 2 * q) 2 % 3 = 0) (hok : ∀ j : Nat, j % 3 = 0 → (j : Int) < v (107 + 2 * q) 2 → (0 ≤ v (108 + 2 * q) j ∧ v (108 + 2 * q) j < v 33 1)) (hm : 0 ≤ m ∧ m < v 33 1) (hg : 1 ≤ g ∧ g ≤ 99) : ∃ mo : Int, GQ v q mo g ∧ SK4 v (cl_seek (cl_asTold v) q m g) mo (bO (gG v q mo g) 10 (v 33 0) m 0 (0, -1, -1, -1)) := by
  have h3' : 0 ≤ v 33 1 ∧ v 33 1 ≤ 300 := h.i.x 33 1
  have hl := h.i.x.len hq
  obtain ⟨y, hy⟩ : ∃ y, y = v2 (v2 (v2 (v2 (cl_asTold v) 103 4 0) 103 5 (-1)) 103 6 (-1)) 103 7 (-1) := ⟨_, rfl⟩
  have yk : ∀ k, k ≠ 103 → y k = (cl_asTold v) k := fun k hk => by rw [hy, v2_row hk, v2_row hk, v2_row hk, v2_row hk]
  have e7 : y (107 + 2 * q) = v (107 + 2 * q) := by rw [yk _ (by omega), o_cl_asTold (by omega)]
  have e8 : y (108 + 2 * q) = v (108 + 2 * q) := by rw [yk _ (by omega), o_cl_asTold (by omega)]
  obtain ⟨a1, a2, a3⟩ := least6 (v := y) (q := q) 63 0 m (by rw [e7]; omega) (by rw [e7]; omega)
  obtain ⟨b1, b2, b3⟩ := most4 (v := y) (q := q) 63 0 0 (by rw [e7]; omega) (by rw [e7]; omega)
  rw [show ((3 * 0 : Nat) : Int) = 0 from rfl] at a1 a2 a3 b1 b2 b3
  have el : cl_leastSecond_6 63 y q m 0 = cl_leastSecond y q m := rfl
  have em : cl_mostSecond_4 63 y q 0 0 = cl_mostSecond y q := rfl
  rw [el] at a1 a2 a3
  rw [em] at b1 b2 b3
  rw [e7, e8] at a2 a3 b2 b3
  obtain ⟨l, el⟩ : ∃ l, l = cl_leastSecond y q m := ⟨_, rfl⟩
  obtain ⟨mo, em⟩ : ∃ mo, mo = cl_mostSecond y q := ⟨_, rfl⟩
  rw [← el] at a1 a2 a3
  rw [← em] at b1 b2 b3
  have hmo : 0 ≤ mo ∧ mo < v 33 1 := by
    rcases b3 with z | ⟨j, z1, z2⟩
    · omega
    · have := hok (3 * j) (by omega) z1
      omega
  have k : GQ v q mo g := ⟨h, hq, hv, h3, fun j j1 j2 => ⟨(hok j j1 j2).1, by
    have := b2 (j / 3) (by omega) (by omega)
    rw [show 3 * (j / 3) = j by omega] at this
    exact this⟩, hmo, hg⟩
  refine ⟨mo, k, ?_⟩
  have es : cl_seek (cl_asTold v) q m g = cl_seek_41 10 (v2 y 67 6 mo) q g l 0 := by
    unfold cl_seek cl_seek_27
    rw [← hy, ← el, ← em]
  rw [es, bO_lim (l := l) a1 (fun c t c0 c1 t1 t2 => by
    rcases a3 with z | ⟨j, z1, z2⟩
    · omega
    · have := hok (3 * j) (by omega) z1
      exact k.late ⟨c0, c1⟩ (by omega) z1 (by omega)) 10 0 _ (by omega)]
  have hx : XI (v2 y 67 6 mo) := by
    rw [hy]
    exact XI.put (k := 67) (j := 6) (XI.put (k := 103) (j := 7) (XI.put (k := 103) (j := 6) (XI.put (k := 103) (j := 5) (XI.put (k := 103) (j := 4) (i_cl_asTold h.i.x) (show (0 : Int) ≤ 0 ∧ (0 : Int) ≤ 2700 by omega)) (show (-1 : Int) ≤ -1 ∧ (-1 : Int) ≤ 8 by omega)) (show (-1 : Int) ≤ -1 ∧ (-1 : Int) ≤ 299 by omega)) (show (-1 : Int) ≤ -1 ∧ (-1 : Int) ≤ 8 by omega)) (show -1 ≤ mo ∧ mo ≤ 299 by omega)
  refine seek41 k (by omega) 10 _ 0 _ ⟨h.trial hx ?_ (fun j hj => by rw [v2_row (by omega), yk j (by omega), o_cl_asTold (by omega)]), fun j hj => by rw [v2_row (by omega), yk j (by omega), o_cl_asTold (by omega)], fun j => ?_, fun j hj => by rw [v2_row (by omega), yk 72 (by omega), asTold_72 v j hj], fun r j r1 r2 j1 j2 => by rw [v2_row (by omega), yk r (by omega)], ?_⟩ ⟨by decide, fun _ => ⟨rfl, rfl, rfl⟩, fun z => by
    have z : (1 : Int) ≤ 0 := z
    omega⟩ (by decide) (by omega)
  · have := h.i.z
    unfold WZ at *
    rw [v2_row (by omega), v2_row (by omega), yk 73 (by omega), yk 74 (by omega), o_cl_asTold (by omega), o_cl_asTold (by omega)]
    exact this
  · rw [v2_eq, yk 67 (by omega)]
    by_cases z : j = 6
    · rw [if_pos ⟨rfl, z⟩, if_pos z]
    · rw [if_neg (fun w => z w.2), if_neg z]
  · rw [v2_row (by omega), hy]
    simp [v2_eq]
