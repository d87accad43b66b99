
/-! what began: the reference -/
def bgY (u : VS) (c t g : Int) : VS := v2 (v2 (v2 u 213 (3 * (u 210 4)).toNat c) 213 (3 * (u 210 4) + 1).toNat t) 213 (3 * (u 210 4) + 2).toNat g
def bgZ (u : VS) (c t g : Int) : VS := v2 (v2 (mo_plainly (bgY u c t g)) 203 32 ((mo_plainly (bgY u c t g)) 210 4)) 203 33 ((mo_plainly (bgY u c t g)) 210 4 + 1)
theorem bg27 (f : Nat) (u : VS) (s m g c t : Int) : mo_begans_27 (f + 1) u s m g c t = (if m < t then u else (if mo_oddOf (mo_run (bgZ u c t g)) s = -1 then (if (mo_run (bgZ u c t g)) 203 51 = 0 then mo_begans_27 f (v2 (v2 (v2 (v2 (v2 (mo_run (bgZ u c t g)) 203 52 c) 203 53 t) 203 54 c) 203 54 c) 203 51 ((mo_run (bgZ u c t g)) 203 51 + 1)) s m g c (t + 1) else (if (mo_run (bgZ u c t g)) 203 54 = c then mo_begans_27 f (v2 (v2 (mo_run (bgZ u c t g)) 203 54 c) 203 51 ((mo_run (bgZ u c t g)) 203 51 + 1)) s m g c (t + 1) else mo_begans_27 f (v2 (v2 (mo_run (bgZ u c t g)) 203 54 (-1)) 203 51 ((mo_run (bgZ u c t g)) 203 51 + 1)) s m g c (t + 1))) else mo_begans_27 f (mo_run (bgZ u c t g)) s m g c (t + 1))) := by
  rw [mo_begans_27, if_pos (rfl : c = c)]
  unfold bgZ bgY
  rfl
theorem l_bg {u : VS} (hu : INV u) {mo c t g : Int} (hm : 0 ≤ mo ∧ mo < u 33 1) (hc : 0 ≤ c ∧ c < u 33 0) (ht : 0 ≤ t ∧ t < u 33 1) (hg : 1 ≤ g ∧ g ≤ 99) : RM (arun (pln (cP (sG u mo g c t)))) (mo_run (bgZ u c t g)) ∧ INV (mo_run (bgZ u c t g)) ∧ (∀ k, k < 203 ∨ (203 < k ∧ k < 213) → (mo_run (bgZ u c t g)) k = u k) ∧ (∀ j, 51 ≤ j → j ≤ 54 → (mo_run (bgZ u c t g)) 203 j = u 203 j) := by
  have h4 : 0 ≤ u 42 0 ∧ u 42 0 ≤ 4 := hu.i.x 42 0
  have h9 : 0 ≤ u 33 0 ∧ u 33 0 ≤ 9 := hu.i.x 33 0
  have h3 : 0 ≤ u 33 1 ∧ u 33 1 ≤ 300 := hu.i.x 33 1
  obtain ⟨b0, b1, b3, b4, bL, b9, b10⟩ := hu.b0
  obtain ⟨n, hn⟩ : ∃ n : Nat, u 42 0 = n := ⟨(u 42 0).toNat, by omega⟩
  have w4 : u 210 4 = n := by rw [b4, hn]
  obtain ⟨y, hy⟩ : ∃ y, y = v2 (v2 (v2 u 213 (3 * n) c) 213 (3 * n + 1) t) 213 (3 * n + 2) g := ⟨_, rfl⟩
  have ey : bgY u c t g = y := by
    unfold bgY
    rw [w4, show (3 * (n : Int)).toNat = 3 * n by omega, show (3 * (n : Int) + 1).toNat = 3 * n + 1 by omega, show (3 * (n : Int) + 2).toNat = 3 * n + 2 by omega, ← hy]
  have yk : ∀ k, k ≠ 213 → y k = u k := fun k hk => by rw [hy, v2_row hk, v2_row hk, v2_row hk]
  have y213 : ∀ i, y 213 i = if i = 3 * n + 2 then g else if i = 3 * n + 1 then t else if i = 3 * n then c else u 213 i := fun i => by
    rw [hy, v2_eq, v2_eq, v2_eq]
    by_cases z2 : i = 3 * n + 2
    · rw [if_pos ⟨rfl, z2⟩, if_pos z2]
    · rw [if_neg (fun q => z2 q.2), if_neg z2]
      by_cases z1 : i = 3 * n + 1
      · rw [if_pos ⟨rfl, z1⟩, if_pos z1]
      · rw [if_neg (fun q => z1 q.2), if_neg z1]
        by_cases z0 : i = 3 * n
        · rw [if_pos ⟨rfl, z0⟩, if_pos z0]
        · rw [if_neg (fun q => z0 q.2), if_neg z0]
  have yx : XI y := by
    rw [hy]
    exact XI.put (k := 213) (XI.put (k := 213) (XI.put (k := 213) hu.i.x (show 0 ≤ c ∧ c ≤ 299 by omega)) (show 0 ≤ t ∧ t ≤ 299 by omega)) (show 0 ≤ g ∧ g ≤ 299 by omega)
  have yc : CF y := by rw [hy]; exact hu.i.c.put213 (by omega) (by omega) hg.2
  have yI : INV y := hu.st213 w4 yx yc yk (fun i hi => by rw [y213, if_neg (by omega), if_neg (by omega), if_neg (by omega)])
  obtain ⟨z, hz⟩ : ∃ z, z = v2 (v2 (mo_plainly y) 203 32 (n : Int)) 203 33 ((n : Int) + 1) := ⟨_, rfl⟩
  have ez : bgZ u c t g = z := by
    unfold bgZ
    rw [ey, o_mo_plainly (by omega), yk 210 (by omega), w4, ← hz]
  rw [ez]
  have sg := sG_sg hu hm hc ht hg
  obtain ⟨a0, a1, a4, a5, a6, a7, a8, a9, a68⟩ := asTold_r u
  obtain ⟨x1, x2, x3, x4, x5, x6⟩ := add0 (v2 (cl_asTold u) 67 6 mo) c t g
  obtain ⟨p27, p28, p30, p31, p32, p33, p34, p35⟩ := plainly_r y
  have zx : XI z := by
    rw [hz]
    exact XI.put (k := 203) (j := 33) (XI.put (k := 203) (j := 32) (i_mo_plainly yx) (show (0 : Int) ≤ n ∧ (n : Int) ≤ 4 by omega)) (show 0 ≤ (n : Int) + 1 ∧ (n : Int) + 1 ≤ 5 by omega)
  have zf : ∀ j, j ≠ 32 → j ≠ 33 → z 203 j = (mo_plainly y) 203 j := fun j a b => by rw [hz, v2_eq, if_neg (fun q => b q.2), v2_eq, if_neg (fun q => a q.2)]
  have z33 : z 203 33 = (n : Int) + 1 := by rw [hz, v2_eq, if_pos ⟨rfl, rfl⟩]
  have z32 : z 203 32 = (n : Int) := by rw [hz, v2_eq, if_neg (by omega), v2_eq, if_pos ⟨rfl, rfl⟩]
  have zk : ∀ k, k ≠ 203 → z k = y k := fun k hk => by rw [hz, v2_row hk, v2_row hk, o_mo_plainly (by omega)]
  have zu : ∀ k, k ≠ 203 → k ≠ 213 → k < 219 → z k = u k := fun k k1 k2 k3 => by rw [zk k k1, yk k k2]
  have e67 : ∀ j, j ≠ 6 → (sG u mo g c t) 67 j = (cl_asTold u) 67 j := fun j hj => by
    unfold sG
    rw [x1 67 (by omega), v2_eq, if_neg (fun q => hj q.2)]
  have er : ∀ k, k < 67 ∨ 71 < k → (sG u mo g c t) k = (cl_asTold u) k := fun k hk => by
    unfold sG
    rw [x1 k (by omega), v2_row (by omega)]
  have br : BR (sG u mo g c t) z := by
    refine BR.gen hu zx (fun k a b => by rw [er k (by omega), o_cl_asTold (by omega)]) zu ?_ ?_ ?_ ?_ ?_ ?_ (fun k hk => ?_) (fun hb ha => ?_)
    · rw [e67 0 (by omega), a0, zf 30 (by omega) (by omega), p30, yk 210 (by omega), b9]; exact fun _ _ => rfl
    · rw [e67 1 (by omega), a1, zf 31 (by omega) (by omega), p31, yk 210 (by omega), b10]; exact fun _ _ => rfl
    · rw [e67 4 (by omega), a4, zf 34 (by omega) (by omega), p34]
    · rw [e67 5 (by omega), a5, zf 35 (by omega) (by omega), p35]
    · have : (sG u mo g c t) 68 0 = 1 := x2
      rw [z33, z32, this]
    · rw [z32]; omega
    · have e1 : (sG u mo g c t) 68 0 = 1 := x2
      have e3 : (sG u mo g c t) 69 0 = c := x3
      have e4 : (sG u mo g c t) 70 0 = t := x4
      have e5 : (sG u mo g c t) 71 0 = g := x5
      rw [e1] at hk
      have : k = 0 := by omega
      subst this
      rw [z32, toN, zk 213 (by omega), e3, e4, e5, Nat.add_zero]
      refine ⟨?_, ?_, ?_⟩
      · rw [y213, if_neg (by omega), if_pos (by omega)]
      · rw [y213, if_neg (by omega), if_neg (by omega), if_pos (by omega)]
      · rw [y213, if_pos (by omega)]
    · exact wi0 zx hb ha (by rw [er 63 (by omega), o_cl_asTold (by omega), zu 63 (by omega) (by omega) (by omega)]) (by rw [e67 4 (by omega), a4, zf 34 (by omega) (by omega), p34]) (by rw [zf 28 (by omega) (by omega), p28]) (fun j hj => by rw [er 72 (by omega), asTold_72 _ j hj, zf 27 (by omega) (by omega), p27])
  refine ⟨br.run sg, yI.run zx (yc.of (fun k a b => zk k (by omega))) (fun k hk => zk k (by omega)) (fun j hj => by rw [zf j (by omega) (by omega), plainly_f (by omega)]), fun k hk => ?_, fun j j1 j2 => ?_⟩
  · rw [o_mo_run (by omega), zk k (by omega), yk k (by omega)]
  · rw [f_run (by omega), zf j (by omega) (by omega), f_plainly (by omega), yk 203 (by omega)]
def RK4 (v u : VS) (st : Int × Int × Int × Int) : Prop :=
  (INV u) ∧
  (∀ k, k < 203 ∨ (203 < k ∧ k < 213) → u k = v k) ∧
  (u 203 51 = st.1) ∧
  (st.1 ≠ 0 → u 203 52 = st.2.1 ∧ u 203 53 = st.2.2.1) ∧
  (u 203 54 = if st.1 = 0 then -1 else if st.2.1 = st.2.2.2 then st.2.1 else -1)
theorem RK4.i {v u : VS} {st : Int × Int × Int × Int} (h : RK4 v u st) : INV u := h.1
theorem RK4.e {v u : VS} {st : Int × Int × Int × Int} (h : RK4 v u st) : ∀ k, k < 203 ∨ (203 < k ∧ k < 213) → u k = v k := h.2.1
theorem RK4.n {v u : VS} {st : Int × Int × Int × Int} (h : RK4 v u st) : u 203 51 = st.1 := h.2.2.1
theorem RK4.f {v u : VS} {st : Int × Int × Int × Int} (h : RK4 v u st) : st.1 ≠ 0 → u 203 52 = st.2.1 ∧ u 203 53 = st.2.2.1 := h.2.2.2.1
theorem RK4.s {v u : VS} {st : Int × Int × Int × Int} (h : RK4 v u st) : u 203 54 = if st.1 = 0 then -1 else if st.2.1 = st.2.2.2 then st.2.1 else -1 := h.2.2.2.2
theorem INV.f51 {w : VS} (h : INV w) {a b c d : Int} (ha : 0 ≤ a ∧ a ≤ 2700) : INV (v2 (v2 (v2 (v2 w 203 52 b) 203 53 c) 203 54 d) 203 51 a) := (((h.fld (j := 52) (by omega) trivial).fld (j := 53) (by omega) trivial).fld (j := 54) (by omega) trivial).fld (j := 51) (by omega) ha
theorem INV.g51 {w : VS} (h : INV w) {a d : Int} (ha : 0 ≤ a ∧ a ≤ 2700) : INV (v2 (v2 w 203 54 d) 203 51 a) := (h.fld (j := 54) (by omega) trivial).fld (j := 51) (by omega) ha
theorem begans27 {v : VS} {q : Nat} {mo g c m : Int} (k : GQ v q mo g) (hc : 0 ≤ c ∧ c < v 33 0) (hl : m < v 33 1) : ∀ (f : Nat) (u : VS) (t : Int) (st : Int × Int × Int × Int), RK4 v u st → N4 st c → st.1 ≤ 300 * c + t → 0 ≤ t → RK4 v (mo_begans_27 f u (q : Int) m g c t) (bI (gG v q mo g) f m c t st) := by
  have h9 : 0 ≤ v 33 0 ∧ v 33 0 ≤ 9 := k.h.i.x 33 0
  have h3 : 0 ≤ v 33 1 ∧ v 33 1 ≤ 300 := k.h.i.x 33 1
  have hq := k.q4
  have hlen := k.h.i.x.len hq
  have wd := (k.h.i.s.wd q hq k.ne).2
  intro f
  induction f with
  | zero => intro u t st s n b h0; rw [mo_begans_27, bI]; exact s
  | succ f ih =>
    intro u t st s n b h0
    rw [bg27, bI]
    by_cases z : m < t
    · rw [if_pos z, if_pos z]; exact s
    · rw [if_neg z, if_neg z]
      have ht : 0 ≤ t ∧ t < v 33 1 := by omega
      have e33 := s.e 33 (by omega)
      obtain ⟨g1, g2, g3, g4⟩ := l_bg s.i (mo := mo) (c := c) (t := t) (g := g) (by rw [e33]; exact k.m) (by rw [e33]; exact hc) (by rw [e33]; exact ht) k.g
      rw [sG_v (v := v) (fun j a b => s.e j (by omega))] at g1
      obtain ⟨w, hw⟩ : ∃ w, w = mo_run (bgZ u c t g) := ⟨_, rfl⟩
      rw [← hw] at g1 g2 g3 g4 ⊢
      have wk : ∀ j, j < 203 ∨ (203 < j ∧ j < 213) → w j = v j := fun j hj => by rw [g3 j hj, s.e j hj]
      have aw := AW.run (sG_sg k.h k.m hc ht k.g).pw.toPln
      have o := oddof_OD g1 aw (q := q) (w := v (108 + 2 * q)) (by rw [wk 205 (by omega), ← wd]; exact k.n3) (by rw [wk 205 (by omega), ← wd]; exact hlen) (fun j hj => by
        rw [wk 205 (by omega), ← wd] at hj
        rw [wk 206 (by omega)]
        exact k.h.i.s.ce q j hq k.ne hj)
      rw [wk 205 (by omega), ← wd] at o
      have o2 := k.pl hc ht
      obtain ⟨n1, n2⟩ := n.note hc.1 t
      have w51 : w 203 51 = st.1 := by rw [g4 51 (by omega) (by omega), s.n]
      have w54 := s.s
      rw [← g4 54 (by omega) (by omega)] at w54
      by_cases y : gG v q mo g c t = -1
      · rw [if_pos y, if_pos (o.mpr (o2.mp y)), w51]
        by_cases y1 : st.1 = 0
        · rw [if_pos y1]
          refine ih _ _ _ ?_ n1 (by omega) (by omega)
          have en : note4 st c t = (st.1 + 1, c, t, c) := by
            unfold note4
            rw [if_pos y1]
          rw [en]
          refine ⟨?_, fun j hj => ?_, ?_, fun _ => ⟨?_, ?_⟩, ?_⟩
          · exact (((((g2.fld (j := 52) (by omega) trivial).fld (j := 53) (by omega) trivial).fld (j := 54) (by omega) trivial).fld (j := 54) (by omega) trivial).fld (j := 51) (by omega) (show 0 ≤ st.1 + 1 ∧ st.1 + 1 ≤ 2700 by omega))
          · rw [v2_row (by omega), v2_row (by omega), v2_row (by omega), v2_row (by omega), v2_row (by omega), wk j hj]
          · simp [v2_eq]
          · simp [v2_eq]
          · simp [v2_eq]
          · have : ¬ st.1 + 1 = 0 := by omega
            simp [v2_eq, this]
        · rw [if_neg y1]
          have en : note4 st c t = (st.1 + 1, st.2.1, st.2.2.1, c) := by
            unfold note4
            rw [if_neg y1]
          have hn := n.2.2 (by have := n.1; omega)
          obtain ⟨f1, f2⟩ := s.f y1
          rw [← g4 52 (by omega) (by omega)] at f1
          rw [← g4 53 (by omega) (by omega)] at f2
          rw [if_neg y1] at w54
          have hb : 0 ≤ st.1 + 1 ∧ st.1 + 1 ≤ 2700 := by have := n.1; omega
          have h10 : ¬ st.1 + 1 = 0 := by have := n.1; omega
          by_cases y2 : w 203 54 = c
          · rw [if_pos y2]
            refine ih _ _ _ ?_ n1 (by omega) (by omega)
            rw [en]
            have y3 : st.2.1 = c := by
              rw [w54] at y2
              by_cases x : st.2.1 = st.2.2.2
              · rw [if_pos x] at y2; exact y2
              · rw [if_neg x] at y2; omega
            refine ⟨g2.g51 hb, fun j hj => ?_, ?_, fun _ => ⟨?_, ?_⟩, ?_⟩
            · rw [v2_row (by omega), v2_row (by omega), wk j hj]
            · simp [v2_eq]
            · simp [v2_eq, f1]
            · simp [v2_eq, f2]
            · simp [v2_eq, h10, y3]
          · rw [if_neg y2]
            refine ih _ _ _ ?_ n1 (by omega) (by omega)
            rw [en]
            have y3 : ¬ st.2.1 = c := by
              intro x
              rw [w54] at y2
              rw [if_pos (by omega)] at y2
              exact y2 x
            refine ⟨g2.g51 hb, fun j hj => ?_, ?_, fun _ => ⟨?_, ?_⟩, ?_⟩
            · rw [v2_row (by omega), v2_row (by omega), wk j hj]
            · simp [v2_eq]
            · simp [v2_eq, f1]
            · simp [v2_eq, f2]
            · simp [v2_eq, h10, y3]
      · rw [if_neg y, if_neg (fun x => y (o2.mpr (o.mp x)))]
        refine ih _ _ _ ⟨g2, wk, w51, fun x => ?_, w54⟩ n (by omega) (by omega)
        rw [g4 52 (by omega) (by omega), g4 53 (by omega) (by omega)]
        exact s.f x
theorem begans13 {v : VS} {q : Nat} {mo g m : Int} (k : GQ v q mo g) (hl : m < v 33 1) : ∀ (f : Nat) (u : VS) (c : Int) (st : Int × Int × Int × Int), RK4 v u st → N4 st c → st.1 ≤ 300 * c → 0 ≤ c → RK4 v (mo_begans_13 f u (q : Int) m g c) (bO (gG v q mo g) f (v 33 0) m c st) := by
  have h3 : 0 ≤ v 33 1 ∧ v 33 1 ≤ 300 := k.h.i.x 33 1
  obtain ⟨b0, -⟩ := k.h.b0
  intro f
  induction f with
  | zero => intro x c st s n b h0; rw [mo_begans_13, bO]; exact s
  | succ f ih =>
    intro x c st s n b h0
    rw [mo_begans_13, bO, s.e 210 (by omega), b0]
    by_cases z : c < v 33 0
    · rw [if_pos z, if_pos z]
      obtain ⟨b1, b2⟩ := bI_n (G := gG v q mo g) (l := m) (by omega) h0 301 0 st n (by omega) (by omega)
      exact ih _ _ _ (begans27 k ⟨h0, z⟩ hl 301 x 0 st s n (by omega) (by omega)) (b1.mono (by omega)) (by omega) (by omega)
    · rw [if_neg z, if_neg z]; exact s
