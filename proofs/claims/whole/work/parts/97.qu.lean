
/-! the class's search among churches -/
def gdC (v : VS) (t : Int) (s : Int) : Prop := (arun (cP (fQ v 8 t 0 (pm_or (v 33 4) s)))).1 0 2 = 0
theorem or_in9 {m s : Int} (hm : 0 ≤ m ∧ m ≤ 511) (hs : 0 ≤ s ∧ s < 512) : 0 ≤ pm_or m s ∧ pm_or m s ≤ 511 := by
  obtain ⟨a, rfl⟩ : ∃ a : Nat, m = a := ⟨m.toNat, by omega⟩
  obtain ⟨b, rfl⟩ : ∃ b : Nat, s = b := ⟨s.toNat, by omega⟩
  rw [or_nat (by omega) (by omega)]
  have := Nat.or_lt_two_pow (x := a) (y := b) (n := 9) (by omega) (by omega)
  omega
theorem or_in12 {m s : Int} (hm : 0 ≤ m ∧ m ≤ 4095) (hs : 0 ≤ s ∧ s < 4096) : 0 ≤ pm_or m s ∧ pm_or m s ≤ 4095 := by
  obtain ⟨a, rfl⟩ : ∃ a : Nat, m = a := ⟨m.toNat, by omega⟩
  obtain ⟨b, rfl⟩ : ∃ b : Nat, s = b := ⟨s.toNat, by omega⟩
  rw [or_nat (by omega) (by omega)]
  have := Nat.or_lt_two_pow (x := a) (y := b) (n := 12) (by omega) (by omega)
  omega
theorem bt_or2 {m s : Int} (hm : 0 ≤ m ∧ m < 4096) (hs : 0 ≤ s ∧ s < 4096) (c : Nat) : bt (pm_or m s) c = if bt m c = 1 ∨ bt s c = 1 then 1 else 0 := by
  obtain ⟨a, rfl⟩ : ∃ a : Nat, m = a := ⟨m.toNat, by omega⟩
  obtain ⟨b, rfl⟩ : ∃ b : Nat, s = b := ⟨s.toNat, by omega⟩
  exact bt_or (by omega) (by omega)
theorem bt_hi5 {x : Int} {n c : Nat} (hx : 0 ≤ x ∧ x < (2 : Int) ^ n) (hc : n ≤ c) : bt x c = 0 := by
  obtain ⟨a, rfl⟩ : ∃ a : Nat, x = a := ⟨x.toNat, by omega⟩
  have p : 2 ^ n ≤ 2 ^ c := Nat.pow_le_pow_right (by omega) hc
  have e : ((2 ^ n : Nat) : Int) = (2 : Int) ^ n := by simp
  rw [bt_test, Nat.testBit_lt_two_pow (show a < 2 ^ c by omega)]
  rfl
theorem mulB (a B : Int) : a * B = (a - 1) * B + B := by
  rw [Int.sub_mul, Int.one_mul]
  omega
theorem pow9 {N : Nat} (hN : N ≤ 9) : (2 : Int) ^ N ≤ 512 := by
  have : N = 0 ∨ N = 1 ∨ N = 2 ∨ N = 3 ∨ N = 4 ∨ N = 5 ∨ N = 6 ∨ N = 7 ∨ N = 8 ∨ N = 9 := by omega
  rcases this with rfl | rfl | rfl | rfl | rfl | rfl | rfl | rfl | rfl | rfl <;> omega
theorem isOpen_iff {x : VS} {s : Nat} {k : Int} (hs : s < 4096) : cl_isOpen x s k = 0 ↔ ¬ (x 104 s = 1 ∧ popc s = k) := by
  unfold cl_isOpen
  rw [toN, popc_eq (by omega)]
  by_cases a : x 104 s = 1
  · rw [if_pos a]
    by_cases b : popc s = k
    · rw [if_pos b]
      exact ⟨fun q => by omega, fun q => absurd ⟨a, b⟩ q⟩
    · rw [if_neg b]
      exact ⟨fun _ q => b q.2, fun _ => rfl⟩
  · rw [if_neg a]
    exact ⟨fun _ q => a q.1, fun _ => rfl⟩
theorem fewC {v : VS} (h : INV v) {t : Int} (ht : 0 ≤ t ∧ t < v 33 1) {N : Nat} (hN : v 33 0 = N) : ∀ (f : Nat) (x : VS) (k : Int) (s : Nat), FK v x 8 t 0 → SI (gdC v t) N (v 33 4) (x 104) k s → 0 ≤ k → k ≤ N → (s : Int) ≤ (2 : Int) ^ N → (N - k) * ((2 : Int) ^ N + 1) + ((2 : Int) ^ N - s) < f → LSS (gdC v t) N (v 33 4) (cl_fewestChurches_34 f x (v 33 4) k s).1 ∧ FK v (cl_fewestChurches_34 f x (v 33 4) k s).2 8 t 0 := by
  have h9 : 0 ≤ v 33 0 ∧ v 33 0 ≤ 9 := h.i.x 33 0
  have hS : 0 ≤ v 33 1 ∧ v 33 1 ≤ 300 := h.i.x 33 1
  have hM : 0 ≤ v 33 4 ∧ v 33 4 ≤ 511 := h.i.x 33 4
  have p1 := pow_le12 (N := N) (by omega)
  have p2 := pow9 (N := N) (by omega)
  intro f
  induction f with
  | zero =>
    intro x k s fk si k0 k1 s1 hf
    exfalso
    have : 0 ≤ (N - k) * ((2 : Int) ^ N + 1) := Int.mul_nonneg (by omega) (by omega)
    omega
  | succ f ih =>
    intro x k s fk si k0 k1 s1 hf
    rw [cl_fewestChurches_34, fk.e 33 (by omega), hN, toN, show ((s : Int) + 1) = ((s + 1 : Nat) : Int) by omega]
    by_cases q : (s : Int) < (2 : Int) ^ N
    · rw [if_pos q]
      have s4 : s < 4096 := by omega
      have hy := or_in9 hM (s := (s : Int)) (by omega)
      by_cases o : cl_isOpen x s k = 0
      · rw [if_pos o]
        exact ih x k (s + 1) fk (si.skip (by omega) q ((isOpen_iff s4).mp o)) k0 k1 (by omega) (by omega)
      · rw [if_neg o]
        have o2 : x 104 s = 1 ∧ popc s = k := Classical.byContradiction (fun w => o ((isOpen_iff s4).mpr w))
        obtain ⟨sg, s6⟩ := fQ_sg h (j0 := 8) (r := 0) (x0 := t) (y := pm_or (v 33 4) s) (by omega) (by omega) (show 0 ≤ t ∧ t ≤ 300 by omega) hy
        obtain ⟨g1, g2, g3⟩ := fk.play sg hy
        obtain ⟨w, hw⟩ : ∃ w, w = xplay 91 (v2 x 67 0 (pm_or (v 33 4) s)) := ⟨_, rfl⟩
        rw [← hw] at g1 g2 g3 ⊢
        rw [g2.uw]
        by_cases gd : gdC v t s
        · rw [if_pos (show (arun (cP (fQ v 8 t 0 (pm_or (v 33 4) s)))).1 0 2 = 0 from gd)]
          exact ⟨si.found q o2.1 o2.2 gd, g1⟩
        · rw [if_neg (show ¬ (arun (cP (fQ v 8 t 0 (pm_or (v 33 4) s)))).1 0 2 = 0 from gd)]
          have hn : 0 ≤ w 91 16 ∧ w 91 16 ≤ 511 := g1.i.i.x 91 16
          have wx : XI (cl_widen w s (w 91 16)) := i_cl_widen g1.i.i.x (by omega) (by omega)
          have P6 : ∀ (S : Int) (c : Nat), cP (fQ v 8 t 0 (pm_or (v 33 4) S)) 6 c = bt (pm_or (v 33 4) S) c := fun S c => by
            obtain ⟨-, -, -, -, -, e6, -⟩ := cP_k (fQ v 8 t 0 (pm_or (v 33 4) S)) c
            rw [e6]
            unfold fQ
            rw [v2_eq, if_pos ⟨rfl, rfl⟩]
          have nm := NM.run (P := cP (fQ v 8 t 0 (pm_or (v 33 4) s)))
          have st : ∀ c : Nat, bt (w 91 16) c = 1 → c < 9 ∧ (arun (cP (fQ v 8 t 0 (pm_or (v 33 4) s)))).1 12 c = 1 := fun c hc => by
            have c9 : c < 9 := by
              rcases Nat.lt_or_ge c 9 with y | y
              · exact y
              · rw [bt_hi5 (n := 9) (by omega) y] at hc; omega
            exact ⟨c9, by rw [← g2.sk c c9]; exact hc⟩
          have fr : ∀ c : Nat, (arun (cP (fQ v 8 t 0 (pm_or (v 33 4) s)))).1 12 c = 1 → bt s c = 0 ∧ bt (v 33 4) c = 0 := fun c hc => by
            have z : ¬ bt (pm_or (v 33 4) s) c = 1 := fun y => by
              have := nm c (by rw [P6]; exact y)
              omega
            rw [bt_or2 (by omega) (by omega)] at z
            have b1 := bt_b s c
            have b2 := bt_b (v 33 4) c
            by_cases y : bt (v 33 4) c = 1 ∨ bt s c = 1
            · rw [if_pos y] at z; exact absurd rfl z
            · omega
          refine ih _ k (s + 1) (g1.of104 wx (fun j hj => o_cl_widen (by omega))) ?_ k0 k1 (by omega) (by omega)
          refine si.bad (n := w 91 16) (by omega) q o2.1 o2.2 gd (fun j j1 j2 => fr j (st j j2).2) (fun S t1 t2 t3 t4 t5 t6 => gd ?_) (fun T => ?_)
          · have e := kC (P := cP (fQ v 8 t 0 (pm_or (v 33 4) s))) (P' := cP (fQ v 8 t 0 (pm_or (v 33 4) S))) sg.pw (fun j hj => cP_67 (r := 0) (by omega) (fun i hi => by unfold fQ; rw [v2_row hi, v2_row hi, v2_row hi, v2_row hi]) (fun i hi => by unfold fQ; rw [v2_eq, if_neg (fun z => hi z.2), v2_eq (j := 0), if_neg (fun z => hi z.2)]) j hj) (fun c hc => ?_) (fun c => ?_) (fun c hc => ?_)
            · unfold gdC at t6 ⊢
              rw [← e]; exact t6
            · rw [P6, bt_or2 (by omega) (by omega)] at hc ⊢
              by_cases y : bt (v 33 4) c = 1 ∨ bt s c = 1
              · rw [if_pos (y.elim Or.inl (fun z => Or.inr (t4 c (by
                  rcases Nat.lt_or_ge c 12 with u | u
                  · exact u
                  · rw [bt_hi5 (n := 12) (by omega) u] at z; omega) z)))]
              · rw [if_neg y] at hc; omega
            · rw [P6, P6]; exact ⟨bt_b _ _, bt_b _ _⟩
            · rw [P6, bt_or2 (by omega) (by omega)]
              have b1 := fr c hc
              have aw := AW.run sg.pw
              have c9 : c < 9 := by
                obtain ⟨-, x2, x3, -⟩ := aw.ye c hc
                have hq := (aw.st _ (show ((((arun (cP (fQ v 8 t 0 (pm_or (v 33 4) s)))).1 13 c).toNat : Nat) : Int) < _ by omega)).2.1
                obtain ⟨d0, -⟩ := cP_0 (fQ v 8 t 0 (pm_or (v 33 4) s))
                have e33 : fQ v 8 t 0 (pm_or (v 33 4) s) 33 = v 33 := by unfold fQ; rw [v2_row (by omega), v2_row (by omega), o_cl_asTold (by omega)]
                rw [x3, d0, e33] at hq
                omega
              have := t5 c (by omega) (by rw [g2.sk c c9]; exact hc)
              rw [if_neg (by omega)]
          · rw [widen_iff, g3]
    · rw [if_neg q]
      by_cases z : (N : Int) < k + 1
      · rw [if_pos z]
        exact ⟨si.none (by omega) (by omega) z, fk⟩
      · rw [if_neg z]
        have := mulB (N - k) ((2 : Int) ^ N + 1)
        rw [show (N : Int) - k - 1 = N - (k + 1) by omega] at this
        have r := ih x (k + 1) 0 fk (si.next (by omega)) (by omega) (by omega) (by omega) (by omega)
        exact r
