
/-! the class's search among ears -/
def gdE (v : VS) (j0 : Nat) (x0 : Int) (s : Int) : Prop := (arun (cP (fQ v j0 x0 1 (pm_or (v 33 5) s)))).1 0 2 = 0
theorem ears4 {A : SS} {x P : VS} {T C : Nat} (ra : RA 91 A x) (aw : AW P T C A) (hE : P 0 3 ≤ 12) : ∀ (f i : Nat) (n : Int), (i : Int) ≤ A.1 0 0 → A.1 0 0 < i + f → 0 ≤ n ∧ n < 4096 → (0 ≤ cl_earsOfStrikes_4 f x n i ∧ cl_earsOfStrikes_4 f x n i < 4096) ∧ ∀ e : Nat, (bt (cl_earsOfStrikes_4 f x n i) e = 1 ↔ bt n e = 1 ∨ ∃ j : Nat, i ≤ j ∧ (j : Int) < A.1 0 0 ∧ A.1 5 j = e) := by
  intro f
  induction f with
  | zero => intro i n h1 h2; omega
  | succ f ih =>
    intro i n h1 h2 hn
    rw [cl_earsOfStrikes_4, ra.n, toN, show ((i : Int) + 1) = ((i + 1 : Nat) : Int) by omega]
    by_cases q : (i : Int) < A.1 0 0
    · have x5 : x 96 i = A.1 5 i := ra.st 5 i (by omega) (by omega) q
      have hs := (aw.st i q).2.2.2.2
      rw [if_pos q, x5]
      by_cases z : A.1 5 i = -1
      · rw [if_pos z]
        obtain ⟨g1, g2⟩ := ih (i + 1) n (by omega) (by omega) hn
        refine ⟨g1, fun e => (g2 e).trans ?_⟩
        constructor
        · rintro (y | ⟨j, j1, j2⟩)
          · exact Or.inl y
          · exact Or.inr ⟨j, by omega, j2⟩
        · rintro (y | ⟨j, j1, j2, j3⟩)
          · exact Or.inl y
          · by_cases w : j = i
            · rw [w] at j3; omega
            · exact Or.inr ⟨j, by omega, j2, j3⟩
      · rw [if_neg z]
        obtain ⟨d, hd⟩ : ∃ d : Nat, A.1 5 i = d := ⟨(A.1 5 i).toNat, by omega⟩
        rw [hd]
        have sb := setb_in (x := n) (c := (d : Int)) (k := 12) (by omega) (by omega)
        obtain ⟨g1, g2⟩ := ih (i + 1) (setb n d) (by omega) (by omega) (by omega)
        refine ⟨g1, fun e => (g2 e).trans ?_⟩
        rw [bt_setb (by omega) (by omega)]
        constructor
        · rintro (y | ⟨j, j1, j2⟩)
          · by_cases w : d = e
            · exact Or.inr ⟨i, by omega, q, by rw [hd, w]⟩
            · rw [if_neg w] at y; exact Or.inl y
          · exact Or.inr ⟨j, by omega, j2⟩
        · rintro (y | ⟨j, j1, j2, j3⟩)
          · left
            split
            · rfl
            · exact y
          · by_cases w : j = i
            · rw [w, hd] at j3
              left
              rw [if_pos (by omega)]
            · exact Or.inr ⟨j, by omega, j2, j3⟩
    · rw [if_neg q]
      refine ⟨hn, fun e => ⟨fun y => Or.inl y, ?_⟩⟩
      rintro (y | ⟨j, j1, j2, _⟩)
      · exact y
      · omega
theorem fewE {v : VS} (h : INV v) {j0 : Nat} {x0 : Int} (h0 : j0 = 7 ∨ j0 = 8 ∨ j0 = 9) (hj : inn (bd 67 j0) x0) {N : Nat} (hN : v 37 0 = N) : ∀ (f : Nat) (x : VS) (k : Int) (s : Nat), FK v x j0 x0 1 → SI (gdE v j0 x0) N (v 33 5) (x 104) k s → 0 ≤ k → k ≤ N → (s : Int) ≤ (2 : Int) ^ N → (N - k) * ((2 : Int) ^ N + 1) + ((2 : Int) ^ N - s) < f → LSS (gdE v j0 x0) N (v 33 5) (cl_fewestEars_40 f x (v 33 5) k s).1 ∧ FK v (cl_fewestEars_40 f x (v 33 5) k s).2 j0 x0 1 := by
  have h9 : 0 ≤ v 37 0 ∧ v 37 0 ≤ 12 := h.i.x 37 0
  have hM : 0 ≤ v 33 5 ∧ v 33 5 ≤ 4095 := h.i.x 33 5
  have p1 := pow_le12 (N := N) (by omega)
  intro f
  induction f with
  | zero =>
    intro x k s fk si k0 k1 s1 hf
    exfalso
    have : 0 ≤ (N - k) * ((2 : Int) ^ N + 1) := Int.mul_nonneg (by omega) (by omega)
    omega
  | succ f ih =>
    intro x k s fk si k0 k1 s1 hf
    rw [cl_fewestEars_40, fk.e 37 (by omega), hN, toN, show ((s : Int) + 1) = ((s + 1 : Nat) : Int) by omega]
    by_cases q : (s : Int) < (2 : Int) ^ N
    · rw [if_pos q]
      have s4 : s < 4096 := by omega
      have hy := or_in12 hM (s := (s : Int)) (by omega)
      by_cases o : cl_isOpen x s k = 0
      · rw [if_pos o]
        exact ih x k (s + 1) fk (si.skip (by omega) q ((isOpen_iff s4).mp o)) k0 k1 (by omega) (by omega)
      · rw [if_neg o]
        have o2 : x 104 s = 1 ∧ popc s = k := Classical.byContradiction (fun w => o ((isOpen_iff s4).mpr w))
        obtain ⟨sg, s6⟩ := fQ_sg h (j0 := j0) (r := 1) (x0 := x0) (y := pm_or (v 33 5) s) h0 (by omega) hj hy
        obtain ⟨g1, g2, g3⟩ := fk.play sg hy
        obtain ⟨w, hw⟩ : ∃ w, w = xplay 91 (v2 x 67 1 (pm_or (v 33 5) s)) := ⟨_, rfl⟩
        rw [← hw] at g1 g2 g3 ⊢
        rw [g2.uw]
        by_cases gd : gdE v j0 x0 s
        · rw [if_pos (show (arun (cP (fQ v j0 x0 1 (pm_or (v 33 5) s)))).1 0 2 = 0 from gd)]
          exact ⟨si.found q o2.1 o2.2 gd, g1⟩
        · rw [if_neg (show ¬ (arun (cP (fQ v j0 x0 1 (pm_or (v 33 5) s)))).1 0 2 = 0 from gd)]
          have aw := AW.run sg.pw
          have hnn := aw.n
          obtain ⟨-, -, -, d3, -⟩ := cP_0 (fQ v j0 x0 1 (pm_or (v 33 5) s))
          have e37 : fQ v j0 x0 1 (pm_or (v 33 5) s) 37 = v 37 := by unfold fQ; rw [v2_row (by omega), v2_row (by omega), o_cl_asTold (by omega)]
          obtain ⟨hn, st⟩ := ears4 g2 aw (by rw [d3, e37]; exact h9.2) 301 0 0 (by omega) (by omega) (by omega)
          rw [show ((0 : Nat) : Int) = 0 from rfl] at hn st
          have ee : cl_earsOfStrikes w = cl_earsOfStrikes_4 301 w 0 0 := rfl
          rw [← ee] at hn st
          obtain ⟨n, en⟩ : ∃ n, n = cl_earsOfStrikes w := ⟨_, rfl⟩
          rw [← en] at hn st ⊢
          have z0 : ∀ e : Nat, ¬ bt 0 e = 1 := fun e => by unfold bt; simp
          have wx : XI (cl_widen w s n) := i_cl_widen g1.i.i.x (by omega) (by omega)
          have P7 : ∀ (S : Int) (c : Nat), cP (fQ v j0 x0 1 (pm_or (v 33 5) S)) 7 c = bt (pm_or (v 33 5) S) c := fun S c => by
            obtain ⟨-, -, -, -, -, -, e7, -⟩ := cP_k (fQ v j0 x0 1 (pm_or (v 33 5) S)) c
            rw [e7]
            unfold fQ
            rw [v2_eq, if_pos ⟨rfl, rfl⟩]
          have nc := (NC.run sg.pw).2
          have fr : ∀ (i c : Nat), (i : Int) < (arun (cP (fQ v j0 x0 1 (pm_or (v 33 5) s)))).1 0 0 → (arun (cP (fQ v j0 x0 1 (pm_or (v 33 5) s)))).1 5 i = c → bt s c = 0 ∧ bt (v 33 5) c = 0 := fun i c hi hc => by
            have z : bt (pm_or (v 33 5) s) c = 0 := by
              rcases nc i hi with y | ⟨e, y1, y2⟩
              · omega
              · rw [P7] at y2
                have : e = c := by omega
                rw [this] at y2
                exact y2
            rw [bt_or2 (by omega) (by omega)] at z
            have b1 := bt_b s c
            have b2 := bt_b (v 33 5) c
            by_cases y : bt (v 33 5) c = 1 ∨ bt s c = 1
            · rw [if_pos y] at z; omega
            · omega
          refine ih _ k (s + 1) (g1.of104 wx (fun j hj => o_cl_widen (by omega))) ?_ k0 k1 (by omega) (by omega)
          refine si.bad (n := n) (by omega) q o2.1 o2.2 gd (fun j j1 j2 => ?_) (fun S t1 t2 t3 t4 t5 t6 => gd ?_) (fun T => ?_)
          · rcases (st j).mp j2 with y | ⟨i, _, i1, i2⟩
            · exact absurd y (z0 j)
            · exact fr i j i1 i2
          · have e := kE (P := cP (fQ v j0 x0 1 (pm_or (v 33 5) s))) (P' := cP (fQ v j0 x0 1 (pm_or (v 33 5) S))) sg.pw (fun j hj => cP_67 (r := 1) (by omega) (fun i hi => by unfold fQ; rw [v2_row hi, v2_row hi, v2_row hi, v2_row hi]) (fun i hi => by unfold fQ; rw [v2_eq, if_neg (fun z => hi z.2), v2_eq (j := 1), if_neg (fun z => hi z.2)]) j hj) (fun c hc => ?_) (fun c => ?_) (fun i c hi hc => ?_)
            · unfold gdE at t6 ⊢
              rw [← e 0 (by omega)]; exact t6
            · rw [P7, bt_or2 (by omega) (by omega)] at hc ⊢
              by_cases y : bt (v 33 5) c = 1 ∨ bt s c = 1
              · rw [if_pos (y.elim Or.inl (fun z => Or.inr (t4 c (by
                  rcases Nat.lt_or_ge c 12 with u | u
                  · exact u
                  · rw [bt_hi5 (n := 12) (by omega) u] at z; omega) z)))]
              · rw [if_neg y] at hc; omega
            · rw [P7, P7]; exact ⟨bt_b _ _, bt_b _ _⟩
            · rw [P7, bt_or2 (by omega) (by omega)]
              have b1 := fr i c hi hc
              have hs := (aw.st i hi).2.2.2.2
              rw [d3, e37, hc] at hs
              have := t5 c (by omega) ((st c).mpr (Or.inr ⟨i, by omega, hi, hc⟩))
              rw [if_neg (by omega)]
          · rw [widen_iff, g3]
    · rw [if_neg q]
      by_cases z : (N : Int) < k + 1
      · rw [if_pos z]
        exact ⟨si.none (by omega) (by omega) z, fk⟩
      · rw [if_neg z]
        have := mulB (N - k) ((2 : Int) ^ N + 1)
        rw [show (N : Int) - k - 1 = N - (k + 1) by omega] at this
        have r := ih x (k + 1) 0 fk (si.next (by omega)) (by omega) (by omega) (by omega) (by omega)
        exact r
