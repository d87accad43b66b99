/-! carrying -/
def xat (R : Nat) (v : VS) (i e : Int) : Int := v (R + 1) i.toNat + xlag v e (xwind v (v (R + 1) i.toNat))
def xcarry (R : Nat) (v : VS) (i e : Int) : VS :=
  if v 33 1 ≤ xat R v i e then v2 v (R + 6) 5 (v (R + 6) 5 + 1)
  else if v 67 4 ≠ 0 ∧ bt (v 64 (xat R v i e).toNat) e = 1 then v2 (v2 v (R + 6) 0 (v (R + 6) 0 + 1)) (R + 7) e.toNat (v (R + 7) e.toNat + 1)
  else if v 67 4 ≠ 1 ∧ bt (v 65 (xat R v i e).toNat) (v 38 e.toNat) = 1 then v2 v (R + 6) 1 (v (R + 6) 1 + 1)
  else xhear R v i e (xat R v i e) (v 38 e.toNat)
theorem xwind_in {v : VS} (hX : XI v) (s : Int) : -40 ≤ xwind v s ∧ xwind v s ≤ 40 := by
  have h1 : -20 ≤ v 72 (s / 30).toNat ∧ v 72 (s / 30).toNat ≤ 20 := hX 72 _
  have h2 : -20 ≤ v 63 s.toNat ∧ v 63 s.toNat ≤ 20 := hX 63 _
  unfold xwind
  split <;> omega
theorem xlag_in {v : VS} (hX : XI v) (e : Int) {w : Int} (hw : -40 ≤ w ∧ w ≤ 40) : 0 ≤ xlag v e w ∧ xlag v e w ≤ 100 := by
  have h1 : 0 ≤ v 40 e.toNat ∧ v 40 e.toNat ≤ 60 := hX 40 _
  unfold xlag
  split
  · omega
  · split <;> omega
theorem xmore_in {v : VS} (t l : Int) : 0 ≤ xmore v t l ∧ xmore v t l ≤ 1 := by
  have := bt01 (v 66 t.toNat) l
  unfold xmore
  split <;> omega
theorem xdue_in {v : VS} (hX : XI v) (t l : Int) : t ≤ xdue v t l := by
  have h1 : 0 ≤ v 35 l.toNat ∧ v 35 l.toNat ≤ 60 := hX 35 _
  unfold xdue
  split <;> omega
theorem XI_hear79 {v : VS} {i e t l : Int} (hX : XI v) (hi : 0 ≤ i ∧ i < 300) (he : 0 ≤ e ∧ e < 12) (ht : 0 ≤ t ∧ t < 300) (hl : 0 ≤ l ∧ l < 9) : XI (xhear 79 v i e t l) := by
  have h1 : 0 ≤ v 82 i.toNat ∧ v 82 i.toNat ≤ 99 := hX 82 _
  have h2 := xmore_in (v := v) t l
  have h3 := xdue_in hX t l
  have h4 : 0 ≤ v 33 1 ∧ v 33 1 ≤ 300 := hX 33 1
  simp only [xhear, Nat.reduceAdd]
  split
  · refine XI.put hX ?_
    exact trivial
  · split
    · refine XI.put hX ?_
      exact trivial
    · refine XI_put (XI.put hX ?_) (by omega) hl (by omega) (by omega) (by omega)
      exact trivial

theorem x_carry79 {X : PX} {d b : Nat} {v : VS} {i e : Int} (hX : XI v) (hi : 0 ≤ i ∧ i < 300) (he : 0 ≤ e ∧ e < 12) : EvV X (d + 1 + 1 + 1) 82 [.inr (.inr (some 79)), .inl i, .inl e] b v (none) b (xcarry 79 v i e) := by
  refine EvV.of ?_
  show WV _ _ _ 0 [some (.inr (.inr (some 79))), some (.inl i), some (.inl e), none, none] [] _ _ _
  refine r_ex 5 (pc' := 11) (lo' := [some (.inr (.inr (some 79))), some (.inl i), some (.inl e), none, none]) (st' := [.inl e, .inr (.inr (some 38))]) rfl ?_
  refine r_iald2 (j := 0) (x := (v 38 ((e).toNat))) (pc' := 12) (pc0 := 11) (len := 1) rfl (s_38 _) (by first | assumption | (unfold R32 at *; omega) | omega) (by decide) rfl rfl ?_
  have hb_1 : 0 ≤ (v 38 ((e).toNat)) ∧ (v 38 ((e).toNat)) ≤ 8 := hX 38 ((e).toNat)
  refine r_ex 4 (pc' := 18) (lo' := [some (.inr (.inr (some 79))), some (.inl i), some (.inl e), some (.inl (v 38 ((e).toNat))), none]) (st' := [.inl i, .inr (.inr (some 80))]) rfl ?_
  refine r_iald2 (j := 0) (x := (v 80 ((i).toNat))) (pc' := 19) (pc0 := 18) (len := 1) rfl (s_80 _) (by first | assumption | (unfold R32 at *; omega) | omega) (by decide) rfl rfl ?_
  have hb_2 : 0 ≤ (v 80 ((i).toNat)) ∧ (v 80 ((i).toNat)) ≤ 299 := hX 80 ((i).toNat)
  refine r_ex 8 (pc' := 33) (lo' := [some (.inr (.inr (some 79))), some (.inl i), some (.inl e), some (.inl (v 38 ((e).toNat))), none]) (st' := [.inl i, .inr (.inr (some 80)), .inr (.inr (some 79)), .inl e, .inr (.inr (some 37)), .inl (v 80 ((i).toNat))]) rfl ?_
  refine r_iald2 (j := 0) (x := (v 80 ((i).toNat))) (pc' := 34) (pc0 := 33) (len := 1) rfl (s_80 _) (by first | assumption | (unfold R32 at *; omega) | omega) (by decide) rfl rfl ?_
  have hb_3 : 0 ≤ (v 80 ((i).toNat)) ∧ (v 80 ((i).toNat)) ≤ 299 := hX 80 ((i).toNat)
  refine r_call (m := 83) (args := [.inr (.inr (some 79)), .inl (v 80 ((i).toNat))]) (n' := 82) (pc' := 37) (lo' := [some (.inr (.inr (some 79))), some (.inl i), some (.inl e), some (.inl (v 38 ((e).toNat))), none]) (st' := [.inl e, .inr (.inr (some 37)), .inl (v 80 ((i).toNat))]) (I := .invokevirtual 83) (pc0 := 34) (len := 3) rfl rfl rfl (x_windIn79 hX (by omega)) ?_
  show WV _ _ _ 37 _ [.inl (xwind v (v 80 ((i).toNat))), .inl e, .inr (.inr (some 37)), .inl (v 80 ((i).toNat))] _ v _
  obtain ⟨wd, hwd⟩ : ∃ z : Int, z = xwind v (v 80 ((i).toNat)) := ⟨_, rfl⟩
  rw [← hwd]
  have hwd2 := xwind_in hX (v 80 ((i).toNat))
  rw [← hwd] at hwd2
  refine r_call (m := 68) (args := [.inr (.inr (some 37)), .inl e, .inl wd]) (n' := 82) (pc' := 40) (lo' := [some (.inr (.inr (some 79))), some (.inl i), some (.inl e), some (.inl (v 38 ((e).toNat))), none]) (st' := [.inl (v 80 ((i).toNat))]) (I := .invokevirtual 68) (pc0 := 37) (len := 3) rfl rfl rfl (x_lagIn hX (by omega) (by omega)) ?_
  show WV _ _ _ 40 _ [.inl (xlag v e wd), .inl (v 80 ((i).toNat))] _ v _
  obtain ⟨lg, hlg⟩ : ∃ z : Int, z = xlag v e wd := ⟨_, rfl⟩
  rw [← hlg]
  have hlg2 := xlag_in hX e (w := wd) (by omega)
  rw [← hlg] at hlg2
  refine r_ex 6 (pc' := 52) (lo' := [some (.inr (.inr (some 79))), some (.inl i), some (.inl e), some (.inl (v 38 ((e).toNat))), some (.inl ((v 80 ((i).toNat)) + lg))]) (st' := [.inl (v 33 1), .inl ((v 80 ((i).toNat)) + lg)]) rfl ?_
  have hb_4 : 0 ≤ (v 33 1) ∧ (v 33 1) ≤ 300 := hX 33 1
  refine r_ic_lt (pc0 := 52) (len := 3) (t := 68) rfl (by first | assumption | (unfold R32 at *; omega) | omega) (by first | assumption | (unfold R32 at *; omega) | omega) (fun h_52 => ?_) (fun h_52 => ?_)
  · show WV _ _ _ 68 _ _ _ _ _
    refine r_ex 3 (pc' := 75) (lo' := [some (.inr (.inr (some 79))), some (.inl i), some (.inl e), some (.inl (v 38 ((e).toNat))), some (.inl ((v 80 ((i).toNat)) + lg))]) (st' := [.inl (v 67 4)]) rfl ?_
    have hb_5 : -1 ≤ (v 67 4) ∧ (v 67 4) ≤ 6 := hX 67 4
    refine r_if_eq (pc0 := 75) (len := 3) (t := 119) rfl (by first | assumption | (unfold R32 at *; omega) | omega) (fun h_75 => ?_) (fun h_75 => ?_)
    · show WV _ _ _ 119 _ _ _ _ _
      refine r_ex 4 (pc' := 127) (lo' := [some (.inr (.inr (some 79))), some (.inl i), some (.inl e), some (.inl (v 38 ((e).toNat))), some (.inl ((v 80 ((i).toNat)) + lg))]) (st' := [.inl 1, .inl (v 67 4)]) rfl ?_
      have hb_6 : -1 ≤ (v 67 4) ∧ (v 67 4) ≤ 6 := hX 67 4
      refine r_ic_eq (pc0 := 127) (len := 3) (t := 161) rfl (by first | assumption | (unfold R32 at *; omega) | omega) (by first | assumption | (unfold R32 at *; omega) | omega) (fun h_127 => ?_) (fun h_127 => ?_)
      · show WV _ _ _ 161 _ _ _ _ _
        refine r_ex 5 (pc' := 167) (lo' := [some (.inr (.inr (some 79))), some (.inl i), some (.inl e), some (.inl (v 38 ((e).toNat))), some (.inl ((v 80 ((i).toNat)) + lg))]) (st' := [.inl (v 38 ((e).toNat)), .inl ((v 80 ((i).toNat)) + lg), .inl e, .inl i, .inr (.inr (some 79))]) rfl ?_
        refine r_call (m := 84) (args := [.inr (.inr (some 79)), .inl i, .inl e, .inl ((v 80 ((i).toNat)) + lg), .inl (v 38 ((e).toNat))]) (n' := 82) (pc' := 170) (lo' := [some (.inr (.inr (some 79))), some (.inl i), some (.inl e), some (.inl (v 38 ((e).toNat))), some (.inl ((v 80 ((i).toNat)) + lg))]) (st' := []) (I := .invokevirtual 84) (pc0 := 167) (len := 3) rfl rfl rfl (x_hear79 hX (by omega) (by omega) (by omega) (by omega)) ?_
        show WV _ _ _ 170 _ [] _ (xhear 79 v i e ((v 80 ((i).toNat)) + lg) (v 38 ((e).toNat))) _
        refine r_ret (rr := none) (I := .return_) (pc0 := 170) (len := 1) rfl rfl ?_
        refine ⟨rfl, rfl, ?_⟩
        subst hlg
        subst hwd
        have hxa : xat 79 v i e = v 80 i.toNat + xlag v e (xwind v (v 80 i.toNat)) := rfl
        simp only [xcarry, Nat.reduceAdd]
        rw [hxa]
        (first | (rw [if_pos (by omega)]; done) | (rw [if_neg (by omega), if_pos (by omega)]; done) | (rw [if_neg (by omega), if_neg (by omega), if_pos (by omega)]; done) | (rw [if_neg (by omega), if_neg (by omega), if_neg (by omega)]; done))
      · show WV _ _ _ 130 _ _ _ _ _
        refine r_ex 4 (pc' := 139) (lo' := [some (.inr (.inr (some 79))), some (.inl i), some (.inl e), some (.inl (v 38 ((e).toNat))), some (.inl ((v 80 ((i).toNat)) + lg))]) (st' := [.inl ((v 80 ((i).toNat)) + lg), .inr (.inr (some 65))]) rfl ?_
        refine r_iald2 (j := 0) (x := (v 65 ((((v 80 ((i).toNat)) + lg)).toNat))) (pc' := 140) (pc0 := 139) (len := 1) rfl (s_65 _) (by first | assumption | (unfold R32 at *; omega) | omega) (by decide) rfl rfl ?_
        have hb_7 : 0 ≤ (v 65 ((((v 80 ((i).toNat)) + lg)).toNat)) ∧ (v 65 ((((v 80 ((i).toNat)) + lg)).toNat)) ≤ 511 := hX 65 ((((v 80 ((i).toNat)) + lg)).toNat)
        refine r_ex 1 (pc' := 141) (lo' := [some (.inr (.inr (some 79))), some (.inl i), some (.inl e), some (.inl (v 38 ((e).toNat))), some (.inl ((v 80 ((i).toNat)) + lg))]) (st' := [.inl (v 38 ((e).toNat)), .inl (v 65 ((((v 80 ((i).toNat)) + lg)).toNat))]) rfl ?_
        refine r_call (m := 63) (args := [.inl (v 65 ((((v 80 ((i).toNat)) + lg)).toNat)), .inl (v 38 ((e).toNat))]) (n' := 82) (pc' := 144) (lo' := [some (.inr (.inr (some 79))), some (.inl i), some (.inl e), some (.inl (v 38 ((e).toNat))), some (.inl ((v 80 ((i).toNat)) + lg))]) (st' := []) (I := .invokestatic 63) (pc0 := 141) (len := 3) rfl rfl rfl (x_bitb (by omega) (by omega)) ?_
        show WV _ _ _ 144 _ [.inl (bt (v 65 ((((v 80 ((i).toNat)) + lg)).toNat)) (v 38 ((e).toNat)))] _ v _
        have hb_8 := bt01 (v 65 ((((v 80 ((i).toNat)) + lg)).toNat)) (v 38 ((e).toNat))
        refine r_ex 1 (pc' := 145) (lo' := [some (.inr (.inr (some 79))), some (.inl i), some (.inl e), some (.inl (v 38 ((e).toNat))), some (.inl ((v 80 ((i).toNat)) + lg))]) (st' := [.inl 1, .inl (bt (v 65 ((((v 80 ((i).toNat)) + lg)).toNat)) (v 38 ((e).toNat)))]) rfl ?_
        refine r_ic_ne (pc0 := 145) (len := 3) (t := 161) rfl (by first | assumption | (unfold R32 at *; omega) | omega) (by first | assumption | (unfold R32 at *; omega) | omega) (fun h_145 => ?_) (fun h_145 => ?_)
        · show WV _ _ _ 161 _ _ _ _ _
          refine r_ex 5 (pc' := 167) (lo' := [some (.inr (.inr (some 79))), some (.inl i), some (.inl e), some (.inl (v 38 ((e).toNat))), some (.inl ((v 80 ((i).toNat)) + lg))]) (st' := [.inl (v 38 ((e).toNat)), .inl ((v 80 ((i).toNat)) + lg), .inl e, .inl i, .inr (.inr (some 79))]) rfl ?_
          refine r_call (m := 84) (args := [.inr (.inr (some 79)), .inl i, .inl e, .inl ((v 80 ((i).toNat)) + lg), .inl (v 38 ((e).toNat))]) (n' := 82) (pc' := 170) (lo' := [some (.inr (.inr (some 79))), some (.inl i), some (.inl e), some (.inl (v 38 ((e).toNat))), some (.inl ((v 80 ((i).toNat)) + lg))]) (st' := []) (I := .invokevirtual 84) (pc0 := 167) (len := 3) rfl rfl rfl (x_hear79 hX (by omega) (by omega) (by omega) (by omega)) ?_
          show WV _ _ _ 170 _ [] _ (xhear 79 v i e ((v 80 ((i).toNat)) + lg) (v 38 ((e).toNat))) _
          refine r_ret (rr := none) (I := .return_) (pc0 := 170) (len := 1) rfl rfl ?_
          refine ⟨rfl, rfl, ?_⟩
          subst hlg
          subst hwd
          have hxa : xat 79 v i e = v 80 i.toNat + xlag v e (xwind v (v 80 i.toNat)) := rfl
          simp only [xcarry, Nat.reduceAdd]
          rw [hxa]
          (first | (rw [if_pos (by omega)]; done) | (rw [if_neg (by omega), if_pos (by omega)]; done) | (rw [if_neg (by omega), if_neg (by omega), if_pos (by omega)]; done) | (rw [if_neg (by omega), if_neg (by omega), if_neg (by omega)]; done))
        · show WV _ _ _ 148 _ _ _ _ _
          refine r_ex 4 (pc' := 154) (lo' := [some (.inr (.inr (some 79))), some (.inl i), some (.inl e), some (.inl (v 38 ((e).toNat))), some (.inl ((v 80 ((i).toNat)) + lg))]) (st' := [.inl 1, .inr (.inr (some 85)), .inl 1, .inr (.inr (some 85))]) rfl ?_
          refine r_iald2 (j := 0) (x := (v 85 1)) (pc' := 155) (pc0 := 154) (len := 1) rfl (s_85 _) (by first | assumption | (unfold R32 at *; omega) | omega) (by decide) rfl rfl ?_
          refine r_ex 2 (pc' := 157) (lo' := [some (.inr (.inr (some 79))), some (.inl i), some (.inl e), some (.inl (v 38 ((e).toNat))), some (.inl ((v 80 ((i).toNat)) + lg))]) (st' := [.inl ((v 85 1) + 1), .inl 1, .inr (.inr (some 85))]) rfl ?_
          refine r_iast2 (pc' := 158) (pc0 := 157) (len := 1) rfl (s_85 _) (by first | assumption | (unfold R32 at *; omega) | omega) (by decide) rfl ?_
          have hX_9 : XI (v2 v 85 1 ((v 85 1) + 1)) := XI.put hX trivial
          show WV _ _ _ 158 _ _ _ (v2 v 85 1 ((v 85 1) + 1)) _
          refine r_ex 1 (pc' := 170) (lo' := [some (.inr (.inr (some 79))), some (.inl i), some (.inl e), some (.inl (v 38 ((e).toNat))), some (.inl ((v 80 ((i).toNat)) + lg))]) (st' := []) rfl ?_
          refine r_ret (rr := none) (I := .return_) (pc0 := 170) (len := 1) rfl rfl ?_
          refine ⟨rfl, rfl, ?_⟩
          subst hlg
          subst hwd
          have hxa : xat 79 v i e = v 80 i.toNat + xlag v e (xwind v (v 80 i.toNat)) := rfl
          simp only [xcarry, Nat.reduceAdd]
          rw [hxa]
          (first | (rw [if_pos (by omega)]; done) | (rw [if_neg (by omega), if_pos (by omega)]; done) | (rw [if_neg (by omega), if_neg (by omega), if_pos (by omega)]; done) | (rw [if_neg (by omega), if_neg (by omega), if_neg (by omega)]; done))
    · show WV _ _ _ 78 _ _ _ _ _
      refine r_ex 4 (pc' := 87) (lo' := [some (.inr (.inr (some 79))), some (.inl i), some (.inl e), some (.inl (v 38 ((e).toNat))), some (.inl ((v 80 ((i).toNat)) + lg))]) (st' := [.inl ((v 80 ((i).toNat)) + lg), .inr (.inr (some 64))]) rfl ?_
      refine r_iald2 (j := 0) (x := (v 64 ((((v 80 ((i).toNat)) + lg)).toNat))) (pc' := 88) (pc0 := 87) (len := 1) rfl (s_64 _) (by first | assumption | (unfold R32 at *; omega) | omega) (by decide) rfl rfl ?_
      have hb_10 : 0 ≤ (v 64 ((((v 80 ((i).toNat)) + lg)).toNat)) ∧ (v 64 ((((v 80 ((i).toNat)) + lg)).toNat)) ≤ 4095 := hX 64 ((((v 80 ((i).toNat)) + lg)).toNat)
      refine r_ex 1 (pc' := 89) (lo' := [some (.inr (.inr (some 79))), some (.inl i), some (.inl e), some (.inl (v 38 ((e).toNat))), some (.inl ((v 80 ((i).toNat)) + lg))]) (st' := [.inl e, .inl (v 64 ((((v 80 ((i).toNat)) + lg)).toNat))]) rfl ?_
      refine r_call (m := 63) (args := [.inl (v 64 ((((v 80 ((i).toNat)) + lg)).toNat)), .inl e]) (n' := 82) (pc' := 92) (lo' := [some (.inr (.inr (some 79))), some (.inl i), some (.inl e), some (.inl (v 38 ((e).toNat))), some (.inl ((v 80 ((i).toNat)) + lg))]) (st' := []) (I := .invokestatic 63) (pc0 := 89) (len := 3) rfl rfl rfl (x_bitb (by omega) (by omega)) ?_
      show WV _ _ _ 92 _ [.inl (bt (v 64 ((((v 80 ((i).toNat)) + lg)).toNat)) e)] _ v _
      have hb_11 := bt01 (v 64 ((((v 80 ((i).toNat)) + lg)).toNat)) e
      refine r_ex 1 (pc' := 93) (lo' := [some (.inr (.inr (some 79))), some (.inl i), some (.inl e), some (.inl (v 38 ((e).toNat))), some (.inl ((v 80 ((i).toNat)) + lg))]) (st' := [.inl 1, .inl (bt (v 64 ((((v 80 ((i).toNat)) + lg)).toNat)) e)]) rfl ?_
      refine r_ic_ne (pc0 := 93) (len := 3) (t := 119) rfl (by first | assumption | (unfold R32 at *; omega) | omega) (by first | assumption | (unfold R32 at *; omega) | omega) (fun h_93 => ?_) (fun h_93 => ?_)
      · show WV _ _ _ 119 _ _ _ _ _
        refine r_ex 4 (pc' := 127) (lo' := [some (.inr (.inr (some 79))), some (.inl i), some (.inl e), some (.inl (v 38 ((e).toNat))), some (.inl ((v 80 ((i).toNat)) + lg))]) (st' := [.inl 1, .inl (v 67 4)]) rfl ?_
        have hb_12 : -1 ≤ (v 67 4) ∧ (v 67 4) ≤ 6 := hX 67 4
        refine r_ic_eq (pc0 := 127) (len := 3) (t := 161) rfl (by first | assumption | (unfold R32 at *; omega) | omega) (by first | assumption | (unfold R32 at *; omega) | omega) (fun h_127 => ?_) (fun h_127 => ?_)
        · show WV _ _ _ 161 _ _ _ _ _
          refine r_ex 5 (pc' := 167) (lo' := [some (.inr (.inr (some 79))), some (.inl i), some (.inl e), some (.inl (v 38 ((e).toNat))), some (.inl ((v 80 ((i).toNat)) + lg))]) (st' := [.inl (v 38 ((e).toNat)), .inl ((v 80 ((i).toNat)) + lg), .inl e, .inl i, .inr (.inr (some 79))]) rfl ?_
          refine r_call (m := 84) (args := [.inr (.inr (some 79)), .inl i, .inl e, .inl ((v 80 ((i).toNat)) + lg), .inl (v 38 ((e).toNat))]) (n' := 82) (pc' := 170) (lo' := [some (.inr (.inr (some 79))), some (.inl i), some (.inl e), some (.inl (v 38 ((e).toNat))), some (.inl ((v 80 ((i).toNat)) + lg))]) (st' := []) (I := .invokevirtual 84) (pc0 := 167) (len := 3) rfl rfl rfl (x_hear79 hX (by omega) (by omega) (by omega) (by omega)) ?_
          show WV _ _ _ 170 _ [] _ (xhear 79 v i e ((v 80 ((i).toNat)) + lg) (v 38 ((e).toNat))) _
          refine r_ret (rr := none) (I := .return_) (pc0 := 170) (len := 1) rfl rfl ?_
          refine ⟨rfl, rfl, ?_⟩
          subst hlg
          subst hwd
          have hxa : xat 79 v i e = v 80 i.toNat + xlag v e (xwind v (v 80 i.toNat)) := rfl
          simp only [xcarry, Nat.reduceAdd]
          rw [hxa]
          (first | (rw [if_pos (by omega)]; done) | (rw [if_neg (by omega), if_pos (by omega)]; done) | (rw [if_neg (by omega), if_neg (by omega), if_pos (by omega)]; done) | (rw [if_neg (by omega), if_neg (by omega), if_neg (by omega)]; done))
        · show WV _ _ _ 130 _ _ _ _ _
          refine r_ex 4 (pc' := 139) (lo' := [some (.inr (.inr (some 79))), some (.inl i), some (.inl e), some (.inl (v 38 ((e).toNat))), some (.inl ((v 80 ((i).toNat)) + lg))]) (st' := [.inl ((v 80 ((i).toNat)) + lg), .inr (.inr (some 65))]) rfl ?_
          refine r_iald2 (j := 0) (x := (v 65 ((((v 80 ((i).toNat)) + lg)).toNat))) (pc' := 140) (pc0 := 139) (len := 1) rfl (s_65 _) (by first | assumption | (unfold R32 at *; omega) | omega) (by decide) rfl rfl ?_
          have hb_13 : 0 ≤ (v 65 ((((v 80 ((i).toNat)) + lg)).toNat)) ∧ (v 65 ((((v 80 ((i).toNat)) + lg)).toNat)) ≤ 511 := hX 65 ((((v 80 ((i).toNat)) + lg)).toNat)
          refine r_ex 1 (pc' := 141) (lo' := [some (.inr (.inr (some 79))), some (.inl i), some (.inl e), some (.inl (v 38 ((e).toNat))), some (.inl ((v 80 ((i).toNat)) + lg))]) (st' := [.inl (v 38 ((e).toNat)), .inl (v 65 ((((v 80 ((i).toNat)) + lg)).toNat))]) rfl ?_
          refine r_call (m := 63) (args := [.inl (v 65 ((((v 80 ((i).toNat)) + lg)).toNat)), .inl (v 38 ((e).toNat))]) (n' := 82) (pc' := 144) (lo' := [some (.inr (.inr (some 79))), some (.inl i), some (.inl e), some (.inl (v 38 ((e).toNat))), some (.inl ((v 80 ((i).toNat)) + lg))]) (st' := []) (I := .invokestatic 63) (pc0 := 141) (len := 3) rfl rfl rfl (x_bitb (by omega) (by omega)) ?_
          show WV _ _ _ 144 _ [.inl (bt (v 65 ((((v 80 ((i).toNat)) + lg)).toNat)) (v 38 ((e).toNat)))] _ v _
          have hb_14 := bt01 (v 65 ((((v 80 ((i).toNat)) + lg)).toNat)) (v 38 ((e).toNat))
          refine r_ex 1 (pc' := 145) (lo' := [some (.inr (.inr (some 79))), some (.inl i), some (.inl e), some (.inl (v 38 ((e).toNat))), some (.inl ((v 80 ((i).toNat)) + lg))]) (st' := [.inl 1, .inl (bt (v 65 ((((v 80 ((i).toNat)) + lg)).toNat)) (v 38 ((e).toNat)))]) rfl ?_
          refine r_ic_ne (pc0 := 145) (len := 3) (t := 161) rfl (by first | assumption | (unfold R32 at *; omega) | omega) (by first | assumption | (unfold R32 at *; omega) | omega) (fun h_145 => ?_) (fun h_145 => ?_)
          · show WV _ _ _ 161 _ _ _ _ _
            refine r_ex 5 (pc' := 167) (lo' := [some (.inr (.inr (some 79))), some (.inl i), some (.inl e), some (.inl (v 38 ((e).toNat))), some (.inl ((v 80 ((i).toNat)) + lg))]) (st' := [.inl (v 38 ((e).toNat)), .inl ((v 80 ((i).toNat)) + lg), .inl e, .inl i, .inr (.inr (some 79))]) rfl ?_
            refine r_call (m := 84) (args := [.inr (.inr (some 79)), .inl i, .inl e, .inl ((v 80 ((i).toNat)) + lg), .inl (v 38 ((e).toNat))]) (n' := 82) (pc' := 170) (lo' := [some (.inr (.inr (some 79))), some (.inl i), some (.inl e), some (.inl (v 38 ((e).toNat))), some (.inl ((v 80 ((i).toNat)) + lg))]) (st' := []) (I := .invokevirtual 84) (pc0 := 167) (len := 3) rfl rfl rfl (x_hear79 hX (by omega) (by omega) (by omega) (by omega)) ?_
            show WV _ _ _ 170 _ [] _ (xhear 79 v i e ((v 80 ((i).toNat)) + lg) (v 38 ((e).toNat))) _
            refine r_ret (rr := none) (I := .return_) (pc0 := 170) (len := 1) rfl rfl ?_
            refine ⟨rfl, rfl, ?_⟩
            subst hlg
            subst hwd
            have hxa : xat 79 v i e = v 80 i.toNat + xlag v e (xwind v (v 80 i.toNat)) := rfl
            simp only [xcarry, Nat.reduceAdd]
            rw [hxa]
            (first | (rw [if_pos (by omega)]; done) | (rw [if_neg (by omega), if_pos (by omega)]; done) | (rw [if_neg (by omega), if_neg (by omega), if_pos (by omega)]; done) | (rw [if_neg (by omega), if_neg (by omega), if_neg (by omega)]; done))
          · show WV _ _ _ 148 _ _ _ _ _
            refine r_ex 4 (pc' := 154) (lo' := [some (.inr (.inr (some 79))), some (.inl i), some (.inl e), some (.inl (v 38 ((e).toNat))), some (.inl ((v 80 ((i).toNat)) + lg))]) (st' := [.inl 1, .inr (.inr (some 85)), .inl 1, .inr (.inr (some 85))]) rfl ?_
            refine r_iald2 (j := 0) (x := (v 85 1)) (pc' := 155) (pc0 := 154) (len := 1) rfl (s_85 _) (by first | assumption | (unfold R32 at *; omega) | omega) (by decide) rfl rfl ?_
            refine r_ex 2 (pc' := 157) (lo' := [some (.inr (.inr (some 79))), some (.inl i), some (.inl e), some (.inl (v 38 ((e).toNat))), some (.inl ((v 80 ((i).toNat)) + lg))]) (st' := [.inl ((v 85 1) + 1), .inl 1, .inr (.inr (some 85))]) rfl ?_
            refine r_iast2 (pc' := 158) (pc0 := 157) (len := 1) rfl (s_85 _) (by first | assumption | (unfold R32 at *; omega) | omega) (by decide) rfl ?_
            have hX_15 : XI (v2 v 85 1 ((v 85 1) + 1)) := XI.put hX trivial
            show WV _ _ _ 158 _ _ _ (v2 v 85 1 ((v 85 1) + 1)) _
            refine r_ex 1 (pc' := 170) (lo' := [some (.inr (.inr (some 79))), some (.inl i), some (.inl e), some (.inl (v 38 ((e).toNat))), some (.inl ((v 80 ((i).toNat)) + lg))]) (st' := []) rfl ?_
            refine r_ret (rr := none) (I := .return_) (pc0 := 170) (len := 1) rfl rfl ?_
            refine ⟨rfl, rfl, ?_⟩
            subst hlg
            subst hwd
            have hxa : xat 79 v i e = v 80 i.toNat + xlag v e (xwind v (v 80 i.toNat)) := rfl
            simp only [xcarry, Nat.reduceAdd]
            rw [hxa]
            (first | (rw [if_pos (by omega)]; done) | (rw [if_neg (by omega), if_pos (by omega)]; done) | (rw [if_neg (by omega), if_neg (by omega), if_pos (by omega)]; done) | (rw [if_neg (by omega), if_neg (by omega), if_neg (by omega)]; done))
      · show WV _ _ _ 96 _ _ _ _ _
        refine r_ex 4 (pc' := 102) (lo' := [some (.inr (.inr (some 79))), some (.inl i), some (.inl e), some (.inl (v 38 ((e).toNat))), some (.inl ((v 80 ((i).toNat)) + lg))]) (st' := [.inl 0, .inr (.inr (some 85)), .inl 0, .inr (.inr (some 85))]) rfl ?_
        refine r_iald2 (j := 0) (x := (v 85 0)) (pc' := 103) (pc0 := 102) (len := 1) rfl (s_85 _) (by first | assumption | (unfold R32 at *; omega) | omega) (by decide) rfl rfl ?_
        refine r_ex 2 (pc' := 105) (lo' := [some (.inr (.inr (some 79))), some (.inl i), some (.inl e), some (.inl (v 38 ((e).toNat))), some (.inl ((v 80 ((i).toNat)) + lg))]) (st' := [.inl ((v 85 0) + 1), .inl 0, .inr (.inr (some 85))]) rfl ?_
        refine r_iast2 (pc' := 106) (pc0 := 105) (len := 1) rfl (s_85 _) (by first | assumption | (unfold R32 at *; omega) | omega) (by decide) rfl ?_
        have hX_16 : XI (v2 v 85 0 ((v 85 0) + 1)) := XI.put hX trivial
        show WV _ _ _ 106 _ _ _ (v2 v 85 0 ((v 85 0) + 1)) _
        refine r_ex 4 (pc' := 112) (lo' := [some (.inr (.inr (some 79))), some (.inl i), some (.inl e), some (.inl (v 38 ((e).toNat))), some (.inl ((v 80 ((i).toNat)) + lg))]) (st' := [.inl e, .inr (.inr (some 86)), .inl e, .inr (.inr (some 86))]) rfl ?_
        refine r_iald2 (j := 0) (x := (v 86 ((e).toNat))) (pc' := 113) (pc0 := 112) (len := 1) rfl (s_86 _) (by first | assumption | (unfold R32 at *; omega) | omega) (by decide) rfl rfl ?_
        refine r_ex 2 (pc' := 115) (lo' := [some (.inr (.inr (some 79))), some (.inl i), some (.inl e), some (.inl (v 38 ((e).toNat))), some (.inl ((v 80 ((i).toNat)) + lg))]) (st' := [.inl ((v 86 ((e).toNat)) + 1), .inl e, .inr (.inr (some 86))]) rfl ?_
        refine r_iast2 (pc' := 116) (pc0 := 115) (len := 1) rfl (s_86 _) (by first | assumption | (unfold R32 at *; omega) | omega) (by decide) rfl ?_
        have hX_17 : XI (v2 (v2 v 85 0 ((v 85 0) + 1)) 86 ((e).toNat) ((v 86 ((e).toNat)) + 1)) := XI.put hX_16 trivial
        refine r_ex 1 (pc' := 170) (lo' := [some (.inr (.inr (some 79))), some (.inl i), some (.inl e), some (.inl (v 38 ((e).toNat))), some (.inl ((v 80 ((i).toNat)) + lg))]) (st' := []) rfl ?_
        refine r_ret (rr := none) (I := .return_) (pc0 := 170) (len := 1) rfl rfl ?_
        refine ⟨rfl, rfl, ?_⟩
        subst hlg
        subst hwd
        have hxa : xat 79 v i e = v 80 i.toNat + xlag v e (xwind v (v 80 i.toNat)) := rfl
        simp only [xcarry, Nat.reduceAdd]
        rw [hxa]
        (first | (rw [if_pos (by omega)]; done) | (rw [if_neg (by omega), if_pos (by omega)]; done) | (rw [if_neg (by omega), if_neg (by omega), if_pos (by omega)]; done) | (rw [if_neg (by omega), if_neg (by omega), if_neg (by omega)]; done))
  · show WV _ _ _ 55 _ _ _ _ _
    refine r_ex 4 (pc' := 61) (lo' := [some (.inr (.inr (some 79))), some (.inl i), some (.inl e), some (.inl (v 38 ((e).toNat))), some (.inl ((v 80 ((i).toNat)) + lg))]) (st' := [.inl 5, .inr (.inr (some 85)), .inl 5, .inr (.inr (some 85))]) rfl ?_
    refine r_iald2 (j := 0) (x := (v 85 5)) (pc' := 62) (pc0 := 61) (len := 1) rfl (s_85 _) (by first | assumption | (unfold R32 at *; omega) | omega) (by decide) rfl rfl ?_
    refine r_ex 2 (pc' := 64) (lo' := [some (.inr (.inr (some 79))), some (.inl i), some (.inl e), some (.inl (v 38 ((e).toNat))), some (.inl ((v 80 ((i).toNat)) + lg))]) (st' := [.inl ((v 85 5) + 1), .inl 5, .inr (.inr (some 85))]) rfl ?_
    refine r_iast2 (pc' := 65) (pc0 := 64) (len := 1) rfl (s_85 _) (by first | assumption | (unfold R32 at *; omega) | omega) (by decide) rfl ?_
    have hX_18 : XI (v2 v 85 5 ((v 85 5) + 1)) := XI.put hX trivial
    show WV _ _ _ 65 _ _ _ (v2 v 85 5 ((v 85 5) + 1)) _
    refine r_ex 1 (pc' := 170) (lo' := [some (.inr (.inr (some 79))), some (.inl i), some (.inl e), some (.inl (v 38 ((e).toNat))), some (.inl ((v 80 ((i).toNat)) + lg))]) (st' := []) rfl ?_
    refine r_ret (rr := none) (I := .return_) (pc0 := 170) (len := 1) rfl rfl ?_
    refine ⟨rfl, rfl, ?_⟩
    subst hlg
    subst hwd
    have hxa : xat 79 v i e = v 80 i.toNat + xlag v e (xwind v (v 80 i.toNat)) := rfl
    simp only [xcarry, Nat.reduceAdd]
    rw [hxa]
    (first | (rw [if_pos (by omega)]; done) | (rw [if_neg (by omega), if_pos (by omega)]; done) | (rw [if_neg (by omega), if_neg (by omega), if_pos (by omega)]; done) | (rw [if_neg (by omega), if_neg (by omega), if_neg (by omega)]; done))

theorem XI_carry79 {v : VS} {i e : Int} (hX : XI v) (hi : 0 ≤ i ∧ i < 300) (he : 0 ≤ e ∧ e < 12) : XI (xcarry 79 v i e) := by
  have h1 : 0 ≤ v 80 i.toNat ∧ v 80 i.toNat ≤ 299 := hX 80 _
  have h2 := xlag_in hX e (xwind_in hX (v 80 i.toNat))
  have h4 : 0 ≤ v 33 1 ∧ v 33 1 ≤ 300 := hX 33 1
  have h5 : 0 ≤ v 38 e.toNat ∧ v 38 e.toNat ≤ 8 := hX 38 _
  have hxa : xat 79 v i e = v 80 i.toNat + xlag v e (xwind v (v 80 i.toNat)) := rfl
  simp only [xcarry, Nat.reduceAdd]
  split
  · refine XI.put hX ?_
    exact trivial
  · split
    · refine XI.put (XI.put hX ?_) ?_ <;> exact trivial
    · split
      · refine XI.put hX ?_
        exact trivial
      · exact XI_hear79 hX hi he (by omega) (by omega)

theorem XI_hear91 {v : VS} {i e t l : Int} (hX : XI v) (hi : 0 ≤ i ∧ i < 300) (he : 0 ≤ e ∧ e < 12) (ht : 0 ≤ t ∧ t < 300) (hl : 0 ≤ l ∧ l < 9) : XI (xhear 91 v i e t l) := by
  have h1 : 0 ≤ v 94 i.toNat ∧ v 94 i.toNat ≤ 99 := hX 94 _
  have h2 := xmore_in (v := v) t l
  have h3 := xdue_in hX t l
  have h4 : 0 ≤ v 33 1 ∧ v 33 1 ≤ 300 := hX 33 1
  simp only [xhear, Nat.reduceAdd]
  split
  · refine XI.put hX ?_
    exact trivial
  · split
    · refine XI.put hX ?_
      exact trivial
    · refine XI_put (XI.put hX ?_) (by omega) hl (by omega) (by omega) (by omega)
      exact trivial

theorem x_carry91 {X : PX} {d b : Nat} {v : VS} {i e : Int} (hX : XI v) (hi : 0 ≤ i ∧ i < 300) (he : 0 ≤ e ∧ e < 12) : EvV X (d + 1 + 1 + 1) 82 [.inr (.inr (some 91)), .inl i, .inl e] b v (none) b (xcarry 91 v i e) := by
  refine EvV.of ?_
  show WV _ _ _ 0 [some (.inr (.inr (some 91))), some (.inl i), some (.inl e), none, none] [] _ _ _
  refine r_ex 5 (pc' := 11) (lo' := [some (.inr (.inr (some 91))), some (.inl i), some (.inl e), none, none]) (st' := [.inl e, .inr (.inr (some 38))]) rfl ?_
  refine r_iald2 (j := 0) (x := (v 38 ((e).toNat))) (pc' := 12) (pc0 := 11) (len := 1) rfl (s_38 _) (by first | assumption | (unfold R32 at *; omega) | omega) (by decide) rfl rfl ?_
  have hb_1 : 0 ≤ (v 38 ((e).toNat)) ∧ (v 38 ((e).toNat)) ≤ 8 := hX 38 ((e).toNat)
  refine r_ex 4 (pc' := 18) (lo' := [some (.inr (.inr (some 91))), some (.inl i), some (.inl e), some (.inl (v 38 ((e).toNat))), none]) (st' := [.inl i, .inr (.inr (some 92))]) rfl ?_
  refine r_iald2 (j := 0) (x := (v 92 ((i).toNat))) (pc' := 19) (pc0 := 18) (len := 1) rfl (s_92 _) (by first | assumption | (unfold R32 at *; omega) | omega) (by decide) rfl rfl ?_
  have hb_2 : 0 ≤ (v 92 ((i).toNat)) ∧ (v 92 ((i).toNat)) ≤ 299 := hX 92 ((i).toNat)
  refine r_ex 8 (pc' := 33) (lo' := [some (.inr (.inr (some 91))), some (.inl i), some (.inl e), some (.inl (v 38 ((e).toNat))), none]) (st' := [.inl i, .inr (.inr (some 92)), .inr (.inr (some 91)), .inl e, .inr (.inr (some 37)), .inl (v 92 ((i).toNat))]) rfl ?_
  refine r_iald2 (j := 0) (x := (v 92 ((i).toNat))) (pc' := 34) (pc0 := 33) (len := 1) rfl (s_92 _) (by first | assumption | (unfold R32 at *; omega) | omega) (by decide) rfl rfl ?_
  have hb_3 : 0 ≤ (v 92 ((i).toNat)) ∧ (v 92 ((i).toNat)) ≤ 299 := hX 92 ((i).toNat)
  refine r_call (m := 83) (args := [.inr (.inr (some 91)), .inl (v 92 ((i).toNat))]) (n' := 82) (pc' := 37) (lo' := [some (.inr (.inr (some 91))), some (.inl i), some (.inl e), some (.inl (v 38 ((e).toNat))), none]) (st' := [.inl e, .inr (.inr (some 37)), .inl (v 92 ((i).toNat))]) (I := .invokevirtual 83) (pc0 := 34) (len := 3) rfl rfl rfl (x_windIn91 hX (by omega)) ?_
  show WV _ _ _ 37 _ [.inl (xwind v (v 92 ((i).toNat))), .inl e, .inr (.inr (some 37)), .inl (v 92 ((i).toNat))] _ v _
  obtain ⟨wd, hwd⟩ : ∃ z : Int, z = xwind v (v 92 ((i).toNat)) := ⟨_, rfl⟩
  rw [← hwd]
  have hwd2 := xwind_in hX (v 92 ((i).toNat))
  rw [← hwd] at hwd2
  refine r_call (m := 68) (args := [.inr (.inr (some 37)), .inl e, .inl wd]) (n' := 82) (pc' := 40) (lo' := [some (.inr (.inr (some 91))), some (.inl i), some (.inl e), some (.inl (v 38 ((e).toNat))), none]) (st' := [.inl (v 92 ((i).toNat))]) (I := .invokevirtual 68) (pc0 := 37) (len := 3) rfl rfl rfl (x_lagIn hX (by omega) (by omega)) ?_
  show WV _ _ _ 40 _ [.inl (xlag v e wd), .inl (v 92 ((i).toNat))] _ v _
  obtain ⟨lg, hlg⟩ : ∃ z : Int, z = xlag v e wd := ⟨_, rfl⟩
  rw [← hlg]
  have hlg2 := xlag_in hX e (w := wd) (by omega)
  rw [← hlg] at hlg2
  refine r_ex 6 (pc' := 52) (lo' := [some (.inr (.inr (some 91))), some (.inl i), some (.inl e), some (.inl (v 38 ((e).toNat))), some (.inl ((v 92 ((i).toNat)) + lg))]) (st' := [.inl (v 33 1), .inl ((v 92 ((i).toNat)) + lg)]) rfl ?_
  have hb_4 : 0 ≤ (v 33 1) ∧ (v 33 1) ≤ 300 := hX 33 1
  refine r_ic_lt (pc0 := 52) (len := 3) (t := 68) rfl (by first | assumption | (unfold R32 at *; omega) | omega) (by first | assumption | (unfold R32 at *; omega) | omega) (fun h_52 => ?_) (fun h_52 => ?_)
  · show WV _ _ _ 68 _ _ _ _ _
    refine r_ex 3 (pc' := 75) (lo' := [some (.inr (.inr (some 91))), some (.inl i), some (.inl e), some (.inl (v 38 ((e).toNat))), some (.inl ((v 92 ((i).toNat)) + lg))]) (st' := [.inl (v 67 4)]) rfl ?_
    have hb_5 : -1 ≤ (v 67 4) ∧ (v 67 4) ≤ 6 := hX 67 4
    refine r_if_eq (pc0 := 75) (len := 3) (t := 119) rfl (by first | assumption | (unfold R32 at *; omega) | omega) (fun h_75 => ?_) (fun h_75 => ?_)
    · show WV _ _ _ 119 _ _ _ _ _
      refine r_ex 4 (pc' := 127) (lo' := [some (.inr (.inr (some 91))), some (.inl i), some (.inl e), some (.inl (v 38 ((e).toNat))), some (.inl ((v 92 ((i).toNat)) + lg))]) (st' := [.inl 1, .inl (v 67 4)]) rfl ?_
      have hb_6 : -1 ≤ (v 67 4) ∧ (v 67 4) ≤ 6 := hX 67 4
      refine r_ic_eq (pc0 := 127) (len := 3) (t := 161) rfl (by first | assumption | (unfold R32 at *; omega) | omega) (by first | assumption | (unfold R32 at *; omega) | omega) (fun h_127 => ?_) (fun h_127 => ?_)
      · show WV _ _ _ 161 _ _ _ _ _
        refine r_ex 5 (pc' := 167) (lo' := [some (.inr (.inr (some 91))), some (.inl i), some (.inl e), some (.inl (v 38 ((e).toNat))), some (.inl ((v 92 ((i).toNat)) + lg))]) (st' := [.inl (v 38 ((e).toNat)), .inl ((v 92 ((i).toNat)) + lg), .inl e, .inl i, .inr (.inr (some 91))]) rfl ?_
        refine r_call (m := 84) (args := [.inr (.inr (some 91)), .inl i, .inl e, .inl ((v 92 ((i).toNat)) + lg), .inl (v 38 ((e).toNat))]) (n' := 82) (pc' := 170) (lo' := [some (.inr (.inr (some 91))), some (.inl i), some (.inl e), some (.inl (v 38 ((e).toNat))), some (.inl ((v 92 ((i).toNat)) + lg))]) (st' := []) (I := .invokevirtual 84) (pc0 := 167) (len := 3) rfl rfl rfl (x_hear91 hX (by omega) (by omega) (by omega) (by omega)) ?_
        show WV _ _ _ 170 _ [] _ (xhear 91 v i e ((v 92 ((i).toNat)) + lg) (v 38 ((e).toNat))) _
        refine r_ret (rr := none) (I := .return_) (pc0 := 170) (len := 1) rfl rfl ?_
        refine ⟨rfl, rfl, ?_⟩
        subst hlg
        subst hwd
        have hxa : xat 91 v i e = v 92 i.toNat + xlag v e (xwind v (v 92 i.toNat)) := rfl
        simp only [xcarry, Nat.reduceAdd]
        rw [hxa]
        (first | (rw [if_pos (by omega)]; done) | (rw [if_neg (by omega), if_pos (by omega)]; done) | (rw [if_neg (by omega), if_neg (by omega), if_pos (by omega)]; done) | (rw [if_neg (by omega), if_neg (by omega), if_neg (by omega)]; done))
      · show WV _ _ _ 130 _ _ _ _ _
        refine r_ex 4 (pc' := 139) (lo' := [some (.inr (.inr (some 91))), some (.inl i), some (.inl e), some (.inl (v 38 ((e).toNat))), some (.inl ((v 92 ((i).toNat)) + lg))]) (st' := [.inl ((v 92 ((i).toNat)) + lg), .inr (.inr (some 65))]) rfl ?_
        refine r_iald2 (j := 0) (x := (v 65 ((((v 92 ((i).toNat)) + lg)).toNat))) (pc' := 140) (pc0 := 139) (len := 1) rfl (s_65 _) (by first | assumption | (unfold R32 at *; omega) | omega) (by decide) rfl rfl ?_
        have hb_7 : 0 ≤ (v 65 ((((v 92 ((i).toNat)) + lg)).toNat)) ∧ (v 65 ((((v 92 ((i).toNat)) + lg)).toNat)) ≤ 511 := hX 65 ((((v 92 ((i).toNat)) + lg)).toNat)
        refine r_ex 1 (pc' := 141) (lo' := [some (.inr (.inr (some 91))), some (.inl i), some (.inl e), some (.inl (v 38 ((e).toNat))), some (.inl ((v 92 ((i).toNat)) + lg))]) (st' := [.inl (v 38 ((e).toNat)), .inl (v 65 ((((v 92 ((i).toNat)) + lg)).toNat))]) rfl ?_
        refine r_call (m := 63) (args := [.inl (v 65 ((((v 92 ((i).toNat)) + lg)).toNat)), .inl (v 38 ((e).toNat))]) (n' := 82) (pc' := 144) (lo' := [some (.inr (.inr (some 91))), some (.inl i), some (.inl e), some (.inl (v 38 ((e).toNat))), some (.inl ((v 92 ((i).toNat)) + lg))]) (st' := []) (I := .invokestatic 63) (pc0 := 141) (len := 3) rfl rfl rfl (x_bitb (by omega) (by omega)) ?_
        show WV _ _ _ 144 _ [.inl (bt (v 65 ((((v 92 ((i).toNat)) + lg)).toNat)) (v 38 ((e).toNat)))] _ v _
        have hb_8 := bt01 (v 65 ((((v 92 ((i).toNat)) + lg)).toNat)) (v 38 ((e).toNat))
        refine r_ex 1 (pc' := 145) (lo' := [some (.inr (.inr (some 91))), some (.inl i), some (.inl e), some (.inl (v 38 ((e).toNat))), some (.inl ((v 92 ((i).toNat)) + lg))]) (st' := [.inl 1, .inl (bt (v 65 ((((v 92 ((i).toNat)) + lg)).toNat)) (v 38 ((e).toNat)))]) rfl ?_
        refine r_ic_ne (pc0 := 145) (len := 3) (t := 161) rfl (by first | assumption | (unfold R32 at *; omega) | omega) (by first | assumption | (unfold R32 at *; omega) | omega) (fun h_145 => ?_) (fun h_145 => ?_)
        · show WV _ _ _ 161 _ _ _ _ _
          refine r_ex 5 (pc' := 167) (lo' := [some (.inr (.inr (some 91))), some (.inl i), some (.inl e), some (.inl (v 38 ((e).toNat))), some (.inl ((v 92 ((i).toNat)) + lg))]) (st' := [.inl (v 38 ((e).toNat)), .inl ((v 92 ((i).toNat)) + lg), .inl e, .inl i, .inr (.inr (some 91))]) rfl ?_
          refine r_call (m := 84) (args := [.inr (.inr (some 91)), .inl i, .inl e, .inl ((v 92 ((i).toNat)) + lg), .inl (v 38 ((e).toNat))]) (n' := 82) (pc' := 170) (lo' := [some (.inr (.inr (some 91))), some (.inl i), some (.inl e), some (.inl (v 38 ((e).toNat))), some (.inl ((v 92 ((i).toNat)) + lg))]) (st' := []) (I := .invokevirtual 84) (pc0 := 167) (len := 3) rfl rfl rfl (x_hear91 hX (by omega) (by omega) (by omega) (by omega)) ?_
          show WV _ _ _ 170 _ [] _ (xhear 91 v i e ((v 92 ((i).toNat)) + lg) (v 38 ((e).toNat))) _
          refine r_ret (rr := none) (I := .return_) (pc0 := 170) (len := 1) rfl rfl ?_
          refine ⟨rfl, rfl, ?_⟩
          subst hlg
          subst hwd
          have hxa : xat 91 v i e = v 92 i.toNat + xlag v e (xwind v (v 92 i.toNat)) := rfl
          simp only [xcarry, Nat.reduceAdd]
          rw [hxa]
          (first | (rw [if_pos (by omega)]; done) | (rw [if_neg (by omega), if_pos (by omega)]; done) | (rw [if_neg (by omega), if_neg (by omega), if_pos (by omega)]; done) | (rw [if_neg (by omega), if_neg (by omega), if_neg (by omega)]; done))
        · show WV _ _ _ 148 _ _ _ _ _
          refine r_ex 4 (pc' := 154) (lo' := [some (.inr (.inr (some 91))), some (.inl i), some (.inl e), some (.inl (v 38 ((e).toNat))), some (.inl ((v 92 ((i).toNat)) + lg))]) (st' := [.inl 1, .inr (.inr (some 97)), .inl 1, .inr (.inr (some 97))]) rfl ?_
          refine r_iald2 (j := 0) (x := (v 97 1)) (pc' := 155) (pc0 := 154) (len := 1) rfl (s_97 _) (by first | assumption | (unfold R32 at *; omega) | omega) (by decide) rfl rfl ?_
          refine r_ex 2 (pc' := 157) (lo' := [some (.inr (.inr (some 91))), some (.inl i), some (.inl e), some (.inl (v 38 ((e).toNat))), some (.inl ((v 92 ((i).toNat)) + lg))]) (st' := [.inl ((v 97 1) + 1), .inl 1, .inr (.inr (some 97))]) rfl ?_
          refine r_iast2 (pc' := 158) (pc0 := 157) (len := 1) rfl (s_97 _) (by first | assumption | (unfold R32 at *; omega) | omega) (by decide) rfl ?_
          have hX_9 : XI (v2 v 97 1 ((v 97 1) + 1)) := XI.put hX trivial
          show WV _ _ _ 158 _ _ _ (v2 v 97 1 ((v 97 1) + 1)) _
          refine r_ex 1 (pc' := 170) (lo' := [some (.inr (.inr (some 91))), some (.inl i), some (.inl e), some (.inl (v 38 ((e).toNat))), some (.inl ((v 92 ((i).toNat)) + lg))]) (st' := []) rfl ?_
          refine r_ret (rr := none) (I := .return_) (pc0 := 170) (len := 1) rfl rfl ?_
          refine ⟨rfl, rfl, ?_⟩
          subst hlg
          subst hwd
          have hxa : xat 91 v i e = v 92 i.toNat + xlag v e (xwind v (v 92 i.toNat)) := rfl
          simp only [xcarry, Nat.reduceAdd]
          rw [hxa]
          (first | (rw [if_pos (by omega)]; done) | (rw [if_neg (by omega), if_pos (by omega)]; done) | (rw [if_neg (by omega), if_neg (by omega), if_pos (by omega)]; done) | (rw [if_neg (by omega), if_neg (by omega), if_neg (by omega)]; done))
    · show WV _ _ _ 78 _ _ _ _ _
      refine r_ex 4 (pc' := 87) (lo' := [some (.inr (.inr (some 91))), some (.inl i), some (.inl e), some (.inl (v 38 ((e).toNat))), some (.inl ((v 92 ((i).toNat)) + lg))]) (st' := [.inl ((v 92 ((i).toNat)) + lg), .inr (.inr (some 64))]) rfl ?_
      refine r_iald2 (j := 0) (x := (v 64 ((((v 92 ((i).toNat)) + lg)).toNat))) (pc' := 88) (pc0 := 87) (len := 1) rfl (s_64 _) (by first | assumption | (unfold R32 at *; omega) | omega) (by decide) rfl rfl ?_
      have hb_10 : 0 ≤ (v 64 ((((v 92 ((i).toNat)) + lg)).toNat)) ∧ (v 64 ((((v 92 ((i).toNat)) + lg)).toNat)) ≤ 4095 := hX 64 ((((v 92 ((i).toNat)) + lg)).toNat)
      refine r_ex 1 (pc' := 89) (lo' := [some (.inr (.inr (some 91))), some (.inl i), some (.inl e), some (.inl (v 38 ((e).toNat))), some (.inl ((v 92 ((i).toNat)) + lg))]) (st' := [.inl e, .inl (v 64 ((((v 92 ((i).toNat)) + lg)).toNat))]) rfl ?_
      refine r_call (m := 63) (args := [.inl (v 64 ((((v 92 ((i).toNat)) + lg)).toNat)), .inl e]) (n' := 82) (pc' := 92) (lo' := [some (.inr (.inr (some 91))), some (.inl i), some (.inl e), some (.inl (v 38 ((e).toNat))), some (.inl ((v 92 ((i).toNat)) + lg))]) (st' := []) (I := .invokestatic 63) (pc0 := 89) (len := 3) rfl rfl rfl (x_bitb (by omega) (by omega)) ?_
      show WV _ _ _ 92 _ [.inl (bt (v 64 ((((v 92 ((i).toNat)) + lg)).toNat)) e)] _ v _
      have hb_11 := bt01 (v 64 ((((v 92 ((i).toNat)) + lg)).toNat)) e
      refine r_ex 1 (pc' := 93) (lo' := [some (.inr (.inr (some 91))), some (.inl i), some (.inl e), some (.inl (v 38 ((e).toNat))), some (.inl ((v 92 ((i).toNat)) + lg))]) (st' := [.inl 1, .inl (bt (v 64 ((((v 92 ((i).toNat)) + lg)).toNat)) e)]) rfl ?_
      refine r_ic_ne (pc0 := 93) (len := 3) (t := 119) rfl (by first | assumption | (unfold R32 at *; omega) | omega) (by first | assumption | (unfold R32 at *; omega) | omega) (fun h_93 => ?_) (fun h_93 => ?_)
      · show WV _ _ _ 119 _ _ _ _ _
        refine r_ex 4 (pc' := 127) (lo' := [some (.inr (.inr (some 91))), some (.inl i), some (.inl e), some (.inl (v 38 ((e).toNat))), some (.inl ((v 92 ((i).toNat)) + lg))]) (st' := [.inl 1, .inl (v 67 4)]) rfl ?_
        have hb_12 : -1 ≤ (v 67 4) ∧ (v 67 4) ≤ 6 := hX 67 4
        refine r_ic_eq (pc0 := 127) (len := 3) (t := 161) rfl (by first | assumption | (unfold R32 at *; omega) | omega) (by first | assumption | (unfold R32 at *; omega) | omega) (fun h_127 => ?_) (fun h_127 => ?_)
        · show WV _ _ _ 161 _ _ _ _ _
          refine r_ex 5 (pc' := 167) (lo' := [some (.inr (.inr (some 91))), some (.inl i), some (.inl e), some (.inl (v 38 ((e).toNat))), some (.inl ((v 92 ((i).toNat)) + lg))]) (st' := [.inl (v 38 ((e).toNat)), .inl ((v 92 ((i).toNat)) + lg), .inl e, .inl i, .inr (.inr (some 91))]) rfl ?_
          refine r_call (m := 84) (args := [.inr (.inr (some 91)), .inl i, .inl e, .inl ((v 92 ((i).toNat)) + lg), .inl (v 38 ((e).toNat))]) (n' := 82) (pc' := 170) (lo' := [some (.inr (.inr (some 91))), some (.inl i), some (.inl e), some (.inl (v 38 ((e).toNat))), some (.inl ((v 92 ((i).toNat)) + lg))]) (st' := []) (I := .invokevirtual 84) (pc0 := 167) (len := 3) rfl rfl rfl (x_hear91 hX (by omega) (by omega) (by omega) (by omega)) ?_
          show WV _ _ _ 170 _ [] _ (xhear 91 v i e ((v 92 ((i).toNat)) + lg) (v 38 ((e).toNat))) _
          refine r_ret (rr := none) (I := .return_) (pc0 := 170) (len := 1) rfl rfl ?_
          refine ⟨rfl, rfl, ?_⟩
          subst hlg
          subst hwd
          have hxa : xat 91 v i e = v 92 i.toNat + xlag v e (xwind v (v 92 i.toNat)) := rfl
          simp only [xcarry, Nat.reduceAdd]
          rw [hxa]
          (first | (rw [if_pos (by omega)]; done) | (rw [if_neg (by omega), if_pos (by omega)]; done) | (rw [if_neg (by omega), if_neg (by omega), if_pos (by omega)]; done) | (rw [if_neg (by omega), if_neg (by omega), if_neg (by omega)]; done))
        · show WV _ _ _ 130 _ _ _ _ _
          refine r_ex 4 (pc' := 139) (lo' := [some (.inr (.inr (some 91))), some (.inl i), some (.inl e), some (.inl (v 38 ((e).toNat))), some (.inl ((v 92 ((i).toNat)) + lg))]) (st' := [.inl ((v 92 ((i).toNat)) + lg), .inr (.inr (some 65))]) rfl ?_
          refine r_iald2 (j := 0) (x := (v 65 ((((v 92 ((i).toNat)) + lg)).toNat))) (pc' := 140) (pc0 := 139) (len := 1) rfl (s_65 _) (by first | assumption | (unfold R32 at *; omega) | omega) (by decide) rfl rfl ?_
          have hb_13 : 0 ≤ (v 65 ((((v 92 ((i).toNat)) + lg)).toNat)) ∧ (v 65 ((((v 92 ((i).toNat)) + lg)).toNat)) ≤ 511 := hX 65 ((((v 92 ((i).toNat)) + lg)).toNat)
          refine r_ex 1 (pc' := 141) (lo' := [some (.inr (.inr (some 91))), some (.inl i), some (.inl e), some (.inl (v 38 ((e).toNat))), some (.inl ((v 92 ((i).toNat)) + lg))]) (st' := [.inl (v 38 ((e).toNat)), .inl (v 65 ((((v 92 ((i).toNat)) + lg)).toNat))]) rfl ?_
          refine r_call (m := 63) (args := [.inl (v 65 ((((v 92 ((i).toNat)) + lg)).toNat)), .inl (v 38 ((e).toNat))]) (n' := 82) (pc' := 144) (lo' := [some (.inr (.inr (some 91))), some (.inl i), some (.inl e), some (.inl (v 38 ((e).toNat))), some (.inl ((v 92 ((i).toNat)) + lg))]) (st' := []) (I := .invokestatic 63) (pc0 := 141) (len := 3) rfl rfl rfl (x_bitb (by omega) (by omega)) ?_
          show WV _ _ _ 144 _ [.inl (bt (v 65 ((((v 92 ((i).toNat)) + lg)).toNat)) (v 38 ((e).toNat)))] _ v _
          have hb_14 := bt01 (v 65 ((((v 92 ((i).toNat)) + lg)).toNat)) (v 38 ((e).toNat))
          refine r_ex 1 (pc' := 145) (lo' := [some (.inr (.inr (some 91))), some (.inl i), some (.inl e), some (.inl (v 38 ((e).toNat))), some (.inl ((v 92 ((i).toNat)) + lg))]) (st' := [.inl 1, .inl (bt (v 65 ((((v 92 ((i).toNat)) + lg)).toNat)) (v 38 ((e).toNat)))]) rfl ?_
          refine r_ic_ne (pc0 := 145) (len := 3) (t := 161) rfl (by first | assumption | (unfold R32 at *; omega) | omega) (by first | assumption | (unfold R32 at *; omega) | omega) (fun h_145 => ?_) (fun h_145 => ?_)
          · show WV _ _ _ 161 _ _ _ _ _
            refine r_ex 5 (pc' := 167) (lo' := [some (.inr (.inr (some 91))), some (.inl i), some (.inl e), some (.inl (v 38 ((e).toNat))), some (.inl ((v 92 ((i).toNat)) + lg))]) (st' := [.inl (v 38 ((e).toNat)), .inl ((v 92 ((i).toNat)) + lg), .inl e, .inl i, .inr (.inr (some 91))]) rfl ?_
            refine r_call (m := 84) (args := [.inr (.inr (some 91)), .inl i, .inl e, .inl ((v 92 ((i).toNat)) + lg), .inl (v 38 ((e).toNat))]) (n' := 82) (pc' := 170) (lo' := [some (.inr (.inr (some 91))), some (.inl i), some (.inl e), some (.inl (v 38 ((e).toNat))), some (.inl ((v 92 ((i).toNat)) + lg))]) (st' := []) (I := .invokevirtual 84) (pc0 := 167) (len := 3) rfl rfl rfl (x_hear91 hX (by omega) (by omega) (by omega) (by omega)) ?_
            show WV _ _ _ 170 _ [] _ (xhear 91 v i e ((v 92 ((i).toNat)) + lg) (v 38 ((e).toNat))) _
            refine r_ret (rr := none) (I := .return_) (pc0 := 170) (len := 1) rfl rfl ?_
            refine ⟨rfl, rfl, ?_⟩
            subst hlg
            subst hwd
            have hxa : xat 91 v i e = v 92 i.toNat + xlag v e (xwind v (v 92 i.toNat)) := rfl
            simp only [xcarry, Nat.reduceAdd]
            rw [hxa]
            (first | (rw [if_pos (by omega)]; done) | (rw [if_neg (by omega), if_pos (by omega)]; done) | (rw [if_neg (by omega), if_neg (by omega), if_pos (by omega)]; done) | (rw [if_neg (by omega), if_neg (by omega), if_neg (by omega)]; done))
          · show WV _ _ _ 148 _ _ _ _ _
            refine r_ex 4 (pc' := 154) (lo' := [some (.inr (.inr (some 91))), some (.inl i), some (.inl e), some (.inl (v 38 ((e).toNat))), some (.inl ((v 92 ((i).toNat)) + lg))]) (st' := [.inl 1, .inr (.inr (some 97)), .inl 1, .inr (.inr (some 97))]) rfl ?_
            refine r_iald2 (j := 0) (x := (v 97 1)) (pc' := 155) (pc0 := 154) (len := 1) rfl (s_97 _) (by first | assumption | (unfold R32 at *; omega) | omega) (by decide) rfl rfl ?_
            refine r_ex 2 (pc' := 157) (lo' := [some (.inr (.inr (some 91))), some (.inl i), some (.inl e), some (.inl (v 38 ((e).toNat))), some (.inl ((v 92 ((i).toNat)) + lg))]) (st' := [.inl ((v 97 1) + 1), .inl 1, .inr (.inr (some 97))]) rfl ?_
            refine r_iast2 (pc' := 158) (pc0 := 157) (len := 1) rfl (s_97 _) (by first | assumption | (unfold R32 at *; omega) | omega) (by decide) rfl ?_
            have hX_15 : XI (v2 v 97 1 ((v 97 1) + 1)) := XI.put hX trivial
            show WV _ _ _ 158 _ _ _ (v2 v 97 1 ((v 97 1) + 1)) _
            refine r_ex 1 (pc' := 170) (lo' := [some (.inr (.inr (some 91))), some (.inl i), some (.inl e), some (.inl (v 38 ((e).toNat))), some (.inl ((v 92 ((i).toNat)) + lg))]) (st' := []) rfl ?_
            refine r_ret (rr := none) (I := .return_) (pc0 := 170) (len := 1) rfl rfl ?_
            refine ⟨rfl, rfl, ?_⟩
            subst hlg
            subst hwd
            have hxa : xat 91 v i e = v 92 i.toNat + xlag v e (xwind v (v 92 i.toNat)) := rfl
            simp only [xcarry, Nat.reduceAdd]
            rw [hxa]
            (first | (rw [if_pos (by omega)]; done) | (rw [if_neg (by omega), if_pos (by omega)]; done) | (rw [if_neg (by omega), if_neg (by omega), if_pos (by omega)]; done) | (rw [if_neg (by omega), if_neg (by omega), if_neg (by omega)]; done))
      · show WV _ _ _ 96 _ _ _ _ _
        refine r_ex 4 (pc' := 102) (lo' := [some (.inr (.inr (some 91))), some (.inl i), some (.inl e), some (.inl (v 38 ((e).toNat))), some (.inl ((v 92 ((i).toNat)) + lg))]) (st' := [.inl 0, .inr (.inr (some 97)), .inl 0, .inr (.inr (some 97))]) rfl ?_
        refine r_iald2 (j := 0) (x := (v 97 0)) (pc' := 103) (pc0 := 102) (len := 1) rfl (s_97 _) (by first | assumption | (unfold R32 at *; omega) | omega) (by decide) rfl rfl ?_
        refine r_ex 2 (pc' := 105) (lo' := [some (.inr (.inr (some 91))), some (.inl i), some (.inl e), some (.inl (v 38 ((e).toNat))), some (.inl ((v 92 ((i).toNat)) + lg))]) (st' := [.inl ((v 97 0) + 1), .inl 0, .inr (.inr (some 97))]) rfl ?_
        refine r_iast2 (pc' := 106) (pc0 := 105) (len := 1) rfl (s_97 _) (by first | assumption | (unfold R32 at *; omega) | omega) (by decide) rfl ?_
        have hX_16 : XI (v2 v 97 0 ((v 97 0) + 1)) := XI.put hX trivial
        show WV _ _ _ 106 _ _ _ (v2 v 97 0 ((v 97 0) + 1)) _
        refine r_ex 4 (pc' := 112) (lo' := [some (.inr (.inr (some 91))), some (.inl i), some (.inl e), some (.inl (v 38 ((e).toNat))), some (.inl ((v 92 ((i).toNat)) + lg))]) (st' := [.inl e, .inr (.inr (some 98)), .inl e, .inr (.inr (some 98))]) rfl ?_
        refine r_iald2 (j := 0) (x := (v 98 ((e).toNat))) (pc' := 113) (pc0 := 112) (len := 1) rfl (s_98 _) (by first | assumption | (unfold R32 at *; omega) | omega) (by decide) rfl rfl ?_
        refine r_ex 2 (pc' := 115) (lo' := [some (.inr (.inr (some 91))), some (.inl i), some (.inl e), some (.inl (v 38 ((e).toNat))), some (.inl ((v 92 ((i).toNat)) + lg))]) (st' := [.inl ((v 98 ((e).toNat)) + 1), .inl e, .inr (.inr (some 98))]) rfl ?_
        refine r_iast2 (pc' := 116) (pc0 := 115) (len := 1) rfl (s_98 _) (by first | assumption | (unfold R32 at *; omega) | omega) (by decide) rfl ?_
        have hX_17 : XI (v2 (v2 v 97 0 ((v 97 0) + 1)) 98 ((e).toNat) ((v 98 ((e).toNat)) + 1)) := XI.put hX_16 trivial
        refine r_ex 1 (pc' := 170) (lo' := [some (.inr (.inr (some 91))), some (.inl i), some (.inl e), some (.inl (v 38 ((e).toNat))), some (.inl ((v 92 ((i).toNat)) + lg))]) (st' := []) rfl ?_
        refine r_ret (rr := none) (I := .return_) (pc0 := 170) (len := 1) rfl rfl ?_
        refine ⟨rfl, rfl, ?_⟩
        subst hlg
        subst hwd
        have hxa : xat 91 v i e = v 92 i.toNat + xlag v e (xwind v (v 92 i.toNat)) := rfl
        simp only [xcarry, Nat.reduceAdd]
        rw [hxa]
        (first | (rw [if_pos (by omega)]; done) | (rw [if_neg (by omega), if_pos (by omega)]; done) | (rw [if_neg (by omega), if_neg (by omega), if_pos (by omega)]; done) | (rw [if_neg (by omega), if_neg (by omega), if_neg (by omega)]; done))
  · show WV _ _ _ 55 _ _ _ _ _
    refine r_ex 4 (pc' := 61) (lo' := [some (.inr (.inr (some 91))), some (.inl i), some (.inl e), some (.inl (v 38 ((e).toNat))), some (.inl ((v 92 ((i).toNat)) + lg))]) (st' := [.inl 5, .inr (.inr (some 97)), .inl 5, .inr (.inr (some 97))]) rfl ?_
    refine r_iald2 (j := 0) (x := (v 97 5)) (pc' := 62) (pc0 := 61) (len := 1) rfl (s_97 _) (by first | assumption | (unfold R32 at *; omega) | omega) (by decide) rfl rfl ?_
    refine r_ex 2 (pc' := 64) (lo' := [some (.inr (.inr (some 91))), some (.inl i), some (.inl e), some (.inl (v 38 ((e).toNat))), some (.inl ((v 92 ((i).toNat)) + lg))]) (st' := [.inl ((v 97 5) + 1), .inl 5, .inr (.inr (some 97))]) rfl ?_
    refine r_iast2 (pc' := 65) (pc0 := 64) (len := 1) rfl (s_97 _) (by first | assumption | (unfold R32 at *; omega) | omega) (by decide) rfl ?_
    have hX_18 : XI (v2 v 97 5 ((v 97 5) + 1)) := XI.put hX trivial
    show WV _ _ _ 65 _ _ _ (v2 v 97 5 ((v 97 5) + 1)) _
    refine r_ex 1 (pc' := 170) (lo' := [some (.inr (.inr (some 91))), some (.inl i), some (.inl e), some (.inl (v 38 ((e).toNat))), some (.inl ((v 92 ((i).toNat)) + lg))]) (st' := []) rfl ?_
    refine r_ret (rr := none) (I := .return_) (pc0 := 170) (len := 1) rfl rfl ?_
    refine ⟨rfl, rfl, ?_⟩
    subst hlg
    subst hwd
    have hxa : xat 91 v i e = v 92 i.toNat + xlag v e (xwind v (v 92 i.toNat)) := rfl
    simp only [xcarry, Nat.reduceAdd]
    rw [hxa]
    (first | (rw [if_pos (by omega)]; done) | (rw [if_neg (by omega), if_pos (by omega)]; done) | (rw [if_neg (by omega), if_neg (by omega), if_pos (by omega)]; done) | (rw [if_neg (by omega), if_neg (by omega), if_neg (by omega)]; done))

theorem XI_carry91 {v : VS} {i e : Int} (hX : XI v) (hi : 0 ≤ i ∧ i < 300) (he : 0 ≤ e ∧ e < 12) : XI (xcarry 91 v i e) := by
  have h1 : 0 ≤ v 92 i.toNat ∧ v 92 i.toNat ≤ 299 := hX 92 _
  have h2 := xlag_in hX e (xwind_in hX (v 92 i.toNat))
  have h4 : 0 ≤ v 33 1 ∧ v 33 1 ≤ 300 := hX 33 1
  have h5 : 0 ≤ v 38 e.toNat ∧ v 38 e.toNat ≤ 8 := hX 38 _
  have hxa : xat 91 v i e = v 92 i.toNat + xlag v e (xwind v (v 92 i.toNat)) := rfl
  simp only [xcarry, Nat.reduceAdd]
  split
  · refine XI.put hX ?_
    exact trivial
  · split
    · refine XI.put (XI.put hX ?_) ?_ <;> exact trivial
    · split
      · refine XI.put hX ?_
        exact trivial
      · exact XI_hear91 hX hi he (by omega) (by omega)
