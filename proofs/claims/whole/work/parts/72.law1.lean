/-! the law's loop, out of one step for each call -/
def lawT : List (Nat × Nat × Nat) := [(13, 206, 5), (15, 208, 1), (16, 210, 0), (60, 209, 1), (61, 235, 2), (64, 237, 2), (66, 239, 2), (70, 244, 0), (86, 253, 2), (88, 255, 1), (89, 256, 2), (91, 258, 1), (92, 259, 2), (94, 261, 2), (95, 262, 1), (97, 263, 2), (102, 265, 3), (104, 266, 0), (106, 267, 2), (108, 269, 2), (109, 270, 2), (118, 274, 2), (122, 275, 1), (124, 276, 1), (125, 277, 3), (127, 279, 2), (128, 280, 1), (132, 283, 2), (133, 284, 1), (135, 286, 1), (137, 287, 1), (139, 288, 1), (140, 289, 1), (141, 290, 2), (142, 291, 1), (143, 292, 1), (146, 294, 1), (147, 295, 0), (149, 296, 1), (150, 298, 1), (151, 299, 1), (152, 300, 1), (154, 302, 0), (131, 303, 0), (155, 304, 3), (161, 306, 1), (157, 308, 2), (158, 309, 2), (160, 311, 1), (121, 312, 1), (166, 313, 3), (176, 318, 4), (177, 319, 3), (178, 320, 1), (179, 321, 3), (183, 324, 5), (184, 325, 1), (188, 326, 1), (190, 327, 1), (191, 328, 1), (192, 200, 3), (195, 203, 9), (197, 205, 5)]
def lawA (ar : Nat) (a b c d e : Int) : List PV := match ar with
  | 0 => []
  | 1 => [.inl a]
  | 2 => [.inl a, .inl b]
  | 3 => [.inl a, .inl b, .inl c]
  | 4 => [.inl a, .inl b, .inl c, .inl d]
  | 9 => [.inl a, .inl b, .inr (.inl (pm_lor (pm_lshl c 32) (pm_land d 4294967295)))]
  | _ => [.inl a, .inl b, .inl c, .inl d, .inl e]
/-- one call: class and reference answer alike, and what holds of both goes on -/
def Both (INV : Nat → VS → Prop) (X : PX) (nc nm : Nat) (args : List PV) : Prop := ∀ (b : Nat) (v : VS), INV b v → ∃ (r : Int) (b1 : Nat) (v1 w : VS), R32 r ∧ EvV X 12 nc (.inr (.inr (some 0)) :: args) b v (some (.inl r)) b1 v1 ∧ EvV X 12 nm (.inr (.inr (some 203)) :: args) b1 v1 (some (.inl r)) b1 w ∧ INV b1 w
def Steps (INV : Nat → VS → Prop) (X : PX) : Prop := ∀ (k : Nat) (q : Nat × Nat × Nat), lawT[k]? = some q → ∀ a b c d e : Int, R32 a → R32 b → R32 c → R32 d → R32 e → Both INV X q.1 q.2.1 (lawA q.2.2 a b c d e)
section LWR
variable {X : PX} {d n pc pc0 len b : Nat} {lo : List (Option PV)} {st r : List PV} {v : VS} {Q : Option PV → Nat → VS → Prop}
theorem n_sld {i : Int} {pc' : Nat} (hf : fe n pc = some (pc0, .iaload, len)) (h : 0 ≤ i ∧ i < X.1) (hL : X.1 ≤ 1000000) (hpc : pc + len = pc') (k : WV X d n pc' lo (.inl (X.2.1 i.toNat) :: r) b v Q) : WV X d n pc lo (.inl i :: .inr (.inr (some 100000)) :: r) b v Q := by
  subst hpc
  obtain ⟨e1, e2⟩ := idx_ok h.1 h.2 hL
  have hn : (hp b v).2.2 100000 = none := rfl
  refine r_go hf ?_ k
  simp only [pm_step, pm_nx, pm_arr, hn, pm_ext, if_true, e1, e2, and_self]
theorem n_slen {pc' : Nat} (hf : fe n pc = some (pc0, .arraylength, len)) (hpc : pc + len = pc') (k : WV X d n pc' lo (.inl (X.1 : Int) :: r) b v Q) : WV X d n pc lo (.inr (.inr (some 100000)) :: r) b v Q := by
  subst hpc
  have hn : (hp b v).2.2 100000 = none := rfl
  refine r_go hf ?_ k
  simp only [pm_step, pm_nx, pm_arr, hn, pm_ext, if_true]
end LWR
set_option maxRecDepth 100000 in
theorem law_0 {INV : Nat → VS → Prop} {X : PX} {b : Nat} {v : VS} {i : Int} {Q : Option PV → Nat → VS → Prop} (hS : Steps INV X) (hx : ∀ j, R32 (X.2.1 j)) (hL : X.1 ≤ 3072) (hi : 0 ≤ i ∧ i + 6 ≤ X.1) (hI : INV b v) (hK : ∀ b1 v1, INV b1 v1 → WV X 13 329 2199 [some (.inr (.inr (some 100000))), some (.inr (.inr (some 0))), some (.inr (.inr (some 203))), some (.inl i)] [] b1 v1 Q) : WV X 13 329 300 [some (.inr (.inr (some 100000))), some (.inr (.inr (some 0))), some (.inr (.inr (some 203))), some (.inl i)] [] b v Q := by
  obtain ⟨z, b1, v1, w, hz, h1, h2, hI2⟩ := hS 0 (13, 206, 5) rfl (X.2.1 (i + 1).toNat) (X.2.1 (i + 2).toNat) (X.2.1 (i + 3).toNat) (X.2.1 (i + 4).toNat) (X.2.1 (i + 5).toNat) (hx _) (hx _) (hx _) (hx _) (hx _) b v hI
  refine r_ex 5 (pc' := 305) (lo' := [some (.inr (.inr (some 100000))), some (.inr (.inr (some 0))), some (.inr (.inr (some 203))), some (.inl i)]) (st' := [.inl (i + 1), .inr (.inr (some 100000)), .inr (.inr (some 0))]) rfl ?_
  refine n_sld (pc' := 306) (pc0 := 305) (len := 1) rfl ⟨by omega, by omega⟩ (by omega) rfl ?_
  refine r_ex 4 (pc' := 310) (lo' := [some (.inr (.inr (some 100000))), some (.inr (.inr (some 0))), some (.inr (.inr (some 203))), some (.inl i)]) (st' := [.inl (i + 2), .inr (.inr (some 100000)), .inl (X.2.1 (i + 1).toNat), .inr (.inr (some 0))]) rfl ?_
  refine n_sld (pc' := 311) (pc0 := 310) (len := 1) rfl ⟨by omega, by omega⟩ (by omega) rfl ?_
  refine r_ex 4 (pc' := 315) (lo' := [some (.inr (.inr (some 100000))), some (.inr (.inr (some 0))), some (.inr (.inr (some 203))), some (.inl i)]) (st' := [.inl (i + 3), .inr (.inr (some 100000)), .inl (X.2.1 (i + 2).toNat), .inl (X.2.1 (i + 1).toNat), .inr (.inr (some 0))]) rfl ?_
  refine n_sld (pc' := 316) (pc0 := 315) (len := 1) rfl ⟨by omega, by omega⟩ (by omega) rfl ?_
  refine r_ex 4 (pc' := 320) (lo' := [some (.inr (.inr (some 100000))), some (.inr (.inr (some 0))), some (.inr (.inr (some 203))), some (.inl i)]) (st' := [.inl (i + 4), .inr (.inr (some 100000)), .inl (X.2.1 (i + 3).toNat), .inl (X.2.1 (i + 2).toNat), .inl (X.2.1 (i + 1).toNat), .inr (.inr (some 0))]) rfl ?_
  refine n_sld (pc' := 321) (pc0 := 320) (len := 1) rfl ⟨by omega, by omega⟩ (by omega) rfl ?_
  refine r_ex 4 (pc' := 325) (lo' := [some (.inr (.inr (some 100000))), some (.inr (.inr (some 0))), some (.inr (.inr (some 203))), some (.inl i)]) (st' := [.inl (i + 5), .inr (.inr (some 100000)), .inl (X.2.1 (i + 4).toNat), .inl (X.2.1 (i + 3).toNat), .inl (X.2.1 (i + 2).toNat), .inl (X.2.1 (i + 1).toNat), .inr (.inr (some 0))]) rfl ?_
  refine n_sld (pc' := 326) (pc0 := 325) (len := 1) rfl ⟨by omega, by omega⟩ (by omega) rfl ?_
  refine r_call (m := 13) (args := [.inr (.inr (some 0)), .inl (X.2.1 (i + 1).toNat), .inl (X.2.1 (i + 2).toNat), .inl (X.2.1 (i + 3).toNat), .inl (X.2.1 (i + 4).toNat), .inl (X.2.1 (i + 5).toNat)]) (n' := 329) (pc' := 329) (lo' := [some (.inr (.inr (some 100000))), some (.inr (.inr (some 0))), some (.inr (.inr (some 203))), some (.inl i)]) (st' := []) (I := .invokevirtual 13) (pc0 := 326) (len := 3) rfl rfl rfl h1 ?_
  show WV _ _ _ 329 _ [.inl z] _ _ _
  refine r_ex 5 (pc' := 334) (lo' := [some (.inr (.inr (some 100000))), some (.inr (.inr (some 0))), some (.inr (.inr (some 203))), some (.inl i)]) (st' := [.inl (i + 1), .inr (.inr (some 100000)), .inr (.inr (some 203)), .inl z]) rfl ?_
  refine n_sld (pc' := 335) (pc0 := 334) (len := 1) rfl ⟨by omega, by omega⟩ (by omega) rfl ?_
  refine r_ex 4 (pc' := 339) (lo' := [some (.inr (.inr (some 100000))), some (.inr (.inr (some 0))), some (.inr (.inr (some 203))), some (.inl i)]) (st' := [.inl (i + 2), .inr (.inr (some 100000)), .inl (X.2.1 (i + 1).toNat), .inr (.inr (some 203)), .inl z]) rfl ?_
  refine n_sld (pc' := 340) (pc0 := 339) (len := 1) rfl ⟨by omega, by omega⟩ (by omega) rfl ?_
  refine r_ex 4 (pc' := 344) (lo' := [some (.inr (.inr (some 100000))), some (.inr (.inr (some 0))), some (.inr (.inr (some 203))), some (.inl i)]) (st' := [.inl (i + 3), .inr (.inr (some 100000)), .inl (X.2.1 (i + 2).toNat), .inl (X.2.1 (i + 1).toNat), .inr (.inr (some 203)), .inl z]) rfl ?_
  refine n_sld (pc' := 345) (pc0 := 344) (len := 1) rfl ⟨by omega, by omega⟩ (by omega) rfl ?_
  refine r_ex 4 (pc' := 349) (lo' := [some (.inr (.inr (some 100000))), some (.inr (.inr (some 0))), some (.inr (.inr (some 203))), some (.inl i)]) (st' := [.inl (i + 4), .inr (.inr (some 100000)), .inl (X.2.1 (i + 3).toNat), .inl (X.2.1 (i + 2).toNat), .inl (X.2.1 (i + 1).toNat), .inr (.inr (some 203)), .inl z]) rfl ?_
  refine n_sld (pc' := 350) (pc0 := 349) (len := 1) rfl ⟨by omega, by omega⟩ (by omega) rfl ?_
  refine r_ex 4 (pc' := 354) (lo' := [some (.inr (.inr (some 100000))), some (.inr (.inr (some 0))), some (.inr (.inr (some 203))), some (.inl i)]) (st' := [.inl (i + 5), .inr (.inr (some 100000)), .inl (X.2.1 (i + 4).toNat), .inl (X.2.1 (i + 3).toNat), .inl (X.2.1 (i + 2).toNat), .inl (X.2.1 (i + 1).toNat), .inr (.inr (some 203)), .inl z]) rfl ?_
  refine n_sld (pc' := 355) (pc0 := 354) (len := 1) rfl ⟨by omega, by omega⟩ (by omega) rfl ?_
  refine r_call (m := 206) (args := [.inr (.inr (some 203)), .inl (X.2.1 (i + 1).toNat), .inl (X.2.1 (i + 2).toNat), .inl (X.2.1 (i + 3).toNat), .inl (X.2.1 (i + 4).toNat), .inl (X.2.1 (i + 5).toNat)]) (n' := 329) (pc' := 358) (lo' := [some (.inr (.inr (some 100000))), some (.inr (.inr (some 0))), some (.inr (.inr (some 203))), some (.inl i)]) (st' := [.inl z]) (I := .invokevirtual 206) (pc0 := 355) (len := 3) rfl rfl rfl h2 ?_
  show WV _ _ _ 358 _ [.inl z, .inl z] _ _ _
  refine n_ic_eq (pc0 := 358) (len := 3) (t := 2199) rfl hz hz (fun _ => ?_) (fun hne => absurd rfl hne)
  exact hK b1 w hI2

set_option maxRecDepth 100000 in
theorem law_1 {INV : Nat → VS → Prop} {X : PX} {b : Nat} {v : VS} {i : Int} {Q : Option PV → Nat → VS → Prop} (hS : Steps INV X) (hx : ∀ j, R32 (X.2.1 j)) (hL : X.1 ≤ 3072) (hi : 0 ≤ i ∧ i + 6 ≤ X.1) (hI : INV b v) (hK : ∀ b1 v1, INV b1 v1 → WV X 13 329 2199 [some (.inr (.inr (some 100000))), some (.inr (.inr (some 0))), some (.inr (.inr (some 203))), some (.inl i)] [] b1 v1 Q) : WV X 13 329 363 [some (.inr (.inr (some 100000))), some (.inr (.inr (some 0))), some (.inr (.inr (some 203))), some (.inl i)] [] b v Q := by
  obtain ⟨z, b1, v1, w, hz, h1, h2, hI2⟩ := hS 1 (15, 208, 1) rfl (X.2.1 (i + 1).toNat) (X.2.1 (i + 2).toNat) (X.2.1 (i + 3).toNat) (X.2.1 (i + 4).toNat) (X.2.1 (i + 5).toNat) (hx _) (hx _) (hx _) (hx _) (hx _) b v hI
  refine r_ex 5 (pc' := 368) (lo' := [some (.inr (.inr (some 100000))), some (.inr (.inr (some 0))), some (.inr (.inr (some 203))), some (.inl i)]) (st' := [.inl (i + 1), .inr (.inr (some 100000)), .inr (.inr (some 0))]) rfl ?_
  refine n_sld (pc' := 369) (pc0 := 368) (len := 1) rfl ⟨by omega, by omega⟩ (by omega) rfl ?_
  refine r_call (m := 15) (args := [.inr (.inr (some 0)), .inl (X.2.1 (i + 1).toNat)]) (n' := 329) (pc' := 372) (lo' := [some (.inr (.inr (some 100000))), some (.inr (.inr (some 0))), some (.inr (.inr (some 203))), some (.inl i)]) (st' := []) (I := .invokevirtual 15) (pc0 := 369) (len := 3) rfl rfl rfl h1 ?_
  show WV _ _ _ 372 _ [.inl z] _ _ _
  refine r_ex 5 (pc' := 377) (lo' := [some (.inr (.inr (some 100000))), some (.inr (.inr (some 0))), some (.inr (.inr (some 203))), some (.inl i)]) (st' := [.inl (i + 1), .inr (.inr (some 100000)), .inr (.inr (some 203)), .inl z]) rfl ?_
  refine n_sld (pc' := 378) (pc0 := 377) (len := 1) rfl ⟨by omega, by omega⟩ (by omega) rfl ?_
  refine r_call (m := 208) (args := [.inr (.inr (some 203)), .inl (X.2.1 (i + 1).toNat)]) (n' := 329) (pc' := 381) (lo' := [some (.inr (.inr (some 100000))), some (.inr (.inr (some 0))), some (.inr (.inr (some 203))), some (.inl i)]) (st' := [.inl z]) (I := .invokevirtual 208) (pc0 := 378) (len := 3) rfl rfl rfl h2 ?_
  show WV _ _ _ 381 _ [.inl z, .inl z] _ _ _
  refine n_ic_eq (pc0 := 381) (len := 3) (t := 2199) rfl hz hz (fun _ => ?_) (fun hne => absurd rfl hne)
  exact hK b1 w hI2

set_option maxRecDepth 100000 in
theorem law_2 {INV : Nat → VS → Prop} {X : PX} {b : Nat} {v : VS} {i : Int} {Q : Option PV → Nat → VS → Prop} (hS : Steps INV X) (hx : ∀ j, R32 (X.2.1 j)) (hL : X.1 ≤ 3072) (hi : 0 ≤ i ∧ i + 6 ≤ X.1) (hI : INV b v) (hK : ∀ b1 v1, INV b1 v1 → WV X 13 329 2199 [some (.inr (.inr (some 100000))), some (.inr (.inr (some 0))), some (.inr (.inr (some 203))), some (.inl i)] [] b1 v1 Q) : WV X 13 329 386 [some (.inr (.inr (some 100000))), some (.inr (.inr (some 0))), some (.inr (.inr (some 203))), some (.inl i)] [] b v Q := by
  obtain ⟨z, b1, v1, w, hz, h1, h2, hI2⟩ := hS 2 (16, 210, 0) rfl (X.2.1 (i + 1).toNat) (X.2.1 (i + 2).toNat) (X.2.1 (i + 3).toNat) (X.2.1 (i + 4).toNat) (X.2.1 (i + 5).toNat) (hx _) (hx _) (hx _) (hx _) (hx _) b v hI
  refine r_ex 1 (pc' := 387) (lo' := [some (.inr (.inr (some 100000))), some (.inr (.inr (some 0))), some (.inr (.inr (some 203))), some (.inl i)]) (st' := [.inr (.inr (some 0))]) rfl ?_
  refine r_call (m := 16) (args := [.inr (.inr (some 0))]) (n' := 329) (pc' := 390) (lo' := [some (.inr (.inr (some 100000))), some (.inr (.inr (some 0))), some (.inr (.inr (some 203))), some (.inl i)]) (st' := []) (I := .invokevirtual 16) (pc0 := 387) (len := 3) rfl rfl rfl h1 ?_
  show WV _ _ _ 390 _ [.inl z] _ _ _
  refine r_ex 1 (pc' := 391) (lo' := [some (.inr (.inr (some 100000))), some (.inr (.inr (some 0))), some (.inr (.inr (some 203))), some (.inl i)]) (st' := [.inr (.inr (some 203)), .inl z]) rfl ?_
  refine r_call (m := 210) (args := [.inr (.inr (some 203))]) (n' := 329) (pc' := 394) (lo' := [some (.inr (.inr (some 100000))), some (.inr (.inr (some 0))), some (.inr (.inr (some 203))), some (.inl i)]) (st' := [.inl z]) (I := .invokevirtual 210) (pc0 := 391) (len := 3) rfl rfl rfl h2 ?_
  show WV _ _ _ 394 _ [.inl z, .inl z] _ _ _
  refine n_ic_eq (pc0 := 394) (len := 3) (t := 2199) rfl hz hz (fun _ => ?_) (fun hne => absurd rfl hne)
  exact hK b1 w hI2

set_option maxRecDepth 100000 in
theorem law_3 {INV : Nat → VS → Prop} {X : PX} {b : Nat} {v : VS} {i : Int} {Q : Option PV → Nat → VS → Prop} (hS : Steps INV X) (hx : ∀ j, R32 (X.2.1 j)) (hL : X.1 ≤ 3072) (hi : 0 ≤ i ∧ i + 6 ≤ X.1) (hI : INV b v) (hK : ∀ b1 v1, INV b1 v1 → WV X 13 329 2199 [some (.inr (.inr (some 100000))), some (.inr (.inr (some 0))), some (.inr (.inr (some 203))), some (.inl i)] [] b1 v1 Q) : WV X 13 329 399 [some (.inr (.inr (some 100000))), some (.inr (.inr (some 0))), some (.inr (.inr (some 203))), some (.inl i)] [] b v Q := by
  obtain ⟨z, b1, v1, w, hz, h1, h2, hI2⟩ := hS 3 (60, 209, 1) rfl (X.2.1 (i + 1).toNat) (X.2.1 (i + 2).toNat) (X.2.1 (i + 3).toNat) (X.2.1 (i + 4).toNat) (X.2.1 (i + 5).toNat) (hx _) (hx _) (hx _) (hx _) (hx _) b v hI
  refine r_ex 5 (pc' := 404) (lo' := [some (.inr (.inr (some 100000))), some (.inr (.inr (some 0))), some (.inr (.inr (some 203))), some (.inl i)]) (st' := [.inl (i + 1), .inr (.inr (some 100000)), .inr (.inr (some 0))]) rfl ?_
  refine n_sld (pc' := 405) (pc0 := 404) (len := 1) rfl ⟨by omega, by omega⟩ (by omega) rfl ?_
  refine r_call (m := 60) (args := [.inr (.inr (some 0)), .inl (X.2.1 (i + 1).toNat)]) (n' := 329) (pc' := 408) (lo' := [some (.inr (.inr (some 100000))), some (.inr (.inr (some 0))), some (.inr (.inr (some 203))), some (.inl i)]) (st' := []) (I := .invokevirtual 60) (pc0 := 405) (len := 3) rfl rfl rfl h1 ?_
  show WV _ _ _ 408 _ [.inl z] _ _ _
  refine r_ex 5 (pc' := 413) (lo' := [some (.inr (.inr (some 100000))), some (.inr (.inr (some 0))), some (.inr (.inr (some 203))), some (.inl i)]) (st' := [.inl (i + 1), .inr (.inr (some 100000)), .inr (.inr (some 203)), .inl z]) rfl ?_
  refine n_sld (pc' := 414) (pc0 := 413) (len := 1) rfl ⟨by omega, by omega⟩ (by omega) rfl ?_
  refine r_call (m := 209) (args := [.inr (.inr (some 203)), .inl (X.2.1 (i + 1).toNat)]) (n' := 329) (pc' := 417) (lo' := [some (.inr (.inr (some 100000))), some (.inr (.inr (some 0))), some (.inr (.inr (some 203))), some (.inl i)]) (st' := [.inl z]) (I := .invokevirtual 209) (pc0 := 414) (len := 3) rfl rfl rfl h2 ?_
  show WV _ _ _ 417 _ [.inl z, .inl z] _ _ _
  refine n_ic_eq (pc0 := 417) (len := 3) (t := 2199) rfl hz hz (fun _ => ?_) (fun hne => absurd rfl hne)
  exact hK b1 w hI2

set_option maxRecDepth 100000 in
theorem law_4 {INV : Nat → VS → Prop} {X : PX} {b : Nat} {v : VS} {i : Int} {Q : Option PV → Nat → VS → Prop} (hS : Steps INV X) (hx : ∀ j, R32 (X.2.1 j)) (hL : X.1 ≤ 3072) (hi : 0 ≤ i ∧ i + 6 ≤ X.1) (hI : INV b v) (hK : ∀ b1 v1, INV b1 v1 → WV X 13 329 2199 [some (.inr (.inr (some 100000))), some (.inr (.inr (some 0))), some (.inr (.inr (some 203))), some (.inl i)] [] b1 v1 Q) : WV X 13 329 422 [some (.inr (.inr (some 100000))), some (.inr (.inr (some 0))), some (.inr (.inr (some 203))), some (.inl i)] [] b v Q := by
  obtain ⟨z, b1, v1, w, hz, h1, h2, hI2⟩ := hS 4 (61, 235, 2) rfl (X.2.1 (i + 1).toNat) (X.2.1 (i + 2).toNat) (X.2.1 (i + 3).toNat) (X.2.1 (i + 4).toNat) (X.2.1 (i + 5).toNat) (hx _) (hx _) (hx _) (hx _) (hx _) b v hI
  refine r_ex 5 (pc' := 427) (lo' := [some (.inr (.inr (some 100000))), some (.inr (.inr (some 0))), some (.inr (.inr (some 203))), some (.inl i)]) (st' := [.inl (i + 1), .inr (.inr (some 100000)), .inr (.inr (some 0))]) rfl ?_
  refine n_sld (pc' := 428) (pc0 := 427) (len := 1) rfl ⟨by omega, by omega⟩ (by omega) rfl ?_
  refine r_ex 4 (pc' := 432) (lo' := [some (.inr (.inr (some 100000))), some (.inr (.inr (some 0))), some (.inr (.inr (some 203))), some (.inl i)]) (st' := [.inl (i + 2), .inr (.inr (some 100000)), .inl (X.2.1 (i + 1).toNat), .inr (.inr (some 0))]) rfl ?_
  refine n_sld (pc' := 433) (pc0 := 432) (len := 1) rfl ⟨by omega, by omega⟩ (by omega) rfl ?_
  refine r_call (m := 61) (args := [.inr (.inr (some 0)), .inl (X.2.1 (i + 1).toNat), .inl (X.2.1 (i + 2).toNat)]) (n' := 329) (pc' := 436) (lo' := [some (.inr (.inr (some 100000))), some (.inr (.inr (some 0))), some (.inr (.inr (some 203))), some (.inl i)]) (st' := []) (I := .invokevirtual 61) (pc0 := 433) (len := 3) rfl rfl rfl h1 ?_
  show WV _ _ _ 436 _ [.inl z] _ _ _
  refine r_ex 5 (pc' := 441) (lo' := [some (.inr (.inr (some 100000))), some (.inr (.inr (some 0))), some (.inr (.inr (some 203))), some (.inl i)]) (st' := [.inl (i + 1), .inr (.inr (some 100000)), .inr (.inr (some 203)), .inl z]) rfl ?_
  refine n_sld (pc' := 442) (pc0 := 441) (len := 1) rfl ⟨by omega, by omega⟩ (by omega) rfl ?_
  refine r_ex 4 (pc' := 446) (lo' := [some (.inr (.inr (some 100000))), some (.inr (.inr (some 0))), some (.inr (.inr (some 203))), some (.inl i)]) (st' := [.inl (i + 2), .inr (.inr (some 100000)), .inl (X.2.1 (i + 1).toNat), .inr (.inr (some 203)), .inl z]) rfl ?_
  refine n_sld (pc' := 447) (pc0 := 446) (len := 1) rfl ⟨by omega, by omega⟩ (by omega) rfl ?_
  refine r_call (m := 235) (args := [.inr (.inr (some 203)), .inl (X.2.1 (i + 1).toNat), .inl (X.2.1 (i + 2).toNat)]) (n' := 329) (pc' := 450) (lo' := [some (.inr (.inr (some 100000))), some (.inr (.inr (some 0))), some (.inr (.inr (some 203))), some (.inl i)]) (st' := [.inl z]) (I := .invokevirtual 235) (pc0 := 447) (len := 3) rfl rfl rfl h2 ?_
  show WV _ _ _ 450 _ [.inl z, .inl z] _ _ _
  refine n_ic_eq (pc0 := 450) (len := 3) (t := 2199) rfl hz hz (fun _ => ?_) (fun hne => absurd rfl hne)
  exact hK b1 w hI2

set_option maxRecDepth 100000 in
theorem law_5 {INV : Nat → VS → Prop} {X : PX} {b : Nat} {v : VS} {i : Int} {Q : Option PV → Nat → VS → Prop} (hS : Steps INV X) (hx : ∀ j, R32 (X.2.1 j)) (hL : X.1 ≤ 3072) (hi : 0 ≤ i ∧ i + 6 ≤ X.1) (hI : INV b v) (hK : ∀ b1 v1, INV b1 v1 → WV X 13 329 2199 [some (.inr (.inr (some 100000))), some (.inr (.inr (some 0))), some (.inr (.inr (some 203))), some (.inl i)] [] b1 v1 Q) : WV X 13 329 455 [some (.inr (.inr (some 100000))), some (.inr (.inr (some 0))), some (.inr (.inr (some 203))), some (.inl i)] [] b v Q := by
  obtain ⟨z, b1, v1, w, hz, h1, h2, hI2⟩ := hS 5 (64, 237, 2) rfl (X.2.1 (i + 1).toNat) (X.2.1 (i + 2).toNat) (X.2.1 (i + 3).toNat) (X.2.1 (i + 4).toNat) (X.2.1 (i + 5).toNat) (hx _) (hx _) (hx _) (hx _) (hx _) b v hI
  refine r_ex 5 (pc' := 460) (lo' := [some (.inr (.inr (some 100000))), some (.inr (.inr (some 0))), some (.inr (.inr (some 203))), some (.inl i)]) (st' := [.inl (i + 1), .inr (.inr (some 100000)), .inr (.inr (some 0))]) rfl ?_
  refine n_sld (pc' := 461) (pc0 := 460) (len := 1) rfl ⟨by omega, by omega⟩ (by omega) rfl ?_
  refine r_ex 4 (pc' := 465) (lo' := [some (.inr (.inr (some 100000))), some (.inr (.inr (some 0))), some (.inr (.inr (some 203))), some (.inl i)]) (st' := [.inl (i + 2), .inr (.inr (some 100000)), .inl (X.2.1 (i + 1).toNat), .inr (.inr (some 0))]) rfl ?_
  refine n_sld (pc' := 466) (pc0 := 465) (len := 1) rfl ⟨by omega, by omega⟩ (by omega) rfl ?_
  refine r_call (m := 64) (args := [.inr (.inr (some 0)), .inl (X.2.1 (i + 1).toNat), .inl (X.2.1 (i + 2).toNat)]) (n' := 329) (pc' := 469) (lo' := [some (.inr (.inr (some 100000))), some (.inr (.inr (some 0))), some (.inr (.inr (some 203))), some (.inl i)]) (st' := []) (I := .invokevirtual 64) (pc0 := 466) (len := 3) rfl rfl rfl h1 ?_
  show WV _ _ _ 469 _ [.inl z] _ _ _
  refine r_ex 5 (pc' := 474) (lo' := [some (.inr (.inr (some 100000))), some (.inr (.inr (some 0))), some (.inr (.inr (some 203))), some (.inl i)]) (st' := [.inl (i + 1), .inr (.inr (some 100000)), .inr (.inr (some 203)), .inl z]) rfl ?_
  refine n_sld (pc' := 475) (pc0 := 474) (len := 1) rfl ⟨by omega, by omega⟩ (by omega) rfl ?_
  refine r_ex 4 (pc' := 479) (lo' := [some (.inr (.inr (some 100000))), some (.inr (.inr (some 0))), some (.inr (.inr (some 203))), some (.inl i)]) (st' := [.inl (i + 2), .inr (.inr (some 100000)), .inl (X.2.1 (i + 1).toNat), .inr (.inr (some 203)), .inl z]) rfl ?_
  refine n_sld (pc' := 480) (pc0 := 479) (len := 1) rfl ⟨by omega, by omega⟩ (by omega) rfl ?_
  refine r_call (m := 237) (args := [.inr (.inr (some 203)), .inl (X.2.1 (i + 1).toNat), .inl (X.2.1 (i + 2).toNat)]) (n' := 329) (pc' := 483) (lo' := [some (.inr (.inr (some 100000))), some (.inr (.inr (some 0))), some (.inr (.inr (some 203))), some (.inl i)]) (st' := [.inl z]) (I := .invokevirtual 237) (pc0 := 480) (len := 3) rfl rfl rfl h2 ?_
  show WV _ _ _ 483 _ [.inl z, .inl z] _ _ _
  refine n_ic_eq (pc0 := 483) (len := 3) (t := 2199) rfl hz hz (fun _ => ?_) (fun hne => absurd rfl hne)
  exact hK b1 w hI2

set_option maxRecDepth 100000 in
theorem law_6 {INV : Nat → VS → Prop} {X : PX} {b : Nat} {v : VS} {i : Int} {Q : Option PV → Nat → VS → Prop} (hS : Steps INV X) (hx : ∀ j, R32 (X.2.1 j)) (hL : X.1 ≤ 3072) (hi : 0 ≤ i ∧ i + 6 ≤ X.1) (hI : INV b v) (hK : ∀ b1 v1, INV b1 v1 → WV X 13 329 2199 [some (.inr (.inr (some 100000))), some (.inr (.inr (some 0))), some (.inr (.inr (some 203))), some (.inl i)] [] b1 v1 Q) : WV X 13 329 488 [some (.inr (.inr (some 100000))), some (.inr (.inr (some 0))), some (.inr (.inr (some 203))), some (.inl i)] [] b v Q := by
  obtain ⟨z, b1, v1, w, hz, h1, h2, hI2⟩ := hS 6 (66, 239, 2) rfl (X.2.1 (i + 1).toNat) (X.2.1 (i + 2).toNat) (X.2.1 (i + 3).toNat) (X.2.1 (i + 4).toNat) (X.2.1 (i + 5).toNat) (hx _) (hx _) (hx _) (hx _) (hx _) b v hI
  refine r_ex 5 (pc' := 493) (lo' := [some (.inr (.inr (some 100000))), some (.inr (.inr (some 0))), some (.inr (.inr (some 203))), some (.inl i)]) (st' := [.inl (i + 1), .inr (.inr (some 100000)), .inr (.inr (some 0))]) rfl ?_
  refine n_sld (pc' := 494) (pc0 := 493) (len := 1) rfl ⟨by omega, by omega⟩ (by omega) rfl ?_
  refine r_ex 4 (pc' := 498) (lo' := [some (.inr (.inr (some 100000))), some (.inr (.inr (some 0))), some (.inr (.inr (some 203))), some (.inl i)]) (st' := [.inl (i + 2), .inr (.inr (some 100000)), .inl (X.2.1 (i + 1).toNat), .inr (.inr (some 0))]) rfl ?_
  refine n_sld (pc' := 499) (pc0 := 498) (len := 1) rfl ⟨by omega, by omega⟩ (by omega) rfl ?_
  refine r_call (m := 66) (args := [.inr (.inr (some 0)), .inl (X.2.1 (i + 1).toNat), .inl (X.2.1 (i + 2).toNat)]) (n' := 329) (pc' := 502) (lo' := [some (.inr (.inr (some 100000))), some (.inr (.inr (some 0))), some (.inr (.inr (some 203))), some (.inl i)]) (st' := []) (I := .invokevirtual 66) (pc0 := 499) (len := 3) rfl rfl rfl h1 ?_
  show WV _ _ _ 502 _ [.inl z] _ _ _
  refine r_ex 5 (pc' := 507) (lo' := [some (.inr (.inr (some 100000))), some (.inr (.inr (some 0))), some (.inr (.inr (some 203))), some (.inl i)]) (st' := [.inl (i + 1), .inr (.inr (some 100000)), .inr (.inr (some 203)), .inl z]) rfl ?_
  refine n_sld (pc' := 508) (pc0 := 507) (len := 1) rfl ⟨by omega, by omega⟩ (by omega) rfl ?_
  refine r_ex 4 (pc' := 512) (lo' := [some (.inr (.inr (some 100000))), some (.inr (.inr (some 0))), some (.inr (.inr (some 203))), some (.inl i)]) (st' := [.inl (i + 2), .inr (.inr (some 100000)), .inl (X.2.1 (i + 1).toNat), .inr (.inr (some 203)), .inl z]) rfl ?_
  refine n_sld (pc' := 513) (pc0 := 512) (len := 1) rfl ⟨by omega, by omega⟩ (by omega) rfl ?_
  refine r_call (m := 239) (args := [.inr (.inr (some 203)), .inl (X.2.1 (i + 1).toNat), .inl (X.2.1 (i + 2).toNat)]) (n' := 329) (pc' := 516) (lo' := [some (.inr (.inr (some 100000))), some (.inr (.inr (some 0))), some (.inr (.inr (some 203))), some (.inl i)]) (st' := [.inl z]) (I := .invokevirtual 239) (pc0 := 513) (len := 3) rfl rfl rfl h2 ?_
  show WV _ _ _ 516 _ [.inl z, .inl z] _ _ _
  refine n_ic_eq (pc0 := 516) (len := 3) (t := 2199) rfl hz hz (fun _ => ?_) (fun hne => absurd rfl hne)
  exact hK b1 w hI2

set_option maxRecDepth 100000 in
theorem law_7 {INV : Nat → VS → Prop} {X : PX} {b : Nat} {v : VS} {i : Int} {Q : Option PV → Nat → VS → Prop} (hS : Steps INV X) (hx : ∀ j, R32 (X.2.1 j)) (hL : X.1 ≤ 3072) (hi : 0 ≤ i ∧ i + 6 ≤ X.1) (hI : INV b v) (hK : ∀ b1 v1, INV b1 v1 → WV X 13 329 2199 [some (.inr (.inr (some 100000))), some (.inr (.inr (some 0))), some (.inr (.inr (some 203))), some (.inl i)] [] b1 v1 Q) : WV X 13 329 521 [some (.inr (.inr (some 100000))), some (.inr (.inr (some 0))), some (.inr (.inr (some 203))), some (.inl i)] [] b v Q := by
  obtain ⟨z, b1, v1, w, hz, h1, h2, hI2⟩ := hS 7 (70, 244, 0) rfl (X.2.1 (i + 1).toNat) (X.2.1 (i + 2).toNat) (X.2.1 (i + 3).toNat) (X.2.1 (i + 4).toNat) (X.2.1 (i + 5).toNat) (hx _) (hx _) (hx _) (hx _) (hx _) b v hI
  refine r_ex 1 (pc' := 522) (lo' := [some (.inr (.inr (some 100000))), some (.inr (.inr (some 0))), some (.inr (.inr (some 203))), some (.inl i)]) (st' := [.inr (.inr (some 0))]) rfl ?_
  refine r_call (m := 70) (args := [.inr (.inr (some 0))]) (n' := 329) (pc' := 525) (lo' := [some (.inr (.inr (some 100000))), some (.inr (.inr (some 0))), some (.inr (.inr (some 203))), some (.inl i)]) (st' := []) (I := .invokevirtual 70) (pc0 := 522) (len := 3) rfl rfl rfl h1 ?_
  show WV _ _ _ 525 _ [.inl z] _ _ _
  refine r_ex 1 (pc' := 526) (lo' := [some (.inr (.inr (some 100000))), some (.inr (.inr (some 0))), some (.inr (.inr (some 203))), some (.inl i)]) (st' := [.inr (.inr (some 203)), .inl z]) rfl ?_
  refine r_call (m := 244) (args := [.inr (.inr (some 203))]) (n' := 329) (pc' := 529) (lo' := [some (.inr (.inr (some 100000))), some (.inr (.inr (some 0))), some (.inr (.inr (some 203))), some (.inl i)]) (st' := [.inl z]) (I := .invokevirtual 244) (pc0 := 526) (len := 3) rfl rfl rfl h2 ?_
  show WV _ _ _ 529 _ [.inl z, .inl z] _ _ _
  refine n_ic_eq (pc0 := 529) (len := 3) (t := 2199) rfl hz hz (fun _ => ?_) (fun hne => absurd rfl hne)
  exact hK b1 w hI2

set_option maxRecDepth 100000 in
theorem law_8 {INV : Nat → VS → Prop} {X : PX} {b : Nat} {v : VS} {i : Int} {Q : Option PV → Nat → VS → Prop} (hS : Steps INV X) (hx : ∀ j, R32 (X.2.1 j)) (hL : X.1 ≤ 3072) (hi : 0 ≤ i ∧ i + 6 ≤ X.1) (hI : INV b v) (hK : ∀ b1 v1, INV b1 v1 → WV X 13 329 2199 [some (.inr (.inr (some 100000))), some (.inr (.inr (some 0))), some (.inr (.inr (some 203))), some (.inl i)] [] b1 v1 Q) : WV X 13 329 534 [some (.inr (.inr (some 100000))), some (.inr (.inr (some 0))), some (.inr (.inr (some 203))), some (.inl i)] [] b v Q := by
  obtain ⟨z, b1, v1, w, hz, h1, h2, hI2⟩ := hS 8 (86, 253, 2) rfl (X.2.1 (i + 1).toNat) (X.2.1 (i + 2).toNat) (X.2.1 (i + 3).toNat) (X.2.1 (i + 4).toNat) (X.2.1 (i + 5).toNat) (hx _) (hx _) (hx _) (hx _) (hx _) b v hI
  refine r_ex 5 (pc' := 539) (lo' := [some (.inr (.inr (some 100000))), some (.inr (.inr (some 0))), some (.inr (.inr (some 203))), some (.inl i)]) (st' := [.inl (i + 1), .inr (.inr (some 100000)), .inr (.inr (some 0))]) rfl ?_
  refine n_sld (pc' := 540) (pc0 := 539) (len := 1) rfl ⟨by omega, by omega⟩ (by omega) rfl ?_
  refine r_ex 4 (pc' := 544) (lo' := [some (.inr (.inr (some 100000))), some (.inr (.inr (some 0))), some (.inr (.inr (some 203))), some (.inl i)]) (st' := [.inl (i + 2), .inr (.inr (some 100000)), .inl (X.2.1 (i + 1).toNat), .inr (.inr (some 0))]) rfl ?_
  refine n_sld (pc' := 545) (pc0 := 544) (len := 1) rfl ⟨by omega, by omega⟩ (by omega) rfl ?_
  refine r_call (m := 86) (args := [.inr (.inr (some 0)), .inl (X.2.1 (i + 1).toNat), .inl (X.2.1 (i + 2).toNat)]) (n' := 329) (pc' := 548) (lo' := [some (.inr (.inr (some 100000))), some (.inr (.inr (some 0))), some (.inr (.inr (some 203))), some (.inl i)]) (st' := []) (I := .invokevirtual 86) (pc0 := 545) (len := 3) rfl rfl rfl h1 ?_
  show WV _ _ _ 548 _ [.inl z] _ _ _
  refine r_ex 5 (pc' := 553) (lo' := [some (.inr (.inr (some 100000))), some (.inr (.inr (some 0))), some (.inr (.inr (some 203))), some (.inl i)]) (st' := [.inl (i + 1), .inr (.inr (some 100000)), .inr (.inr (some 203)), .inl z]) rfl ?_
  refine n_sld (pc' := 554) (pc0 := 553) (len := 1) rfl ⟨by omega, by omega⟩ (by omega) rfl ?_
  refine r_ex 4 (pc' := 558) (lo' := [some (.inr (.inr (some 100000))), some (.inr (.inr (some 0))), some (.inr (.inr (some 203))), some (.inl i)]) (st' := [.inl (i + 2), .inr (.inr (some 100000)), .inl (X.2.1 (i + 1).toNat), .inr (.inr (some 203)), .inl z]) rfl ?_
  refine n_sld (pc' := 559) (pc0 := 558) (len := 1) rfl ⟨by omega, by omega⟩ (by omega) rfl ?_
  refine r_call (m := 253) (args := [.inr (.inr (some 203)), .inl (X.2.1 (i + 1).toNat), .inl (X.2.1 (i + 2).toNat)]) (n' := 329) (pc' := 562) (lo' := [some (.inr (.inr (some 100000))), some (.inr (.inr (some 0))), some (.inr (.inr (some 203))), some (.inl i)]) (st' := [.inl z]) (I := .invokevirtual 253) (pc0 := 559) (len := 3) rfl rfl rfl h2 ?_
  show WV _ _ _ 562 _ [.inl z, .inl z] _ _ _
  refine n_ic_eq (pc0 := 562) (len := 3) (t := 2199) rfl hz hz (fun _ => ?_) (fun hne => absurd rfl hne)
  exact hK b1 w hI2

set_option maxRecDepth 100000 in
theorem law_9 {INV : Nat → VS → Prop} {X : PX} {b : Nat} {v : VS} {i : Int} {Q : Option PV → Nat → VS → Prop} (hS : Steps INV X) (hx : ∀ j, R32 (X.2.1 j)) (hL : X.1 ≤ 3072) (hi : 0 ≤ i ∧ i + 6 ≤ X.1) (hI : INV b v) (hK : ∀ b1 v1, INV b1 v1 → WV X 13 329 2199 [some (.inr (.inr (some 100000))), some (.inr (.inr (some 0))), some (.inr (.inr (some 203))), some (.inl i)] [] b1 v1 Q) : WV X 13 329 567 [some (.inr (.inr (some 100000))), some (.inr (.inr (some 0))), some (.inr (.inr (some 203))), some (.inl i)] [] b v Q := by
  obtain ⟨z, b1, v1, w, hz, h1, h2, hI2⟩ := hS 9 (88, 255, 1) rfl (X.2.1 (i + 1).toNat) (X.2.1 (i + 2).toNat) (X.2.1 (i + 3).toNat) (X.2.1 (i + 4).toNat) (X.2.1 (i + 5).toNat) (hx _) (hx _) (hx _) (hx _) (hx _) b v hI
  refine r_ex 5 (pc' := 572) (lo' := [some (.inr (.inr (some 100000))), some (.inr (.inr (some 0))), some (.inr (.inr (some 203))), some (.inl i)]) (st' := [.inl (i + 1), .inr (.inr (some 100000)), .inr (.inr (some 0))]) rfl ?_
  refine n_sld (pc' := 573) (pc0 := 572) (len := 1) rfl ⟨by omega, by omega⟩ (by omega) rfl ?_
  refine r_call (m := 88) (args := [.inr (.inr (some 0)), .inl (X.2.1 (i + 1).toNat)]) (n' := 329) (pc' := 576) (lo' := [some (.inr (.inr (some 100000))), some (.inr (.inr (some 0))), some (.inr (.inr (some 203))), some (.inl i)]) (st' := []) (I := .invokevirtual 88) (pc0 := 573) (len := 3) rfl rfl rfl h1 ?_
  show WV _ _ _ 576 _ [.inl z] _ _ _
  refine r_ex 5 (pc' := 581) (lo' := [some (.inr (.inr (some 100000))), some (.inr (.inr (some 0))), some (.inr (.inr (some 203))), some (.inl i)]) (st' := [.inl (i + 1), .inr (.inr (some 100000)), .inr (.inr (some 203)), .inl z]) rfl ?_
  refine n_sld (pc' := 582) (pc0 := 581) (len := 1) rfl ⟨by omega, by omega⟩ (by omega) rfl ?_
  refine r_call (m := 255) (args := [.inr (.inr (some 203)), .inl (X.2.1 (i + 1).toNat)]) (n' := 329) (pc' := 585) (lo' := [some (.inr (.inr (some 100000))), some (.inr (.inr (some 0))), some (.inr (.inr (some 203))), some (.inl i)]) (st' := [.inl z]) (I := .invokevirtual 255) (pc0 := 582) (len := 3) rfl rfl rfl h2 ?_
  show WV _ _ _ 585 _ [.inl z, .inl z] _ _ _
  refine n_ic_eq (pc0 := 585) (len := 3) (t := 2199) rfl hz hz (fun _ => ?_) (fun hne => absurd rfl hne)
  exact hK b1 w hI2

set_option maxRecDepth 100000 in
theorem law_10 {INV : Nat → VS → Prop} {X : PX} {b : Nat} {v : VS} {i : Int} {Q : Option PV → Nat → VS → Prop} (hS : Steps INV X) (hx : ∀ j, R32 (X.2.1 j)) (hL : X.1 ≤ 3072) (hi : 0 ≤ i ∧ i + 6 ≤ X.1) (hI : INV b v) (hK : ∀ b1 v1, INV b1 v1 → WV X 13 329 2199 [some (.inr (.inr (some 100000))), some (.inr (.inr (some 0))), some (.inr (.inr (some 203))), some (.inl i)] [] b1 v1 Q) : WV X 13 329 590 [some (.inr (.inr (some 100000))), some (.inr (.inr (some 0))), some (.inr (.inr (some 203))), some (.inl i)] [] b v Q := by
  obtain ⟨z, b1, v1, w, hz, h1, h2, hI2⟩ := hS 10 (89, 256, 2) rfl (X.2.1 (i + 1).toNat) (X.2.1 (i + 2).toNat) (X.2.1 (i + 3).toNat) (X.2.1 (i + 4).toNat) (X.2.1 (i + 5).toNat) (hx _) (hx _) (hx _) (hx _) (hx _) b v hI
  refine r_ex 5 (pc' := 595) (lo' := [some (.inr (.inr (some 100000))), some (.inr (.inr (some 0))), some (.inr (.inr (some 203))), some (.inl i)]) (st' := [.inl (i + 1), .inr (.inr (some 100000)), .inr (.inr (some 0))]) rfl ?_
  refine n_sld (pc' := 596) (pc0 := 595) (len := 1) rfl ⟨by omega, by omega⟩ (by omega) rfl ?_
  refine r_ex 4 (pc' := 600) (lo' := [some (.inr (.inr (some 100000))), some (.inr (.inr (some 0))), some (.inr (.inr (some 203))), some (.inl i)]) (st' := [.inl (i + 2), .inr (.inr (some 100000)), .inl (X.2.1 (i + 1).toNat), .inr (.inr (some 0))]) rfl ?_
  refine n_sld (pc' := 601) (pc0 := 600) (len := 1) rfl ⟨by omega, by omega⟩ (by omega) rfl ?_
  refine r_call (m := 89) (args := [.inr (.inr (some 0)), .inl (X.2.1 (i + 1).toNat), .inl (X.2.1 (i + 2).toNat)]) (n' := 329) (pc' := 604) (lo' := [some (.inr (.inr (some 100000))), some (.inr (.inr (some 0))), some (.inr (.inr (some 203))), some (.inl i)]) (st' := []) (I := .invokevirtual 89) (pc0 := 601) (len := 3) rfl rfl rfl h1 ?_
  show WV _ _ _ 604 _ [.inl z] _ _ _
  refine r_ex 5 (pc' := 609) (lo' := [some (.inr (.inr (some 100000))), some (.inr (.inr (some 0))), some (.inr (.inr (some 203))), some (.inl i)]) (st' := [.inl (i + 1), .inr (.inr (some 100000)), .inr (.inr (some 203)), .inl z]) rfl ?_
  refine n_sld (pc' := 610) (pc0 := 609) (len := 1) rfl ⟨by omega, by omega⟩ (by omega) rfl ?_
  refine r_ex 4 (pc' := 614) (lo' := [some (.inr (.inr (some 100000))), some (.inr (.inr (some 0))), some (.inr (.inr (some 203))), some (.inl i)]) (st' := [.inl (i + 2), .inr (.inr (some 100000)), .inl (X.2.1 (i + 1).toNat), .inr (.inr (some 203)), .inl z]) rfl ?_
  refine n_sld (pc' := 615) (pc0 := 614) (len := 1) rfl ⟨by omega, by omega⟩ (by omega) rfl ?_
  refine r_call (m := 256) (args := [.inr (.inr (some 203)), .inl (X.2.1 (i + 1).toNat), .inl (X.2.1 (i + 2).toNat)]) (n' := 329) (pc' := 618) (lo' := [some (.inr (.inr (some 100000))), some (.inr (.inr (some 0))), some (.inr (.inr (some 203))), some (.inl i)]) (st' := [.inl z]) (I := .invokevirtual 256) (pc0 := 615) (len := 3) rfl rfl rfl h2 ?_
  show WV _ _ _ 618 _ [.inl z, .inl z] _ _ _
  refine n_ic_eq (pc0 := 618) (len := 3) (t := 2199) rfl hz hz (fun _ => ?_) (fun hne => absurd rfl hne)
  exact hK b1 w hI2

set_option maxRecDepth 100000 in
theorem law_11 {INV : Nat → VS → Prop} {X : PX} {b : Nat} {v : VS} {i : Int} {Q : Option PV → Nat → VS → Prop} (hS : Steps INV X) (hx : ∀ j, R32 (X.2.1 j)) (hL : X.1 ≤ 3072) (hi : 0 ≤ i ∧ i + 6 ≤ X.1) (hI : INV b v) (hK : ∀ b1 v1, INV b1 v1 → WV X 13 329 2199 [some (.inr (.inr (some 100000))), some (.inr (.inr (some 0))), some (.inr (.inr (some 203))), some (.inl i)] [] b1 v1 Q) : WV X 13 329 623 [some (.inr (.inr (some 100000))), some (.inr (.inr (some 0))), some (.inr (.inr (some 203))), some (.inl i)] [] b v Q := by
  obtain ⟨z, b1, v1, w, hz, h1, h2, hI2⟩ := hS 11 (91, 258, 1) rfl (X.2.1 (i + 1).toNat) (X.2.1 (i + 2).toNat) (X.2.1 (i + 3).toNat) (X.2.1 (i + 4).toNat) (X.2.1 (i + 5).toNat) (hx _) (hx _) (hx _) (hx _) (hx _) b v hI
  refine r_ex 5 (pc' := 628) (lo' := [some (.inr (.inr (some 100000))), some (.inr (.inr (some 0))), some (.inr (.inr (some 203))), some (.inl i)]) (st' := [.inl (i + 1), .inr (.inr (some 100000)), .inr (.inr (some 0))]) rfl ?_
  refine n_sld (pc' := 629) (pc0 := 628) (len := 1) rfl ⟨by omega, by omega⟩ (by omega) rfl ?_
  refine r_call (m := 91) (args := [.inr (.inr (some 0)), .inl (X.2.1 (i + 1).toNat)]) (n' := 329) (pc' := 632) (lo' := [some (.inr (.inr (some 100000))), some (.inr (.inr (some 0))), some (.inr (.inr (some 203))), some (.inl i)]) (st' := []) (I := .invokevirtual 91) (pc0 := 629) (len := 3) rfl rfl rfl h1 ?_
  show WV _ _ _ 632 _ [.inl z] _ _ _
  refine r_ex 5 (pc' := 637) (lo' := [some (.inr (.inr (some 100000))), some (.inr (.inr (some 0))), some (.inr (.inr (some 203))), some (.inl i)]) (st' := [.inl (i + 1), .inr (.inr (some 100000)), .inr (.inr (some 203)), .inl z]) rfl ?_
  refine n_sld (pc' := 638) (pc0 := 637) (len := 1) rfl ⟨by omega, by omega⟩ (by omega) rfl ?_
  refine r_call (m := 258) (args := [.inr (.inr (some 203)), .inl (X.2.1 (i + 1).toNat)]) (n' := 329) (pc' := 641) (lo' := [some (.inr (.inr (some 100000))), some (.inr (.inr (some 0))), some (.inr (.inr (some 203))), some (.inl i)]) (st' := [.inl z]) (I := .invokevirtual 258) (pc0 := 638) (len := 3) rfl rfl rfl h2 ?_
  show WV _ _ _ 641 _ [.inl z, .inl z] _ _ _
  refine n_ic_eq (pc0 := 641) (len := 3) (t := 2199) rfl hz hz (fun _ => ?_) (fun hne => absurd rfl hne)
  exact hK b1 w hI2

set_option maxRecDepth 100000 in
theorem law_12 {INV : Nat → VS → Prop} {X : PX} {b : Nat} {v : VS} {i : Int} {Q : Option PV → Nat → VS → Prop} (hS : Steps INV X) (hx : ∀ j, R32 (X.2.1 j)) (hL : X.1 ≤ 3072) (hi : 0 ≤ i ∧ i + 6 ≤ X.1) (hI : INV b v) (hK : ∀ b1 v1, INV b1 v1 → WV X 13 329 2199 [some (.inr (.inr (some 100000))), some (.inr (.inr (some 0))), some (.inr (.inr (some 203))), some (.inl i)] [] b1 v1 Q) : WV X 13 329 646 [some (.inr (.inr (some 100000))), some (.inr (.inr (some 0))), some (.inr (.inr (some 203))), some (.inl i)] [] b v Q := by
  obtain ⟨z, b1, v1, w, hz, h1, h2, hI2⟩ := hS 12 (92, 259, 2) rfl (X.2.1 (i + 1).toNat) (X.2.1 (i + 2).toNat) (X.2.1 (i + 3).toNat) (X.2.1 (i + 4).toNat) (X.2.1 (i + 5).toNat) (hx _) (hx _) (hx _) (hx _) (hx _) b v hI
  refine r_ex 5 (pc' := 651) (lo' := [some (.inr (.inr (some 100000))), some (.inr (.inr (some 0))), some (.inr (.inr (some 203))), some (.inl i)]) (st' := [.inl (i + 1), .inr (.inr (some 100000)), .inr (.inr (some 0))]) rfl ?_
  refine n_sld (pc' := 652) (pc0 := 651) (len := 1) rfl ⟨by omega, by omega⟩ (by omega) rfl ?_
  refine r_ex 4 (pc' := 656) (lo' := [some (.inr (.inr (some 100000))), some (.inr (.inr (some 0))), some (.inr (.inr (some 203))), some (.inl i)]) (st' := [.inl (i + 2), .inr (.inr (some 100000)), .inl (X.2.1 (i + 1).toNat), .inr (.inr (some 0))]) rfl ?_
  refine n_sld (pc' := 657) (pc0 := 656) (len := 1) rfl ⟨by omega, by omega⟩ (by omega) rfl ?_
  refine r_call (m := 92) (args := [.inr (.inr (some 0)), .inl (X.2.1 (i + 1).toNat), .inl (X.2.1 (i + 2).toNat)]) (n' := 329) (pc' := 660) (lo' := [some (.inr (.inr (some 100000))), some (.inr (.inr (some 0))), some (.inr (.inr (some 203))), some (.inl i)]) (st' := []) (I := .invokevirtual 92) (pc0 := 657) (len := 3) rfl rfl rfl h1 ?_
  show WV _ _ _ 660 _ [.inl z] _ _ _
  refine r_ex 5 (pc' := 665) (lo' := [some (.inr (.inr (some 100000))), some (.inr (.inr (some 0))), some (.inr (.inr (some 203))), some (.inl i)]) (st' := [.inl (i + 1), .inr (.inr (some 100000)), .inr (.inr (some 203)), .inl z]) rfl ?_
  refine n_sld (pc' := 666) (pc0 := 665) (len := 1) rfl ⟨by omega, by omega⟩ (by omega) rfl ?_
  refine r_ex 4 (pc' := 670) (lo' := [some (.inr (.inr (some 100000))), some (.inr (.inr (some 0))), some (.inr (.inr (some 203))), some (.inl i)]) (st' := [.inl (i + 2), .inr (.inr (some 100000)), .inl (X.2.1 (i + 1).toNat), .inr (.inr (some 203)), .inl z]) rfl ?_
  refine n_sld (pc' := 671) (pc0 := 670) (len := 1) rfl ⟨by omega, by omega⟩ (by omega) rfl ?_
  refine r_call (m := 259) (args := [.inr (.inr (some 203)), .inl (X.2.1 (i + 1).toNat), .inl (X.2.1 (i + 2).toNat)]) (n' := 329) (pc' := 674) (lo' := [some (.inr (.inr (some 100000))), some (.inr (.inr (some 0))), some (.inr (.inr (some 203))), some (.inl i)]) (st' := [.inl z]) (I := .invokevirtual 259) (pc0 := 671) (len := 3) rfl rfl rfl h2 ?_
  show WV _ _ _ 674 _ [.inl z, .inl z] _ _ _
  refine n_ic_eq (pc0 := 674) (len := 3) (t := 2199) rfl hz hz (fun _ => ?_) (fun hne => absurd rfl hne)
  exact hK b1 w hI2

set_option maxRecDepth 100000 in
theorem law_13 {INV : Nat → VS → Prop} {X : PX} {b : Nat} {v : VS} {i : Int} {Q : Option PV → Nat → VS → Prop} (hS : Steps INV X) (hx : ∀ j, R32 (X.2.1 j)) (hL : X.1 ≤ 3072) (hi : 0 ≤ i ∧ i + 6 ≤ X.1) (hI : INV b v) (hK : ∀ b1 v1, INV b1 v1 → WV X 13 329 2199 [some (.inr (.inr (some 100000))), some (.inr (.inr (some 0))), some (.inr (.inr (some 203))), some (.inl i)] [] b1 v1 Q) : WV X 13 329 679 [some (.inr (.inr (some 100000))), some (.inr (.inr (some 0))), some (.inr (.inr (some 203))), some (.inl i)] [] b v Q := by
  obtain ⟨z, b1, v1, w, hz, h1, h2, hI2⟩ := hS 13 (94, 261, 2) rfl (X.2.1 (i + 1).toNat) (X.2.1 (i + 2).toNat) (X.2.1 (i + 3).toNat) (X.2.1 (i + 4).toNat) (X.2.1 (i + 5).toNat) (hx _) (hx _) (hx _) (hx _) (hx _) b v hI
  refine r_ex 5 (pc' := 684) (lo' := [some (.inr (.inr (some 100000))), some (.inr (.inr (some 0))), some (.inr (.inr (some 203))), some (.inl i)]) (st' := [.inl (i + 1), .inr (.inr (some 100000)), .inr (.inr (some 0))]) rfl ?_
  refine n_sld (pc' := 685) (pc0 := 684) (len := 1) rfl ⟨by omega, by omega⟩ (by omega) rfl ?_
  refine r_ex 4 (pc' := 689) (lo' := [some (.inr (.inr (some 100000))), some (.inr (.inr (some 0))), some (.inr (.inr (some 203))), some (.inl i)]) (st' := [.inl (i + 2), .inr (.inr (some 100000)), .inl (X.2.1 (i + 1).toNat), .inr (.inr (some 0))]) rfl ?_
  refine n_sld (pc' := 690) (pc0 := 689) (len := 1) rfl ⟨by omega, by omega⟩ (by omega) rfl ?_
  refine r_call (m := 94) (args := [.inr (.inr (some 0)), .inl (X.2.1 (i + 1).toNat), .inl (X.2.1 (i + 2).toNat)]) (n' := 329) (pc' := 693) (lo' := [some (.inr (.inr (some 100000))), some (.inr (.inr (some 0))), some (.inr (.inr (some 203))), some (.inl i)]) (st' := []) (I := .invokevirtual 94) (pc0 := 690) (len := 3) rfl rfl rfl h1 ?_
  show WV _ _ _ 693 _ [.inl z] _ _ _
  refine r_ex 5 (pc' := 698) (lo' := [some (.inr (.inr (some 100000))), some (.inr (.inr (some 0))), some (.inr (.inr (some 203))), some (.inl i)]) (st' := [.inl (i + 1), .inr (.inr (some 100000)), .inr (.inr (some 203)), .inl z]) rfl ?_
  refine n_sld (pc' := 699) (pc0 := 698) (len := 1) rfl ⟨by omega, by omega⟩ (by omega) rfl ?_
  refine r_ex 4 (pc' := 703) (lo' := [some (.inr (.inr (some 100000))), some (.inr (.inr (some 0))), some (.inr (.inr (some 203))), some (.inl i)]) (st' := [.inl (i + 2), .inr (.inr (some 100000)), .inl (X.2.1 (i + 1).toNat), .inr (.inr (some 203)), .inl z]) rfl ?_
  refine n_sld (pc' := 704) (pc0 := 703) (len := 1) rfl ⟨by omega, by omega⟩ (by omega) rfl ?_
  refine r_call (m := 261) (args := [.inr (.inr (some 203)), .inl (X.2.1 (i + 1).toNat), .inl (X.2.1 (i + 2).toNat)]) (n' := 329) (pc' := 707) (lo' := [some (.inr (.inr (some 100000))), some (.inr (.inr (some 0))), some (.inr (.inr (some 203))), some (.inl i)]) (st' := [.inl z]) (I := .invokevirtual 261) (pc0 := 704) (len := 3) rfl rfl rfl h2 ?_
  show WV _ _ _ 707 _ [.inl z, .inl z] _ _ _
  refine n_ic_eq (pc0 := 707) (len := 3) (t := 2199) rfl hz hz (fun _ => ?_) (fun hne => absurd rfl hne)
  exact hK b1 w hI2

set_option maxRecDepth 100000 in
theorem law_14 {INV : Nat → VS → Prop} {X : PX} {b : Nat} {v : VS} {i : Int} {Q : Option PV → Nat → VS → Prop} (hS : Steps INV X) (hx : ∀ j, R32 (X.2.1 j)) (hL : X.1 ≤ 3072) (hi : 0 ≤ i ∧ i + 6 ≤ X.1) (hI : INV b v) (hK : ∀ b1 v1, INV b1 v1 → WV X 13 329 2199 [some (.inr (.inr (some 100000))), some (.inr (.inr (some 0))), some (.inr (.inr (some 203))), some (.inl i)] [] b1 v1 Q) : WV X 13 329 712 [some (.inr (.inr (some 100000))), some (.inr (.inr (some 0))), some (.inr (.inr (some 203))), some (.inl i)] [] b v Q := by
  obtain ⟨z, b1, v1, w, hz, h1, h2, hI2⟩ := hS 14 (95, 262, 1) rfl (X.2.1 (i + 1).toNat) (X.2.1 (i + 2).toNat) (X.2.1 (i + 3).toNat) (X.2.1 (i + 4).toNat) (X.2.1 (i + 5).toNat) (hx _) (hx _) (hx _) (hx _) (hx _) b v hI
  refine r_ex 5 (pc' := 717) (lo' := [some (.inr (.inr (some 100000))), some (.inr (.inr (some 0))), some (.inr (.inr (some 203))), some (.inl i)]) (st' := [.inl (i + 1), .inr (.inr (some 100000)), .inr (.inr (some 0))]) rfl ?_
  refine n_sld (pc' := 718) (pc0 := 717) (len := 1) rfl ⟨by omega, by omega⟩ (by omega) rfl ?_
  refine r_call (m := 95) (args := [.inr (.inr (some 0)), .inl (X.2.1 (i + 1).toNat)]) (n' := 329) (pc' := 721) (lo' := [some (.inr (.inr (some 100000))), some (.inr (.inr (some 0))), some (.inr (.inr (some 203))), some (.inl i)]) (st' := []) (I := .invokevirtual 95) (pc0 := 718) (len := 3) rfl rfl rfl h1 ?_
  show WV _ _ _ 721 _ [.inl z] _ _ _
  refine r_ex 5 (pc' := 726) (lo' := [some (.inr (.inr (some 100000))), some (.inr (.inr (some 0))), some (.inr (.inr (some 203))), some (.inl i)]) (st' := [.inl (i + 1), .inr (.inr (some 100000)), .inr (.inr (some 203)), .inl z]) rfl ?_
  refine n_sld (pc' := 727) (pc0 := 726) (len := 1) rfl ⟨by omega, by omega⟩ (by omega) rfl ?_
  refine r_call (m := 262) (args := [.inr (.inr (some 203)), .inl (X.2.1 (i + 1).toNat)]) (n' := 329) (pc' := 730) (lo' := [some (.inr (.inr (some 100000))), some (.inr (.inr (some 0))), some (.inr (.inr (some 203))), some (.inl i)]) (st' := [.inl z]) (I := .invokevirtual 262) (pc0 := 727) (len := 3) rfl rfl rfl h2 ?_
  show WV _ _ _ 730 _ [.inl z, .inl z] _ _ _
  refine n_ic_eq (pc0 := 730) (len := 3) (t := 2199) rfl hz hz (fun _ => ?_) (fun hne => absurd rfl hne)
  exact hK b1 w hI2

set_option maxRecDepth 100000 in
theorem law_15 {INV : Nat → VS → Prop} {X : PX} {b : Nat} {v : VS} {i : Int} {Q : Option PV → Nat → VS → Prop} (hS : Steps INV X) (hx : ∀ j, R32 (X.2.1 j)) (hL : X.1 ≤ 3072) (hi : 0 ≤ i ∧ i + 6 ≤ X.1) (hI : INV b v) (hK : ∀ b1 v1, INV b1 v1 → WV X 13 329 2199 [some (.inr (.inr (some 100000))), some (.inr (.inr (some 0))), some (.inr (.inr (some 203))), some (.inl i)] [] b1 v1 Q) : WV X 13 329 735 [some (.inr (.inr (some 100000))), some (.inr (.inr (some 0))), some (.inr (.inr (some 203))), some (.inl i)] [] b v Q := by
  obtain ⟨z, b1, v1, w, hz, h1, h2, hI2⟩ := hS 15 (97, 263, 2) rfl (X.2.1 (i + 1).toNat) (X.2.1 (i + 2).toNat) (X.2.1 (i + 3).toNat) (X.2.1 (i + 4).toNat) (X.2.1 (i + 5).toNat) (hx _) (hx _) (hx _) (hx _) (hx _) b v hI
  refine r_ex 5 (pc' := 740) (lo' := [some (.inr (.inr (some 100000))), some (.inr (.inr (some 0))), some (.inr (.inr (some 203))), some (.inl i)]) (st' := [.inl (i + 1), .inr (.inr (some 100000)), .inr (.inr (some 0))]) rfl ?_
  refine n_sld (pc' := 741) (pc0 := 740) (len := 1) rfl ⟨by omega, by omega⟩ (by omega) rfl ?_
  refine r_ex 4 (pc' := 745) (lo' := [some (.inr (.inr (some 100000))), some (.inr (.inr (some 0))), some (.inr (.inr (some 203))), some (.inl i)]) (st' := [.inl (i + 2), .inr (.inr (some 100000)), .inl (X.2.1 (i + 1).toNat), .inr (.inr (some 0))]) rfl ?_
  refine n_sld (pc' := 746) (pc0 := 745) (len := 1) rfl ⟨by omega, by omega⟩ (by omega) rfl ?_
  refine r_call (m := 97) (args := [.inr (.inr (some 0)), .inl (X.2.1 (i + 1).toNat), .inl (X.2.1 (i + 2).toNat)]) (n' := 329) (pc' := 749) (lo' := [some (.inr (.inr (some 100000))), some (.inr (.inr (some 0))), some (.inr (.inr (some 203))), some (.inl i)]) (st' := []) (I := .invokevirtual 97) (pc0 := 746) (len := 3) rfl rfl rfl h1 ?_
  show WV _ _ _ 749 _ [.inl z] _ _ _
  refine r_ex 5 (pc' := 754) (lo' := [some (.inr (.inr (some 100000))), some (.inr (.inr (some 0))), some (.inr (.inr (some 203))), some (.inl i)]) (st' := [.inl (i + 1), .inr (.inr (some 100000)), .inr (.inr (some 203)), .inl z]) rfl ?_
  refine n_sld (pc' := 755) (pc0 := 754) (len := 1) rfl ⟨by omega, by omega⟩ (by omega) rfl ?_
  refine r_ex 4 (pc' := 759) (lo' := [some (.inr (.inr (some 100000))), some (.inr (.inr (some 0))), some (.inr (.inr (some 203))), some (.inl i)]) (st' := [.inl (i + 2), .inr (.inr (some 100000)), .inl (X.2.1 (i + 1).toNat), .inr (.inr (some 203)), .inl z]) rfl ?_
  refine n_sld (pc' := 760) (pc0 := 759) (len := 1) rfl ⟨by omega, by omega⟩ (by omega) rfl ?_
  refine r_call (m := 263) (args := [.inr (.inr (some 203)), .inl (X.2.1 (i + 1).toNat), .inl (X.2.1 (i + 2).toNat)]) (n' := 329) (pc' := 763) (lo' := [some (.inr (.inr (some 100000))), some (.inr (.inr (some 0))), some (.inr (.inr (some 203))), some (.inl i)]) (st' := [.inl z]) (I := .invokevirtual 263) (pc0 := 760) (len := 3) rfl rfl rfl h2 ?_
  show WV _ _ _ 763 _ [.inl z, .inl z] _ _ _
  refine n_ic_eq (pc0 := 763) (len := 3) (t := 2199) rfl hz hz (fun _ => ?_) (fun hne => absurd rfl hne)
  exact hK b1 w hI2

set_option maxRecDepth 100000 in
theorem law_16 {INV : Nat → VS → Prop} {X : PX} {b : Nat} {v : VS} {i : Int} {Q : Option PV → Nat → VS → Prop} (hS : Steps INV X) (hx : ∀ j, R32 (X.2.1 j)) (hL : X.1 ≤ 3072) (hi : 0 ≤ i ∧ i + 6 ≤ X.1) (hI : INV b v) (hK : ∀ b1 v1, INV b1 v1 → WV X 13 329 2199 [some (.inr (.inr (some 100000))), some (.inr (.inr (some 0))), some (.inr (.inr (some 203))), some (.inl i)] [] b1 v1 Q) : WV X 13 329 768 [some (.inr (.inr (some 100000))), some (.inr (.inr (some 0))), some (.inr (.inr (some 203))), some (.inl i)] [] b v Q := by
  obtain ⟨z, b1, v1, w, hz, h1, h2, hI2⟩ := hS 16 (102, 265, 3) rfl (X.2.1 (i + 1).toNat) (X.2.1 (i + 2).toNat) (X.2.1 (i + 3).toNat) (X.2.1 (i + 4).toNat) (X.2.1 (i + 5).toNat) (hx _) (hx _) (hx _) (hx _) (hx _) b v hI
  refine r_ex 5 (pc' := 773) (lo' := [some (.inr (.inr (some 100000))), some (.inr (.inr (some 0))), some (.inr (.inr (some 203))), some (.inl i)]) (st' := [.inl (i + 1), .inr (.inr (some 100000)), .inr (.inr (some 0))]) rfl ?_
  refine n_sld (pc' := 774) (pc0 := 773) (len := 1) rfl ⟨by omega, by omega⟩ (by omega) rfl ?_
  refine r_ex 4 (pc' := 778) (lo' := [some (.inr (.inr (some 100000))), some (.inr (.inr (some 0))), some (.inr (.inr (some 203))), some (.inl i)]) (st' := [.inl (i + 2), .inr (.inr (some 100000)), .inl (X.2.1 (i + 1).toNat), .inr (.inr (some 0))]) rfl ?_
  refine n_sld (pc' := 779) (pc0 := 778) (len := 1) rfl ⟨by omega, by omega⟩ (by omega) rfl ?_
  refine r_ex 4 (pc' := 783) (lo' := [some (.inr (.inr (some 100000))), some (.inr (.inr (some 0))), some (.inr (.inr (some 203))), some (.inl i)]) (st' := [.inl (i + 3), .inr (.inr (some 100000)), .inl (X.2.1 (i + 2).toNat), .inl (X.2.1 (i + 1).toNat), .inr (.inr (some 0))]) rfl ?_
  refine n_sld (pc' := 784) (pc0 := 783) (len := 1) rfl ⟨by omega, by omega⟩ (by omega) rfl ?_
  refine r_call (m := 102) (args := [.inr (.inr (some 0)), .inl (X.2.1 (i + 1).toNat), .inl (X.2.1 (i + 2).toNat), .inl (X.2.1 (i + 3).toNat)]) (n' := 329) (pc' := 787) (lo' := [some (.inr (.inr (some 100000))), some (.inr (.inr (some 0))), some (.inr (.inr (some 203))), some (.inl i)]) (st' := []) (I := .invokevirtual 102) (pc0 := 784) (len := 3) rfl rfl rfl h1 ?_
  show WV _ _ _ 787 _ [.inl z] _ _ _
  refine r_ex 5 (pc' := 792) (lo' := [some (.inr (.inr (some 100000))), some (.inr (.inr (some 0))), some (.inr (.inr (some 203))), some (.inl i)]) (st' := [.inl (i + 1), .inr (.inr (some 100000)), .inr (.inr (some 203)), .inl z]) rfl ?_
  refine n_sld (pc' := 793) (pc0 := 792) (len := 1) rfl ⟨by omega, by omega⟩ (by omega) rfl ?_
  refine r_ex 4 (pc' := 797) (lo' := [some (.inr (.inr (some 100000))), some (.inr (.inr (some 0))), some (.inr (.inr (some 203))), some (.inl i)]) (st' := [.inl (i + 2), .inr (.inr (some 100000)), .inl (X.2.1 (i + 1).toNat), .inr (.inr (some 203)), .inl z]) rfl ?_
  refine n_sld (pc' := 798) (pc0 := 797) (len := 1) rfl ⟨by omega, by omega⟩ (by omega) rfl ?_
  refine r_ex 4 (pc' := 802) (lo' := [some (.inr (.inr (some 100000))), some (.inr (.inr (some 0))), some (.inr (.inr (some 203))), some (.inl i)]) (st' := [.inl (i + 3), .inr (.inr (some 100000)), .inl (X.2.1 (i + 2).toNat), .inl (X.2.1 (i + 1).toNat), .inr (.inr (some 203)), .inl z]) rfl ?_
  refine n_sld (pc' := 803) (pc0 := 802) (len := 1) rfl ⟨by omega, by omega⟩ (by omega) rfl ?_
  refine r_call (m := 265) (args := [.inr (.inr (some 203)), .inl (X.2.1 (i + 1).toNat), .inl (X.2.1 (i + 2).toNat), .inl (X.2.1 (i + 3).toNat)]) (n' := 329) (pc' := 806) (lo' := [some (.inr (.inr (some 100000))), some (.inr (.inr (some 0))), some (.inr (.inr (some 203))), some (.inl i)]) (st' := [.inl z]) (I := .invokevirtual 265) (pc0 := 803) (len := 3) rfl rfl rfl h2 ?_
  show WV _ _ _ 806 _ [.inl z, .inl z] _ _ _
  refine n_ic_eq (pc0 := 806) (len := 3) (t := 2199) rfl hz hz (fun _ => ?_) (fun hne => absurd rfl hne)
  exact hK b1 w hI2

set_option maxRecDepth 100000 in
theorem law_17 {INV : Nat → VS → Prop} {X : PX} {b : Nat} {v : VS} {i : Int} {Q : Option PV → Nat → VS → Prop} (hS : Steps INV X) (hx : ∀ j, R32 (X.2.1 j)) (hL : X.1 ≤ 3072) (hi : 0 ≤ i ∧ i + 6 ≤ X.1) (hI : INV b v) (hK : ∀ b1 v1, INV b1 v1 → WV X 13 329 2199 [some (.inr (.inr (some 100000))), some (.inr (.inr (some 0))), some (.inr (.inr (some 203))), some (.inl i)] [] b1 v1 Q) : WV X 13 329 811 [some (.inr (.inr (some 100000))), some (.inr (.inr (some 0))), some (.inr (.inr (some 203))), some (.inl i)] [] b v Q := by
  obtain ⟨z, b1, v1, w, hz, h1, h2, hI2⟩ := hS 17 (104, 266, 0) rfl (X.2.1 (i + 1).toNat) (X.2.1 (i + 2).toNat) (X.2.1 (i + 3).toNat) (X.2.1 (i + 4).toNat) (X.2.1 (i + 5).toNat) (hx _) (hx _) (hx _) (hx _) (hx _) b v hI
  refine r_ex 1 (pc' := 812) (lo' := [some (.inr (.inr (some 100000))), some (.inr (.inr (some 0))), some (.inr (.inr (some 203))), some (.inl i)]) (st' := [.inr (.inr (some 0))]) rfl ?_
  refine r_call (m := 104) (args := [.inr (.inr (some 0))]) (n' := 329) (pc' := 815) (lo' := [some (.inr (.inr (some 100000))), some (.inr (.inr (some 0))), some (.inr (.inr (some 203))), some (.inl i)]) (st' := []) (I := .invokevirtual 104) (pc0 := 812) (len := 3) rfl rfl rfl h1 ?_
  show WV _ _ _ 815 _ [.inl z] _ _ _
  refine r_ex 1 (pc' := 816) (lo' := [some (.inr (.inr (some 100000))), some (.inr (.inr (some 0))), some (.inr (.inr (some 203))), some (.inl i)]) (st' := [.inr (.inr (some 203)), .inl z]) rfl ?_
  refine r_call (m := 266) (args := [.inr (.inr (some 203))]) (n' := 329) (pc' := 819) (lo' := [some (.inr (.inr (some 100000))), some (.inr (.inr (some 0))), some (.inr (.inr (some 203))), some (.inl i)]) (st' := [.inl z]) (I := .invokevirtual 266) (pc0 := 816) (len := 3) rfl rfl rfl h2 ?_
  show WV _ _ _ 819 _ [.inl z, .inl z] _ _ _
  refine n_ic_eq (pc0 := 819) (len := 3) (t := 2199) rfl hz hz (fun _ => ?_) (fun hne => absurd rfl hne)
  exact hK b1 w hI2

set_option maxRecDepth 100000 in
theorem law_18 {INV : Nat → VS → Prop} {X : PX} {b : Nat} {v : VS} {i : Int} {Q : Option PV → Nat → VS → Prop} (hS : Steps INV X) (hx : ∀ j, R32 (X.2.1 j)) (hL : X.1 ≤ 3072) (hi : 0 ≤ i ∧ i + 6 ≤ X.1) (hI : INV b v) (hK : ∀ b1 v1, INV b1 v1 → WV X 13 329 2199 [some (.inr (.inr (some 100000))), some (.inr (.inr (some 0))), some (.inr (.inr (some 203))), some (.inl i)] [] b1 v1 Q) : WV X 13 329 824 [some (.inr (.inr (some 100000))), some (.inr (.inr (some 0))), some (.inr (.inr (some 203))), some (.inl i)] [] b v Q := by
  obtain ⟨z, b1, v1, w, hz, h1, h2, hI2⟩ := hS 18 (106, 267, 2) rfl (X.2.1 (i + 1).toNat) (X.2.1 (i + 2).toNat) (X.2.1 (i + 3).toNat) (X.2.1 (i + 4).toNat) (X.2.1 (i + 5).toNat) (hx _) (hx _) (hx _) (hx _) (hx _) b v hI
  refine r_ex 5 (pc' := 829) (lo' := [some (.inr (.inr (some 100000))), some (.inr (.inr (some 0))), some (.inr (.inr (some 203))), some (.inl i)]) (st' := [.inl (i + 1), .inr (.inr (some 100000)), .inr (.inr (some 0))]) rfl ?_
  refine n_sld (pc' := 830) (pc0 := 829) (len := 1) rfl ⟨by omega, by omega⟩ (by omega) rfl ?_
  refine r_ex 4 (pc' := 834) (lo' := [some (.inr (.inr (some 100000))), some (.inr (.inr (some 0))), some (.inr (.inr (some 203))), some (.inl i)]) (st' := [.inl (i + 2), .inr (.inr (some 100000)), .inl (X.2.1 (i + 1).toNat), .inr (.inr (some 0))]) rfl ?_
  refine n_sld (pc' := 835) (pc0 := 834) (len := 1) rfl ⟨by omega, by omega⟩ (by omega) rfl ?_
  refine r_call (m := 106) (args := [.inr (.inr (some 0)), .inl (X.2.1 (i + 1).toNat), .inl (X.2.1 (i + 2).toNat)]) (n' := 329) (pc' := 838) (lo' := [some (.inr (.inr (some 100000))), some (.inr (.inr (some 0))), some (.inr (.inr (some 203))), some (.inl i)]) (st' := []) (I := .invokevirtual 106) (pc0 := 835) (len := 3) rfl rfl rfl h1 ?_
  show WV _ _ _ 838 _ [.inl z] _ _ _
  refine r_ex 5 (pc' := 843) (lo' := [some (.inr (.inr (some 100000))), some (.inr (.inr (some 0))), some (.inr (.inr (some 203))), some (.inl i)]) (st' := [.inl (i + 1), .inr (.inr (some 100000)), .inr (.inr (some 203)), .inl z]) rfl ?_
  refine n_sld (pc' := 844) (pc0 := 843) (len := 1) rfl ⟨by omega, by omega⟩ (by omega) rfl ?_
  refine r_ex 4 (pc' := 848) (lo' := [some (.inr (.inr (some 100000))), some (.inr (.inr (some 0))), some (.inr (.inr (some 203))), some (.inl i)]) (st' := [.inl (i + 2), .inr (.inr (some 100000)), .inl (X.2.1 (i + 1).toNat), .inr (.inr (some 203)), .inl z]) rfl ?_
  refine n_sld (pc' := 849) (pc0 := 848) (len := 1) rfl ⟨by omega, by omega⟩ (by omega) rfl ?_
  refine r_call (m := 267) (args := [.inr (.inr (some 203)), .inl (X.2.1 (i + 1).toNat), .inl (X.2.1 (i + 2).toNat)]) (n' := 329) (pc' := 852) (lo' := [some (.inr (.inr (some 100000))), some (.inr (.inr (some 0))), some (.inr (.inr (some 203))), some (.inl i)]) (st' := [.inl z]) (I := .invokevirtual 267) (pc0 := 849) (len := 3) rfl rfl rfl h2 ?_
  show WV _ _ _ 852 _ [.inl z, .inl z] _ _ _
  refine n_ic_eq (pc0 := 852) (len := 3) (t := 2199) rfl hz hz (fun _ => ?_) (fun hne => absurd rfl hne)
  exact hK b1 w hI2

set_option maxRecDepth 100000 in
theorem law_19 {INV : Nat → VS → Prop} {X : PX} {b : Nat} {v : VS} {i : Int} {Q : Option PV → Nat → VS → Prop} (hS : Steps INV X) (hx : ∀ j, R32 (X.2.1 j)) (hL : X.1 ≤ 3072) (hi : 0 ≤ i ∧ i + 6 ≤ X.1) (hI : INV b v) (hK : ∀ b1 v1, INV b1 v1 → WV X 13 329 2199 [some (.inr (.inr (some 100000))), some (.inr (.inr (some 0))), some (.inr (.inr (some 203))), some (.inl i)] [] b1 v1 Q) : WV X 13 329 857 [some (.inr (.inr (some 100000))), some (.inr (.inr (some 0))), some (.inr (.inr (some 203))), some (.inl i)] [] b v Q := by
  obtain ⟨z, b1, v1, w, hz, h1, h2, hI2⟩ := hS 19 (108, 269, 2) rfl (X.2.1 (i + 1).toNat) (X.2.1 (i + 2).toNat) (X.2.1 (i + 3).toNat) (X.2.1 (i + 4).toNat) (X.2.1 (i + 5).toNat) (hx _) (hx _) (hx _) (hx _) (hx _) b v hI
  refine r_ex 5 (pc' := 862) (lo' := [some (.inr (.inr (some 100000))), some (.inr (.inr (some 0))), some (.inr (.inr (some 203))), some (.inl i)]) (st' := [.inl (i + 1), .inr (.inr (some 100000)), .inr (.inr (some 0))]) rfl ?_
  refine n_sld (pc' := 863) (pc0 := 862) (len := 1) rfl ⟨by omega, by omega⟩ (by omega) rfl ?_
  refine r_ex 4 (pc' := 867) (lo' := [some (.inr (.inr (some 100000))), some (.inr (.inr (some 0))), some (.inr (.inr (some 203))), some (.inl i)]) (st' := [.inl (i + 2), .inr (.inr (some 100000)), .inl (X.2.1 (i + 1).toNat), .inr (.inr (some 0))]) rfl ?_
  refine n_sld (pc' := 868) (pc0 := 867) (len := 1) rfl ⟨by omega, by omega⟩ (by omega) rfl ?_
  refine r_call (m := 108) (args := [.inr (.inr (some 0)), .inl (X.2.1 (i + 1).toNat), .inl (X.2.1 (i + 2).toNat)]) (n' := 329) (pc' := 871) (lo' := [some (.inr (.inr (some 100000))), some (.inr (.inr (some 0))), some (.inr (.inr (some 203))), some (.inl i)]) (st' := []) (I := .invokevirtual 108) (pc0 := 868) (len := 3) rfl rfl rfl h1 ?_
  show WV _ _ _ 871 _ [.inl z] _ _ _
  refine r_ex 5 (pc' := 876) (lo' := [some (.inr (.inr (some 100000))), some (.inr (.inr (some 0))), some (.inr (.inr (some 203))), some (.inl i)]) (st' := [.inl (i + 1), .inr (.inr (some 100000)), .inr (.inr (some 203)), .inl z]) rfl ?_
  refine n_sld (pc' := 877) (pc0 := 876) (len := 1) rfl ⟨by omega, by omega⟩ (by omega) rfl ?_
  refine r_ex 4 (pc' := 881) (lo' := [some (.inr (.inr (some 100000))), some (.inr (.inr (some 0))), some (.inr (.inr (some 203))), some (.inl i)]) (st' := [.inl (i + 2), .inr (.inr (some 100000)), .inl (X.2.1 (i + 1).toNat), .inr (.inr (some 203)), .inl z]) rfl ?_
  refine n_sld (pc' := 882) (pc0 := 881) (len := 1) rfl ⟨by omega, by omega⟩ (by omega) rfl ?_
  refine r_call (m := 269) (args := [.inr (.inr (some 203)), .inl (X.2.1 (i + 1).toNat), .inl (X.2.1 (i + 2).toNat)]) (n' := 329) (pc' := 885) (lo' := [some (.inr (.inr (some 100000))), some (.inr (.inr (some 0))), some (.inr (.inr (some 203))), some (.inl i)]) (st' := [.inl z]) (I := .invokevirtual 269) (pc0 := 882) (len := 3) rfl rfl rfl h2 ?_
  show WV _ _ _ 885 _ [.inl z, .inl z] _ _ _
  refine n_ic_eq (pc0 := 885) (len := 3) (t := 2199) rfl hz hz (fun _ => ?_) (fun hne => absurd rfl hne)
  exact hK b1 w hI2

set_option maxRecDepth 100000 in
theorem law_20 {INV : Nat → VS → Prop} {X : PX} {b : Nat} {v : VS} {i : Int} {Q : Option PV → Nat → VS → Prop} (hS : Steps INV X) (hx : ∀ j, R32 (X.2.1 j)) (hL : X.1 ≤ 3072) (hi : 0 ≤ i ∧ i + 6 ≤ X.1) (hI : INV b v) (hK : ∀ b1 v1, INV b1 v1 → WV X 13 329 2199 [some (.inr (.inr (some 100000))), some (.inr (.inr (some 0))), some (.inr (.inr (some 203))), some (.inl i)] [] b1 v1 Q) : WV X 13 329 890 [some (.inr (.inr (some 100000))), some (.inr (.inr (some 0))), some (.inr (.inr (some 203))), some (.inl i)] [] b v Q := by
  obtain ⟨z, b1, v1, w, hz, h1, h2, hI2⟩ := hS 20 (109, 270, 2) rfl (X.2.1 (i + 1).toNat) (X.2.1 (i + 2).toNat) (X.2.1 (i + 3).toNat) (X.2.1 (i + 4).toNat) (X.2.1 (i + 5).toNat) (hx _) (hx _) (hx _) (hx _) (hx _) b v hI
  refine r_ex 5 (pc' := 895) (lo' := [some (.inr (.inr (some 100000))), some (.inr (.inr (some 0))), some (.inr (.inr (some 203))), some (.inl i)]) (st' := [.inl (i + 1), .inr (.inr (some 100000)), .inr (.inr (some 0))]) rfl ?_
  refine n_sld (pc' := 896) (pc0 := 895) (len := 1) rfl ⟨by omega, by omega⟩ (by omega) rfl ?_
  refine r_ex 4 (pc' := 900) (lo' := [some (.inr (.inr (some 100000))), some (.inr (.inr (some 0))), some (.inr (.inr (some 203))), some (.inl i)]) (st' := [.inl (i + 2), .inr (.inr (some 100000)), .inl (X.2.1 (i + 1).toNat), .inr (.inr (some 0))]) rfl ?_
  refine n_sld (pc' := 901) (pc0 := 900) (len := 1) rfl ⟨by omega, by omega⟩ (by omega) rfl ?_
  refine r_call (m := 109) (args := [.inr (.inr (some 0)), .inl (X.2.1 (i + 1).toNat), .inl (X.2.1 (i + 2).toNat)]) (n' := 329) (pc' := 904) (lo' := [some (.inr (.inr (some 100000))), some (.inr (.inr (some 0))), some (.inr (.inr (some 203))), some (.inl i)]) (st' := []) (I := .invokevirtual 109) (pc0 := 901) (len := 3) rfl rfl rfl h1 ?_
  show WV _ _ _ 904 _ [.inl z] _ _ _
  refine r_ex 5 (pc' := 909) (lo' := [some (.inr (.inr (some 100000))), some (.inr (.inr (some 0))), some (.inr (.inr (some 203))), some (.inl i)]) (st' := [.inl (i + 1), .inr (.inr (some 100000)), .inr (.inr (some 203)), .inl z]) rfl ?_
  refine n_sld (pc' := 910) (pc0 := 909) (len := 1) rfl ⟨by omega, by omega⟩ (by omega) rfl ?_
  refine r_ex 4 (pc' := 914) (lo' := [some (.inr (.inr (some 100000))), some (.inr (.inr (some 0))), some (.inr (.inr (some 203))), some (.inl i)]) (st' := [.inl (i + 2), .inr (.inr (some 100000)), .inl (X.2.1 (i + 1).toNat), .inr (.inr (some 203)), .inl z]) rfl ?_
  refine n_sld (pc' := 915) (pc0 := 914) (len := 1) rfl ⟨by omega, by omega⟩ (by omega) rfl ?_
  refine r_call (m := 270) (args := [.inr (.inr (some 203)), .inl (X.2.1 (i + 1).toNat), .inl (X.2.1 (i + 2).toNat)]) (n' := 329) (pc' := 918) (lo' := [some (.inr (.inr (some 100000))), some (.inr (.inr (some 0))), some (.inr (.inr (some 203))), some (.inl i)]) (st' := [.inl z]) (I := .invokevirtual 270) (pc0 := 915) (len := 3) rfl rfl rfl h2 ?_
  show WV _ _ _ 918 _ [.inl z, .inl z] _ _ _
  refine n_ic_eq (pc0 := 918) (len := 3) (t := 2199) rfl hz hz (fun _ => ?_) (fun hne => absurd rfl hne)
  exact hK b1 w hI2

set_option maxRecDepth 100000 in
theorem law_21 {INV : Nat → VS → Prop} {X : PX} {b : Nat} {v : VS} {i : Int} {Q : Option PV → Nat → VS → Prop} (hS : Steps INV X) (hx : ∀ j, R32 (X.2.1 j)) (hL : X.1 ≤ 3072) (hi : 0 ≤ i ∧ i + 6 ≤ X.1) (hI : INV b v) (hK : ∀ b1 v1, INV b1 v1 → WV X 13 329 2199 [some (.inr (.inr (some 100000))), some (.inr (.inr (some 0))), some (.inr (.inr (some 203))), some (.inl i)] [] b1 v1 Q) : WV X 13 329 923 [some (.inr (.inr (some 100000))), some (.inr (.inr (some 0))), some (.inr (.inr (some 203))), some (.inl i)] [] b v Q := by
  obtain ⟨z, b1, v1, w, hz, h1, h2, hI2⟩ := hS 21 (118, 274, 2) rfl (X.2.1 (i + 1).toNat) (X.2.1 (i + 2).toNat) (X.2.1 (i + 3).toNat) (X.2.1 (i + 4).toNat) (X.2.1 (i + 5).toNat) (hx _) (hx _) (hx _) (hx _) (hx _) b v hI
  refine r_ex 5 (pc' := 928) (lo' := [some (.inr (.inr (some 100000))), some (.inr (.inr (some 0))), some (.inr (.inr (some 203))), some (.inl i)]) (st' := [.inl (i + 1), .inr (.inr (some 100000)), .inr (.inr (some 0))]) rfl ?_
  refine n_sld (pc' := 929) (pc0 := 928) (len := 1) rfl ⟨by omega, by omega⟩ (by omega) rfl ?_
  refine r_ex 4 (pc' := 933) (lo' := [some (.inr (.inr (some 100000))), some (.inr (.inr (some 0))), some (.inr (.inr (some 203))), some (.inl i)]) (st' := [.inl (i + 2), .inr (.inr (some 100000)), .inl (X.2.1 (i + 1).toNat), .inr (.inr (some 0))]) rfl ?_
  refine n_sld (pc' := 934) (pc0 := 933) (len := 1) rfl ⟨by omega, by omega⟩ (by omega) rfl ?_
  refine r_call (m := 118) (args := [.inr (.inr (some 0)), .inl (X.2.1 (i + 1).toNat), .inl (X.2.1 (i + 2).toNat)]) (n' := 329) (pc' := 937) (lo' := [some (.inr (.inr (some 100000))), some (.inr (.inr (some 0))), some (.inr (.inr (some 203))), some (.inl i)]) (st' := []) (I := .invokevirtual 118) (pc0 := 934) (len := 3) rfl rfl rfl h1 ?_
  show WV _ _ _ 937 _ [.inl z] _ _ _
  refine r_ex 5 (pc' := 942) (lo' := [some (.inr (.inr (some 100000))), some (.inr (.inr (some 0))), some (.inr (.inr (some 203))), some (.inl i)]) (st' := [.inl (i + 1), .inr (.inr (some 100000)), .inr (.inr (some 203)), .inl z]) rfl ?_
  refine n_sld (pc' := 943) (pc0 := 942) (len := 1) rfl ⟨by omega, by omega⟩ (by omega) rfl ?_
  refine r_ex 4 (pc' := 947) (lo' := [some (.inr (.inr (some 100000))), some (.inr (.inr (some 0))), some (.inr (.inr (some 203))), some (.inl i)]) (st' := [.inl (i + 2), .inr (.inr (some 100000)), .inl (X.2.1 (i + 1).toNat), .inr (.inr (some 203)), .inl z]) rfl ?_
  refine n_sld (pc' := 948) (pc0 := 947) (len := 1) rfl ⟨by omega, by omega⟩ (by omega) rfl ?_
  refine r_call (m := 274) (args := [.inr (.inr (some 203)), .inl (X.2.1 (i + 1).toNat), .inl (X.2.1 (i + 2).toNat)]) (n' := 329) (pc' := 951) (lo' := [some (.inr (.inr (some 100000))), some (.inr (.inr (some 0))), some (.inr (.inr (some 203))), some (.inl i)]) (st' := [.inl z]) (I := .invokevirtual 274) (pc0 := 948) (len := 3) rfl rfl rfl h2 ?_
  show WV _ _ _ 951 _ [.inl z, .inl z] _ _ _
  refine n_ic_eq (pc0 := 951) (len := 3) (t := 2199) rfl hz hz (fun _ => ?_) (fun hne => absurd rfl hne)
  exact hK b1 w hI2

set_option maxRecDepth 100000 in
theorem law_22 {INV : Nat → VS → Prop} {X : PX} {b : Nat} {v : VS} {i : Int} {Q : Option PV → Nat → VS → Prop} (hS : Steps INV X) (hx : ∀ j, R32 (X.2.1 j)) (hL : X.1 ≤ 3072) (hi : 0 ≤ i ∧ i + 6 ≤ X.1) (hI : INV b v) (hK : ∀ b1 v1, INV b1 v1 → WV X 13 329 2199 [some (.inr (.inr (some 100000))), some (.inr (.inr (some 0))), some (.inr (.inr (some 203))), some (.inl i)] [] b1 v1 Q) : WV X 13 329 956 [some (.inr (.inr (some 100000))), some (.inr (.inr (some 0))), some (.inr (.inr (some 203))), some (.inl i)] [] b v Q := by
  obtain ⟨z, b1, v1, w, hz, h1, h2, hI2⟩ := hS 22 (122, 275, 1) rfl (X.2.1 (i + 1).toNat) (X.2.1 (i + 2).toNat) (X.2.1 (i + 3).toNat) (X.2.1 (i + 4).toNat) (X.2.1 (i + 5).toNat) (hx _) (hx _) (hx _) (hx _) (hx _) b v hI
  refine r_ex 5 (pc' := 961) (lo' := [some (.inr (.inr (some 100000))), some (.inr (.inr (some 0))), some (.inr (.inr (some 203))), some (.inl i)]) (st' := [.inl (i + 1), .inr (.inr (some 100000)), .inr (.inr (some 0))]) rfl ?_
  refine n_sld (pc' := 962) (pc0 := 961) (len := 1) rfl ⟨by omega, by omega⟩ (by omega) rfl ?_
  refine r_call (m := 122) (args := [.inr (.inr (some 0)), .inl (X.2.1 (i + 1).toNat)]) (n' := 329) (pc' := 965) (lo' := [some (.inr (.inr (some 100000))), some (.inr (.inr (some 0))), some (.inr (.inr (some 203))), some (.inl i)]) (st' := []) (I := .invokevirtual 122) (pc0 := 962) (len := 3) rfl rfl rfl h1 ?_
  show WV _ _ _ 965 _ [.inl z] _ _ _
  refine r_ex 5 (pc' := 970) (lo' := [some (.inr (.inr (some 100000))), some (.inr (.inr (some 0))), some (.inr (.inr (some 203))), some (.inl i)]) (st' := [.inl (i + 1), .inr (.inr (some 100000)), .inr (.inr (some 203)), .inl z]) rfl ?_
  refine n_sld (pc' := 971) (pc0 := 970) (len := 1) rfl ⟨by omega, by omega⟩ (by omega) rfl ?_
  refine r_call (m := 275) (args := [.inr (.inr (some 203)), .inl (X.2.1 (i + 1).toNat)]) (n' := 329) (pc' := 974) (lo' := [some (.inr (.inr (some 100000))), some (.inr (.inr (some 0))), some (.inr (.inr (some 203))), some (.inl i)]) (st' := [.inl z]) (I := .invokevirtual 275) (pc0 := 971) (len := 3) rfl rfl rfl h2 ?_
  show WV _ _ _ 974 _ [.inl z, .inl z] _ _ _
  refine n_ic_eq (pc0 := 974) (len := 3) (t := 2199) rfl hz hz (fun _ => ?_) (fun hne => absurd rfl hne)
  exact hK b1 w hI2

set_option maxRecDepth 100000 in
theorem law_23 {INV : Nat → VS → Prop} {X : PX} {b : Nat} {v : VS} {i : Int} {Q : Option PV → Nat → VS → Prop} (hS : Steps INV X) (hx : ∀ j, R32 (X.2.1 j)) (hL : X.1 ≤ 3072) (hi : 0 ≤ i ∧ i + 6 ≤ X.1) (hI : INV b v) (hK : ∀ b1 v1, INV b1 v1 → WV X 13 329 2199 [some (.inr (.inr (some 100000))), some (.inr (.inr (some 0))), some (.inr (.inr (some 203))), some (.inl i)] [] b1 v1 Q) : WV X 13 329 979 [some (.inr (.inr (some 100000))), some (.inr (.inr (some 0))), some (.inr (.inr (some 203))), some (.inl i)] [] b v Q := by
  obtain ⟨z, b1, v1, w, hz, h1, h2, hI2⟩ := hS 23 (124, 276, 1) rfl (X.2.1 (i + 1).toNat) (X.2.1 (i + 2).toNat) (X.2.1 (i + 3).toNat) (X.2.1 (i + 4).toNat) (X.2.1 (i + 5).toNat) (hx _) (hx _) (hx _) (hx _) (hx _) b v hI
  refine r_ex 5 (pc' := 984) (lo' := [some (.inr (.inr (some 100000))), some (.inr (.inr (some 0))), some (.inr (.inr (some 203))), some (.inl i)]) (st' := [.inl (i + 1), .inr (.inr (some 100000)), .inr (.inr (some 0))]) rfl ?_
  refine n_sld (pc' := 985) (pc0 := 984) (len := 1) rfl ⟨by omega, by omega⟩ (by omega) rfl ?_
  refine r_call (m := 124) (args := [.inr (.inr (some 0)), .inl (X.2.1 (i + 1).toNat)]) (n' := 329) (pc' := 988) (lo' := [some (.inr (.inr (some 100000))), some (.inr (.inr (some 0))), some (.inr (.inr (some 203))), some (.inl i)]) (st' := []) (I := .invokevirtual 124) (pc0 := 985) (len := 3) rfl rfl rfl h1 ?_
  show WV _ _ _ 988 _ [.inl z] _ _ _
  refine r_ex 5 (pc' := 993) (lo' := [some (.inr (.inr (some 100000))), some (.inr (.inr (some 0))), some (.inr (.inr (some 203))), some (.inl i)]) (st' := [.inl (i + 1), .inr (.inr (some 100000)), .inr (.inr (some 203)), .inl z]) rfl ?_
  refine n_sld (pc' := 994) (pc0 := 993) (len := 1) rfl ⟨by omega, by omega⟩ (by omega) rfl ?_
  refine r_call (m := 276) (args := [.inr (.inr (some 203)), .inl (X.2.1 (i + 1).toNat)]) (n' := 329) (pc' := 997) (lo' := [some (.inr (.inr (some 100000))), some (.inr (.inr (some 0))), some (.inr (.inr (some 203))), some (.inl i)]) (st' := [.inl z]) (I := .invokevirtual 276) (pc0 := 994) (len := 3) rfl rfl rfl h2 ?_
  show WV _ _ _ 997 _ [.inl z, .inl z] _ _ _
  refine n_ic_eq (pc0 := 997) (len := 3) (t := 2199) rfl hz hz (fun _ => ?_) (fun hne => absurd rfl hne)
  exact hK b1 w hI2

set_option maxRecDepth 100000 in
theorem law_24 {INV : Nat → VS → Prop} {X : PX} {b : Nat} {v : VS} {i : Int} {Q : Option PV → Nat → VS → Prop} (hS : Steps INV X) (hx : ∀ j, R32 (X.2.1 j)) (hL : X.1 ≤ 3072) (hi : 0 ≤ i ∧ i + 6 ≤ X.1) (hI : INV b v) (hK : ∀ b1 v1, INV b1 v1 → WV X 13 329 2199 [some (.inr (.inr (some 100000))), some (.inr (.inr (some 0))), some (.inr (.inr (some 203))), some (.inl i)] [] b1 v1 Q) : WV X 13 329 1002 [some (.inr (.inr (some 100000))), some (.inr (.inr (some 0))), some (.inr (.inr (some 203))), some (.inl i)] [] b v Q := by
  obtain ⟨z, b1, v1, w, hz, h1, h2, hI2⟩ := hS 24 (125, 277, 3) rfl (X.2.1 (i + 1).toNat) (X.2.1 (i + 2).toNat) (X.2.1 (i + 3).toNat) (X.2.1 (i + 4).toNat) (X.2.1 (i + 5).toNat) (hx _) (hx _) (hx _) (hx _) (hx _) b v hI
  refine r_ex 5 (pc' := 1007) (lo' := [some (.inr (.inr (some 100000))), some (.inr (.inr (some 0))), some (.inr (.inr (some 203))), some (.inl i)]) (st' := [.inl (i + 1), .inr (.inr (some 100000)), .inr (.inr (some 0))]) rfl ?_
  refine n_sld (pc' := 1008) (pc0 := 1007) (len := 1) rfl ⟨by omega, by omega⟩ (by omega) rfl ?_
  refine r_ex 4 (pc' := 1012) (lo' := [some (.inr (.inr (some 100000))), some (.inr (.inr (some 0))), some (.inr (.inr (some 203))), some (.inl i)]) (st' := [.inl (i + 2), .inr (.inr (some 100000)), .inl (X.2.1 (i + 1).toNat), .inr (.inr (some 0))]) rfl ?_
  refine n_sld (pc' := 1013) (pc0 := 1012) (len := 1) rfl ⟨by omega, by omega⟩ (by omega) rfl ?_
  refine r_ex 4 (pc' := 1017) (lo' := [some (.inr (.inr (some 100000))), some (.inr (.inr (some 0))), some (.inr (.inr (some 203))), some (.inl i)]) (st' := [.inl (i + 3), .inr (.inr (some 100000)), .inl (X.2.1 (i + 2).toNat), .inl (X.2.1 (i + 1).toNat), .inr (.inr (some 0))]) rfl ?_
  refine n_sld (pc' := 1018) (pc0 := 1017) (len := 1) rfl ⟨by omega, by omega⟩ (by omega) rfl ?_
  refine r_call (m := 125) (args := [.inr (.inr (some 0)), .inl (X.2.1 (i + 1).toNat), .inl (X.2.1 (i + 2).toNat), .inl (X.2.1 (i + 3).toNat)]) (n' := 329) (pc' := 1021) (lo' := [some (.inr (.inr (some 100000))), some (.inr (.inr (some 0))), some (.inr (.inr (some 203))), some (.inl i)]) (st' := []) (I := .invokevirtual 125) (pc0 := 1018) (len := 3) rfl rfl rfl h1 ?_
  show WV _ _ _ 1021 _ [.inl z] _ _ _
  refine r_ex 5 (pc' := 1026) (lo' := [some (.inr (.inr (some 100000))), some (.inr (.inr (some 0))), some (.inr (.inr (some 203))), some (.inl i)]) (st' := [.inl (i + 1), .inr (.inr (some 100000)), .inr (.inr (some 203)), .inl z]) rfl ?_
  refine n_sld (pc' := 1027) (pc0 := 1026) (len := 1) rfl ⟨by omega, by omega⟩ (by omega) rfl ?_
  refine r_ex 4 (pc' := 1031) (lo' := [some (.inr (.inr (some 100000))), some (.inr (.inr (some 0))), some (.inr (.inr (some 203))), some (.inl i)]) (st' := [.inl (i + 2), .inr (.inr (some 100000)), .inl (X.2.1 (i + 1).toNat), .inr (.inr (some 203)), .inl z]) rfl ?_
  refine n_sld (pc' := 1032) (pc0 := 1031) (len := 1) rfl ⟨by omega, by omega⟩ (by omega) rfl ?_
  refine r_ex 4 (pc' := 1036) (lo' := [some (.inr (.inr (some 100000))), some (.inr (.inr (some 0))), some (.inr (.inr (some 203))), some (.inl i)]) (st' := [.inl (i + 3), .inr (.inr (some 100000)), .inl (X.2.1 (i + 2).toNat), .inl (X.2.1 (i + 1).toNat), .inr (.inr (some 203)), .inl z]) rfl ?_
  refine n_sld (pc' := 1037) (pc0 := 1036) (len := 1) rfl ⟨by omega, by omega⟩ (by omega) rfl ?_
  refine r_call (m := 277) (args := [.inr (.inr (some 203)), .inl (X.2.1 (i + 1).toNat), .inl (X.2.1 (i + 2).toNat), .inl (X.2.1 (i + 3).toNat)]) (n' := 329) (pc' := 1040) (lo' := [some (.inr (.inr (some 100000))), some (.inr (.inr (some 0))), some (.inr (.inr (some 203))), some (.inl i)]) (st' := [.inl z]) (I := .invokevirtual 277) (pc0 := 1037) (len := 3) rfl rfl rfl h2 ?_
  show WV _ _ _ 1040 _ [.inl z, .inl z] _ _ _
  refine n_ic_eq (pc0 := 1040) (len := 3) (t := 2199) rfl hz hz (fun _ => ?_) (fun hne => absurd rfl hne)
  exact hK b1 w hI2

set_option maxRecDepth 100000 in
theorem law_25 {INV : Nat → VS → Prop} {X : PX} {b : Nat} {v : VS} {i : Int} {Q : Option PV → Nat → VS → Prop} (hS : Steps INV X) (hx : ∀ j, R32 (X.2.1 j)) (hL : X.1 ≤ 3072) (hi : 0 ≤ i ∧ i + 6 ≤ X.1) (hI : INV b v) (hK : ∀ b1 v1, INV b1 v1 → WV X 13 329 2199 [some (.inr (.inr (some 100000))), some (.inr (.inr (some 0))), some (.inr (.inr (some 203))), some (.inl i)] [] b1 v1 Q) : WV X 13 329 1045 [some (.inr (.inr (some 100000))), some (.inr (.inr (some 0))), some (.inr (.inr (some 203))), some (.inl i)] [] b v Q := by
  obtain ⟨z, b1, v1, w, hz, h1, h2, hI2⟩ := hS 25 (127, 279, 2) rfl (X.2.1 (i + 1).toNat) (X.2.1 (i + 2).toNat) (X.2.1 (i + 3).toNat) (X.2.1 (i + 4).toNat) (X.2.1 (i + 5).toNat) (hx _) (hx _) (hx _) (hx _) (hx _) b v hI
  refine r_ex 5 (pc' := 1050) (lo' := [some (.inr (.inr (some 100000))), some (.inr (.inr (some 0))), some (.inr (.inr (some 203))), some (.inl i)]) (st' := [.inl (i + 1), .inr (.inr (some 100000)), .inr (.inr (some 0))]) rfl ?_
  refine n_sld (pc' := 1051) (pc0 := 1050) (len := 1) rfl ⟨by omega, by omega⟩ (by omega) rfl ?_
  refine r_ex 4 (pc' := 1055) (lo' := [some (.inr (.inr (some 100000))), some (.inr (.inr (some 0))), some (.inr (.inr (some 203))), some (.inl i)]) (st' := [.inl (i + 2), .inr (.inr (some 100000)), .inl (X.2.1 (i + 1).toNat), .inr (.inr (some 0))]) rfl ?_
  refine n_sld (pc' := 1056) (pc0 := 1055) (len := 1) rfl ⟨by omega, by omega⟩ (by omega) rfl ?_
  refine r_call (m := 127) (args := [.inr (.inr (some 0)), .inl (X.2.1 (i + 1).toNat), .inl (X.2.1 (i + 2).toNat)]) (n' := 329) (pc' := 1059) (lo' := [some (.inr (.inr (some 100000))), some (.inr (.inr (some 0))), some (.inr (.inr (some 203))), some (.inl i)]) (st' := []) (I := .invokevirtual 127) (pc0 := 1056) (len := 3) rfl rfl rfl h1 ?_
  show WV _ _ _ 1059 _ [.inl z] _ _ _
  refine r_ex 5 (pc' := 1064) (lo' := [some (.inr (.inr (some 100000))), some (.inr (.inr (some 0))), some (.inr (.inr (some 203))), some (.inl i)]) (st' := [.inl (i + 1), .inr (.inr (some 100000)), .inr (.inr (some 203)), .inl z]) rfl ?_
  refine n_sld (pc' := 1065) (pc0 := 1064) (len := 1) rfl ⟨by omega, by omega⟩ (by omega) rfl ?_
  refine r_ex 4 (pc' := 1069) (lo' := [some (.inr (.inr (some 100000))), some (.inr (.inr (some 0))), some (.inr (.inr (some 203))), some (.inl i)]) (st' := [.inl (i + 2), .inr (.inr (some 100000)), .inl (X.2.1 (i + 1).toNat), .inr (.inr (some 203)), .inl z]) rfl ?_
  refine n_sld (pc' := 1070) (pc0 := 1069) (len := 1) rfl ⟨by omega, by omega⟩ (by omega) rfl ?_
  refine r_call (m := 279) (args := [.inr (.inr (some 203)), .inl (X.2.1 (i + 1).toNat), .inl (X.2.1 (i + 2).toNat)]) (n' := 329) (pc' := 1073) (lo' := [some (.inr (.inr (some 100000))), some (.inr (.inr (some 0))), some (.inr (.inr (some 203))), some (.inl i)]) (st' := [.inl z]) (I := .invokevirtual 279) (pc0 := 1070) (len := 3) rfl rfl rfl h2 ?_
  show WV _ _ _ 1073 _ [.inl z, .inl z] _ _ _
  refine n_ic_eq (pc0 := 1073) (len := 3) (t := 2199) rfl hz hz (fun _ => ?_) (fun hne => absurd rfl hne)
  exact hK b1 w hI2

set_option maxRecDepth 100000 in
theorem law_26 {INV : Nat → VS → Prop} {X : PX} {b : Nat} {v : VS} {i : Int} {Q : Option PV → Nat → VS → Prop} (hS : Steps INV X) (hx : ∀ j, R32 (X.2.1 j)) (hL : X.1 ≤ 3072) (hi : 0 ≤ i ∧ i + 6 ≤ X.1) (hI : INV b v) (hK : ∀ b1 v1, INV b1 v1 → WV X 13 329 2199 [some (.inr (.inr (some 100000))), some (.inr (.inr (some 0))), some (.inr (.inr (some 203))), some (.inl i)] [] b1 v1 Q) : WV X 13 329 1078 [some (.inr (.inr (some 100000))), some (.inr (.inr (some 0))), some (.inr (.inr (some 203))), some (.inl i)] [] b v Q := by
  obtain ⟨z, b1, v1, w, hz, h1, h2, hI2⟩ := hS 26 (128, 280, 1) rfl (X.2.1 (i + 1).toNat) (X.2.1 (i + 2).toNat) (X.2.1 (i + 3).toNat) (X.2.1 (i + 4).toNat) (X.2.1 (i + 5).toNat) (hx _) (hx _) (hx _) (hx _) (hx _) b v hI
  refine r_ex 5 (pc' := 1083) (lo' := [some (.inr (.inr (some 100000))), some (.inr (.inr (some 0))), some (.inr (.inr (some 203))), some (.inl i)]) (st' := [.inl (i + 1), .inr (.inr (some 100000)), .inr (.inr (some 0))]) rfl ?_
  refine n_sld (pc' := 1084) (pc0 := 1083) (len := 1) rfl ⟨by omega, by omega⟩ (by omega) rfl ?_
  refine r_call (m := 128) (args := [.inr (.inr (some 0)), .inl (X.2.1 (i + 1).toNat)]) (n' := 329) (pc' := 1087) (lo' := [some (.inr (.inr (some 100000))), some (.inr (.inr (some 0))), some (.inr (.inr (some 203))), some (.inl i)]) (st' := []) (I := .invokevirtual 128) (pc0 := 1084) (len := 3) rfl rfl rfl h1 ?_
  show WV _ _ _ 1087 _ [.inl z] _ _ _
  refine r_ex 5 (pc' := 1092) (lo' := [some (.inr (.inr (some 100000))), some (.inr (.inr (some 0))), some (.inr (.inr (some 203))), some (.inl i)]) (st' := [.inl (i + 1), .inr (.inr (some 100000)), .inr (.inr (some 203)), .inl z]) rfl ?_
  refine n_sld (pc' := 1093) (pc0 := 1092) (len := 1) rfl ⟨by omega, by omega⟩ (by omega) rfl ?_
  refine r_call (m := 280) (args := [.inr (.inr (some 203)), .inl (X.2.1 (i + 1).toNat)]) (n' := 329) (pc' := 1096) (lo' := [some (.inr (.inr (some 100000))), some (.inr (.inr (some 0))), some (.inr (.inr (some 203))), some (.inl i)]) (st' := [.inl z]) (I := .invokevirtual 280) (pc0 := 1093) (len := 3) rfl rfl rfl h2 ?_
  show WV _ _ _ 1096 _ [.inl z, .inl z] _ _ _
  refine n_ic_eq (pc0 := 1096) (len := 3) (t := 2199) rfl hz hz (fun _ => ?_) (fun hne => absurd rfl hne)
  exact hK b1 w hI2

set_option maxRecDepth 100000 in
theorem law_27 {INV : Nat → VS → Prop} {X : PX} {b : Nat} {v : VS} {i : Int} {Q : Option PV → Nat → VS → Prop} (hS : Steps INV X) (hx : ∀ j, R32 (X.2.1 j)) (hL : X.1 ≤ 3072) (hi : 0 ≤ i ∧ i + 6 ≤ X.1) (hI : INV b v) (hK : ∀ b1 v1, INV b1 v1 → WV X 13 329 2199 [some (.inr (.inr (some 100000))), some (.inr (.inr (some 0))), some (.inr (.inr (some 203))), some (.inl i)] [] b1 v1 Q) : WV X 13 329 1101 [some (.inr (.inr (some 100000))), some (.inr (.inr (some 0))), some (.inr (.inr (some 203))), some (.inl i)] [] b v Q := by
  obtain ⟨z, b1, v1, w, hz, h1, h2, hI2⟩ := hS 27 (132, 283, 2) rfl (X.2.1 (i + 1).toNat) (X.2.1 (i + 2).toNat) (X.2.1 (i + 3).toNat) (X.2.1 (i + 4).toNat) (X.2.1 (i + 5).toNat) (hx _) (hx _) (hx _) (hx _) (hx _) b v hI
  refine r_ex 5 (pc' := 1106) (lo' := [some (.inr (.inr (some 100000))), some (.inr (.inr (some 0))), some (.inr (.inr (some 203))), some (.inl i)]) (st' := [.inl (i + 1), .inr (.inr (some 100000)), .inr (.inr (some 0))]) rfl ?_
  refine n_sld (pc' := 1107) (pc0 := 1106) (len := 1) rfl ⟨by omega, by omega⟩ (by omega) rfl ?_
  refine r_ex 4 (pc' := 1111) (lo' := [some (.inr (.inr (some 100000))), some (.inr (.inr (some 0))), some (.inr (.inr (some 203))), some (.inl i)]) (st' := [.inl (i + 2), .inr (.inr (some 100000)), .inl (X.2.1 (i + 1).toNat), .inr (.inr (some 0))]) rfl ?_
  refine n_sld (pc' := 1112) (pc0 := 1111) (len := 1) rfl ⟨by omega, by omega⟩ (by omega) rfl ?_
  refine r_call (m := 132) (args := [.inr (.inr (some 0)), .inl (X.2.1 (i + 1).toNat), .inl (X.2.1 (i + 2).toNat)]) (n' := 329) (pc' := 1115) (lo' := [some (.inr (.inr (some 100000))), some (.inr (.inr (some 0))), some (.inr (.inr (some 203))), some (.inl i)]) (st' := []) (I := .invokevirtual 132) (pc0 := 1112) (len := 3) rfl rfl rfl h1 ?_
  show WV _ _ _ 1115 _ [.inl z] _ _ _
  refine r_ex 5 (pc' := 1120) (lo' := [some (.inr (.inr (some 100000))), some (.inr (.inr (some 0))), some (.inr (.inr (some 203))), some (.inl i)]) (st' := [.inl (i + 1), .inr (.inr (some 100000)), .inr (.inr (some 203)), .inl z]) rfl ?_
  refine n_sld (pc' := 1121) (pc0 := 1120) (len := 1) rfl ⟨by omega, by omega⟩ (by omega) rfl ?_
  refine r_ex 4 (pc' := 1125) (lo' := [some (.inr (.inr (some 100000))), some (.inr (.inr (some 0))), some (.inr (.inr (some 203))), some (.inl i)]) (st' := [.inl (i + 2), .inr (.inr (some 100000)), .inl (X.2.1 (i + 1).toNat), .inr (.inr (some 203)), .inl z]) rfl ?_
  refine n_sld (pc' := 1126) (pc0 := 1125) (len := 1) rfl ⟨by omega, by omega⟩ (by omega) rfl ?_
  refine r_call (m := 283) (args := [.inr (.inr (some 203)), .inl (X.2.1 (i + 1).toNat), .inl (X.2.1 (i + 2).toNat)]) (n' := 329) (pc' := 1129) (lo' := [some (.inr (.inr (some 100000))), some (.inr (.inr (some 0))), some (.inr (.inr (some 203))), some (.inl i)]) (st' := [.inl z]) (I := .invokevirtual 283) (pc0 := 1126) (len := 3) rfl rfl rfl h2 ?_
  show WV _ _ _ 1129 _ [.inl z, .inl z] _ _ _
  refine n_ic_eq (pc0 := 1129) (len := 3) (t := 2199) rfl hz hz (fun _ => ?_) (fun hne => absurd rfl hne)
  exact hK b1 w hI2

set_option maxRecDepth 100000 in
theorem law_28 {INV : Nat → VS → Prop} {X : PX} {b : Nat} {v : VS} {i : Int} {Q : Option PV → Nat → VS → Prop} (hS : Steps INV X) (hx : ∀ j, R32 (X.2.1 j)) (hL : X.1 ≤ 3072) (hi : 0 ≤ i ∧ i + 6 ≤ X.1) (hI : INV b v) (hK : ∀ b1 v1, INV b1 v1 → WV X 13 329 2199 [some (.inr (.inr (some 100000))), some (.inr (.inr (some 0))), some (.inr (.inr (some 203))), some (.inl i)] [] b1 v1 Q) : WV X 13 329 1134 [some (.inr (.inr (some 100000))), some (.inr (.inr (some 0))), some (.inr (.inr (some 203))), some (.inl i)] [] b v Q := by
  obtain ⟨z, b1, v1, w, hz, h1, h2, hI2⟩ := hS 28 (133, 284, 1) rfl (X.2.1 (i + 1).toNat) (X.2.1 (i + 2).toNat) (X.2.1 (i + 3).toNat) (X.2.1 (i + 4).toNat) (X.2.1 (i + 5).toNat) (hx _) (hx _) (hx _) (hx _) (hx _) b v hI
  refine r_ex 5 (pc' := 1139) (lo' := [some (.inr (.inr (some 100000))), some (.inr (.inr (some 0))), some (.inr (.inr (some 203))), some (.inl i)]) (st' := [.inl (i + 1), .inr (.inr (some 100000)), .inr (.inr (some 0))]) rfl ?_
  refine n_sld (pc' := 1140) (pc0 := 1139) (len := 1) rfl ⟨by omega, by omega⟩ (by omega) rfl ?_
  refine r_call (m := 133) (args := [.inr (.inr (some 0)), .inl (X.2.1 (i + 1).toNat)]) (n' := 329) (pc' := 1143) (lo' := [some (.inr (.inr (some 100000))), some (.inr (.inr (some 0))), some (.inr (.inr (some 203))), some (.inl i)]) (st' := []) (I := .invokevirtual 133) (pc0 := 1140) (len := 3) rfl rfl rfl h1 ?_
  show WV _ _ _ 1143 _ [.inl z] _ _ _
  refine r_ex 5 (pc' := 1148) (lo' := [some (.inr (.inr (some 100000))), some (.inr (.inr (some 0))), some (.inr (.inr (some 203))), some (.inl i)]) (st' := [.inl (i + 1), .inr (.inr (some 100000)), .inr (.inr (some 203)), .inl z]) rfl ?_
  refine n_sld (pc' := 1149) (pc0 := 1148) (len := 1) rfl ⟨by omega, by omega⟩ (by omega) rfl ?_
  refine r_call (m := 284) (args := [.inr (.inr (some 203)), .inl (X.2.1 (i + 1).toNat)]) (n' := 329) (pc' := 1152) (lo' := [some (.inr (.inr (some 100000))), some (.inr (.inr (some 0))), some (.inr (.inr (some 203))), some (.inl i)]) (st' := [.inl z]) (I := .invokevirtual 284) (pc0 := 1149) (len := 3) rfl rfl rfl h2 ?_
  show WV _ _ _ 1152 _ [.inl z, .inl z] _ _ _
  refine n_ic_eq (pc0 := 1152) (len := 3) (t := 2199) rfl hz hz (fun _ => ?_) (fun hne => absurd rfl hne)
  exact hK b1 w hI2

set_option maxRecDepth 100000 in
theorem law_29 {INV : Nat → VS → Prop} {X : PX} {b : Nat} {v : VS} {i : Int} {Q : Option PV → Nat → VS → Prop} (hS : Steps INV X) (hx : ∀ j, R32 (X.2.1 j)) (hL : X.1 ≤ 3072) (hi : 0 ≤ i ∧ i + 6 ≤ X.1) (hI : INV b v) (hK : ∀ b1 v1, INV b1 v1 → WV X 13 329 2199 [some (.inr (.inr (some 100000))), some (.inr (.inr (some 0))), some (.inr (.inr (some 203))), some (.inl i)] [] b1 v1 Q) : WV X 13 329 1157 [some (.inr (.inr (some 100000))), some (.inr (.inr (some 0))), some (.inr (.inr (some 203))), some (.inl i)] [] b v Q := by
  obtain ⟨z, b1, v1, w, hz, h1, h2, hI2⟩ := hS 29 (135, 286, 1) rfl (X.2.1 (i + 1).toNat) (X.2.1 (i + 2).toNat) (X.2.1 (i + 3).toNat) (X.2.1 (i + 4).toNat) (X.2.1 (i + 5).toNat) (hx _) (hx _) (hx _) (hx _) (hx _) b v hI
  refine r_ex 5 (pc' := 1162) (lo' := [some (.inr (.inr (some 100000))), some (.inr (.inr (some 0))), some (.inr (.inr (some 203))), some (.inl i)]) (st' := [.inl (i + 1), .inr (.inr (some 100000)), .inr (.inr (some 0))]) rfl ?_
  refine n_sld (pc' := 1163) (pc0 := 1162) (len := 1) rfl ⟨by omega, by omega⟩ (by omega) rfl ?_
  refine r_call (m := 135) (args := [.inr (.inr (some 0)), .inl (X.2.1 (i + 1).toNat)]) (n' := 329) (pc' := 1166) (lo' := [some (.inr (.inr (some 100000))), some (.inr (.inr (some 0))), some (.inr (.inr (some 203))), some (.inl i)]) (st' := []) (I := .invokevirtual 135) (pc0 := 1163) (len := 3) rfl rfl rfl h1 ?_
  show WV _ _ _ 1166 _ [.inl z] _ _ _
  refine r_ex 5 (pc' := 1171) (lo' := [some (.inr (.inr (some 100000))), some (.inr (.inr (some 0))), some (.inr (.inr (some 203))), some (.inl i)]) (st' := [.inl (i + 1), .inr (.inr (some 100000)), .inr (.inr (some 203)), .inl z]) rfl ?_
  refine n_sld (pc' := 1172) (pc0 := 1171) (len := 1) rfl ⟨by omega, by omega⟩ (by omega) rfl ?_
  refine r_call (m := 286) (args := [.inr (.inr (some 203)), .inl (X.2.1 (i + 1).toNat)]) (n' := 329) (pc' := 1175) (lo' := [some (.inr (.inr (some 100000))), some (.inr (.inr (some 0))), some (.inr (.inr (some 203))), some (.inl i)]) (st' := [.inl z]) (I := .invokevirtual 286) (pc0 := 1172) (len := 3) rfl rfl rfl h2 ?_
  show WV _ _ _ 1175 _ [.inl z, .inl z] _ _ _
  refine n_ic_eq (pc0 := 1175) (len := 3) (t := 2199) rfl hz hz (fun _ => ?_) (fun hne => absurd rfl hne)
  exact hK b1 w hI2

set_option maxRecDepth 100000 in
theorem law_30 {INV : Nat → VS → Prop} {X : PX} {b : Nat} {v : VS} {i : Int} {Q : Option PV → Nat → VS → Prop} (hS : Steps INV X) (hx : ∀ j, R32 (X.2.1 j)) (hL : X.1 ≤ 3072) (hi : 0 ≤ i ∧ i + 6 ≤ X.1) (hI : INV b v) (hK : ∀ b1 v1, INV b1 v1 → WV X 13 329 2199 [some (.inr (.inr (some 100000))), some (.inr (.inr (some 0))), some (.inr (.inr (some 203))), some (.inl i)] [] b1 v1 Q) : WV X 13 329 1180 [some (.inr (.inr (some 100000))), some (.inr (.inr (some 0))), some (.inr (.inr (some 203))), some (.inl i)] [] b v Q := by
  obtain ⟨z, b1, v1, w, hz, h1, h2, hI2⟩ := hS 30 (137, 287, 1) rfl (X.2.1 (i + 1).toNat) (X.2.1 (i + 2).toNat) (X.2.1 (i + 3).toNat) (X.2.1 (i + 4).toNat) (X.2.1 (i + 5).toNat) (hx _) (hx _) (hx _) (hx _) (hx _) b v hI
  refine r_ex 5 (pc' := 1185) (lo' := [some (.inr (.inr (some 100000))), some (.inr (.inr (some 0))), some (.inr (.inr (some 203))), some (.inl i)]) (st' := [.inl (i + 1), .inr (.inr (some 100000)), .inr (.inr (some 0))]) rfl ?_
  refine n_sld (pc' := 1186) (pc0 := 1185) (len := 1) rfl ⟨by omega, by omega⟩ (by omega) rfl ?_
  refine r_call (m := 137) (args := [.inr (.inr (some 0)), .inl (X.2.1 (i + 1).toNat)]) (n' := 329) (pc' := 1189) (lo' := [some (.inr (.inr (some 100000))), some (.inr (.inr (some 0))), some (.inr (.inr (some 203))), some (.inl i)]) (st' := []) (I := .invokevirtual 137) (pc0 := 1186) (len := 3) rfl rfl rfl h1 ?_
  show WV _ _ _ 1189 _ [.inl z] _ _ _
  refine r_ex 5 (pc' := 1194) (lo' := [some (.inr (.inr (some 100000))), some (.inr (.inr (some 0))), some (.inr (.inr (some 203))), some (.inl i)]) (st' := [.inl (i + 1), .inr (.inr (some 100000)), .inr (.inr (some 203)), .inl z]) rfl ?_
  refine n_sld (pc' := 1195) (pc0 := 1194) (len := 1) rfl ⟨by omega, by omega⟩ (by omega) rfl ?_
  refine r_call (m := 287) (args := [.inr (.inr (some 203)), .inl (X.2.1 (i + 1).toNat)]) (n' := 329) (pc' := 1198) (lo' := [some (.inr (.inr (some 100000))), some (.inr (.inr (some 0))), some (.inr (.inr (some 203))), some (.inl i)]) (st' := [.inl z]) (I := .invokevirtual 287) (pc0 := 1195) (len := 3) rfl rfl rfl h2 ?_
  show WV _ _ _ 1198 _ [.inl z, .inl z] _ _ _
  refine n_ic_eq (pc0 := 1198) (len := 3) (t := 2199) rfl hz hz (fun _ => ?_) (fun hne => absurd rfl hne)
  exact hK b1 w hI2

set_option maxRecDepth 100000 in
theorem law_31 {INV : Nat → VS → Prop} {X : PX} {b : Nat} {v : VS} {i : Int} {Q : Option PV → Nat → VS → Prop} (hS : Steps INV X) (hx : ∀ j, R32 (X.2.1 j)) (hL : X.1 ≤ 3072) (hi : 0 ≤ i ∧ i + 6 ≤ X.1) (hI : INV b v) (hK : ∀ b1 v1, INV b1 v1 → WV X 13 329 2199 [some (.inr (.inr (some 100000))), some (.inr (.inr (some 0))), some (.inr (.inr (some 203))), some (.inl i)] [] b1 v1 Q) : WV X 13 329 1203 [some (.inr (.inr (some 100000))), some (.inr (.inr (some 0))), some (.inr (.inr (some 203))), some (.inl i)] [] b v Q := by
  obtain ⟨z, b1, v1, w, hz, h1, h2, hI2⟩ := hS 31 (139, 288, 1) rfl (X.2.1 (i + 1).toNat) (X.2.1 (i + 2).toNat) (X.2.1 (i + 3).toNat) (X.2.1 (i + 4).toNat) (X.2.1 (i + 5).toNat) (hx _) (hx _) (hx _) (hx _) (hx _) b v hI
  refine r_ex 5 (pc' := 1208) (lo' := [some (.inr (.inr (some 100000))), some (.inr (.inr (some 0))), some (.inr (.inr (some 203))), some (.inl i)]) (st' := [.inl (i + 1), .inr (.inr (some 100000)), .inr (.inr (some 0))]) rfl ?_
  refine n_sld (pc' := 1209) (pc0 := 1208) (len := 1) rfl ⟨by omega, by omega⟩ (by omega) rfl ?_
  refine r_call (m := 139) (args := [.inr (.inr (some 0)), .inl (X.2.1 (i + 1).toNat)]) (n' := 329) (pc' := 1212) (lo' := [some (.inr (.inr (some 100000))), some (.inr (.inr (some 0))), some (.inr (.inr (some 203))), some (.inl i)]) (st' := []) (I := .invokevirtual 139) (pc0 := 1209) (len := 3) rfl rfl rfl h1 ?_
  show WV _ _ _ 1212 _ [.inl z] _ _ _
  refine r_ex 5 (pc' := 1217) (lo' := [some (.inr (.inr (some 100000))), some (.inr (.inr (some 0))), some (.inr (.inr (some 203))), some (.inl i)]) (st' := [.inl (i + 1), .inr (.inr (some 100000)), .inr (.inr (some 203)), .inl z]) rfl ?_
  refine n_sld (pc' := 1218) (pc0 := 1217) (len := 1) rfl ⟨by omega, by omega⟩ (by omega) rfl ?_
  refine r_call (m := 288) (args := [.inr (.inr (some 203)), .inl (X.2.1 (i + 1).toNat)]) (n' := 329) (pc' := 1221) (lo' := [some (.inr (.inr (some 100000))), some (.inr (.inr (some 0))), some (.inr (.inr (some 203))), some (.inl i)]) (st' := [.inl z]) (I := .invokevirtual 288) (pc0 := 1218) (len := 3) rfl rfl rfl h2 ?_
  show WV _ _ _ 1221 _ [.inl z, .inl z] _ _ _
  refine n_ic_eq (pc0 := 1221) (len := 3) (t := 2199) rfl hz hz (fun _ => ?_) (fun hne => absurd rfl hne)
  exact hK b1 w hI2
