/-! the reference: a line -/
def mo_line_146 (v : VS) (w : Int) : VS :=
  (if w = 2 then (mo_churchLine (mo_next v)) else (if w = 3 then (mo_earLine (mo_next v)) else (if w = 4 then (mo_startLine (mo_next v)) else (if w = 5 then (mo_windLine (mo_next v)) else (if w = 6 then (mo_span6 (mo_asks (mo_next v) 419) ((mo_asks (mo_next v) 419) 210 47)) else (if w = 7 then (mo_span7 (mo_next v) ((mo_next v) 210 44)) else (mo_span8 (mo_asks (mo_next v) 47) ((mo_asks (mo_next v) 47) 210 44))))))))
def mo_line (v : VS)  : VS :=
  (if (v 203 12) = 0 ∧ (v 203 8) = 1 ∧ (v 203 11) = (47724803 : Int) then (if (v 203 12) = 0 then (if (v 210 46) = (v 210 44) then (if ((mo_fails v 3) 203 12) = 0 then (mo_line_146  (mo_fails v 3) 2) else (mo_fails v 3)) else (if (v 203 12) = 0 then (mo_line_146  v 2) else v)) else (if (v 203 12) = 0 then (mo_line_146  v 2) else v)) else (if (v 203 12) = 0 ∧ (v 203 8) = 1 ∧ (v 203 11) = (3690 : Int) then (if (v 203 12) = 0 then (if (v 210 47) = 12 then (if ((mo_fails v 3) 203 12) = 0 then (mo_line_146  (mo_fails v 3) 3) else (mo_fails v 3)) else (if (v 203 12) = 0 then (mo_line_146  v 3) else v)) else (if (v 203 12) = 0 then (mo_line_146  v 3) else v)) else (if (v 203 12) = 0 ∧ (v 203 8) = 1 ∧ (v 203 11) = (283291417 : Int) then (if (v 203 12) = 0 then (if (v 210 48) = 4 then (if ((mo_fails v 3) 203 12) = 0 then (mo_line_146  (mo_fails v 3) 4) else (mo_fails v 3)) else (if (v 203 12) = 0 then (mo_line_146  v 4) else v)) else (if (v 203 12) = 0 then (mo_line_146  v 4) else v)) else (if (v 203 12) = 0 ∧ (v 203 8) = 1 ∧ (v 203 11) = (459652 : Int) then (if (v 203 12) = 0 then (if (v 210 49) = 6 then (if ((mo_fails v 3) 203 12) = 0 then (mo_line_146  (mo_fails v 3) 5) else (mo_fails v 3)) else (if (v 203 12) = 0 then (mo_line_146  v 5) else v)) else (if (v 203 12) = 0 then (mo_line_146  v 5) else v)) else (if (v 203 12) = 0 ∧ (v 203 8) = 1 ∧ (v 203 11) = (4786 : Int) then (if (v 203 12) = 0 then (if (v 210 50) = 6 then (if ((mo_fails v 3) 203 12) = 0 then (mo_line_146  (mo_fails v 3) 6) else (mo_fails v 3)) else (if (v 203 12) = 0 then (mo_line_146  v 6) else v)) else (if (v 203 12) = 0 then (mo_line_146  v 6) else v)) else (if (v 203 12) = 0 ∧ (v 203 8) = 1 ∧ (v 203 11) = (82410 : Int) then (if (v 203 12) = 0 then (if (v 210 51) = 6 then (if ((mo_fails v 3) 203 12) = 0 then (mo_line_146  (mo_fails v 3) 7) else (mo_fails v 3)) else (if (v 203 12) = 0 then (mo_line_146  v 7) else v)) else (if (v 203 12) = 0 then (mo_line_146  v 7) else v)) else (if (v 203 12) = 0 ∧ (v 203 8) = 1 ∧ (v 203 11) = (2633401731 : Int) then (if (v 203 12) = 0 then (if (v 210 52) = 6 then (if ((mo_fails v 3) 203 12) = 0 then (mo_line_146  (mo_fails v 3) 8) else (mo_fails v 3)) else (if (v 203 12) = 0 then (mo_line_146  v 8) else v)) else (if (v 203 12) = 0 then (mo_line_146  v 8) else v)) else (if ((mo_fails v 1) 203 12) = 0 then v else (if ((mo_fails v 1) 203 12) = 0 then (mo_line_146  (mo_fails v 1) (-1)) else (mo_fails v 1))))))))))
theorem l_mo_line_146 {X : PX} {d b : Nat} {Q : Option PV → Nat → VS → Prop}  : ∀ (v : VS) (w : Int), XI v → ((w = 2 ∧ (v 210 46) < (v 210 44)) ∨ (w = 3 ∧ (v 210 47) < 12) ∨ (w = 4 ∧ (v 210 48) < 4) ∨ (w = 5 ∧ (v 210 49) < 6) ∨ (w = 6 ∧ (v 210 50) < 6) ∨ (w = 7 ∧ (v 210 51) < 6) ∨ (w = 8 ∧ (v 210 52) < 6)) → ((v 210 46) ≤ (v 210 44)) → ((v 203 7) ≤ (v 203 6) ∧ ((v 203 8) = 0 ∨ (v 203 9) < (v 203 7)) ∧ (v 203 9) ≤ (v 203 7)) → (CF v) → (XI (mo_line_146 v w) → (((mo_line_146 v w) 203 7) ≤ ((mo_line_146 v w) 203 6) ∧ (((mo_line_146 v w) 203 8) = 0 ∨ ((mo_line_146 v w) 203 9) < ((mo_line_146 v w) 203 7)) ∧ ((mo_line_146 v w) 203 9) ≤ ((mo_line_146 v w) 203 7)) → ((v 203 9) ≤ ((mo_line_146 v w) 203 9)) → (((mo_line_146 v w) 210 46) ≤ ((mo_line_146 v w) 210 44)) → (CF (mo_line_146 v w)) → Q none b (mo_line_146 v w)) → WV X (d + 1 + 1 + 1 + 1 + 1 + 1) 222 146 [some (.inr (.inr (some 203))), some (.inl w)] [] b v Q := by
  intro v w hX hi_0 hi_1 hi_2 hi_3 hQ
  rw [mo_line_146] at hQ
  refine r_ex 1 (pc' := 147) (lo' := [some (.inr (.inr (some 203))), some (.inl w)]) (st' := [.inr (.inr (some 203))]) rfl ?_
  have hp_6 : (v 203 7) ≤ (v 203 6) := (show (v 203 7) ≤ (v 203 6) from (by first | assumption | omega | (unfold R32 at *; omega) | (unfold R64 at *; omega) | (simp only [R32, R64] at *; omega)))
  refine r_call (m := 213) (args := [.inr (.inr (some 203))]) (n' := 222) (pc' := 150) (lo' := [some (.inr (.inr (some 203))), some (.inl w)]) (st' := []) (I := .invokevirtual 213) (pc0 := 147) (len := 3) rfl rfl rfl (e_mo_next hX hp_6) ?_
  show WV _ _ _ 150 _ [] _ (mo_next v) _
  have hX_7 : XI (mo_next v) := i_mo_next (v := v) hX hp_6
  have hb_8 : (mo_next v) 209 4 = (v 209 4) := by rw [o_mo_next (by omega)] <;> rfl
  have hb_9 : (mo_next v) 210 44 = (v 210 44) := by rw [o_mo_next (by omega)] <;> rfl
  have hb_10 : (mo_next v) 210 46 = (v 210 46) := by rw [o_mo_next (by omega)] <;> rfl
  have hb_11 : (mo_next v) 210 47 = (v 210 47) := by rw [o_mo_next (by omega)] <;> rfl
  have hb_12 : (mo_next v) 210 48 = (v 210 48) := by rw [o_mo_next (by omega)] <;> rfl
  have hb_13 : (mo_next v) 210 49 = (v 210 49) := by rw [o_mo_next (by omega)] <;> rfl
  have hb_14 : (mo_next v) 210 50 = (v 210 50) := by rw [o_mo_next (by omega)] <;> rfl
  have hb_15 : (mo_next v) 210 51 = (v 210 51) := by rw [o_mo_next (by omega)] <;> rfl
  have hb_16 : (mo_next v) 210 52 = (v 210 52) := by rw [o_mo_next (by omega)] <;> rfl
  have hb_17 : ((mo_next v) 203 7) ≤ ((mo_next v) 203 6) ∧ (((mo_next v) 203 8) = 0 ∨ ((mo_next v) 203 9) < ((mo_next v) 203 7)) ∧ ((mo_next v) 203 9) ≤ ((mo_next v) 203 7) := n0_mo_next (v := v) hX hp_6
  have hb_18 : (v 203 7) ≤ ((mo_next v) 203 9) := n1_mo_next (v := v) hX hp_6
  have hb_19 : ((mo_next v) 203 12) = (v 203 12) := n2_mo_next (v := v) hX hp_6
  refine r_ex 2 (pc' := 152) (lo' := [some (.inr (.inr (some 203))), some (.inl w)]) (st' := [.inl 2, .inl w]) rfl ?_
  refine n_ic_ne (pc0 := 152) (len := 3) (t := 162) rfl (by first | assumption | omega | (unfold R32 at *; omega) | (unfold R64 at *; omega) | (simp only [R32, R64] at *; omega)) (by first | assumption | omega | (unfold R32 at *; omega) | (unfold R64 at *; omega) | (simp only [R32, R64] at *; omega)) (fun h_152 => ?_) (fun h_152 => ?_)
  · show WV _ _ _ 162 _ _ _ _ _
    rw [if_neg h_152] at hQ
    refine r_ex 2 (pc' := 164) (lo' := [some (.inr (.inr (some 203))), some (.inl w)]) (st' := [.inl 3, .inl w]) rfl ?_
    refine n_ic_ne (pc0 := 164) (len := 3) (t := 174) rfl (by first | assumption | omega | (unfold R32 at *; omega) | (unfold R64 at *; omega) | (simp only [R32, R64] at *; omega)) (by first | assumption | omega | (unfold R32 at *; omega) | (unfold R64 at *; omega) | (simp only [R32, R64] at *; omega)) (fun h_164 => ?_) (fun h_164 => ?_)
    · show WV _ _ _ 174 _ _ _ _ _
      rw [if_neg h_164] at hQ
      refine r_ex 2 (pc' := 176) (lo' := [some (.inr (.inr (some 203))), some (.inl w)]) (st' := [.inl 4, .inl w]) rfl ?_
      refine n_ic_ne (pc0 := 176) (len := 3) (t := 186) rfl (by first | assumption | omega | (unfold R32 at *; omega) | (unfold R64 at *; omega) | (simp only [R32, R64] at *; omega)) (by first | assumption | omega | (unfold R32 at *; omega) | (unfold R64 at *; omega) | (simp only [R32, R64] at *; omega)) (fun h_176 => ?_) (fun h_176 => ?_)
      · show WV _ _ _ 186 _ _ _ _ _
        rw [if_neg h_176] at hQ
        refine r_ex 2 (pc' := 188) (lo' := [some (.inr (.inr (some 203))), some (.inl w)]) (st' := [.inl 5, .inl w]) rfl ?_
        refine n_ic_ne (pc0 := 188) (len := 3) (t := 198) rfl (by first | assumption | omega | (unfold R32 at *; omega) | (unfold R64 at *; omega) | (simp only [R32, R64] at *; omega)) (by first | assumption | omega | (unfold R32 at *; omega) | (unfold R64 at *; omega) | (simp only [R32, R64] at *; omega)) (fun h_188 => ?_) (fun h_188 => ?_)
        · show WV _ _ _ 198 _ _ _ _ _
          rw [if_neg h_188] at hQ
          refine r_ex 2 (pc' := 201) (lo' := [some (.inr (.inr (some 203))), some (.inl w)]) (st' := [.inl 6, .inl w]) rfl ?_
          refine n_ic_ne (pc0 := 201) (len := 3) (t := 229) rfl (by first | assumption | omega | (unfold R32 at *; omega) | (unfold R64 at *; omega) | (simp only [R32, R64] at *; omega)) (by first | assumption | omega | (unfold R32 at *; omega) | (unfold R64 at *; omega) | (simp only [R32, R64] at *; omega)) (fun h_201 => ?_) (fun h_201 => ?_)
          · show WV _ _ _ 229 _ _ _ _ _
            rw [if_neg h_201] at hQ
            refine r_ex 2 (pc' := 232) (lo' := [some (.inr (.inr (some 203))), some (.inl w)]) (st' := [.inl 7, .inl w]) rfl ?_
            refine n_ic_ne (pc0 := 232) (len := 3) (t := 253) rfl (by first | assumption | omega | (unfold R32 at *; omega) | (unfold R64 at *; omega) | (simp only [R32, R64] at *; omega)) (by first | assumption | omega | (unfold R32 at *; omega) | (unfold R64 at *; omega) | (simp only [R32, R64] at *; omega)) (fun h_232 => ?_) (fun h_232 => ?_)
            · show WV _ _ _ 253 _ _ _ _ _
              rw [if_neg h_232] at hQ
              refine r_ex 2 (pc' := 257) (lo' := [some (.inr (.inr (some 203))), some (.inl w)]) (st' := [.inr (.inl 47), .inr (.inr (some 203))]) rfl ?_
              have hp_20 : R64 (47 : Int) := (by first | assumption | omega | (unfold R32 at *; omega) | (unfold R64 at *; omega) | (simp only [R32, R64] at *; omega))
              have hp_21 : ((mo_next v) 203 7) ≤ ((mo_next v) 203 6) ∧ (((mo_next v) 203 8) = 0 ∨ ((mo_next v) 203 9) < ((mo_next v) 203 7)) ∧ ((mo_next v) 203 9) ≤ ((mo_next v) 203 7) := (show ((mo_next v) 203 7) ≤ ((mo_next v) 203 6) ∧ (((mo_next v) 203 8) = 0 ∨ ((mo_next v) 203 9) < ((mo_next v) 203 7)) ∧ ((mo_next v) 203 9) ≤ ((mo_next v) 203 7) from (by first | assumption | omega | (unfold R32 at *; omega) | (unfold R64 at *; omega) | (simp only [R32, R64] at *; omega)))
              refine r_call (m := 216) (args := [.inr (.inr (some 203)), .inr (.inl 47)]) (n' := 222) (pc' := 260) (lo' := [some (.inr (.inr (some 203))), some (.inl w)]) (st' := []) (I := .invokevirtual 216) (pc0 := 257) (len := 3) rfl rfl rfl (e_mo_asks hX_7 hp_20 hp_21) ?_
              show WV _ _ _ 260 _ [] _ (mo_asks (mo_next v) 47) _
              have hX_22 : XI (mo_asks (mo_next v) 47) := i_mo_asks (v := (mo_next v)) (y := 47) hX_7 hp_20 hp_21
              have hb_23 : (mo_asks (mo_next v) 47) 209 4 = ((mo_next v) 209 4) := by rw [o_mo_asks (by omega)] <;> rfl
              have hb_24 : (mo_asks (mo_next v) 47) 210 44 = ((mo_next v) 210 44) := by rw [o_mo_asks (by omega)] <;> rfl
              have hb_25 : (mo_asks (mo_next v) 47) 210 46 = ((mo_next v) 210 46) := by rw [o_mo_asks (by omega)] <;> rfl
              have hb_26 : (mo_asks (mo_next v) 47) 210 47 = ((mo_next v) 210 47) := by rw [o_mo_asks (by omega)] <;> rfl
              have hb_27 : (mo_asks (mo_next v) 47) 210 48 = ((mo_next v) 210 48) := by rw [o_mo_asks (by omega)] <;> rfl
              have hb_28 : (mo_asks (mo_next v) 47) 210 49 = ((mo_next v) 210 49) := by rw [o_mo_asks (by omega)] <;> rfl
              have hb_29 : (mo_asks (mo_next v) 47) 210 50 = ((mo_next v) 210 50) := by rw [o_mo_asks (by omega)] <;> rfl
              have hb_30 : (mo_asks (mo_next v) 47) 210 51 = ((mo_next v) 210 51) := by rw [o_mo_asks (by omega)] <;> rfl
              have hb_31 : (mo_asks (mo_next v) 47) 210 52 = ((mo_next v) 210 52) := by rw [o_mo_asks (by omega)] <;> rfl
              have hb_32 : ((mo_asks (mo_next v) 47) 203 7) ≤ ((mo_asks (mo_next v) 47) 203 6) ∧ (((mo_asks (mo_next v) 47) 203 8) = 0 ∨ ((mo_asks (mo_next v) 47) 203 9) < ((mo_asks (mo_next v) 47) 203 7)) ∧ ((mo_asks (mo_next v) 47) 203 9) ≤ ((mo_asks (mo_next v) 47) 203 7) := n0_mo_asks (v := (mo_next v)) (y := 47) hX_7 hp_20 hp_21
              have hb_33 : ((mo_next v) 203 9) ≤ ((mo_asks (mo_next v) 47) 203 9) := n1_mo_asks (v := (mo_next v)) (y := 47) hX_7 hp_20 hp_21
              refine r_ex 6 (pc' := 269) (lo' := [some (.inr (.inr (some 203))), some (.inl w)]) (st' := [.inl 0, .inr (.inr (some 203)), .inl 8, .inr (.inr (some 217)), .inr (.inr (some 203))]) rfl ?_
              refine r_call (m := 223) (args := [.inr (.inr (some 203)), .inl 0]) (n' := 222) (pc' := 272) (lo' := [some (.inr (.inr (some 203))), some (.inl w)]) (st' := [.inl 8, .inr (.inr (some 217)), .inr (.inr (some 203))]) (I := .invokevirtual 223) (pc0 := 269) (len := 3) rfl rfl rfl (e_mo_hr0 hX_22) ?_
              show WV _ _ _ 272 _ [.inl ((mo_asks (mo_next v) 47) 210 44), .inl 8, .inr (.inr (some 217)), .inr (.inr (some 203))] _ _ _
              have hb_34 : 0 ≤ ((mo_asks (mo_next v) 47) 210 44) ∧ ((mo_asks (mo_next v) 47) 210 44) ≤ 9 := hX_22 210 44
              have hp_35 : ((mo_asks (mo_next v) 47) 203 7) ≤ ((mo_asks (mo_next v) 47) 203 6) ∧ (((mo_asks (mo_next v) 47) 203 8) = 0 ∨ ((mo_asks (mo_next v) 47) 203 9) < ((mo_asks (mo_next v) 47) 203 7)) ∧ ((mo_asks (mo_next v) 47) 203 9) ≤ ((mo_asks (mo_next v) 47) 203 7) := (show ((mo_asks (mo_next v) 47) 203 7) ≤ ((mo_asks (mo_next v) 47) 203 6) ∧ (((mo_asks (mo_next v) 47) 203 8) = 0 ∨ ((mo_asks (mo_next v) 47) 203 9) < ((mo_asks (mo_next v) 47) 203 7)) ∧ ((mo_asks (mo_next v) 47) 203 9) ≤ ((mo_asks (mo_next v) 47) 203 7) from (by first | assumption | omega | (unfold R32 at *; omega) | (unfold R64 at *; omega) | (simp only [R32, R64] at *; omega)))
              have hp_36 : ((mo_asks (mo_next v) 47) 210 52) < 6 := (show ((mo_asks (mo_next v) 47) 210 52) < 6 from (by first | assumption | omega | (unfold R32 at *; omega) | (unfold R64 at *; omega) | (simp only [R32, R64] at *; omega)))
              have hp_37 : 0 ≤ ((mo_asks (mo_next v) 47) 210 44) ∧ ((mo_asks (mo_next v) 47) 210 44) ≤ 12 := (by first | assumption | omega | (unfold R32 at *; omega) | (unfold R64 at *; omega) | (simp only [R32, R64] at *; omega))
              refine r_call (m := 230) (args := [.inr (.inr (some 203)), .inr (.inr (some 217)), .inl 8, .inl ((mo_asks (mo_next v) 47) 210 44)]) (n' := 222) (pc' := 275) (lo' := [some (.inr (.inr (some 203))), some (.inl w)]) (st' := []) (I := .invokevirtual 230) (pc0 := 272) (len := 3) rfl rfl rfl (e_mo_span8 hX_22 hp_35 hp_36 hp_37) ?_
              show WV _ _ _ 275 _ [] _ (mo_span8 (mo_asks (mo_next v) 47) ((mo_asks (mo_next v) 47) 210 44)) _
              have hX_38 : XI (mo_span8 (mo_asks (mo_next v) 47) ((mo_asks (mo_next v) 47) 210 44)) := i_mo_span8 (v := (mo_asks (mo_next v) 47)) (g := ((mo_asks (mo_next v) 47) 210 44)) hX_22 hp_35 hp_36 hp_37
              have hb_39 : (mo_span8 (mo_asks (mo_next v) 47) ((mo_asks (mo_next v) 47) 210 44)) 209 4 = ((mo_asks (mo_next v) 47) 209 4) := by rw [o_mo_span8 (by omega)] <;> rfl
              have hb_40 : ((mo_span8 (mo_asks (mo_next v) 47) ((mo_asks (mo_next v) 47) 210 44)) 203 7) ≤ ((mo_span8 (mo_asks (mo_next v) 47) ((mo_asks (mo_next v) 47) 210 44)) 203 6) ∧ (((mo_span8 (mo_asks (mo_next v) 47) ((mo_asks (mo_next v) 47) 210 44)) 203 8) = 0 ∨ ((mo_span8 (mo_asks (mo_next v) 47) ((mo_asks (mo_next v) 47) 210 44)) 203 9) < ((mo_span8 (mo_asks (mo_next v) 47) ((mo_asks (mo_next v) 47) 210 44)) 203 7)) ∧ ((mo_span8 (mo_asks (mo_next v) 47) ((mo_asks (mo_next v) 47) 210 44)) 203 9) ≤ ((mo_span8 (mo_asks (mo_next v) 47) ((mo_asks (mo_next v) 47) 210 44)) 203 7) := n0_mo_span8 (v := (mo_asks (mo_next v) 47)) (g := ((mo_asks (mo_next v) 47) 210 44)) hX_22 hp_35 hp_36 hp_37
              have hb_41 : ((mo_asks (mo_next v) 47) 203 9) ≤ ((mo_span8 (mo_asks (mo_next v) 47) ((mo_asks (mo_next v) 47) 210 44)) 203 9) := n1_mo_span8 (v := (mo_asks (mo_next v) 47)) (g := ((mo_asks (mo_next v) 47) 210 44)) hX_22 hp_35 hp_36 hp_37
              have hb_42 : ((mo_span8 (mo_asks (mo_next v) 47) ((mo_asks (mo_next v) 47) 210 44)) 210 44) = ((mo_asks (mo_next v) 47) 210 44) ∧ ((mo_span8 (mo_asks (mo_next v) 47) ((mo_asks (mo_next v) 47) 210 44)) 210 46) = ((mo_asks (mo_next v) 47) 210 46) := n2_mo_span8 (v := (mo_asks (mo_next v) 47)) (g := ((mo_asks (mo_next v) 47) 210 44)) hX_22 hp_35 hp_36 hp_37
              refine r_ret (rr := none) (I := .return_) (pc0 := 275) (len := 1) rfl rfl ?_
              exact hQ hX_38 (show ((mo_span8 (mo_asks (mo_next v) 47) ((mo_asks (mo_next v) 47) 210 44)) 203 7) ≤ ((mo_span8 (mo_asks (mo_next v) 47) ((mo_asks (mo_next v) 47) 210 44)) 203 6) ∧ (((mo_span8 (mo_asks (mo_next v) 47) ((mo_asks (mo_next v) 47) 210 44)) 203 8) = 0 ∨ ((mo_span8 (mo_asks (mo_next v) 47) ((mo_asks (mo_next v) 47) 210 44)) 203 9) < ((mo_span8 (mo_asks (mo_next v) 47) ((mo_asks (mo_next v) 47) 210 44)) 203 7)) ∧ ((mo_span8 (mo_asks (mo_next v) 47) ((mo_asks (mo_next v) 47) 210 44)) 203 9) ≤ ((mo_span8 (mo_asks (mo_next v) 47) ((mo_asks (mo_next v) 47) 210 44)) 203 7) from (by first | assumption | omega | (unfold R32 at *; omega) | (unfold R64 at *; omega) | (simp only [R32, R64] at *; omega))) (show (v 203 9) ≤ ((mo_span8 (mo_asks (mo_next v) 47) ((mo_asks (mo_next v) 47) 210 44)) 203 9) from (by first | assumption | omega | (unfold R32 at *; omega) | (unfold R64 at *; omega) | (simp only [R32, R64] at *; omega))) (show ((mo_span8 (mo_asks (mo_next v) 47) ((mo_asks (mo_next v) 47) 210 44)) 210 46) ≤ ((mo_span8 (mo_asks (mo_next v) 47) ((mo_asks (mo_next v) 47) 210 44)) 210 44) from (by first | assumption | omega | (unfold R32 at *; omega) | (unfold R64 at *; omega) | (simp only [R32, R64] at *; omega))) (show CF (mo_span8 (mo_asks (mo_next v) 47) ((mo_asks (mo_next v) 47) 210 44)) from (show CF (mo_span8 (mo_asks (mo_next v) 47) ((mo_asks (mo_next v) 47) 210 44)) from CF.of hi_3 (fun k h1 h2 => by rw [o_mo_span8 (by omega), o_mo_asks (by omega), o_mo_next (by omega)])))
            · show WV _ _ _ 235 _ _ _ _ _
              rw [if_pos h_232] at hQ
              refine r_ex 6 (pc' := 244) (lo' := [some (.inr (.inr (some 203))), some (.inl w)]) (st' := [.inl 0, .inr (.inr (some 203)), .inl 7, .inr (.inr (some 216)), .inr (.inr (some 203))]) rfl ?_
              refine r_call (m := 223) (args := [.inr (.inr (some 203)), .inl 0]) (n' := 222) (pc' := 247) (lo' := [some (.inr (.inr (some 203))), some (.inl w)]) (st' := [.inl 7, .inr (.inr (some 216)), .inr (.inr (some 203))]) (I := .invokevirtual 223) (pc0 := 244) (len := 3) rfl rfl rfl (e_mo_hr0 hX_7) ?_
              show WV _ _ _ 247 _ [.inl ((mo_next v) 210 44), .inl 7, .inr (.inr (some 216)), .inr (.inr (some 203))] _ _ _
              have hb_43 : 0 ≤ ((mo_next v) 210 44) ∧ ((mo_next v) 210 44) ≤ 9 := hX_7 210 44
              have hp_44 : ((mo_next v) 203 7) ≤ ((mo_next v) 203 6) ∧ (((mo_next v) 203 8) = 0 ∨ ((mo_next v) 203 9) < ((mo_next v) 203 7)) ∧ ((mo_next v) 203 9) ≤ ((mo_next v) 203 7) := (show ((mo_next v) 203 7) ≤ ((mo_next v) 203 6) ∧ (((mo_next v) 203 8) = 0 ∨ ((mo_next v) 203 9) < ((mo_next v) 203 7)) ∧ ((mo_next v) 203 9) ≤ ((mo_next v) 203 7) from (by first | assumption | omega | (unfold R32 at *; omega) | (unfold R64 at *; omega) | (simp only [R32, R64] at *; omega)))
              have hp_45 : ((mo_next v) 210 51) < 6 := (show ((mo_next v) 210 51) < 6 from (by first | assumption | omega | (unfold R32 at *; omega) | (unfold R64 at *; omega) | (simp only [R32, R64] at *; omega)))
              have hp_46 : 0 ≤ ((mo_next v) 210 44) ∧ ((mo_next v) 210 44) ≤ 12 := (by first | assumption | omega | (unfold R32 at *; omega) | (unfold R64 at *; omega) | (simp only [R32, R64] at *; omega))
              refine r_call (m := 230) (args := [.inr (.inr (some 203)), .inr (.inr (some 216)), .inl 7, .inl ((mo_next v) 210 44)]) (n' := 222) (pc' := 250) (lo' := [some (.inr (.inr (some 203))), some (.inl w)]) (st' := []) (I := .invokevirtual 230) (pc0 := 247) (len := 3) rfl rfl rfl (e_mo_span7 hX_7 hp_44 hp_45 hp_46) ?_
              show WV _ _ _ 250 _ [] _ (mo_span7 (mo_next v) ((mo_next v) 210 44)) _
              have hX_47 : XI (mo_span7 (mo_next v) ((mo_next v) 210 44)) := i_mo_span7 (v := (mo_next v)) (g := ((mo_next v) 210 44)) hX_7 hp_44 hp_45 hp_46
              have hb_48 : (mo_span7 (mo_next v) ((mo_next v) 210 44)) 209 4 = ((mo_next v) 209 4) := by rw [o_mo_span7 (by omega)] <;> rfl
              have hb_49 : ((mo_span7 (mo_next v) ((mo_next v) 210 44)) 203 7) ≤ ((mo_span7 (mo_next v) ((mo_next v) 210 44)) 203 6) ∧ (((mo_span7 (mo_next v) ((mo_next v) 210 44)) 203 8) = 0 ∨ ((mo_span7 (mo_next v) ((mo_next v) 210 44)) 203 9) < ((mo_span7 (mo_next v) ((mo_next v) 210 44)) 203 7)) ∧ ((mo_span7 (mo_next v) ((mo_next v) 210 44)) 203 9) ≤ ((mo_span7 (mo_next v) ((mo_next v) 210 44)) 203 7) := n0_mo_span7 (v := (mo_next v)) (g := ((mo_next v) 210 44)) hX_7 hp_44 hp_45 hp_46
              have hb_50 : ((mo_next v) 203 9) ≤ ((mo_span7 (mo_next v) ((mo_next v) 210 44)) 203 9) := n1_mo_span7 (v := (mo_next v)) (g := ((mo_next v) 210 44)) hX_7 hp_44 hp_45 hp_46
              have hb_51 : ((mo_span7 (mo_next v) ((mo_next v) 210 44)) 210 44) = ((mo_next v) 210 44) ∧ ((mo_span7 (mo_next v) ((mo_next v) 210 44)) 210 46) = ((mo_next v) 210 46) := n2_mo_span7 (v := (mo_next v)) (g := ((mo_next v) 210 44)) hX_7 hp_44 hp_45 hp_46
              refine r_ex 1 (pc' := 275) (lo' := [some (.inr (.inr (some 203))), some (.inl w)]) (st' := []) rfl ?_
              refine r_ret (rr := none) (I := .return_) (pc0 := 275) (len := 1) rfl rfl ?_
              exact hQ hX_47 (show ((mo_span7 (mo_next v) ((mo_next v) 210 44)) 203 7) ≤ ((mo_span7 (mo_next v) ((mo_next v) 210 44)) 203 6) ∧ (((mo_span7 (mo_next v) ((mo_next v) 210 44)) 203 8) = 0 ∨ ((mo_span7 (mo_next v) ((mo_next v) 210 44)) 203 9) < ((mo_span7 (mo_next v) ((mo_next v) 210 44)) 203 7)) ∧ ((mo_span7 (mo_next v) ((mo_next v) 210 44)) 203 9) ≤ ((mo_span7 (mo_next v) ((mo_next v) 210 44)) 203 7) from (by first | assumption | omega | (unfold R32 at *; omega) | (unfold R64 at *; omega) | (simp only [R32, R64] at *; omega))) (show (v 203 9) ≤ ((mo_span7 (mo_next v) ((mo_next v) 210 44)) 203 9) from (by first | assumption | omega | (unfold R32 at *; omega) | (unfold R64 at *; omega) | (simp only [R32, R64] at *; omega))) (show ((mo_span7 (mo_next v) ((mo_next v) 210 44)) 210 46) ≤ ((mo_span7 (mo_next v) ((mo_next v) 210 44)) 210 44) from (by first | assumption | omega | (unfold R32 at *; omega) | (unfold R64 at *; omega) | (simp only [R32, R64] at *; omega))) (show CF (mo_span7 (mo_next v) ((mo_next v) 210 44)) from (show CF (mo_span7 (mo_next v) ((mo_next v) 210 44)) from CF.of hi_3 (fun k h1 h2 => by rw [o_mo_span7 (by omega), o_mo_next (by omega)])))
          · show WV _ _ _ 204 _ _ _ _ _
            rw [if_pos h_201] at hQ
            refine r_ex 2 (pc' := 208) (lo' := [some (.inr (.inr (some 203))), some (.inl w)]) (st' := [.inr (.inl 419), .inr (.inr (some 203))]) rfl ?_
            have hp_52 : R64 (419 : Int) := (by first | assumption | omega | (unfold R32 at *; omega) | (unfold R64 at *; omega) | (simp only [R32, R64] at *; omega))
            have hp_53 : ((mo_next v) 203 7) ≤ ((mo_next v) 203 6) ∧ (((mo_next v) 203 8) = 0 ∨ ((mo_next v) 203 9) < ((mo_next v) 203 7)) ∧ ((mo_next v) 203 9) ≤ ((mo_next v) 203 7) := (show ((mo_next v) 203 7) ≤ ((mo_next v) 203 6) ∧ (((mo_next v) 203 8) = 0 ∨ ((mo_next v) 203 9) < ((mo_next v) 203 7)) ∧ ((mo_next v) 203 9) ≤ ((mo_next v) 203 7) from (by first | assumption | omega | (unfold R32 at *; omega) | (unfold R64 at *; omega) | (simp only [R32, R64] at *; omega)))
            refine r_call (m := 216) (args := [.inr (.inr (some 203)), .inr (.inl 419)]) (n' := 222) (pc' := 211) (lo' := [some (.inr (.inr (some 203))), some (.inl w)]) (st' := []) (I := .invokevirtual 216) (pc0 := 208) (len := 3) rfl rfl rfl (e_mo_asks hX_7 hp_52 hp_53) ?_
            show WV _ _ _ 211 _ [] _ (mo_asks (mo_next v) 419) _
            have hX_54 : XI (mo_asks (mo_next v) 419) := i_mo_asks (v := (mo_next v)) (y := 419) hX_7 hp_52 hp_53
            have hb_55 : (mo_asks (mo_next v) 419) 209 4 = ((mo_next v) 209 4) := by rw [o_mo_asks (by omega)] <;> rfl
            have hb_56 : (mo_asks (mo_next v) 419) 210 44 = ((mo_next v) 210 44) := by rw [o_mo_asks (by omega)] <;> rfl
            have hb_57 : (mo_asks (mo_next v) 419) 210 46 = ((mo_next v) 210 46) := by rw [o_mo_asks (by omega)] <;> rfl
            have hb_58 : (mo_asks (mo_next v) 419) 210 47 = ((mo_next v) 210 47) := by rw [o_mo_asks (by omega)] <;> rfl
            have hb_59 : (mo_asks (mo_next v) 419) 210 48 = ((mo_next v) 210 48) := by rw [o_mo_asks (by omega)] <;> rfl
            have hb_60 : (mo_asks (mo_next v) 419) 210 49 = ((mo_next v) 210 49) := by rw [o_mo_asks (by omega)] <;> rfl
            have hb_61 : (mo_asks (mo_next v) 419) 210 50 = ((mo_next v) 210 50) := by rw [o_mo_asks (by omega)] <;> rfl
            have hb_62 : (mo_asks (mo_next v) 419) 210 51 = ((mo_next v) 210 51) := by rw [o_mo_asks (by omega)] <;> rfl
            have hb_63 : (mo_asks (mo_next v) 419) 210 52 = ((mo_next v) 210 52) := by rw [o_mo_asks (by omega)] <;> rfl
            have hb_64 : ((mo_asks (mo_next v) 419) 203 7) ≤ ((mo_asks (mo_next v) 419) 203 6) ∧ (((mo_asks (mo_next v) 419) 203 8) = 0 ∨ ((mo_asks (mo_next v) 419) 203 9) < ((mo_asks (mo_next v) 419) 203 7)) ∧ ((mo_asks (mo_next v) 419) 203 9) ≤ ((mo_asks (mo_next v) 419) 203 7) := n0_mo_asks (v := (mo_next v)) (y := 419) hX_7 hp_52 hp_53
            have hb_65 : ((mo_next v) 203 9) ≤ ((mo_asks (mo_next v) 419) 203 9) := n1_mo_asks (v := (mo_next v)) (y := 419) hX_7 hp_52 hp_53
            refine r_ex 6 (pc' := 220) (lo' := [some (.inr (.inr (some 203))), some (.inl w)]) (st' := [.inl 3, .inr (.inr (some 203)), .inl 6, .inr (.inr (some 215)), .inr (.inr (some 203))]) rfl ?_
            refine r_call (m := 223) (args := [.inr (.inr (some 203)), .inl 3]) (n' := 222) (pc' := 223) (lo' := [some (.inr (.inr (some 203))), some (.inl w)]) (st' := [.inl 6, .inr (.inr (some 215)), .inr (.inr (some 203))]) (I := .invokevirtual 223) (pc0 := 220) (len := 3) rfl rfl rfl (e_mo_hr3 hX_54) ?_
            show WV _ _ _ 223 _ [.inl ((mo_asks (mo_next v) 419) 210 47), .inl 6, .inr (.inr (some 215)), .inr (.inr (some 203))] _ _ _
            have hb_66 : 0 ≤ ((mo_asks (mo_next v) 419) 210 47) ∧ ((mo_asks (mo_next v) 419) 210 47) ≤ 12 := hX_54 210 47
            have hp_67 : ((mo_asks (mo_next v) 419) 203 7) ≤ ((mo_asks (mo_next v) 419) 203 6) ∧ (((mo_asks (mo_next v) 419) 203 8) = 0 ∨ ((mo_asks (mo_next v) 419) 203 9) < ((mo_asks (mo_next v) 419) 203 7)) ∧ ((mo_asks (mo_next v) 419) 203 9) ≤ ((mo_asks (mo_next v) 419) 203 7) := (show ((mo_asks (mo_next v) 419) 203 7) ≤ ((mo_asks (mo_next v) 419) 203 6) ∧ (((mo_asks (mo_next v) 419) 203 8) = 0 ∨ ((mo_asks (mo_next v) 419) 203 9) < ((mo_asks (mo_next v) 419) 203 7)) ∧ ((mo_asks (mo_next v) 419) 203 9) ≤ ((mo_asks (mo_next v) 419) 203 7) from (by first | assumption | omega | (unfold R32 at *; omega) | (unfold R64 at *; omega) | (simp only [R32, R64] at *; omega)))
            have hp_68 : ((mo_asks (mo_next v) 419) 210 50) < 6 := (show ((mo_asks (mo_next v) 419) 210 50) < 6 from (by first | assumption | omega | (unfold R32 at *; omega) | (unfold R64 at *; omega) | (simp only [R32, R64] at *; omega)))
            have hp_69 : 0 ≤ ((mo_asks (mo_next v) 419) 210 47) ∧ ((mo_asks (mo_next v) 419) 210 47) ≤ 12 := (by first | assumption | omega | (unfold R32 at *; omega) | (unfold R64 at *; omega) | (simp only [R32, R64] at *; omega))
            refine r_call (m := 230) (args := [.inr (.inr (some 203)), .inr (.inr (some 215)), .inl 6, .inl ((mo_asks (mo_next v) 419) 210 47)]) (n' := 222) (pc' := 226) (lo' := [some (.inr (.inr (some 203))), some (.inl w)]) (st' := []) (I := .invokevirtual 230) (pc0 := 223) (len := 3) rfl rfl rfl (e_mo_span6 hX_54 hp_67 hp_68 hp_69) ?_
            show WV _ _ _ 226 _ [] _ (mo_span6 (mo_asks (mo_next v) 419) ((mo_asks (mo_next v) 419) 210 47)) _
            have hX_70 : XI (mo_span6 (mo_asks (mo_next v) 419) ((mo_asks (mo_next v) 419) 210 47)) := i_mo_span6 (v := (mo_asks (mo_next v) 419)) (g := ((mo_asks (mo_next v) 419) 210 47)) hX_54 hp_67 hp_68 hp_69
            have hb_71 : (mo_span6 (mo_asks (mo_next v) 419) ((mo_asks (mo_next v) 419) 210 47)) 209 4 = ((mo_asks (mo_next v) 419) 209 4) := by rw [o_mo_span6 (by omega)] <;> rfl
            have hb_72 : ((mo_span6 (mo_asks (mo_next v) 419) ((mo_asks (mo_next v) 419) 210 47)) 203 7) ≤ ((mo_span6 (mo_asks (mo_next v) 419) ((mo_asks (mo_next v) 419) 210 47)) 203 6) ∧ (((mo_span6 (mo_asks (mo_next v) 419) ((mo_asks (mo_next v) 419) 210 47)) 203 8) = 0 ∨ ((mo_span6 (mo_asks (mo_next v) 419) ((mo_asks (mo_next v) 419) 210 47)) 203 9) < ((mo_span6 (mo_asks (mo_next v) 419) ((mo_asks (mo_next v) 419) 210 47)) 203 7)) ∧ ((mo_span6 (mo_asks (mo_next v) 419) ((mo_asks (mo_next v) 419) 210 47)) 203 9) ≤ ((mo_span6 (mo_asks (mo_next v) 419) ((mo_asks (mo_next v) 419) 210 47)) 203 7) := n0_mo_span6 (v := (mo_asks (mo_next v) 419)) (g := ((mo_asks (mo_next v) 419) 210 47)) hX_54 hp_67 hp_68 hp_69
            have hb_73 : ((mo_asks (mo_next v) 419) 203 9) ≤ ((mo_span6 (mo_asks (mo_next v) 419) ((mo_asks (mo_next v) 419) 210 47)) 203 9) := n1_mo_span6 (v := (mo_asks (mo_next v) 419)) (g := ((mo_asks (mo_next v) 419) 210 47)) hX_54 hp_67 hp_68 hp_69
            have hb_74 : ((mo_span6 (mo_asks (mo_next v) 419) ((mo_asks (mo_next v) 419) 210 47)) 210 44) = ((mo_asks (mo_next v) 419) 210 44) ∧ ((mo_span6 (mo_asks (mo_next v) 419) ((mo_asks (mo_next v) 419) 210 47)) 210 46) = ((mo_asks (mo_next v) 419) 210 46) := n2_mo_span6 (v := (mo_asks (mo_next v) 419)) (g := ((mo_asks (mo_next v) 419) 210 47)) hX_54 hp_67 hp_68 hp_69
            refine r_ex 1 (pc' := 275) (lo' := [some (.inr (.inr (some 203))), some (.inl w)]) (st' := []) rfl ?_
            refine r_ret (rr := none) (I := .return_) (pc0 := 275) (len := 1) rfl rfl ?_
            exact hQ hX_70 (show ((mo_span6 (mo_asks (mo_next v) 419) ((mo_asks (mo_next v) 419) 210 47)) 203 7) ≤ ((mo_span6 (mo_asks (mo_next v) 419) ((mo_asks (mo_next v) 419) 210 47)) 203 6) ∧ (((mo_span6 (mo_asks (mo_next v) 419) ((mo_asks (mo_next v) 419) 210 47)) 203 8) = 0 ∨ ((mo_span6 (mo_asks (mo_next v) 419) ((mo_asks (mo_next v) 419) 210 47)) 203 9) < ((mo_span6 (mo_asks (mo_next v) 419) ((mo_asks (mo_next v) 419) 210 47)) 203 7)) ∧ ((mo_span6 (mo_asks (mo_next v) 419) ((mo_asks (mo_next v) 419) 210 47)) 203 9) ≤ ((mo_span6 (mo_asks (mo_next v) 419) ((mo_asks (mo_next v) 419) 210 47)) 203 7) from (by first | assumption | omega | (unfold R32 at *; omega) | (unfold R64 at *; omega) | (simp only [R32, R64] at *; omega))) (show (v 203 9) ≤ ((mo_span6 (mo_asks (mo_next v) 419) ((mo_asks (mo_next v) 419) 210 47)) 203 9) from (by first | assumption | omega | (unfold R32 at *; omega) | (unfold R64 at *; omega) | (simp only [R32, R64] at *; omega))) (show ((mo_span6 (mo_asks (mo_next v) 419) ((mo_asks (mo_next v) 419) 210 47)) 210 46) ≤ ((mo_span6 (mo_asks (mo_next v) 419) ((mo_asks (mo_next v) 419) 210 47)) 210 44) from (by first | assumption | omega | (unfold R32 at *; omega) | (unfold R64 at *; omega) | (simp only [R32, R64] at *; omega))) (show CF (mo_span6 (mo_asks (mo_next v) 419) ((mo_asks (mo_next v) 419) 210 47)) from (show CF (mo_span6 (mo_asks (mo_next v) 419) ((mo_asks (mo_next v) 419) 210 47)) from CF.of hi_3 (fun k h1 h2 => by rw [o_mo_span6 (by omega), o_mo_asks (by omega), o_mo_next (by omega)])))
        · show WV _ _ _ 191 _ _ _ _ _
          rw [if_pos h_188] at hQ
          refine r_ex 1 (pc' := 192) (lo' := [some (.inr (.inr (some 203))), some (.inl w)]) (st' := [.inr (.inr (some 203))]) rfl ?_
          have hp_75 : ((mo_next v) 203 7) ≤ ((mo_next v) 203 6) ∧ (((mo_next v) 203 8) = 0 ∨ ((mo_next v) 203 9) < ((mo_next v) 203 7)) ∧ ((mo_next v) 203 9) ≤ ((mo_next v) 203 7) := (show ((mo_next v) 203 7) ≤ ((mo_next v) 203 6) ∧ (((mo_next v) 203 8) = 0 ∨ ((mo_next v) 203 9) < ((mo_next v) 203 7)) ∧ ((mo_next v) 203 9) ≤ ((mo_next v) 203 7) from (by first | assumption | omega | (unfold R32 at *; omega) | (unfold R64 at *; omega) | (simp only [R32, R64] at *; omega)))
          have hp_76 : ((mo_next v) 210 49) < 6 := (show ((mo_next v) 210 49) < 6 from (by first | assumption | omega | (unfold R32 at *; omega) | (unfold R64 at *; omega) | (simp only [R32, R64] at *; omega)))
          have hp_77 : CF (mo_next v) := show CF (mo_next v) from (show CF (mo_next v) from CF.of hi_3 (fun k h1 h2 => by rw [o_mo_next (by omega)]))
          refine r_call (m := 229) (args := [.inr (.inr (some 203))]) (n' := 222) (pc' := 195) (lo' := [some (.inr (.inr (some 203))), some (.inl w)]) (st' := []) (I := .invokevirtual 229) (pc0 := 192) (len := 3) rfl rfl rfl (e_mo_windLine hX_7 hp_75 hp_76 hp_77) ?_
          show WV _ _ _ 195 _ [] _ (mo_windLine (mo_next v)) _
          have hX_78 : XI (mo_windLine (mo_next v)) := i_mo_windLine (v := (mo_next v)) hX_7 hp_75 hp_76 hp_77
          have hb_79 : (mo_windLine (mo_next v)) 209 4 = ((mo_next v) 209 4) := by rw [o_mo_windLine (by omega)] <;> rfl
          have hb_80 : ((mo_windLine (mo_next v)) 203 7) ≤ ((mo_windLine (mo_next v)) 203 6) ∧ (((mo_windLine (mo_next v)) 203 8) = 0 ∨ ((mo_windLine (mo_next v)) 203 9) < ((mo_windLine (mo_next v)) 203 7)) ∧ ((mo_windLine (mo_next v)) 203 9) ≤ ((mo_windLine (mo_next v)) 203 7) := n0_mo_windLine (v := (mo_next v)) hX_7 hp_75 hp_76 hp_77
          have hb_81 : ((mo_next v) 203 9) ≤ ((mo_windLine (mo_next v)) 203 9) := n1_mo_windLine (v := (mo_next v)) hX_7 hp_75 hp_76 hp_77
          have hl_82 := n2_mo_windLine (v := (mo_next v)) hX_7 hp_75 hp_76 hp_77
          have hb_83 : ((mo_windLine (mo_next v)) 210 44) = ((mo_next v) 210 44) ∧ ((mo_windLine (mo_next v)) 210 46) = ((mo_next v) 210 46) := n3_mo_windLine (v := (mo_next v)) hX_7 hp_75 hp_76 hp_77
          refine r_ex 1 (pc' := 275) (lo' := [some (.inr (.inr (some 203))), some (.inl w)]) (st' := []) rfl ?_
          refine r_ret (rr := none) (I := .return_) (pc0 := 275) (len := 1) rfl rfl ?_
          exact hQ hX_78 (show ((mo_windLine (mo_next v)) 203 7) ≤ ((mo_windLine (mo_next v)) 203 6) ∧ (((mo_windLine (mo_next v)) 203 8) = 0 ∨ ((mo_windLine (mo_next v)) 203 9) < ((mo_windLine (mo_next v)) 203 7)) ∧ ((mo_windLine (mo_next v)) 203 9) ≤ ((mo_windLine (mo_next v)) 203 7) from (by first | assumption | omega | (unfold R32 at *; omega) | (unfold R64 at *; omega) | (simp only [R32, R64] at *; omega))) (show (v 203 9) ≤ ((mo_windLine (mo_next v)) 203 9) from (by first | assumption | omega | (unfold R32 at *; omega) | (unfold R64 at *; omega) | (simp only [R32, R64] at *; omega))) (show ((mo_windLine (mo_next v)) 210 46) ≤ ((mo_windLine (mo_next v)) 210 44) from (by first | assumption | omega | (unfold R32 at *; omega) | (unfold R64 at *; omega) | (simp only [R32, R64] at *; omega))) (hl_82)
      · show WV _ _ _ 179 _ _ _ _ _
        rw [if_pos h_176] at hQ
        refine r_ex 1 (pc' := 180) (lo' := [some (.inr (.inr (some 203))), some (.inl w)]) (st' := [.inr (.inr (some 203))]) rfl ?_
        have hp_84 : ((mo_next v) 203 7) ≤ ((mo_next v) 203 6) ∧ (((mo_next v) 203 8) = 0 ∨ ((mo_next v) 203 9) < ((mo_next v) 203 7)) ∧ ((mo_next v) 203 9) ≤ ((mo_next v) 203 7) := (show ((mo_next v) 203 7) ≤ ((mo_next v) 203 6) ∧ (((mo_next v) 203 8) = 0 ∨ ((mo_next v) 203 9) < ((mo_next v) 203 7)) ∧ ((mo_next v) 203 9) ≤ ((mo_next v) 203 7) from (by first | assumption | omega | (unfold R32 at *; omega) | (unfold R64 at *; omega) | (simp only [R32, R64] at *; omega)))
        have hp_85 : ((mo_next v) 210 48) < 4 := (show ((mo_next v) 210 48) < 4 from (by first | assumption | omega | (unfold R32 at *; omega) | (unfold R64 at *; omega) | (simp only [R32, R64] at *; omega)))
        have hp_86 : CF (mo_next v) := show CF (mo_next v) from (show CF (mo_next v) from CF.of hi_3 (fun k h1 h2 => by rw [o_mo_next (by omega)]))
        refine r_call (m := 228) (args := [.inr (.inr (some 203))]) (n' := 222) (pc' := 183) (lo' := [some (.inr (.inr (some 203))), some (.inl w)]) (st' := []) (I := .invokevirtual 228) (pc0 := 180) (len := 3) rfl rfl rfl (e_mo_startLine hX_7 hp_84 hp_85 hp_86) ?_
        show WV _ _ _ 183 _ [] _ (mo_startLine (mo_next v)) _
        have hX_87 : XI (mo_startLine (mo_next v)) := i_mo_startLine (v := (mo_next v)) hX_7 hp_84 hp_85 hp_86
        have hb_88 : (mo_startLine (mo_next v)) 209 4 = ((mo_next v) 209 4) := by rw [o_mo_startLine (by omega)] <;> rfl
        have hb_89 : ((mo_startLine (mo_next v)) 203 7) ≤ ((mo_startLine (mo_next v)) 203 6) ∧ (((mo_startLine (mo_next v)) 203 8) = 0 ∨ ((mo_startLine (mo_next v)) 203 9) < ((mo_startLine (mo_next v)) 203 7)) ∧ ((mo_startLine (mo_next v)) 203 9) ≤ ((mo_startLine (mo_next v)) 203 7) := n0_mo_startLine (v := (mo_next v)) hX_7 hp_84 hp_85 hp_86
        have hb_90 : ((mo_next v) 203 9) ≤ ((mo_startLine (mo_next v)) 203 9) := n1_mo_startLine (v := (mo_next v)) hX_7 hp_84 hp_85 hp_86
        have hl_91 := n2_mo_startLine (v := (mo_next v)) hX_7 hp_84 hp_85 hp_86
        have hb_92 : ((mo_startLine (mo_next v)) 210 44) = ((mo_next v) 210 44) ∧ ((mo_startLine (mo_next v)) 210 46) = ((mo_next v) 210 46) := n3_mo_startLine (v := (mo_next v)) hX_7 hp_84 hp_85 hp_86
        refine r_ex 1 (pc' := 275) (lo' := [some (.inr (.inr (some 203))), some (.inl w)]) (st' := []) rfl ?_
        refine r_ret (rr := none) (I := .return_) (pc0 := 275) (len := 1) rfl rfl ?_
        exact hQ hX_87 (show ((mo_startLine (mo_next v)) 203 7) ≤ ((mo_startLine (mo_next v)) 203 6) ∧ (((mo_startLine (mo_next v)) 203 8) = 0 ∨ ((mo_startLine (mo_next v)) 203 9) < ((mo_startLine (mo_next v)) 203 7)) ∧ ((mo_startLine (mo_next v)) 203 9) ≤ ((mo_startLine (mo_next v)) 203 7) from (by first | assumption | omega | (unfold R32 at *; omega) | (unfold R64 at *; omega) | (simp only [R32, R64] at *; omega))) (show (v 203 9) ≤ ((mo_startLine (mo_next v)) 203 9) from (by first | assumption | omega | (unfold R32 at *; omega) | (unfold R64 at *; omega) | (simp only [R32, R64] at *; omega))) (show ((mo_startLine (mo_next v)) 210 46) ≤ ((mo_startLine (mo_next v)) 210 44) from (by first | assumption | omega | (unfold R32 at *; omega) | (unfold R64 at *; omega) | (simp only [R32, R64] at *; omega))) (hl_91)
    · show WV _ _ _ 167 _ _ _ _ _
      rw [if_pos h_164] at hQ
      refine r_ex 1 (pc' := 168) (lo' := [some (.inr (.inr (some 203))), some (.inl w)]) (st' := [.inr (.inr (some 203))]) rfl ?_
      have hp_93 : ((mo_next v) 203 7) ≤ ((mo_next v) 203 6) ∧ (((mo_next v) 203 8) = 0 ∨ ((mo_next v) 203 9) < ((mo_next v) 203 7)) ∧ ((mo_next v) 203 9) ≤ ((mo_next v) 203 7) := (show ((mo_next v) 203 7) ≤ ((mo_next v) 203 6) ∧ (((mo_next v) 203 8) = 0 ∨ ((mo_next v) 203 9) < ((mo_next v) 203 7)) ∧ ((mo_next v) 203 9) ≤ ((mo_next v) 203 7) from (by first | assumption | omega | (unfold R32 at *; omega) | (unfold R64 at *; omega) | (simp only [R32, R64] at *; omega)))
      have hp_94 : ((mo_next v) 210 47) < 12 := (show ((mo_next v) 210 47) < 12 from (by first | assumption | omega | (unfold R32 at *; omega) | (unfold R64 at *; omega) | (simp only [R32, R64] at *; omega)))
      have hp_95 : CF (mo_next v) := show CF (mo_next v) from (show CF (mo_next v) from CF.of hi_3 (fun k h1 h2 => by rw [o_mo_next (by omega)]))
      refine r_call (m := 226) (args := [.inr (.inr (some 203))]) (n' := 222) (pc' := 171) (lo' := [some (.inr (.inr (some 203))), some (.inl w)]) (st' := []) (I := .invokevirtual 226) (pc0 := 168) (len := 3) rfl rfl rfl (e_mo_earLine hX_7 hp_93 hp_94 hp_95) ?_
      show WV _ _ _ 171 _ [] _ (mo_earLine (mo_next v)) _
      have hX_96 : XI (mo_earLine (mo_next v)) := i_mo_earLine (v := (mo_next v)) hX_7 hp_93 hp_94 hp_95
      have hb_97 : (mo_earLine (mo_next v)) 209 4 = ((mo_next v) 209 4) := by rw [o_mo_earLine (by omega)] <;> rfl
      have hb_98 : ((mo_earLine (mo_next v)) 203 7) ≤ ((mo_earLine (mo_next v)) 203 6) ∧ (((mo_earLine (mo_next v)) 203 8) = 0 ∨ ((mo_earLine (mo_next v)) 203 9) < ((mo_earLine (mo_next v)) 203 7)) ∧ ((mo_earLine (mo_next v)) 203 9) ≤ ((mo_earLine (mo_next v)) 203 7) := n0_mo_earLine (v := (mo_next v)) hX_7 hp_93 hp_94 hp_95
      have hb_99 : ((mo_next v) 203 9) ≤ ((mo_earLine (mo_next v)) 203 9) := n1_mo_earLine (v := (mo_next v)) hX_7 hp_93 hp_94 hp_95
      have hl_100 := n2_mo_earLine (v := (mo_next v)) hX_7 hp_93 hp_94 hp_95
      have hb_101 : ((mo_earLine (mo_next v)) 210 44) = ((mo_next v) 210 44) ∧ ((mo_earLine (mo_next v)) 210 46) = ((mo_next v) 210 46) := n3_mo_earLine (v := (mo_next v)) hX_7 hp_93 hp_94 hp_95
      refine r_ex 1 (pc' := 275) (lo' := [some (.inr (.inr (some 203))), some (.inl w)]) (st' := []) rfl ?_
      refine r_ret (rr := none) (I := .return_) (pc0 := 275) (len := 1) rfl rfl ?_
      exact hQ hX_96 (show ((mo_earLine (mo_next v)) 203 7) ≤ ((mo_earLine (mo_next v)) 203 6) ∧ (((mo_earLine (mo_next v)) 203 8) = 0 ∨ ((mo_earLine (mo_next v)) 203 9) < ((mo_earLine (mo_next v)) 203 7)) ∧ ((mo_earLine (mo_next v)) 203 9) ≤ ((mo_earLine (mo_next v)) 203 7) from (by first | assumption | omega | (unfold R32 at *; omega) | (unfold R64 at *; omega) | (simp only [R32, R64] at *; omega))) (show (v 203 9) ≤ ((mo_earLine (mo_next v)) 203 9) from (by first | assumption | omega | (unfold R32 at *; omega) | (unfold R64 at *; omega) | (simp only [R32, R64] at *; omega))) (show ((mo_earLine (mo_next v)) 210 46) ≤ ((mo_earLine (mo_next v)) 210 44) from (by first | assumption | omega | (unfold R32 at *; omega) | (unfold R64 at *; omega) | (simp only [R32, R64] at *; omega))) (hl_100)
  · show WV _ _ _ 155 _ _ _ _ _
    rw [if_pos h_152] at hQ
    refine r_ex 1 (pc' := 156) (lo' := [some (.inr (.inr (some 203))), some (.inl w)]) (st' := [.inr (.inr (some 203))]) rfl ?_
    have hp_102 : ((mo_next v) 203 7) ≤ ((mo_next v) 203 6) ∧ (((mo_next v) 203 8) = 0 ∨ ((mo_next v) 203 9) < ((mo_next v) 203 7)) ∧ ((mo_next v) 203 9) ≤ ((mo_next v) 203 7) := (show ((mo_next v) 203 7) ≤ ((mo_next v) 203 6) ∧ (((mo_next v) 203 8) = 0 ∨ ((mo_next v) 203 9) < ((mo_next v) 203 7)) ∧ ((mo_next v) 203 9) ≤ ((mo_next v) 203 7) from (by first | assumption | omega | (unfold R32 at *; omega) | (unfold R64 at *; omega) | (simp only [R32, R64] at *; omega)))
    have hp_103 : ((mo_next v) 210 46) < ((mo_next v) 210 44) := (show ((mo_next v) 210 46) < ((mo_next v) 210 44) from (by first | assumption | omega | (unfold R32 at *; omega) | (unfold R64 at *; omega) | (simp only [R32, R64] at *; omega)))
    have hp_104 : CF (mo_next v) := show CF (mo_next v) from (show CF (mo_next v) from CF.of hi_3 (fun k h1 h2 => by rw [o_mo_next (by omega)]))
    refine r_call (m := 225) (args := [.inr (.inr (some 203))]) (n' := 222) (pc' := 159) (lo' := [some (.inr (.inr (some 203))), some (.inl w)]) (st' := []) (I := .invokevirtual 225) (pc0 := 156) (len := 3) rfl rfl rfl (e_mo_churchLine hX_7 hp_102 hp_103 hp_104) ?_
    show WV _ _ _ 159 _ [] _ (mo_churchLine (mo_next v)) _
    have hX_105 : XI (mo_churchLine (mo_next v)) := i_mo_churchLine (v := (mo_next v)) hX_7 hp_102 hp_103 hp_104
    have hb_106 : (mo_churchLine (mo_next v)) 209 4 = ((mo_next v) 209 4) := by rw [o_mo_churchLine (by omega)] <;> rfl
    have hb_107 : ((mo_churchLine (mo_next v)) 203 7) ≤ ((mo_churchLine (mo_next v)) 203 6) ∧ (((mo_churchLine (mo_next v)) 203 8) = 0 ∨ ((mo_churchLine (mo_next v)) 203 9) < ((mo_churchLine (mo_next v)) 203 7)) ∧ ((mo_churchLine (mo_next v)) 203 9) ≤ ((mo_churchLine (mo_next v)) 203 7) := n0_mo_churchLine (v := (mo_next v)) hX_7 hp_102 hp_103 hp_104
    have hb_108 : ((mo_next v) 203 9) ≤ ((mo_churchLine (mo_next v)) 203 9) := n1_mo_churchLine (v := (mo_next v)) hX_7 hp_102 hp_103 hp_104
    have hb_109 : ((mo_churchLine (mo_next v)) 210 46) ≤ ((mo_churchLine (mo_next v)) 210 44) := n2_mo_churchLine (v := (mo_next v)) hX_7 hp_102 hp_103 hp_104
    have hl_110 := n3_mo_churchLine (v := (mo_next v)) hX_7 hp_102 hp_103 hp_104
    refine r_ex 1 (pc' := 275) (lo' := [some (.inr (.inr (some 203))), some (.inl w)]) (st' := []) rfl ?_
    refine r_ret (rr := none) (I := .return_) (pc0 := 275) (len := 1) rfl rfl ?_
    exact hQ hX_105 (show ((mo_churchLine (mo_next v)) 203 7) ≤ ((mo_churchLine (mo_next v)) 203 6) ∧ (((mo_churchLine (mo_next v)) 203 8) = 0 ∨ ((mo_churchLine (mo_next v)) 203 9) < ((mo_churchLine (mo_next v)) 203 7)) ∧ ((mo_churchLine (mo_next v)) 203 9) ≤ ((mo_churchLine (mo_next v)) 203 7) from (by first | assumption | omega | (unfold R32 at *; omega) | (unfold R64 at *; omega) | (simp only [R32, R64] at *; omega))) (show (v 203 9) ≤ ((mo_churchLine (mo_next v)) 203 9) from (by first | assumption | omega | (unfold R32 at *; omega) | (unfold R64 at *; omega) | (simp only [R32, R64] at *; omega))) (show ((mo_churchLine (mo_next v)) 210 46) ≤ ((mo_churchLine (mo_next v)) 210 44) from (by first | assumption | omega | (unfold R32 at *; omega) | (unfold R64 at *; omega) | (simp only [R32, R64] at *; omega))) (hl_110)

theorem o_mo_line_146 {rk : Nat} {v : VS} {w : Int} (hk : (rk < 203 ∨ 203 < rk) ∧ (rk < 210 ∨ 217 < rk)) : (mo_line_146 v w) rk = v rk := by
  unfold mo_line_146
  by_cases hc_ : w = 2
  · rw [if_pos hc_] <;> clear hc_
    all_goals (show (mo_churchLine (mo_next v)) rk = _)
    all_goals (rw [o_mo_churchLine (by omega), o_mo_next (by omega)])
  · rw [if_neg hc_] <;> clear hc_
    by_cases hc_ : w = 3
    · rw [if_pos hc_] <;> clear hc_
      all_goals (show (mo_earLine (mo_next v)) rk = _)
      all_goals (rw [o_mo_earLine (by omega), o_mo_next (by omega)])
    · rw [if_neg hc_] <;> clear hc_
      by_cases hc_ : w = 4
      · rw [if_pos hc_] <;> clear hc_
        all_goals (show (mo_startLine (mo_next v)) rk = _)
        all_goals (rw [o_mo_startLine (by omega), o_mo_next (by omega)])
      · rw [if_neg hc_] <;> clear hc_
        by_cases hc_ : w = 5
        · rw [if_pos hc_] <;> clear hc_
          all_goals (show (mo_windLine (mo_next v)) rk = _)
          all_goals (rw [o_mo_windLine (by omega), o_mo_next (by omega)])
        · rw [if_neg hc_] <;> clear hc_
          by_cases hc_ : w = 6
          · rw [if_pos hc_] <;> clear hc_
            all_goals (show (mo_span6 (mo_asks (mo_next v) 419) ((mo_asks (mo_next v) 419) 210 47)) rk = _)
            all_goals (rw [o_mo_span6 (by omega), o_mo_asks (by omega), o_mo_next (by omega)])
          · rw [if_neg hc_] <;> clear hc_
            by_cases hc_ : w = 7
            · rw [if_pos hc_] <;> clear hc_
              all_goals (show (mo_span7 (mo_next v) ((mo_next v) 210 44)) rk = _)
              all_goals (rw [o_mo_span7 (by omega), o_mo_next (by omega)])
            · rw [if_neg hc_] <;> clear hc_
              all_goals (show (mo_span8 (mo_asks (mo_next v) 47) ((mo_asks (mo_next v) 47) 210 44)) rk = _)
              all_goals (rw [o_mo_span8 (by omega), o_mo_asks (by omega), o_mo_next (by omega)])

theorem w_mo_line {X : PX} {d b : Nat} {v : VS}  (hX : XI v) (hp_a : (v 203 7) ≤ (v 203 6) ∧ ((v 203 8) = 0 ∨ (v 203 9) < (v 203 7)) ∧ (v 203 9) ≤ (v 203 7)) (hp_b : (v 210 46) ≤ (v 210 44)) (hp_c : CF v) {Q : Option PV → Nat → VS → Prop} (hQ : XI (mo_line v) → (((mo_line v) 203 7) ≤ ((mo_line v) 203 6) ∧ (((mo_line v) 203 8) = 0 ∨ ((mo_line v) 203 9) < ((mo_line v) 203 7)) ∧ ((mo_line v) 203 9) ≤ ((mo_line v) 203 7)) → ((v 203 9) ≤ ((mo_line v) 203 9)) → (((mo_line v) 210 46) ≤ ((mo_line v) 210 44)) → (CF (mo_line v)) → Q none b (mo_line v)) : WV X (d + 1 + 1 + 1 + 1 + 1 + 1) 222 0 [some (.inr (.inr (some 203))), none] [] b v Q := by
  rw [mo_line] at hQ
  refine r_ex 2 (pc' := 4) (lo' := [some (.inr (.inr (some 203))), none]) (st' := [.inr (.inl 47724803), .inr (.inr (some 203))]) rfl ?_
  have hp_1 : R64 (47724803 : Int) := (by first | assumption | omega | (unfold R32 at *; omega) | (unfold R64 at *; omega) | (simp only [R32, R64] at *; omega))
  have hb_2 : 0 ≤ v 203 12 ∧ v 203 12 ≤ 3 := hX 203 12
  have hb_3 : 0 ≤ v 203 8 ∧ v 203 8 ≤ 4 := hX 203 8
  have hb_4 : -9223372036854775808 ≤ v 203 11 ∧ v 203 11 ≤ 9223372036854775807 := hX 203 11
  refine r_callb (P := (v 203 12) = 0 ∧ (v 203 8) = 1 ∧ (v 203 11) = (47724803 : Int)) (m := 218) (args := [.inr (.inr (some 203)), .inr (.inl 47724803)]) (n' := 222) (pc' := 7) (lo' := [some (.inr (.inr (some 203))), none]) (st' := []) (I := .invokevirtual 218) (pc0 := 4) (len := 3) rfl rfl rfl (e_mo_is hX hp_1) (fun h_4 => ?_) (fun h_4 => ?_)
  · show WV _ _ _ 7 _ _ _ _ _
    rw [if_pos h_4] at hQ
    refine r_ex 9 (pc' := 117) (lo' := [some (.inr (.inr (some 203))), some (.inl 2)]) (st' := [.inl (v 203 12)]) rfl ?_
    have hb_5 : 0 ≤ (v 203 12) ∧ (v 203 12) ≤ 3 := hX 203 12
    refine n_if_ne (pc0 := 117) (len := 3) (t := 138) rfl (by first | assumption | omega | (unfold R32 at *; omega) | (unfold R64 at *; omega) | (simp only [R32, R64] at *; omega)) (fun h_117 => ?_) (fun h_117 => ?_)
    · show WV _ _ _ 138 _ _ _ _ _
      rw [if_neg h_117] at hQ
      refine r_ex 2 (pc' := 142) (lo' := [some (.inr (.inr (some 203))), some (.inl 2)]) (st' := [.inl (v 203 12)]) rfl ?_
      refine n_if_eq (pc0 := 142) (len := 3) (t := 146) rfl (by first | assumption | omega | (unfold R32 at *; omega) | (unfold R64 at *; omega) | (simp only [R32, R64] at *; omega)) (fun h_142 => ?_) (fun h_142 => ?_)
      · show WV _ _ _ 146 _ _ _ _ _
        rw [if_pos h_142] at hQ
        exact l_mo_line_146  v 2  hX (show (2 = 2 ∧ (v 210 46) < (v 210 44)) ∨ (2 = 3 ∧ (v 210 47) < 12) ∨ (2 = 4 ∧ (v 210 48) < 4) ∨ (2 = 5 ∧ (v 210 49) < 6) ∨ (2 = 6 ∧ (v 210 50) < 6) ∨ (2 = 7 ∧ (v 210 51) < 6) ∨ (2 = 8 ∧ (v 210 52) < 6) from (by first | assumption | omega | (unfold R32 at *; omega) | (unfold R64 at *; omega) | (simp only [R32, R64] at *; omega))) (show (v 210 46) ≤ (v 210 44) from (by first | assumption | omega | (unfold R32 at *; omega) | (unfold R64 at *; omega) | (simp only [R32, R64] at *; omega))) (show (v 203 7) ≤ (v 203 6) ∧ ((v 203 8) = 0 ∨ (v 203 9) < (v 203 7)) ∧ (v 203 9) ≤ (v 203 7) from (by first | assumption | omega | (unfold R32 at *; omega) | (unfold R64 at *; omega) | (simp only [R32, R64] at *; omega))) (hp_c) (fun hx_ p_0 p_1 p_2 p_3 => hQ hx_ p_0 (by have q_ : (v 203 9) ≤ ((mo_line_146  v 2) 203 9) := p_1; omega) p_2 p_3)
      · show WV _ _ _ 145 _ _ _ _ _
        rw [if_neg h_142] at hQ
        refine r_ret (rr := none) (I := .return_) (pc0 := 145) (len := 1) rfl rfl ?_
        exact hQ hX (show (v 203 7) ≤ (v 203 6) ∧ ((v 203 8) = 0 ∨ (v 203 9) < (v 203 7)) ∧ (v 203 9) ≤ (v 203 7) from (by first | assumption | omega | (unfold R32 at *; omega) | (unfold R64 at *; omega) | (simp only [R32, R64] at *; omega))) (show (v 203 9) ≤ (v 203 9) from (by first | assumption | omega | (unfold R32 at *; omega) | (unfold R64 at *; omega) | (simp only [R32, R64] at *; omega))) (show (v 210 46) ≤ (v 210 44) from (by first | assumption | omega | (unfold R32 at *; omega) | (unfold R64 at *; omega) | (simp only [R32, R64] at *; omega))) (hp_c)
    · show WV _ _ _ 120 _ _ _ _ _
      rw [if_pos h_117] at hQ
      refine r_ex 2 (pc' := 122) (lo' := [some (.inr (.inr (some 203))), some (.inl 2)]) (st' := [.inl 2, .inr (.inr (some 203))]) rfl ?_
      refine r_call (m := 223) (args := [.inr (.inr (some 203)), .inl 2]) (n' := 222) (pc' := 125) (lo' := [some (.inr (.inr (some 203))), some (.inl 2)]) (st' := []) (I := .invokevirtual 223) (pc0 := 122) (len := 3) rfl rfl rfl (e_mo_hr2 hX) ?_
      show WV _ _ _ 125 _ [.inl (v 210 46)] _ _ _
      have hb_111 : 0 ≤ (v 210 46) ∧ (v 210 46) ≤ 9 := hX 210 46
      refine r_ex 2 (pc' := 127) (lo' := [some (.inr (.inr (some 203))), some (.inl 2)]) (st' := [.inl 2, .inr (.inr (some 203)), .inl (v 210 46)]) rfl ?_
      refine r_call (m := 224) (args := [.inr (.inr (some 203)), .inl 2]) (n' := 222) (pc' := 130) (lo' := [some (.inr (.inr (some 203))), some (.inl 2)]) (st' := [.inl (v 210 46)]) (I := .invokevirtual 224) (pc0 := 127) (len := 3) rfl rfl rfl (e_mo_most2 hX) ?_
      show WV _ _ _ 130 _ [.inl (v 210 44), .inl (v 210 46)] _ _ _
      have hb_112 : 0 ≤ (v 210 44) ∧ (v 210 44) ≤ 9 := hX 210 44
      refine n_ic_ne (pc0 := 130) (len := 3) (t := 138) rfl (by first | assumption | omega | (unfold R32 at *; omega) | (unfold R64 at *; omega) | (simp only [R32, R64] at *; omega)) (by first | assumption | omega | (unfold R32 at *; omega) | (unfold R64 at *; omega) | (simp only [R32, R64] at *; omega)) (fun h_130 => ?_) (fun h_130 => ?_)
      · show WV _ _ _ 138 _ _ _ _ _
        rw [if_neg h_130] at hQ
        refine r_ex 2 (pc' := 142) (lo' := [some (.inr (.inr (some 203))), some (.inl 2)]) (st' := [.inl (v 203 12)]) rfl ?_
        refine n_if_eq (pc0 := 142) (len := 3) (t := 146) rfl (by first | assumption | omega | (unfold R32 at *; omega) | (unfold R64 at *; omega) | (simp only [R32, R64] at *; omega)) (fun h_142 => ?_) (fun h_142 => ?_)
        · show WV _ _ _ 146 _ _ _ _ _
          rw [if_pos h_142] at hQ
          exact l_mo_line_146  v 2  hX (show (2 = 2 ∧ (v 210 46) < (v 210 44)) ∨ (2 = 3 ∧ (v 210 47) < 12) ∨ (2 = 4 ∧ (v 210 48) < 4) ∨ (2 = 5 ∧ (v 210 49) < 6) ∨ (2 = 6 ∧ (v 210 50) < 6) ∨ (2 = 7 ∧ (v 210 51) < 6) ∨ (2 = 8 ∧ (v 210 52) < 6) from (by first | assumption | omega | (unfold R32 at *; omega) | (unfold R64 at *; omega) | (simp only [R32, R64] at *; omega))) (show (v 210 46) ≤ (v 210 44) from (by first | assumption | omega | (unfold R32 at *; omega) | (unfold R64 at *; omega) | (simp only [R32, R64] at *; omega))) (show (v 203 7) ≤ (v 203 6) ∧ ((v 203 8) = 0 ∨ (v 203 9) < (v 203 7)) ∧ (v 203 9) ≤ (v 203 7) from (by first | assumption | omega | (unfold R32 at *; omega) | (unfold R64 at *; omega) | (simp only [R32, R64] at *; omega))) (hp_c) (fun hx_ p_0 p_1 p_2 p_3 => hQ hx_ p_0 (by have q_ : (v 203 9) ≤ ((mo_line_146  v 2) 203 9) := p_1; omega) p_2 p_3)
        · show WV _ _ _ 145 _ _ _ _ _
          rw [if_neg h_142] at hQ
          refine r_ret (rr := none) (I := .return_) (pc0 := 145) (len := 1) rfl rfl ?_
          exact hQ hX (show (v 203 7) ≤ (v 203 6) ∧ ((v 203 8) = 0 ∨ (v 203 9) < (v 203 7)) ∧ (v 203 9) ≤ (v 203 7) from (by first | assumption | omega | (unfold R32 at *; omega) | (unfold R64 at *; omega) | (simp only [R32, R64] at *; omega))) (show (v 203 9) ≤ (v 203 9) from (by first | assumption | omega | (unfold R32 at *; omega) | (unfold R64 at *; omega) | (simp only [R32, R64] at *; omega))) (show (v 210 46) ≤ (v 210 44) from (by first | assumption | omega | (unfold R32 at *; omega) | (unfold R64 at *; omega) | (simp only [R32, R64] at *; omega))) (hp_c)
      · show WV _ _ _ 133 _ _ _ _ _
        rw [if_pos h_130] at hQ
        refine r_ex 2 (pc' := 135) (lo' := [some (.inr (.inr (some 203))), some (.inl 2)]) (st' := [.inl 3, .inr (.inr (some 203))]) rfl ?_
        have hp_113 : 1 ≤ (3 : Int) ∧ (3 : Int) ≤ 3 := (by first | assumption | omega | (unfold R32 at *; omega) | (unfold R64 at *; omega) | (simp only [R32, R64] at *; omega))
        have hp_114 : (v 203 7) ≤ (v 203 6) ∧ ((v 203 8) = 0 ∨ (v 203 9) < (v 203 7)) ∧ (v 203 9) ≤ (v 203 7) := (show (v 203 7) ≤ (v 203 6) ∧ ((v 203 8) = 0 ∨ (v 203 9) < (v 203 7)) ∧ (v 203 9) ≤ (v 203 7) from (by first | assumption | omega | (unfold R32 at *; omega) | (unfold R64 at *; omega) | (simp only [R32, R64] at *; omega)))
        refine r_call (m := 219) (args := [.inr (.inr (some 203)), .inl 3]) (n' := 222) (pc' := 138) (lo' := [some (.inr (.inr (some 203))), some (.inl 2)]) (st' := []) (I := .invokevirtual 219) (pc0 := 135) (len := 3) rfl rfl rfl (e_mo_fails hX hp_113 hp_114) ?_
        show WV _ _ _ 138 _ [] _ (mo_fails v 3) _
        have hX_115 : XI (mo_fails v 3) := i_mo_fails (v := v) (k := 3) hX hp_113 hp_114
        have hb_116 : (mo_fails v 3) 209 4 = (v 209 4) := by rw [o_mo_fails (by omega)] <;> rfl
        have hb_117 : (mo_fails v 3) 210 44 = (v 210 44) := by rw [o_mo_fails (by omega)] <;> rfl
        have hb_118 : (mo_fails v 3) 210 46 = (v 210 46) := by rw [o_mo_fails (by omega)] <;> rfl
        have hb_119 : (mo_fails v 3) 210 47 = (v 210 47) := by rw [o_mo_fails (by omega)] <;> rfl
        have hb_120 : (mo_fails v 3) 210 48 = (v 210 48) := by rw [o_mo_fails (by omega)] <;> rfl
        have hb_121 : (mo_fails v 3) 210 49 = (v 210 49) := by rw [o_mo_fails (by omega)] <;> rfl
        have hb_122 : (mo_fails v 3) 210 50 = (v 210 50) := by rw [o_mo_fails (by omega)] <;> rfl
        have hb_123 : (mo_fails v 3) 210 51 = (v 210 51) := by rw [o_mo_fails (by omega)] <;> rfl
        have hb_124 : (mo_fails v 3) 210 52 = (v 210 52) := by rw [o_mo_fails (by omega)] <;> rfl
        have hb_125 : ((mo_fails v 3) 203 7) ≤ ((mo_fails v 3) 203 6) ∧ (((mo_fails v 3) 203 8) = 0 ∨ ((mo_fails v 3) 203 9) < ((mo_fails v 3) 203 7)) ∧ ((mo_fails v 3) 203 9) ≤ ((mo_fails v 3) 203 7) := n0_mo_fails (v := v) (k := 3) hX hp_113 hp_114
        have hb_126 : (v 203 9) ≤ ((mo_fails v 3) 203 9) := n1_mo_fails (v := v) (k := 3) hX hp_113 hp_114
        have hb_127 : ((mo_fails v 3) 203 12) ≠ 0 := n2_mo_fails (v := v) (k := 3) hX hp_113 hp_114
        refine r_ex 2 (pc' := 142) (lo' := [some (.inr (.inr (some 203))), some (.inl 2)]) (st' := [.inl ((mo_fails v 3) 203 12)]) rfl ?_
        have hb_128 : 0 ≤ ((mo_fails v 3) 203 12) ∧ ((mo_fails v 3) 203 12) ≤ 3 := hX_115 203 12
        refine n_if_eq (pc0 := 142) (len := 3) (t := 146) rfl (by first | assumption | omega | (unfold R32 at *; omega) | (unfold R64 at *; omega) | (simp only [R32, R64] at *; omega)) (fun h_142 => ?_) (fun h_142 => ?_)
        · show WV _ _ _ 146 _ _ _ _ _
          rw [if_pos h_142] at hQ
          exact l_mo_line_146  (mo_fails v 3) 2  hX_115 (show (2 = 2 ∧ ((mo_fails v 3) 210 46) < ((mo_fails v 3) 210 44)) ∨ (2 = 3 ∧ ((mo_fails v 3) 210 47) < 12) ∨ (2 = 4 ∧ ((mo_fails v 3) 210 48) < 4) ∨ (2 = 5 ∧ ((mo_fails v 3) 210 49) < 6) ∨ (2 = 6 ∧ ((mo_fails v 3) 210 50) < 6) ∨ (2 = 7 ∧ ((mo_fails v 3) 210 51) < 6) ∨ (2 = 8 ∧ ((mo_fails v 3) 210 52) < 6) from (by first | assumption | omega | (unfold R32 at *; omega) | (unfold R64 at *; omega) | (simp only [R32, R64] at *; omega))) (show ((mo_fails v 3) 210 46) ≤ ((mo_fails v 3) 210 44) from (by first | assumption | omega | (unfold R32 at *; omega) | (unfold R64 at *; omega) | (simp only [R32, R64] at *; omega))) (show ((mo_fails v 3) 203 7) ≤ ((mo_fails v 3) 203 6) ∧ (((mo_fails v 3) 203 8) = 0 ∨ ((mo_fails v 3) 203 9) < ((mo_fails v 3) 203 7)) ∧ ((mo_fails v 3) 203 9) ≤ ((mo_fails v 3) 203 7) from (by first | assumption | omega | (unfold R32 at *; omega) | (unfold R64 at *; omega) | (simp only [R32, R64] at *; omega))) (show CF (mo_fails v 3) from (show CF (mo_fails v 3) from CF.of hp_c (fun k h1 h2 => by rw [o_mo_fails (by omega)]))) (fun hx_ p_0 p_1 p_2 p_3 => hQ hx_ p_0 (by have q_ : ((mo_fails v 3) 203 9) ≤ ((mo_line_146  (mo_fails v 3) 2) 203 9) := p_1; omega) p_2 p_3)
        · show WV _ _ _ 145 _ _ _ _ _
          rw [if_neg h_142] at hQ
          refine r_ret (rr := none) (I := .return_) (pc0 := 145) (len := 1) rfl rfl ?_
          exact hQ hX_115 (show ((mo_fails v 3) 203 7) ≤ ((mo_fails v 3) 203 6) ∧ (((mo_fails v 3) 203 8) = 0 ∨ ((mo_fails v 3) 203 9) < ((mo_fails v 3) 203 7)) ∧ ((mo_fails v 3) 203 9) ≤ ((mo_fails v 3) 203 7) from (by first | assumption | omega | (unfold R32 at *; omega) | (unfold R64 at *; omega) | (simp only [R32, R64] at *; omega))) (show (v 203 9) ≤ ((mo_fails v 3) 203 9) from (by first | assumption | omega | (unfold R32 at *; omega) | (unfold R64 at *; omega) | (simp only [R32, R64] at *; omega))) (show ((mo_fails v 3) 210 46) ≤ ((mo_fails v 3) 210 44) from (by first | assumption | omega | (unfold R32 at *; omega) | (unfold R64 at *; omega) | (simp only [R32, R64] at *; omega))) (show CF (mo_fails v 3) from (show CF (mo_fails v 3) from CF.of hp_c (fun k h1 h2 => by rw [o_mo_fails (by omega)])))
  · show WV _ _ _ 7 _ _ _ _ _
    rw [if_neg h_4] at hQ
    refine r_ex 3 (pc' := 18) (lo' := [some (.inr (.inr (some 203))), none]) (st' := [.inr (.inl 3690), .inr (.inr (some 203))]) rfl ?_
    have hp_129 : R64 (3690 : Int) := (by first | assumption | omega | (unfold R32 at *; omega) | (unfold R64 at *; omega) | (simp only [R32, R64] at *; omega))
    refine r_callb (P := (v 203 12) = 0 ∧ (v 203 8) = 1 ∧ (v 203 11) = (3690 : Int)) (m := 218) (args := [.inr (.inr (some 203)), .inr (.inl 3690)]) (n' := 222) (pc' := 21) (lo' := [some (.inr (.inr (some 203))), none]) (st' := []) (I := .invokevirtual 218) (pc0 := 18) (len := 3) rfl rfl rfl (e_mo_is hX hp_129) (fun h_18 => ?_) (fun h_18 => ?_)
    · show WV _ _ _ 21 _ _ _ _ _
      rw [if_pos h_18] at hQ
      clear h_4
      refine r_ex 9 (pc' := 117) (lo' := [some (.inr (.inr (some 203))), some (.inl 3)]) (st' := [.inl (v 203 12)]) rfl ?_
      have hb_130 : 0 ≤ (v 203 12) ∧ (v 203 12) ≤ 3 := hX 203 12
      refine n_if_ne (pc0 := 117) (len := 3) (t := 138) rfl (by first | assumption | omega | (unfold R32 at *; omega) | (unfold R64 at *; omega) | (simp only [R32, R64] at *; omega)) (fun h_117 => ?_) (fun h_117 => ?_)
      · show WV _ _ _ 138 _ _ _ _ _
        rw [if_neg h_117] at hQ
        refine r_ex 2 (pc' := 142) (lo' := [some (.inr (.inr (some 203))), some (.inl 3)]) (st' := [.inl (v 203 12)]) rfl ?_
        refine n_if_eq (pc0 := 142) (len := 3) (t := 146) rfl (by first | assumption | omega | (unfold R32 at *; omega) | (unfold R64 at *; omega) | (simp only [R32, R64] at *; omega)) (fun h_142 => ?_) (fun h_142 => ?_)
        · show WV _ _ _ 146 _ _ _ _ _
          rw [if_pos h_142] at hQ
          exact l_mo_line_146  v 3  hX (show (3 = 2 ∧ (v 210 46) < (v 210 44)) ∨ (3 = 3 ∧ (v 210 47) < 12) ∨ (3 = 4 ∧ (v 210 48) < 4) ∨ (3 = 5 ∧ (v 210 49) < 6) ∨ (3 = 6 ∧ (v 210 50) < 6) ∨ (3 = 7 ∧ (v 210 51) < 6) ∨ (3 = 8 ∧ (v 210 52) < 6) from (by first | assumption | omega | (unfold R32 at *; omega) | (unfold R64 at *; omega) | (simp only [R32, R64] at *; omega))) (show (v 210 46) ≤ (v 210 44) from (by first | assumption | omega | (unfold R32 at *; omega) | (unfold R64 at *; omega) | (simp only [R32, R64] at *; omega))) (show (v 203 7) ≤ (v 203 6) ∧ ((v 203 8) = 0 ∨ (v 203 9) < (v 203 7)) ∧ (v 203 9) ≤ (v 203 7) from (by first | assumption | omega | (unfold R32 at *; omega) | (unfold R64 at *; omega) | (simp only [R32, R64] at *; omega))) (hp_c) (fun hx_ p_0 p_1 p_2 p_3 => hQ hx_ p_0 (by have q_ : (v 203 9) ≤ ((mo_line_146  v 3) 203 9) := p_1; omega) p_2 p_3)
        · show WV _ _ _ 145 _ _ _ _ _
          rw [if_neg h_142] at hQ
          refine r_ret (rr := none) (I := .return_) (pc0 := 145) (len := 1) rfl rfl ?_
          exact hQ hX (show (v 203 7) ≤ (v 203 6) ∧ ((v 203 8) = 0 ∨ (v 203 9) < (v 203 7)) ∧ (v 203 9) ≤ (v 203 7) from (by first | assumption | omega | (unfold R32 at *; omega) | (unfold R64 at *; omega) | (simp only [R32, R64] at *; omega))) (show (v 203 9) ≤ (v 203 9) from (by first | assumption | omega | (unfold R32 at *; omega) | (unfold R64 at *; omega) | (simp only [R32, R64] at *; omega))) (show (v 210 46) ≤ (v 210 44) from (by first | assumption | omega | (unfold R32 at *; omega) | (unfold R64 at *; omega) | (simp only [R32, R64] at *; omega))) (hp_c)
      · show WV _ _ _ 120 _ _ _ _ _
        rw [if_pos h_117] at hQ
        refine r_ex 2 (pc' := 122) (lo' := [some (.inr (.inr (some 203))), some (.inl 3)]) (st' := [.inl 3, .inr (.inr (some 203))]) rfl ?_
        refine r_call (m := 223) (args := [.inr (.inr (some 203)), .inl 3]) (n' := 222) (pc' := 125) (lo' := [some (.inr (.inr (some 203))), some (.inl 3)]) (st' := []) (I := .invokevirtual 223) (pc0 := 122) (len := 3) rfl rfl rfl (e_mo_hr3 hX) ?_
        show WV _ _ _ 125 _ [.inl (v 210 47)] _ _ _
        have hb_131 : 0 ≤ (v 210 47) ∧ (v 210 47) ≤ 12 := hX 210 47
        refine r_ex 2 (pc' := 127) (lo' := [some (.inr (.inr (some 203))), some (.inl 3)]) (st' := [.inl 3, .inr (.inr (some 203)), .inl (v 210 47)]) rfl ?_
        refine r_call (m := 224) (args := [.inr (.inr (some 203)), .inl 3]) (n' := 222) (pc' := 130) (lo' := [some (.inr (.inr (some 203))), some (.inl 3)]) (st' := [.inl (v 210 47)]) (I := .invokevirtual 224) (pc0 := 127) (len := 3) rfl rfl rfl (e_mo_most3 hX) ?_
        show WV _ _ _ 130 _ [.inl 12, .inl (v 210 47)] _ _ _
        refine n_ic_ne (pc0 := 130) (len := 3) (t := 138) rfl (by first | assumption | omega | (unfold R32 at *; omega) | (unfold R64 at *; omega) | (simp only [R32, R64] at *; omega)) (by first | assumption | omega | (unfold R32 at *; omega) | (unfold R64 at *; omega) | (simp only [R32, R64] at *; omega)) (fun h_130 => ?_) (fun h_130 => ?_)
        · show WV _ _ _ 138 _ _ _ _ _
          rw [if_neg h_130] at hQ
          refine r_ex 2 (pc' := 142) (lo' := [some (.inr (.inr (some 203))), some (.inl 3)]) (st' := [.inl (v 203 12)]) rfl ?_
          refine n_if_eq (pc0 := 142) (len := 3) (t := 146) rfl (by first | assumption | omega | (unfold R32 at *; omega) | (unfold R64 at *; omega) | (simp only [R32, R64] at *; omega)) (fun h_142 => ?_) (fun h_142 => ?_)
          · show WV _ _ _ 146 _ _ _ _ _
            rw [if_pos h_142] at hQ
            exact l_mo_line_146  v 3  hX (show (3 = 2 ∧ (v 210 46) < (v 210 44)) ∨ (3 = 3 ∧ (v 210 47) < 12) ∨ (3 = 4 ∧ (v 210 48) < 4) ∨ (3 = 5 ∧ (v 210 49) < 6) ∨ (3 = 6 ∧ (v 210 50) < 6) ∨ (3 = 7 ∧ (v 210 51) < 6) ∨ (3 = 8 ∧ (v 210 52) < 6) from (by first | assumption | omega | (unfold R32 at *; omega) | (unfold R64 at *; omega) | (simp only [R32, R64] at *; omega))) (show (v 210 46) ≤ (v 210 44) from (by first | assumption | omega | (unfold R32 at *; omega) | (unfold R64 at *; omega) | (simp only [R32, R64] at *; omega))) (show (v 203 7) ≤ (v 203 6) ∧ ((v 203 8) = 0 ∨ (v 203 9) < (v 203 7)) ∧ (v 203 9) ≤ (v 203 7) from (by first | assumption | omega | (unfold R32 at *; omega) | (unfold R64 at *; omega) | (simp only [R32, R64] at *; omega))) (hp_c) (fun hx_ p_0 p_1 p_2 p_3 => hQ hx_ p_0 (by have q_ : (v 203 9) ≤ ((mo_line_146  v 3) 203 9) := p_1; omega) p_2 p_3)
          · show WV _ _ _ 145 _ _ _ _ _
            rw [if_neg h_142] at hQ
            refine r_ret (rr := none) (I := .return_) (pc0 := 145) (len := 1) rfl rfl ?_
            exact hQ hX (show (v 203 7) ≤ (v 203 6) ∧ ((v 203 8) = 0 ∨ (v 203 9) < (v 203 7)) ∧ (v 203 9) ≤ (v 203 7) from (by first | assumption | omega | (unfold R32 at *; omega) | (unfold R64 at *; omega) | (simp only [R32, R64] at *; omega))) (show (v 203 9) ≤ (v 203 9) from (by first | assumption | omega | (unfold R32 at *; omega) | (unfold R64 at *; omega) | (simp only [R32, R64] at *; omega))) (show (v 210 46) ≤ (v 210 44) from (by first | assumption | omega | (unfold R32 at *; omega) | (unfold R64 at *; omega) | (simp only [R32, R64] at *; omega))) (hp_c)
        · show WV _ _ _ 133 _ _ _ _ _
          rw [if_pos h_130] at hQ
          refine r_ex 2 (pc' := 135) (lo' := [some (.inr (.inr (some 203))), some (.inl 3)]) (st' := [.inl 3, .inr (.inr (some 203))]) rfl ?_
          have hp_132 : 1 ≤ (3 : Int) ∧ (3 : Int) ≤ 3 := (by first | assumption | omega | (unfold R32 at *; omega) | (unfold R64 at *; omega) | (simp only [R32, R64] at *; omega))
          have hp_133 : (v 203 7) ≤ (v 203 6) ∧ ((v 203 8) = 0 ∨ (v 203 9) < (v 203 7)) ∧ (v 203 9) ≤ (v 203 7) := (show (v 203 7) ≤ (v 203 6) ∧ ((v 203 8) = 0 ∨ (v 203 9) < (v 203 7)) ∧ (v 203 9) ≤ (v 203 7) from (by first | assumption | omega | (unfold R32 at *; omega) | (unfold R64 at *; omega) | (simp only [R32, R64] at *; omega)))
          refine r_call (m := 219) (args := [.inr (.inr (some 203)), .inl 3]) (n' := 222) (pc' := 138) (lo' := [some (.inr (.inr (some 203))), some (.inl 3)]) (st' := []) (I := .invokevirtual 219) (pc0 := 135) (len := 3) rfl rfl rfl (e_mo_fails hX hp_132 hp_133) ?_
          show WV _ _ _ 138 _ [] _ (mo_fails v 3) _
          have hX_134 : XI (mo_fails v 3) := i_mo_fails (v := v) (k := 3) hX hp_132 hp_133
          have hb_135 : (mo_fails v 3) 209 4 = (v 209 4) := by rw [o_mo_fails (by omega)] <;> rfl
          have hb_136 : (mo_fails v 3) 210 44 = (v 210 44) := by rw [o_mo_fails (by omega)] <;> rfl
          have hb_137 : (mo_fails v 3) 210 46 = (v 210 46) := by rw [o_mo_fails (by omega)] <;> rfl
          have hb_138 : (mo_fails v 3) 210 47 = (v 210 47) := by rw [o_mo_fails (by omega)] <;> rfl
          have hb_139 : (mo_fails v 3) 210 48 = (v 210 48) := by rw [o_mo_fails (by omega)] <;> rfl
          have hb_140 : (mo_fails v 3) 210 49 = (v 210 49) := by rw [o_mo_fails (by omega)] <;> rfl
          have hb_141 : (mo_fails v 3) 210 50 = (v 210 50) := by rw [o_mo_fails (by omega)] <;> rfl
          have hb_142 : (mo_fails v 3) 210 51 = (v 210 51) := by rw [o_mo_fails (by omega)] <;> rfl
          have hb_143 : (mo_fails v 3) 210 52 = (v 210 52) := by rw [o_mo_fails (by omega)] <;> rfl
          have hb_144 : ((mo_fails v 3) 203 7) ≤ ((mo_fails v 3) 203 6) ∧ (((mo_fails v 3) 203 8) = 0 ∨ ((mo_fails v 3) 203 9) < ((mo_fails v 3) 203 7)) ∧ ((mo_fails v 3) 203 9) ≤ ((mo_fails v 3) 203 7) := n0_mo_fails (v := v) (k := 3) hX hp_132 hp_133
          have hb_145 : (v 203 9) ≤ ((mo_fails v 3) 203 9) := n1_mo_fails (v := v) (k := 3) hX hp_132 hp_133
          have hb_146 : ((mo_fails v 3) 203 12) ≠ 0 := n2_mo_fails (v := v) (k := 3) hX hp_132 hp_133
          refine r_ex 2 (pc' := 142) (lo' := [some (.inr (.inr (some 203))), some (.inl 3)]) (st' := [.inl ((mo_fails v 3) 203 12)]) rfl ?_
          have hb_147 : 0 ≤ ((mo_fails v 3) 203 12) ∧ ((mo_fails v 3) 203 12) ≤ 3 := hX_134 203 12
          refine n_if_eq (pc0 := 142) (len := 3) (t := 146) rfl (by first | assumption | omega | (unfold R32 at *; omega) | (unfold R64 at *; omega) | (simp only [R32, R64] at *; omega)) (fun h_142 => ?_) (fun h_142 => ?_)
          · show WV _ _ _ 146 _ _ _ _ _
            rw [if_pos h_142] at hQ
            exact l_mo_line_146  (mo_fails v 3) 3  hX_134 (show (3 = 2 ∧ ((mo_fails v 3) 210 46) < ((mo_fails v 3) 210 44)) ∨ (3 = 3 ∧ ((mo_fails v 3) 210 47) < 12) ∨ (3 = 4 ∧ ((mo_fails v 3) 210 48) < 4) ∨ (3 = 5 ∧ ((mo_fails v 3) 210 49) < 6) ∨ (3 = 6 ∧ ((mo_fails v 3) 210 50) < 6) ∨ (3 = 7 ∧ ((mo_fails v 3) 210 51) < 6) ∨ (3 = 8 ∧ ((mo_fails v 3) 210 52) < 6) from (by first | assumption | omega | (unfold R32 at *; omega) | (unfold R64 at *; omega) | (simp only [R32, R64] at *; omega))) (show ((mo_fails v 3) 210 46) ≤ ((mo_fails v 3) 210 44) from (by first | assumption | omega | (unfold R32 at *; omega) | (unfold R64 at *; omega) | (simp only [R32, R64] at *; omega))) (show ((mo_fails v 3) 203 7) ≤ ((mo_fails v 3) 203 6) ∧ (((mo_fails v 3) 203 8) = 0 ∨ ((mo_fails v 3) 203 9) < ((mo_fails v 3) 203 7)) ∧ ((mo_fails v 3) 203 9) ≤ ((mo_fails v 3) 203 7) from (by first | assumption | omega | (unfold R32 at *; omega) | (unfold R64 at *; omega) | (simp only [R32, R64] at *; omega))) (show CF (mo_fails v 3) from (show CF (mo_fails v 3) from CF.of hp_c (fun k h1 h2 => by rw [o_mo_fails (by omega)]))) (fun hx_ p_0 p_1 p_2 p_3 => hQ hx_ p_0 (by have q_ : ((mo_fails v 3) 203 9) ≤ ((mo_line_146  (mo_fails v 3) 3) 203 9) := p_1; omega) p_2 p_3)
          · show WV _ _ _ 145 _ _ _ _ _
            rw [if_neg h_142] at hQ
            refine r_ret (rr := none) (I := .return_) (pc0 := 145) (len := 1) rfl rfl ?_
            exact hQ hX_134 (show ((mo_fails v 3) 203 7) ≤ ((mo_fails v 3) 203 6) ∧ (((mo_fails v 3) 203 8) = 0 ∨ ((mo_fails v 3) 203 9) < ((mo_fails v 3) 203 7)) ∧ ((mo_fails v 3) 203 9) ≤ ((mo_fails v 3) 203 7) from (by first | assumption | omega | (unfold R32 at *; omega) | (unfold R64 at *; omega) | (simp only [R32, R64] at *; omega))) (show (v 203 9) ≤ ((mo_fails v 3) 203 9) from (by first | assumption | omega | (unfold R32 at *; omega) | (unfold R64 at *; omega) | (simp only [R32, R64] at *; omega))) (show ((mo_fails v 3) 210 46) ≤ ((mo_fails v 3) 210 44) from (by first | assumption | omega | (unfold R32 at *; omega) | (unfold R64 at *; omega) | (simp only [R32, R64] at *; omega))) (show CF (mo_fails v 3) from (show CF (mo_fails v 3) from CF.of hp_c (fun k h1 h2 => by rw [o_mo_fails (by omega)])))
    · show WV _ _ _ 21 _ _ _ _ _
      rw [if_neg h_18] at hQ
      refine r_ex 3 (pc' := 32) (lo' := [some (.inr (.inr (some 203))), none]) (st' := [.inr (.inl 283291417), .inr (.inr (some 203))]) rfl ?_
      have hp_148 : R64 (283291417 : Int) := (by first | assumption | omega | (unfold R32 at *; omega) | (unfold R64 at *; omega) | (simp only [R32, R64] at *; omega))
      refine r_callb (P := (v 203 12) = 0 ∧ (v 203 8) = 1 ∧ (v 203 11) = (283291417 : Int)) (m := 218) (args := [.inr (.inr (some 203)), .inr (.inl 283291417)]) (n' := 222) (pc' := 35) (lo' := [some (.inr (.inr (some 203))), none]) (st' := []) (I := .invokevirtual 218) (pc0 := 32) (len := 3) rfl rfl rfl (e_mo_is hX hp_148) (fun h_32 => ?_) (fun h_32 => ?_)
      · show WV _ _ _ 35 _ _ _ _ _
        rw [if_pos h_32] at hQ
        clear h_4 h_18
        refine r_ex 9 (pc' := 117) (lo' := [some (.inr (.inr (some 203))), some (.inl 4)]) (st' := [.inl (v 203 12)]) rfl ?_
        have hb_149 : 0 ≤ (v 203 12) ∧ (v 203 12) ≤ 3 := hX 203 12
        refine n_if_ne (pc0 := 117) (len := 3) (t := 138) rfl (by first | assumption | omega | (unfold R32 at *; omega) | (unfold R64 at *; omega) | (simp only [R32, R64] at *; omega)) (fun h_117 => ?_) (fun h_117 => ?_)
        · show WV _ _ _ 138 _ _ _ _ _
          rw [if_neg h_117] at hQ
          refine r_ex 2 (pc' := 142) (lo' := [some (.inr (.inr (some 203))), some (.inl 4)]) (st' := [.inl (v 203 12)]) rfl ?_
          refine n_if_eq (pc0 := 142) (len := 3) (t := 146) rfl (by first | assumption | omega | (unfold R32 at *; omega) | (unfold R64 at *; omega) | (simp only [R32, R64] at *; omega)) (fun h_142 => ?_) (fun h_142 => ?_)
          · show WV _ _ _ 146 _ _ _ _ _
            rw [if_pos h_142] at hQ
            exact l_mo_line_146  v 4  hX (show (4 = 2 ∧ (v 210 46) < (v 210 44)) ∨ (4 = 3 ∧ (v 210 47) < 12) ∨ (4 = 4 ∧ (v 210 48) < 4) ∨ (4 = 5 ∧ (v 210 49) < 6) ∨ (4 = 6 ∧ (v 210 50) < 6) ∨ (4 = 7 ∧ (v 210 51) < 6) ∨ (4 = 8 ∧ (v 210 52) < 6) from (by first | assumption | omega | (unfold R32 at *; omega) | (unfold R64 at *; omega) | (simp only [R32, R64] at *; omega))) (show (v 210 46) ≤ (v 210 44) from (by first | assumption | omega | (unfold R32 at *; omega) | (unfold R64 at *; omega) | (simp only [R32, R64] at *; omega))) (show (v 203 7) ≤ (v 203 6) ∧ ((v 203 8) = 0 ∨ (v 203 9) < (v 203 7)) ∧ (v 203 9) ≤ (v 203 7) from (by first | assumption | omega | (unfold R32 at *; omega) | (unfold R64 at *; omega) | (simp only [R32, R64] at *; omega))) (hp_c) (fun hx_ p_0 p_1 p_2 p_3 => hQ hx_ p_0 (by have q_ : (v 203 9) ≤ ((mo_line_146  v 4) 203 9) := p_1; omega) p_2 p_3)
          · show WV _ _ _ 145 _ _ _ _ _
            rw [if_neg h_142] at hQ
            refine r_ret (rr := none) (I := .return_) (pc0 := 145) (len := 1) rfl rfl ?_
            exact hQ hX (show (v 203 7) ≤ (v 203 6) ∧ ((v 203 8) = 0 ∨ (v 203 9) < (v 203 7)) ∧ (v 203 9) ≤ (v 203 7) from (by first | assumption | omega | (unfold R32 at *; omega) | (unfold R64 at *; omega) | (simp only [R32, R64] at *; omega))) (show (v 203 9) ≤ (v 203 9) from (by first | assumption | omega | (unfold R32 at *; omega) | (unfold R64 at *; omega) | (simp only [R32, R64] at *; omega))) (show (v 210 46) ≤ (v 210 44) from (by first | assumption | omega | (unfold R32 at *; omega) | (unfold R64 at *; omega) | (simp only [R32, R64] at *; omega))) (hp_c)
        · show WV _ _ _ 120 _ _ _ _ _
          rw [if_pos h_117] at hQ
          refine r_ex 2 (pc' := 122) (lo' := [some (.inr (.inr (some 203))), some (.inl 4)]) (st' := [.inl 4, .inr (.inr (some 203))]) rfl ?_
          refine r_call (m := 223) (args := [.inr (.inr (some 203)), .inl 4]) (n' := 222) (pc' := 125) (lo' := [some (.inr (.inr (some 203))), some (.inl 4)]) (st' := []) (I := .invokevirtual 223) (pc0 := 122) (len := 3) rfl rfl rfl (e_mo_hr4 hX) ?_
          show WV _ _ _ 125 _ [.inl (v 210 48)] _ _ _
          have hb_150 : 0 ≤ (v 210 48) ∧ (v 210 48) ≤ 4 := hX 210 48
          refine r_ex 2 (pc' := 127) (lo' := [some (.inr (.inr (some 203))), some (.inl 4)]) (st' := [.inl 4, .inr (.inr (some 203)), .inl (v 210 48)]) rfl ?_
          refine r_call (m := 224) (args := [.inr (.inr (some 203)), .inl 4]) (n' := 222) (pc' := 130) (lo' := [some (.inr (.inr (some 203))), some (.inl 4)]) (st' := [.inl (v 210 48)]) (I := .invokevirtual 224) (pc0 := 127) (len := 3) rfl rfl rfl (e_mo_most4 hX) ?_
          show WV _ _ _ 130 _ [.inl 4, .inl (v 210 48)] _ _ _
          refine n_ic_ne (pc0 := 130) (len := 3) (t := 138) rfl (by first | assumption | omega | (unfold R32 at *; omega) | (unfold R64 at *; omega) | (simp only [R32, R64] at *; omega)) (by first | assumption | omega | (unfold R32 at *; omega) | (unfold R64 at *; omega) | (simp only [R32, R64] at *; omega)) (fun h_130 => ?_) (fun h_130 => ?_)
          · show WV _ _ _ 138 _ _ _ _ _
            rw [if_neg h_130] at hQ
            refine r_ex 2 (pc' := 142) (lo' := [some (.inr (.inr (some 203))), some (.inl 4)]) (st' := [.inl (v 203 12)]) rfl ?_
            refine n_if_eq (pc0 := 142) (len := 3) (t := 146) rfl (by first | assumption | omega | (unfold R32 at *; omega) | (unfold R64 at *; omega) | (simp only [R32, R64] at *; omega)) (fun h_142 => ?_) (fun h_142 => ?_)
            · show WV _ _ _ 146 _ _ _ _ _
              rw [if_pos h_142] at hQ
              exact l_mo_line_146  v 4  hX (show (4 = 2 ∧ (v 210 46) < (v 210 44)) ∨ (4 = 3 ∧ (v 210 47) < 12) ∨ (4 = 4 ∧ (v 210 48) < 4) ∨ (4 = 5 ∧ (v 210 49) < 6) ∨ (4 = 6 ∧ (v 210 50) < 6) ∨ (4 = 7 ∧ (v 210 51) < 6) ∨ (4 = 8 ∧ (v 210 52) < 6) from (by first | assumption | omega | (unfold R32 at *; omega) | (unfold R64 at *; omega) | (simp only [R32, R64] at *; omega))) (show (v 210 46) ≤ (v 210 44) from (by first | assumption | omega | (unfold R32 at *; omega) | (unfold R64 at *; omega) | (simp only [R32, R64] at *; omega))) (show (v 203 7) ≤ (v 203 6) ∧ ((v 203 8) = 0 ∨ (v 203 9) < (v 203 7)) ∧ (v 203 9) ≤ (v 203 7) from (by first | assumption | omega | (unfold R32 at *; omega) | (unfold R64 at *; omega) | (simp only [R32, R64] at *; omega))) (hp_c) (fun hx_ p_0 p_1 p_2 p_3 => hQ hx_ p_0 (by have q_ : (v 203 9) ≤ ((mo_line_146  v 4) 203 9) := p_1; omega) p_2 p_3)
            · show WV _ _ _ 145 _ _ _ _ _
              rw [if_neg h_142] at hQ
              refine r_ret (rr := none) (I := .return_) (pc0 := 145) (len := 1) rfl rfl ?_
              exact hQ hX (show (v 203 7) ≤ (v 203 6) ∧ ((v 203 8) = 0 ∨ (v 203 9) < (v 203 7)) ∧ (v 203 9) ≤ (v 203 7) from (by first | assumption | omega | (unfold R32 at *; omega) | (unfold R64 at *; omega) | (simp only [R32, R64] at *; omega))) (show (v 203 9) ≤ (v 203 9) from (by first | assumption | omega | (unfold R32 at *; omega) | (unfold R64 at *; omega) | (simp only [R32, R64] at *; omega))) (show (v 210 46) ≤ (v 210 44) from (by first | assumption | omega | (unfold R32 at *; omega) | (unfold R64 at *; omega) | (simp only [R32, R64] at *; omega))) (hp_c)
          · show WV _ _ _ 133 _ _ _ _ _
            rw [if_pos h_130] at hQ
            refine r_ex 2 (pc' := 135) (lo' := [some (.inr (.inr (some 203))), some (.inl 4)]) (st' := [.inl 3, .inr (.inr (some 203))]) rfl ?_
            have hp_151 : 1 ≤ (3 : Int) ∧ (3 : Int) ≤ 3 := (by first | assumption | omega | (unfold R32 at *; omega) | (unfold R64 at *; omega) | (simp only [R32, R64] at *; omega))
            have hp_152 : (v 203 7) ≤ (v 203 6) ∧ ((v 203 8) = 0 ∨ (v 203 9) < (v 203 7)) ∧ (v 203 9) ≤ (v 203 7) := (show (v 203 7) ≤ (v 203 6) ∧ ((v 203 8) = 0 ∨ (v 203 9) < (v 203 7)) ∧ (v 203 9) ≤ (v 203 7) from (by first | assumption | omega | (unfold R32 at *; omega) | (unfold R64 at *; omega) | (simp only [R32, R64] at *; omega)))
            refine r_call (m := 219) (args := [.inr (.inr (some 203)), .inl 3]) (n' := 222) (pc' := 138) (lo' := [some (.inr (.inr (some 203))), some (.inl 4)]) (st' := []) (I := .invokevirtual 219) (pc0 := 135) (len := 3) rfl rfl rfl (e_mo_fails hX hp_151 hp_152) ?_
            show WV _ _ _ 138 _ [] _ (mo_fails v 3) _
            have hX_153 : XI (mo_fails v 3) := i_mo_fails (v := v) (k := 3) hX hp_151 hp_152
            have hb_154 : (mo_fails v 3) 209 4 = (v 209 4) := by rw [o_mo_fails (by omega)] <;> rfl
            have hb_155 : (mo_fails v 3) 210 44 = (v 210 44) := by rw [o_mo_fails (by omega)] <;> rfl
            have hb_156 : (mo_fails v 3) 210 46 = (v 210 46) := by rw [o_mo_fails (by omega)] <;> rfl
            have hb_157 : (mo_fails v 3) 210 47 = (v 210 47) := by rw [o_mo_fails (by omega)] <;> rfl
            have hb_158 : (mo_fails v 3) 210 48 = (v 210 48) := by rw [o_mo_fails (by omega)] <;> rfl
            have hb_159 : (mo_fails v 3) 210 49 = (v 210 49) := by rw [o_mo_fails (by omega)] <;> rfl
            have hb_160 : (mo_fails v 3) 210 50 = (v 210 50) := by rw [o_mo_fails (by omega)] <;> rfl
            have hb_161 : (mo_fails v 3) 210 51 = (v 210 51) := by rw [o_mo_fails (by omega)] <;> rfl
            have hb_162 : (mo_fails v 3) 210 52 = (v 210 52) := by rw [o_mo_fails (by omega)] <;> rfl
            have hb_163 : ((mo_fails v 3) 203 7) ≤ ((mo_fails v 3) 203 6) ∧ (((mo_fails v 3) 203 8) = 0 ∨ ((mo_fails v 3) 203 9) < ((mo_fails v 3) 203 7)) ∧ ((mo_fails v 3) 203 9) ≤ ((mo_fails v 3) 203 7) := n0_mo_fails (v := v) (k := 3) hX hp_151 hp_152
            have hb_164 : (v 203 9) ≤ ((mo_fails v 3) 203 9) := n1_mo_fails (v := v) (k := 3) hX hp_151 hp_152
            have hb_165 : ((mo_fails v 3) 203 12) ≠ 0 := n2_mo_fails (v := v) (k := 3) hX hp_151 hp_152
            refine r_ex 2 (pc' := 142) (lo' := [some (.inr (.inr (some 203))), some (.inl 4)]) (st' := [.inl ((mo_fails v 3) 203 12)]) rfl ?_
            have hb_166 : 0 ≤ ((mo_fails v 3) 203 12) ∧ ((mo_fails v 3) 203 12) ≤ 3 := hX_153 203 12
            refine n_if_eq (pc0 := 142) (len := 3) (t := 146) rfl (by first | assumption | omega | (unfold R32 at *; omega) | (unfold R64 at *; omega) | (simp only [R32, R64] at *; omega)) (fun h_142 => ?_) (fun h_142 => ?_)
            · show WV _ _ _ 146 _ _ _ _ _
              rw [if_pos h_142] at hQ
              exact l_mo_line_146  (mo_fails v 3) 4  hX_153 (show (4 = 2 ∧ ((mo_fails v 3) 210 46) < ((mo_fails v 3) 210 44)) ∨ (4 = 3 ∧ ((mo_fails v 3) 210 47) < 12) ∨ (4 = 4 ∧ ((mo_fails v 3) 210 48) < 4) ∨ (4 = 5 ∧ ((mo_fails v 3) 210 49) < 6) ∨ (4 = 6 ∧ ((mo_fails v 3) 210 50) < 6) ∨ (4 = 7 ∧ ((mo_fails v 3) 210 51) < 6) ∨ (4 = 8 ∧ ((mo_fails v 3) 210 52) < 6) from (by first | assumption | omega | (unfold R32 at *; omega) | (unfold R64 at *; omega) | (simp only [R32, R64] at *; omega))) (show ((mo_fails v 3) 210 46) ≤ ((mo_fails v 3) 210 44) from (by first | assumption | omega | (unfold R32 at *; omega) | (unfold R64 at *; omega) | (simp only [R32, R64] at *; omega))) (show ((mo_fails v 3) 203 7) ≤ ((mo_fails v 3) 203 6) ∧ (((mo_fails v 3) 203 8) = 0 ∨ ((mo_fails v 3) 203 9) < ((mo_fails v 3) 203 7)) ∧ ((mo_fails v 3) 203 9) ≤ ((mo_fails v 3) 203 7) from (by first | assumption | omega | (unfold R32 at *; omega) | (unfold R64 at *; omega) | (simp only [R32, R64] at *; omega))) (show CF (mo_fails v 3) from (show CF (mo_fails v 3) from CF.of hp_c (fun k h1 h2 => by rw [o_mo_fails (by omega)]))) (fun hx_ p_0 p_1 p_2 p_3 => hQ hx_ p_0 (by have q_ : ((mo_fails v 3) 203 9) ≤ ((mo_line_146  (mo_fails v 3) 4) 203 9) := p_1; omega) p_2 p_3)
            · show WV _ _ _ 145 _ _ _ _ _
              rw [if_neg h_142] at hQ
              refine r_ret (rr := none) (I := .return_) (pc0 := 145) (len := 1) rfl rfl ?_
              exact hQ hX_153 (show ((mo_fails v 3) 203 7) ≤ ((mo_fails v 3) 203 6) ∧ (((mo_fails v 3) 203 8) = 0 ∨ ((mo_fails v 3) 203 9) < ((mo_fails v 3) 203 7)) ∧ ((mo_fails v 3) 203 9) ≤ ((mo_fails v 3) 203 7) from (by first | assumption | omega | (unfold R32 at *; omega) | (unfold R64 at *; omega) | (simp only [R32, R64] at *; omega))) (show (v 203 9) ≤ ((mo_fails v 3) 203 9) from (by first | assumption | omega | (unfold R32 at *; omega) | (unfold R64 at *; omega) | (simp only [R32, R64] at *; omega))) (show ((mo_fails v 3) 210 46) ≤ ((mo_fails v 3) 210 44) from (by first | assumption | omega | (unfold R32 at *; omega) | (unfold R64 at *; omega) | (simp only [R32, R64] at *; omega))) (show CF (mo_fails v 3) from (show CF (mo_fails v 3) from CF.of hp_c (fun k h1 h2 => by rw [o_mo_fails (by omega)])))
      · show WV _ _ _ 35 _ _ _ _ _
        rw [if_neg h_32] at hQ
        refine r_ex 3 (pc' := 46) (lo' := [some (.inr (.inr (some 203))), none]) (st' := [.inr (.inl 459652), .inr (.inr (some 203))]) rfl ?_
        have hp_167 : R64 (459652 : Int) := (by first | assumption | omega | (unfold R32 at *; omega) | (unfold R64 at *; omega) | (simp only [R32, R64] at *; omega))
        refine r_callb (P := (v 203 12) = 0 ∧ (v 203 8) = 1 ∧ (v 203 11) = (459652 : Int)) (m := 218) (args := [.inr (.inr (some 203)), .inr (.inl 459652)]) (n' := 222) (pc' := 49) (lo' := [some (.inr (.inr (some 203))), none]) (st' := []) (I := .invokevirtual 218) (pc0 := 46) (len := 3) rfl rfl rfl (e_mo_is hX hp_167) (fun h_46 => ?_) (fun h_46 => ?_)
        · show WV _ _ _ 49 _ _ _ _ _
          rw [if_pos h_46] at hQ
          clear h_4 h_18 h_32
          refine r_ex 9 (pc' := 117) (lo' := [some (.inr (.inr (some 203))), some (.inl 5)]) (st' := [.inl (v 203 12)]) rfl ?_
          have hb_168 : 0 ≤ (v 203 12) ∧ (v 203 12) ≤ 3 := hX 203 12
          refine n_if_ne (pc0 := 117) (len := 3) (t := 138) rfl (by first | assumption | omega | (unfold R32 at *; omega) | (unfold R64 at *; omega) | (simp only [R32, R64] at *; omega)) (fun h_117 => ?_) (fun h_117 => ?_)
          · show WV _ _ _ 138 _ _ _ _ _
            rw [if_neg h_117] at hQ
            refine r_ex 2 (pc' := 142) (lo' := [some (.inr (.inr (some 203))), some (.inl 5)]) (st' := [.inl (v 203 12)]) rfl ?_
            refine n_if_eq (pc0 := 142) (len := 3) (t := 146) rfl (by first | assumption | omega | (unfold R32 at *; omega) | (unfold R64 at *; omega) | (simp only [R32, R64] at *; omega)) (fun h_142 => ?_) (fun h_142 => ?_)
            · show WV _ _ _ 146 _ _ _ _ _
              rw [if_pos h_142] at hQ
              exact l_mo_line_146  v 5  hX (show (5 = 2 ∧ (v 210 46) < (v 210 44)) ∨ (5 = 3 ∧ (v 210 47) < 12) ∨ (5 = 4 ∧ (v 210 48) < 4) ∨ (5 = 5 ∧ (v 210 49) < 6) ∨ (5 = 6 ∧ (v 210 50) < 6) ∨ (5 = 7 ∧ (v 210 51) < 6) ∨ (5 = 8 ∧ (v 210 52) < 6) from (by first | assumption | omega | (unfold R32 at *; omega) | (unfold R64 at *; omega) | (simp only [R32, R64] at *; omega))) (show (v 210 46) ≤ (v 210 44) from (by first | assumption | omega | (unfold R32 at *; omega) | (unfold R64 at *; omega) | (simp only [R32, R64] at *; omega))) (show (v 203 7) ≤ (v 203 6) ∧ ((v 203 8) = 0 ∨ (v 203 9) < (v 203 7)) ∧ (v 203 9) ≤ (v 203 7) from (by first | assumption | omega | (unfold R32 at *; omega) | (unfold R64 at *; omega) | (simp only [R32, R64] at *; omega))) (hp_c) (fun hx_ p_0 p_1 p_2 p_3 => hQ hx_ p_0 (by have q_ : (v 203 9) ≤ ((mo_line_146  v 5) 203 9) := p_1; omega) p_2 p_3)
            · show WV _ _ _ 145 _ _ _ _ _
              rw [if_neg h_142] at hQ
              refine r_ret (rr := none) (I := .return_) (pc0 := 145) (len := 1) rfl rfl ?_
              exact hQ hX (show (v 203 7) ≤ (v 203 6) ∧ ((v 203 8) = 0 ∨ (v 203 9) < (v 203 7)) ∧ (v 203 9) ≤ (v 203 7) from (by first | assumption | omega | (unfold R32 at *; omega) | (unfold R64 at *; omega) | (simp only [R32, R64] at *; omega))) (show (v 203 9) ≤ (v 203 9) from (by first | assumption | omega | (unfold R32 at *; omega) | (unfold R64 at *; omega) | (simp only [R32, R64] at *; omega))) (show (v 210 46) ≤ (v 210 44) from (by first | assumption | omega | (unfold R32 at *; omega) | (unfold R64 at *; omega) | (simp only [R32, R64] at *; omega))) (hp_c)
          · show WV _ _ _ 120 _ _ _ _ _
            rw [if_pos h_117] at hQ
            refine r_ex 2 (pc' := 122) (lo' := [some (.inr (.inr (some 203))), some (.inl 5)]) (st' := [.inl 5, .inr (.inr (some 203))]) rfl ?_
            refine r_call (m := 223) (args := [.inr (.inr (some 203)), .inl 5]) (n' := 222) (pc' := 125) (lo' := [some (.inr (.inr (some 203))), some (.inl 5)]) (st' := []) (I := .invokevirtual 223) (pc0 := 122) (len := 3) rfl rfl rfl (e_mo_hr5 hX) ?_
            show WV _ _ _ 125 _ [.inl (v 210 49)] _ _ _
            have hb_169 : 0 ≤ (v 210 49) ∧ (v 210 49) ≤ 6 := hX 210 49
            refine r_ex 2 (pc' := 127) (lo' := [some (.inr (.inr (some 203))), some (.inl 5)]) (st' := [.inl 5, .inr (.inr (some 203)), .inl (v 210 49)]) rfl ?_
            refine r_call (m := 224) (args := [.inr (.inr (some 203)), .inl 5]) (n' := 222) (pc' := 130) (lo' := [some (.inr (.inr (some 203))), some (.inl 5)]) (st' := [.inl (v 210 49)]) (I := .invokevirtual 224) (pc0 := 127) (len := 3) rfl rfl rfl (e_mo_most5 hX) ?_
            show WV _ _ _ 130 _ [.inl 6, .inl (v 210 49)] _ _ _
            refine n_ic_ne (pc0 := 130) (len := 3) (t := 138) rfl (by first | assumption | omega | (unfold R32 at *; omega) | (unfold R64 at *; omega) | (simp only [R32, R64] at *; omega)) (by first | assumption | omega | (unfold R32 at *; omega) | (unfold R64 at *; omega) | (simp only [R32, R64] at *; omega)) (fun h_130 => ?_) (fun h_130 => ?_)
            · show WV _ _ _ 138 _ _ _ _ _
              rw [if_neg h_130] at hQ
              refine r_ex 2 (pc' := 142) (lo' := [some (.inr (.inr (some 203))), some (.inl 5)]) (st' := [.inl (v 203 12)]) rfl ?_
              refine n_if_eq (pc0 := 142) (len := 3) (t := 146) rfl (by first | assumption | omega | (unfold R32 at *; omega) | (unfold R64 at *; omega) | (simp only [R32, R64] at *; omega)) (fun h_142 => ?_) (fun h_142 => ?_)
              · show WV _ _ _ 146 _ _ _ _ _
                rw [if_pos h_142] at hQ
                exact l_mo_line_146  v 5  hX (show (5 = 2 ∧ (v 210 46) < (v 210 44)) ∨ (5 = 3 ∧ (v 210 47) < 12) ∨ (5 = 4 ∧ (v 210 48) < 4) ∨ (5 = 5 ∧ (v 210 49) < 6) ∨ (5 = 6 ∧ (v 210 50) < 6) ∨ (5 = 7 ∧ (v 210 51) < 6) ∨ (5 = 8 ∧ (v 210 52) < 6) from (by first | assumption | omega | (unfold R32 at *; omega) | (unfold R64 at *; omega) | (simp only [R32, R64] at *; omega))) (show (v 210 46) ≤ (v 210 44) from (by first | assumption | omega | (unfold R32 at *; omega) | (unfold R64 at *; omega) | (simp only [R32, R64] at *; omega))) (show (v 203 7) ≤ (v 203 6) ∧ ((v 203 8) = 0 ∨ (v 203 9) < (v 203 7)) ∧ (v 203 9) ≤ (v 203 7) from (by first | assumption | omega | (unfold R32 at *; omega) | (unfold R64 at *; omega) | (simp only [R32, R64] at *; omega))) (hp_c) (fun hx_ p_0 p_1 p_2 p_3 => hQ hx_ p_0 (by have q_ : (v 203 9) ≤ ((mo_line_146  v 5) 203 9) := p_1; omega) p_2 p_3)
              · show WV _ _ _ 145 _ _ _ _ _
                rw [if_neg h_142] at hQ
                refine r_ret (rr := none) (I := .return_) (pc0 := 145) (len := 1) rfl rfl ?_
                exact hQ hX (show (v 203 7) ≤ (v 203 6) ∧ ((v 203 8) = 0 ∨ (v 203 9) < (v 203 7)) ∧ (v 203 9) ≤ (v 203 7) from (by first | assumption | omega | (unfold R32 at *; omega) | (unfold R64 at *; omega) | (simp only [R32, R64] at *; omega))) (show (v 203 9) ≤ (v 203 9) from (by first | assumption | omega | (unfold R32 at *; omega) | (unfold R64 at *; omega) | (simp only [R32, R64] at *; omega))) (show (v 210 46) ≤ (v 210 44) from (by first | assumption | omega | (unfold R32 at *; omega) | (unfold R64 at *; omega) | (simp only [R32, R64] at *; omega))) (hp_c)
            · show WV _ _ _ 133 _ _ _ _ _
              rw [if_pos h_130] at hQ
              refine r_ex 2 (pc' := 135) (lo' := [some (.inr (.inr (some 203))), some (.inl 5)]) (st' := [.inl 3, .inr (.inr (some 203))]) rfl ?_
              have hp_170 : 1 ≤ (3 : Int) ∧ (3 : Int) ≤ 3 := (by first | assumption | omega | (unfold R32 at *; omega) | (unfold R64 at *; omega) | (simp only [R32, R64] at *; omega))
              have hp_171 : (v 203 7) ≤ (v 203 6) ∧ ((v 203 8) = 0 ∨ (v 203 9) < (v 203 7)) ∧ (v 203 9) ≤ (v 203 7) := (show (v 203 7) ≤ (v 203 6) ∧ ((v 203 8) = 0 ∨ (v 203 9) < (v 203 7)) ∧ (v 203 9) ≤ (v 203 7) from (by first | assumption | omega | (unfold R32 at *; omega) | (unfold R64 at *; omega) | (simp only [R32, R64] at *; omega)))
              refine r_call (m := 219) (args := [.inr (.inr (some 203)), .inl 3]) (n' := 222) (pc' := 138) (lo' := [some (.inr (.inr (some 203))), some (.inl 5)]) (st' := []) (I := .invokevirtual 219) (pc0 := 135) (len := 3) rfl rfl rfl (e_mo_fails hX hp_170 hp_171) ?_
              show WV _ _ _ 138 _ [] _ (mo_fails v 3) _
              have hX_172 : XI (mo_fails v 3) := i_mo_fails (v := v) (k := 3) hX hp_170 hp_171
              have hb_173 : (mo_fails v 3) 209 4 = (v 209 4) := by rw [o_mo_fails (by omega)] <;> rfl
              have hb_174 : (mo_fails v 3) 210 44 = (v 210 44) := by rw [o_mo_fails (by omega)] <;> rfl
              have hb_175 : (mo_fails v 3) 210 46 = (v 210 46) := by rw [o_mo_fails (by omega)] <;> rfl
              have hb_176 : (mo_fails v 3) 210 47 = (v 210 47) := by rw [o_mo_fails (by omega)] <;> rfl
              have hb_177 : (mo_fails v 3) 210 48 = (v 210 48) := by rw [o_mo_fails (by omega)] <;> rfl
              have hb_178 : (mo_fails v 3) 210 49 = (v 210 49) := by rw [o_mo_fails (by omega)] <;> rfl
              have hb_179 : (mo_fails v 3) 210 50 = (v 210 50) := by rw [o_mo_fails (by omega)] <;> rfl
              have hb_180 : (mo_fails v 3) 210 51 = (v 210 51) := by rw [o_mo_fails (by omega)] <;> rfl
              have hb_181 : (mo_fails v 3) 210 52 = (v 210 52) := by rw [o_mo_fails (by omega)] <;> rfl
              have hb_182 : ((mo_fails v 3) 203 7) ≤ ((mo_fails v 3) 203 6) ∧ (((mo_fails v 3) 203 8) = 0 ∨ ((mo_fails v 3) 203 9) < ((mo_fails v 3) 203 7)) ∧ ((mo_fails v 3) 203 9) ≤ ((mo_fails v 3) 203 7) := n0_mo_fails (v := v) (k := 3) hX hp_170 hp_171
              have hb_183 : (v 203 9) ≤ ((mo_fails v 3) 203 9) := n1_mo_fails (v := v) (k := 3) hX hp_170 hp_171
              have hb_184 : ((mo_fails v 3) 203 12) ≠ 0 := n2_mo_fails (v := v) (k := 3) hX hp_170 hp_171
              refine r_ex 2 (pc' := 142) (lo' := [some (.inr (.inr (some 203))), some (.inl 5)]) (st' := [.inl ((mo_fails v 3) 203 12)]) rfl ?_
              have hb_185 : 0 ≤ ((mo_fails v 3) 203 12) ∧ ((mo_fails v 3) 203 12) ≤ 3 := hX_172 203 12
              refine n_if_eq (pc0 := 142) (len := 3) (t := 146) rfl (by first | assumption | omega | (unfold R32 at *; omega) | (unfold R64 at *; omega) | (simp only [R32, R64] at *; omega)) (fun h_142 => ?_) (fun h_142 => ?_)
              · show WV _ _ _ 146 _ _ _ _ _
                rw [if_pos h_142] at hQ
                exact l_mo_line_146  (mo_fails v 3) 5  hX_172 (show (5 = 2 ∧ ((mo_fails v 3) 210 46) < ((mo_fails v 3) 210 44)) ∨ (5 = 3 ∧ ((mo_fails v 3) 210 47) < 12) ∨ (5 = 4 ∧ ((mo_fails v 3) 210 48) < 4) ∨ (5 = 5 ∧ ((mo_fails v 3) 210 49) < 6) ∨ (5 = 6 ∧ ((mo_fails v 3) 210 50) < 6) ∨ (5 = 7 ∧ ((mo_fails v 3) 210 51) < 6) ∨ (5 = 8 ∧ ((mo_fails v 3) 210 52) < 6) from (by first | assumption | omega | (unfold R32 at *; omega) | (unfold R64 at *; omega) | (simp only [R32, R64] at *; omega))) (show ((mo_fails v 3) 210 46) ≤ ((mo_fails v 3) 210 44) from (by first | assumption | omega | (unfold R32 at *; omega) | (unfold R64 at *; omega) | (simp only [R32, R64] at *; omega))) (show ((mo_fails v 3) 203 7) ≤ ((mo_fails v 3) 203 6) ∧ (((mo_fails v 3) 203 8) = 0 ∨ ((mo_fails v 3) 203 9) < ((mo_fails v 3) 203 7)) ∧ ((mo_fails v 3) 203 9) ≤ ((mo_fails v 3) 203 7) from (by first | assumption | omega | (unfold R32 at *; omega) | (unfold R64 at *; omega) | (simp only [R32, R64] at *; omega))) (show CF (mo_fails v 3) from (show CF (mo_fails v 3) from CF.of hp_c (fun k h1 h2 => by rw [o_mo_fails (by omega)]))) (fun hx_ p_0 p_1 p_2 p_3 => hQ hx_ p_0 (by have q_ : ((mo_fails v 3) 203 9) ≤ ((mo_line_146  (mo_fails v 3) 5) 203 9) := p_1; omega) p_2 p_3)
              · show WV _ _ _ 145 _ _ _ _ _
                rw [if_neg h_142] at hQ
                refine r_ret (rr := none) (I := .return_) (pc0 := 145) (len := 1) rfl rfl ?_
                exact hQ hX_172 (show ((mo_fails v 3) 203 7) ≤ ((mo_fails v 3) 203 6) ∧ (((mo_fails v 3) 203 8) = 0 ∨ ((mo_fails v 3) 203 9) < ((mo_fails v 3) 203 7)) ∧ ((mo_fails v 3) 203 9) ≤ ((mo_fails v 3) 203 7) from (by first | assumption | omega | (unfold R32 at *; omega) | (unfold R64 at *; omega) | (simp only [R32, R64] at *; omega))) (show (v 203 9) ≤ ((mo_fails v 3) 203 9) from (by first | assumption | omega | (unfold R32 at *; omega) | (unfold R64 at *; omega) | (simp only [R32, R64] at *; omega))) (show ((mo_fails v 3) 210 46) ≤ ((mo_fails v 3) 210 44) from (by first | assumption | omega | (unfold R32 at *; omega) | (unfold R64 at *; omega) | (simp only [R32, R64] at *; omega))) (show CF (mo_fails v 3) from (show CF (mo_fails v 3) from CF.of hp_c (fun k h1 h2 => by rw [o_mo_fails (by omega)])))
        · show WV _ _ _ 49 _ _ _ _ _
          rw [if_neg h_46] at hQ
          refine r_ex 3 (pc' := 60) (lo' := [some (.inr (.inr (some 203))), none]) (st' := [.inr (.inl 4786), .inr (.inr (some 203))]) rfl ?_
          have hp_186 : R64 (4786 : Int) := (by first | assumption | omega | (unfold R32 at *; omega) | (unfold R64 at *; omega) | (simp only [R32, R64] at *; omega))
          refine r_callb (P := (v 203 12) = 0 ∧ (v 203 8) = 1 ∧ (v 203 11) = (4786 : Int)) (m := 218) (args := [.inr (.inr (some 203)), .inr (.inl 4786)]) (n' := 222) (pc' := 63) (lo' := [some (.inr (.inr (some 203))), none]) (st' := []) (I := .invokevirtual 218) (pc0 := 60) (len := 3) rfl rfl rfl (e_mo_is hX hp_186) (fun h_60 => ?_) (fun h_60 => ?_)
          · show WV _ _ _ 63 _ _ _ _ _
            rw [if_pos h_60] at hQ
            clear h_4 h_18 h_32 h_46
            refine r_ex 9 (pc' := 117) (lo' := [some (.inr (.inr (some 203))), some (.inl 6)]) (st' := [.inl (v 203 12)]) rfl ?_
            have hb_187 : 0 ≤ (v 203 12) ∧ (v 203 12) ≤ 3 := hX 203 12
            refine n_if_ne (pc0 := 117) (len := 3) (t := 138) rfl (by first | assumption | omega | (unfold R32 at *; omega) | (unfold R64 at *; omega) | (simp only [R32, R64] at *; omega)) (fun h_117 => ?_) (fun h_117 => ?_)
            · show WV _ _ _ 138 _ _ _ _ _
              rw [if_neg h_117] at hQ
              refine r_ex 2 (pc' := 142) (lo' := [some (.inr (.inr (some 203))), some (.inl 6)]) (st' := [.inl (v 203 12)]) rfl ?_
              refine n_if_eq (pc0 := 142) (len := 3) (t := 146) rfl (by first | assumption | omega | (unfold R32 at *; omega) | (unfold R64 at *; omega) | (simp only [R32, R64] at *; omega)) (fun h_142 => ?_) (fun h_142 => ?_)
              · show WV _ _ _ 146 _ _ _ _ _
                rw [if_pos h_142] at hQ
                exact l_mo_line_146  v 6  hX (show (6 = 2 ∧ (v 210 46) < (v 210 44)) ∨ (6 = 3 ∧ (v 210 47) < 12) ∨ (6 = 4 ∧ (v 210 48) < 4) ∨ (6 = 5 ∧ (v 210 49) < 6) ∨ (6 = 6 ∧ (v 210 50) < 6) ∨ (6 = 7 ∧ (v 210 51) < 6) ∨ (6 = 8 ∧ (v 210 52) < 6) from (by first | assumption | omega | (unfold R32 at *; omega) | (unfold R64 at *; omega) | (simp only [R32, R64] at *; omega))) (show (v 210 46) ≤ (v 210 44) from (by first | assumption | omega | (unfold R32 at *; omega) | (unfold R64 at *; omega) | (simp only [R32, R64] at *; omega))) (show (v 203 7) ≤ (v 203 6) ∧ ((v 203 8) = 0 ∨ (v 203 9) < (v 203 7)) ∧ (v 203 9) ≤ (v 203 7) from (by first | assumption | omega | (unfold R32 at *; omega) | (unfold R64 at *; omega) | (simp only [R32, R64] at *; omega))) (hp_c) (fun hx_ p_0 p_1 p_2 p_3 => hQ hx_ p_0 (by have q_ : (v 203 9) ≤ ((mo_line_146  v 6) 203 9) := p_1; omega) p_2 p_3)
              · show WV _ _ _ 145 _ _ _ _ _
                rw [if_neg h_142] at hQ
                refine r_ret (rr := none) (I := .return_) (pc0 := 145) (len := 1) rfl rfl ?_
                exact hQ hX (show (v 203 7) ≤ (v 203 6) ∧ ((v 203 8) = 0 ∨ (v 203 9) < (v 203 7)) ∧ (v 203 9) ≤ (v 203 7) from (by first | assumption | omega | (unfold R32 at *; omega) | (unfold R64 at *; omega) | (simp only [R32, R64] at *; omega))) (show (v 203 9) ≤ (v 203 9) from (by first | assumption | omega | (unfold R32 at *; omega) | (unfold R64 at *; omega) | (simp only [R32, R64] at *; omega))) (show (v 210 46) ≤ (v 210 44) from (by first | assumption | omega | (unfold R32 at *; omega) | (unfold R64 at *; omega) | (simp only [R32, R64] at *; omega))) (hp_c)
            · show WV _ _ _ 120 _ _ _ _ _
              rw [if_pos h_117] at hQ
              refine r_ex 2 (pc' := 122) (lo' := [some (.inr (.inr (some 203))), some (.inl 6)]) (st' := [.inl 6, .inr (.inr (some 203))]) rfl ?_
              refine r_call (m := 223) (args := [.inr (.inr (some 203)), .inl 6]) (n' := 222) (pc' := 125) (lo' := [some (.inr (.inr (some 203))), some (.inl 6)]) (st' := []) (I := .invokevirtual 223) (pc0 := 122) (len := 3) rfl rfl rfl (e_mo_hr6 hX) ?_
              show WV _ _ _ 125 _ [.inl (v 210 50)] _ _ _
              have hb_188 : 0 ≤ (v 210 50) ∧ (v 210 50) ≤ 6 := hX 210 50
              refine r_ex 2 (pc' := 127) (lo' := [some (.inr (.inr (some 203))), some (.inl 6)]) (st' := [.inl 6, .inr (.inr (some 203)), .inl (v 210 50)]) rfl ?_
              refine r_call (m := 224) (args := [.inr (.inr (some 203)), .inl 6]) (n' := 222) (pc' := 130) (lo' := [some (.inr (.inr (some 203))), some (.inl 6)]) (st' := [.inl (v 210 50)]) (I := .invokevirtual 224) (pc0 := 127) (len := 3) rfl rfl rfl (e_mo_most6 hX) ?_
              show WV _ _ _ 130 _ [.inl 6, .inl (v 210 50)] _ _ _
              refine n_ic_ne (pc0 := 130) (len := 3) (t := 138) rfl (by first | assumption | omega | (unfold R32 at *; omega) | (unfold R64 at *; omega) | (simp only [R32, R64] at *; omega)) (by first | assumption | omega | (unfold R32 at *; omega) | (unfold R64 at *; omega) | (simp only [R32, R64] at *; omega)) (fun h_130 => ?_) (fun h_130 => ?_)
              · show WV _ _ _ 138 _ _ _ _ _
                rw [if_neg h_130] at hQ
                refine r_ex 2 (pc' := 142) (lo' := [some (.inr (.inr (some 203))), some (.inl 6)]) (st' := [.inl (v 203 12)]) rfl ?_
                refine n_if_eq (pc0 := 142) (len := 3) (t := 146) rfl (by first | assumption | omega | (unfold R32 at *; omega) | (unfold R64 at *; omega) | (simp only [R32, R64] at *; omega)) (fun h_142 => ?_) (fun h_142 => ?_)
                · show WV _ _ _ 146 _ _ _ _ _
                  rw [if_pos h_142] at hQ
                  exact l_mo_line_146  v 6  hX (show (6 = 2 ∧ (v 210 46) < (v 210 44)) ∨ (6 = 3 ∧ (v 210 47) < 12) ∨ (6 = 4 ∧ (v 210 48) < 4) ∨ (6 = 5 ∧ (v 210 49) < 6) ∨ (6 = 6 ∧ (v 210 50) < 6) ∨ (6 = 7 ∧ (v 210 51) < 6) ∨ (6 = 8 ∧ (v 210 52) < 6) from (by first | assumption | omega | (unfold R32 at *; omega) | (unfold R64 at *; omega) | (simp only [R32, R64] at *; omega))) (show (v 210 46) ≤ (v 210 44) from (by first | assumption | omega | (unfold R32 at *; omega) | (unfold R64 at *; omega) | (simp only [R32, R64] at *; omega))) (show (v 203 7) ≤ (v 203 6) ∧ ((v 203 8) = 0 ∨ (v 203 9) < (v 203 7)) ∧ (v 203 9) ≤ (v 203 7) from (by first | assumption | omega | (unfold R32 at *; omega) | (unfold R64 at *; omega) | (simp only [R32, R64] at *; omega))) (hp_c) (fun hx_ p_0 p_1 p_2 p_3 => hQ hx_ p_0 (by have q_ : (v 203 9) ≤ ((mo_line_146  v 6) 203 9) := p_1; omega) p_2 p_3)
                · show WV _ _ _ 145 _ _ _ _ _
                  rw [if_neg h_142] at hQ
                  refine r_ret (rr := none) (I := .return_) (pc0 := 145) (len := 1) rfl rfl ?_
                  exact hQ hX (show (v 203 7) ≤ (v 203 6) ∧ ((v 203 8) = 0 ∨ (v 203 9) < (v 203 7)) ∧ (v 203 9) ≤ (v 203 7) from (by first | assumption | omega | (unfold R32 at *; omega) | (unfold R64 at *; omega) | (simp only [R32, R64] at *; omega))) (show (v 203 9) ≤ (v 203 9) from (by first | assumption | omega | (unfold R32 at *; omega) | (unfold R64 at *; omega) | (simp only [R32, R64] at *; omega))) (show (v 210 46) ≤ (v 210 44) from (by first | assumption | omega | (unfold R32 at *; omega) | (unfold R64 at *; omega) | (simp only [R32, R64] at *; omega))) (hp_c)
              · show WV _ _ _ 133 _ _ _ _ _
                rw [if_pos h_130] at hQ
                refine r_ex 2 (pc' := 135) (lo' := [some (.inr (.inr (some 203))), some (.inl 6)]) (st' := [.inl 3, .inr (.inr (some 203))]) rfl ?_
                have hp_189 : 1 ≤ (3 : Int) ∧ (3 : Int) ≤ 3 := (by first | assumption | omega | (unfold R32 at *; omega) | (unfold R64 at *; omega) | (simp only [R32, R64] at *; omega))
                have hp_190 : (v 203 7) ≤ (v 203 6) ∧ ((v 203 8) = 0 ∨ (v 203 9) < (v 203 7)) ∧ (v 203 9) ≤ (v 203 7) := (show (v 203 7) ≤ (v 203 6) ∧ ((v 203 8) = 0 ∨ (v 203 9) < (v 203 7)) ∧ (v 203 9) ≤ (v 203 7) from (by first | assumption | omega | (unfold R32 at *; omega) | (unfold R64 at *; omega) | (simp only [R32, R64] at *; omega)))
                refine r_call (m := 219) (args := [.inr (.inr (some 203)), .inl 3]) (n' := 222) (pc' := 138) (lo' := [some (.inr (.inr (some 203))), some (.inl 6)]) (st' := []) (I := .invokevirtual 219) (pc0 := 135) (len := 3) rfl rfl rfl (e_mo_fails hX hp_189 hp_190) ?_
                show WV _ _ _ 138 _ [] _ (mo_fails v 3) _
                have hX_191 : XI (mo_fails v 3) := i_mo_fails (v := v) (k := 3) hX hp_189 hp_190
                have hb_192 : (mo_fails v 3) 209 4 = (v 209 4) := by rw [o_mo_fails (by omega)] <;> rfl
                have hb_193 : (mo_fails v 3) 210 44 = (v 210 44) := by rw [o_mo_fails (by omega)] <;> rfl
                have hb_194 : (mo_fails v 3) 210 46 = (v 210 46) := by rw [o_mo_fails (by omega)] <;> rfl
                have hb_195 : (mo_fails v 3) 210 47 = (v 210 47) := by rw [o_mo_fails (by omega)] <;> rfl
                have hb_196 : (mo_fails v 3) 210 48 = (v 210 48) := by rw [o_mo_fails (by omega)] <;> rfl
                have hb_197 : (mo_fails v 3) 210 49 = (v 210 49) := by rw [o_mo_fails (by omega)] <;> rfl
                have hb_198 : (mo_fails v 3) 210 50 = (v 210 50) := by rw [o_mo_fails (by omega)] <;> rfl
                have hb_199 : (mo_fails v 3) 210 51 = (v 210 51) := by rw [o_mo_fails (by omega)] <;> rfl
                have hb_200 : (mo_fails v 3) 210 52 = (v 210 52) := by rw [o_mo_fails (by omega)] <;> rfl
                have hb_201 : ((mo_fails v 3) 203 7) ≤ ((mo_fails v 3) 203 6) ∧ (((mo_fails v 3) 203 8) = 0 ∨ ((mo_fails v 3) 203 9) < ((mo_fails v 3) 203 7)) ∧ ((mo_fails v 3) 203 9) ≤ ((mo_fails v 3) 203 7) := n0_mo_fails (v := v) (k := 3) hX hp_189 hp_190
                have hb_202 : (v 203 9) ≤ ((mo_fails v 3) 203 9) := n1_mo_fails (v := v) (k := 3) hX hp_189 hp_190
                have hb_203 : ((mo_fails v 3) 203 12) ≠ 0 := n2_mo_fails (v := v) (k := 3) hX hp_189 hp_190
                refine r_ex 2 (pc' := 142) (lo' := [some (.inr (.inr (some 203))), some (.inl 6)]) (st' := [.inl ((mo_fails v 3) 203 12)]) rfl ?_
                have hb_204 : 0 ≤ ((mo_fails v 3) 203 12) ∧ ((mo_fails v 3) 203 12) ≤ 3 := hX_191 203 12
                refine n_if_eq (pc0 := 142) (len := 3) (t := 146) rfl (by first | assumption | omega | (unfold R32 at *; omega) | (unfold R64 at *; omega) | (simp only [R32, R64] at *; omega)) (fun h_142 => ?_) (fun h_142 => ?_)
                · show WV _ _ _ 146 _ _ _ _ _
                  rw [if_pos h_142] at hQ
                  exact l_mo_line_146  (mo_fails v 3) 6  hX_191 (show (6 = 2 ∧ ((mo_fails v 3) 210 46) < ((mo_fails v 3) 210 44)) ∨ (6 = 3 ∧ ((mo_fails v 3) 210 47) < 12) ∨ (6 = 4 ∧ ((mo_fails v 3) 210 48) < 4) ∨ (6 = 5 ∧ ((mo_fails v 3) 210 49) < 6) ∨ (6 = 6 ∧ ((mo_fails v 3) 210 50) < 6) ∨ (6 = 7 ∧ ((mo_fails v 3) 210 51) < 6) ∨ (6 = 8 ∧ ((mo_fails v 3) 210 52) < 6) from (by first | assumption | omega | (unfold R32 at *; omega) | (unfold R64 at *; omega) | (simp only [R32, R64] at *; omega))) (show ((mo_fails v 3) 210 46) ≤ ((mo_fails v 3) 210 44) from (by first | assumption | omega | (unfold R32 at *; omega) | (unfold R64 at *; omega) | (simp only [R32, R64] at *; omega))) (show ((mo_fails v 3) 203 7) ≤ ((mo_fails v 3) 203 6) ∧ (((mo_fails v 3) 203 8) = 0 ∨ ((mo_fails v 3) 203 9) < ((mo_fails v 3) 203 7)) ∧ ((mo_fails v 3) 203 9) ≤ ((mo_fails v 3) 203 7) from (by first | assumption | omega | (unfold R32 at *; omega) | (unfold R64 at *; omega) | (simp only [R32, R64] at *; omega))) (show CF (mo_fails v 3) from (show CF (mo_fails v 3) from CF.of hp_c (fun k h1 h2 => by rw [o_mo_fails (by omega)]))) (fun hx_ p_0 p_1 p_2 p_3 => hQ hx_ p_0 (by have q_ : ((mo_fails v 3) 203 9) ≤ ((mo_line_146  (mo_fails v 3) 6) 203 9) := p_1; omega) p_2 p_3)
                · show WV _ _ _ 145 _ _ _ _ _
                  rw [if_neg h_142] at hQ
                  refine r_ret (rr := none) (I := .return_) (pc0 := 145) (len := 1) rfl rfl ?_
                  exact hQ hX_191 (show ((mo_fails v 3) 203 7) ≤ ((mo_fails v 3) 203 6) ∧ (((mo_fails v 3) 203 8) = 0 ∨ ((mo_fails v 3) 203 9) < ((mo_fails v 3) 203 7)) ∧ ((mo_fails v 3) 203 9) ≤ ((mo_fails v 3) 203 7) from (by first | assumption | omega | (unfold R32 at *; omega) | (unfold R64 at *; omega) | (simp only [R32, R64] at *; omega))) (show (v 203 9) ≤ ((mo_fails v 3) 203 9) from (by first | assumption | omega | (unfold R32 at *; omega) | (unfold R64 at *; omega) | (simp only [R32, R64] at *; omega))) (show ((mo_fails v 3) 210 46) ≤ ((mo_fails v 3) 210 44) from (by first | assumption | omega | (unfold R32 at *; omega) | (unfold R64 at *; omega) | (simp only [R32, R64] at *; omega))) (show CF (mo_fails v 3) from (show CF (mo_fails v 3) from CF.of hp_c (fun k h1 h2 => by rw [o_mo_fails (by omega)])))
          · show WV _ _ _ 63 _ _ _ _ _
            rw [if_neg h_60] at hQ
            refine r_ex 3 (pc' := 75) (lo' := [some (.inr (.inr (some 203))), none]) (st' := [.inr (.inl 82410), .inr (.inr (some 203))]) rfl ?_
            have hp_205 : R64 (82410 : Int) := (by first | assumption | omega | (unfold R32 at *; omega) | (unfold R64 at *; omega) | (simp only [R32, R64] at *; omega))
            refine r_callb (P := (v 203 12) = 0 ∧ (v 203 8) = 1 ∧ (v 203 11) = (82410 : Int)) (m := 218) (args := [.inr (.inr (some 203)), .inr (.inl 82410)]) (n' := 222) (pc' := 78) (lo' := [some (.inr (.inr (some 203))), none]) (st' := []) (I := .invokevirtual 218) (pc0 := 75) (len := 3) rfl rfl rfl (e_mo_is hX hp_205) (fun h_75 => ?_) (fun h_75 => ?_)
            · show WV _ _ _ 78 _ _ _ _ _
              rw [if_pos h_75] at hQ
              clear h_4 h_18 h_32 h_46 h_60
              refine r_ex 9 (pc' := 117) (lo' := [some (.inr (.inr (some 203))), some (.inl 7)]) (st' := [.inl (v 203 12)]) rfl ?_
              have hb_206 : 0 ≤ (v 203 12) ∧ (v 203 12) ≤ 3 := hX 203 12
              refine n_if_ne (pc0 := 117) (len := 3) (t := 138) rfl (by first | assumption | omega | (unfold R32 at *; omega) | (unfold R64 at *; omega) | (simp only [R32, R64] at *; omega)) (fun h_117 => ?_) (fun h_117 => ?_)
              · show WV _ _ _ 138 _ _ _ _ _
                rw [if_neg h_117] at hQ
                refine r_ex 2 (pc' := 142) (lo' := [some (.inr (.inr (some 203))), some (.inl 7)]) (st' := [.inl (v 203 12)]) rfl ?_
                refine n_if_eq (pc0 := 142) (len := 3) (t := 146) rfl (by first | assumption | omega | (unfold R32 at *; omega) | (unfold R64 at *; omega) | (simp only [R32, R64] at *; omega)) (fun h_142 => ?_) (fun h_142 => ?_)
                · show WV _ _ _ 146 _ _ _ _ _
                  rw [if_pos h_142] at hQ
                  exact l_mo_line_146  v 7  hX (show (7 = 2 ∧ (v 210 46) < (v 210 44)) ∨ (7 = 3 ∧ (v 210 47) < 12) ∨ (7 = 4 ∧ (v 210 48) < 4) ∨ (7 = 5 ∧ (v 210 49) < 6) ∨ (7 = 6 ∧ (v 210 50) < 6) ∨ (7 = 7 ∧ (v 210 51) < 6) ∨ (7 = 8 ∧ (v 210 52) < 6) from (by first | assumption | omega | (unfold R32 at *; omega) | (unfold R64 at *; omega) | (simp only [R32, R64] at *; omega))) (show (v 210 46) ≤ (v 210 44) from (by first | assumption | omega | (unfold R32 at *; omega) | (unfold R64 at *; omega) | (simp only [R32, R64] at *; omega))) (show (v 203 7) ≤ (v 203 6) ∧ ((v 203 8) = 0 ∨ (v 203 9) < (v 203 7)) ∧ (v 203 9) ≤ (v 203 7) from (by first | assumption | omega | (unfold R32 at *; omega) | (unfold R64 at *; omega) | (simp only [R32, R64] at *; omega))) (hp_c) (fun hx_ p_0 p_1 p_2 p_3 => hQ hx_ p_0 (by have q_ : (v 203 9) ≤ ((mo_line_146  v 7) 203 9) := p_1; omega) p_2 p_3)
                · show WV _ _ _ 145 _ _ _ _ _
                  rw [if_neg h_142] at hQ
                  refine r_ret (rr := none) (I := .return_) (pc0 := 145) (len := 1) rfl rfl ?_
                  exact hQ hX (show (v 203 7) ≤ (v 203 6) ∧ ((v 203 8) = 0 ∨ (v 203 9) < (v 203 7)) ∧ (v 203 9) ≤ (v 203 7) from (by first | assumption | omega | (unfold R32 at *; omega) | (unfold R64 at *; omega) | (simp only [R32, R64] at *; omega))) (show (v 203 9) ≤ (v 203 9) from (by first | assumption | omega | (unfold R32 at *; omega) | (unfold R64 at *; omega) | (simp only [R32, R64] at *; omega))) (show (v 210 46) ≤ (v 210 44) from (by first | assumption | omega | (unfold R32 at *; omega) | (unfold R64 at *; omega) | (simp only [R32, R64] at *; omega))) (hp_c)
              · show WV _ _ _ 120 _ _ _ _ _
                rw [if_pos h_117] at hQ
                refine r_ex 2 (pc' := 122) (lo' := [some (.inr (.inr (some 203))), some (.inl 7)]) (st' := [.inl 7, .inr (.inr (some 203))]) rfl ?_
                refine r_call (m := 223) (args := [.inr (.inr (some 203)), .inl 7]) (n' := 222) (pc' := 125) (lo' := [some (.inr (.inr (some 203))), some (.inl 7)]) (st' := []) (I := .invokevirtual 223) (pc0 := 122) (len := 3) rfl rfl rfl (e_mo_hr7 hX) ?_
                show WV _ _ _ 125 _ [.inl (v 210 51)] _ _ _
                have hb_207 : 0 ≤ (v 210 51) ∧ (v 210 51) ≤ 6 := hX 210 51
                refine r_ex 2 (pc' := 127) (lo' := [some (.inr (.inr (some 203))), some (.inl 7)]) (st' := [.inl 7, .inr (.inr (some 203)), .inl (v 210 51)]) rfl ?_
                refine r_call (m := 224) (args := [.inr (.inr (some 203)), .inl 7]) (n' := 222) (pc' := 130) (lo' := [some (.inr (.inr (some 203))), some (.inl 7)]) (st' := [.inl (v 210 51)]) (I := .invokevirtual 224) (pc0 := 127) (len := 3) rfl rfl rfl (e_mo_most7 hX) ?_
                show WV _ _ _ 130 _ [.inl 6, .inl (v 210 51)] _ _ _
                refine n_ic_ne (pc0 := 130) (len := 3) (t := 138) rfl (by first | assumption | omega | (unfold R32 at *; omega) | (unfold R64 at *; omega) | (simp only [R32, R64] at *; omega)) (by first | assumption | omega | (unfold R32 at *; omega) | (unfold R64 at *; omega) | (simp only [R32, R64] at *; omega)) (fun h_130 => ?_) (fun h_130 => ?_)
                · show WV _ _ _ 138 _ _ _ _ _
                  rw [if_neg h_130] at hQ
                  refine r_ex 2 (pc' := 142) (lo' := [some (.inr (.inr (some 203))), some (.inl 7)]) (st' := [.inl (v 203 12)]) rfl ?_
                  refine n_if_eq (pc0 := 142) (len := 3) (t := 146) rfl (by first | assumption | omega | (unfold R32 at *; omega) | (unfold R64 at *; omega) | (simp only [R32, R64] at *; omega)) (fun h_142 => ?_) (fun h_142 => ?_)
                  · show WV _ _ _ 146 _ _ _ _ _
                    rw [if_pos h_142] at hQ
                    exact l_mo_line_146  v 7  hX (show (7 = 2 ∧ (v 210 46) < (v 210 44)) ∨ (7 = 3 ∧ (v 210 47) < 12) ∨ (7 = 4 ∧ (v 210 48) < 4) ∨ (7 = 5 ∧ (v 210 49) < 6) ∨ (7 = 6 ∧ (v 210 50) < 6) ∨ (7 = 7 ∧ (v 210 51) < 6) ∨ (7 = 8 ∧ (v 210 52) < 6) from (by first | assumption | omega | (unfold R32 at *; omega) | (unfold R64 at *; omega) | (simp only [R32, R64] at *; omega))) (show (v 210 46) ≤ (v 210 44) from (by first | assumption | omega | (unfold R32 at *; omega) | (unfold R64 at *; omega) | (simp only [R32, R64] at *; omega))) (show (v 203 7) ≤ (v 203 6) ∧ ((v 203 8) = 0 ∨ (v 203 9) < (v 203 7)) ∧ (v 203 9) ≤ (v 203 7) from (by first | assumption | omega | (unfold R32 at *; omega) | (unfold R64 at *; omega) | (simp only [R32, R64] at *; omega))) (hp_c) (fun hx_ p_0 p_1 p_2 p_3 => hQ hx_ p_0 (by have q_ : (v 203 9) ≤ ((mo_line_146  v 7) 203 9) := p_1; omega) p_2 p_3)
                  · show WV _ _ _ 145 _ _ _ _ _
                    rw [if_neg h_142] at hQ
                    refine r_ret (rr := none) (I := .return_) (pc0 := 145) (len := 1) rfl rfl ?_
                    exact hQ hX (show (v 203 7) ≤ (v 203 6) ∧ ((v 203 8) = 0 ∨ (v 203 9) < (v 203 7)) ∧ (v 203 9) ≤ (v 203 7) from (by first | assumption | omega | (unfold R32 at *; omega) | (unfold R64 at *; omega) | (simp only [R32, R64] at *; omega))) (show (v 203 9) ≤ (v 203 9) from (by first | assumption | omega | (unfold R32 at *; omega) | (unfold R64 at *; omega) | (simp only [R32, R64] at *; omega))) (show (v 210 46) ≤ (v 210 44) from (by first | assumption | omega | (unfold R32 at *; omega) | (unfold R64 at *; omega) | (simp only [R32, R64] at *; omega))) (hp_c)
                · show WV _ _ _ 133 _ _ _ _ _
                  rw [if_pos h_130] at hQ
                  refine r_ex 2 (pc' := 135) (lo' := [some (.inr (.inr (some 203))), some (.inl 7)]) (st' := [.inl 3, .inr (.inr (some 203))]) rfl ?_
                  have hp_208 : 1 ≤ (3 : Int) ∧ (3 : Int) ≤ 3 := (by first | assumption | omega | (unfold R32 at *; omega) | (unfold R64 at *; omega) | (simp only [R32, R64] at *; omega))
                  have hp_209 : (v 203 7) ≤ (v 203 6) ∧ ((v 203 8) = 0 ∨ (v 203 9) < (v 203 7)) ∧ (v 203 9) ≤ (v 203 7) := (show (v 203 7) ≤ (v 203 6) ∧ ((v 203 8) = 0 ∨ (v 203 9) < (v 203 7)) ∧ (v 203 9) ≤ (v 203 7) from (by first | assumption | omega | (unfold R32 at *; omega) | (unfold R64 at *; omega) | (simp only [R32, R64] at *; omega)))
                  refine r_call (m := 219) (args := [.inr (.inr (some 203)), .inl 3]) (n' := 222) (pc' := 138) (lo' := [some (.inr (.inr (some 203))), some (.inl 7)]) (st' := []) (I := .invokevirtual 219) (pc0 := 135) (len := 3) rfl rfl rfl (e_mo_fails hX hp_208 hp_209) ?_
                  show WV _ _ _ 138 _ [] _ (mo_fails v 3) _
                  have hX_210 : XI (mo_fails v 3) := i_mo_fails (v := v) (k := 3) hX hp_208 hp_209
                  have hb_211 : (mo_fails v 3) 209 4 = (v 209 4) := by rw [o_mo_fails (by omega)] <;> rfl
                  have hb_212 : (mo_fails v 3) 210 44 = (v 210 44) := by rw [o_mo_fails (by omega)] <;> rfl
                  have hb_213 : (mo_fails v 3) 210 46 = (v 210 46) := by rw [o_mo_fails (by omega)] <;> rfl
                  have hb_214 : (mo_fails v 3) 210 47 = (v 210 47) := by rw [o_mo_fails (by omega)] <;> rfl
                  have hb_215 : (mo_fails v 3) 210 48 = (v 210 48) := by rw [o_mo_fails (by omega)] <;> rfl
                  have hb_216 : (mo_fails v 3) 210 49 = (v 210 49) := by rw [o_mo_fails (by omega)] <;> rfl
                  have hb_217 : (mo_fails v 3) 210 50 = (v 210 50) := by rw [o_mo_fails (by omega)] <;> rfl
                  have hb_218 : (mo_fails v 3) 210 51 = (v 210 51) := by rw [o_mo_fails (by omega)] <;> rfl
                  have hb_219 : (mo_fails v 3) 210 52 = (v 210 52) := by rw [o_mo_fails (by omega)] <;> rfl
                  have hb_220 : ((mo_fails v 3) 203 7) ≤ ((mo_fails v 3) 203 6) ∧ (((mo_fails v 3) 203 8) = 0 ∨ ((mo_fails v 3) 203 9) < ((mo_fails v 3) 203 7)) ∧ ((mo_fails v 3) 203 9) ≤ ((mo_fails v 3) 203 7) := n0_mo_fails (v := v) (k := 3) hX hp_208 hp_209
                  have hb_221 : (v 203 9) ≤ ((mo_fails v 3) 203 9) := n1_mo_fails (v := v) (k := 3) hX hp_208 hp_209
                  have hb_222 : ((mo_fails v 3) 203 12) ≠ 0 := n2_mo_fails (v := v) (k := 3) hX hp_208 hp_209
                  refine r_ex 2 (pc' := 142) (lo' := [some (.inr (.inr (some 203))), some (.inl 7)]) (st' := [.inl ((mo_fails v 3) 203 12)]) rfl ?_
                  have hb_223 : 0 ≤ ((mo_fails v 3) 203 12) ∧ ((mo_fails v 3) 203 12) ≤ 3 := hX_210 203 12
                  refine n_if_eq (pc0 := 142) (len := 3) (t := 146) rfl (by first | assumption | omega | (unfold R32 at *; omega) | (unfold R64 at *; omega) | (simp only [R32, R64] at *; omega)) (fun h_142 => ?_) (fun h_142 => ?_)
                  · show WV _ _ _ 146 _ _ _ _ _
                    rw [if_pos h_142] at hQ
                    exact l_mo_line_146  (mo_fails v 3) 7  hX_210 (show (7 = 2 ∧ ((mo_fails v 3) 210 46) < ((mo_fails v 3) 210 44)) ∨ (7 = 3 ∧ ((mo_fails v 3) 210 47) < 12) ∨ (7 = 4 ∧ ((mo_fails v 3) 210 48) < 4) ∨ (7 = 5 ∧ ((mo_fails v 3) 210 49) < 6) ∨ (7 = 6 ∧ ((mo_fails v 3) 210 50) < 6) ∨ (7 = 7 ∧ ((mo_fails v 3) 210 51) < 6) ∨ (7 = 8 ∧ ((mo_fails v 3) 210 52) < 6) from (by first | assumption | omega | (unfold R32 at *; omega) | (unfold R64 at *; omega) | (simp only [R32, R64] at *; omega))) (show ((mo_fails v 3) 210 46) ≤ ((mo_fails v 3) 210 44) from (by first | assumption | omega | (unfold R32 at *; omega) | (unfold R64 at *; omega) | (simp only [R32, R64] at *; omega))) (show ((mo_fails v 3) 203 7) ≤ ((mo_fails v 3) 203 6) ∧ (((mo_fails v 3) 203 8) = 0 ∨ ((mo_fails v 3) 203 9) < ((mo_fails v 3) 203 7)) ∧ ((mo_fails v 3) 203 9) ≤ ((mo_fails v 3) 203 7) from (by first | assumption | omega | (unfold R32 at *; omega) | (unfold R64 at *; omega) | (simp only [R32, R64] at *; omega))) (show CF (mo_fails v 3) from (show CF (mo_fails v 3) from CF.of hp_c (fun k h1 h2 => by rw [o_mo_fails (by omega)]))) (fun hx_ p_0 p_1 p_2 p_3 => hQ hx_ p_0 (by have q_ : ((mo_fails v 3) 203 9) ≤ ((mo_line_146  (mo_fails v 3) 7) 203 9) := p_1; omega) p_2 p_3)
                  · show WV _ _ _ 145 _ _ _ _ _
                    rw [if_neg h_142] at hQ
                    refine r_ret (rr := none) (I := .return_) (pc0 := 145) (len := 1) rfl rfl ?_
                    exact hQ hX_210 (show ((mo_fails v 3) 203 7) ≤ ((mo_fails v 3) 203 6) ∧ (((mo_fails v 3) 203 8) = 0 ∨ ((mo_fails v 3) 203 9) < ((mo_fails v 3) 203 7)) ∧ ((mo_fails v 3) 203 9) ≤ ((mo_fails v 3) 203 7) from (by first | assumption | omega | (unfold R32 at *; omega) | (unfold R64 at *; omega) | (simp only [R32, R64] at *; omega))) (show (v 203 9) ≤ ((mo_fails v 3) 203 9) from (by first | assumption | omega | (unfold R32 at *; omega) | (unfold R64 at *; omega) | (simp only [R32, R64] at *; omega))) (show ((mo_fails v 3) 210 46) ≤ ((mo_fails v 3) 210 44) from (by first | assumption | omega | (unfold R32 at *; omega) | (unfold R64 at *; omega) | (simp only [R32, R64] at *; omega))) (show CF (mo_fails v 3) from (show CF (mo_fails v 3) from CF.of hp_c (fun k h1 h2 => by rw [o_mo_fails (by omega)])))
            · show WV _ _ _ 78 _ _ _ _ _
              rw [if_neg h_75] at hQ
              refine r_ex 3 (pc' := 90) (lo' := [some (.inr (.inr (some 203))), none]) (st' := [.inr (.inl 2633401731), .inr (.inr (some 203))]) rfl ?_
              have hp_224 : R64 (2633401731 : Int) := (by first | assumption | omega | (unfold R32 at *; omega) | (unfold R64 at *; omega) | (simp only [R32, R64] at *; omega))
              refine r_callb (P := (v 203 12) = 0 ∧ (v 203 8) = 1 ∧ (v 203 11) = (2633401731 : Int)) (m := 218) (args := [.inr (.inr (some 203)), .inr (.inl 2633401731)]) (n' := 222) (pc' := 93) (lo' := [some (.inr (.inr (some 203))), none]) (st' := []) (I := .invokevirtual 218) (pc0 := 90) (len := 3) rfl rfl rfl (e_mo_is hX hp_224) (fun h_90 => ?_) (fun h_90 => ?_)
              · show WV _ _ _ 93 _ _ _ _ _
                rw [if_pos h_90] at hQ
                clear h_4 h_18 h_32 h_46 h_60 h_75
                refine r_ex 9 (pc' := 117) (lo' := [some (.inr (.inr (some 203))), some (.inl 8)]) (st' := [.inl (v 203 12)]) rfl ?_
                have hb_225 : 0 ≤ (v 203 12) ∧ (v 203 12) ≤ 3 := hX 203 12
                refine n_if_ne (pc0 := 117) (len := 3) (t := 138) rfl (by first | assumption | omega | (unfold R32 at *; omega) | (unfold R64 at *; omega) | (simp only [R32, R64] at *; omega)) (fun h_117 => ?_) (fun h_117 => ?_)
                · show WV _ _ _ 138 _ _ _ _ _
                  rw [if_neg h_117] at hQ
                  refine r_ex 2 (pc' := 142) (lo' := [some (.inr (.inr (some 203))), some (.inl 8)]) (st' := [.inl (v 203 12)]) rfl ?_
                  refine n_if_eq (pc0 := 142) (len := 3) (t := 146) rfl (by first | assumption | omega | (unfold R32 at *; omega) | (unfold R64 at *; omega) | (simp only [R32, R64] at *; omega)) (fun h_142 => ?_) (fun h_142 => ?_)
                  · show WV _ _ _ 146 _ _ _ _ _
                    rw [if_pos h_142] at hQ
                    exact l_mo_line_146  v 8  hX (show (8 = 2 ∧ (v 210 46) < (v 210 44)) ∨ (8 = 3 ∧ (v 210 47) < 12) ∨ (8 = 4 ∧ (v 210 48) < 4) ∨ (8 = 5 ∧ (v 210 49) < 6) ∨ (8 = 6 ∧ (v 210 50) < 6) ∨ (8 = 7 ∧ (v 210 51) < 6) ∨ (8 = 8 ∧ (v 210 52) < 6) from (by first | assumption | omega | (unfold R32 at *; omega) | (unfold R64 at *; omega) | (simp only [R32, R64] at *; omega))) (show (v 210 46) ≤ (v 210 44) from (by first | assumption | omega | (unfold R32 at *; omega) | (unfold R64 at *; omega) | (simp only [R32, R64] at *; omega))) (show (v 203 7) ≤ (v 203 6) ∧ ((v 203 8) = 0 ∨ (v 203 9) < (v 203 7)) ∧ (v 203 9) ≤ (v 203 7) from (by first | assumption | omega | (unfold R32 at *; omega) | (unfold R64 at *; omega) | (simp only [R32, R64] at *; omega))) (hp_c) (fun hx_ p_0 p_1 p_2 p_3 => hQ hx_ p_0 (by have q_ : (v 203 9) ≤ ((mo_line_146  v 8) 203 9) := p_1; omega) p_2 p_3)
                  · show WV _ _ _ 145 _ _ _ _ _
                    rw [if_neg h_142] at hQ
                    refine r_ret (rr := none) (I := .return_) (pc0 := 145) (len := 1) rfl rfl ?_
                    exact hQ hX (show (v 203 7) ≤ (v 203 6) ∧ ((v 203 8) = 0 ∨ (v 203 9) < (v 203 7)) ∧ (v 203 9) ≤ (v 203 7) from (by first | assumption | omega | (unfold R32 at *; omega) | (unfold R64 at *; omega) | (simp only [R32, R64] at *; omega))) (show (v 203 9) ≤ (v 203 9) from (by first | assumption | omega | (unfold R32 at *; omega) | (unfold R64 at *; omega) | (simp only [R32, R64] at *; omega))) (show (v 210 46) ≤ (v 210 44) from (by first | assumption | omega | (unfold R32 at *; omega) | (unfold R64 at *; omega) | (simp only [R32, R64] at *; omega))) (hp_c)
                · show WV _ _ _ 120 _ _ _ _ _
                  rw [if_pos h_117] at hQ
                  refine r_ex 2 (pc' := 122) (lo' := [some (.inr (.inr (some 203))), some (.inl 8)]) (st' := [.inl 8, .inr (.inr (some 203))]) rfl ?_
                  refine r_call (m := 223) (args := [.inr (.inr (some 203)), .inl 8]) (n' := 222) (pc' := 125) (lo' := [some (.inr (.inr (some 203))), some (.inl 8)]) (st' := []) (I := .invokevirtual 223) (pc0 := 122) (len := 3) rfl rfl rfl (e_mo_hr8 hX) ?_
                  show WV _ _ _ 125 _ [.inl (v 210 52)] _ _ _
                  have hb_226 : 0 ≤ (v 210 52) ∧ (v 210 52) ≤ 6 := hX 210 52
                  refine r_ex 2 (pc' := 127) (lo' := [some (.inr (.inr (some 203))), some (.inl 8)]) (st' := [.inl 8, .inr (.inr (some 203)), .inl (v 210 52)]) rfl ?_
                  refine r_call (m := 224) (args := [.inr (.inr (some 203)), .inl 8]) (n' := 222) (pc' := 130) (lo' := [some (.inr (.inr (some 203))), some (.inl 8)]) (st' := [.inl (v 210 52)]) (I := .invokevirtual 224) (pc0 := 127) (len := 3) rfl rfl rfl (e_mo_most8 hX) ?_
                  show WV _ _ _ 130 _ [.inl 6, .inl (v 210 52)] _ _ _
                  refine n_ic_ne (pc0 := 130) (len := 3) (t := 138) rfl (by first | assumption | omega | (unfold R32 at *; omega) | (unfold R64 at *; omega) | (simp only [R32, R64] at *; omega)) (by first | assumption | omega | (unfold R32 at *; omega) | (unfold R64 at *; omega) | (simp only [R32, R64] at *; omega)) (fun h_130 => ?_) (fun h_130 => ?_)
                  · show WV _ _ _ 138 _ _ _ _ _
                    rw [if_neg h_130] at hQ
                    refine r_ex 2 (pc' := 142) (lo' := [some (.inr (.inr (some 203))), some (.inl 8)]) (st' := [.inl (v 203 12)]) rfl ?_
                    refine n_if_eq (pc0 := 142) (len := 3) (t := 146) rfl (by first | assumption | omega | (unfold R32 at *; omega) | (unfold R64 at *; omega) | (simp only [R32, R64] at *; omega)) (fun h_142 => ?_) (fun h_142 => ?_)
                    · show WV _ _ _ 146 _ _ _ _ _
                      rw [if_pos h_142] at hQ
                      exact l_mo_line_146  v 8  hX (show (8 = 2 ∧ (v 210 46) < (v 210 44)) ∨ (8 = 3 ∧ (v 210 47) < 12) ∨ (8 = 4 ∧ (v 210 48) < 4) ∨ (8 = 5 ∧ (v 210 49) < 6) ∨ (8 = 6 ∧ (v 210 50) < 6) ∨ (8 = 7 ∧ (v 210 51) < 6) ∨ (8 = 8 ∧ (v 210 52) < 6) from (by first | assumption | omega | (unfold R32 at *; omega) | (unfold R64 at *; omega) | (simp only [R32, R64] at *; omega))) (show (v 210 46) ≤ (v 210 44) from (by first | assumption | omega | (unfold R32 at *; omega) | (unfold R64 at *; omega) | (simp only [R32, R64] at *; omega))) (show (v 203 7) ≤ (v 203 6) ∧ ((v 203 8) = 0 ∨ (v 203 9) < (v 203 7)) ∧ (v 203 9) ≤ (v 203 7) from (by first | assumption | omega | (unfold R32 at *; omega) | (unfold R64 at *; omega) | (simp only [R32, R64] at *; omega))) (hp_c) (fun hx_ p_0 p_1 p_2 p_3 => hQ hx_ p_0 (by have q_ : (v 203 9) ≤ ((mo_line_146  v 8) 203 9) := p_1; omega) p_2 p_3)
                    · show WV _ _ _ 145 _ _ _ _ _
                      rw [if_neg h_142] at hQ
                      refine r_ret (rr := none) (I := .return_) (pc0 := 145) (len := 1) rfl rfl ?_
                      exact hQ hX (show (v 203 7) ≤ (v 203 6) ∧ ((v 203 8) = 0 ∨ (v 203 9) < (v 203 7)) ∧ (v 203 9) ≤ (v 203 7) from (by first | assumption | omega | (unfold R32 at *; omega) | (unfold R64 at *; omega) | (simp only [R32, R64] at *; omega))) (show (v 203 9) ≤ (v 203 9) from (by first | assumption | omega | (unfold R32 at *; omega) | (unfold R64 at *; omega) | (simp only [R32, R64] at *; omega))) (show (v 210 46) ≤ (v 210 44) from (by first | assumption | omega | (unfold R32 at *; omega) | (unfold R64 at *; omega) | (simp only [R32, R64] at *; omega))) (hp_c)
                  · show WV _ _ _ 133 _ _ _ _ _
                    rw [if_pos h_130] at hQ
                    refine r_ex 2 (pc' := 135) (lo' := [some (.inr (.inr (some 203))), some (.inl 8)]) (st' := [.inl 3, .inr (.inr (some 203))]) rfl ?_
                    have hp_227 : 1 ≤ (3 : Int) ∧ (3 : Int) ≤ 3 := (by first | assumption | omega | (unfold R32 at *; omega) | (unfold R64 at *; omega) | (simp only [R32, R64] at *; omega))
                    have hp_228 : (v 203 7) ≤ (v 203 6) ∧ ((v 203 8) = 0 ∨ (v 203 9) < (v 203 7)) ∧ (v 203 9) ≤ (v 203 7) := (show (v 203 7) ≤ (v 203 6) ∧ ((v 203 8) = 0 ∨ (v 203 9) < (v 203 7)) ∧ (v 203 9) ≤ (v 203 7) from (by first | assumption | omega | (unfold R32 at *; omega) | (unfold R64 at *; omega) | (simp only [R32, R64] at *; omega)))
                    refine r_call (m := 219) (args := [.inr (.inr (some 203)), .inl 3]) (n' := 222) (pc' := 138) (lo' := [some (.inr (.inr (some 203))), some (.inl 8)]) (st' := []) (I := .invokevirtual 219) (pc0 := 135) (len := 3) rfl rfl rfl (e_mo_fails hX hp_227 hp_228) ?_
                    show WV _ _ _ 138 _ [] _ (mo_fails v 3) _
                    have hX_229 : XI (mo_fails v 3) := i_mo_fails (v := v) (k := 3) hX hp_227 hp_228
                    have hb_230 : (mo_fails v 3) 209 4 = (v 209 4) := by rw [o_mo_fails (by omega)] <;> rfl
                    have hb_231 : (mo_fails v 3) 210 44 = (v 210 44) := by rw [o_mo_fails (by omega)] <;> rfl
                    have hb_232 : (mo_fails v 3) 210 46 = (v 210 46) := by rw [o_mo_fails (by omega)] <;> rfl
                    have hb_233 : (mo_fails v 3) 210 47 = (v 210 47) := by rw [o_mo_fails (by omega)] <;> rfl
                    have hb_234 : (mo_fails v 3) 210 48 = (v 210 48) := by rw [o_mo_fails (by omega)] <;> rfl
                    have hb_235 : (mo_fails v 3) 210 49 = (v 210 49) := by rw [o_mo_fails (by omega)] <;> rfl
                    have hb_236 : (mo_fails v 3) 210 50 = (v 210 50) := by rw [o_mo_fails (by omega)] <;> rfl
                    have hb_237 : (mo_fails v 3) 210 51 = (v 210 51) := by rw [o_mo_fails (by omega)] <;> rfl
                    have hb_238 : (mo_fails v 3) 210 52 = (v 210 52) := by rw [o_mo_fails (by omega)] <;> rfl
                    have hb_239 : ((mo_fails v 3) 203 7) ≤ ((mo_fails v 3) 203 6) ∧ (((mo_fails v 3) 203 8) = 0 ∨ ((mo_fails v 3) 203 9) < ((mo_fails v 3) 203 7)) ∧ ((mo_fails v 3) 203 9) ≤ ((mo_fails v 3) 203 7) := n0_mo_fails (v := v) (k := 3) hX hp_227 hp_228
                    have hb_240 : (v 203 9) ≤ ((mo_fails v 3) 203 9) := n1_mo_fails (v := v) (k := 3) hX hp_227 hp_228
                    have hb_241 : ((mo_fails v 3) 203 12) ≠ 0 := n2_mo_fails (v := v) (k := 3) hX hp_227 hp_228
                    refine r_ex 2 (pc' := 142) (lo' := [some (.inr (.inr (some 203))), some (.inl 8)]) (st' := [.inl ((mo_fails v 3) 203 12)]) rfl ?_
                    have hb_242 : 0 ≤ ((mo_fails v 3) 203 12) ∧ ((mo_fails v 3) 203 12) ≤ 3 := hX_229 203 12
                    refine n_if_eq (pc0 := 142) (len := 3) (t := 146) rfl (by first | assumption | omega | (unfold R32 at *; omega) | (unfold R64 at *; omega) | (simp only [R32, R64] at *; omega)) (fun h_142 => ?_) (fun h_142 => ?_)
                    · show WV _ _ _ 146 _ _ _ _ _
                      rw [if_pos h_142] at hQ
                      exact l_mo_line_146  (mo_fails v 3) 8  hX_229 (show (8 = 2 ∧ ((mo_fails v 3) 210 46) < ((mo_fails v 3) 210 44)) ∨ (8 = 3 ∧ ((mo_fails v 3) 210 47) < 12) ∨ (8 = 4 ∧ ((mo_fails v 3) 210 48) < 4) ∨ (8 = 5 ∧ ((mo_fails v 3) 210 49) < 6) ∨ (8 = 6 ∧ ((mo_fails v 3) 210 50) < 6) ∨ (8 = 7 ∧ ((mo_fails v 3) 210 51) < 6) ∨ (8 = 8 ∧ ((mo_fails v 3) 210 52) < 6) from (by first | assumption | omega | (unfold R32 at *; omega) | (unfold R64 at *; omega) | (simp only [R32, R64] at *; omega))) (show ((mo_fails v 3) 210 46) ≤ ((mo_fails v 3) 210 44) from (by first | assumption | omega | (unfold R32 at *; omega) | (unfold R64 at *; omega) | (simp only [R32, R64] at *; omega))) (show ((mo_fails v 3) 203 7) ≤ ((mo_fails v 3) 203 6) ∧ (((mo_fails v 3) 203 8) = 0 ∨ ((mo_fails v 3) 203 9) < ((mo_fails v 3) 203 7)) ∧ ((mo_fails v 3) 203 9) ≤ ((mo_fails v 3) 203 7) from (by first | assumption | omega | (unfold R32 at *; omega) | (unfold R64 at *; omega) | (simp only [R32, R64] at *; omega))) (show CF (mo_fails v 3) from (show CF (mo_fails v 3) from CF.of hp_c (fun k h1 h2 => by rw [o_mo_fails (by omega)]))) (fun hx_ p_0 p_1 p_2 p_3 => hQ hx_ p_0 (by have q_ : ((mo_fails v 3) 203 9) ≤ ((mo_line_146  (mo_fails v 3) 8) 203 9) := p_1; omega) p_2 p_3)
                    · show WV _ _ _ 145 _ _ _ _ _
                      rw [if_neg h_142] at hQ
                      refine r_ret (rr := none) (I := .return_) (pc0 := 145) (len := 1) rfl rfl ?_
                      exact hQ hX_229 (show ((mo_fails v 3) 203 7) ≤ ((mo_fails v 3) 203 6) ∧ (((mo_fails v 3) 203 8) = 0 ∨ ((mo_fails v 3) 203 9) < ((mo_fails v 3) 203 7)) ∧ ((mo_fails v 3) 203 9) ≤ ((mo_fails v 3) 203 7) from (by first | assumption | omega | (unfold R32 at *; omega) | (unfold R64 at *; omega) | (simp only [R32, R64] at *; omega))) (show (v 203 9) ≤ ((mo_fails v 3) 203 9) from (by first | assumption | omega | (unfold R32 at *; omega) | (unfold R64 at *; omega) | (simp only [R32, R64] at *; omega))) (show ((mo_fails v 3) 210 46) ≤ ((mo_fails v 3) 210 44) from (by first | assumption | omega | (unfold R32 at *; omega) | (unfold R64 at *; omega) | (simp only [R32, R64] at *; omega))) (show CF (mo_fails v 3) from (show CF (mo_fails v 3) from CF.of hp_c (fun k h1 h2 => by rw [o_mo_fails (by omega)])))
              · show WV _ _ _ 93 _ _ _ _ _
                rw [if_neg h_90] at hQ
                clear h_4 h_18 h_32 h_46 h_60 h_75 h_90
                refine r_ex 8 (pc' := 110) (lo' := [some (.inr (.inr (some 203))), some (.inl (-1))]) (st' := [.inl 1, .inr (.inr (some 203))]) rfl ?_
                have hp_243 : 1 ≤ (1 : Int) ∧ (1 : Int) ≤ 3 := (by first | assumption | omega | (unfold R32 at *; omega) | (unfold R64 at *; omega) | (simp only [R32, R64] at *; omega))
                have hp_244 : (v 203 7) ≤ (v 203 6) ∧ ((v 203 8) = 0 ∨ (v 203 9) < (v 203 7)) ∧ (v 203 9) ≤ (v 203 7) := (show (v 203 7) ≤ (v 203 6) ∧ ((v 203 8) = 0 ∨ (v 203 9) < (v 203 7)) ∧ (v 203 9) ≤ (v 203 7) from (by first | assumption | omega | (unfold R32 at *; omega) | (unfold R64 at *; omega) | (simp only [R32, R64] at *; omega)))
                refine r_call (m := 219) (args := [.inr (.inr (some 203)), .inl 1]) (n' := 222) (pc' := 113) (lo' := [some (.inr (.inr (some 203))), some (.inl (-1))]) (st' := []) (I := .invokevirtual 219) (pc0 := 110) (len := 3) rfl rfl rfl (e_mo_fails hX hp_243 hp_244) ?_
                show WV _ _ _ 113 _ [] _ (mo_fails v 1) _
                have hX_245 : XI (mo_fails v 1) := i_mo_fails (v := v) (k := 1) hX hp_243 hp_244
                have hb_246 : (mo_fails v 1) 209 4 = (v 209 4) := by rw [o_mo_fails (by omega)] <;> rfl
                have hb_247 : (mo_fails v 1) 210 44 = (v 210 44) := by rw [o_mo_fails (by omega)] <;> rfl
                have hb_248 : (mo_fails v 1) 210 46 = (v 210 46) := by rw [o_mo_fails (by omega)] <;> rfl
                have hb_249 : (mo_fails v 1) 210 47 = (v 210 47) := by rw [o_mo_fails (by omega)] <;> rfl
                have hb_250 : (mo_fails v 1) 210 48 = (v 210 48) := by rw [o_mo_fails (by omega)] <;> rfl
                have hb_251 : (mo_fails v 1) 210 49 = (v 210 49) := by rw [o_mo_fails (by omega)] <;> rfl
                have hb_252 : (mo_fails v 1) 210 50 = (v 210 50) := by rw [o_mo_fails (by omega)] <;> rfl
                have hb_253 : (mo_fails v 1) 210 51 = (v 210 51) := by rw [o_mo_fails (by omega)] <;> rfl
                have hb_254 : (mo_fails v 1) 210 52 = (v 210 52) := by rw [o_mo_fails (by omega)] <;> rfl
                have hb_255 : ((mo_fails v 1) 203 7) ≤ ((mo_fails v 1) 203 6) ∧ (((mo_fails v 1) 203 8) = 0 ∨ ((mo_fails v 1) 203 9) < ((mo_fails v 1) 203 7)) ∧ ((mo_fails v 1) 203 9) ≤ ((mo_fails v 1) 203 7) := n0_mo_fails (v := v) (k := 1) hX hp_243 hp_244
                have hb_256 : (v 203 9) ≤ ((mo_fails v 1) 203 9) := n1_mo_fails (v := v) (k := 1) hX hp_243 hp_244
                have hb_257 : ((mo_fails v 1) 203 12) ≠ 0 := n2_mo_fails (v := v) (k := 1) hX hp_243 hp_244
                refine r_ex 2 (pc' := 117) (lo' := [some (.inr (.inr (some 203))), some (.inl (-1))]) (st' := [.inl ((mo_fails v 1) 203 12)]) rfl ?_
                have hb_258 : 0 ≤ ((mo_fails v 1) 203 12) ∧ ((mo_fails v 1) 203 12) ≤ 3 := hX_245 203 12
                refine n_if_ne (pc0 := 117) (len := 3) (t := 138) rfl (by first | assumption | omega | (unfold R32 at *; omega) | (unfold R64 at *; omega) | (simp only [R32, R64] at *; omega)) (fun h_117 => ?_) (fun h_117 => ?_)
                · show WV _ _ _ 138 _ _ _ _ _
                  rw [if_neg h_117] at hQ
                  refine r_ex 2 (pc' := 142) (lo' := [some (.inr (.inr (some 203))), some (.inl (-1))]) (st' := [.inl ((mo_fails v 1) 203 12)]) rfl ?_
                  refine n_if_eq (pc0 := 142) (len := 3) (t := 146) rfl (by first | assumption | omega | (unfold R32 at *; omega) | (unfold R64 at *; omega) | (simp only [R32, R64] at *; omega)) (fun h_142 => ?_) (fun h_142 => ?_)
                  · show WV _ _ _ 146 _ _ _ _ _
                    rw [if_pos h_142] at hQ
                    exact l_mo_line_146  (mo_fails v 1) (-1)  hX_245 (show ((-1) = 2 ∧ ((mo_fails v 1) 210 46) < ((mo_fails v 1) 210 44)) ∨ ((-1) = 3 ∧ ((mo_fails v 1) 210 47) < 12) ∨ ((-1) = 4 ∧ ((mo_fails v 1) 210 48) < 4) ∨ ((-1) = 5 ∧ ((mo_fails v 1) 210 49) < 6) ∨ ((-1) = 6 ∧ ((mo_fails v 1) 210 50) < 6) ∨ ((-1) = 7 ∧ ((mo_fails v 1) 210 51) < 6) ∨ ((-1) = 8 ∧ ((mo_fails v 1) 210 52) < 6) from (by first | assumption | omega | (unfold R32 at *; omega) | (unfold R64 at *; omega) | (simp only [R32, R64] at *; omega))) (show ((mo_fails v 1) 210 46) ≤ ((mo_fails v 1) 210 44) from (by first | assumption | omega | (unfold R32 at *; omega) | (unfold R64 at *; omega) | (simp only [R32, R64] at *; omega))) (show ((mo_fails v 1) 203 7) ≤ ((mo_fails v 1) 203 6) ∧ (((mo_fails v 1) 203 8) = 0 ∨ ((mo_fails v 1) 203 9) < ((mo_fails v 1) 203 7)) ∧ ((mo_fails v 1) 203 9) ≤ ((mo_fails v 1) 203 7) from (by first | assumption | omega | (unfold R32 at *; omega) | (unfold R64 at *; omega) | (simp only [R32, R64] at *; omega))) (show CF (mo_fails v 1) from (show CF (mo_fails v 1) from CF.of hp_c (fun k h1 h2 => by rw [o_mo_fails (by omega)]))) (fun hx_ p_0 p_1 p_2 p_3 => hQ hx_ p_0 (by have q_ : ((mo_fails v 1) 203 9) ≤ ((mo_line_146  (mo_fails v 1) (-1)) 203 9) := p_1; omega) p_2 p_3)
                  · show WV _ _ _ 145 _ _ _ _ _
                    rw [if_neg h_142] at hQ
                    refine r_ret (rr := none) (I := .return_) (pc0 := 145) (len := 1) rfl rfl ?_
                    exact hQ hX_245 (show ((mo_fails v 1) 203 7) ≤ ((mo_fails v 1) 203 6) ∧ (((mo_fails v 1) 203 8) = 0 ∨ ((mo_fails v 1) 203 9) < ((mo_fails v 1) 203 7)) ∧ ((mo_fails v 1) 203 9) ≤ ((mo_fails v 1) 203 7) from (by first | assumption | omega | (unfold R32 at *; omega) | (unfold R64 at *; omega) | (simp only [R32, R64] at *; omega))) (show (v 203 9) ≤ ((mo_fails v 1) 203 9) from (by first | assumption | omega | (unfold R32 at *; omega) | (unfold R64 at *; omega) | (simp only [R32, R64] at *; omega))) (show ((mo_fails v 1) 210 46) ≤ ((mo_fails v 1) 210 44) from (by first | assumption | omega | (unfold R32 at *; omega) | (unfold R64 at *; omega) | (simp only [R32, R64] at *; omega))) (show CF (mo_fails v 1) from (show CF (mo_fails v 1) from CF.of hp_c (fun k h1 h2 => by rw [o_mo_fails (by omega)])))
                · show WV _ _ _ 120 _ _ _ _ _
                  rw [if_pos h_117] at hQ
                  refine r_ex 2 (pc' := 122) (lo' := [some (.inr (.inr (some 203))), some (.inl (-1))]) (st' := [.inl (-1), .inr (.inr (some 203))]) rfl ?_
                  exact absurd h_117 (by omega)

theorem e_mo_line {X : PX} {d b : Nat} {v : VS}  (hX : XI v) (hp_a : (v 203 7) ≤ (v 203 6) ∧ ((v 203 8) = 0 ∨ (v 203 9) < (v 203 7)) ∧ (v 203 9) ≤ (v 203 7)) (hp_b : (v 210 46) ≤ (v 210 44)) (hp_c : CF v) : EvV X (d + 1 + 1 + 1 + 1 + 1 + 1) 222 [.inr (.inr (some 203))] b v none b (mo_line v) := EvV.of (w_mo_line hX hp_a hp_b hp_c (fun _ _ _ _ _ => ⟨rfl, rfl, rfl⟩))

theorem i_mo_line {v : VS}  (hX : XI v) (hp_a : (v 203 7) ≤ (v 203 6) ∧ ((v 203 8) = 0 ∨ (v 203 9) < (v 203 7)) ∧ (v 203 9) ≤ (v 203 7)) (hp_b : (v 210 46) ≤ (v 210 44)) (hp_c : CF v) : XI (mo_line v) := by
  have q : WV (0, fun _ => 0, none) (0 + 1 + 1 + 1 + 1 + 1 + 1) 222 0 [some (.inr (.inr (some 203))), none] [] 1 v (fun _ _ _ => XI (mo_line v)) := w_mo_line (X := (0, fun _ => 0, none)) (d := 0) (b := 1) hX hp_a hp_b hp_c (fun q _ _ _ _ => q)
  obtain ⟨_, _, _, _, _, _, _, q⟩ := q
  exact q

theorem n0_mo_line {v : VS}  (hX : XI v) (hp_a : (v 203 7) ≤ (v 203 6) ∧ ((v 203 8) = 0 ∨ (v 203 9) < (v 203 7)) ∧ (v 203 9) ≤ (v 203 7)) (hp_b : (v 210 46) ≤ (v 210 44)) (hp_c : CF v) : ((mo_line v) 203 7) ≤ ((mo_line v) 203 6) ∧ (((mo_line v) 203 8) = 0 ∨ ((mo_line v) 203 9) < ((mo_line v) 203 7)) ∧ ((mo_line v) 203 9) ≤ ((mo_line v) 203 7) := by
  have q : WV (0, fun _ => 0, none) (0 + 1 + 1 + 1 + 1 + 1 + 1) 222 0 [some (.inr (.inr (some 203))), none] [] 1 v (fun _ _ _ => ((mo_line v) 203 7) ≤ ((mo_line v) 203 6) ∧ (((mo_line v) 203 8) = 0 ∨ ((mo_line v) 203 9) < ((mo_line v) 203 7)) ∧ ((mo_line v) 203 9) ≤ ((mo_line v) 203 7)) := w_mo_line (X := (0, fun _ => 0, none)) (d := 0) (b := 1) hX hp_a hp_b hp_c (fun _ q _ _ _ => q)
  obtain ⟨_, _, _, _, _, _, _, q⟩ := q
  exact q

theorem n1_mo_line {v : VS}  (hX : XI v) (hp_a : (v 203 7) ≤ (v 203 6) ∧ ((v 203 8) = 0 ∨ (v 203 9) < (v 203 7)) ∧ (v 203 9) ≤ (v 203 7)) (hp_b : (v 210 46) ≤ (v 210 44)) (hp_c : CF v) : (v 203 9) ≤ ((mo_line v) 203 9) := by
  have q : WV (0, fun _ => 0, none) (0 + 1 + 1 + 1 + 1 + 1 + 1) 222 0 [some (.inr (.inr (some 203))), none] [] 1 v (fun _ _ _ => (v 203 9) ≤ ((mo_line v) 203 9)) := w_mo_line (X := (0, fun _ => 0, none)) (d := 0) (b := 1) hX hp_a hp_b hp_c (fun _ _ q _ _ => q)
  obtain ⟨_, _, _, _, _, _, _, q⟩ := q
  exact q

theorem n2_mo_line {v : VS}  (hX : XI v) (hp_a : (v 203 7) ≤ (v 203 6) ∧ ((v 203 8) = 0 ∨ (v 203 9) < (v 203 7)) ∧ (v 203 9) ≤ (v 203 7)) (hp_b : (v 210 46) ≤ (v 210 44)) (hp_c : CF v) : ((mo_line v) 210 46) ≤ ((mo_line v) 210 44) := by
  have q : WV (0, fun _ => 0, none) (0 + 1 + 1 + 1 + 1 + 1 + 1) 222 0 [some (.inr (.inr (some 203))), none] [] 1 v (fun _ _ _ => ((mo_line v) 210 46) ≤ ((mo_line v) 210 44)) := w_mo_line (X := (0, fun _ => 0, none)) (d := 0) (b := 1) hX hp_a hp_b hp_c (fun _ _ _ q _ => q)
  obtain ⟨_, _, _, _, _, _, _, q⟩ := q
  exact q

theorem n3_mo_line {v : VS}  (hX : XI v) (hp_a : (v 203 7) ≤ (v 203 6) ∧ ((v 203 8) = 0 ∨ (v 203 9) < (v 203 7)) ∧ (v 203 9) ≤ (v 203 7)) (hp_b : (v 210 46) ≤ (v 210 44)) (hp_c : CF v) : CF (mo_line v) := by
  have q : WV (0, fun _ => 0, none) (0 + 1 + 1 + 1 + 1 + 1 + 1) 222 0 [some (.inr (.inr (some 203))), none] [] 1 v (fun _ _ _ => CF (mo_line v)) := w_mo_line (X := (0, fun _ => 0, none)) (d := 0) (b := 1) hX hp_a hp_b hp_c (fun _ _ _ _ q => q)
  obtain ⟨_, _, _, _, _, _, _, q⟩ := q
  exact q

theorem o_mo_line {rk : Nat} {v : VS}  (hk : (rk < 203 ∨ 203 < rk) ∧ (rk < 210 ∨ 217 < rk)) : (mo_line v ) rk = v rk := by
  unfold mo_line
  by_cases hc_ : (v 203 12) = 0 ∧ (v 203 8) = 1 ∧ (v 203 11) = (47724803 : Int)
  · rw [if_pos hc_] <;> clear hc_
    by_cases hc_ : (v 203 12) = 0
    · rw [if_pos hc_] <;> clear hc_
      by_cases hc_ : (v 210 46) = (v 210 44)
      · rw [if_pos hc_] <;> clear hc_
        by_cases hc_ : ((mo_fails v 3) 203 12) = 0
        · rw [if_pos hc_] <;> clear hc_
          all_goals (rw [o_mo_line_146 (by omega), o_mo_fails (by omega)])
        · rw [if_neg hc_] <;> clear hc_
          all_goals (show (mo_fails v 3) rk = _)
          all_goals (rw [o_mo_fails (by omega)])
      · rw [if_neg hc_] <;> clear hc_
        by_cases hc_ : (v 203 12) = 0
        · rw [if_pos hc_] <;> clear hc_
          all_goals (rw [o_mo_line_146 (by omega)])
        · rw [if_neg hc_] <;> clear hc_
          all_goals (show v rk = _)
          all_goals rfl
    · rw [if_neg hc_] <;> clear hc_
      by_cases hc_ : (v 203 12) = 0
      · rw [if_pos hc_] <;> clear hc_
        all_goals (rw [o_mo_line_146 (by omega)])
      · rw [if_neg hc_] <;> clear hc_
        all_goals (show v rk = _)
        all_goals rfl
  · rw [if_neg hc_] <;> clear hc_
    by_cases hc_ : (v 203 12) = 0 ∧ (v 203 8) = 1 ∧ (v 203 11) = (3690 : Int)
    · rw [if_pos hc_] <;> clear hc_
      by_cases hc_ : (v 203 12) = 0
      · rw [if_pos hc_] <;> clear hc_
        by_cases hc_ : (v 210 47) = 12
        · rw [if_pos hc_] <;> clear hc_
          by_cases hc_ : ((mo_fails v 3) 203 12) = 0
          · rw [if_pos hc_] <;> clear hc_
            all_goals (rw [o_mo_line_146 (by omega), o_mo_fails (by omega)])
          · rw [if_neg hc_] <;> clear hc_
            all_goals (show (mo_fails v 3) rk = _)
            all_goals (rw [o_mo_fails (by omega)])
        · rw [if_neg hc_] <;> clear hc_
          by_cases hc_ : (v 203 12) = 0
          · rw [if_pos hc_] <;> clear hc_
            all_goals (rw [o_mo_line_146 (by omega)])
          · rw [if_neg hc_] <;> clear hc_
            all_goals (show v rk = _)
            all_goals rfl
      · rw [if_neg hc_] <;> clear hc_
        by_cases hc_ : (v 203 12) = 0
        · rw [if_pos hc_] <;> clear hc_
          all_goals (rw [o_mo_line_146 (by omega)])
        · rw [if_neg hc_] <;> clear hc_
          all_goals (show v rk = _)
          all_goals rfl
    · rw [if_neg hc_] <;> clear hc_
      by_cases hc_ : (v 203 12) = 0 ∧ (v 203 8) = 1 ∧ (v 203 11) = (283291417 : Int)
      · rw [if_pos hc_] <;> clear hc_
        by_cases hc_ : (v 203 12) = 0
        · rw [if_pos hc_] <;> clear hc_
          by_cases hc_ : (v 210 48) = 4
          · rw [if_pos hc_] <;> clear hc_
            by_cases hc_ : ((mo_fails v 3) 203 12) = 0
            · rw [if_pos hc_] <;> clear hc_
              all_goals (rw [o_mo_line_146 (by omega), o_mo_fails (by omega)])
            · rw [if_neg hc_] <;> clear hc_
              all_goals (show (mo_fails v 3) rk = _)
              all_goals (rw [o_mo_fails (by omega)])
          · rw [if_neg hc_] <;> clear hc_
            by_cases hc_ : (v 203 12) = 0
            · rw [if_pos hc_] <;> clear hc_
              all_goals (rw [o_mo_line_146 (by omega)])
            · rw [if_neg hc_] <;> clear hc_
              all_goals (show v rk = _)
              all_goals rfl
        · rw [if_neg hc_] <;> clear hc_
          by_cases hc_ : (v 203 12) = 0
          · rw [if_pos hc_] <;> clear hc_
            all_goals (rw [o_mo_line_146 (by omega)])
          · rw [if_neg hc_] <;> clear hc_
            all_goals (show v rk = _)
            all_goals rfl
      · rw [if_neg hc_] <;> clear hc_
        by_cases hc_ : (v 203 12) = 0 ∧ (v 203 8) = 1 ∧ (v 203 11) = (459652 : Int)
        · rw [if_pos hc_] <;> clear hc_
          by_cases hc_ : (v 203 12) = 0
          · rw [if_pos hc_] <;> clear hc_
            by_cases hc_ : (v 210 49) = 6
            · rw [if_pos hc_] <;> clear hc_
              by_cases hc_ : ((mo_fails v 3) 203 12) = 0
              · rw [if_pos hc_] <;> clear hc_
                all_goals (rw [o_mo_line_146 (by omega), o_mo_fails (by omega)])
              · rw [if_neg hc_] <;> clear hc_
                all_goals (show (mo_fails v 3) rk = _)
                all_goals (rw [o_mo_fails (by omega)])
            · rw [if_neg hc_] <;> clear hc_
              by_cases hc_ : (v 203 12) = 0
              · rw [if_pos hc_] <;> clear hc_
                all_goals (rw [o_mo_line_146 (by omega)])
              · rw [if_neg hc_] <;> clear hc_
                all_goals (show v rk = _)
                all_goals rfl
          · rw [if_neg hc_] <;> clear hc_
            by_cases hc_ : (v 203 12) = 0
            · rw [if_pos hc_] <;> clear hc_
              all_goals (rw [o_mo_line_146 (by omega)])
            · rw [if_neg hc_] <;> clear hc_
              all_goals (show v rk = _)
              all_goals rfl
        · rw [if_neg hc_] <;> clear hc_
          by_cases hc_ : (v 203 12) = 0 ∧ (v 203 8) = 1 ∧ (v 203 11) = (4786 : Int)
          · rw [if_pos hc_] <;> clear hc_
            by_cases hc_ : (v 203 12) = 0
            · rw [if_pos hc_] <;> clear hc_
              by_cases hc_ : (v 210 50) = 6
              · rw [if_pos hc_] <;> clear hc_
                by_cases hc_ : ((mo_fails v 3) 203 12) = 0
                · rw [if_pos hc_] <;> clear hc_
                  all_goals (rw [o_mo_line_146 (by omega), o_mo_fails (by omega)])
                · rw [if_neg hc_] <;> clear hc_
                  all_goals (show (mo_fails v 3) rk = _)
                  all_goals (rw [o_mo_fails (by omega)])
              · rw [if_neg hc_] <;> clear hc_
                by_cases hc_ : (v 203 12) = 0
                · rw [if_pos hc_] <;> clear hc_
                  all_goals (rw [o_mo_line_146 (by omega)])
                · rw [if_neg hc_] <;> clear hc_
                  all_goals (show v rk = _)
                  all_goals rfl
            · rw [if_neg hc_] <;> clear hc_
              by_cases hc_ : (v 203 12) = 0
              · rw [if_pos hc_] <;> clear hc_
                all_goals (rw [o_mo_line_146 (by omega)])
              · rw [if_neg hc_] <;> clear hc_
                all_goals (show v rk = _)
                all_goals rfl
          · rw [if_neg hc_] <;> clear hc_
            by_cases hc_ : (v 203 12) = 0 ∧ (v 203 8) = 1 ∧ (v 203 11) = (82410 : Int)
            · rw [if_pos hc_] <;> clear hc_
              by_cases hc_ : (v 203 12) = 0
              · rw [if_pos hc_] <;> clear hc_
                by_cases hc_ : (v 210 51) = 6
                · rw [if_pos hc_] <;> clear hc_
                  by_cases hc_ : ((mo_fails v 3) 203 12) = 0
                  · rw [if_pos hc_] <;> clear hc_
                    all_goals (rw [o_mo_line_146 (by omega), o_mo_fails (by omega)])
                  · rw [if_neg hc_] <;> clear hc_
                    all_goals (show (mo_fails v 3) rk = _)
                    all_goals (rw [o_mo_fails (by omega)])
                · rw [if_neg hc_] <;> clear hc_
                  by_cases hc_ : (v 203 12) = 0
                  · rw [if_pos hc_] <;> clear hc_
                    all_goals (rw [o_mo_line_146 (by omega)])
                  · rw [if_neg hc_] <;> clear hc_
                    all_goals (show v rk = _)
                    all_goals rfl
              · rw [if_neg hc_] <;> clear hc_
                by_cases hc_ : (v 203 12) = 0
                · rw [if_pos hc_] <;> clear hc_
                  all_goals (rw [o_mo_line_146 (by omega)])
                · rw [if_neg hc_] <;> clear hc_
                  all_goals (show v rk = _)
                  all_goals rfl
            · rw [if_neg hc_] <;> clear hc_
              by_cases hc_ : (v 203 12) = 0 ∧ (v 203 8) = 1 ∧ (v 203 11) = (2633401731 : Int)
              · rw [if_pos hc_] <;> clear hc_
                by_cases hc_ : (v 203 12) = 0
                · rw [if_pos hc_] <;> clear hc_
                  by_cases hc_ : (v 210 52) = 6
                  · rw [if_pos hc_] <;> clear hc_
                    by_cases hc_ : ((mo_fails v 3) 203 12) = 0
                    · rw [if_pos hc_] <;> clear hc_
                      all_goals (rw [o_mo_line_146 (by omega), o_mo_fails (by omega)])
                    · rw [if_neg hc_] <;> clear hc_
                      all_goals (show (mo_fails v 3) rk = _)
                      all_goals (rw [o_mo_fails (by omega)])
                  · rw [if_neg hc_] <;> clear hc_
                    by_cases hc_ : (v 203 12) = 0
                    · rw [if_pos hc_] <;> clear hc_
                      all_goals (rw [o_mo_line_146 (by omega)])
                    · rw [if_neg hc_] <;> clear hc_
                      all_goals (show v rk = _)
                      all_goals rfl
                · rw [if_neg hc_] <;> clear hc_
                  by_cases hc_ : (v 203 12) = 0
                  · rw [if_pos hc_] <;> clear hc_
                    all_goals (rw [o_mo_line_146 (by omega)])
                  · rw [if_neg hc_] <;> clear hc_
                    all_goals (show v rk = _)
                    all_goals rfl
              · rw [if_neg hc_] <;> clear hc_
                by_cases hc_ : ((mo_fails v 1) 203 12) = 0
                · rw [if_pos hc_] <;> clear hc_
                  all_goals rfl
                · rw [if_neg hc_] <;> clear hc_
                  by_cases hc_ : ((mo_fails v 1) 203 12) = 0
                  · rw [if_pos hc_] <;> clear hc_
                    all_goals (rw [o_mo_line_146 (by omega), o_mo_fails (by omega)])
                  · rw [if_neg hc_] <;> clear hc_
                    all_goals (show (mo_fails v 1) rk = _)
                    all_goals (rw [o_mo_fails (by omega)])
