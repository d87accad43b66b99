def pp_Y : List (Nat × Nat × Nat × Nat × Nat) := pp_Y_0 ++ (pp_Y_1 ++ (pp_Y_2 ++ (pp_Y_3 ++ (pp_Y_4 ++ (pp_Y_5 ++ (pp_Y_6 ++ (pp_Y_7 ++ (pp_Y_8 ++ (pp_Y_9 ++ (pp_Y_10 ++ (pp_Y_11 ++ (pp_Y_12 ++ (pp_Y_13 ++ (pp_Y_14 ++ (pp_Y_15 ++ (pp_Y_16 ++ (pp_Y_17 ++ (pp_Y_18 ++ (pp_Y_19 ++ (pp_Y_20 ++ (pp_Y_21)))))))))))))))))))))
theorem pp_Y_ok : pp_Y.all ck_Y = true := by
  simp only [pp_Y, List.all_append, pp_Y_0_ok, pp_Y_1_ok, pp_Y_2_ok, pp_Y_3_ok, pp_Y_4_ok, pp_Y_5_ok, pp_Y_6_ok, pp_Y_7_ok, pp_Y_8_ok, pp_Y_9_ok, pp_Y_10_ok, pp_Y_11_ok, pp_Y_12_ok, pp_Y_13_ok, pp_Y_14_ok, pp_Y_15_ok, pp_Y_16_ok, pp_Y_17_ok, pp_Y_18_ok, pp_Y_19_ok, pp_Y_20_ok, pp_Y_21_ok, Bool.and_self]

def pm_isM (m : Nat) : Bool := decide (m = 18) || (decide (m = 69) || (decide (m = 170) || (decide (m = 172) || decide (m = 187))))
/-- which calls and which final fields a method may hold -/
def pm_chkF (n : Nat) (q : Nat × Instr × Nat) : Bool := match q.2.1 with
  | .putfield e => !((pm_T (e / 100) (e % 100)).2.2.2) || (decide ((pm_y n).name = "<init>") && decide ((pm_T (e / 100) (e % 100)).1 = pm_cn (pm_ow n)))
  | .invokevirtual m => decide (m < 329) && ((pp_Y.any (fun z => Nat.beq z.1 m) || pm_isM m) && (decide ((pm_m m).2.2.1 ≠ 98) && decide ((pm_y m).name ≠ "<init>")))
  | .invokestatic m => decide (m < 329) && ((pp_Y.any (fun z => Nat.beq z.1 m) || pm_isM m) && decide ((pm_m m).2.2.1 = 98))
  | .invokespecial m => decide (m < 329) && ((pp_Y.any (fun z => Nat.beq z.1 m) || pm_isM m) && (decide ((pm_m m).2.2.1 ≠ 98) && decide ((pm_y m).name = "<init>")))
  | _ => true
