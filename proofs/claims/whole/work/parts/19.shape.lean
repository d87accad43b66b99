/-! the shape of the heap behind the two constructors; a state is v : cell, place -> whole number -/
abbrev Sh : Type := (Nat × Nat) ⊕ ((Nat × Nat × List (Option Nat)) ⊕ (Nat × List (Nat ⊕ Option Nat)))
def flds : List (Nat ⊕ Option Nat) → (Nat → Int) → Nat → List PV
  | [], _, _ => []
  | .inl 2 :: t, w, j => .inr (.inl (w j)) :: flds t w (j + 1)
  | .inl _ :: t, w, j => .inl (w j) :: flds t w (j + 1)
  | .inr r :: t, w, j => .inr (.inr r) :: flds t w (j + 1)
def cellOf : Sh → (Nat → Int) → PE
  | .inl q, w => .inl (q.1, q.2, w)
  | .inr (.inl q), _ => .inr (.inl (q.1, q.2.1, fun j => q.2.2.getD j none))
  | .inr (.inr q), w => .inr (.inr (q.1, flds q.2 w 0))
def shl_0 (b : Nat) : List Sh := [.inr (.inr (11, [.inr (some 1), .inl 0, .inr (some 2), .inr (some 33), .inr (some 62), .inr (some 79), .inr (some 91), .inr (some 67), .inr (some 103), .inr (some 105), .inl 1, .inr (some 106), .inr (some 115), .inl 0])), .inl (1, 2000), .inr (.inr (4, [.inr (some 3), .inl 0, .inl 0, .inr (some b), .inl 0, .inl 0, .inl 0, .inl 0, .inl 0])), .inr (.inr (1, [.inl 0, .inl 0, .inl 0, .inl 0, .inl 0, .inl 0, .inr (some 4), .inr (some 5), .inr (some 6), .inr (some 7), .inr (some 12), .inr (some 16), .inr (some 20), .inr (some 24), .inr (some 28)])), .inl (0, 9), .inl (0, 9), .inl (0, 9), .inr (.inr (3, [.inl 0, .inr (some 8), .inr (some 9), .inr (some 10), .inr (some 11)])), .inl (0, 12), .inl (0, 12), .inl (0, 12), .inl (0, 12), .inr (.inr (9, [.inl 0, .inr (some 13), .inr (some 14), .inr (some 15)])), .inl (0, 5), .inl (0, 5), .inl (0, 5), .inr (.inr (8, [.inl 0, .inr (some 17), .inr (some 18), .inr (some 19)])), .inl (0, 6), .inl (0, 6), .inl (0, 6), .inr (.inr (8, [.inl 0, .inr (some 21), .inr (some 22), .inr (some 23)])), .inl (0, 6), .inl (0, 6), .inl (0, 6), .inr (.inr (8, [.inl 0, .inr (some 25), .inr (some 26), .inr (some 27)])), .inl (0, 6), .inl (0, 6), .inl (0, 6), .inr (.inr (8, [.inl 0, .inr (some 29), .inr (some 30), .inr (some 31)])), .inl (0, 6)]
def shl_1 (b : Nat) : List Sh := [.inl (0, 6), .inl (0, 6), .inl (1, 0), .inr (.inr (1, [.inl 0, .inl 0, .inl 0, .inl 0, .inl 0, .inl 0, .inr (some 34), .inr (some 35), .inr (some 36), .inr (some 37), .inr (some 42), .inr (some 46), .inr (some 50), .inr (some 54), .inr (some 58)])), .inl (0, 9), .inl (0, 9), .inl (0, 9), .inr (.inr (3, [.inl 0, .inr (some 38), .inr (some 39), .inr (some 40), .inr (some 41)])), .inl (0, 12), .inl (0, 12), .inl (0, 12), .inl (0, 12), .inr (.inr (9, [.inl 0, .inr (some 43), .inr (some 44), .inr (some 45)])), .inl (0, 5), .inl (0, 5), .inl (0, 5), .inr (.inr (8, [.inl 0, .inr (some 47), .inr (some 48), .inr (some 49)])), .inl (0, 6), .inl (0, 6), .inl (0, 6), .inr (.inr (8, [.inl 0, .inr (some 51), .inr (some 52), .inr (some 53)])), .inl (0, 6), .inl (0, 6), .inl (0, 6), .inr (.inr (8, [.inl 0, .inr (some 55), .inr (some 56), .inr (some 57)])), .inl (0, 6), .inl (0, 6), .inl (0, 6), .inr (.inr (8, [.inl 0, .inr (some 59), .inr (some 60), .inr (some 61)])), .inl (0, 6)]
def shl_2 (b : Nat) : List Sh := [.inl (0, 6), .inl (0, 6), .inr (.inr (0, [.inr (some 63), .inr (some 64), .inr (some 65), .inr (some 66)])), .inl (0, 300), .inl (0, 300), .inl (0, 300), .inl (0, 300), .inr (.inr (10, [.inl 0, .inl 0, .inr (some 68), .inr (some 72), .inl 0, .inl 0, .inl 0, .inl 0, .inl 0, .inl 0])), .inr (.inr (9, [.inl 0, .inr (some 69), .inr (some 70), .inr (some 71)])), .inl (0, 5), .inl (0, 5), .inl (0, 5), .inl (0, 10), .inr (.inr (2, [.inr (some 74), .inr (some 75), .inr (some 76), .inr (some 77), .inr (some 78), .inl 0, .inl 0])), .inl (0, 300), .inl (0, 2700), .inl (0, 2700), .inl (0, 2700), .inl (0, 2700), .inr (.inr (5, [.inr (some 33), .inr (some 62), .inr (some 67), .inr (some 73), .inl 0, .inr (some 80), .inr (some 81), .inr (some 82), .inr (some 83), .inr (some 84), .inr (some 85), .inr (some 86), .inr (some 87), .inr (some 88), .inr (some 89), .inr (some 90), .inl 0, .inl 1, .inl 1])), .inl (0, 300), .inl (0, 300), .inl (0, 300), .inl (0, 300), .inl (0, 300), .inl (0, 8), .inl (0, 12), .inl (0, 12), .inl (0, 12), .inl (0, 9)]
def shl_3 (b : Nat) : List Sh := [.inl (0, 9), .inr (.inr (5, [.inr (some 33), .inr (some 62), .inr (some 67), .inr (some 73), .inl 0, .inr (some 92), .inr (some 93), .inr (some 94), .inr (some 95), .inr (some 96), .inr (some 97), .inr (some 98), .inr (some 99), .inr (some 100), .inr (some 101), .inr (some 102), .inl 0, .inl 1, .inl 1])), .inl (0, 300), .inl (0, 300), .inl (0, 300), .inl (0, 300), .inl (0, 300), .inl (0, 8), .inl (0, 12), .inl (0, 12), .inl (0, 12), .inl (0, 9), .inl (0, 9), .inr (.inr (6, [.inr (some 33), .inr (some 67), .inr (some 91), .inr (some 104), .inl 0, .inl 0, .inl 0, .inl 0])), .inl (1, 4096), .inl (0, 2700), .inr (.inl (4, 4, [some 107, some 109, some 111, some 113])), .inr (.inr (7, [.inl 1, .inl 0, .inl 0, .inr (some 108)])), .inl (3, 60), .inr (.inr (7, [.inl 1, .inl 0, .inl 0, .inr (some 110)])), .inl (3, 60), .inr (.inr (7, [.inl 1, .inl 0, .inl 0, .inr (some 112)])), .inl (3, 60), .inr (.inr (7, [.inl 1, .inl 0, .inl 0, .inr (some 114)])), .inl (3, 60), .inr (.inl (5, 3, [some 116, some 145, some 174])), .inr (.inr (1, [.inl 0, .inl 0, .inl 0, .inl 0, .inl 0, .inl 0, .inr (some 117), .inr (some 118), .inr (some 119), .inr (some 120), .inr (some 125), .inr (some 129), .inr (some 133), .inr (some 137), .inr (some 141)])), .inl (0, 9), .inl (0, 9), .inl (0, 9)]
def shl_4 (b : Nat) : List Sh := [.inr (.inr (3, [.inl 0, .inr (some 121), .inr (some 122), .inr (some 123), .inr (some 124)])), .inl (0, 12), .inl (0, 12), .inl (0, 12), .inl (0, 12), .inr (.inr (9, [.inl 0, .inr (some 126), .inr (some 127), .inr (some 128)])), .inl (0, 5), .inl (0, 5), .inl (0, 5), .inr (.inr (8, [.inl 0, .inr (some 130), .inr (some 131), .inr (some 132)])), .inl (0, 6), .inl (0, 6), .inl (0, 6), .inr (.inr (8, [.inl 0, .inr (some 134), .inr (some 135), .inr (some 136)])), .inl (0, 6), .inl (0, 6), .inl (0, 6), .inr (.inr (8, [.inl 0, .inr (some 138), .inr (some 139), .inr (some 140)])), .inl (0, 6), .inl (0, 6), .inl (0, 6), .inr (.inr (8, [.inl 0, .inr (some 142), .inr (some 143), .inr (some 144)])), .inl (0, 6), .inl (0, 6), .inl (0, 6), .inr (.inr (1, [.inl 0, .inl 0, .inl 0, .inl 0, .inl 0, .inl 0, .inr (some 146), .inr (some 147), .inr (some 148), .inr (some 149), .inr (some 154), .inr (some 158), .inr (some 162), .inr (some 166), .inr (some 170)])), .inl (0, 9), .inl (0, 9), .inl (0, 9), .inr (.inr (3, [.inl 0, .inr (some 150), .inr (some 151), .inr (some 152), .inr (some 153)]))]
def shl_5 (b : Nat) : List Sh := [.inl (0, 12), .inl (0, 12), .inl (0, 12), .inl (0, 12), .inr (.inr (9, [.inl 0, .inr (some 155), .inr (some 156), .inr (some 157)])), .inl (0, 5), .inl (0, 5), .inl (0, 5), .inr (.inr (8, [.inl 0, .inr (some 159), .inr (some 160), .inr (some 161)])), .inl (0, 6), .inl (0, 6), .inl (0, 6), .inr (.inr (8, [.inl 0, .inr (some 163), .inr (some 164), .inr (some 165)])), .inl (0, 6), .inl (0, 6), .inl (0, 6), .inr (.inr (8, [.inl 0, .inr (some 167), .inr (some 168), .inr (some 169)])), .inl (0, 6), .inl (0, 6), .inl (0, 6), .inr (.inr (8, [.inl 0, .inr (some 171), .inr (some 172), .inr (some 173)])), .inl (0, 6), .inl (0, 6), .inl (0, 6), .inr (.inr (1, [.inl 0, .inl 0, .inl 0, .inl 0, .inl 0, .inl 0, .inr (some 175), .inr (some 176), .inr (some 177), .inr (some 178), .inr (some 183), .inr (some 187), .inr (some 191), .inr (some 195), .inr (some 199)])), .inl (0, 9), .inl (0, 9), .inl (0, 9), .inr (.inr (3, [.inl 0, .inr (some 179), .inr (some 180), .inr (some 181), .inr (some 182)])), .inl (0, 12)]
def shl_6 (b : Nat) : List Sh := [.inl (0, 12), .inl (0, 12), .inl (0, 12), .inr (.inr (9, [.inl 0, .inr (some 184), .inr (some 185), .inr (some 186)])), .inl (0, 5), .inl (0, 5), .inl (0, 5), .inr (.inr (8, [.inl 0, .inr (some 188), .inr (some 189), .inr (some 190)])), .inl (0, 6), .inl (0, 6), .inl (0, 6), .inr (.inr (8, [.inl 0, .inr (some 192), .inr (some 193), .inr (some 194)])), .inl (0, 6), .inl (0, 6), .inl (0, 6), .inr (.inr (8, [.inl 0, .inr (some 196), .inr (some 197), .inr (some 198)])), .inl (0, 6), .inl (0, 6), .inl (0, 6), .inr (.inr (8, [.inl 0, .inr (some 200), .inr (some 201), .inr (some 202)])), .inl (0, 6), .inl (0, 6), .inl (0, 6), .inr (.inr (12, [.inl 0, .inr (some 204), .inr (some 205), .inr (some 206), .inr (some 207), .inr (some 208), .inl 0, .inl 0, .inl 0, .inl 0, .inl 0, .inl 2, .inl 0, .inl 0, .inl 0, .inl 0, .inr (some 209), .inr (some 210), .inr (some 211), .inr (some 212), .inr (some 213), .inr (some 214), .inr (some 215), .inr (some 216), .inr (some 217), .inr (some 218), .inr (some 219), .inl 0, .inl 0, .inl 2, .inl 0, .inl 0, .inl 0, .inl 0, .inl 0, .inl 0, .inr (some 220), .inl 0, .inr (some 221), .inr (some 222), .inr (some 223), .inr (some 224), .inr (some 225), .inl 0, .inr (some 226), .inr (some 227), .inr (some 228), .inr (some 229), .inr (some 230), .inr (some 231), .inr (some 232), .inl 0, .inl 0, .inl 0, .inl 0])), .inl (0, 4), .inl (0, 4), .inl (3, 240), .inl (3, 60), .inl (1, 2000), .inl (0, 5)]
def shl_7 (b : Nat) : List Sh := [.inl (0, 55), .inl (0, 135), .inl (0, 240), .inl (0, 75), .inl (0, 60), .inl (0, 90), .inl (0, 90), .inl (0, 90), .inl (2, 3), .inl (0, 300), .inl (0, 1500), .inl (0, 8), .inl (0, 12), .inl (0, 12), .inl (0, 12), .inl (0, 18500), .inl (0, 300), .inl (0, 300), .inl (0, 9), .inl (0, 9), .inl (0, 9), .inl (0, 9), .inl (0, 9)]
def sh (b k : Nat) : Option Sh := bif Nat.ble k 29 then (shl_0 b)[k - 0]? else bif Nat.ble k 59 then (shl_1 b)[k - 30]? else bif Nat.ble k 89 then (shl_2 b)[k - 60]? else bif Nat.ble k 119 then (shl_3 b)[k - 90]? else bif Nat.ble k 149 then (shl_4 b)[k - 120]? else bif Nat.ble k 179 then (shl_5 b)[k - 150]? else bif Nat.ble k 209 then (shl_6 b)[k - 180]? else (shl_7 b)[k - 210]?
abbrev VS : Type := Nat → Nat → Int
def hp (b : Nat) (v : VS) : PH := (233, 49807, fun k => (sh b k).map (fun s => cellOf s (v k)))
def v2 (v : VS) (k j : Nat) (x : Int) : VS := fset v k (fset (v k) j x)
theorem s_0 (b : Nat) : sh b 0 = some (.inr (.inr (11, [.inr (some 1), .inl 0, .inr (some 2), .inr (some 33), .inr (some 62), .inr (some 79), .inr (some 91), .inr (some 67), .inr (some 103), .inr (some 105), .inl 1, .inr (some 106), .inr (some 115), .inl 0]))) := rfl
theorem s_1 (b : Nat) : sh b 1 = some (.inl (1, 2000)) := rfl
theorem s_2 (b : Nat) : sh b 2 = some (.inr (.inr (4, [.inr (some 3), .inl 0, .inl 0, .inr (some b), .inl 0, .inl 0, .inl 0, .inl 0, .inl 0]))) := rfl
theorem s_3 (b : Nat) : sh b 3 = some (.inr (.inr (1, [.inl 0, .inl 0, .inl 0, .inl 0, .inl 0, .inl 0, .inr (some 4), .inr (some 5), .inr (some 6), .inr (some 7), .inr (some 12), .inr (some 16), .inr (some 20), .inr (some 24), .inr (some 28)]))) := rfl
theorem s_4 (b : Nat) : sh b 4 = some (.inl (0, 9)) := rfl
theorem s_5 (b : Nat) : sh b 5 = some (.inl (0, 9)) := rfl
theorem s_6 (b : Nat) : sh b 6 = some (.inl (0, 9)) := rfl
theorem s_7 (b : Nat) : sh b 7 = some (.inr (.inr (3, [.inl 0, .inr (some 8), .inr (some 9), .inr (some 10), .inr (some 11)]))) := rfl
theorem s_8 (b : Nat) : sh b 8 = some (.inl (0, 12)) := rfl
theorem s_9 (b : Nat) : sh b 9 = some (.inl (0, 12)) := rfl
theorem s_10 (b : Nat) : sh b 10 = some (.inl (0, 12)) := rfl
theorem s_11 (b : Nat) : sh b 11 = some (.inl (0, 12)) := rfl
theorem s_12 (b : Nat) : sh b 12 = some (.inr (.inr (9, [.inl 0, .inr (some 13), .inr (some 14), .inr (some 15)]))) := rfl
theorem s_13 (b : Nat) : sh b 13 = some (.inl (0, 5)) := rfl
theorem s_14 (b : Nat) : sh b 14 = some (.inl (0, 5)) := rfl
theorem s_15 (b : Nat) : sh b 15 = some (.inl (0, 5)) := rfl
theorem s_16 (b : Nat) : sh b 16 = some (.inr (.inr (8, [.inl 0, .inr (some 17), .inr (some 18), .inr (some 19)]))) := rfl
theorem s_17 (b : Nat) : sh b 17 = some (.inl (0, 6)) := rfl
theorem s_18 (b : Nat) : sh b 18 = some (.inl (0, 6)) := rfl
theorem s_19 (b : Nat) : sh b 19 = some (.inl (0, 6)) := rfl
theorem s_20 (b : Nat) : sh b 20 = some (.inr (.inr (8, [.inl 0, .inr (some 21), .inr (some 22), .inr (some 23)]))) := rfl
theorem s_21 (b : Nat) : sh b 21 = some (.inl (0, 6)) := rfl
theorem s_22 (b : Nat) : sh b 22 = some (.inl (0, 6)) := rfl
theorem s_23 (b : Nat) : sh b 23 = some (.inl (0, 6)) := rfl
theorem s_24 (b : Nat) : sh b 24 = some (.inr (.inr (8, [.inl 0, .inr (some 25), .inr (some 26), .inr (some 27)]))) := rfl
theorem s_25 (b : Nat) : sh b 25 = some (.inl (0, 6)) := rfl
theorem s_26 (b : Nat) : sh b 26 = some (.inl (0, 6)) := rfl
theorem s_27 (b : Nat) : sh b 27 = some (.inl (0, 6)) := rfl
theorem s_28 (b : Nat) : sh b 28 = some (.inr (.inr (8, [.inl 0, .inr (some 29), .inr (some 30), .inr (some 31)]))) := rfl
theorem s_29 (b : Nat) : sh b 29 = some (.inl (0, 6)) := rfl
theorem s_30 (b : Nat) : sh b 30 = some (.inl (0, 6)) := rfl
theorem s_31 (b : Nat) : sh b 31 = some (.inl (0, 6)) := rfl
theorem s_32 (b : Nat) : sh b 32 = some (.inl (1, 0)) := rfl
theorem s_33 (b : Nat) : sh b 33 = some (.inr (.inr (1, [.inl 0, .inl 0, .inl 0, .inl 0, .inl 0, .inl 0, .inr (some 34), .inr (some 35), .inr (some 36), .inr (some 37), .inr (some 42), .inr (some 46), .inr (some 50), .inr (some 54), .inr (some 58)]))) := rfl
theorem s_34 (b : Nat) : sh b 34 = some (.inl (0, 9)) := rfl
theorem s_35 (b : Nat) : sh b 35 = some (.inl (0, 9)) := rfl
theorem s_36 (b : Nat) : sh b 36 = some (.inl (0, 9)) := rfl
theorem s_37 (b : Nat) : sh b 37 = some (.inr (.inr (3, [.inl 0, .inr (some 38), .inr (some 39), .inr (some 40), .inr (some 41)]))) := rfl
theorem s_38 (b : Nat) : sh b 38 = some (.inl (0, 12)) := rfl
theorem s_39 (b : Nat) : sh b 39 = some (.inl (0, 12)) := rfl
theorem s_40 (b : Nat) : sh b 40 = some (.inl (0, 12)) := rfl
theorem s_41 (b : Nat) : sh b 41 = some (.inl (0, 12)) := rfl
theorem s_42 (b : Nat) : sh b 42 = some (.inr (.inr (9, [.inl 0, .inr (some 43), .inr (some 44), .inr (some 45)]))) := rfl
theorem s_43 (b : Nat) : sh b 43 = some (.inl (0, 5)) := rfl
theorem s_44 (b : Nat) : sh b 44 = some (.inl (0, 5)) := rfl
theorem s_45 (b : Nat) : sh b 45 = some (.inl (0, 5)) := rfl
theorem s_46 (b : Nat) : sh b 46 = some (.inr (.inr (8, [.inl 0, .inr (some 47), .inr (some 48), .inr (some 49)]))) := rfl
theorem s_47 (b : Nat) : sh b 47 = some (.inl (0, 6)) := rfl
theorem s_48 (b : Nat) : sh b 48 = some (.inl (0, 6)) := rfl
theorem s_49 (b : Nat) : sh b 49 = some (.inl (0, 6)) := rfl
theorem s_50 (b : Nat) : sh b 50 = some (.inr (.inr (8, [.inl 0, .inr (some 51), .inr (some 52), .inr (some 53)]))) := rfl
theorem s_51 (b : Nat) : sh b 51 = some (.inl (0, 6)) := rfl
theorem s_52 (b : Nat) : sh b 52 = some (.inl (0, 6)) := rfl
theorem s_53 (b : Nat) : sh b 53 = some (.inl (0, 6)) := rfl
theorem s_54 (b : Nat) : sh b 54 = some (.inr (.inr (8, [.inl 0, .inr (some 55), .inr (some 56), .inr (some 57)]))) := rfl
theorem s_55 (b : Nat) : sh b 55 = some (.inl (0, 6)) := rfl
theorem s_56 (b : Nat) : sh b 56 = some (.inl (0, 6)) := rfl
theorem s_57 (b : Nat) : sh b 57 = some (.inl (0, 6)) := rfl
theorem s_58 (b : Nat) : sh b 58 = some (.inr (.inr (8, [.inl 0, .inr (some 59), .inr (some 60), .inr (some 61)]))) := rfl
theorem s_59 (b : Nat) : sh b 59 = some (.inl (0, 6)) := rfl
theorem s_60 (b : Nat) : sh b 60 = some (.inl (0, 6)) := rfl
theorem s_61 (b : Nat) : sh b 61 = some (.inl (0, 6)) := rfl
theorem s_62 (b : Nat) : sh b 62 = some (.inr (.inr (0, [.inr (some 63), .inr (some 64), .inr (some 65), .inr (some 66)]))) := rfl
theorem s_63 (b : Nat) : sh b 63 = some (.inl (0, 300)) := rfl
theorem s_64 (b : Nat) : sh b 64 = some (.inl (0, 300)) := rfl
theorem s_65 (b : Nat) : sh b 65 = some (.inl (0, 300)) := rfl
theorem s_66 (b : Nat) : sh b 66 = some (.inl (0, 300)) := rfl
theorem s_67 (b : Nat) : sh b 67 = some (.inr (.inr (10, [.inl 0, .inl 0, .inr (some 68), .inr (some 72), .inl 0, .inl 0, .inl 0, .inl 0, .inl 0, .inl 0]))) := rfl
theorem s_68 (b : Nat) : sh b 68 = some (.inr (.inr (9, [.inl 0, .inr (some 69), .inr (some 70), .inr (some 71)]))) := rfl
theorem s_69 (b : Nat) : sh b 69 = some (.inl (0, 5)) := rfl
theorem s_70 (b : Nat) : sh b 70 = some (.inl (0, 5)) := rfl
theorem s_71 (b : Nat) : sh b 71 = some (.inl (0, 5)) := rfl
theorem s_72 (b : Nat) : sh b 72 = some (.inl (0, 10)) := rfl
theorem s_73 (b : Nat) : sh b 73 = some (.inr (.inr (2, [.inr (some 74), .inr (some 75), .inr (some 76), .inr (some 77), .inr (some 78), .inl 0, .inl 0]))) := rfl
theorem s_74 (b : Nat) : sh b 74 = some (.inl (0, 300)) := rfl
theorem s_75 (b : Nat) : sh b 75 = some (.inl (0, 2700)) := rfl
theorem s_76 (b : Nat) : sh b 76 = some (.inl (0, 2700)) := rfl
theorem s_77 (b : Nat) : sh b 77 = some (.inl (0, 2700)) := rfl
theorem s_78 (b : Nat) : sh b 78 = some (.inl (0, 2700)) := rfl
theorem s_79 (b : Nat) : sh b 79 = some (.inr (.inr (5, [.inr (some 33), .inr (some 62), .inr (some 67), .inr (some 73), .inl 0, .inr (some 80), .inr (some 81), .inr (some 82), .inr (some 83), .inr (some 84), .inr (some 85), .inr (some 86), .inr (some 87), .inr (some 88), .inr (some 89), .inr (some 90), .inl 0, .inl 1, .inl 1]))) := rfl
theorem s_80 (b : Nat) : sh b 80 = some (.inl (0, 300)) := rfl
theorem s_81 (b : Nat) : sh b 81 = some (.inl (0, 300)) := rfl
theorem s_82 (b : Nat) : sh b 82 = some (.inl (0, 300)) := rfl
theorem s_83 (b : Nat) : sh b 83 = some (.inl (0, 300)) := rfl
theorem s_84 (b : Nat) : sh b 84 = some (.inl (0, 300)) := rfl
theorem s_85 (b : Nat) : sh b 85 = some (.inl (0, 8)) := rfl
theorem s_86 (b : Nat) : sh b 86 = some (.inl (0, 12)) := rfl
theorem s_87 (b : Nat) : sh b 87 = some (.inl (0, 12)) := rfl
theorem s_88 (b : Nat) : sh b 88 = some (.inl (0, 12)) := rfl
theorem s_89 (b : Nat) : sh b 89 = some (.inl (0, 9)) := rfl
theorem s_90 (b : Nat) : sh b 90 = some (.inl (0, 9)) := rfl
theorem s_91 (b : Nat) : sh b 91 = some (.inr (.inr (5, [.inr (some 33), .inr (some 62), .inr (some 67), .inr (some 73), .inl 0, .inr (some 92), .inr (some 93), .inr (some 94), .inr (some 95), .inr (some 96), .inr (some 97), .inr (some 98), .inr (some 99), .inr (some 100), .inr (some 101), .inr (some 102), .inl 0, .inl 1, .inl 1]))) := rfl
theorem s_92 (b : Nat) : sh b 92 = some (.inl (0, 300)) := rfl
theorem s_93 (b : Nat) : sh b 93 = some (.inl (0, 300)) := rfl
theorem s_94 (b : Nat) : sh b 94 = some (.inl (0, 300)) := rfl
theorem s_95 (b : Nat) : sh b 95 = some (.inl (0, 300)) := rfl
theorem s_96 (b : Nat) : sh b 96 = some (.inl (0, 300)) := rfl
theorem s_97 (b : Nat) : sh b 97 = some (.inl (0, 8)) := rfl
theorem s_98 (b : Nat) : sh b 98 = some (.inl (0, 12)) := rfl
theorem s_99 (b : Nat) : sh b 99 = some (.inl (0, 12)) := rfl
theorem s_100 (b : Nat) : sh b 100 = some (.inl (0, 12)) := rfl
theorem s_101 (b : Nat) : sh b 101 = some (.inl (0, 9)) := rfl
theorem s_102 (b : Nat) : sh b 102 = some (.inl (0, 9)) := rfl
theorem s_103 (b : Nat) : sh b 103 = some (.inr (.inr (6, [.inr (some 33), .inr (some 67), .inr (some 91), .inr (some 104), .inl 0, .inl 0, .inl 0, .inl 0]))) := rfl
theorem s_104 (b : Nat) : sh b 104 = some (.inl (1, 4096)) := rfl
theorem s_105 (b : Nat) : sh b 105 = some (.inl (0, 2700)) := rfl
theorem s_106 (b : Nat) : sh b 106 = some (.inr (.inl (4, 4, [some 107, some 109, some 111, some 113]))) := rfl
theorem s_107 (b : Nat) : sh b 107 = some (.inr (.inr (7, [.inl 1, .inl 0, .inl 0, .inr (some 108)]))) := rfl
theorem s_108 (b : Nat) : sh b 108 = some (.inl (3, 60)) := rfl
theorem s_109 (b : Nat) : sh b 109 = some (.inr (.inr (7, [.inl 1, .inl 0, .inl 0, .inr (some 110)]))) := rfl
theorem s_110 (b : Nat) : sh b 110 = some (.inl (3, 60)) := rfl
theorem s_111 (b : Nat) : sh b 111 = some (.inr (.inr (7, [.inl 1, .inl 0, .inl 0, .inr (some 112)]))) := rfl
theorem s_112 (b : Nat) : sh b 112 = some (.inl (3, 60)) := rfl
theorem s_113 (b : Nat) : sh b 113 = some (.inr (.inr (7, [.inl 1, .inl 0, .inl 0, .inr (some 114)]))) := rfl
theorem s_114 (b : Nat) : sh b 114 = some (.inl (3, 60)) := rfl
theorem s_115 (b : Nat) : sh b 115 = some (.inr (.inl (5, 3, [some 116, some 145, some 174]))) := rfl
theorem s_116 (b : Nat) : sh b 116 = some (.inr (.inr (1, [.inl 0, .inl 0, .inl 0, .inl 0, .inl 0, .inl 0, .inr (some 117), .inr (some 118), .inr (some 119), .inr (some 120), .inr (some 125), .inr (some 129), .inr (some 133), .inr (some 137), .inr (some 141)]))) := rfl
theorem s_117 (b : Nat) : sh b 117 = some (.inl (0, 9)) := rfl
theorem s_118 (b : Nat) : sh b 118 = some (.inl (0, 9)) := rfl
theorem s_119 (b : Nat) : sh b 119 = some (.inl (0, 9)) := rfl
theorem s_120 (b : Nat) : sh b 120 = some (.inr (.inr (3, [.inl 0, .inr (some 121), .inr (some 122), .inr (some 123), .inr (some 124)]))) := rfl
theorem s_121 (b : Nat) : sh b 121 = some (.inl (0, 12)) := rfl
theorem s_122 (b : Nat) : sh b 122 = some (.inl (0, 12)) := rfl
theorem s_123 (b : Nat) : sh b 123 = some (.inl (0, 12)) := rfl
theorem s_124 (b : Nat) : sh b 124 = some (.inl (0, 12)) := rfl
theorem s_125 (b : Nat) : sh b 125 = some (.inr (.inr (9, [.inl 0, .inr (some 126), .inr (some 127), .inr (some 128)]))) := rfl
theorem s_126 (b : Nat) : sh b 126 = some (.inl (0, 5)) := rfl
theorem s_127 (b : Nat) : sh b 127 = some (.inl (0, 5)) := rfl
theorem s_128 (b : Nat) : sh b 128 = some (.inl (0, 5)) := rfl
theorem s_129 (b : Nat) : sh b 129 = some (.inr (.inr (8, [.inl 0, .inr (some 130), .inr (some 131), .inr (some 132)]))) := rfl
theorem s_130 (b : Nat) : sh b 130 = some (.inl (0, 6)) := rfl
theorem s_131 (b : Nat) : sh b 131 = some (.inl (0, 6)) := rfl
theorem s_132 (b : Nat) : sh b 132 = some (.inl (0, 6)) := rfl
theorem s_133 (b : Nat) : sh b 133 = some (.inr (.inr (8, [.inl 0, .inr (some 134), .inr (some 135), .inr (some 136)]))) := rfl
theorem s_134 (b : Nat) : sh b 134 = some (.inl (0, 6)) := rfl
theorem s_135 (b : Nat) : sh b 135 = some (.inl (0, 6)) := rfl
theorem s_136 (b : Nat) : sh b 136 = some (.inl (0, 6)) := rfl
theorem s_137 (b : Nat) : sh b 137 = some (.inr (.inr (8, [.inl 0, .inr (some 138), .inr (some 139), .inr (some 140)]))) := rfl
theorem s_138 (b : Nat) : sh b 138 = some (.inl (0, 6)) := rfl
theorem s_139 (b : Nat) : sh b 139 = some (.inl (0, 6)) := rfl
theorem s_140 (b : Nat) : sh b 140 = some (.inl (0, 6)) := rfl
theorem s_141 (b : Nat) : sh b 141 = some (.inr (.inr (8, [.inl 0, .inr (some 142), .inr (some 143), .inr (some 144)]))) := rfl
theorem s_142 (b : Nat) : sh b 142 = some (.inl (0, 6)) := rfl
theorem s_143 (b : Nat) : sh b 143 = some (.inl (0, 6)) := rfl
theorem s_144 (b : Nat) : sh b 144 = some (.inl (0, 6)) := rfl
theorem s_145 (b : Nat) : sh b 145 = some (.inr (.inr (1, [.inl 0, .inl 0, .inl 0, .inl 0, .inl 0, .inl 0, .inr (some 146), .inr (some 147), .inr (some 148), .inr (some 149), .inr (some 154), .inr (some 158), .inr (some 162), .inr (some 166), .inr (some 170)]))) := rfl
theorem s_146 (b : Nat) : sh b 146 = some (.inl (0, 9)) := rfl
theorem s_147 (b : Nat) : sh b 147 = some (.inl (0, 9)) := rfl
theorem s_148 (b : Nat) : sh b 148 = some (.inl (0, 9)) := rfl
theorem s_149 (b : Nat) : sh b 149 = some (.inr (.inr (3, [.inl 0, .inr (some 150), .inr (some 151), .inr (some 152), .inr (some 153)]))) := rfl
theorem s_150 (b : Nat) : sh b 150 = some (.inl (0, 12)) := rfl
theorem s_151 (b : Nat) : sh b 151 = some (.inl (0, 12)) := rfl
theorem s_152 (b : Nat) : sh b 152 = some (.inl (0, 12)) := rfl
theorem s_153 (b : Nat) : sh b 153 = some (.inl (0, 12)) := rfl
theorem s_154 (b : Nat) : sh b 154 = some (.inr (.inr (9, [.inl 0, .inr (some 155), .inr (some 156), .inr (some 157)]))) := rfl
theorem s_155 (b : Nat) : sh b 155 = some (.inl (0, 5)) := rfl
theorem s_156 (b : Nat) : sh b 156 = some (.inl (0, 5)) := rfl
theorem s_157 (b : Nat) : sh b 157 = some (.inl (0, 5)) := rfl
theorem s_158 (b : Nat) : sh b 158 = some (.inr (.inr (8, [.inl 0, .inr (some 159), .inr (some 160), .inr (some 161)]))) := rfl
theorem s_159 (b : Nat) : sh b 159 = some (.inl (0, 6)) := rfl
theorem s_160 (b : Nat) : sh b 160 = some (.inl (0, 6)) := rfl
theorem s_161 (b : Nat) : sh b 161 = some (.inl (0, 6)) := rfl
theorem s_162 (b : Nat) : sh b 162 = some (.inr (.inr (8, [.inl 0, .inr (some 163), .inr (some 164), .inr (some 165)]))) := rfl
theorem s_163 (b : Nat) : sh b 163 = some (.inl (0, 6)) := rfl
theorem s_164 (b : Nat) : sh b 164 = some (.inl (0, 6)) := rfl
theorem s_165 (b : Nat) : sh b 165 = some (.inl (0, 6)) := rfl
theorem s_166 (b : Nat) : sh b 166 = some (.inr (.inr (8, [.inl 0, .inr (some 167), .inr (some 168), .inr (some 169)]))) := rfl
theorem s_167 (b : Nat) : sh b 167 = some (.inl (0, 6)) := rfl
theorem s_168 (b : Nat) : sh b 168 = some (.inl (0, 6)) := rfl
theorem s_169 (b : Nat) : sh b 169 = some (.inl (0, 6)) := rfl
theorem s_170 (b : Nat) : sh b 170 = some (.inr (.inr (8, [.inl 0, .inr (some 171), .inr (some 172), .inr (some 173)]))) := rfl
theorem s_171 (b : Nat) : sh b 171 = some (.inl (0, 6)) := rfl
theorem s_172 (b : Nat) : sh b 172 = some (.inl (0, 6)) := rfl
theorem s_173 (b : Nat) : sh b 173 = some (.inl (0, 6)) := rfl
theorem s_174 (b : Nat) : sh b 174 = some (.inr (.inr (1, [.inl 0, .inl 0, .inl 0, .inl 0, .inl 0, .inl 0, .inr (some 175), .inr (some 176), .inr (some 177), .inr (some 178), .inr (some 183), .inr (some 187), .inr (some 191), .inr (some 195), .inr (some 199)]))) := rfl
theorem s_175 (b : Nat) : sh b 175 = some (.inl (0, 9)) := rfl
theorem s_176 (b : Nat) : sh b 176 = some (.inl (0, 9)) := rfl
theorem s_177 (b : Nat) : sh b 177 = some (.inl (0, 9)) := rfl
theorem s_178 (b : Nat) : sh b 178 = some (.inr (.inr (3, [.inl 0, .inr (some 179), .inr (some 180), .inr (some 181), .inr (some 182)]))) := rfl
theorem s_179 (b : Nat) : sh b 179 = some (.inl (0, 12)) := rfl
theorem s_180 (b : Nat) : sh b 180 = some (.inl (0, 12)) := rfl
theorem s_181 (b : Nat) : sh b 181 = some (.inl (0, 12)) := rfl
theorem s_182 (b : Nat) : sh b 182 = some (.inl (0, 12)) := rfl
theorem s_183 (b : Nat) : sh b 183 = some (.inr (.inr (9, [.inl 0, .inr (some 184), .inr (some 185), .inr (some 186)]))) := rfl
theorem s_184 (b : Nat) : sh b 184 = some (.inl (0, 5)) := rfl
theorem s_185 (b : Nat) : sh b 185 = some (.inl (0, 5)) := rfl
theorem s_186 (b : Nat) : sh b 186 = some (.inl (0, 5)) := rfl
theorem s_187 (b : Nat) : sh b 187 = some (.inr (.inr (8, [.inl 0, .inr (some 188), .inr (some 189), .inr (some 190)]))) := rfl
theorem s_188 (b : Nat) : sh b 188 = some (.inl (0, 6)) := rfl
theorem s_189 (b : Nat) : sh b 189 = some (.inl (0, 6)) := rfl
theorem s_190 (b : Nat) : sh b 190 = some (.inl (0, 6)) := rfl
theorem s_191 (b : Nat) : sh b 191 = some (.inr (.inr (8, [.inl 0, .inr (some 192), .inr (some 193), .inr (some 194)]))) := rfl
theorem s_192 (b : Nat) : sh b 192 = some (.inl (0, 6)) := rfl
theorem s_193 (b : Nat) : sh b 193 = some (.inl (0, 6)) := rfl
theorem s_194 (b : Nat) : sh b 194 = some (.inl (0, 6)) := rfl
theorem s_195 (b : Nat) : sh b 195 = some (.inr (.inr (8, [.inl 0, .inr (some 196), .inr (some 197), .inr (some 198)]))) := rfl
theorem s_196 (b : Nat) : sh b 196 = some (.inl (0, 6)) := rfl
theorem s_197 (b : Nat) : sh b 197 = some (.inl (0, 6)) := rfl
theorem s_198 (b : Nat) : sh b 198 = some (.inl (0, 6)) := rfl
theorem s_199 (b : Nat) : sh b 199 = some (.inr (.inr (8, [.inl 0, .inr (some 200), .inr (some 201), .inr (some 202)]))) := rfl
theorem s_200 (b : Nat) : sh b 200 = some (.inl (0, 6)) := rfl
theorem s_201 (b : Nat) : sh b 201 = some (.inl (0, 6)) := rfl
theorem s_202 (b : Nat) : sh b 202 = some (.inl (0, 6)) := rfl
theorem s_203 (b : Nat) : sh b 203 = some (.inr (.inr (12, [.inl 0, .inr (some 204), .inr (some 205), .inr (some 206), .inr (some 207), .inr (some 208), .inl 0, .inl 0, .inl 0, .inl 0, .inl 0, .inl 2, .inl 0, .inl 0, .inl 0, .inl 0, .inr (some 209), .inr (some 210), .inr (some 211), .inr (some 212), .inr (some 213), .inr (some 214), .inr (some 215), .inr (some 216), .inr (some 217), .inr (some 218), .inr (some 219), .inl 0, .inl 0, .inl 2, .inl 0, .inl 0, .inl 0, .inl 0, .inl 0, .inl 0, .inr (some 220), .inl 0, .inr (some 221), .inr (some 222), .inr (some 223), .inr (some 224), .inr (some 225), .inl 0, .inr (some 226), .inr (some 227), .inr (some 228), .inr (some 229), .inr (some 230), .inr (some 231), .inr (some 232), .inl 0, .inl 0, .inl 0, .inl 0]))) := rfl
theorem s_204 (b : Nat) : sh b 204 = some (.inl (0, 4)) := rfl
theorem s_205 (b : Nat) : sh b 205 = some (.inl (0, 4)) := rfl
theorem s_206 (b : Nat) : sh b 206 = some (.inl (3, 240)) := rfl
theorem s_207 (b : Nat) : sh b 207 = some (.inl (3, 60)) := rfl
theorem s_208 (b : Nat) : sh b 208 = some (.inl (1, 2000)) := rfl
theorem s_209 (b : Nat) : sh b 209 = some (.inl (0, 5)) := rfl
theorem s_210 (b : Nat) : sh b 210 = some (.inl (0, 55)) := rfl
theorem s_211 (b : Nat) : sh b 211 = some (.inl (0, 135)) := rfl
theorem s_212 (b : Nat) : sh b 212 = some (.inl (0, 240)) := rfl
theorem s_213 (b : Nat) : sh b 213 = some (.inl (0, 75)) := rfl
theorem s_214 (b : Nat) : sh b 214 = some (.inl (0, 60)) := rfl
theorem s_215 (b : Nat) : sh b 215 = some (.inl (0, 90)) := rfl
theorem s_216 (b : Nat) : sh b 216 = some (.inl (0, 90)) := rfl
theorem s_217 (b : Nat) : sh b 217 = some (.inl (0, 90)) := rfl
theorem s_218 (b : Nat) : sh b 218 = some (.inl (2, 3)) := rfl
theorem s_219 (b : Nat) : sh b 219 = some (.inl (0, 300)) := rfl
theorem s_220 (b : Nat) : sh b 220 = some (.inl (0, 1500)) := rfl
theorem s_221 (b : Nat) : sh b 221 = some (.inl (0, 8)) := rfl
theorem s_222 (b : Nat) : sh b 222 = some (.inl (0, 12)) := rfl
theorem s_223 (b : Nat) : sh b 223 = some (.inl (0, 12)) := rfl
theorem s_224 (b : Nat) : sh b 224 = some (.inl (0, 12)) := rfl
theorem s_225 (b : Nat) : sh b 225 = some (.inl (0, 18500)) := rfl
theorem s_226 (b : Nat) : sh b 226 = some (.inl (0, 300)) := rfl
theorem s_227 (b : Nat) : sh b 227 = some (.inl (0, 300)) := rfl
theorem s_228 (b : Nat) : sh b 228 = some (.inl (0, 9)) := rfl
theorem s_229 (b : Nat) : sh b 229 = some (.inl (0, 9)) := rfl
theorem s_230 (b : Nat) : sh b 230 = some (.inl (0, 9)) := rfl
theorem s_231 (b : Nat) : sh b 231 = some (.inl (0, 9)) := rfl
theorem s_232 (b : Nat) : sh b 232 = some (.inl (0, 9)) := rfl
