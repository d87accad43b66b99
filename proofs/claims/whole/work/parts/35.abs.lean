/-! the run of a bay, apart from any machine. P: 0 (C T S E norest dumb stC stF stM starts), 1 hearer, 2 heard, 3 late, 4 rests, 5 proud, 6 muffled, 7 cut, 8 9 10 starts (second church hour), 100+e takes, 200+e fog, 300+c deaf, 400+c funeral. A state: numbers (0: n over unwanted; 1 second 2 church 3 hour 4 by 5 ear 6 losses 7 fogged 8 passed 9 sent 10 last second 11 last hour 12 struck 13 first 14 many), and what is due -/
abbrev DU := Nat → Nat → List (Int × Int × Int)
abbrev SS := VS × DU
def ainc (a : SS) (k j : Nat) : SS := (v2 a.1 k j (a.1 k j + 1), a.2)
def aput (a : SS) (t c : Nat) (x : Int × Int × Int) : SS := (a.1, fset a.2 t (fset (a.2 t) c (a.2 t c ++ [x])))
def ahear (P : VS) (a : SS) (i e t l : Nat) : SS :=
  if 99 < a.1 3 i + P (400 + l) t then ainc a 6 6
  else if P 0 2 ≤ t + P 3 l then ainc a 6 5
  else aput (ainc a 8 e) (t + P 3 l).toNat l (a.1 3 i + P (400 + l) t, (i : Int), (e : Int))
def aat (P : VS) (a : SS) (i e : Nat) : Int := a.1 1 i + P (100 + e) (a.1 1 i).toNat
def acarry (P : VS) (a : SS) (i e : Nat) : SS :=
  if P 0 2 ≤ aat P a i e then ainc a 6 5
  else if P (200 + e) (aat P a i e).toNat = 1 then ainc (ainc a 6 0) 7 e
  else if P (300 + (P 1 e).toNat) (aat P a i e).toNat = 1 then ainc a 6 1
  else ahear P a i e (aat P a i e).toNat (P 1 e).toNat
def agoE (P : VS) (a : SS) (i e : Nat) : SS := if P 2 e = a.1 2 i ∧ P 7 e = 0 then acarry P (ainc a 9 e) i e else a
def agoL (P : VS) (i : Nat) : Nat → SS → SS
  | 0, a => a
  | k + 1, a => agoE P (agoL P i k a) i k
def ago (P : VS) (a : SS) (i : Nat) : SS := if a.1 0 1 ≠ 0 ∨ (i : Int) = P 0 5 then a else agoL P i (P 0 3).toNat a
def abest (x : Int × Int × Int) (l : List (Int × Int × Int)) : Int × Int × Int := l.foldl (fun b y => if b.1 < y.1 then y else b) x
def auw (P : VS) (t c : Nat) (n : Int) : Int := if (c : Int) = P 0 6 ∨ P 0 7 ≤ t ∨ P 0 8 < n then 1 else 0
def aring (P : VS) (a : SS) (t c : Nat) (x : Int × Int × Int) : SS :=
  (v2 (v2 (v2 (v2 (v2 (v2 (v2 (v2 (v2 (v2 (v2 (v2 (v2 a.1 1 (a.1 0 0).toNat t) 2 (a.1 0 0).toNat c) 3 (a.1 0 0).toNat x.1) 4 (a.1 0 0).toNat x.2.1) 5 (a.1 0 0).toNat x.2.2) 10 c t) 11 c x.1) 13 c (if a.1 12 c = 1 then a.1 13 c else a.1 0 0)) 14 c (a.1 14 c + 1)) 12 c 1) 0 0 (a.1 0 0 + 1)) 0 2 (auw P t c (a.1 0 0 + 1))) 0 1 (if auw P t c (a.1 0 0 + 1) = 1 ∨ 300 ≤ a.1 0 0 + 1 then 1 else 0), a.2)
def alose (a : SS) (r k : Nat) : SS := (v2 (v2 a.1 6 7 (a.1 6 7 + r)) 6 k (a.1 6 k + 1), a.2)
def aoth (a : SS) (r : Nat) : SS := (v2 a.1 6 7 (a.1 6 7 + r), a.2)
def avisL (P : VS) (a : SS) (t c : Nat) (x : Int × Int × Int) (r : List (Int × Int × Int)) : SS :=
  if P 6 c = 1 then alose a r.length 4
  else if a.1 12 c = 1 ∧ P 0 4 = 0 ∧ (t : Int) - a.1 10 c ≤ P 4 c then alose a r.length 2
  else if a.1 12 c = 1 ∧ P 5 c = 1 ∧ (abest x r).1 ≤ a.1 11 c then alose a r.length 3
  else ago P (aring P (aoth a r.length) t c (abest x r)) (a.1 0 0).toNat
def avis (P : VS) (a : SS) (t c : Nat) : SS :=
  match a.2 t c with
  | [] => a
  | x :: r => avisL P a t c x r
def astep (P : VS) (a : SS) (t c : Nat) : SS := if a.1 0 1 ≠ 0 then a else avis P a t c
def ainL (P : VS) (t : Nat) : Nat → SS → SS
  | 0, a => a
  | k + 1, a => astep P (ainL P t k a) t k
def aoutL (P : VS) : Nat → SS → SS
  | 0, a => a
  | k + 1, a => ainL P k (P 0 0).toNat (aoutL P k a)
def anil : SS := (fun k _ => if k = 10 ∨ k = 13 then -1 else 0, fun _ _ => [])
def abegL (P : VS) : Nat → SS → SS
  | 0, a => a
  | k + 1, a => aput (abegL P k a) (P 8 k).toNat (P 9 k).toNat (P 10 k, -1, -1)
def abeg (P : VS) : SS := abegL P (P 0 9).toNat anil
def arun (P : VS) : SS := aoutL P (P 0 1).toNat (abeg P)
