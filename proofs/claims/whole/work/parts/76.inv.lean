/-! what holds between two calls -/
def BQ (k : Nat) (r : Nat) (v : VS) : Prop :=
  (v k 0 = v 210 (11 * r)) ∧
  (v k 1 = v 210 (11 * r + 1)) ∧
  (v k 2 = v 209 r) ∧
  (v k 3 = v 210 (11 * r + 2)) ∧
  (v k 4 = v 210 (11 * r + 9)) ∧
  (v k 5 = v 210 (11 * r + 10)) ∧
  (∀ c : Nat, c < 9 → v (k + 1) c = v 211 (27 * r + 3 * c) ∧ v (k + 2) c = v 211 (27 * r + 3 * c + 1) ∧ v (k + 3) c = v 211 (27 * r + 3 * c + 2)) ∧
  (v (k + 4) 0 = v 210 (11 * r + 3)) ∧
  (∀ e : Nat, (e : Int) < v (k + 4) 0 → v (k + 5) e = v 212 (48 * r + 4 * e) ∧ v (k + 6) e = v 212 (48 * r + 4 * e + 1) ∧ v (k + 7) e = v 212 (48 * r + 4 * e + 2) ∧ v (k + 8) e = v 212 (48 * r + 4 * e + 3)) ∧
  (v (k + 9) 0 = v 210 (11 * r + 4)) ∧
  (∀ s : Nat, (s : Int) < v (k + 9) 0 → v (k + 10) s = v 213 (15 * r + 3 * s) ∧ v (k + 11) s = v 213 (15 * r + 3 * s + 1) ∧ v (k + 12) s = v 213 (15 * r + 3 * s + 2)) ∧
  (v (k + 13) 0 = v 210 (11 * r + 5)) ∧
  (∀ i : Nat, (i : Int) < v (k + 13) 0 → v (k + 14) i = v 214 (12 * r + 2 * i + 1) ∧ v (k + 15) i = v 214 (12 * r + 2 * i)) ∧
  (v (k + 17) 0 = v 210 (11 * r + 6)) ∧
  (∀ i : Nat, (i : Int) < v (k + 17) 0 → v (k + 18) i = v 215 (18 * r + 3 * i) ∧ v (k + 19) i = v 215 (18 * r + 3 * i + 1) ∧ v (k + 20) i = v 215 (18 * r + 3 * i + 2)) ∧
  (v (k + 21) 0 = v 210 (11 * r + 7)) ∧
  (∀ i : Nat, (i : Int) < v (k + 21) 0 → v (k + 22) i = v 216 (18 * r + 3 * i) ∧ v (k + 23) i = v 216 (18 * r + 3 * i + 1) ∧ v (k + 24) i = v 216 (18 * r + 3 * i + 2)) ∧
  (v (k + 25) 0 = v 210 (11 * r + 8)) ∧
  (∀ i : Nat, (i : Int) < v (k + 25) 0 → v (k + 26) i = v 217 (18 * r + 3 * i) ∧ v (k + 27) i = v 217 (18 * r + 3 * i + 1) ∧ v (k + 28) i = v 217 (18 * r + 3 * i + 2))
theorem BQ.C {k : Nat} {r : Nat} {v : VS} (h : BQ k r v) : v k 0 = v 210 (11 * r) := h.1
theorem BQ.S {k : Nat} {r : Nat} {v : VS} (h : BQ k r v) : v k 1 = v 210 (11 * r + 1) := h.2.1
theorem BQ.L {k : Nat} {r : Nat} {v : VS} (h : BQ k r v) : v k 2 = v 209 r := h.2.2.1
theorem BQ.D {k : Nat} {r : Nat} {v : VS} (h : BQ k r v) : v k 3 = v 210 (11 * r + 2) := h.2.2.2.1
theorem BQ.M {k : Nat} {r : Nat} {v : VS} (h : BQ k r v) : v k 4 = v 210 (11 * r + 9) := h.2.2.2.2.1
theorem BQ.X {k : Nat} {r : Nat} {v : VS} (h : BQ k r v) : v k 5 = v 210 (11 * r + 10) := h.2.2.2.2.2.1
theorem BQ.ch {k : Nat} {r : Nat} {v : VS} (h : BQ k r v) : ∀ c : Nat, c < 9 → v (k + 1) c = v 211 (27 * r + 3 * c) ∧ v (k + 2) c = v 211 (27 * r + 3 * c + 1) ∧ v (k + 3) c = v 211 (27 * r + 3 * c + 2) := h.2.2.2.2.2.2.1
theorem BQ.E {k : Nat} {r : Nat} {v : VS} (h : BQ k r v) : v (k + 4) 0 = v 210 (11 * r + 3) := h.2.2.2.2.2.2.2.1
theorem BQ.ea {k : Nat} {r : Nat} {v : VS} (h : BQ k r v) : ∀ e : Nat, (e : Int) < v (k + 4) 0 → v (k + 5) e = v 212 (48 * r + 4 * e) ∧ v (k + 6) e = v 212 (48 * r + 4 * e + 1) ∧ v (k + 7) e = v 212 (48 * r + 4 * e + 2) ∧ v (k + 8) e = v 212 (48 * r + 4 * e + 3) := h.2.2.2.2.2.2.2.2.1
theorem BQ.T {k : Nat} {r : Nat} {v : VS} (h : BQ k r v) : v (k + 9) 0 = v 210 (11 * r + 4) := h.2.2.2.2.2.2.2.2.2.1
theorem BQ.st {k : Nat} {r : Nat} {v : VS} (h : BQ k r v) : ∀ s : Nat, (s : Int) < v (k + 9) 0 → v (k + 10) s = v 213 (15 * r + 3 * s) ∧ v (k + 11) s = v 213 (15 * r + 3 * s + 1) ∧ v (k + 12) s = v 213 (15 * r + 3 * s + 2) := h.2.2.2.2.2.2.2.2.2.2.1
theorem BQ.W {k : Nat} {r : Nat} {v : VS} (h : BQ k r v) : v (k + 13) 0 = v 210 (11 * r + 5) := h.2.2.2.2.2.2.2.2.2.2.2.1
theorem BQ.wi {k : Nat} {r : Nat} {v : VS} (h : BQ k r v) : ∀ i : Nat, (i : Int) < v (k + 13) 0 → v (k + 14) i = v 214 (12 * r + 2 * i + 1) ∧ v (k + 15) i = v 214 (12 * r + 2 * i) := h.2.2.2.2.2.2.2.2.2.2.2.2.1
theorem BQ.F {k : Nat} {r : Nat} {v : VS} (h : BQ k r v) : v (k + 17) 0 = v 210 (11 * r + 6) := h.2.2.2.2.2.2.2.2.2.2.2.2.2.1
theorem BQ.fo {k : Nat} {r : Nat} {v : VS} (h : BQ k r v) : ∀ i : Nat, (i : Int) < v (k + 17) 0 → v (k + 18) i = v 215 (18 * r + 3 * i) ∧ v (k + 19) i = v 215 (18 * r + 3 * i + 1) ∧ v (k + 20) i = v 215 (18 * r + 3 * i + 2) := h.2.2.2.2.2.2.2.2.2.2.2.2.2.2.1
theorem BQ.G {k : Nat} {r : Nat} {v : VS} (h : BQ k r v) : v (k + 21) 0 = v 210 (11 * r + 7) := h.2.2.2.2.2.2.2.2.2.2.2.2.2.2.2.1
theorem BQ.de {k : Nat} {r : Nat} {v : VS} (h : BQ k r v) : ∀ i : Nat, (i : Int) < v (k + 21) 0 → v (k + 22) i = v 216 (18 * r + 3 * i) ∧ v (k + 23) i = v 216 (18 * r + 3 * i + 1) ∧ v (k + 24) i = v 216 (18 * r + 3 * i + 2) := h.2.2.2.2.2.2.2.2.2.2.2.2.2.2.2.2.1
theorem BQ.H {k : Nat} {r : Nat} {v : VS} (h : BQ k r v) : v (k + 25) 0 = v 210 (11 * r + 8) := h.2.2.2.2.2.2.2.2.2.2.2.2.2.2.2.2.2.1
theorem BQ.fu {k : Nat} {r : Nat} {v : VS} (h : BQ k r v) : ∀ i : Nat, (i : Int) < v (k + 25) 0 → v (k + 26) i = v 217 (18 * r + 3 * i) ∧ v (k + 27) i = v 217 (18 * r + 3 * i + 1) ∧ v (k + 28) i = v 217 (18 * r + 3 * i + 2) := h.2.2.2.2.2.2.2.2.2.2.2.2.2.2.2.2.2.2
def VB (k : Nat) (v : VS) : Prop :=
  (0 < v k 2 → 1 ≤ v k 0 ∧ 1 ≤ v k 1) ∧
  (v k 2 = 0 → v k 0 = 0 ∧ v k 1 = 0 ∧ v (k + 4) 0 = 0 ∧ v (k + 9) 0 = 0) ∧
  (∀ e : Nat, (e : Int) < v (k + 4) 0 → v (k + 5) e < v k 0 ∧ v (k + 6) e < v k 0 ∧ 1 ≤ v (k + 7) e) ∧
  (∀ s : Nat, (s : Int) < v (k + 9) 0 → v (k + 10) s < v k 0 ∧ v (k + 11) s < v k 1 ∧ 1 ≤ v (k + 12) s) ∧
  (∀ i : Nat, (i : Int) < v (k + 17) 0 → v (k + 18) i < v (k + 4) 0 ∧ v (k + 20) i < v k 1) ∧
  (∀ i : Nat, (i : Int) < v (k + 21) 0 → v (k + 22) i < v k 0 ∧ v (k + 24) i < v k 1) ∧
  (∀ i : Nat, (i : Int) < v (k + 25) 0 → v (k + 26) i < v k 0 ∧ v (k + 28) i < v k 1)
theorem VB.pos {k : Nat} {v : VS} (h : VB k v) : 0 < v k 2 → 1 ≤ v k 0 ∧ 1 ≤ v k 1 := h.1
theorem VB.nil {k : Nat} {v : VS} (h : VB k v) : v k 2 = 0 → v k 0 = 0 ∧ v k 1 = 0 ∧ v (k + 4) 0 = 0 ∧ v (k + 9) 0 = 0 := h.2.1
theorem VB.ea {k : Nat} {v : VS} (h : VB k v) : ∀ e : Nat, (e : Int) < v (k + 4) 0 → v (k + 5) e < v k 0 ∧ v (k + 6) e < v k 0 ∧ 1 ≤ v (k + 7) e := h.2.2.1
theorem VB.st {k : Nat} {v : VS} (h : VB k v) : ∀ s : Nat, (s : Int) < v (k + 9) 0 → v (k + 10) s < v k 0 ∧ v (k + 11) s < v k 1 ∧ 1 ≤ v (k + 12) s := h.2.2.2.1
theorem VB.fo {k : Nat} {v : VS} (h : VB k v) : ∀ i : Nat, (i : Int) < v (k + 17) 0 → v (k + 18) i < v (k + 4) 0 ∧ v (k + 20) i < v k 1 := h.2.2.2.2.1
theorem VB.de {k : Nat} {v : VS} (h : VB k v) : ∀ i : Nat, (i : Int) < v (k + 21) 0 → v (k + 22) i < v k 0 ∧ v (k + 24) i < v k 1 := h.2.2.2.2.2.1
theorem VB.fu {k : Nat} {v : VS} (h : VB k v) : ∀ i : Nat, (i : Int) < v (k + 25) 0 → v (k + 26) i < v k 0 ∧ v (k + 28) i < v k 1 := h.2.2.2.2.2.2
theorem BQ.of {k r : Nat} {v v' : VS} (h : BQ k r v) (e : ∀ j, k ≤ j → j ≤ k + 28 → v' j = v j) (e2 : ∀ j, 209 ≤ j → j ≤ 217 → v' j = v j) : BQ k r v' := by
  unfold BQ at *
  rw [e k (by omega) (by omega), e (k + 1) (by omega) (by omega), e (k + 2) (by omega) (by omega), e (k + 3) (by omega) (by omega), e (k + 4) (by omega) (by omega), e (k + 5) (by omega) (by omega), e (k + 6) (by omega) (by omega), e (k + 7) (by omega) (by omega), e (k + 8) (by omega) (by omega), e (k + 9) (by omega) (by omega), e (k + 10) (by omega) (by omega), e (k + 11) (by omega) (by omega), e (k + 12) (by omega) (by omega), e (k + 13) (by omega) (by omega), e (k + 14) (by omega) (by omega), e (k + 15) (by omega) (by omega), e (k + 17) (by omega) (by omega), e (k + 18) (by omega) (by omega), e (k + 19) (by omega) (by omega), e (k + 20) (by omega) (by omega), e (k + 21) (by omega) (by omega), e (k + 22) (by omega) (by omega), e (k + 23) (by omega) (by omega), e (k + 24) (by omega) (by omega), e (k + 25) (by omega) (by omega), e (k + 26) (by omega) (by omega), e (k + 27) (by omega) (by omega), e (k + 28) (by omega) (by omega), e2 209 (by omega) (by omega), e2 210 (by omega) (by omega), e2 211 (by omega) (by omega), e2 212 (by omega) (by omega), e2 213 (by omega) (by omega), e2 214 (by omega) (by omega), e2 215 (by omega) (by omega), e2 216 (by omega) (by omega), e2 217 (by omega) (by omega)]
  exact h
theorem VB.of {k : Nat} {v v' : VS} (h : VB k v) (e : ∀ j, k ≤ j → j ≤ k + 28 → v' j = v j) : VB k v' := by
  unfold VB at *
  rw [e k (by omega) (by omega), e (k + 4) (by omega) (by omega), e (k + 5) (by omega) (by omega), e (k + 6) (by omega) (by omega), e (k + 7) (by omega) (by omega), e (k + 9) (by omega) (by omega), e (k + 10) (by omega) (by omega), e (k + 11) (by omega) (by omega), e (k + 12) (by omega) (by omega), e (k + 17) (by omega) (by omega), e (k + 18) (by omega) (by omega), e (k + 20) (by omega) (by omega), e (k + 21) (by omega) (by omega), e (k + 22) (by omega) (by omega), e (k + 24) (by omega) (by omega), e (k + 25) (by omega) (by omega), e (k + 26) (by omega) (by omega), e (k + 28) (by omega) (by omega)]
  exact h
/-- the tape, the faults, the slots -/
def TPQ (v : VS) : Prop :=
  (v 0 1 = v 203 6) ∧
  (∀ j : Nat, (j : Int) < v 0 1 → v 1 j = v 208 j) ∧
  (v 2 1 = v 203 14) ∧
  (v 2 2 = v 203 15)
theorem TPQ.n {v : VS} (h : TPQ v) : v 0 1 = v 203 6 := h.1
theorem TPQ.b {v : VS} (h : TPQ v) : ∀ j : Nat, (j : Int) < v 0 1 → v 1 j = v 208 j := h.2.1
theorem TPQ.f {v : VS} (h : TPQ v) : v 2 1 = v 203 14 := h.2.2.1
theorem TPQ.p {v : VS} (h : TPQ v) : v 2 2 = v 203 15 := h.2.2.2
def SLQ (v : VS) : Prop :=
  (∀ q : Nat, q < 4 → (v (107 + 2 * q) 0 = 0 ↔ v 204 q = -1)) ∧
  (∀ q : Nat, q < 4 → v (107 + 2 * q) 0 ≠ 0 → v (107 + 2 * q) 1 = v 204 q ∧ v (107 + 2 * q) 2 = v 205 q) ∧
  (∀ q j : Nat, q < 4 → v (107 + 2 * q) 0 ≠ 0 → (j : Int) < v (107 + 2 * q) 2 → v (108 + 2 * q) j = v 206 (60 * q + j))
theorem SLQ.has {v : VS} (h : SLQ v) : ∀ q : Nat, q < 4 → (v (107 + 2 * q) 0 = 0 ↔ v 204 q = -1) := h.1
theorem SLQ.wd {v : VS} (h : SLQ v) : ∀ q : Nat, q < 4 → v (107 + 2 * q) 0 ≠ 0 → v (107 + 2 * q) 1 = v 204 q ∧ v (107 + 2 * q) 2 = v 205 q := h.2.1
theorem SLQ.ce {v : VS} (h : SLQ v) : ∀ q j : Nat, q < 4 → v (107 + 2 * q) 0 ≠ 0 → (j : Int) < v (107 + 2 * q) 2 → v (108 + 2 * q) j = v 206 (60 * q + j) := h.2.2
def IMQ (v : VS) : Prop :=
  (∀ r : Nat, r < 3 → bt (v 0 13) r = v 218 r) ∧
  (∀ r : Nat, r < 3 → v 218 r = 1 → BQ (116 + 29 * r) (1 + r) v ∧ VB (116 + 29 * r) v)
theorem IMQ.k {v : VS} (h : IMQ v) : ∀ r : Nat, r < 3 → bt (v 0 13) r = v 218 r := h.1
theorem IMQ.q {v : VS} (h : IMQ v) : ∀ r : Nat, r < 3 → v 218 r = 1 → BQ (116 + 29 * r) (1 + r) v ∧ VB (116 + 29 * r) v := h.2
theorem TPQ.of {v v' : VS} (h : TPQ v) (e0 : v' 0 1 = v 0 1) (e1 : v' 1 = v 1) (e2 : v' 2 = v 2) (e8 : v' 208 = v 208) (e6 : v' 203 6 = v 203 6) (e14 : v' 203 14 = v 203 14) (e15 : v' 203 15 = v 203 15) : TPQ v' := by
  unfold TPQ at *
  rw [e0, e1, e2, e8, e6, e14, e15]
  exact h
theorem SLQ.of {v v' : VS} (h : SLQ v) (e : ∀ j, 107 ≤ j → j ≤ 114 → v' j = v j) (e2 : ∀ j, 204 ≤ j → j ≤ 206 → v' j = v j) : SLQ v' := by
  obtain ⟨h1, h2, h3⟩ := h
  refine ⟨fun q hq => ?_, fun q hq => ?_, fun q j hq => ?_⟩
  · rw [e (107 + 2 * q) (by omega) (by omega), e2 204 (by omega) (by omega)]; exact h1 q hq
  · rw [e (107 + 2 * q) (by omega) (by omega), e2 204 (by omega) (by omega), e2 205 (by omega) (by omega)]; exact h2 q hq
  · rw [e (107 + 2 * q) (by omega) (by omega), e (108 + 2 * q) (by omega) (by omega), e2 206 (by omega) (by omega)]; exact h3 q j hq
theorem IMQ.of {v v' : VS} (h : IMQ v) (e0 : v' 0 13 = v 0 13) (e : ∀ j, 116 ≤ j → j ≤ 202 → v' j = v j) (e2 : ∀ j, 209 ≤ j → j ≤ 218 → v' j = v j) : IMQ v' := by
  obtain ⟨h1, h2⟩ := h
  refine ⟨fun r hr => ?_, fun r hr => ?_⟩
  · rw [e0, e2 218 (by omega) (by omega)]; exact h1 r hr
  · rw [e2 218 (by omega) (by omega)]
    intro hk
    obtain ⟨q1, q2⟩ := h2 r hr hk
    exact ⟨q1.of (fun j a b => e j (by omega) (by omega)) (fun j a b => e2 j (by omega) (by omega)), q2.of (fun j a b => e j (by omega) (by omega))⟩
/-- of AIR and RUN (the air as told; the run that is kept): see the next parts -/
def INV0 (v : VS) : Prop :=
  (XI v) ∧
  (CF v) ∧
  (WZ v) ∧
  (TPQ v) ∧
  (SLQ v) ∧
  (IMQ v) ∧
  (BQ 33 0 v) ∧
  (VB 33 v)
theorem INV0.x {v : VS} (h : INV0 v) : XI v := h.1
theorem INV0.c {v : VS} (h : INV0 v) : CF v := h.2.1
theorem INV0.z {v : VS} (h : INV0 v) : WZ v := h.2.2.1
theorem INV0.t {v : VS} (h : INV0 v) : TPQ v := h.2.2.2.1
theorem INV0.s {v : VS} (h : INV0 v) : SLQ v := h.2.2.2.2.1
theorem INV0.i {v : VS} (h : INV0 v) : IMQ v := h.2.2.2.2.2.1
theorem INV0.b {v : VS} (h : INV0 v) : BQ 33 0 v := h.2.2.2.2.2.2.1
theorem INV0.g {v : VS} (h : INV0 v) : VB 33 v := h.2.2.2.2.2.2.2
/-- the reference's own scratch changes nothing of it -/
theorem INV0.ref {v v' : VS} (h : INV0 v) (hx : XI v') (e : ∀ j, j < 203 ∨ (203 < j ∧ j < 219) → v' j = v j) (e6 : v' 203 6 = v 203 6) (e14 : v' 203 14 = v 203 14) (e15 : v' 203 15 = v 203 15) : INV0 v' := by
  obtain ⟨_, h2, h3, h4, h5, h6, h7, h8⟩ := h
  refine ⟨hx, h2.of (fun k a b => e k (by omega)), ?_, h4.of (by rw [e 0 (by omega)]) (e 1 (by omega)) (e 2 (by omega)) (e 208 (by omega)) e6 e14 e15, h5.of (fun j a b => e j (by omega)) (fun j a b => e j (by omega)), h6.of (by rw [e 0 (by omega)]) (fun j a b => e j (by omega)) (fun j a b => e j (by omega)), h7.of (fun j a b => e j (by omega)) (fun j a b => e j (by omega)), h8.of (fun j a b => e j (by omega))⟩
  unfold WZ at *
  rw [e 73 (by omega), e 74 (by omega)]
  exact h3
theorem INV0.thr {v : VS} (h : INV0 v) : INV0 (v2 v 203 0 0) := h.ref (XI.put h.x trivial) (fun j hj => v2_row (by omega)) rfl rfl rfl
