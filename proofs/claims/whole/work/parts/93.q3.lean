/-! calls that ask about strikes, III: silence, the common hour, splits -/
theorem struckIn {A : SS} {P x u : VS} (h : QQ A P x u) {t : Int} : ∀ (f i : Nat), (i : Int) ≤ A.1 0 0 → A.1 0 0 < i + f → (mo_isStruckIn_2 f u t i = 0 ↔ ∀ j : Nat, i ≤ j → (j : Int) < A.1 0 0 → A.1 1 j ≠ t) := by
  intro f
  induction f with
  | zero => intro i h1 h2; omega
  | succ f ih =>
    intro i h1 h2
    rw [mo_isStruckIn_2, h.rm.n, show ((i : Int) + 1) = ((i + 1 : Nat) : Int) by omega]
    by_cases q : (i : Int) < A.1 0 0
    · rw [if_pos q, (h.rd q).2.2.2.2.2.1]
      by_cases q2 : A.1 1 i = t
      · rw [if_pos q2]
        exact ⟨fun g => by omega, fun g => absurd q2 (g i (Nat.le_refl _) q)⟩
      · rw [if_neg q2, ih (i + 1) (by omega) (by omega)]
        refine ⟨fun g j j1 j2 => ?_, fun g j j1 j2 => g j (by omega) j2⟩
        by_cases e : j = i
        · rw [e]; exact q2
        · exact g j (by omega) j2
    · rw [if_neg q]
      exact ⟨fun _ j j1 j2 => by omega, fun _ => rfl⟩
theorem QQ.sk {A : SS} {P x u : VS} (h : QQ A P x u) (t : Int) : mo_isStruckIn u t = 0 ↔ ∀ j : Nat, (j : Int) < A.1 0 0 → A.1 1 j ≠ t := by
  have hn := h.nb
  unfold mo_isStruckIn
  have s := struckIn h (t := t) 301 0 (by omega) (by omega)
  rw [show ((0 : Nat) : Int) = 0 from rfl] at s
  rw [s]
  exact ⟨fun g j hj => g j (by omega) hj, fun g j _ hj => g j hj⟩
theorem sil_gap {A : SS} {P x u : VS} (h : QQ A P x u) {w : Int} : ∀ (m f t : Nat) (g a r : Int), 0 ≤ r → (∀ k : Nat, k < m → ∀ j : Nat, (j : Int) < A.1 0 0 → A.1 1 j ≠ ((t + k : Nat) : Int)) → ((t + m : Nat) : Int) ≤ x 33 1 → (m = 0 → r ≤ g) →
    mo_silence_39 (m + f) u w g a r t = mo_silence_39 f u w (if g < r + m then r + m else g) (if g < r + m then (t : Int) - r else a) (r + m) ((t + m : Nat) : Int) := by
  intro m
  induction m with
  | zero =>
    intro f t g a r hr hk hS h0
    have q : ¬ g < r + ((0 : Nat) : Int) := by have := h0 rfl; omega
    rw [if_neg q, if_neg q, Nat.zero_add, show r + ((0 : Nat) : Int) = r by omega, Nat.add_zero]
  | succ m ih =>
    intro f t g a r hr hk hS _
    have hst : mo_isStruckIn u (t : Int) = 0 := (h.sk t).mpr (fun j hj => hk 0 (by omega) j hj)
    have hk' : ∀ k : Nat, k < m → ∀ j : Nat, (j : Int) < A.1 0 0 → A.1 1 j ≠ ((t + 1 + k : Nat) : Int) := fun k hk1 j hj => by
      have := hk (k + 1) (by omega) j hj
      rw [show t + 1 + k = t + (k + 1) by omega]
      exact this
    rw [show m + 1 + f = (m + f) + 1 by omega, mo_silence_39, h.bS, if_pos (show (t : Int) < x 33 1 by omega), if_pos hst, show ((t : Int) + 1) = ((t + 1 : Nat) : Int) by omega]
    by_cases q : g < r + 1
    · rw [if_pos q, if_pos (show g < r + ((m + 1 : Nat) : Int) by omega), if_pos (show g < r + ((m + 1 : Nat) : Int) by omega), ih f (t + 1) _ _ _ (by omega) hk' (by omega) (fun _ => by omega)]
      by_cases z : r + 1 < r + 1 + (m : Int)
      · rw [if_pos z, if_pos z]
        congr 1 <;> omega
      · rw [if_neg z, if_neg z]
        congr 1 <;> omega
    · rw [if_neg q, ih f (t + 1) _ _ _ (by omega) hk' (by omega) (fun _ => by omega)]
      by_cases z : g < r + 1 + (m : Int)
      · rw [if_pos z, if_pos z, if_pos (show g < r + ((m + 1 : Nat) : Int) by omega), if_pos (show g < r + ((m + 1 : Nat) : Int) by omega)]
        congr 1 <;> omega
      · rw [if_neg z, if_neg z, if_neg (show ¬ g < r + ((m + 1 : Nat) : Int) by omega), if_neg (show ¬ g < r + ((m + 1 : Nat) : Int) by omega)]
        congr 1 <;> omega
theorem sil35 {A : SS} {P x u : VS} (h : QQ A P x u) {w : Int} : ∀ (F i G nx : Nat) (l m : Int), 0 ≤ l → (i : Int) ≤ A.1 0 0 → A.1 0 0 + 1 < i + F → (nx : Int) ≤ x 33 1 → x 33 1 < nx + G → (∀ j : Nat, j < i → A.1 1 j < nx) → (∀ j : Nat, i ≤ j → (j : Int) < A.1 0 0 → (nx : Int) ≤ A.1 1 j + 1) →
    cl_silence_35 F x w l m nx i = mo_silence_39 G u w l m 0 nx := by
  intro F
  induction F with
  | zero => intro i G nx l m hl h1 h2; omega
  | succ F ih =>
    intro i G nx l m hl h1 h2 h3 h4 h5 h6
    rw [cl_silence_35, h.ra.n, toN, if_neg (by omega), show ((i : Int) + 1) = ((i + 1 : Nat) : Int) by omega]
    by_cases q : (i : Int) < A.1 0 0
    · have hs := (h.aw.st i q).1
      rw [h.pT] at hs
      rw [if_pos q, (h.rd q).1]
      have g6 := h6 i (Nat.le_refl _) q
      by_cases q1 : A.1 1 i = nx - 1
      · rw [if_neg (by omega), show A.1 1 i + 1 = (nx : Int) by omega]
        refine ih (i + 1) G nx l m hl (by omega) (by omega) h3 h4 (fun j hj => ?_) (fun j j1 j2 => h6 j (by omega) j2)
        by_cases e : j = i
        · rw [e]; omega
        · exact h5 j (by omega)
      · obtain ⟨d, hd⟩ : ∃ d : Nat, A.1 1 i = ((nx + d : Nat) : Int) := ⟨(A.1 1 i - nx).toNat, by omega⟩
        obtain ⟨G', hG⟩ : ∃ G' : Nat, G = d + (G' + 1) := ⟨G - d - 1, by omega⟩
        have hst : mo_isStruckIn u ((nx + d : Nat) : Int) ≠ 0 := fun g => (h.sk _).mp g i q hd
        have hne : ∀ k : Nat, k < d → ∀ j : Nat, (j : Int) < A.1 0 0 → A.1 1 j ≠ ((nx + k : Nat) : Int) := by
          intro k hk j hj e
          by_cases z : j < i
          · have := h5 j z; omega
          · have := h.aw.srt i j (by omega) hj; omega
        rw [hG, sil_gap h d (G' + 1) nx l m 0 (by omega) hne (by omega) (fun _ => hl), mo_silence_39, h.bS, if_pos (show ((nx + d : Nat) : Int) < x 33 1 by omega), if_neg hst]
        rw [hd, show ((nx + d : Nat) : Int) + 1 = ((nx + d + 1 : Nat) : Int) by omega, show ((nx + d : Nat) : Int) - (nx : Int) = (d : Int) by omega, show (0 : Int) + (d : Int) = (d : Int) by omega, show (nx : Int) - 0 = (nx : Int) by omega]
        have h5' : ∀ j : Nat, j < i + 1 → A.1 1 j < ((nx + d + 1 : Nat) : Int) := by
          intro j hj
          by_cases e : j = i
          · rw [e]; omega
          · have := h5 j (by omega); omega
        have h6' : ∀ j : Nat, i + 1 ≤ j → (j : Int) < A.1 0 0 → ((nx + d + 1 : Nat) : Int) ≤ A.1 1 j + 1 := by
          intro j j1 j2
          have := h.aw.srt i j (by omega) j2
          omega
        by_cases z : l < (d : Int)
        · rw [if_pos z, if_pos z, if_pos z, if_neg (show ¬ (d : Int) < 0 by omega)]
          exact ih (i + 1) G' (nx + d + 1) _ _ (by omega) (by omega) (by omega) (by omega) (by omega) h5' h6'
        · rw [if_neg z, if_neg z, if_neg z, if_neg (show ¬ l < 0 by omega)]
          exact ih (i + 1) G' (nx + d + 1) _ _ (by omega) (by omega) (by omega) (by omega) (by omega) h5' h6'
    · rw [if_neg q]
      obtain ⟨d, hd⟩ : ∃ d : Nat, x 33 1 = ((nx + d : Nat) : Int) := ⟨(x 33 1 - nx).toNat, by omega⟩
      obtain ⟨G', hG⟩ : ∃ G' : Nat, G = d + (G' + 1) := ⟨G - d - 1, by omega⟩
      have hne : ∀ k : Nat, k < d → ∀ j : Nat, (j : Int) < A.1 0 0 → A.1 1 j ≠ ((nx + k : Nat) : Int) := by
        intro k hk j hj e
        have := h5 j (by omega)
        omega
      rw [hG, sil_gap h d (G' + 1) nx l m 0 (by omega) hne (by omega) (fun _ => hl), mo_silence_39, h.bS, if_neg (show ¬ ((nx + d : Nat) : Int) < x 33 1 by omega), hd, show ((nx + d : Nat) : Int) - (nx : Int) = (d : Int) by omega, show (0 : Int) + (d : Int) = (d : Int) by omega, show (nx : Int) - 0 = (nx : Int) by omega]
      cases F with
      | zero => omega
      | succ F =>
        by_cases z : l < (d : Int)
        · rw [if_pos z, if_pos z, if_pos z, cl_silence_35, h.ra.n, if_pos (by omega)]
        · rw [if_neg z, if_neg z, if_neg z, cl_silence_35, h.ra.n, if_pos (by omega)]
theorem q_silence {v : VS} (h : INV v) (w : Int) : (mo_silence (cl_silence v w).2 w).1 = (cl_silence v w).1 ∧ INV (mo_silence (cl_silence v w).2 w).2 := by
  have q := h.qq
  have hn := q.nb
  have hS := q.S3
  obtain ⟨b0, b1, b3, b4, bL, -⟩ := h.b0
  obtain ⟨i0, i1, i3, i4, iL⟩ := h.isb
  have e := sil35 q (w := w) 302 0 301 0 0 (-1) (by omega) (by omega) (by omega) (by omega) (by omega) (fun j hj => by omega) (fun j _ hj => by have := (q.aw.st j hj).1; omega)
  rw [show ((0 : Nat) : Int) = 0 from rfl] at e
  refine q_wrap (OK := 0 < v 33 2 ∧ (0 ≤ w ∧ w ≤ 1)) (mo := fun s => mo_silence s w) (err := -2) (ac := if w = 0 then (cl_silence_35 302 (cl_asItIs v) w 0 (-1) 0 0).1 else (cl_silence_35 302 (cl_asItIs v) w 0 (-1) 0 0).2) (am := if w = 0 then (mo_silence_39 301 (mo_told (v2 (cl_asItIs v) 203 0 0)) w 0 (-1) 0 0).1 else (mo_silence_39 301 (mo_told (v2 (cl_asItIs v) 203 0 0)) w 0 (-1) 0 0).2) h ?_ (fun z => ?_) (fun z => ?_) (fun z => by rw [e])
  · unfold cl_silence
    repeat' split
    all_goals first | rfl | (exfalso; omega)
  · show mo_silence (cl_asItIs v) w = _
    unfold mo_silence
    repeat' split
    all_goals first | rfl | (exfalso; omega)
  · show mo_silence v w = _
    unfold mo_silence
    repeat' split
    all_goals first | rfl | (exfalso; omega)
/-! the hour that most have struck last -/
theorem hourOf_of {v v' : VS} (e1 : v' 203 = v 203) (e2 : v' 220 = v 220) (c t : Int) : mo_hourOf v' c t = mo_hourOf v c t := by
  have q : ∀ (f : Nat) (g i : Int), mo_hourOf_5 f v' c t g i = mo_hourOf_5 f v c t g i := by
    intro f
    induction f with
    | zero => intro g i; rfl
    | succ f ih =>
      intro g i
      have ea : ∀ k, mo_at v' i k = mo_at v i k := fun k => by unfold mo_at; rw [e2]
      rw [mo_hourOf_5, mo_hourOf_5, e1, ea, ea, ea, ih, ih]
  unfold mo_hourOf
  exact q _ _ _
theorem com2 {u : VS} {t : Int} (hC : u 210 0 ≤ 9) : ∀ (f c : Nat) (v : VS), (∀ k, k ≠ 232 → v k = u k) → u 210 0 < c + f → (∀ j : Nat, j < c → v 232 j = mo_hourOf u j t) → ∀ j : Nat, (j : Int) < u 210 0 → (mo_commonOf_2 f v t c) 232 j = mo_hourOf u j t := by
  intro f
  induction f with
  | zero => intro c v e hf h j hj; exact h j (by omega)
  | succ f ih =>
    intro c v e hf h j hj
    rw [mo_commonOf_2, e 210 (by omega), toN, show ((c : Int) + 1) = ((c + 1 : Nat) : Int) by omega]
    by_cases q : (c : Int) < u 210 0
    · rw [if_pos q]
      refine ih (c + 1) _ (fun k hk => by rw [v2_row hk]; exact e k hk) (by omega) (fun j hj => ?_) j hj
      rw [v2_eq]
      by_cases z : j = c
      · rw [if_pos ⟨rfl, z⟩, z, hourOf_of (e 203 (by omega)) (e 220 (by omega))]
      · rw [if_neg (fun g => z g.2)]
        exact h j (by omega)
    · rw [if_neg q]
      exact h j (by omega)
theorem com50 {v : VS} {g m h : Int} (hC : 0 ≤ v 210 0) : ∀ (f c : Nat), (c : Int) ≤ v 210 0 → v 210 0 < c + f → mo_commonOf_50 f v g m h (acnt (v 232) h c) c = acnt (v 232) h (v 210 0).toNat := by
  intro f
  induction f with
  | zero => intro c h1 h2; omega
  | succ f ih =>
    intro c h1 h2
    rw [mo_commonOf_50, toN, show ((c : Int) + 1) = ((c + 1 : Nat) : Int) by omega]
    by_cases q : (c : Int) < v 210 0
    · have i := ih (c + 1) (by omega) (by omega)
      rw [acnt] at i
      rw [if_pos q]
      by_cases q1 : v 232 c = h
      · rw [if_pos q1]
        rw [if_pos q1] at i
        exact i
      · rw [if_neg q1]
        rw [if_neg q1] at i
        exact i
    · rw [if_neg q, show (v 210 0).toNat = c by omega]
def FIN (cnt : Int → Int) (n : Int) (g m : Int) : Prop := (g = 0 ∧ m = 0 ∧ ∀ h : Int, 1 ≤ h → h < n → cnt h = 0) ∨ ((1 ≤ g ∧ g < n) ∧ m = cnt g ∧ 1 ≤ m ∧ ∀ h : Int, 1 ≤ h → h < n → cnt h < m ∨ (cnt h = m ∧ g ≤ h))
theorem FIN.uniq {cnt : Int → Int} {n g m g' m' : Int} (h : FIN cnt n g m) (h' : FIN cnt n g' m') : g = g' := by
  rcases h with ⟨a1, a2, a3⟩ | ⟨a1, a2, a3, a4⟩ <;> rcases h' with ⟨b1, b2, b3⟩ | ⟨b1, b2, b3, b4⟩
  · omega
  · have := a3 g' b1.1 b1.2; omega
  · have := b3 g a1.1 a1.2; omega
  · have x1 := a4 g' b1.1 b1.2
    have x2 := b4 g a1.1 a1.2
    omega
theorem com37 {v : VS} {cnt : Int → Int} (hc0 : ∀ h, 0 ≤ cnt h) (he : ∀ g m h : Int, mo_commonOf_50 10 v g m h 0 0 = cnt h) : ∀ (f : Nat) (g m h : Int), 1 ≤ h → h ≤ 100 → 100 < h + f → FIN cnt h g m → ∃ m', FIN cnt 100 (mo_commonOf_37 f v g m h) m' := by
  intro f
  induction f with
  | zero => intro g m h h1 h2 h3 _; omega
  | succ f ih =>
    intro g m h h1 h2 h3 hF
    rw [mo_commonOf_37, he]
    by_cases q : 99 < h
    · rw [if_pos q]
      rw [show h = 100 by omega] at hF
      exact ⟨m, hF⟩
    · rw [if_neg q]
      by_cases q2 : m < cnt h
      · rw [if_pos q2]
        refine ih _ _ _ (by omega) (by omega) (by omega) ?_
        rcases hF with ⟨a1, a2, a3⟩ | ⟨a1, a2, a3, a4⟩
        · refine Or.inr ⟨by omega, rfl, by omega, fun k k1 k2 => ?_⟩
          by_cases e : k = h
          · rw [e]; exact Or.inr ⟨rfl, Int.le_refl _⟩
          · have := a3 k k1 (by omega)
            exact Or.inl (by omega)
        · refine Or.inr ⟨by omega, rfl, by omega, fun k k1 k2 => ?_⟩
          by_cases e : k = h
          · rw [e]; exact Or.inr ⟨rfl, Int.le_refl _⟩
          · have := a4 k k1 (by omega)
            exact Or.inl (by omega)
      · rw [if_neg q2]
        refine ih _ _ _ (by omega) (by omega) (by omega) ?_
        have := hc0 h
        rcases hF with ⟨a1, a2, a3⟩ | ⟨a1, a2, a3, a4⟩
        · refine Or.inl ⟨a1, a2, fun k k1 k2 => ?_⟩
          by_cases e : k = h
          · rw [e]; omega
          · exact a3 k k1 (by omega)
        · refine Or.inr ⟨by omega, a2, a3, fun k k1 k2 => ?_⟩
          by_cases e : k = h
          · rw [e]; omega
          · exact a4 k k1 (by omega)
theorem share5 {A : SS} {P x u : VS} (h : QQ A P x u) {s : Int} (hs : 0 ≤ s ∧ s < x 33 1) {H : Nat → Int} (hH : ∀ c : Nat, (c : Int) < x 33 0 → H c = mo_hourOf u c s) {g : Int} : ∀ (f c : Nat), (c : Int) ≤ x 33 0 → x 33 0 < c + f → cl_sharing_5 f x g s (acnt H g c) c = acnt H g (x 33 0).toNat := by
  intro f
  induction f with
  | zero => intro c h1 h2; omega
  | succ f ih =>
    intro c h1 h2
    rw [cl_sharing_5, show ((c : Int) + 1) = ((c + 1 : Nat) : Int) by omega]
    by_cases q : (c : Int) < x 33 0
    · have i := ih (c + 1) (by omega) (by omega)
      rw [acnt] at i
      rw [if_pos q, h.sl2 ⟨by omega, q⟩ hs, ← hH c q]
      by_cases q1 : H c = g
      · rw [if_pos q1]
        rw [if_pos q1] at i
        exact i
      · rw [if_neg q1]
        rw [if_neg q1, show acnt H g c + 0 = acnt H g c by omega] at i
        exact i
    · rw [if_neg q, show (x 33 0).toNat = c by omega]
def CFN (H : Nat → Int) (C : Nat) (cnt : Int → Int) (j : Nat) (g m : Int) : Prop := (g = 0 ∧ m = 0 ∧ ∀ c : Nat, c < j → H c = 0) ∨ ((∃ c : Nat, c < C ∧ H c = g) ∧ g ≠ 0 ∧ m = cnt g ∧ 1 ≤ m ∧ ∀ c : Nat, c < j → H c = 0 ∨ cnt (H c) < m ∨ (cnt (H c) = m ∧ g ≤ H c))
theorem acnt_mem {H : Nat → Int} {g : Int} {C c : Nat} (hc : c < C) (e : H c = g) : 1 ≤ acnt H g C := by
  obtain ⟨z1, z2⟩ := acnt_0 (f := H) (c := g) C
  by_cases q : acnt H g C = 0
  · exact absurd e (z2.mp q c hc)
  · omega
theorem com7 {A : SS} {P x u : VS} (h : QQ A P x u) {s : Int} (hs : 0 ≤ s ∧ s < x 33 1) {H : Nat → Int} (hH : ∀ c : Nat, (c : Int) < x 33 0 → H c = mo_hourOf u c s) : ∀ (f j : Nat) (g m : Int), (j : Int) ≤ x 33 0 → x 33 0 < j + f → CFN H (x 33 0).toNat (fun g => acnt H g (x 33 0).toNat) j g m → ∃ m', CFN H (x 33 0).toNat (fun g => acnt H g (x 33 0).toNat) (x 33 0).toNat (cl_commonHour_7 f x s g m j) m' := by
  have h9 := h.C9
  have hsh : ∀ g, cl_sharing x g s = acnt H g (x 33 0).toNat := fun g => share5 h hs hH 10 0 (by omega) (by omega)
  intro f
  induction f with
  | zero => intro j g m h1 h2; omega
  | succ f ih =>
    intro j g m h1 h2 hF
    rw [cl_commonHour_7, show ((j : Int) + 1) = ((j + 1 : Nat) : Int) by omega]
    by_cases q : (j : Int) < x 33 0
    · rw [if_pos q, h.sl2 ⟨by omega, q⟩ hs, ← hH j q, hsh]
      have mem := acnt_mem (H := H) (g := H j) (C := (x 33 0).toNat) (c := j) (by omega) rfl
      have upd : (∀ c : Nat, c < j → H c = 0 ∨ acnt H (H c) (x 33 0).toNat < acnt H (H j) (x 33 0).toNat ∨ (acnt H (H c) (x 33 0).toNat = acnt H (H j) (x 33 0).toNat ∧ H j ≤ H c)) → H j ≠ 0 → CFN H (x 33 0).toNat (fun g => acnt H g (x 33 0).toNat) (j + 1) (H j) (acnt H (H j) (x 33 0).toNat) := by
        intro y1 y2
        refine Or.inr ⟨⟨j, by omega, rfl⟩, y2, rfl, mem, fun c hc => ?_⟩
        by_cases e : c = j
        · rw [e]; exact Or.inr (Or.inr ⟨rfl, Int.le_refl _⟩)
        · exact y1 c (by omega)
      by_cases z0 : H j = 0
      · rw [if_pos z0]
        refine ih (j + 1) _ _ (by omega) (by omega) ?_
        rcases hF with ⟨a1, a2, a3⟩ | ⟨a1, a2, a3, a4, a5⟩
        · refine Or.inl ⟨a1, a2, fun c hc => ?_⟩
          by_cases e : c = j
          · rw [e]; exact z0
          · exact a3 c (by omega)
        · refine Or.inr ⟨a1, a2, a3, a4, fun c hc => ?_⟩
          by_cases e : c = j
          · rw [e]; exact Or.inl z0
          · exact a5 c (by omega)
      · rw [if_neg z0]
        by_cases z1 : m < acnt H (H j) (x 33 0).toNat
        · rw [if_pos z1]
          refine ih (j + 1) _ _ (by omega) (by omega) (upd (fun c hc => ?_) z0)
          rcases hF with ⟨a1, a2, a3⟩ | ⟨a1, a2, a3, a4, a5⟩
          · exact Or.inl (a3 c hc)
          · have := a5 c hc
            dsimp only at this
            omega
        · rw [if_neg z1]
          by_cases z2 : acnt H (H j) (x 33 0).toNat = m
          · rw [if_pos z2]
            by_cases z3 : H j < g
            · rw [if_pos z3]
              refine ih (j + 1) _ _ (by omega) (by omega) (upd (fun c hc => ?_) z0)
              rcases hF with ⟨a1, a2, a3⟩ | ⟨a1, a2, a3, a4, a5⟩
              · exact Or.inl (a3 c hc)
              · have := a5 c hc
                dsimp only at this
                omega
            · rw [if_neg z3]
              refine ih (j + 1) _ _ (by omega) (by omega) ?_
              rcases hF with ⟨a1, a2, a3⟩ | ⟨a1, a2, a3, a4, a5⟩
              · exact absurd z2 (by omega)
              · refine Or.inr ⟨a1, a2, a3, a4, fun c hc => ?_⟩
                by_cases e : c = j
                · rw [e]; exact Or.inr (Or.inr ⟨z2, by omega⟩)
                · exact a5 c (by omega)
          · rw [if_neg z2]
            refine ih (j + 1) _ _ (by omega) (by omega) ?_
            rcases hF with ⟨a1, a2, a3⟩ | ⟨a1, a2, a3, a4, a5⟩
            · omega
            · refine Or.inr ⟨a1, a2, a3, a4, fun c hc => ?_⟩
              by_cases e : c = j
              · rw [e]; exact Or.inr (Or.inl (by show acnt H (H j) (x 33 0).toNat < m; omega))
              · exact a5 c (by omega)
    · rw [if_neg q]
      rw [show (x 33 0).toNat = j by omega] at hF ⊢
      exact ⟨m, hF⟩
/-- the common hour, of class and reference; and who shares it -/
theorem l_common {A : SS} {P x u : VS} (h : QQ A P x u) {s : Int} (hs : 0 ≤ s ∧ s < x 33 1) : ∃ H : Nat → Int, (∀ c : Nat, (c : Int) < x 33 0 → H c = mo_hourOf u c s) ∧ (∀ c : Nat, (c : Int) < x 33 0 → (mo_commonOf u s).2 232 c = H c) ∧ (mo_commonOf u s).1 = cl_commonHour x s ∧ (cl_commonHour x s = 0 → ∀ c : Nat, (c : Int) < x 33 0 → H c = 0) := by
  have h9 := h.C9
  have bC := h.bC
  refine ⟨fun c => mo_hourOf u c s, fun c _ => rfl, fun c hc => ?_, ?_⟩
  · show (mo_commonOf_2 10 u s 0) 232 c = _
    exact com2 (by omega) 10 0 u (fun k _ => rfl) (by omega) (fun j hj => by omega) c (by omega)
  · obtain ⟨m1, c1⟩ := com7 h hs (H := fun c => mo_hourOf u c s) (fun c _ => rfl) 10 0 0 0 (by omega) (by omega) (Or.inl ⟨rfl, rfl, fun c hc => by omega⟩)
    have e1 : cl_commonHour_7 10 x s 0 0 ((0 : Nat) : Int) = cl_commonHour x s := rfl
    rw [e1] at c1
    have w210 : (mo_commonOf_2 10 u s 0) 210 = u 210 := o_mo_commonOf_2 (by omega)
    have hrow : ∀ c : Nat, (c : Int) < x 33 0 → (mo_commonOf_2 10 u s 0) 232 c = mo_hourOf u c s := fun c hc => com2 (by omega) 10 0 u (fun k _ => rfl) (by omega) (fun j hj => by omega) c (by omega)
    have ecn : ∀ g, acnt ((mo_commonOf_2 10 u s 0) 232) g (x 33 0).toNat = acnt (fun c : Nat => mo_hourOf u c s) g (x 33 0).toNat := fun g => acnt_congr _ (fun i hi => hrow i (by omega))
    have he : ∀ g m k : Int, mo_commonOf_50 10 (mo_commonOf_2 10 u s 0) g m k 0 0 = acnt (fun c : Nat => mo_hourOf u c s) k (x 33 0).toNat := by
      intro g m k
      have := com50 (v := mo_commonOf_2 10 u s 0) (g := g) (m := m) (h := k) (by rw [w210]; omega) 10 0 (by rw [w210]; omega) (by rw [w210]; omega)
      rw [w210, bC] at this
      rw [← ecn k]
      exact this
    obtain ⟨m2, c2⟩ := com37 (v := mo_commonOf_2 10 u s 0) (cnt := fun k => acnt (fun c : Nat => mo_hourOf u c s) k (x 33 0).toNat) (fun k => (acnt_0 _).1) he 101 0 0 1 (by omega) (by omega) (by omega) (Or.inl ⟨rfl, rfl, fun k k1 k2 => by omega⟩)
    have c3 : FIN (fun k => acnt (fun c : Nat => mo_hourOf u c s) k (x 33 0).toNat) 100 (cl_commonHour x s) m1 := by
      rcases c1 with ⟨a1, a2, a3⟩ | ⟨⟨c, a0, a0'⟩, a2, a3, a4, a5⟩
      · refine Or.inl ⟨a1, a2, fun k k1 k2 => (acnt_0 _).2.mpr (fun i hi => ?_)⟩
        have t : mo_hourOf u i s = 0 := a3 i hi
        rw [t]
        omega
      · have hb := h.hb c s
        have a0' : mo_hourOf u c s = cl_commonHour x s := a0'
        rw [a0'] at hb
        refine Or.inr ⟨by omega, a3, a4, fun k k1 k2 => ?_⟩
        obtain ⟨z1, z2⟩ := acnt_0 (f := fun c : Nat => mo_hourOf u c s) (c := k) (x 33 0).toNat
        by_cases y : acnt (fun c : Nat => mo_hourOf u c s) k (x 33 0).toNat = 0
        · exact Or.inl (by show acnt (fun c : Nat => mo_hourOf u c s) k (x 33 0).toNat < m1; omega)
        · have : ∃ i : Nat, i < (x 33 0).toNat ∧ mo_hourOf u i s = k := by
            apply Classical.byContradiction
            intro g
            exact y (z2.mpr (fun i hi e => g ⟨i, hi, e⟩))
          obtain ⟨i, i1, i2⟩ := this
          have g := a5 i i1
          dsimp only at g
          rw [i2] at g
          rcases g with g | g | g
          · omega
          · exact Or.inl g
          · exact Or.inr g
    refine ⟨c2.uniq c3, fun g c hc => ?_⟩
    rcases c1 with ⟨a1, a2, a3⟩ | ⟨-, a2, -⟩
    · exact a3 c (by omega)
    · exact absurd g a2
theorem INV.com {v : VS} (h : INV v) {s : Int} (hs : R32 s) : INV (mo_commonOf (mo_told (v2 v 203 0 0)) s).2 := by
  have h1 := h.told
  have r : ∀ k, k ≠ 232 → (mo_commonOf (mo_told (v2 v 203 0 0)) s).2 k = (mo_told (v2 v 203 0 0)) k := fun k hk => by
    show (mo_commonOf_2 10 (mo_told (v2 v 203 0 0)) s 0) k = _
    exact o_mo_commonOf_2 (by omega)
  exact h1.ref (i_mo_commonOf h1.i.x hs) (fun j hj => r j (by omega)) (by rw [r 203 (by omega)]) (by rw [r 203 (by omega)]) (by rw [r 203 (by omega)])
theorem q_common {v : VS} (h : INV v) (s : Int) (hR : R32 s) : (mo_common (cl_common v s).2 s).1 = (cl_common v s).1 ∧ INV (mo_common (cl_common v s).2 s).2 := by
  have q := h.qq
  obtain ⟨b0, b1, b3, b4, bL, -⟩ := h.b0
  obtain ⟨i0, i1, i3, i4, iL⟩ := h.isb
  unfold cl_common
  by_cases z : 0 ≤ s ∧ s < v 33 1
  · rw [if_pos z]
    obtain ⟨H, h1, h2, h3, h4⟩ := l_common q (s := s) (by rw [INV.is33]; exact z)
    show (mo_common (cl_asItIs v) s).1 = _ ∧ INV (mo_common (cl_asItIs v) s).2
    unfold mo_common
    rw [i1, if_pos z]
    exact ⟨h3, h.is.com hR⟩
  · rw [if_neg z]
    show (mo_common v s).1 = _ ∧ INV (mo_common v s).2
    unfold mo_common
    rw [b1, if_neg z]
    exact ⟨rfl, h.thr⟩
theorem stray32 {v : VS} {g : Int} : ∀ (f c : Nat) (n : Int), (c : Int) ≤ v 210 0 → v 210 0 < c + f →
    ((∀ j : Nat, c ≤ j → (j : Int) < v 210 0 → v 232 j = 0) → mo_strayed_32 f v g n c = n + (v 210 0 - c)) ∧
    (g ≠ 0 → mo_strayed_32 f v g n c = n + (v 210 0 - c) - (acnt (v 232) g (v 210 0).toNat - acnt (v 232) g c)) := by
  intro f
  induction f with
  | zero => intro c n h1 h2; omega
  | succ f ih =>
    intro c n h1 h2
    rw [mo_strayed_32, toN, show ((c : Int) + 1) = ((c + 1 : Nat) : Int) by omega, show n + 0 = n by omega]
    by_cases q : (c : Int) < v 210 0
    · rw [if_pos q]
      by_cases z0 : v 232 c = 0
      · rw [if_pos z0]
        obtain ⟨j1, j2⟩ := ih (c + 1) (n + 1) (by omega) (by omega)
        refine ⟨fun y => by rw [j1 (fun j a b => y j (by omega) b)]; omega, fun y => ?_⟩
        rw [j2 y, acnt, if_neg (by omega)]
        omega
      · rw [if_neg z0]
        by_cases z1 : v 232 c = g
        · rw [if_pos z1]
          obtain ⟨j1, j2⟩ := ih (c + 1) n (by omega) (by omega)
          refine ⟨fun y => absurd (y c (Nat.le_refl _) q) z0, fun y => ?_⟩
          rw [j2 y, acnt, if_pos z1]
          omega
        · rw [if_neg z1]
          obtain ⟨j1, j2⟩ := ih (c + 1) (n + 1) (by omega) (by omega)
          refine ⟨fun y => absurd (y c (Nat.le_refl _) q) z0, fun y => ?_⟩
          rw [j2 y, acnt, if_neg z1]
          omega
    · rw [if_neg q, show (v 210 0).toNat = c by omega]
      exact ⟨fun _ => by omega, fun _ => by omega⟩
theorem q_strayed {v : VS} (h : INV v) (s : Int) (hR : R32 s) : (mo_strayed (cl_strayed v s).2 s).1 = (cl_strayed v s).1 ∧ INV (mo_strayed (cl_strayed v s).2 s).2 := by
  have q := h.qq
  have h9 := q.C9
  obtain ⟨b0, b1, b3, b4, bL, -⟩ := h.b0
  obtain ⟨i0, i1, i3, i4, iL⟩ := h.isb
  unfold cl_strayed
  by_cases z : 0 ≤ s ∧ s < v 33 1
  · rw [if_pos z]
    have z' : 0 ≤ s ∧ s < (cl_asItIs v) 33 1 := by rw [INV.is33]; exact z
    obtain ⟨H, h1, h2, h3, h4⟩ := l_common q (s := s) z'
    have em : mo_strayed (cl_asItIs v) s = (mo_strayed_32 10 (mo_commonOf (mo_told (v2 (cl_asItIs v) 203 0 0)) s).2 (mo_commonOf (mo_told (v2 (cl_asItIs v) 203 0 0)) s).1 0 0, (mo_commonOf (mo_told (v2 (cl_asItIs v) 203 0 0)) s).2) := by
      unfold mo_strayed
      rw [i1, if_pos z]
    have w210 : (mo_commonOf (mo_told (v2 (cl_asItIs v) 203 0 0)) s).2 210 0 = (cl_asItIs v) 33 0 := by
      show (mo_commonOf_2 10 (mo_told (v2 (cl_asItIs v) 203 0 0)) s 0) 210 0 = _
      rw [o_mo_commonOf_2 (by omega)]
      exact q.bC
    obtain ⟨w, hw⟩ : ∃ w, w = (mo_commonOf (mo_told (v2 (cl_asItIs v) 203 0 0)) s).2 := ⟨_, rfl⟩
    have hinv := h.is.com hR
    rw [h3, ← hw] at em
    rw [← hw] at w210 h2 hinv
    obtain ⟨s1, s2⟩ := stray32 (v := w) (g := cl_commonHour (cl_asItIs v) s) 10 0 0 (by omega) (by omega)
    rw [show ((0 : Nat) : Int) = 0 from rfl, w210] at s1 s2
    by_cases y : cl_commonHour (cl_asItIs v) s = 0
    · rw [if_pos y]
      show (mo_strayed (cl_asItIs v) s).1 = _ ∧ INV (mo_strayed (cl_asItIs v) s).2
      rw [em]
      refine ⟨?_, hinv⟩
      dsimp only
      rw [s1 (fun j _ hj => by rw [h2 j hj]; exact h4 y j hj)]
      omega
    · rw [if_neg y]
      show (mo_strayed (cl_asItIs v) s).1 = _ ∧ INV (mo_strayed (cl_asItIs v) s).2
      rw [em]
      refine ⟨?_, hinv⟩
      have e1 : cl_sharing (cl_asItIs v) (cl_commonHour (cl_asItIs v) s) s = acnt H (cl_commonHour (cl_asItIs v) s) ((cl_asItIs v) 33 0).toNat := share5 q z' h1 10 0 (by omega) (by omega)
      have e2 : acnt (w 232) (cl_commonHour (cl_asItIs v) s) ((cl_asItIs v) 33 0).toNat = acnt H (cl_commonHour (cl_asItIs v) s) ((cl_asItIs v) 33 0).toNat := acnt_congr _ (fun i hi => h2 i (by omega))
      have e3 : acnt (w 232) (cl_commonHour (cl_asItIs v) s) 0 = 0 := rfl
      dsimp only
      rw [s2 y, e1, e2, e3]
      omega
  · rw [if_neg z]
    show (mo_strayed v s).1 = _ ∧ INV (mo_strayed v s).2
    unfold mo_strayed
    rw [b1, if_neg z]
    exact ⟨rfl, h.thr⟩
