/-! calls that ask about strikes, I -/
theorem q_wrap {OK : Prop} [Decidable OK] {v : VS} {cl : Int × VS} {mo : VS → Int × VS} {ac err : Int} {am : Int} (h : INV v) (ec : cl = if OK then (ac, cl_asItIs v) else (err, v)) (e1 : OK → mo (cl_asItIs v) = (am, mo_told (v2 (cl_asItIs v) 203 0 0))) (e0 : ¬ OK → mo v = (err, v2 v 203 0 0)) (ok : OK → am = ac) : (mo cl.2).1 = cl.1 ∧ INV (mo cl.2).2 := by
  by_cases z : OK
  · rw [if_pos z] at ec
    subst ec
    show (mo (cl_asItIs v)).1 = ac ∧ INV (mo (cl_asItIs v)).2
    rw [e1 z]
    exact ⟨ok z, h.is.told⟩
  · rw [if_neg z] at ec
    subst ec
    show (mo v).1 = err ∧ INV (mo v).2
    rw [e0 z]
    exact ⟨rfl, h.thr⟩
theorem INV.isb {v : VS} (h : INV v) : (cl_asItIs v) 210 0 = v 33 0 ∧ (cl_asItIs v) 210 1 = v 33 1 ∧ (cl_asItIs v) 210 3 = v 37 0 ∧ (cl_asItIs v) 210 4 = v 42 0 ∧ (cl_asItIs v) 209 0 = v 33 2 := by
  obtain ⟨b0, b1, b3, b4, bL, -⟩ := h.b0
  rw [is_r (by omega), is_r (by omega)]
  exact ⟨b0, b1, b3, b4, bL⟩
theorem INV.is33 {v : VS} : (cl_asItIs v) 33 = v 33 := is_r (by omega)
theorem INV.pos {v : VS} (h : INV v) (hs : 0 < v 33 1) : 1 ≤ v 33 0 := by
  have h2 : 0 ≤ v 33 2 ∧ v 33 2 ≤ 2001 := h.i.x 33 2
  by_cases q : v 33 2 = 0
  · have := (h.i.g.nil q).2.1
    omega
  · exact (h.i.g.pos (by omega)).1
theorem s_mo_when : ∀ (f : Nat) (v : VS) (c i : Int), (mo_when_57 f v c i).2 = v := by
  intro f
  induction f with
  | zero => intro v c i; rfl
  | succ f ih =>
    intro v c i
    rw [mo_when_57]
    repeat' split
    all_goals first | rfl | exact ih _ _ _
theorem when57 {A : SS} {P x u : VS} (h : QQ A P x u) {c : Nat} (hc : c < 9) : ∀ (f i : Nat), (i : Int) ≤ A.1 0 0 → A.1 0 0 < i + f →
    ((∀ j : Nat, A.1 13 c < j → i ≤ j → (j : Int) < A.1 0 0 → A.1 2 j ≠ c) → (mo_when_57 f u c i).1 = -1) ∧
    (∀ j : Nat, A.1 13 c < j → i ≤ j → (j : Int) < A.1 0 0 → A.1 2 j = c → (∀ k : Nat, A.1 13 c < k → i ≤ k → k < j → A.1 2 k ≠ c) → (mo_when_57 f u c i).1 = A.1 1 j - mo_firstAt u c) := by
  intro f
  induction f with
  | zero => intro i h1 h2; omega
  | succ f ih =>
    intro i h1 h2
    rw [mo_when_57, h.rm.n, toN, h.f0 hc, show ((i : Int) + 1) = ((i + 1 : Nat) : Int) by omega]
    by_cases q : (i : Int) < A.1 0 0
    · obtain ⟨-, -, -, -, -, a0, a1, -⟩ := h.rd q
      obtain ⟨j1, j2⟩ := ih (i + 1) (by omega) (by omega)
      rw [if_pos q, a0, a1]
      by_cases q1 : A.1 2 i = c ∧ A.1 13 c < i
      · rw [if_pos q1.1, if_pos q1.2]
        refine ⟨fun g => absurd q1.1 (g i q1.2 (Nat.le_refl _) q), fun j g1 g2 g3 g4 g5 => ?_⟩
        by_cases e : j = i
        · rw [e]
        · exact absurd q1.1 (g5 i q1.2 (Nat.le_refl _) (by omega))
      · have key : ((∀ j : Nat, A.1 13 c < j → i ≤ j → (j : Int) < A.1 0 0 → A.1 2 j ≠ c) → (mo_when_57 f u c ((i + 1 : Nat) : Int)).1 = -1) ∧
            (∀ j : Nat, A.1 13 c < j → i ≤ j → (j : Int) < A.1 0 0 → A.1 2 j = c → (∀ k : Nat, A.1 13 c < k → i ≤ k → k < j → A.1 2 k ≠ c) → (mo_when_57 f u c ((i + 1 : Nat) : Int)).1 = A.1 1 j - mo_firstAt u c) := by
          refine ⟨fun g => j1 (fun j g1 g2 => g j g1 (by omega)), fun j g1 g2 g3 g4 g5 => ?_⟩
          have e : j ≠ i := fun e => q1 (by rw [e] at g4 g1; exact ⟨g4, g1⟩)
          exact j2 j g1 (by omega) g3 g4 (fun k k1 k2 k3 => g5 k k1 (by omega) k3)
        by_cases z1 : A.1 2 i = c
        · rw [if_pos z1, if_neg (fun g => q1 ⟨z1, g⟩)]; exact key
        · rw [if_neg z1]; exact key
    · rw [if_neg q]
      exact ⟨fun _ => rfl, fun j g1 g2 g3 => by omega⟩
theorem l_when {A : SS} {P x u : VS} (h : QQ A P x u) {c w : Int} (hc : 0 ≤ c ∧ c < x 33 0) (hw : 0 ≤ w ∧ w ≤ 2) :
    (if w = 0 then mo_firstAt u c else if w = 1 then u 228 c.toNat else (mo_when_57 301 u c 0).1) = (if cl_nextOf79 x c 0 = -1 then -1 else if w = 0 then x 80 (cl_nextOf79 x c 0).toNat else if w = 1 then x 89 c.toNat else if cl_nextOf79 x c (cl_nextOf79 x c 0 + 1) = -1 then -1 else x 80 (cl_nextOf79 x c (cl_nextOf79 x c 0 + 1)).toNat - x 80 (cl_nextOf79 x c 0).toNat) := by
  have hn := h.nb
  have hC := h.C9
  obtain ⟨c, rfl⟩ := Int.eq_ofNat_of_zero_le hc.1
  have hc9 : c < 9 := by omega
  rw [h.nx c, h.fa hc9, toN]
  have w57 := when57 h hc9 301 0 (by omega) (by omega)
  rw [show ((0 : Nat) : Int) = 0 from rfl] at w57
  obtain ⟨l10, -⟩ := h.rm.la c hc9
  rcases h.f1 c with g | ⟨g1, g2, g3, g4⟩
  · rw [if_pos g]
    have g0 : A.1 12 c = 0 := by
      rcases h.aw.b c with z | z
      · exact z
      · have := (h.aw.ye c z).2.1; omega
    obtain ⟨n1, -, -, n4⟩ := h.aw.no c g0
    rw [l10, n1]
    simp only [g, if_true]
    split
    · rfl
    · split
      · rfl
      · exact w57.1 (fun j _ _ hj => n4 j hj)
  · rw [if_neg (show ¬ A.1 13 c = -1 by omega), if_neg (show ¬ A.1 13 c = -1 by omega)]
    obtain ⟨F, hF⟩ : ∃ F : Nat, A.1 13 c = F := ⟨(A.1 13 c).toNat, by omega⟩
    have g5 : A.1 12 c = 1 := by
      rcases h.aw.b c with z | z
      · have := (h.aw.no c z).2.2.1; omega
      · exact z
    have x80 := (h.rd (i := F) (by omega)).1
    have x89 := h.ra.la 10 c (by omega) (by omega) hc9 g5
    rw [hF] at w57 g3 g4 ⊢
    rw [toN, x80]
    split
    · rfl
    · split
      · rw [l10]; exact x89.symm
      · have fa := h.fa hc9
        rw [hF, if_neg (by omega), toN] at fa
        have s := nx_spec h (c := (c : Int)) 301 (F + 1) (by omega) (by omega)
        rw [show ((F : Int) + 1) = ((F + 1 : Nat) : Int) by omega]
        unfold cl_nextOf79
        rcases s with ⟨s1, s2⟩ | ⟨j, s1, s2, s3, s4, s5⟩
        · rw [s1, if_pos rfl]
          exact w57.1 (fun j g1 _ hj => s2 j (by omega) hj)
        · rw [s1, if_neg (by omega), toN, (h.rd s3).1, w57.2 j (by omega) (by omega) s3 s4 (fun k k1 _ k3 => s5 k (by omega) k3), fa]
theorem q_when {v : VS} (h : INV v) (c w : Int) : (mo_when (cl_when v c w).2 c w).1 = (cl_when v c w).1 ∧ INV (mo_when (cl_when v c w).2 c w).2 := by
  have q := h.qq
  obtain ⟨b0, b1, b3, b4, bL, -⟩ := h.b0
  obtain ⟨i0, i1, i3, i4, iL⟩ := h.isb
  refine q_wrap (OK := (0 ≤ c ∧ c < v 33 0) ∧ (0 ≤ w ∧ w ≤ 2)) (mo := fun s => mo_when s c w) (err := -2) h ?_ (fun z => ?_) (fun z => ?_) (fun z => l_when (w := w) q (by rw [INV.is33]; exact z.1) z.2)
  · unfold cl_when
    repeat' split
    all_goals first | rfl | (exfalso; omega)
  · show mo_when (cl_asItIs v) c w = _
    unfold mo_when
    repeat' split
    all_goals first | rfl | (exfalso; omega) | (exact Prod.ext rfl (s_mo_when _ _ _ _))
  · show mo_when v c w = _
    unfold mo_when
    repeat' split
    all_goals first | rfl | (exfalso; omega)
theorem l_led {A : SS} {P x u : VS} (h : QQ A P x u) {k : Int} : ∀ (f : Nat) (a s : Int), (-1 ≤ a ∧ a < A.1 0 0) → (cl_led_33 f x k a s).1 = mo_led_37 f u k a s ∧ (cl_led_33 f x k a s).2 = x := by
  intro f
  induction f with
  | zero => intro a s _; exact ⟨rfl, rfl⟩
  | succ f ih =>
    intro a s ha
    rw [cl_led_33, mo_led_37]
    split
    · split
      · exact ⟨rfl, rfl⟩
      · rename_i z
        obtain ⟨j, rfl⟩ := Int.eq_ofNat_of_zero_le (show 0 ≤ a by omega)
        have hs := (h.aw.st j ha.2).2.2.2.1
        rw [toN, (h.rd ha.2).2.2.2.1, (h.rd ha.2).2.2.2.2.2.2.2.2.1]
        exact ih _ _ (by omega)
    · exact ⟨rfl, rfl⟩
theorem q_led {v : VS} (h : INV v) (c k : Int) : (mo_led (cl_led v c k).2 c k).1 = (cl_led v c k).1 ∧ INV (mo_led (cl_led v c k).2 c k).2 := by
  have q := h.qq
  have hC : 0 ≤ v 33 0 ∧ v 33 0 ≤ 9 := h.i.x 33 0
  obtain ⟨b0, b1, b3, b4, bL, -⟩ := h.b0
  obtain ⟨i0, i1, i3, i4, iL⟩ := h.isb
  unfold cl_led
  by_cases z1 : 0 ≤ c ∧ c < v 33 0
  · rw [if_pos z1]
    by_cases z2 : k < 0
    · rw [if_pos z2]
      show (mo_led v c k).1 = -1 ∧ INV (mo_led v c k).2
      unfold mo_led
      rw [b0, if_pos z1, if_pos z2]
      exact ⟨rfl, h.told⟩
    · rw [if_neg z2]
      obtain ⟨c, rfl⟩ := Int.eq_ofNat_of_zero_le z1.1
      have hF : -1 ≤ (arun (tP v)).1 13 c ∧ (arun (tP v)).1 13 c < (arun (tP v)).1 0 0 := by
        have := q.nb
        rcases q.f1 c with g | g <;> omega
      obtain ⟨e1, e2⟩ := l_led q (k := k) (k.toNat + 1) ((arun (tP v)).1 13 c) 0 hF
      rw [q.nx c, e2]
      show (mo_led (cl_asItIs v) c k).1 = _ ∧ INV (mo_led (cl_asItIs v) c k).2
      unfold mo_led
      rw [i0, if_pos z1, if_neg z2, toN, q.f0 (by omega)]
      exact ⟨e1.symm, h.is.told⟩
  · rw [if_neg z1]
    show (mo_led v c k).1 = -2 ∧ INV (mo_led v c k).2
    unfold mo_led
    rw [b0, if_neg z1]
    exact ⟨rfl, h.thr⟩
/-! when all agree -/
theorem ahour_nn {A : SS} {P : VS} {T C : Nat} (h : AW P T C A) {c t : Int} : ∀ i : Nat, (i : Int) ≤ A.1 0 0 → 0 ≤ ahour A c t i ∧ ahour A c t i ≤ 99 := by
  intro i
  induction i with
  | zero => intro _; exact ⟨Int.le_refl _, by show (0 : Int) ≤ 99; omega⟩
  | succ i ih =>
    intro hi
    rw [ahour]
    have := h.st i (by omega)
    split
    · omega
    · exact ih (by omega)
theorem QQ.hb {A : SS} {P x u : VS} (h : QQ A P x u) (c t : Int) : 0 ≤ mo_hourOf u c t ∧ mo_hourOf u c t ≤ 99 := by
  rw [h.ho]
  exact ahour_nn h.aw _ (by unfold aN; have := h.nb; omega)
theorem agree51_0 {u : VS} {t : Int} : ∀ (f : Nat) (c : Int), mo_agree_51 f u t 0 c = 0 := by
  intro f c
  cases f with
  | zero => rfl
  | succ f =>
    rw [mo_agree_51]
    split
    · rw [if_pos rfl]
    · rfl
theorem allAgree9 {A : SS} {P x u : VS} (h : QQ A P x u) {t : Int} (ht : 0 ≤ t ∧ t < x 33 1) : ∀ (f : Nat) (c : Int), 0 ≤ c → x 33 0 < c + f → cl_allAgree_9 f x t (mo_hourOf u 0 t) c = if mo_hourOf u 0 t = 0 then 0 else mo_agree_51 f u t 1 c := by
  intro f
  induction f with
  | zero =>
    intro c _ _
    rw [cl_allAgree_9, mo_agree_51]
    split <;> rfl
  | succ f ih =>
    intro c h0 hf
    rw [cl_allAgree_9, mo_agree_51, h.bC]
    by_cases q : c < x 33 0
    · rw [if_pos q, if_pos q, h.sl2 ⟨h0, q⟩ ht, if_neg (show ¬ ((1 : Int) = 0) by omega)]
      by_cases q2 : mo_hourOf u c t = mo_hourOf u 0 t
      · rw [if_pos q2, if_pos q2]
        exact ih _ (by omega) (by omega)
      · rw [if_neg q2, if_neg q2, agree51_0]
        split <;> rfl
    · rw [if_neg q, if_neg q]
theorem agree18 {A : SS} {P x u : VS} (h : QQ A P x u) (hC : 1 ≤ x 33 0) : ∀ (f : Nat) (t : Int), 0 ≤ t → (cl_agree_18 f x t).1 = (mo_agree_23 f u t).1 ∧ (cl_agree_18 f x t).2 = x ∧ (mo_agree_23 f u t).2 = u := by
  have h9 := h.C9
  intro f
  induction f with
  | zero => intro t _; exact ⟨rfl, rfl, rfl⟩
  | succ f ih =>
    intro t h0
    rw [cl_agree_18, mo_agree_23, h.bS]
    by_cases q : t < x 33 1
    · have hb := h.hb 0 t
      have e : cl_allAgree x t = if mo_hourOf u 0 t = 0 then 0 else mo_agree_51 10 u t 1 1 := by
        unfold cl_allAgree
        rw [h.sl2 (by omega) ⟨h0, q⟩]
        exact allAgree9 h ⟨h0, q⟩ 10 1 (by omega) (by omega)
      rw [if_pos q, if_pos q, e]
      by_cases q2 : mo_hourOf u 0 t = 0
      · rw [if_pos q2, if_pos rfl, if_neg (by omega), agree51_0, if_pos rfl]
        exact ih _ (by omega)
      · rw [if_neg q2, if_pos (show 0 < mo_hourOf u 0 t by omega)]
        by_cases q3 : mo_agree_51 10 u t 1 1 = 0
        · rw [if_pos q3, if_pos q3]
          exact ih _ (by omega)
        · rw [if_neg q3, if_neg q3]
          exact ⟨rfl, rfl, rfl⟩
    · rw [if_neg q, if_neg q]
      exact ⟨rfl, rfl, rfl⟩
theorem q_agree {v : VS} (h : INV v) (s : Int) : (mo_agree (cl_agree v s).2 s).1 = (cl_agree v s).1 ∧ INV (mo_agree (cl_agree v s).2 s).2 := by
  have q := h.qq
  obtain ⟨b0, b1, b3, b4, bL, -⟩ := h.b0
  obtain ⟨i0, i1, i3, i4, iL⟩ := h.isb
  by_cases z : 0 ≤ s ∧ s < v 33 1
  · obtain ⟨e1, e2, e3⟩ := agree18 q (by rw [INV.is33]; exact h.pos (by omega)) 301 s z.1
    unfold cl_agree
    rw [if_pos z, e2]
    show (mo_agree (cl_asItIs v) s).1 = _ ∧ INV (mo_agree (cl_asItIs v) s).2
    unfold mo_agree
    rw [i1, if_pos z, e3]
    exact ⟨e1.symm, h.is.told⟩
  · unfold cl_agree
    rw [if_neg z]
    show (mo_agree v s).1 = _ ∧ INV (mo_agree v s).2
    unfold mo_agree
    rw [b1, if_neg z]
    exact ⟨rfl, h.thr⟩
/-! the strikes of an hour -/
theorem eo_spec {A : SS} {P x u : VS} (h : QQ A P x u) {c : Int} : ∀ (f i : Nat), (i : Int) ≤ A.1 0 0 → A.1 0 0 < i + f →
    (cl_earliestOf79_2 f x c i = -1 ∧ ∀ j : Nat, i ≤ j → (j : Int) < A.1 0 0 → A.1 3 j ≠ c) ∨ (∃ j : Nat, cl_earliestOf79_2 f x c i = j ∧ i ≤ j ∧ (j : Int) < A.1 0 0 ∧ A.1 3 j = c ∧ ∀ k : Nat, i ≤ k → k < j → A.1 3 k ≠ c) := by
  intro f
  induction f with
  | zero => intro i h1 h2; omega
  | succ f ih =>
    intro i h1 h2
    rw [cl_earliestOf79_2, h.ra.n, toN, show ((i : Int) + 1) = ((i + 1 : Nat) : Int) by omega]
    by_cases q : (i : Int) < A.1 0 0
    · rw [if_pos q, (h.rd q).2.2.1]
      by_cases q2 : A.1 3 i = c
      · rw [if_pos q2]
        exact Or.inr ⟨i, rfl, Nat.le_refl _, q, q2, fun k a b => by omega⟩
      · rw [if_neg q2]
        rcases ih (i + 1) (by omega) (by omega) with ⟨g1, g2⟩ | ⟨j, g1, g2, g3, g4, g5⟩
        · refine Or.inl ⟨g1, fun j a b => ?_⟩
          by_cases e : j = i
          · rw [e]; exact q2
          · exact g2 j (by omega) b
        · refine Or.inr ⟨j, g1, by omega, g3, g4, fun k a b => ?_⟩
          by_cases e : k = i
          · rw [e]; exact q2
          · exact g5 k (by omega) b
    · rw [if_neg q]
      exact Or.inl ⟨rfl, fun j a b => by omega⟩
theorem lo_spec {A : SS} {P x u : VS} (h : QQ A P x u) {c : Int} : ∀ (f : Nat) (i : Int), -1 ≤ i → i < A.1 0 0 → i + 1 < f →
    (cl_latestOf79_7 f x c i = -1 ∧ ∀ j : Nat, (j : Int) ≤ i → A.1 3 j ≠ c) ∨ (∃ j : Nat, cl_latestOf79_7 f x c i = j ∧ (j : Int) ≤ i ∧ A.1 3 j = c ∧ ∀ k : Nat, j < k → (k : Int) ≤ i → A.1 3 k ≠ c) := by
  intro f
  induction f with
  | zero => intro i h0 h1 h2; omega
  | succ f ih =>
    intro i h0 h1 h2
    rw [cl_latestOf79_7]
    by_cases q : i < 0
    · rw [if_pos q]
      exact Or.inl ⟨rfl, fun j a => by omega⟩
    · rw [if_neg q]
      obtain ⟨m, rfl⟩ := Int.eq_ofNat_of_zero_le (show 0 ≤ i by omega)
      rw [toN, (h.rd h1).2.2.1]
      by_cases q2 : A.1 3 m = c
      · rw [if_pos q2]
        exact Or.inr ⟨m, rfl, Int.le_refl _, q2, fun k a b => by omega⟩
      · rw [if_neg q2]
        rcases ih ((m : Int) + (-1)) (by omega) (by omega) (by omega) with ⟨g1, g2⟩ | ⟨j, g1, g2, g4, g5⟩
        · refine Or.inl ⟨g1, fun j a => ?_⟩
          by_cases e : j = m
          · rw [e]; exact q2
          · exact g2 j (by omega)
        · refine Or.inr ⟨j, g1, by omega, g4, fun k a b => ?_⟩
          by_cases e : k = m
          · rw [e]; exact q2
          · exact g5 k a (by omega)
theorem acnt_0 {f : Nat → Int} {c : Int} : ∀ n : Nat, 0 ≤ acnt f c n ∧ (acnt f c n = 0 ↔ ∀ i : Nat, i < n → f i ≠ c) := by
  intro n
  induction n with
  | zero => exact ⟨Int.le_refl _, fun _ i hi => by omega, fun _ => rfl⟩
  | succ n ih =>
    rw [acnt]
    obtain ⟨i1, i2⟩ := ih
    by_cases q : f n = c
    · rw [if_pos q]
      refine ⟨by omega, fun g => by omega, fun g => absurd q (g n (by omega))⟩
    · rw [if_neg q]
      refine ⟨by omega, fun g i hi => ?_, fun g => ?_⟩
      · by_cases e : i = n
        · rw [e]; exact q
        · exact i2.mp (by omega) i (by omega)
      · have := i2.mpr (fun i hi => g i (by omega))
        omega
theorem times4 {A : SS} {P x u : VS} (h : QQ A P x u) {c : Int} : ∀ (f i : Nat), (i : Int) ≤ A.1 0 0 → A.1 0 0 < i + f → cl_timesOf79_4 f x c (acnt (A.1 3) c i) i = acnt (A.1 3) c (aN A) := by
  intro f
  induction f with
  | zero => intro i h1 h2; omega
  | succ f ih =>
    intro i h1 h2
    rw [cl_timesOf79_4, h.ra.n, toN, show ((i : Int) + 1) = ((i + 1 : Nat) : Int) by omega]
    by_cases q : (i : Int) < A.1 0 0
    · have g := ih (i + 1) (by omega) (by omega)
      rw [acnt] at g
      rw [if_pos q, (h.rd q).2.2.1]
      by_cases q1 : A.1 3 i = c
      · rw [if_pos q1]
        rw [if_pos q1] at g
        exact g
      · rw [if_neg q1]
        rw [if_neg q1, show acnt (A.1 3) c i + 0 = acnt (A.1 3) c i by omega] at g
        exact g
    · rw [if_neg q]
      have : aN A = i := by unfold aN; omega
      rw [this]
theorem noon50 {A : SS} {P x u : VS} (h : QQ A P x u) {c w : Int} : ∀ (f i : Nat) (a e : Int), (i : Int) ≤ A.1 0 0 → A.1 0 0 < i + f →
    (mo_noon_50 f u c w (acnt (A.1 3) c i) a e i).1 = acnt (A.1 3) c (aN A) ∧
    ((∀ j : Nat, i ≤ j → (j : Int) < A.1 0 0 → A.1 3 j ≠ c) → (mo_noon_50 f u c w (acnt (A.1 3) c i) a e i).2 = (a, e)) ∧
    (∀ j : Nat, i ≤ j → (j : Int) < A.1 0 0 → A.1 3 j = c → (∀ k : Nat, j < k → (k : Int) < A.1 0 0 → A.1 3 k ≠ c) → (mo_noon_50 f u c w (acnt (A.1 3) c i) a e i).2.2 = j) ∧
    (a ≠ -1 → (mo_noon_50 f u c w (acnt (A.1 3) c i) a e i).2.1 = a) ∧
    (a = -1 → ∀ j : Nat, i ≤ j → (j : Int) < A.1 0 0 → A.1 3 j = c → (∀ k : Nat, i ≤ k → k < j → A.1 3 k ≠ c) → (mo_noon_50 f u c w (acnt (A.1 3) c i) a e i).2.1 = j) := by
  intro f
  induction f with
  | zero => intro i a e h1 h2; omega
  | succ f ih =>
    intro i a e h1 h2
    rw [mo_noon_50, h.rm.n, show ((i : Int) + 1) = ((i + 1 : Nat) : Int) by omega]
    by_cases q : (i : Int) < A.1 0 0
    · rw [if_pos q, (h.rd q).2.2.2.2.2.2.2.1]
      by_cases q1 : A.1 3 i = c
      · have g : ∀ a' : Int, a' ≠ -1 → _ := fun a' ha' => ih (i + 1) a' (i : Int) (by omega) (by omega)
        rw [acnt, if_pos q1] at g
        rw [if_pos q1]
        have key : ∀ a' : Int, a' ≠ -1 → (a ≠ -1 → a' = a) → (a = -1 → a' = i) → _ := fun a' ha' ea eb => g a' ha'
        by_cases z : a = -1
        · rw [if_pos z]
          obtain ⟨k1, k2, k3, k4, k5⟩ := g (i : Int) (by omega)
          refine ⟨k1, fun y => absurd q1 (y i (Nat.le_refl _) q), fun j j1 j2 j3 j4 => ?_, fun y => absurd z y, fun _ j j1 j2 j3 j4 => ?_⟩
          · by_cases e1 : j = i
            · rw [e1] at j4 ⊢
              rw [k2 (fun k a b => j4 k (by omega) b)]
            · exact k3 j (by omega) j2 j3 j4
          · rw [k4 (by omega)]
            by_cases e1 : j = i
            · rw [e1]
            · exact absurd q1 (j4 i (Nat.le_refl _) (by omega))
        · rw [if_neg z]
          obtain ⟨k1, k2, k3, k4, k5⟩ := g a z
          refine ⟨k1, fun y => absurd q1 (y i (Nat.le_refl _) q), fun j j1 j2 j3 j4 => ?_, fun _ => k4 z, fun y => absurd y z⟩
          by_cases e1 : j = i
          · rw [e1] at j4 ⊢
            rw [k2 (fun k a b => j4 k (by omega) b)]
          · exact k3 j (by omega) j2 j3 j4
      · have g := ih (i + 1) a e (by omega) (by omega)
        rw [acnt, if_neg q1, show acnt (A.1 3) c i + 0 = acnt (A.1 3) c i by omega] at g
        rw [if_neg q1]
        obtain ⟨k1, k2, k3, k4, k5⟩ := g
        have ne : ∀ j : Nat, A.1 3 j = c → j ≠ i := fun j hj e => q1 (by rw [← e]; exact hj)
        refine ⟨k1, fun y => k2 (fun j a b => y j (by omega) b), fun j j1 j2 j3 j4 => k3 j (by have := ne j j3; omega) j2 j3 j4, k4, fun y j j1 j2 j3 j4 => k5 y j (by have := ne j j3; omega) j2 j3 (fun k a b => j4 k (by omega) b)⟩
    · rw [if_neg q]
      have : aN A = i := by unfold aN; omega
      rw [this]
      exact ⟨rfl, fun _ => rfl, fun j j1 j2 => by omega, fun _ => rfl, fun _ j j1 j2 => by omega⟩
theorem l_noon {A : SS} {P x u : VS} (h : QQ A P x u) {c w : Int} (hw : 0 ≤ w ∧ w ≤ 3) :
    (if w = 3 then (mo_noon_50 301 u c w 0 (-1) (-1) 0).1 else if (mo_noon_50 301 u c w 0 (-1) (-1) 0).1 = 0 then -1 else if w = 2 then mo_at u (mo_noon_50 301 u c w 0 (-1) (-1) 0).2.2 0 else mo_at u (mo_noon_50 301 u c w 0 (-1) (-1) 0).2.1 w) =
    (if w = 3 then cl_timesOf79 x c else if w = 2 then (if cl_latestOf79 x c = -1 then -1 else x 80 (cl_latestOf79 x c).toNat) else if cl_earliestOf79 x c = -1 then -1 else if w = 1 then x 81 (cl_earliestOf79 x c).toNat else x 80 (cl_earliestOf79 x c).toNat) := by
  have hn := h.nb
  have n50 := noon50 h (c := c) (w := w) 301 0 (-1) (-1) (by omega) (by omega)
  have t4 := times4 h (c := c) 301 0 (by omega) (by omega)
  have e3 := eo_spec h (c := c) 301 0 (by omega) (by omega)
  have l3 := lo_spec h (c := c) 302 (A.1 0 0 - 1) (by omega) (by omega) (by omega)
  obtain ⟨z1, z2⟩ := acnt_0 (f := A.1 3) (c := c) (aN A)
  have eN : ∀ j : Nat, (j : Int) < A.1 0 0 ↔ j < aN A := fun j => by unfold aN; omega
  rw [show ((0 : Nat) : Int) = 0 from rfl, show acnt (A.1 3) c 0 = 0 from rfl] at n50
  rw [show ((0 : Nat) : Int) = 0 from rfl, show acnt (A.1 3) c 0 = 0 from rfl] at t4
  rw [show ((0 : Nat) : Int) = 0 from rfl] at e3
  obtain ⟨n1, n2, n3, n4, n5⟩ := n50
  unfold cl_timesOf79 cl_latestOf79 cl_earliestOf79
  rw [t4, n1, h.ra.n]
  split
  · rfl
  · rename_i w3
    rcases e3 with ⟨e1, e2⟩ | ⟨j, e1, -, e4, e5, e6⟩
    · rw [if_pos (z2.mpr (fun i hi => e2 i (by omega) ((eN i).mpr hi))), e1, if_pos rfl]
      rcases l3 with ⟨l1, -⟩ | ⟨k, l1, l2, l4, -⟩
      · rw [l1, if_pos rfl]; split <;> rfl
      · exact absurd l4 (e2 k (by omega) (by omega))
    · rw [if_neg (fun g => z2.mp g j ((eN j).mp e4) e5)]
      rcases l3 with ⟨l1, l2⟩ | ⟨k, l1, l2, l4, l5⟩
      · exact absurd e5 (l2 j (by omega))
      · rw [l1, e1, if_neg (show ¬ ((k : Int) = -1) by omega), if_neg (show ¬ ((j : Int) = -1) by omega), toN, toN, n3 k (by omega) (by omega) l4 (fun m a b => l5 m a (by omega)), n5 rfl j (by omega) e4 e5 e6]
        obtain ⟨j0, j1, -, -, -, m0, m1, -⟩ := h.rd e4
        obtain ⟨k0, -, -, -, -, km0, -⟩ := h.rd (i := k) (by omega)
        rw [j0, j1, k0, km0]
        split
        · rfl
        · have hw2 : w = 0 ∨ w = 1 := by omega
          rcases hw2 with rfl | rfl
          · rw [if_neg (by omega), m0]
          · rw [if_pos rfl, m1]
theorem q_noon {v : VS} (h : INV v) (c w : Int) : (mo_noon (cl_noon v c w).2 c w).1 = (cl_noon v c w).1 ∧ INV (mo_noon (cl_noon v c w).2 c w).2 := by
  have q := h.qq
  obtain ⟨b0, b1, b3, b4, bL, -⟩ := h.b0
  obtain ⟨i0, i1, i3, i4, iL⟩ := h.isb
  refine q_wrap (OK := 0 < v 33 2 ∧ (1 ≤ c ∧ c ≤ 99) ∧ (0 ≤ w ∧ w ≤ 3)) (mo := fun s => mo_noon s c w) (err := -2) h ?_ (fun z => ?_) (fun z => ?_) (fun z => l_noon (c := c) (w := w) q z.2.2)
  · unfold cl_noon
    repeat' split
    all_goals first | rfl | (exfalso; omega)
  · show mo_noon (cl_asItIs v) c w = _
    unfold mo_noon
    repeat' split
    all_goals first | rfl | (exfalso; omega)
  · show mo_noon v c w = _
    unfold mo_noon
    repeat' split
    all_goals first | rfl | (exfalso; omega)
