set_option maxHeartbeats 4000000 in
theorem sim_run {K : PK} {X : PX} {D : va_G} {aC : Nat → ClassId} {ad : Nat → Nat} {base : Nat} {H0 : Heap} {l : Launch} (hK : KOK K) (had : ∀ k : Nat, k < 1000 → ad k = base + k) (hH0 : H0.size = base) (hbl : ad 100000 < base) : ∀ f : Nat, RunAt K X D aC ad base H0 l f := by
  intro f
  induction f with
  | zero => intro d n pc lo st h r h' e; cases e
  | succ f ih =>
    intro d n pc lo st h r h' e p ev R s m args below meth c Q c0 s0 nL hx hb hKK hts hown hml hname hsz hag hRf hRl hrc hrs hc0 hs0 hend H locs ls hH hl hq
    have hwf : ∀ (k : Nat) (x : PE), h.2.2 k = some x → k < 1000 ∧ pe_ok x := fun k x hk => ⟨by have := (hH.2.2.2 k x hk).1.1; have := hH.2.1; omega, (hH.2.2.2 k x hk).1.2⟩
    unfold pm_run at e
    split at e
    · cases e
    · rename_i q hq'
      obtain ⟨J, hd, hln, hr, hcf⟩ := chk_at hK hq'
      split at e
      · cases e
      · rename_i fr' h1 hs
        have mono := run_mono _ _ _ _ _ _ e
        have hn := step_n hs
        obtain ⟨n', pc', lo', st'⟩ := fr'
        have hn : n' = n := hn
        subst hn
        have kk := ih d n' pc' lo' st' h1 r h' e p ev R s m args below meth c Q c0 s0 nL hx hb hKK hts hown hml hname hsz hag hRf hRl hrc hrs (by have := step_mono hs; omega) (by have := step_mono hs; omega) hend
        exact (sim_step hx hb had hKK hts hown hml hname hsz hag hH0 hbl (by omega) (by omega) hwf hd hln hr hcf hs (by omega) (by omega) hc0 hs0 kk).2 H locs ls hH hl hq
      · rename_i r' hs
        cases e
        exact hend pc q.2.2 lo st J hd hln (ret_at hr hs) H locs ls hH hl hq
      · rename_i k As fr' hs
        obtain ⟨i, qq, hqq, rfl, hlt, hcase⟩ := call_at hr hs
        have hlink := link_of (args := args) hKK hts hqq hlt
        split at e
        · cases e
        · rename_i d'
          split at e
          · rename_i v hv
            have mono := run_mono _ _ _ _ _ _ e
            rcases hcase with ⟨rfl, hI, hc⟩ | ⟨rfl, hI, hc⟩ | ⟨rfl, hI, hc⟩
            · exfalso
              rw [hI] at hcf
              simp only [pm_chkF, Bool.and_eq_true, decide_eq_true_eq] at hcf
              unfold pm_prim at hv
              split at hv <;> first | (cases hv; done) | (rename_i heq _ ; exact absurd (show (pm_m _).2.2.1 = 98 by rw [heq]; rfl) hcf.2.2.1) | exact absurd (show (pm_m _).2.2.1 = 98 by first | rfl | (simp only [*]; rfl)) hcf.2.2.1
            · have hln : 3 = q.2.2 := hln
              rw [← hln] at hd hc
              obtain ⟨-, rfl, hst, hna, hlay, hcat, -⟩ := pm_call_at hc
              have kk := ih (d' + 1) n (pc + 3) lo (v :: st.drop (pm_m qq.1).1) h r h' e p ev R s m args below meth c Q c0 s0 nL hx hb hKK hts hown hml hname hsz hag hRf hRl hrc hrs hc0 hs0 hend
              have hlink' : (Jvm.Cond.methodLink (pm_cn (pm_ow n)) i (pm_y qq.1)).before args s = true := by
                rcases (tf_M (pm_fi_mem hqq)).1 hlt with g | g
                · exact hts _ g.2
                · exfalso
                  have e2 : pm_tM.all (fun z => !(decide (z.2.2.2 = 1)) || !(pm_isM z.2.2.1)) = true := by decide +kernel
                  have e3 := List.all_eq_true.mp e2 _ (pm_fi_mem hqq)
                  have e4 : pm_isM qq.1 = true := by
                    unfold pm_prim at hv
                    split at hv <;> first | (cases hv; done) | (simp only [*]; rfl) | rfl
                  simp only [Bool.or_eq_true, Bool.not_eq_true', decide_eq_false_iff_not] at e3
                  rcases e3 with e3 | e3
                  · exact e3 g
                  · rw [e4] at e3; cases e3
              have hfin := sj_math hx hb hts hown hml hv hlink' hcat hd (by omega) (by omega) (by omega) (by omega) kk H locs ls hH hl hq
              have hst2 : As.reverse ++ st.drop (pm_m qq.1).1 = st := hst.symm
              rw [hst2] at hfin
              exact hfin
            · exfalso
              rw [hI] at hcf
              simp only [pm_chkF, Bool.and_eq_true, decide_eq_true_eq] at hcf
              unfold pm_prim at hv
              split at hv <;> first | (cases hv; done) | (rename_i heq _ ; exact absurd (show (pm_m _).2.2.1 = 98 by rw [heq]; rfl) hcf.2.2.1) | exact absurd (show (pm_m _).2.2.1 = 98 by first | rfl | (simp only [*]; rfl)) hcf.2.2.1
          · split at e
            · cases e
            · rename_i r1 h1 hcall
              have mono1 := run_mono _ _ _ _ _ _ hcall
              have mono := run_mono _ _ _ _ _ _ e
              have hnM : pm_isM qq.1 = false := by
                cases hM : pm_isM qq.1 with
                | false => rfl
                | true =>
                  exfalso
                  have e0 := hK.2 _ hM
                  cases f with
                  | zero => cases hcall
                  | succ f =>
                    unfold pm_run at hcall
                    have e1 : (K (pm_entry qq.1 As).1).find? (fun q => Nat.beq q.1 (pm_entry qq.1 As).2.1) = none := by
                      show (K qq.1).find? _ = none
                      rw [e0]
                      rfl
                    rw [e1] at hcall
                    cases hcall
              rcases hcase with ⟨rfl, hI, hc⟩ | ⟨rfl, hI, hc⟩ | ⟨rfl, hI, hc⟩
              · have hln : 3 = q.2.2 := hln
                rw [← hln] at hd hc
                obtain ⟨-, rfl, hst, hna, hlay, hcat, hrv⟩ := pm_call_at hc
                rcases hrv with h01 | hrv
                · omega
                rw [hI] at hcf
                simp only [pm_chkF, Bool.and_eq_true, decide_eq_true_eq, Bool.or_eq_true, hnM, Bool.false_eq_true, or_false] at hcf
                obtain ⟨b, As', rfl⟩ := recv_at hrv
                have kk := ih (d' + 1) n (pc + 3) lo (r1.toList ++ st.drop (pm_m qq.1).1) h1 r h' e p ev R s m args below meth c Q c0 s0 nL hx hb hKK hts hown hml hname hsz hag hRf hRl hrc hrs (by omega) (by omega) hend
                have hM := met_of ih hcf.2.1 hlay hcall
                have hfin := sj_callV hx hb had hKK hts hown hml hsz hag hcf.2.1 hcf.2.2.1 hcf.2.2.2 hlink hrv hM (by simpa using hna) hcat hd (by omega) (by omega) hc0 hs0 mono1.1 mono1.2 (by omega) (by omega) kk H locs ls hH hl hq
                have hst2 : (.inr (.inr (some b)) :: As').reverse ++ st.drop (pm_m qq.1).1 = st := hst.symm
                rw [hst2] at hfin
                exact hfin
              · have hln : 3 = q.2.2 := hln
                rw [← hln] at hd hc
                obtain ⟨-, rfl, hst, hna, hlay, hcat, -⟩ := pm_call_at hc
                rw [hI] at hcf
                simp only [pm_chkF, Bool.and_eq_true, decide_eq_true_eq, Bool.or_eq_true, hnM, Bool.false_eq_true, or_false] at hcf
                have kk := ih (d' + 1) n (pc + 3) lo (r1.toList ++ st.drop (pm_m qq.1).1) h1 r h' e p ev R s m args below meth c Q c0 s0 nL hx hb hKK hts hown hml hname hsz hag hRf hRl hrc hrs (by omega) (by omega) hend
                have hM := met_of ih hcf.2.1 hlay hcall
                have hfin := sj_callS hx hb hKK hts hown hml hcf.2.1 hcf.2.2 hlink hM hna hcat hd (by omega) (by omega) hc0 hs0 mono1.1 mono1.2 (by omega) (by omega) kk H locs ls hH hl hq
                have hst2 : As.reverse ++ st.drop (pm_m qq.1).1 = st := hst.symm
                rw [hst2] at hfin
                exact hfin
              · have hln : 3 = q.2.2 := hln
                rw [← hln] at hd hc
                obtain ⟨-, rfl, hst, hna, hlay, hcat, hrv⟩ := pm_call_at hc
                rcases hrv with h01 | hrv
                · omega
                rw [hI] at hcf
                simp only [pm_chkF, Bool.and_eq_true, decide_eq_true_eq, Bool.or_eq_true, hnM, Bool.false_eq_true, or_false] at hcf
                obtain ⟨b, As', rfl⟩ := recv_at hrv
                have kk := ih (d' + 1) n (pc + 3) lo (r1.toList ++ st.drop (pm_m qq.1).1) h1 r h' e p ev R s m args below meth c Q c0 s0 nL hx hb hKK hts hown hml hname hsz hag hRf hRl hrc hrs (by omega) (by omega) hend
                have hM := met_of ih hcf.2.1 hlay hcall
                have hfin := sj_callI hx hb hKK hts hown hml hcf.2.1 hcf.2.2.1 hcf.2.2.2 hlink hM (by simpa using hna) hcat hd (by omega) (by omega) hc0 hs0 mono1.1 mono1.2 (by omega) (by omega) kk H locs ls hH hl hq
                have hst2 : (.inr (.inr (some b)) :: As').reverse ++ st.drop (pm_m qq.1).1 = st := hst.symm
                rw [hst2] at hfin
                exact hfin
