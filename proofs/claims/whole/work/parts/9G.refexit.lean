/-! ===== the reference: exit ===== -/
section M63
variable {g : gg} {X : State → Prop} {t0 : Nat} {l : Launch} {M : mm} {M1 M2 : mm} {pw : Nat} {D : Nat → Prop} {ow sl : Nat → Nat} {mo : Nat} {Ki Ka : List Nat} {k : Nat} {pl : List Nat} {Z : zst} {B : List bk} {b : bk}
set_option maxRecDepth 100000 in
set_option maxHeartbeats 1000000 in
theorem R_exit (G : gc g X t0 l) (h : MI pw D ow sl M mo pl Z) (hZ : zok pw Z) (hp6 : pw ≤ 600) (hlat : Z.2.2.1 < 2 ^ 31) (hml : ∀ P ∈ Z.1, P.2.2.2.1.length ≤ 512) {xv : Int32} (k9 : Nat) (hk9 : plc Z xv = k9) : Ok g X l yy_Mo_exit cc_Mo_exit 5 (some .int) 1 22 0 0 [.ref mo, .int xv] M (fun v M' => rx RI9 RA mo M M' ∧ ((k9 < Z.1.length ∧ v = some (.int (nI (zex Z k9).2.1.1 - nI Z.2.1.1)) ∧ ri M' mo 0 = 0 ∧ MI pw D ow sl M' mo (pl.eraseIdx k9) (zex Z k9)) ∨ (¬ k9 < Z.1.length ∧ (∃ z, v = some (.int z)) ∧ ri M' mo 0 = 1 ∧ MI pw D ow sl M' mo pl Z))) := by
  refine ok_start (by decide) (Nat.le_of_ble_eq_true rfl) (by simp [Value.category]) ?_
  intro p e s m args below meth c9 x
  have R := h.1
  have hnm := znm hZ hlat
  have h8z := hZ.2.1
  by_cases hk : k9 < Z.1.length
  · have hp8 : pl.getD k9 0 < 8 := h.2.2.1.2.2 _ (getD_memN (by have := h.2.2.1.1; omega))
    have hho := zho hZ hml
    obtain ⟨⟨a1, a2, a3⟩, a4, ⟨a5, a6⟩, a7, a8⟩ := h.2.2.2.1 k9 hk
    have kk := hZ.1 _ (zget_mem hk)
    have h600 := kk.2.1.1
    have hml9 := hml _ (zget_mem hk)
    have hcp : (nI (pl.getD k9 0)).toNatClampNeg = pl.getD k9 0 := nI_clamp (by omega)
    have hpg := hZ.2.2.2.2.1
    have hct0 : ∀ w, (hnd (zget Z k9).2.2.2.2).count w ≤ Z.2.1.2.2.2 w := by
      intro w
      rcases Nat.lt_or_ge w 30 with hw9 | hw9
      · rw [hZ.2.2.2.2.2.1 w hw9]; exact zcnt_le (zget_mem hk)
      · have : (hnd (zget Z k9).2.2.2.2).count w = 0 := List.count_eq_zero.mpr (fun z => by
          have := hnd_30 kk.2.2.2.2.2.2.1 w z
          omega)
        omega
    have hlf0 : lf (zget Z k9).2.2.2.2 (fun _ => true) (zget Z k9).2.2.2.2.length 0 = hnd (zget Z k9).2.2.2.2 := by rw [lf_all (by omega), List.drop_zero]
    have k2 := kk.2.1
    have k7 := kk.2.2.2.2.2.2.1
    have hZx := zex_ok hZ hk
    have hnmx : ∀ P ∈ (zex Z k9).1, 1 ≤ P.1 ∧ P.1 < 2 ^ 31 := fun P hP => hnm P ((List.eraseIdx_sublist Z.1 k9).mem hP)
    have hl4 : ∀ (n ib : Nat) (M4 N0 : mm) (pc : pp), MI pw D ow sl N0 mo pl Z → rx RI9 RA mo M N0 → ri N0 mo 0 = 0 → ib + n = (zget Z k9).2.2.2.2.length → rx [13] [14, 15] mo N0 M4 → RQ M4 mo pc → pgd pc → (∀ w, (lf (zget Z k9).2.2.2.2 (fun _ => true) n ib).count w ≤ pc.2.2.2 w) → (lf (zget Z k9).2.2.2.2 (fun _ => true) n ib).foldl pdr pc = (hnd (zget Z k9).2.2.2.2).foldl pdr Z.2.1 → vv g 5 p l e (rm 1 22 0 0) s m args below meth c9 (MQ below (ok_Q g (fun v M' => rx RI9 RA mo M M' ∧ ((k9 < Z.1.length ∧ v = some (.int (nI (zex Z k9).2.1.1 - nI Z.2.1.1)) ∧ ri M' mo 0 = 0 ∧ MI pw D ow sl M' mo (pl.eraseIdx k9) (zex Z k9)) ∨ (¬ k9 < Z.1.length ∧ (∃ z, v = some (.int z)) ∧ ri M' mo 0 = 1 ∧ MI pw D ow sl M' mo pl Z)))) args s 0 0 (ok_F g)) 0 0 36 [some (.ref mo), some (.int xv), some (.int (nI (pl.getD k9 0))), some (.int (nI Z.2.1.1)), some (.int (nI (had (zget Z k9).2.2.2.2 ib)))] [] (M4) := by
      intro n
      induction n with
      | zero =>
        intro ib M4 N0 pc h0 F0 t_0 hib F4 hRQ hpc hct hfo
        have R4 := F4.to h0.1
        have hend : had (zget Z k9).2.2.2.2 ib = hsz (zget Z k9).2.2.2.2 := by rw [show ib = (zget Z k9).2.2.2.2.length by omega, had_len]
        have hfo2 : pc = (hnd (zget Z k9).2.2.2.2).foldl pdr Z.2.1 := hfo
        have e7 : ra M4 mo 7 (pl.getD k9 0) = nI (hsz (zget Z k9).2.2.2.2) := by rw [F4.a h0.1 (by decide) (by decide) (by decide)]; exact (h0.2.2.2.1 k9 hk).1.2.2
        have g3 : mm_i M4 7 3 mo = nI Z.1.length := (F4.i (by decide)).trans h0.2.1.2.2.1
        refine vv_iload (pc := 36) x dd_Mo_exit_36 rfl ?_
        refine vv_aload_n (pc := 38) x dd_Mo_exit_38 rfl ?_
        refine lg_Mo_16 (pc := 39) G x dd_Mo_exit_39 R4.2.2 (R4.r 7 (by decide)) ?_
        refine vv_iload_n (pc := 42) x dd_Mo_exit_42 rfl ?_
        refine vv_iald (pc := 43) x dd_Mo_exit_43 (R4.t 7 (by decide)) (in_n (N := 8) (by omega) (R4.n 7 (by decide)) (by decide)) ?_
        rw [hcp, show mm_a M4 (mm_f M4 7 7 mo) (pl.getD k9 0) = nI (hsz (zget Z k9).2.2.2.2) from e7]
        rw [hend]
        refine vv_icmp_ge (pc := 44) x dd_Mo_exit_44 (tgt := 87) (by decide) (fun h44 => ?_) (fun h44 => absurd h44 (fun z => z (nI_le (Nat.le_refl _) (by omega))))
        refine vv_aload_n (pc := 87) x dd_Mo_exit_87 rfl ?_
        refine lg_Mo_7 (pc := 88) G x dd_Mo_exit_88 R4.2.2 (R4.r 5 (by decide)) ?_
        refine vv_iload_n (pc := 91) x dd_Mo_exit_91 rfl ?_
        refine vv_iconst (pc := 92) x dd_Mo_exit_92 (0) (by decide) ?_
        refine vv_iast (pc := 93) x dd_Mo_exit_93 (R4.t 5 (by decide)) (in_n (N := 8) (by omega) (R4.n 5 (by decide)) (by decide)) ?_
        rw [hcp, show mm_sa M4 (mm_f M4 7 5 mo) (upd (mm_a M4 (mm_f M4 7 5 mo)) (pl.getD k9 0) 0) = mw M4 mo 5 (upd (ra M4 mo 5) (pl.getD k9 0) 0) from rfl]
        have F5 : rx [] [5] mo M4 (mw M4 mo 5 (upd (ra M4 mo 5) (pl.getD k9 0) 0)) := rx_mw
        have w5 : ra (mw M4 mo 5 (upd (ra M4 mo 5) (pl.getD k9 0) 0)) mo 5 = upd (ra N0 mo 5) (pl.getD k9 0) 0 := by rw [ra_mw, F4.a h0.1 (by decide) (by decide) (by decide)]
        generalize mw M4 mo 5 (upd (ra M4 mo 5) (pl.getD k9 0) 0) = M5 at *
        have R5 := F5.to R4
        refine vv_aload_n (pc := 94) x dd_Mo_exit_94 rfl ?_
        refine vv_dup (pc := 95) x dd_Mo_exit_95 rfl ?_
        refine lg_Mo_114 (pc := 96) G x dd_Mo_exit_96 R5.2.2 ?_
        rw [show mm_i M5 7 3 mo = nI Z.1.length from (F5.i (by simp)).trans g3]
        refine vv_iconst (pc := 99) x dd_Mo_exit_99 (1) (by decide) ?_
        refine vv_isub (pc := 100) x dd_Mo_exit_100 ?_
        rw [nI_dec (by omega)]
        refine lp_Mo_114 (pc := 101) G x dd_Mo_exit_101 R5.2.2 ?_
        rw [show mm_si M5 7 3 mo (nI (Z.1.length - 1)) = mi M5 mo 3 (nI (Z.1.length - 1)) from rfl]
        have F6 : rx [3, 13] [5, 14, 15] mo N0 (mi M5 mo 3 (nI (Z.1.length - 1))) := ((F4.mono (by simp) (by simp)).trans (F5.mono (by simp) (by simp))).trans (rx_mi.mono (by simp) (by simp))
        have h6 : MI pw D ow sl (mi M5 mo 3 (nI (Z.1.length - 1))) mo (pl.eraseIdx k9) (zex Z k9) := MI_ex h0 hho hk F6 ri_mi (by rw [ra_mi]; exact w5) (by
          have hq5 : RQ M5 mo pc := ⟨(F5.i (by simp)).trans hRQ.1, fun w hw => by rw [F5.a R4 (by decide) (by decide) (by decide), F5.a R4 (by decide) (by decide) (by decide)]; exact hRQ.2 w hw⟩
          refine ⟨(ri_mi_n (by decide)).trans ?_, fun w hw => ?_⟩
          · show _ = nI (pex (zget Z k9) Z.2.1).2.1
            unfold pex
            rw [← hfo2]; exact hq5.1
          · rw [ra_mi, ra_mi]
            show _ = nI ((pex (zget Z k9) Z.2.1).2.2.1 w) ∧ _ = nI ((pex (zget Z k9) Z.2.1).2.2.2 w)
            unfold pex
            rw [← hfo2]; exact hq5.2 w hw)
        have t6 : ri (mi M5 mo 3 (nI (Z.1.length - 1))) mo 0 = 0 := (F6.i (by decide)).trans t_0
        generalize mi M5 mo 3 (nI (Z.1.length - 1)) = M6 at *
        have R6 := h6.1
        refine vv_aload_n (pc := 104) x dd_Mo_exit_104 rfl ?_
        refine lv_Mo_110 (pc := 105) G x dd_Mo_exit_105 (R_free G h6 hZx.2.2.2.2.2.2 hnmx) R6.2.2 ⟨by decide, by decide⟩ (by decide) (by decide) (Nat.le_of_ble_eq_true rfl) (fun v105 M105 q105 => ?_)
        obtain ⟨rfl, hm105⟩ := q105
        have hm105 := hm105.symm
        subst hm105
        refine vv_iload_n (pc := 108) x dd_Mo_exit_108 rfl ?_
        refine vv_isub (pc := 109) x dd_Mo_exit_109 ?_
        exact vv_iret (pc := 110) x dd_Mo_exit_110 rfl (by decide) (by decide) ⟨F0.trans (F6.mono (by decide) (by decide)), Or.inl ⟨hk, rfl, t6, h6⟩⟩
      | succ n ih =>
        intro ib M4 N0 pc h0 F0 t_0 hib F4 hRQ hpc hct hfo
        have hbl9 := had_blk (B := (zget Z k9).2.2.2.2) (i := ib) (by omega)
        have bp := bsz_pos (hb (zget Z k9).2.2.2.2 ib)
        have hkb := bok_k (k2.2 ib (by omega))
        have hskip : ∀ (M4 : mm), rx [13] [14, 15] mo N0 M4 → ∀ (n2 jo : Nat), jo + n2 = bsz (hb (zget Z k9).2.2.2.2 ib) → 1 ≤ jo → vv g 5 p l e (rm 1 22 0 0) s m args below meth c9 (MQ below (ok_Q g (fun v M' => rx RI9 RA mo M M' ∧ ((k9 < Z.1.length ∧ v = some (.int (nI (zex Z k9).2.1.1 - nI Z.2.1.1)) ∧ ri M' mo 0 = 0 ∧ MI pw D ow sl M' mo (pl.eraseIdx k9) (zex Z k9)) ∨ (¬ k9 < Z.1.length ∧ (∃ z, v = some (.int z)) ∧ ri M' mo 0 = 1 ∧ MI pw D ow sl M' mo pl Z)))) args s 0 0 (ok_F g)) 0 0 36 [some (.ref mo), some (.int xv), some (.int (nI (pl.getD k9 0))), some (.int (nI Z.2.1.1)), some (.int (nI (had (zget Z k9).2.2.2.2 (ib + 1))))] [] (M4) → vv g 5 p l e (rm 1 22 0 0) s m args below meth c9 (MQ below (ok_Q g (fun v M' => rx RI9 RA mo M M' ∧ ((k9 < Z.1.length ∧ v = some (.int (nI (zex Z k9).2.1.1 - nI Z.2.1.1)) ∧ ri M' mo 0 = 0 ∧ MI pw D ow sl M' mo (pl.eraseIdx k9) (zex Z k9)) ∨ (¬ k9 < Z.1.length ∧ (∃ z, v = some (.int z)) ∧ ri M' mo 0 = 1 ∧ MI pw D ow sl M' mo pl Z)))) args s 0 0 (ok_F g)) 0 0 36 [some (.ref mo), some (.int xv), some (.int (nI (pl.getD k9 0))), some (.int (nI Z.2.1.1)), some (.int (nI (had (zget Z k9).2.2.2.2 ib + jo)))] [] (M4) := by
          intro M4 F4 n2
          have R4 := F4.to h0.1
          have e7 : ra M4 mo 7 (pl.getD k9 0) = nI (hsz (zget Z k9).2.2.2.2) := by rw [F4.a h0.1 (by decide) (by decide) (by decide)]; exact (h0.2.2.2.1 k9 hk).1.2.2
          have e12 : ra M4 mo 12 = ra N0 mo 12 := F4.a h0.1 (by decide) (by decide) (by decide)
          induction n2 with
          | zero =>
            intro jo hjo h1 hc9
            rw [show had (zget Z k9).2.2.2.2 ib + jo = had (zget Z k9).2.2.2.2 (ib + 1) by rw [had_succ (by omega)]; omega]
            exact hc9
          | succ n2 ih2 =>
            intro jo hjo h1 hc9
            have hz : mm_a M4 (mm_f M4 7 12 mo) (600 * pl.getD k9 0 + (had (zget Z k9).2.2.2.2 ib + jo)) = 0 := by
              show ra M4 mo 12 _ = 0
              rw [e12]
              exact ((h0.2.2.2.1 k9 hk).2.2.2.2 ib (by omega)).2 jo (by omega) (by omega)
            refine vv_iload (pc := 36) x dd_Mo_exit_36 rfl ?_
            refine vv_aload_n (pc := 38) x dd_Mo_exit_38 rfl ?_
            refine lg_Mo_16 (pc := 39) G x dd_Mo_exit_39 R4.2.2 (R4.r 7 (by decide)) ?_
            refine vv_iload_n (pc := 42) x dd_Mo_exit_42 rfl ?_
            refine vv_iald (pc := 43) x dd_Mo_exit_43 (R4.t 7 (by decide)) (in_n (N := 8) (by omega) (R4.n 7 (by decide)) (by decide)) ?_
            rw [hcp, show mm_a M4 (mm_f M4 7 7 mo) (pl.getD k9 0) = nI (hsz (zget Z k9).2.2.2.2) from e7]
            refine vv_icmp_ge (pc := 44) x dd_Mo_exit_44 (tgt := 87) (by decide) (fun h44 => absurd h44 (nI_ge (by omega) (by omega))) (fun h44 => ?_)
            refine vv_aload_n (pc := 47) x dd_Mo_exit_47 rfl ?_
            refine lg_Mo_31 (pc := 48) G x dd_Mo_exit_48 R4.2.2 (R4.r 12 (by decide)) ?_
            refine vv_sipush (pc := 51) x dd_Mo_exit_51 (600) (by decide) ?_
            refine vv_iload_n (pc := 54) x dd_Mo_exit_54 rfl ?_
            refine vv_imul (pc := 55) x dd_Mo_exit_55 ?_
            refine vv_iload (pc := 56) x dd_Mo_exit_56 rfl ?_
            refine vv_iadd (pc := 58) x dd_Mo_exit_58 ?_
            rw [ix600]
            refine vv_iald (pc := 59) x dd_Mo_exit_59 (R4.t 12 (by decide)) (in_n (N := 4800) (by omega) (R4.n 12 (by decide)) (by decide)) ?_
            rw [nI_clamp (n := 600 * pl.getD k9 0 + (had (zget Z k9).2.2.2.2 ib + jo)) (by omega), hz]
            refine vv_iconst (pc := 60) x dd_Mo_exit_60 (5) (by decide) ?_
            refine vv_icmp_ne (pc := 61) x dd_Mo_exit_61 (tgt := 81) (by decide) (fun h61 => ?_) (fun h61 => absurd h61 (by decide))
            refine vv_iinc (pc := 81) x dd_Mo_exit_81 rfl (nI_1 (had (zget Z k9).2.2.2.2 ib + jo)) (by decide) (ls2 := [_, _, _, _, _]) rfl ?_
            refine vv_goto (pc := 84) x dd_Mo_exit_84 (tgt := 36) (by decide) ?_
            exact ih2 (jo + 1) (by omega) (by omega) hc9
        have R4 := F4.to h0.1
        have e7 : ra M4 mo 7 (pl.getD k9 0) = nI (hsz (zget Z k9).2.2.2.2) := by rw [F4.a h0.1 (by decide) (by decide) (by decide)]; exact (h0.2.2.2.1 k9 hk).1.2.2
        have e12 : ra M4 mo 12 = ra N0 mo 12 := F4.a h0.1 (by decide) (by decide) (by decide)
        have e11 : ra M4 mo 11 = ra N0 mo 11 := F4.a h0.1 (by decide) (by decide) (by decide)
        have hkd : mm_a M4 (mm_f M4 7 12 mo) (600 * pl.getD k9 0 + had (zget Z k9).2.2.2.2 ib) = nI (hb (zget Z k9).2.2.2.2 ib).1 := by
          show ra M4 mo 12 _ = _
          rw [e12]
          exact ((h0.2.2.2.1 k9 hk).2.2.2.2 ib (by omega)).1
        have hlf : lf (zget Z k9).2.2.2.2 (fun _ => true) (n + 1) ib = if (hb (zget Z k9).2.2.2.2 ib).1 = 5 ∧ true = true then bw (zget Z k9).2.2.2.2 ib :: lf (zget Z k9).2.2.2.2 (fun _ => true) n (ib + 1) else lf (zget Z k9).2.2.2.2 (fun _ => true) n (ib + 1) := rfl
        by_cases h5 : (hb (zget Z k9).2.2.2.2 ib).1 = 5
        · rw [if_pos ⟨h5, rfl⟩] at hlf
          rw [hlf] at hct hfo
          obtain ⟨hw1, hw2⟩ := k7 ib (by omega) h5
          have hc1 : 1 ≤ pc.2.2.2 (bw (zget Z k9).2.2.2.2 ib) := by
            have := hct (bw (zget Z k9).2.2.2.2 ib)
            rw [List.count_cons_self] at this
            omega
          have hwd : mm_a M4 (mm_f M4 7 11 mo) (600 * pl.getD k9 0 + had (zget Z k9).2.2.2.2 ib) = nI (bw (zget Z k9).2.2.2.2 ib) := by
            show ra M4 mo 11 _ = _
            rw [e11]
            have h9 := (h0.2.2.2.1 k9 hk).2.2.2.1 ib (by omega) 0 bp (fun z => absurd z.2 (by decide))
            refine h9.trans ?_
            unfold bwd
            rw [if_neg (by omega)]
            exact hw1
          refine vv_iload (pc := 36) x dd_Mo_exit_36 rfl ?_
          refine vv_aload_n (pc := 38) x dd_Mo_exit_38 rfl ?_
          refine lg_Mo_16 (pc := 39) G x dd_Mo_exit_39 R4.2.2 (R4.r 7 (by decide)) ?_
          refine vv_iload_n (pc := 42) x dd_Mo_exit_42 rfl ?_
          refine vv_iald (pc := 43) x dd_Mo_exit_43 (R4.t 7 (by decide)) (in_n (N := 8) (by omega) (R4.n 7 (by decide)) (by decide)) ?_
          rw [hcp, show mm_a M4 (mm_f M4 7 7 mo) (pl.getD k9 0) = nI (hsz (zget Z k9).2.2.2.2) from e7]
          refine vv_icmp_ge (pc := 44) x dd_Mo_exit_44 (tgt := 87) (by decide) (fun h44 => absurd h44 (nI_ge (by omega) (by omega))) (fun h44 => ?_)
          refine vv_aload_n (pc := 47) x dd_Mo_exit_47 rfl ?_
          refine lg_Mo_31 (pc := 48) G x dd_Mo_exit_48 R4.2.2 (R4.r 12 (by decide)) ?_
          refine vv_sipush (pc := 51) x dd_Mo_exit_51 (600) (by decide) ?_
          refine vv_iload_n (pc := 54) x dd_Mo_exit_54 rfl ?_
          refine vv_imul (pc := 55) x dd_Mo_exit_55 ?_
          refine vv_iload (pc := 56) x dd_Mo_exit_56 rfl ?_
          refine vv_iadd (pc := 58) x dd_Mo_exit_58 ?_
          rw [ix600]
          refine vv_iald (pc := 59) x dd_Mo_exit_59 (R4.t 12 (by decide)) (in_n (N := 4800) (by omega) (R4.n 12 (by decide)) (by decide)) ?_
          rw [nI_clamp (n := 600 * pl.getD k9 0 + had (zget Z k9).2.2.2.2 ib) (by omega), hkd, h5]
          refine vv_iconst (pc := 60) x dd_Mo_exit_60 (5) (by decide) ?_
          refine vv_icmp_ne (pc := 61) x dd_Mo_exit_61 (tgt := 81) (by decide) (fun h61 => absurd h61 (fun z => z rfl)) (fun h61 => ?_)
          refine vv_aload_n (pc := 64) x dd_Mo_exit_64 rfl ?_
          refine vv_aload_n (pc := 65) x dd_Mo_exit_65 rfl ?_
          refine lg_Mo_28 (pc := 66) G x dd_Mo_exit_66 R4.2.2 (R4.r 11 (by decide)) ?_
          refine vv_sipush (pc := 69) x dd_Mo_exit_69 (600) (by decide) ?_
          refine vv_iload_n (pc := 72) x dd_Mo_exit_72 rfl ?_
          refine vv_imul (pc := 73) x dd_Mo_exit_73 ?_
          refine vv_iload (pc := 74) x dd_Mo_exit_74 rfl ?_
          refine vv_iadd (pc := 76) x dd_Mo_exit_76 ?_
          rw [ix600]
          refine vv_iald (pc := 77) x dd_Mo_exit_77 (R4.t 11 (by decide)) (in_n (N := 4800) (by omega) (R4.n 11 (by decide)) (by decide)) ?_
          rw [nI_clamp (n := 600 * pl.getD k9 0 + had (zget Z k9).2.2.2.2 ib) (by omega), hwd]
          refine lv_Mo_103 (pc := 78) G x dd_Mo_exit_78 (R_release G R4 hRQ hw2 hc1 (hpc.1.2 _) (pgd_b hpc hw2 hc1)) R4.2.2 ⟨by decide, by decide⟩ (by decide) (by decide) (Nat.le_of_ble_eq_true rfl) (fun v78 M78 q78 => ?_)
          obtain ⟨rfl, F7, hRQ7⟩ := q78
          have F47 : rx [13] [14, 15] mo N0 M78 := F4.trans F7
          have hnx := hskip M78 F47 (bsz (hb (zget Z k9).2.2.2.2 ib) - 1) 1 (by omega) (by omega) (ih (ib + 1) M78 N0 (pdr pc (bw (zget Z k9).2.2.2.2 ib)) h0 F0 t_0 (by omega) F47 hRQ7 (pdr_gd hpc hw2 hc1).1 (pdr_rem hct) hfo)
          refine vv_iinc (pc := 81) x dd_Mo_exit_81 rfl (nI_1 (had (zget Z k9).2.2.2.2 ib)) (by decide) (ls2 := [_, _, _, _, _]) rfl ?_
          refine vv_goto (pc := 84) x dd_Mo_exit_84 (tgt := 36) (by decide) ?_
          exact hnx
        · rw [if_neg (fun z => h5 z.1)] at hlf
          rw [hlf] at hct hfo
          have hnx := hskip M4 F4 (bsz (hb (zget Z k9).2.2.2.2 ib) - 1) 1 (by omega) (by omega) (ih (ib + 1) M4 N0 pc h0 F0 t_0 (by omega) F4 hRQ hpc hct hfo)
          refine vv_iload (pc := 36) x dd_Mo_exit_36 rfl ?_
          refine vv_aload_n (pc := 38) x dd_Mo_exit_38 rfl ?_
          refine lg_Mo_16 (pc := 39) G x dd_Mo_exit_39 R4.2.2 (R4.r 7 (by decide)) ?_
          refine vv_iload_n (pc := 42) x dd_Mo_exit_42 rfl ?_
          refine vv_iald (pc := 43) x dd_Mo_exit_43 (R4.t 7 (by decide)) (in_n (N := 8) (by omega) (R4.n 7 (by decide)) (by decide)) ?_
          rw [hcp, show mm_a M4 (mm_f M4 7 7 mo) (pl.getD k9 0) = nI (hsz (zget Z k9).2.2.2.2) from e7]
          refine vv_icmp_ge (pc := 44) x dd_Mo_exit_44 (tgt := 87) (by decide) (fun h44 => absurd h44 (nI_ge (by omega) (by omega))) (fun h44 => ?_)
          refine vv_aload_n (pc := 47) x dd_Mo_exit_47 rfl ?_
          refine lg_Mo_31 (pc := 48) G x dd_Mo_exit_48 R4.2.2 (R4.r 12 (by decide)) ?_
          refine vv_sipush (pc := 51) x dd_Mo_exit_51 (600) (by decide) ?_
          refine vv_iload_n (pc := 54) x dd_Mo_exit_54 rfl ?_
          refine vv_imul (pc := 55) x dd_Mo_exit_55 ?_
          refine vv_iload (pc := 56) x dd_Mo_exit_56 rfl ?_
          refine vv_iadd (pc := 58) x dd_Mo_exit_58 ?_
          rw [ix600]
          refine vv_iald (pc := 59) x dd_Mo_exit_59 (R4.t 12 (by decide)) (in_n (N := 4800) (by omega) (R4.n 12 (by decide)) (by decide)) ?_
          rw [nI_clamp (n := 600 * pl.getD k9 0 + had (zget Z k9).2.2.2.2 ib) (by omega), hkd]
          refine vv_iconst (pc := 60) x dd_Mo_exit_60 (5) (by decide) ?_
          refine vv_icmp_ne (pc := 61) x dd_Mo_exit_61 (tgt := 81) (by decide) (fun h61 => ?_) (fun h61 => absurd h61 (fun z => by have := (nI_eq (b := 5) (by omega) (by decide)).mp z; omega))
          refine vv_iinc (pc := 81) x dd_Mo_exit_81 rfl (nI_1 (had (zget Z k9).2.2.2.2 ib)) (by decide) (ls2 := [_, _, _, _, _]) rfl ?_
          refine vv_goto (pc := 84) x dd_Mo_exit_84 (tgt := 36) (by decide) ?_
          exact hnx
    refine vv_aload_n (pc := 0) x dd_Mo_exit_0 rfl ?_
    refine vv_iload_n (pc := 1) x dd_Mo_exit_1 rfl ?_
    refine lv_Mo_120 (pc := 2) G x dd_Mo_exit_2 (R_place G h hZ.2.2.1 hnm k9 hk9) R.2.2 ⟨by decide, by decide⟩ (by decide) (by decide) (Nat.le_of_ble_eq_true rfl) (fun v2 M2 q2 => ?_)
    obtain ⟨rfl, hm2⟩ := q2
    have hm2 := hm2.symm
    subst hm2
    rw [show (if k9 < Z.1.length then nI (pl.getD k9 0) else (-1 : Int32)) = nI (pl.getD k9 0) from if_pos hk]
    refine vv_istore_n (pc := 5) x dd_Mo_exit_5 (by decide) (ls2 := [_, _, _, none, none]) rfl ?_
    refine vv_aload_n (pc := 6) x dd_Mo_exit_6 rfl ?_
    refine vv_iload_n (pc := 7) x dd_Mo_exit_7 rfl ?_
    refine vv_if_ge (pc := 8) x dd_Mo_exit_8 (tgt := 15) (by decide) (fun h8 => ?_) (fun h8 => absurd h8 (fun z => z (nI_pos' (by omega))))
    refine vv_iconst (pc := 15) x dd_Mo_exit_15 (0) (by decide) ?_
    refine lp_Mo_62 (pc := 16) G x dd_Mo_exit_16 R.2.2 ?_
    have F_N0 : rx RI9 RA mo M (mi M mo 0 0) := rx_mi.mono (by decide) (by simp)
    have t_N0 : ri (mi M mo 0 0) mo 0 = 0 := ri_mi
    have h_N0 : MI pw D ow sl (mi M mo 0 0) mo pl Z := MI_scr h (rx_mi.mono (by decide) (by simp))
    rw [show mm_si M 7 0 mo 0 = mi M mo 0 0 from rfl]
    generalize mi M mo 0 0 = N0 at *
    have R_N0 := h_N0.1
    refine vv_aload_n (pc := 19) x dd_Mo_exit_19 rfl ?_
    refine lg_Mo_62 (pc := 20) G x dd_Mo_exit_20 R_N0.2.2 ?_
    rw [show mm_i N0 7 0 mo = 0 from t_N0]
    refine vv_if_eq (pc := 23) x dd_Mo_exit_23 (tgt := 28) (by decide) (fun h23 => ?_) (fun h23 => absurd h23 (fun z => z rfl))
    refine vv_aload_n (pc := 28) x dd_Mo_exit_28 rfl ?_
    refine lv_Mo_110 (pc := 29) G x dd_Mo_exit_29 (R_free G h_N0 hZ.2.2.2.2.2.2 hnm) R_N0.2.2 ⟨by decide, by decide⟩ (by decide) (by decide) (Nat.le_of_ble_eq_true rfl) (fun v29 M29 q29 => ?_)
    obtain ⟨rfl, hm29⟩ := q29
    have hm29 := hm29.symm
    subst hm29
    refine vv_istore_n (pc := 32) x dd_Mo_exit_32 (by decide) (ls2 := [_, _, _, _, none]) rfl ?_
    refine vv_iconst (pc := 33) x dd_Mo_exit_33 (0) (by decide) ?_
    refine vv_istore (pc := 34) x dd_Mo_exit_34 (by decide) (ls2 := [_, _, _, _, _]) rfl ?_
    have h0 := hl4 (zget Z k9).2.2.2.2.length 0 N0 N0 Z.2.1 h_N0 F_N0 t_N0 (by omega) rx.rf h_N0.2.2.2.2.2 hpg (by rw [hlf0]; exact hct0) (by rw [hlf0])
    rw [had_0] at h0
    exact h0
  · refine vv_aload_n (pc := 0) x dd_Mo_exit_0 rfl ?_
    refine vv_iload_n (pc := 1) x dd_Mo_exit_1 rfl ?_
    refine lv_Mo_120 (pc := 2) G x dd_Mo_exit_2 (R_place G h hZ.2.2.1 hnm k9 hk9) R.2.2 ⟨by decide, by decide⟩ (by decide) (by decide) (Nat.le_of_ble_eq_true rfl) (fun v2 M2 q2 => ?_)
    obtain ⟨rfl, hm2⟩ := q2
    have hm2 := hm2.symm
    subst hm2
    rw [show (if k9 < Z.1.length then nI (pl.getD k9 0) else (-1 : Int32)) = -1 from if_neg hk]
    refine vv_istore_n (pc := 5) x dd_Mo_exit_5 (by decide) (ls2 := [_, _, _, none, none]) rfl ?_
    refine vv_aload_n (pc := 6) x dd_Mo_exit_6 rfl ?_
    refine vv_iload_n (pc := 7) x dd_Mo_exit_7 rfl ?_
    refine vv_if_ge (pc := 8) x dd_Mo_exit_8 (tgt := 15) (by decide) (fun h8 => absurd h8 (by decide)) (fun h8 => ?_)
    refine vv_iconst (pc := 11) x dd_Mo_exit_11 (1) (by decide) ?_
    refine vv_goto (pc := 12) x dd_Mo_exit_12 (tgt := 16) (by decide) ?_
    refine lp_Mo_62 (pc := 16) G x dd_Mo_exit_16 R.2.2 ?_
    have F_N0 : rx RI9 RA mo M (mi M mo 0 1) := rx_mi.mono (by decide) (by simp)
    have t_N0 : ri (mi M mo 0 1) mo 0 = 1 := ri_mi
    have h_N0 : MI pw D ow sl (mi M mo 0 1) mo pl Z := MI_scr h (rx_mi.mono (by decide) (by simp))
    rw [show mm_si M 7 0 mo 1 = mi M mo 0 1 from rfl]
    generalize mi M mo 0 1 = N0 at *
    have R_N0 := h_N0.1
    refine vv_aload_n (pc := 19) x dd_Mo_exit_19 rfl ?_
    refine lg_Mo_62 (pc := 20) G x dd_Mo_exit_20 R_N0.2.2 ?_
    rw [show mm_i N0 7 0 mo = 1 from t_N0]
    refine vv_if_eq (pc := 23) x dd_Mo_exit_23 (tgt := 28) (by decide) (fun h23 => absurd h23 (by decide)) (fun h23 => ?_)
    refine vv_iconst (pc := 26) x dd_Mo_exit_26 (0) (by decide) ?_
    exact vv_iret (pc := 27) x dd_Mo_exit_27 rfl (by decide) (by decide) ⟨F_N0, Or.inr ⟨hk, ⟨_, rfl⟩, t_N0, h_N0⟩⟩
end M63
