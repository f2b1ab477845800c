/-! ===== the reference: a block is added ===== -/
section M59
variable {g : gg} {X : State → Prop} {t0 : Nat} {l : Launch} {M : mm} {M1 M2 : mm} {pw : Nat} {D : Nat → Prop} {ow sl : Nat → Nat} {mo : Nat} {Ki Ka : List Nat} {k : Nat} {pl : List Nat} {Z : zst} {B : List bk} {b : bk}
set_option maxRecDepth 100000 in
set_option maxHeartbeats 200000 in
theorem R_pair (G : gc g X t0 l) (h : MI pw D ow sl M mo pl Z) (hZ : zok pw Z) (hp6 : pw ≤ 600) (hlat : Z.2.2.1 < 2 ^ 31) (hml : ∀ P ∈ Z.1, P.2.2.2.1.length ≤ 512) {xv rv : Int32} (k9 : Nat) (hk9 : plc Z xv = k9) {av bv : Int32} : Ok g X l yy_Mo_pair cc_Mo_pair 7 none 7 162 0 0 [.ref mo, .int xv, .int rv, .int av, .int bv] M (fun v M' => rx RI9 RA mo M M' ∧ (((k9 < Z.1.length ∧ rok rv ∧ rok av ∧ rok bv) ∧ (zroom Z k9 2).1 = true ∧ v = none ∧ ri M' mo 0 = 0 ∧ MI pw D ow sl M' mo pl (zreg (zbk (zroom Z k9 2).2 k9 (3, [zrg (zroom Z k9 2).2 k9 av, zrg (zroom Z k9 2).2 k9 bv])) k9 rv.toNatClampNeg (tk 3 (hsz (zget (zroom Z k9 2).2 k9).2.2.2.2)))) ∨ (¬ (k9 < Z.1.length ∧ rok rv ∧ rok av ∧ rok bv) ∧ v = none ∧ ri M' mo 0 = 1 ∧ MI pw D ow sl M' mo pl Z) ∨ ((k9 < Z.1.length ∧ rok rv ∧ rok av ∧ rok bv) ∧ ¬ (zroom Z k9 2).1 = true ∧ v = none ∧ ri M' mo 0 = 2 ∧ MI pw D ow sl M' mo pl (zroom Z k9 2).2))) := by
  refine ok_start (by decide) (Nat.le_of_ble_eq_true rfl) (by simp [Value.category]) ?_
  intro p e s m args below meth c9 x
  have R := h.1
  have hnm := znm hZ hlat
  have h8z := hZ.2.1
  by_cases hk : k9 < Z.1.length
  · have hp8 : pl.getD k9 0 < 8 := h.2.2.1.2.2 _ (getD_memN (by have := h.2.2.1.1; omega))
    by_cases hr : rok rv
    · by_cases ha : rok av
      · by_cases hb9 : rok bv
        · have hho := zho hZ hml
          obtain ⟨⟨a1, a2, a3⟩, a4, ⟨a5, a6⟩, a7, a8⟩ := h.2.2.2.1 k9 hk
          have kk := hZ.1 _ (zget_mem hk)
          have h600 := kk.2.1.1
          have hml9 := hml _ (zget_mem hk)
          have hcp : (nI (pl.getD k9 0)).toNatClampNeg = pl.getD k9 0 := nI_clamp (by omega)
          obtain ⟨-, hj_j9, ej_j9⟩ := rok_in hr
          have gj_j9 := a4 rv.toNatClampNeg hj_j9
          generalize hq_j9 : rv.toNatClampNeg = j9 at *
          have hra := ha
          have hrb := hb9
          obtain ⟨-, hja, eja⟩ := rok_in ha
          obtain ⟨-, hjb, ejb⟩ := rok_in hb9
          have hZ1 := zroom_ok (n := 2) hZ hk
          have hfit0 := zroom_fit (Z := Z) (i := k9) (n := 2) hk
          have hzl := zroom_len (Z := Z) (i := k9) (n := 2)
          have hml1 := zroom_ml2 (n := 2) hml hk
          have hlat1 := zroom_lat (Z := Z) (i := k9) (n := 2)
          have hRRr : zroom Z k9 (2) = zroom Z k9 (2) := rfl
          generalize hRR : zroom Z k9 (2) = RR at *
          obtain ⟨ok2, Z1⟩ := RR
          have hZ1' : zok pw Z1 := hZ1
          have hk1 : k9 < Z1.1.length := by have hzl' : Z1.1.length = Z.1.length := hzl; omega
          have hml1' : ∀ P ∈ Z1.1, P.2.2.2.1.length ≤ 512 := hml1
          have kk1 := hZ1'.1 _ (zget_mem hk1)
          have hcap1 := cap_le hZ1' hk1
          have ga : zrg Z1 k9 av = (zget Z1 k9).2.2.1.getD av.toNatClampNeg 0 := rfl
          have gb : zrg Z1 k9 bv = (zget Z1 k9).2.2.1.getD bv.toNatClampNeg 0 := rfl
          generalize hqa : av.toNatClampNeg = ja at *
          generalize hqb : bv.toNatClampNeg = jb at *
          generalize hU : hsz (zget Z1 k9).2.2.2.2 = U at *
          generalize zrg Z1 k9 av = ta at *
          generalize zrg Z1 k9 bv = tb at *
          by_cases hc : (ok2, Z1).1 = true
          · have hfit : hsz (zget Z1 k9).2.2.2.2 + 2 ≤ (zget Z1 k9).2.1 := by rw [hU]; exact hfit0 hc
            rw [hU] at hfit
            refine vv_aload_n (pc := 0) x dd_Mo_pair_0 rfl ?_
            refine vv_iload_n (pc := 1) x dd_Mo_pair_1 rfl ?_
            refine lv_Mo_120 (pc := 2) G x dd_Mo_pair_2 (R_place G h hZ.2.2.1 hnm k9 hk9) R.2.2 ⟨by decide, by decide⟩ (by decide) (by decide) (Nat.le_of_ble_eq_true rfl) (fun v2 M2 q2 => ?_)
            obtain ⟨rfl, hm2⟩ := q2
            have hm2 := hm2.symm
            subst hm2
            rw [show (if k9 < Z.1.length then nI (pl.getD k9 0) else (-1 : Int32)) = nI (pl.getD k9 0) from if_pos hk]
            refine vv_istore (pc := 5) x dd_Mo_pair_5 (by decide) (ls2 := [_, _, _, _, _, _, none]) rfl ?_
            refine vv_aload_n (pc := 7) x dd_Mo_pair_7 rfl ?_
            refine vv_iload (pc := 8) x dd_Mo_pair_8 rfl ?_
            refine vv_if_lt (pc := 10) x dd_Mo_pair_10 (tgt := 38) (by decide) (fun h10 => absurd h10 (nI_pos (by omega))) (fun h10 => ?_)
            refine vv_aload_n (pc := 13) x dd_Mo_pair_13 rfl ?_
            refine vv_iload_n (pc := 14) x dd_Mo_pair_14 rfl ?_
            refine lv_Mo_123 (pc := 15) G x dd_Mo_pair_15 (k_rnoReg G) R.2.2 ⟨by decide, by decide⟩ (by decide) (by decide) (Nat.le_of_ble_eq_true rfl) (fun v15 M15 q15 => ?_)
            obtain ⟨rfl, hm15⟩ := q15
            have hm15 := hm15.symm
            subst hm15
            rw [show (if ¬ rv < 0 ∧ rv < 4 then (0 : Int32) else 1) = 0 from if_pos hr]
            refine vv_if_ne (pc := 18) x dd_Mo_pair_18 (tgt := 38) (by decide) (fun h18 => absurd h18 (fun z => z rfl)) (fun h18 => ?_)
            refine vv_aload_n (pc := 21) x dd_Mo_pair_21 rfl ?_
            refine vv_iload_n (pc := 22) x dd_Mo_pair_22 rfl ?_
            refine lv_Mo_123 (pc := 23) G x dd_Mo_pair_23 (k_rnoReg G) R.2.2 ⟨by decide, by decide⟩ (by decide) (by decide) (Nat.le_of_ble_eq_true rfl) (fun v23 M23 q23 => ?_)
            obtain ⟨rfl, hm23⟩ := q23
            have hm23 := hm23.symm
            subst hm23
            rw [show (if ¬ av < 0 ∧ av < 4 then (0 : Int32) else 1) = 0 from if_pos ha]
            refine vv_if_ne (pc := 26) x dd_Mo_pair_26 (tgt := 38) (by decide) (fun h26 => absurd h26 (fun z => z rfl)) (fun h26 => ?_)
            refine vv_aload_n (pc := 29) x dd_Mo_pair_29 rfl ?_
            refine vv_iload (pc := 30) x dd_Mo_pair_30 rfl ?_
            refine lv_Mo_123 (pc := 32) G x dd_Mo_pair_32 (k_rnoReg G) R.2.2 ⟨by decide, by decide⟩ (by decide) (by decide) (Nat.le_of_ble_eq_true rfl) (fun v32 M32 q32 => ?_)
            obtain ⟨rfl, hm32⟩ := q32
            have hm32 := hm32.symm
            subst hm32
            rw [show (if ¬ bv < 0 ∧ bv < 4 then (0 : Int32) else 1) = 0 from if_pos hb9]
            refine vv_if_eq (pc := 35) x dd_Mo_pair_35 (tgt := 42) (by decide) (fun h35 => ?_) (fun h35 => absurd h35 (fun z => z rfl))
            refine vv_iconst (pc := 42) x dd_Mo_pair_42 (0) (by decide) ?_
            refine lp_Mo_62 (pc := 43) G x dd_Mo_pair_43 R.2.2 ?_
            have F_N0 : rx RI9 RA mo M (mi M mo 0 0) := rx_mi.mono (by decide) (by simp)
            have t_N0 : ri (mi M mo 0 0) mo 0 = 0 := ri_mi
            have h_N0 : MI pw D ow sl (mi M mo 0 0) mo pl Z := MI_scr h (rx_mi.mono (by decide) (by simp))
            rw [show mm_si M 7 0 mo 0 = mi M mo 0 0 from rfl]
            generalize mi M mo 0 0 = N0 at *
            have R_N0 := h_N0.1
            refine vv_aload_n (pc := 46) x dd_Mo_pair_46 rfl ?_
            refine lg_Mo_62 (pc := 47) G x dd_Mo_pair_47 R_N0.2.2 ?_
            rw [show mm_i N0 7 0 mo = 0 from t_N0]
            refine vv_if_eq (pc := 50) x dd_Mo_pair_50 (tgt := 54) (by decide) (fun h50 => ?_) (fun h50 => absurd h50 (fun z => z rfl))
            refine vv_aload_n (pc := 54) x dd_Mo_pair_54 rfl ?_
            refine vv_aload_n (pc := 55) x dd_Mo_pair_55 rfl ?_
            refine vv_iload (pc := 56) x dd_Mo_pair_56 rfl ?_
            refine vv_iconst (pc := 58) x dd_Mo_pair_58 (2) (by decide) ?_
            refine lv_Mo_128 (pc := 59) G x dd_Mo_pair_59 (R_room (n := 2) G h_N0 hZ hp6 hlat hml hk (by omega) (ok2, Z1) hRR) R_N0.2.2 ⟨by decide, by decide⟩ (by decide) (by decide) (Nat.le_of_ble_eq_true rfl) (fun v59 M59 q59 => ?_)
            obtain ⟨rfl, F_R, h_R⟩ := q59
            have R_R := h_R.1
            have t_R : ri M59 mo 0 = 0 := (F_R.i (by decide)).trans t_N0
            have hho1 := zho hZ1' hml1'
            have F_R2 : rx RI9 RA mo N0 M59 := F_R.mono (by decide) (by decide)
            rw [show (if (ok2, Z1).1 = true then (1 : Int32) else 0) = 1 from if_pos hc]
            refine vv_if_eq (pc := 62) x dd_Mo_pair_62 (tgt := 69) (by decide) (fun h62 => absurd h62 (by decide)) (fun h62 => ?_)
            refine vv_iconst (pc := 65) x dd_Mo_pair_65 (0) (by decide) ?_
            refine vv_goto (pc := 66) x dd_Mo_pair_66 (tgt := 70) (by decide) ?_
            refine lp_Mo_62 (pc := 70) G x dd_Mo_pair_70 R_R.2.2 ?_
            have F_N1 : rx RI9 RA mo M59 (mi M59 mo 0 0) := rx_mi.mono (by decide) (by simp)
            have t_N1 : ri (mi M59 mo 0 0) mo 0 = 0 := ri_mi
            have h_N1 : MI pw D ow sl (mi M59 mo 0 0) mo pl Z1 := MI_scr h_R (rx_mi.mono (by decide) (by simp))
            rw [show mm_si M59 7 0 mo 0 = mi M59 mo 0 0 from rfl]
            generalize mi M59 mo 0 0 = N1 at *
            have R_N1 := h_N1.1
            refine vv_aload_n (pc := 73) x dd_Mo_pair_73 rfl ?_
            refine lg_Mo_62 (pc := 74) G x dd_Mo_pair_74 R_N1.2.2 ?_
            rw [show mm_i N1 7 0 mo = 0 from t_N1]
            refine vv_if_ne (pc := 77) x dd_Mo_pair_77 (tgt := 161) (by decide) (fun h77 => absurd h77 (fun z => z rfl)) (fun h77 => ?_)
            refine vv_aload_n (pc := 80) x dd_Mo_pair_80 rfl ?_
            refine vv_iload (pc := 81) x dd_Mo_pair_81 rfl ?_
            refine vv_iconst (pc := 83) x dd_Mo_pair_83 (3) (by decide) ?_
            refine vv_iconst (pc := 84) x dd_Mo_pair_84 (2) (by decide) ?_
            refine lv_Mo_132 (pc := 85) G x dd_Mo_pair_85 (R_open (kn := 3) (sz := 2) G h_N1 hk1 (by decide) (by rw [hU]; omega)) R_N1.2.2 ⟨by decide, by decide⟩ (by decide) (by decide) (Nat.le_of_ble_eq_true rfl) (fun v85 M85 q85 => ?_)
            obtain ⟨rfl, F_O, o7, o12, o12o⟩ := q85
            rw [hU] at o7 o12 o12o ⊢
            have R_O := F_O.to R_N1
            have F_O2 : rx RI9 RA mo N1 M85 := F_O.mono (by simp) (by decide)
            have t_O : ri M85 mo 0 = 0 := (F_O.i (by simp)).trans t_N1
            have rg : ∀ x, x < 4 → ra M85 mo 8 (4 * pl.getD k9 0 + x) = (zget Z1 k9).2.2.1.getD x 0 := fun x hx => by rw [F_O.a R_N1 (by decide) (by decide) (by decide)]; exact (h_N1.2.2.2.1 k9 hk1).2.1 x hx
            refine vv_istore (pc := 88) x dd_Mo_pair_88 (by decide) (ls2 := [_, _, _, _, _, _, _]) rfl ?_
            refine vv_aload_n (pc := 90) x dd_Mo_pair_90 rfl ?_
            refine lg_Mo_28 (pc := 91) G x dd_Mo_pair_91 R_O.2.2 (R_O.r 11 (by decide)) ?_
            refine vv_sipush (pc := 94) x dd_Mo_pair_94 (600) (by decide) ?_
            refine vv_iload (pc := 97) x dd_Mo_pair_97 rfl ?_
            refine vv_imul (pc := 99) x dd_Mo_pair_99 ?_
            refine vv_iload (pc := 100) x dd_Mo_pair_100 rfl ?_
            refine vv_iadd (pc := 102) x dd_Mo_pair_102 ?_
            rw [ix600]
            refine vv_aload_n (pc := 103) x dd_Mo_pair_103 rfl ?_
            refine lg_Mo_19 (pc := 104) G x dd_Mo_pair_104 R_O.2.2 (R_O.r 8 (by decide)) ?_
            refine vv_iconst (pc := 107) x dd_Mo_pair_107 (4) (by decide) ?_
            refine vv_iload (pc := 108) x dd_Mo_pair_108 rfl ?_
            refine vv_imul (pc := 110) x dd_Mo_pair_110 ?_
            refine vv_iload_n (pc := 111) x dd_Mo_pair_111 rfl ?_
            refine vv_iadd (pc := 112) x dd_Mo_pair_112 ?_
            rw [show (4 : Int32) * nI (pl.getD k9 0) + av = nI (4 * pl.getD k9 0 + ja) from by rw [eja]; exact ix4]
            refine vv_iald (pc := 113) x dd_Mo_pair_113 (R_O.t 8 (by decide)) (in_n (N := 32) (by omega) (R_O.n 8 (by decide)) (by decide)) ?_
            rw [nI_clamp (n := 4 * pl.getD k9 0 + ja) (by omega), show mm_a M85 (mm_f M85 7 8 mo) (4 * pl.getD k9 0 + ja) = ta from by rw [ga]; exact rg ja hja]
            refine vv_iast (pc := 114) x dd_Mo_pair_114 (R_O.t 11 (by decide)) (in_n (N := 4800) (by omega) (R_O.n 11 (by decide)) (by decide)) ?_
            rw [nI_clamp (n := 600 * pl.getD k9 0 + U) (by omega), show mm_sa M85 (mm_f M85 7 11 mo) (upd (mm_a M85 (mm_f M85 7 11 mo)) (600 * pl.getD k9 0 + U) (ta)) = mw M85 mo 11 (upd (ra M85 mo 11) (600 * pl.getD k9 0 + U) (ta)) from rfl]
            have F_W : rx [] [11] mo M85 (mw M85 mo 11 (upd (ra M85 mo 11) (600 * pl.getD k9 0 + U) (ta))) := rx_mw
            have w11 : ra (mw M85 mo 11 (upd (ra M85 mo 11) (600 * pl.getD k9 0 + U) (ta))) mo 11 = upd (ra M85 mo 11) (600 * pl.getD k9 0 + U) (ta) := ra_mw
            generalize mw M85 mo 11 (upd (ra M85 mo 11) (600 * pl.getD k9 0 + U) (ta)) = N2 at *
            have R_2 := F_W.to R_O
            refine vv_aload_n (pc := 115) x dd_Mo_pair_115 rfl ?_
            refine lg_Mo_28 (pc := 116) G x dd_Mo_pair_116 R_2.2.2 (R_2.r 11 (by decide)) ?_
            refine vv_sipush (pc := 119) x dd_Mo_pair_119 (600) (by decide) ?_
            refine vv_iload (pc := 122) x dd_Mo_pair_122 rfl ?_
            refine vv_imul (pc := 124) x dd_Mo_pair_124 ?_
            refine vv_iload (pc := 125) x dd_Mo_pair_125 rfl ?_
            refine vv_iadd (pc := 127) x dd_Mo_pair_127 ?_
            rw [ix600]
            refine vv_iconst (pc := 128) x dd_Mo_pair_128 (1) (by decide) ?_
            refine vv_iadd (pc := 129) x dd_Mo_pair_129 ?_
            rw [nI_1]
            refine vv_aload_n (pc := 130) x dd_Mo_pair_130 rfl ?_
            refine lg_Mo_19 (pc := 131) G x dd_Mo_pair_131 R_2.2.2 (R_2.r 8 (by decide)) ?_
            refine vv_iconst (pc := 134) x dd_Mo_pair_134 (4) (by decide) ?_
            refine vv_iload (pc := 135) x dd_Mo_pair_135 rfl ?_
            refine vv_imul (pc := 137) x dd_Mo_pair_137 ?_
            refine vv_iload (pc := 138) x dd_Mo_pair_138 rfl ?_
            refine vv_iadd (pc := 140) x dd_Mo_pair_140 ?_
            rw [show (4 : Int32) * nI (pl.getD k9 0) + bv = nI (4 * pl.getD k9 0 + jb) from by rw [ejb]; exact ix4]
            refine vv_iald (pc := 141) x dd_Mo_pair_141 (R_2.t 8 (by decide)) (in_n (N := 32) (by omega) (R_2.n 8 (by decide)) (by decide)) ?_
            rw [nI_clamp (n := 4 * pl.getD k9 0 + jb) (by omega), show mm_a N2 (mm_f N2 7 8 mo) (4 * pl.getD k9 0 + jb) = tb from by rw [gb]; show ra N2 mo 8 _ = _; rw [F_W.a R_O (by decide) (by decide) (by decide)]; exact rg jb hjb]
            refine vv_iast (pc := 142) x dd_Mo_pair_142 (R_2.t 11 (by decide)) (in_n (N := 4800) (by omega) (R_2.n 11 (by decide)) (by decide)) ?_
            rw [nI_clamp (n := 600 * pl.getD k9 0 + U + 1) (by omega), show mm_sa N2 (mm_f N2 7 11 mo) (upd (mm_a N2 (mm_f N2 7 11 mo)) (600 * pl.getD k9 0 + U + 1) (tb)) = mw N2 mo 11 (upd (ra N2 mo 11) (600 * pl.getD k9 0 + U + 1) (tb)) from rfl]
            have F_W2 : rx [] [11] mo M85 (mw N2 mo 11 (upd (ra N2 mo 11) (600 * pl.getD k9 0 + U + 1) (tb))) := F_W.trans rx_mw
            have v11 : ra (mw N2 mo 11 (upd (ra N2 mo 11) (600 * pl.getD k9 0 + U + 1) (tb))) mo 11 = upd (upd (ra M85 mo 11) (600 * pl.getD k9 0 + U) (ta)) (600 * pl.getD k9 0 + U + 1) (tb) := by rw [ra_mw, w11]
            generalize mw N2 mo 11 (upd (ra N2 mo 11) (600 * pl.getD k9 0 + U + 1) (tb)) = N3 at *
            have R_3 := F_W2.to R_O
            have F_13 : rx [] [7, 11, 12] mo N1 N3 := (F_O.mono (by simp) (by decide)).trans (F_W2.mono (by simp) (by decide))
            have e11 : ra M85 mo 11 = ra N1 mo 11 := F_O.a R_N1 (by decide) (by decide) (by decide)
            have s3 : ∀ k, k ∈ RA → k ≠ 11 → ra N3 mo k = ra M85 mo k := fun k h1 h2 => F_W2.a R_O h1 (by decide) (by simpa using h2)
            have hbz : bsz (3, [ta, tb]) = 2 := rfl
            have h_B := MI_blk (b := (3, [ta, tb])) (i := k9) (p' := Z1.2.1) h_N1 hho1 hk1 (by rw [hU, hbz]; omega) (F_13.mono (by simp) (by decide)) (by rw [s3 7 (by decide) (by decide), hU, hbz]; exact o7) (by rw [s3 12 (by decide) (by decide), hU, hbz]; exact o12) (by rw [s3 12 (by decide) (by decide), hU, hbz]; exact o12o) (by
              rw [v11, hU, hbz]
              intro j9 hj9 _
              rcases j9 with _ | _ | j9
              · rw [upd_ne (by omega), upd_eq (by omega)]; rfl
              · rw [upd_eq (by omega)]; rfl
              · omega) (by
              rw [v11, hU, hbz, e11]
              intro x hx
              rw [upd_ne (by omega), upd_ne (by omega)]) ⟨(F_13.i (by simp)).trans h_N1.2.2.2.2.2.1, fun w hw => by rw [F_13.a R_N1 (by decide) (by decide) (by decide), F_13.a R_N1 (by decide) (by decide) (by decide)]; exact h_N1.2.2.2.2.2.2 w hw⟩
            have hz2 : zget (zbk (Z1.1, Z1.2.1, Z1.2.2.1, Z1.2.2.2) k9 (3, [ta, tb])) k9 = ((zget Z1 k9).1, (zget Z1 k9).2.1, (zget Z1 k9).2.2.1, (zget Z1 k9).2.2.2.1, (zget Z1 k9).2.2.2.2 ++ [(3, [ta, tb])]) := zbk_get (Z := (Z1.1, Z1.2.1, Z1.2.2.1, Z1.2.2.2)) hk1
            have hok2 : ∀ P ∈ (zbk (Z1.1, Z1.2.1, Z1.2.2.1, Z1.2.2.2) k9 (3, [ta, tb])).1, hok P.2.2.2.2 ∧ P.2.2.2.1.length ≤ 512 := fun P hP => by
              rcases List.mem_or_eq_of_mem_set hP with e8 | e8
              · exact hho1 P e8
              · rw [e8]; exact ⟨hok_add kk1.2.1 (Or.inl ⟨rfl, rfl⟩) (by rw [hU, hbz]; omega), (hho1 (zget Z1 k9) (zget_mem hk1)).2⟩
            have h_G := MI_reg (t := tk 3 U) (j := j9) h_B hok2 (by rw [zbk_len]; exact hk1) hj_j9 (by rw [hz2]; exact kk1.1)
            refine vv_aload_n (pc := 143) x dd_Mo_pair_143 rfl ?_
            refine lg_Mo_19 (pc := 144) G x dd_Mo_pair_144 R_3.2.2 (R_3.r 8 (by decide)) ?_
            refine vv_iconst (pc := 147) x dd_Mo_pair_147 (4) (by decide) ?_
            refine vv_iload (pc := 148) x dd_Mo_pair_148 rfl ?_
            refine vv_imul (pc := 150) x dd_Mo_pair_150 ?_
            refine vv_iload_n (pc := 151) x dd_Mo_pair_151 rfl ?_
            refine vv_iadd (pc := 152) x dd_Mo_pair_152 ?_
            rw [show (4 : Int32) * nI (pl.getD k9 0) + rv = nI (4 * pl.getD k9 0 + j9) from by rw [ej_j9]; exact ix4]
            refine vv_bipush (pc := 153) x dd_Mo_pair_153 (8) (by decide) ?_
            refine vv_iload (pc := 155) x dd_Mo_pair_155 rfl ?_
            refine vv_imul (pc := 157) x dd_Mo_pair_157 ?_
            refine vv_iconst (pc := 158) x dd_Mo_pair_158 (3) (by decide) ?_
            refine vv_iadd (pc := 159) x dd_Mo_pair_159 ?_
            rw [show (8 : Int32) * nI U + 3 = tk 3 U from tk_eq (k := 3)]
            refine vv_iast (pc := 160) x dd_Mo_pair_160 (R_3.t 8 (by decide)) (in_n (N := 32) (by omega) (R_3.n 8 (by decide)) (by decide)) ?_
            rw [nI_clamp (n := 4 * pl.getD k9 0 + j9) (by omega)]
            exact vv_vret (pc := 161) x dd_Mo_pair_161 rfl (by decide) (by decide) ⟨((((F_N0.trans F_R2).trans F_N1).trans F_O2).trans (F_W2.mono (by simp) (by decide))).trans (rx_mw.mono (by simp) (by decide)), Or.inl ⟨⟨hk, hr, ha, hb9⟩, hc, rfl, (ri_mw (M := N3) (mo := mo) (k := 8) (k2 := 0) (f := upd (ra N3 mo 8) (4 * pl.getD k9 0 + j9) (tk 3 U))).trans ((F_W2.i (by simp)).trans t_O), h_G⟩⟩
          · refine vv_aload_n (pc := 0) x dd_Mo_pair_0 rfl ?_
            refine vv_iload_n (pc := 1) x dd_Mo_pair_1 rfl ?_
            refine lv_Mo_120 (pc := 2) G x dd_Mo_pair_2 (R_place G h hZ.2.2.1 hnm k9 hk9) R.2.2 ⟨by decide, by decide⟩ (by decide) (by decide) (Nat.le_of_ble_eq_true rfl) (fun v2 M2 q2 => ?_)
            obtain ⟨rfl, hm2⟩ := q2
            have hm2 := hm2.symm
            subst hm2
            rw [show (if k9 < Z.1.length then nI (pl.getD k9 0) else (-1 : Int32)) = nI (pl.getD k9 0) from if_pos hk]
            refine vv_istore (pc := 5) x dd_Mo_pair_5 (by decide) (ls2 := [_, _, _, _, _, _, none]) rfl ?_
            refine vv_aload_n (pc := 7) x dd_Mo_pair_7 rfl ?_
            refine vv_iload (pc := 8) x dd_Mo_pair_8 rfl ?_
            refine vv_if_lt (pc := 10) x dd_Mo_pair_10 (tgt := 38) (by decide) (fun h10 => absurd h10 (nI_pos (by omega))) (fun h10 => ?_)
            refine vv_aload_n (pc := 13) x dd_Mo_pair_13 rfl ?_
            refine vv_iload_n (pc := 14) x dd_Mo_pair_14 rfl ?_
            refine lv_Mo_123 (pc := 15) G x dd_Mo_pair_15 (k_rnoReg G) R.2.2 ⟨by decide, by decide⟩ (by decide) (by decide) (Nat.le_of_ble_eq_true rfl) (fun v15 M15 q15 => ?_)
            obtain ⟨rfl, hm15⟩ := q15
            have hm15 := hm15.symm
            subst hm15
            rw [show (if ¬ rv < 0 ∧ rv < 4 then (0 : Int32) else 1) = 0 from if_pos hr]
            refine vv_if_ne (pc := 18) x dd_Mo_pair_18 (tgt := 38) (by decide) (fun h18 => absurd h18 (fun z => z rfl)) (fun h18 => ?_)
            refine vv_aload_n (pc := 21) x dd_Mo_pair_21 rfl ?_
            refine vv_iload_n (pc := 22) x dd_Mo_pair_22 rfl ?_
            refine lv_Mo_123 (pc := 23) G x dd_Mo_pair_23 (k_rnoReg G) R.2.2 ⟨by decide, by decide⟩ (by decide) (by decide) (Nat.le_of_ble_eq_true rfl) (fun v23 M23 q23 => ?_)
            obtain ⟨rfl, hm23⟩ := q23
            have hm23 := hm23.symm
            subst hm23
            rw [show (if ¬ av < 0 ∧ av < 4 then (0 : Int32) else 1) = 0 from if_pos ha]
            refine vv_if_ne (pc := 26) x dd_Mo_pair_26 (tgt := 38) (by decide) (fun h26 => absurd h26 (fun z => z rfl)) (fun h26 => ?_)
            refine vv_aload_n (pc := 29) x dd_Mo_pair_29 rfl ?_
            refine vv_iload (pc := 30) x dd_Mo_pair_30 rfl ?_
            refine lv_Mo_123 (pc := 32) G x dd_Mo_pair_32 (k_rnoReg G) R.2.2 ⟨by decide, by decide⟩ (by decide) (by decide) (Nat.le_of_ble_eq_true rfl) (fun v32 M32 q32 => ?_)
            obtain ⟨rfl, hm32⟩ := q32
            have hm32 := hm32.symm
            subst hm32
            rw [show (if ¬ bv < 0 ∧ bv < 4 then (0 : Int32) else 1) = 0 from if_pos hb9]
            refine vv_if_eq (pc := 35) x dd_Mo_pair_35 (tgt := 42) (by decide) (fun h35 => ?_) (fun h35 => absurd h35 (fun z => z rfl))
            refine vv_iconst (pc := 42) x dd_Mo_pair_42 (0) (by decide) ?_
            refine lp_Mo_62 (pc := 43) G x dd_Mo_pair_43 R.2.2 ?_
            have F_N0 : rx RI9 RA mo M (mi M mo 0 0) := rx_mi.mono (by decide) (by simp)
            have t_N0 : ri (mi M mo 0 0) mo 0 = 0 := ri_mi
            have h_N0 : MI pw D ow sl (mi M mo 0 0) mo pl Z := MI_scr h (rx_mi.mono (by decide) (by simp))
            rw [show mm_si M 7 0 mo 0 = mi M mo 0 0 from rfl]
            generalize mi M mo 0 0 = N0 at *
            have R_N0 := h_N0.1
            refine vv_aload_n (pc := 46) x dd_Mo_pair_46 rfl ?_
            refine lg_Mo_62 (pc := 47) G x dd_Mo_pair_47 R_N0.2.2 ?_
            rw [show mm_i N0 7 0 mo = 0 from t_N0]
            refine vv_if_eq (pc := 50) x dd_Mo_pair_50 (tgt := 54) (by decide) (fun h50 => ?_) (fun h50 => absurd h50 (fun z => z rfl))
            refine vv_aload_n (pc := 54) x dd_Mo_pair_54 rfl ?_
            refine vv_aload_n (pc := 55) x dd_Mo_pair_55 rfl ?_
            refine vv_iload (pc := 56) x dd_Mo_pair_56 rfl ?_
            refine vv_iconst (pc := 58) x dd_Mo_pair_58 (2) (by decide) ?_
            refine lv_Mo_128 (pc := 59) G x dd_Mo_pair_59 (R_room (n := 2) G h_N0 hZ hp6 hlat hml hk (by omega) (ok2, Z1) hRR) R_N0.2.2 ⟨by decide, by decide⟩ (by decide) (by decide) (Nat.le_of_ble_eq_true rfl) (fun v59 M59 q59 => ?_)
            obtain ⟨rfl, F_R, h_R⟩ := q59
            have R_R := h_R.1
            have t_R : ri M59 mo 0 = 0 := (F_R.i (by decide)).trans t_N0
            have hho1 := zho hZ1' hml1'
            have F_R2 : rx RI9 RA mo N0 M59 := F_R.mono (by decide) (by decide)
            rw [show (if (ok2, Z1).1 = true then (1 : Int32) else 0) = 0 from if_neg hc]
            refine vv_if_eq (pc := 62) x dd_Mo_pair_62 (tgt := 69) (by decide) (fun h62 => ?_) (fun h62 => absurd h62 (fun z => z rfl))
            refine vv_iconst (pc := 69) x dd_Mo_pair_69 (2) (by decide) ?_
            refine lp_Mo_62 (pc := 70) G x dd_Mo_pair_70 R_R.2.2 ?_
            have F_N1 : rx RI9 RA mo M59 (mi M59 mo 0 2) := rx_mi.mono (by decide) (by simp)
            have t_N1 : ri (mi M59 mo 0 2) mo 0 = 2 := ri_mi
            have h_N1 : MI pw D ow sl (mi M59 mo 0 2) mo pl Z1 := MI_scr h_R (rx_mi.mono (by decide) (by simp))
            rw [show mm_si M59 7 0 mo 2 = mi M59 mo 0 2 from rfl]
            generalize mi M59 mo 0 2 = N1 at *
            have R_N1 := h_N1.1
            refine vv_aload_n (pc := 73) x dd_Mo_pair_73 rfl ?_
            refine lg_Mo_62 (pc := 74) G x dd_Mo_pair_74 R_N1.2.2 ?_
            rw [show mm_i N1 7 0 mo = 2 from t_N1]
            refine vv_if_ne (pc := 77) x dd_Mo_pair_77 (tgt := 161) (by decide) (fun h77 => ?_) (fun h77 => absurd h77 (by decide))
            exact vv_vret (pc := 161) x dd_Mo_pair_161 rfl (by decide) (by decide) ⟨(F_N0.trans F_R2).trans F_N1, Or.inr (Or.inr ⟨⟨hk, hr, ha, hb9⟩, hc, rfl, t_N1, h_N1⟩)⟩
        · refine vv_aload_n (pc := 0) x dd_Mo_pair_0 rfl ?_
          refine vv_iload_n (pc := 1) x dd_Mo_pair_1 rfl ?_
          refine lv_Mo_120 (pc := 2) G x dd_Mo_pair_2 (R_place G h hZ.2.2.1 hnm k9 hk9) R.2.2 ⟨by decide, by decide⟩ (by decide) (by decide) (Nat.le_of_ble_eq_true rfl) (fun v2 M2 q2 => ?_)
          obtain ⟨rfl, hm2⟩ := q2
          have hm2 := hm2.symm
          subst hm2
          rw [show (if k9 < Z.1.length then nI (pl.getD k9 0) else (-1 : Int32)) = nI (pl.getD k9 0) from if_pos hk]
          refine vv_istore (pc := 5) x dd_Mo_pair_5 (by decide) (ls2 := [_, _, _, _, _, _, none]) rfl ?_
          refine vv_aload_n (pc := 7) x dd_Mo_pair_7 rfl ?_
          refine vv_iload (pc := 8) x dd_Mo_pair_8 rfl ?_
          refine vv_if_lt (pc := 10) x dd_Mo_pair_10 (tgt := 38) (by decide) (fun h10 => absurd h10 (nI_pos (by omega))) (fun h10 => ?_)
          refine vv_aload_n (pc := 13) x dd_Mo_pair_13 rfl ?_
          refine vv_iload_n (pc := 14) x dd_Mo_pair_14 rfl ?_
          refine lv_Mo_123 (pc := 15) G x dd_Mo_pair_15 (k_rnoReg G) R.2.2 ⟨by decide, by decide⟩ (by decide) (by decide) (Nat.le_of_ble_eq_true rfl) (fun v15 M15 q15 => ?_)
          obtain ⟨rfl, hm15⟩ := q15
          have hm15 := hm15.symm
          subst hm15
          rw [show (if ¬ rv < 0 ∧ rv < 4 then (0 : Int32) else 1) = 0 from if_pos hr]
          refine vv_if_ne (pc := 18) x dd_Mo_pair_18 (tgt := 38) (by decide) (fun h18 => absurd h18 (fun z => z rfl)) (fun h18 => ?_)
          refine vv_aload_n (pc := 21) x dd_Mo_pair_21 rfl ?_
          refine vv_iload_n (pc := 22) x dd_Mo_pair_22 rfl ?_
          refine lv_Mo_123 (pc := 23) G x dd_Mo_pair_23 (k_rnoReg G) R.2.2 ⟨by decide, by decide⟩ (by decide) (by decide) (Nat.le_of_ble_eq_true rfl) (fun v23 M23 q23 => ?_)
          obtain ⟨rfl, hm23⟩ := q23
          have hm23 := hm23.symm
          subst hm23
          rw [show (if ¬ av < 0 ∧ av < 4 then (0 : Int32) else 1) = 0 from if_pos ha]
          refine vv_if_ne (pc := 26) x dd_Mo_pair_26 (tgt := 38) (by decide) (fun h26 => absurd h26 (fun z => z rfl)) (fun h26 => ?_)
          refine vv_aload_n (pc := 29) x dd_Mo_pair_29 rfl ?_
          refine vv_iload (pc := 30) x dd_Mo_pair_30 rfl ?_
          refine lv_Mo_123 (pc := 32) G x dd_Mo_pair_32 (k_rnoReg G) R.2.2 ⟨by decide, by decide⟩ (by decide) (by decide) (Nat.le_of_ble_eq_true rfl) (fun v32 M32 q32 => ?_)
          obtain ⟨rfl, hm32⟩ := q32
          have hm32 := hm32.symm
          subst hm32
          rw [show (if ¬ bv < 0 ∧ bv < 4 then (0 : Int32) else 1) = 1 from if_neg hb9]
          refine vv_if_eq (pc := 35) x dd_Mo_pair_35 (tgt := 42) (by decide) (fun h35 => absurd h35 (by decide)) (fun h35 => ?_)
          refine vv_iconst (pc := 38) x dd_Mo_pair_38 (1) (by decide) ?_
          refine vv_goto (pc := 39) x dd_Mo_pair_39 (tgt := 43) (by decide) ?_
          refine lp_Mo_62 (pc := 43) G x dd_Mo_pair_43 R.2.2 ?_
          have F_N0 : rx RI9 RA mo M (mi M mo 0 1) := rx_mi.mono (by decide) (by simp)
          have t_N0 : ri (mi M mo 0 1) mo 0 = 1 := ri_mi
          have h_N0 : MI pw D ow sl (mi M mo 0 1) mo pl Z := MI_scr h (rx_mi.mono (by decide) (by simp))
          rw [show mm_si M 7 0 mo 1 = mi M mo 0 1 from rfl]
          generalize mi M mo 0 1 = N0 at *
          have R_N0 := h_N0.1
          refine vv_aload_n (pc := 46) x dd_Mo_pair_46 rfl ?_
          refine lg_Mo_62 (pc := 47) G x dd_Mo_pair_47 R_N0.2.2 ?_
          rw [show mm_i N0 7 0 mo = 1 from t_N0]
          refine vv_if_eq (pc := 50) x dd_Mo_pair_50 (tgt := 54) (by decide) (fun h50 => absurd h50 (by decide)) (fun h50 => ?_)
          exact vv_vret (pc := 53) x dd_Mo_pair_53 rfl (by decide) (by decide) ⟨F_N0, Or.inr (Or.inl ⟨(fun z => by first | exact hk z.1 | exact hr z.2.1 | exact ha z.2.2.1 | exact hb9 z.2.2.2), rfl, t_N0, h_N0⟩)⟩
      · refine vv_aload_n (pc := 0) x dd_Mo_pair_0 rfl ?_
        refine vv_iload_n (pc := 1) x dd_Mo_pair_1 rfl ?_
        refine lv_Mo_120 (pc := 2) G x dd_Mo_pair_2 (R_place G h hZ.2.2.1 hnm k9 hk9) R.2.2 ⟨by decide, by decide⟩ (by decide) (by decide) (Nat.le_of_ble_eq_true rfl) (fun v2 M2 q2 => ?_)
        obtain ⟨rfl, hm2⟩ := q2
        have hm2 := hm2.symm
        subst hm2
        rw [show (if k9 < Z.1.length then nI (pl.getD k9 0) else (-1 : Int32)) = nI (pl.getD k9 0) from if_pos hk]
        refine vv_istore (pc := 5) x dd_Mo_pair_5 (by decide) (ls2 := [_, _, _, _, _, _, none]) rfl ?_
        refine vv_aload_n (pc := 7) x dd_Mo_pair_7 rfl ?_
        refine vv_iload (pc := 8) x dd_Mo_pair_8 rfl ?_
        refine vv_if_lt (pc := 10) x dd_Mo_pair_10 (tgt := 38) (by decide) (fun h10 => absurd h10 (nI_pos (by omega))) (fun h10 => ?_)
        refine vv_aload_n (pc := 13) x dd_Mo_pair_13 rfl ?_
        refine vv_iload_n (pc := 14) x dd_Mo_pair_14 rfl ?_
        refine lv_Mo_123 (pc := 15) G x dd_Mo_pair_15 (k_rnoReg G) R.2.2 ⟨by decide, by decide⟩ (by decide) (by decide) (Nat.le_of_ble_eq_true rfl) (fun v15 M15 q15 => ?_)
        obtain ⟨rfl, hm15⟩ := q15
        have hm15 := hm15.symm
        subst hm15
        rw [show (if ¬ rv < 0 ∧ rv < 4 then (0 : Int32) else 1) = 0 from if_pos hr]
        refine vv_if_ne (pc := 18) x dd_Mo_pair_18 (tgt := 38) (by decide) (fun h18 => absurd h18 (fun z => z rfl)) (fun h18 => ?_)
        refine vv_aload_n (pc := 21) x dd_Mo_pair_21 rfl ?_
        refine vv_iload_n (pc := 22) x dd_Mo_pair_22 rfl ?_
        refine lv_Mo_123 (pc := 23) G x dd_Mo_pair_23 (k_rnoReg G) R.2.2 ⟨by decide, by decide⟩ (by decide) (by decide) (Nat.le_of_ble_eq_true rfl) (fun v23 M23 q23 => ?_)
        obtain ⟨rfl, hm23⟩ := q23
        have hm23 := hm23.symm
        subst hm23
        rw [show (if ¬ av < 0 ∧ av < 4 then (0 : Int32) else 1) = 1 from if_neg ha]
        refine vv_if_ne (pc := 26) x dd_Mo_pair_26 (tgt := 38) (by decide) (fun h26 => ?_) (fun h26 => absurd h26 (by decide))
        refine vv_iconst (pc := 38) x dd_Mo_pair_38 (1) (by decide) ?_
        refine vv_goto (pc := 39) x dd_Mo_pair_39 (tgt := 43) (by decide) ?_
        refine lp_Mo_62 (pc := 43) G x dd_Mo_pair_43 R.2.2 ?_
        have F_N0 : rx RI9 RA mo M (mi M mo 0 1) := rx_mi.mono (by decide) (by simp)
        have t_N0 : ri (mi M mo 0 1) mo 0 = 1 := ri_mi
        have h_N0 : MI pw D ow sl (mi M mo 0 1) mo pl Z := MI_scr h (rx_mi.mono (by decide) (by simp))
        rw [show mm_si M 7 0 mo 1 = mi M mo 0 1 from rfl]
        generalize mi M mo 0 1 = N0 at *
        have R_N0 := h_N0.1
        refine vv_aload_n (pc := 46) x dd_Mo_pair_46 rfl ?_
        refine lg_Mo_62 (pc := 47) G x dd_Mo_pair_47 R_N0.2.2 ?_
        rw [show mm_i N0 7 0 mo = 1 from t_N0]
        refine vv_if_eq (pc := 50) x dd_Mo_pair_50 (tgt := 54) (by decide) (fun h50 => absurd h50 (by decide)) (fun h50 => ?_)
        exact vv_vret (pc := 53) x dd_Mo_pair_53 rfl (by decide) (by decide) ⟨F_N0, Or.inr (Or.inl ⟨(fun z => by first | exact hk z.1 | exact hr z.2.1 | exact ha z.2.2.1 | exact hb9 z.2.2.2), rfl, t_N0, h_N0⟩)⟩
    · refine vv_aload_n (pc := 0) x dd_Mo_pair_0 rfl ?_
      refine vv_iload_n (pc := 1) x dd_Mo_pair_1 rfl ?_
      refine lv_Mo_120 (pc := 2) G x dd_Mo_pair_2 (R_place G h hZ.2.2.1 hnm k9 hk9) R.2.2 ⟨by decide, by decide⟩ (by decide) (by decide) (Nat.le_of_ble_eq_true rfl) (fun v2 M2 q2 => ?_)
      obtain ⟨rfl, hm2⟩ := q2
      have hm2 := hm2.symm
      subst hm2
      rw [show (if k9 < Z.1.length then nI (pl.getD k9 0) else (-1 : Int32)) = nI (pl.getD k9 0) from if_pos hk]
      refine vv_istore (pc := 5) x dd_Mo_pair_5 (by decide) (ls2 := [_, _, _, _, _, _, none]) rfl ?_
      refine vv_aload_n (pc := 7) x dd_Mo_pair_7 rfl ?_
      refine vv_iload (pc := 8) x dd_Mo_pair_8 rfl ?_
      refine vv_if_lt (pc := 10) x dd_Mo_pair_10 (tgt := 38) (by decide) (fun h10 => absurd h10 (nI_pos (by omega))) (fun h10 => ?_)
      refine vv_aload_n (pc := 13) x dd_Mo_pair_13 rfl ?_
      refine vv_iload_n (pc := 14) x dd_Mo_pair_14 rfl ?_
      refine lv_Mo_123 (pc := 15) G x dd_Mo_pair_15 (k_rnoReg G) R.2.2 ⟨by decide, by decide⟩ (by decide) (by decide) (Nat.le_of_ble_eq_true rfl) (fun v15 M15 q15 => ?_)
      obtain ⟨rfl, hm15⟩ := q15
      have hm15 := hm15.symm
      subst hm15
      rw [show (if ¬ rv < 0 ∧ rv < 4 then (0 : Int32) else 1) = 1 from if_neg hr]
      refine vv_if_ne (pc := 18) x dd_Mo_pair_18 (tgt := 38) (by decide) (fun h18 => ?_) (fun h18 => absurd h18 (by decide))
      refine vv_iconst (pc := 38) x dd_Mo_pair_38 (1) (by decide) ?_
      refine vv_goto (pc := 39) x dd_Mo_pair_39 (tgt := 43) (by decide) ?_
      refine lp_Mo_62 (pc := 43) G x dd_Mo_pair_43 R.2.2 ?_
      have F_N0 : rx RI9 RA mo M (mi M mo 0 1) := rx_mi.mono (by decide) (by simp)
      have t_N0 : ri (mi M mo 0 1) mo 0 = 1 := ri_mi
      have h_N0 : MI pw D ow sl (mi M mo 0 1) mo pl Z := MI_scr h (rx_mi.mono (by decide) (by simp))
      rw [show mm_si M 7 0 mo 1 = mi M mo 0 1 from rfl]
      generalize mi M mo 0 1 = N0 at *
      have R_N0 := h_N0.1
      refine vv_aload_n (pc := 46) x dd_Mo_pair_46 rfl ?_
      refine lg_Mo_62 (pc := 47) G x dd_Mo_pair_47 R_N0.2.2 ?_
      rw [show mm_i N0 7 0 mo = 1 from t_N0]
      refine vv_if_eq (pc := 50) x dd_Mo_pair_50 (tgt := 54) (by decide) (fun h50 => absurd h50 (by decide)) (fun h50 => ?_)
      exact vv_vret (pc := 53) x dd_Mo_pair_53 rfl (by decide) (by decide) ⟨F_N0, Or.inr (Or.inl ⟨(fun z => by first | exact hk z.1 | exact hr z.2.1 | exact ha z.2.2.1 | exact hb9 z.2.2.2), rfl, t_N0, h_N0⟩)⟩
  · refine vv_aload_n (pc := 0) x dd_Mo_pair_0 rfl ?_
    refine vv_iload_n (pc := 1) x dd_Mo_pair_1 rfl ?_
    refine lv_Mo_120 (pc := 2) G x dd_Mo_pair_2 (R_place G h hZ.2.2.1 hnm k9 hk9) R.2.2 ⟨by decide, by decide⟩ (by decide) (by decide) (Nat.le_of_ble_eq_true rfl) (fun v2 M2 q2 => ?_)
    obtain ⟨rfl, hm2⟩ := q2
    have hm2 := hm2.symm
    subst hm2
    rw [show (if k9 < Z.1.length then nI (pl.getD k9 0) else (-1 : Int32)) = -1 from if_neg hk]
    refine vv_istore (pc := 5) x dd_Mo_pair_5 (by decide) (ls2 := [_, _, _, _, _, _, none]) rfl ?_
    refine vv_aload_n (pc := 7) x dd_Mo_pair_7 rfl ?_
    refine vv_iload (pc := 8) x dd_Mo_pair_8 rfl ?_
    refine vv_if_lt (pc := 10) x dd_Mo_pair_10 (tgt := 38) (by decide) (fun h10 => ?_) (fun h10 => absurd h10 (fun z => z (by decide)))
    refine vv_iconst (pc := 38) x dd_Mo_pair_38 (1) (by decide) ?_
    refine vv_goto (pc := 39) x dd_Mo_pair_39 (tgt := 43) (by decide) ?_
    refine lp_Mo_62 (pc := 43) G x dd_Mo_pair_43 R.2.2 ?_
    have F_N0 : rx RI9 RA mo M (mi M mo 0 1) := rx_mi.mono (by decide) (by simp)
    have t_N0 : ri (mi M mo 0 1) mo 0 = 1 := ri_mi
    have h_N0 : MI pw D ow sl (mi M mo 0 1) mo pl Z := MI_scr h (rx_mi.mono (by decide) (by simp))
    rw [show mm_si M 7 0 mo 1 = mi M mo 0 1 from rfl]
    generalize mi M mo 0 1 = N0 at *
    have R_N0 := h_N0.1
    refine vv_aload_n (pc := 46) x dd_Mo_pair_46 rfl ?_
    refine lg_Mo_62 (pc := 47) G x dd_Mo_pair_47 R_N0.2.2 ?_
    rw [show mm_i N0 7 0 mo = 1 from t_N0]
    refine vv_if_eq (pc := 50) x dd_Mo_pair_50 (tgt := 54) (by decide) (fun h50 => absurd h50 (by decide)) (fun h50 => ?_)
    exact vv_vret (pc := 53) x dd_Mo_pair_53 rfl (by decide) (by decide) ⟨F_N0, Or.inr (Or.inl ⟨(fun z => by first | exact hk z.1 | exact hr z.2.1 | exact ha z.2.2.1 | exact hb9 z.2.2.2), rfl, t_N0, h_N0⟩)⟩
end M59
