/-! ===== the reference: part, receive ===== -/
section M57
variable {g : gg} {X : State → Prop} {t0 : Nat} {l : Launch} {M : mm} {M1 M2 : mm} {pw : Nat} {D : Nat → Prop} {ow sl : Nat → Nat} {mo : Nat} {Ki Ka : List Nat} {k : Nat} {pl : List Nat} {Z : zst} {B : List bk}
set_option maxRecDepth 100000 in
set_option maxHeartbeats 1000000 in
theorem R_part (G : gc g X t0 l) (h : MI pw D ow sl M mo pl Z) (hZ : zok pw Z) (hp6 : pw ≤ 600) (hlat : Z.2.2.1 < 2 ^ 31) (hml : ∀ P ∈ Z.1, P.2.2.2.1.length ≤ 512) {xv rv : Int32} (k9 : Nat) (hk9 : plc Z xv = k9) {av kv : Int32} : Ok g X l yy_Mo_part cc_Mo_part 7 none 2 44 0 0 [.ref mo, .int xv, .int rv, .int av, .int kv] M (fun v M' => rx RI9 RA mo M M' ∧ (((k9 < Z.1.length ∧ rok rv ∧ rok av) ∧ (¬ kv < 0 ∧ kv < nI (pts (zget Z k9).2.2.2.2 (zrg Z k9 av)).length) ∧ v = none ∧ ri M' mo 0 = 0 ∧ MI pw D ow sl M' mo pl (zreg Z k9 rv.toNatClampNeg ((pts (zget Z k9).2.2.2.2 (zrg Z k9 av)).getD kv.toNatClampNeg 0))) ∨ (¬ (k9 < Z.1.length ∧ rok rv ∧ rok av) ∧ v = none ∧ ri M' mo 0 = 1 ∧ MI pw D ow sl M' mo pl Z) ∨ ((k9 < Z.1.length ∧ rok rv ∧ rok av) ∧ ¬ (¬ kv < 0 ∧ kv < nI (pts (zget Z k9).2.2.2.2 (zrg Z k9 av)).length) ∧ v = none ∧ ri M' mo 0 = 2 ∧ MI pw D ow sl M' mo pl Z))) := by
  refine ok_start (by decide) (Nat.le_of_ble_eq_true rfl) (by simp [Value.category]) ?_
  intro p e s m args below meth c9 x
  have R := h.1
  have hnm := znm hZ hlat
  have h8z := hZ.2.1
  by_cases hk : k9 < Z.1.length
  · have hp8 : pl.getD k9 0 < 8 := h.2.2.1.2.2 _ (getD_memN (by have := h.2.2.1.1; omega))
    by_cases hr : rok rv
    · by_cases ha : rok av
      · have hho := zho hZ hml
        obtain ⟨⟨a1, a2, a3⟩, a4, ⟨a5, a6⟩, a7, a8⟩ := h.2.2.2.1 k9 hk
        have kk := hZ.1 _ (zget_mem hk)
        have h600 := kk.2.1.1
        have hml9 := hml _ (zget_mem hk)
        have hcp : (nI (pl.getD k9 0)).toNatClampNeg = pl.getD k9 0 := nI_clamp (by omega)
        obtain ⟨-, hj_j9, ej_j9⟩ := rok_in hr
        have gj_j9 := a4 rv.toNatClampNeg hj_j9
        generalize hq_j9 : rv.toNatClampNeg = j9 at *
        have hvt := zrg_vt hZ hk ha
        obtain ⟨-, hja, eja⟩ := rok_in ha
        have gja : (zget Z k9).2.2.1.getD av.toNatClampNeg 0 = zrg Z k9 av := rfl
        generalize hqa : av.toNatClampNeg = ja at *
        by_cases hc : ¬ kv < 0 ∧ kv < nI (pts (zget Z k9).2.2.2.2 (zrg Z k9 av)).length
        · obtain ⟨n9, hn9, en9⟩ := nI_of hc.1
          have hpl9 : (pts (zget Z k9).2.2.2.2 (zrg Z k9 av)).length ≤ 4 := by
            rcases hvt with z | ⟨ix, hix9, ez⟩
            · rw [pts_lo kk.2.1 z]; simp
            · rw [ez]
              unfold pts
              rw [hbt_at kk.2.1 hix9]
              exact bpt_le4 (kk.2.1.2 ix hix9)
          have hlt9 : n9 < (pts (zget Z k9).2.2.2.2 (zrg Z k9 av)).length := (nI_ltI hn9 (by omega)).mp (by rw [← en9]; exact hc.2)
          have ecl9 : kv.toNatClampNeg = n9 := by rw [en9, nI_clamp hn9]
          refine vv_aload_n (pc := 0) x dd_Mo_part_0 rfl ?_
          refine vv_iload_n (pc := 1) x dd_Mo_part_1 rfl ?_
          refine lv_Mo_120 (pc := 2) G x dd_Mo_part_2 (R_place G h hZ.2.2.1 hnm k9 hk9) R.2.2 ⟨by decide, by decide⟩ (by decide) (by decide) (Nat.le_of_ble_eq_true rfl) (fun v2 M2 q2 => ?_)
          obtain ⟨rfl, hm2⟩ := q2
          have hm2 := hm2.symm
          subst hm2
          rw [show (if k9 < Z.1.length then nI (pl.getD k9 0) else (-1 : Int32)) = nI (pl.getD k9 0) from if_pos hk]
          refine vv_istore (pc := 5) x dd_Mo_part_5 (by decide) (ls2 := [_, _, _, _, _, _, none]) rfl ?_
          refine vv_aload_n (pc := 7) x dd_Mo_part_7 rfl ?_
          refine vv_iload (pc := 8) x dd_Mo_part_8 rfl ?_
          refine vv_if_lt (pc := 10) x dd_Mo_part_10 (tgt := 29) (by decide) (fun h10 => absurd h10 (nI_pos (by omega))) (fun h10 => ?_)
          refine vv_aload_n (pc := 13) x dd_Mo_part_13 rfl ?_
          refine vv_iload_n (pc := 14) x dd_Mo_part_14 rfl ?_
          refine lv_Mo_123 (pc := 15) G x dd_Mo_part_15 (k_rnoReg G) R.2.2 ⟨by decide, by decide⟩ (by decide) (by decide) (Nat.le_of_ble_eq_true rfl) (fun v15 M15 q15 => ?_)
          obtain ⟨rfl, hm15⟩ := q15
          have hm15 := hm15.symm
          subst hm15
          rw [show (if ¬ rv < 0 ∧ rv < 4 then (0 : Int32) else 1) = 0 from if_pos hr]
          refine vv_if_ne (pc := 18) x dd_Mo_part_18 (tgt := 29) (by decide) (fun h18 => absurd h18 (fun z => z rfl)) (fun h18 => ?_)
          refine vv_aload_n (pc := 21) x dd_Mo_part_21 rfl ?_
          refine vv_iload_n (pc := 22) x dd_Mo_part_22 rfl ?_
          refine lv_Mo_123 (pc := 23) G x dd_Mo_part_23 (k_rnoReg G) R.2.2 ⟨by decide, by decide⟩ (by decide) (by decide) (Nat.le_of_ble_eq_true rfl) (fun v23 M23 q23 => ?_)
          obtain ⟨rfl, hm23⟩ := q23
          have hm23 := hm23.symm
          subst hm23
          rw [show (if ¬ av < 0 ∧ av < 4 then (0 : Int32) else 1) = 0 from if_pos ha]
          refine vv_if_eq (pc := 26) x dd_Mo_part_26 (tgt := 33) (by decide) (fun h26 => ?_) (fun h26 => absurd h26 (fun z => z rfl))
          refine vv_iconst (pc := 33) x dd_Mo_part_33 (0) (by decide) ?_
          refine lp_Mo_62 (pc := 34) G x dd_Mo_part_34 R.2.2 ?_
          have F_N0 : rx RI9 RA mo M (mi M mo 0 0) := rx_mi.mono (by decide) (by simp)
          have t_N0 : ri (mi M mo 0 0) mo 0 = 0 := ri_mi
          have h_N0 : MI pw D ow sl (mi M mo 0 0) mo pl Z := MI_scr h (rx_mi.mono (by decide) (by simp))
          rw [show mm_si M 7 0 mo 0 = mi M mo 0 0 from rfl]
          generalize mi M mo 0 0 = N0 at *
          have R_N0 := h_N0.1
          refine vv_aload_n (pc := 37) x dd_Mo_part_37 rfl ?_
          refine lg_Mo_62 (pc := 38) G x dd_Mo_part_38 R_N0.2.2 ?_
          rw [show mm_i N0 7 0 mo = 0 from t_N0]
          refine vv_if_eq (pc := 41) x dd_Mo_part_41 (tgt := 45) (by decide) (fun h41 => ?_) (fun h41 => absurd h41 (fun z => z rfl))
          refine vv_aload_n (pc := 45) x dd_Mo_part_45 rfl ?_
          refine lg_Mo_19 (pc := 46) G x dd_Mo_part_46 R_N0.2.2 (R_N0.r 8 (by decide)) ?_
          refine vv_iconst (pc := 49) x dd_Mo_part_49 (4) (by decide) ?_
          refine vv_iload (pc := 50) x dd_Mo_part_50 rfl ?_
          refine vv_imul (pc := 52) x dd_Mo_part_52 ?_
          refine vv_iload_n (pc := 53) x dd_Mo_part_53 rfl ?_
          refine vv_iadd (pc := 54) x dd_Mo_part_54 ?_
          rw [show (4 : Int32) * nI (pl.getD k9 0) + av = nI (4 * pl.getD k9 0 + ja) from by rw [eja]; exact ix4]
          refine vv_iald (pc := 55) x dd_Mo_part_55 (R_N0.t 8 (by decide)) (in_n (N := 32) (by omega) (R_N0.n 8 (by decide)) (by decide)) ?_
          rw [nI_clamp (n := 4 * pl.getD k9 0 + ja) (by omega), show mm_a N0 (mm_f N0 7 8 mo) (4 * pl.getD k9 0 + ja) = zrg Z k9 av from by rw [← gja]; exact (h_N0.2.2.2.1 k9 hk).2.1 ja hja]
          refine vv_istore (pc := 56) x dd_Mo_part_56 (by decide) (ls2 := [_, _, _, _, _, _, _]) rfl ?_
          refine vv_aload_n (pc := 58) x dd_Mo_part_58 rfl ?_
          refine vv_iload (pc := 59) x dd_Mo_part_59 rfl ?_
          refine vv_if_lt (pc := 61) x dd_Mo_part_61 (tgt := 77) (by decide) (fun h61 => absurd h61 hc.1) (fun h61 => ?_)
          refine vv_iload (pc := 64) x dd_Mo_part_64 rfl ?_
          refine vv_aload_n (pc := 66) x dd_Mo_part_66 rfl ?_
          refine vv_iload (pc := 67) x dd_Mo_part_67 rfl ?_
          refine vv_iload (pc := 69) x dd_Mo_part_69 rfl ?_
          refine lv_Mo_75 (pc := 71) G x dd_Mo_part_71 (R_pcv G R_N0 kk.2.1 hp8 (h_N0.2.2.2.1 k9 hk).2.2.2.1 hvt) R_N0.2.2 ⟨by decide, by decide⟩ (by decide) (by decide) (Nat.le_of_ble_eq_true rfl) (fun v71 M71 q71 => ?_)
          obtain ⟨rfl, hm71⟩ := q71
          have hm71 := hm71.symm
          subst hm71
          refine vv_icmp_lt (pc := 74) x dd_Mo_part_74 (tgt := 81) (by decide) (fun h74 => ?_) (fun h74 => absurd h74 (fun z => z hc.2))
          refine vv_iconst (pc := 81) x dd_Mo_part_81 (0) (by decide) ?_
          refine lp_Mo_62 (pc := 82) G x dd_Mo_part_82 R_N0.2.2 ?_
          have F_N1 : rx RI9 RA mo N0 (mi N0 mo 0 0) := rx_mi.mono (by decide) (by simp)
          have t_N1 : ri (mi N0 mo 0 0) mo 0 = 0 := ri_mi
          have h_N1 : MI pw D ow sl (mi N0 mo 0 0) mo pl Z := MI_scr h_N0 (rx_mi.mono (by decide) (by simp))
          rw [show mm_si N0 7 0 mo 0 = mi N0 mo 0 0 from rfl]
          generalize mi N0 mo 0 0 = N1 at *
          have R_N1 := h_N1.1
          refine vv_aload_n (pc := 85) x dd_Mo_part_85 rfl ?_
          refine lg_Mo_62 (pc := 86) G x dd_Mo_part_86 R_N1.2.2 ?_
          rw [show mm_i N1 7 0 mo = 0 from t_N1]
          refine vv_if_ne (pc := 89) x dd_Mo_part_89 (tgt := 113) (by decide) (fun h89 => absurd h89 (fun z => z rfl)) (fun h89 => ?_)
          refine vv_aload_n (pc := 92) x dd_Mo_part_92 rfl ?_
          refine lg_Mo_19 (pc := 93) G x dd_Mo_part_93 R_N1.2.2 (R_N1.r 8 (by decide)) ?_
          refine vv_iconst (pc := 96) x dd_Mo_part_96 (4) (by decide) ?_
          refine vv_iload (pc := 97) x dd_Mo_part_97 rfl ?_
          refine vv_imul (pc := 99) x dd_Mo_part_99 ?_
          refine vv_iload_n (pc := 100) x dd_Mo_part_100 rfl ?_
          refine vv_iadd (pc := 101) x dd_Mo_part_101 ?_
          rw [show (4 : Int32) * nI (pl.getD k9 0) + rv = nI (4 * pl.getD k9 0 + j9) from by rw [ej_j9]; exact ix4]
          refine vv_aload_n (pc := 102) x dd_Mo_part_102 rfl ?_
          refine vv_iload (pc := 103) x dd_Mo_part_103 rfl ?_
          refine vv_iload (pc := 105) x dd_Mo_part_105 rfl ?_
          refine vv_iload (pc := 107) x dd_Mo_part_107 rfl ?_
          rw [show kv = nI n9 from en9]
          refine lv_Mo_135 (pc := 109) G x dd_Mo_part_109 (R_pov (k9 := n9) G R_N1 kk.2.1 hp8 (h_N1.2.2.2.1 k9 hk).2.2.2.1 hvt hlt9) R_N1.2.2 ⟨by decide, by decide⟩ (by decide) (by decide) (Nat.le_of_ble_eq_true rfl) (fun v109 M109 q109 => ?_)
          obtain ⟨rfl, hm109⟩ := q109
          have hm109 := hm109.symm
          subst hm109
          refine vv_iast (pc := 112) x dd_Mo_part_112 (R_N1.t 8 (by decide)) (in_n (N := 32) (by omega) (R_N1.n 8 (by decide)) (by decide)) ?_
          rw [nI_clamp (n := 4 * pl.getD k9 0 + j9) (by omega)]
          exact vv_vret (pc := 113) x dd_Mo_part_113 rfl (by decide) (by decide) ⟨(F_N0.trans F_N1).trans (rx_mw.mono (by simp) (by decide)), Or.inl ⟨⟨hk, hr, ha⟩, by rw [← en9]; exact hc, rfl, t_N1, by rw [nI_clamp hn9]; exact MI_reg h_N1 hho hk hj_j9 kk.1⟩⟩
        · by_cases h1c : kv < 0
          · refine vv_aload_n (pc := 0) x dd_Mo_part_0 rfl ?_
            refine vv_iload_n (pc := 1) x dd_Mo_part_1 rfl ?_
            refine lv_Mo_120 (pc := 2) G x dd_Mo_part_2 (R_place G h hZ.2.2.1 hnm k9 hk9) R.2.2 ⟨by decide, by decide⟩ (by decide) (by decide) (Nat.le_of_ble_eq_true rfl) (fun v2 M2 q2 => ?_)
            obtain ⟨rfl, hm2⟩ := q2
            have hm2 := hm2.symm
            subst hm2
            rw [show (if k9 < Z.1.length then nI (pl.getD k9 0) else (-1 : Int32)) = nI (pl.getD k9 0) from if_pos hk]
            refine vv_istore (pc := 5) x dd_Mo_part_5 (by decide) (ls2 := [_, _, _, _, _, _, none]) rfl ?_
            refine vv_aload_n (pc := 7) x dd_Mo_part_7 rfl ?_
            refine vv_iload (pc := 8) x dd_Mo_part_8 rfl ?_
            refine vv_if_lt (pc := 10) x dd_Mo_part_10 (tgt := 29) (by decide) (fun h10 => absurd h10 (nI_pos (by omega))) (fun h10 => ?_)
            refine vv_aload_n (pc := 13) x dd_Mo_part_13 rfl ?_
            refine vv_iload_n (pc := 14) x dd_Mo_part_14 rfl ?_
            refine lv_Mo_123 (pc := 15) G x dd_Mo_part_15 (k_rnoReg G) R.2.2 ⟨by decide, by decide⟩ (by decide) (by decide) (Nat.le_of_ble_eq_true rfl) (fun v15 M15 q15 => ?_)
            obtain ⟨rfl, hm15⟩ := q15
            have hm15 := hm15.symm
            subst hm15
            rw [show (if ¬ rv < 0 ∧ rv < 4 then (0 : Int32) else 1) = 0 from if_pos hr]
            refine vv_if_ne (pc := 18) x dd_Mo_part_18 (tgt := 29) (by decide) (fun h18 => absurd h18 (fun z => z rfl)) (fun h18 => ?_)
            refine vv_aload_n (pc := 21) x dd_Mo_part_21 rfl ?_
            refine vv_iload_n (pc := 22) x dd_Mo_part_22 rfl ?_
            refine lv_Mo_123 (pc := 23) G x dd_Mo_part_23 (k_rnoReg G) R.2.2 ⟨by decide, by decide⟩ (by decide) (by decide) (Nat.le_of_ble_eq_true rfl) (fun v23 M23 q23 => ?_)
            obtain ⟨rfl, hm23⟩ := q23
            have hm23 := hm23.symm
            subst hm23
            rw [show (if ¬ av < 0 ∧ av < 4 then (0 : Int32) else 1) = 0 from if_pos ha]
            refine vv_if_eq (pc := 26) x dd_Mo_part_26 (tgt := 33) (by decide) (fun h26 => ?_) (fun h26 => absurd h26 (fun z => z rfl))
            refine vv_iconst (pc := 33) x dd_Mo_part_33 (0) (by decide) ?_
            refine lp_Mo_62 (pc := 34) G x dd_Mo_part_34 R.2.2 ?_
            have F_N0 : rx RI9 RA mo M (mi M mo 0 0) := rx_mi.mono (by decide) (by simp)
            have t_N0 : ri (mi M mo 0 0) mo 0 = 0 := ri_mi
            have h_N0 : MI pw D ow sl (mi M mo 0 0) mo pl Z := MI_scr h (rx_mi.mono (by decide) (by simp))
            rw [show mm_si M 7 0 mo 0 = mi M mo 0 0 from rfl]
            generalize mi M mo 0 0 = N0 at *
            have R_N0 := h_N0.1
            refine vv_aload_n (pc := 37) x dd_Mo_part_37 rfl ?_
            refine lg_Mo_62 (pc := 38) G x dd_Mo_part_38 R_N0.2.2 ?_
            rw [show mm_i N0 7 0 mo = 0 from t_N0]
            refine vv_if_eq (pc := 41) x dd_Mo_part_41 (tgt := 45) (by decide) (fun h41 => ?_) (fun h41 => absurd h41 (fun z => z rfl))
            refine vv_aload_n (pc := 45) x dd_Mo_part_45 rfl ?_
            refine lg_Mo_19 (pc := 46) G x dd_Mo_part_46 R_N0.2.2 (R_N0.r 8 (by decide)) ?_
            refine vv_iconst (pc := 49) x dd_Mo_part_49 (4) (by decide) ?_
            refine vv_iload (pc := 50) x dd_Mo_part_50 rfl ?_
            refine vv_imul (pc := 52) x dd_Mo_part_52 ?_
            refine vv_iload_n (pc := 53) x dd_Mo_part_53 rfl ?_
            refine vv_iadd (pc := 54) x dd_Mo_part_54 ?_
            rw [show (4 : Int32) * nI (pl.getD k9 0) + av = nI (4 * pl.getD k9 0 + ja) from by rw [eja]; exact ix4]
            refine vv_iald (pc := 55) x dd_Mo_part_55 (R_N0.t 8 (by decide)) (in_n (N := 32) (by omega) (R_N0.n 8 (by decide)) (by decide)) ?_
            rw [nI_clamp (n := 4 * pl.getD k9 0 + ja) (by omega), show mm_a N0 (mm_f N0 7 8 mo) (4 * pl.getD k9 0 + ja) = zrg Z k9 av from by rw [← gja]; exact (h_N0.2.2.2.1 k9 hk).2.1 ja hja]
            refine vv_istore (pc := 56) x dd_Mo_part_56 (by decide) (ls2 := [_, _, _, _, _, _, _]) rfl ?_
            refine vv_aload_n (pc := 58) x dd_Mo_part_58 rfl ?_
            refine vv_iload (pc := 59) x dd_Mo_part_59 rfl ?_
            refine vv_if_lt (pc := 61) x dd_Mo_part_61 (tgt := 77) (by decide) (fun h61 => ?_) (fun h61 => absurd h61 (fun z => z h1c))
            refine vv_iconst (pc := 77) x dd_Mo_part_77 (2) (by decide) ?_
            refine vv_goto (pc := 78) x dd_Mo_part_78 (tgt := 82) (by decide) ?_
            refine lp_Mo_62 (pc := 82) G x dd_Mo_part_82 R_N0.2.2 ?_
            have F_N1 : rx RI9 RA mo N0 (mi N0 mo 0 2) := rx_mi.mono (by decide) (by simp)
            have t_N1 : ri (mi N0 mo 0 2) mo 0 = 2 := ri_mi
            have h_N1 : MI pw D ow sl (mi N0 mo 0 2) mo pl Z := MI_scr h_N0 (rx_mi.mono (by decide) (by simp))
            rw [show mm_si N0 7 0 mo 2 = mi N0 mo 0 2 from rfl]
            generalize mi N0 mo 0 2 = N1 at *
            have R_N1 := h_N1.1
            refine vv_aload_n (pc := 85) x dd_Mo_part_85 rfl ?_
            refine lg_Mo_62 (pc := 86) G x dd_Mo_part_86 R_N1.2.2 ?_
            rw [show mm_i N1 7 0 mo = 2 from t_N1]
            refine vv_if_ne (pc := 89) x dd_Mo_part_89 (tgt := 113) (by decide) (fun h89 => ?_) (fun h89 => absurd h89 (by decide))
            exact vv_vret (pc := 113) x dd_Mo_part_113 rfl (by decide) (by decide) ⟨F_N0.trans F_N1, Or.inr (Or.inr ⟨⟨hk, hr, ha⟩, hc, rfl, t_N1, h_N1⟩)⟩
          · refine vv_aload_n (pc := 0) x dd_Mo_part_0 rfl ?_
            refine vv_iload_n (pc := 1) x dd_Mo_part_1 rfl ?_
            refine lv_Mo_120 (pc := 2) G x dd_Mo_part_2 (R_place G h hZ.2.2.1 hnm k9 hk9) R.2.2 ⟨by decide, by decide⟩ (by decide) (by decide) (Nat.le_of_ble_eq_true rfl) (fun v2 M2 q2 => ?_)
            obtain ⟨rfl, hm2⟩ := q2
            have hm2 := hm2.symm
            subst hm2
            rw [show (if k9 < Z.1.length then nI (pl.getD k9 0) else (-1 : Int32)) = nI (pl.getD k9 0) from if_pos hk]
            refine vv_istore (pc := 5) x dd_Mo_part_5 (by decide) (ls2 := [_, _, _, _, _, _, none]) rfl ?_
            refine vv_aload_n (pc := 7) x dd_Mo_part_7 rfl ?_
            refine vv_iload (pc := 8) x dd_Mo_part_8 rfl ?_
            refine vv_if_lt (pc := 10) x dd_Mo_part_10 (tgt := 29) (by decide) (fun h10 => absurd h10 (nI_pos (by omega))) (fun h10 => ?_)
            refine vv_aload_n (pc := 13) x dd_Mo_part_13 rfl ?_
            refine vv_iload_n (pc := 14) x dd_Mo_part_14 rfl ?_
            refine lv_Mo_123 (pc := 15) G x dd_Mo_part_15 (k_rnoReg G) R.2.2 ⟨by decide, by decide⟩ (by decide) (by decide) (Nat.le_of_ble_eq_true rfl) (fun v15 M15 q15 => ?_)
            obtain ⟨rfl, hm15⟩ := q15
            have hm15 := hm15.symm
            subst hm15
            rw [show (if ¬ rv < 0 ∧ rv < 4 then (0 : Int32) else 1) = 0 from if_pos hr]
            refine vv_if_ne (pc := 18) x dd_Mo_part_18 (tgt := 29) (by decide) (fun h18 => absurd h18 (fun z => z rfl)) (fun h18 => ?_)
            refine vv_aload_n (pc := 21) x dd_Mo_part_21 rfl ?_
            refine vv_iload_n (pc := 22) x dd_Mo_part_22 rfl ?_
            refine lv_Mo_123 (pc := 23) G x dd_Mo_part_23 (k_rnoReg G) R.2.2 ⟨by decide, by decide⟩ (by decide) (by decide) (Nat.le_of_ble_eq_true rfl) (fun v23 M23 q23 => ?_)
            obtain ⟨rfl, hm23⟩ := q23
            have hm23 := hm23.symm
            subst hm23
            rw [show (if ¬ av < 0 ∧ av < 4 then (0 : Int32) else 1) = 0 from if_pos ha]
            refine vv_if_eq (pc := 26) x dd_Mo_part_26 (tgt := 33) (by decide) (fun h26 => ?_) (fun h26 => absurd h26 (fun z => z rfl))
            refine vv_iconst (pc := 33) x dd_Mo_part_33 (0) (by decide) ?_
            refine lp_Mo_62 (pc := 34) G x dd_Mo_part_34 R.2.2 ?_
            have F_N0 : rx RI9 RA mo M (mi M mo 0 0) := rx_mi.mono (by decide) (by simp)
            have t_N0 : ri (mi M mo 0 0) mo 0 = 0 := ri_mi
            have h_N0 : MI pw D ow sl (mi M mo 0 0) mo pl Z := MI_scr h (rx_mi.mono (by decide) (by simp))
            rw [show mm_si M 7 0 mo 0 = mi M mo 0 0 from rfl]
            generalize mi M mo 0 0 = N0 at *
            have R_N0 := h_N0.1
            refine vv_aload_n (pc := 37) x dd_Mo_part_37 rfl ?_
            refine lg_Mo_62 (pc := 38) G x dd_Mo_part_38 R_N0.2.2 ?_
            rw [show mm_i N0 7 0 mo = 0 from t_N0]
            refine vv_if_eq (pc := 41) x dd_Mo_part_41 (tgt := 45) (by decide) (fun h41 => ?_) (fun h41 => absurd h41 (fun z => z rfl))
            refine vv_aload_n (pc := 45) x dd_Mo_part_45 rfl ?_
            refine lg_Mo_19 (pc := 46) G x dd_Mo_part_46 R_N0.2.2 (R_N0.r 8 (by decide)) ?_
            refine vv_iconst (pc := 49) x dd_Mo_part_49 (4) (by decide) ?_
            refine vv_iload (pc := 50) x dd_Mo_part_50 rfl ?_
            refine vv_imul (pc := 52) x dd_Mo_part_52 ?_
            refine vv_iload_n (pc := 53) x dd_Mo_part_53 rfl ?_
            refine vv_iadd (pc := 54) x dd_Mo_part_54 ?_
            rw [show (4 : Int32) * nI (pl.getD k9 0) + av = nI (4 * pl.getD k9 0 + ja) from by rw [eja]; exact ix4]
            refine vv_iald (pc := 55) x dd_Mo_part_55 (R_N0.t 8 (by decide)) (in_n (N := 32) (by omega) (R_N0.n 8 (by decide)) (by decide)) ?_
            rw [nI_clamp (n := 4 * pl.getD k9 0 + ja) (by omega), show mm_a N0 (mm_f N0 7 8 mo) (4 * pl.getD k9 0 + ja) = zrg Z k9 av from by rw [← gja]; exact (h_N0.2.2.2.1 k9 hk).2.1 ja hja]
            refine vv_istore (pc := 56) x dd_Mo_part_56 (by decide) (ls2 := [_, _, _, _, _, _, _]) rfl ?_
            refine vv_aload_n (pc := 58) x dd_Mo_part_58 rfl ?_
            refine vv_iload (pc := 59) x dd_Mo_part_59 rfl ?_
            refine vv_if_lt (pc := 61) x dd_Mo_part_61 (tgt := 77) (by decide) (fun h61 => absurd h61 h1c) (fun h61 => ?_)
            refine vv_iload (pc := 64) x dd_Mo_part_64 rfl ?_
            refine vv_aload_n (pc := 66) x dd_Mo_part_66 rfl ?_
            refine vv_iload (pc := 67) x dd_Mo_part_67 rfl ?_
            refine vv_iload (pc := 69) x dd_Mo_part_69 rfl ?_
            refine lv_Mo_75 (pc := 71) G x dd_Mo_part_71 (R_pcv G R_N0 kk.2.1 hp8 (h_N0.2.2.2.1 k9 hk).2.2.2.1 hvt) R_N0.2.2 ⟨by decide, by decide⟩ (by decide) (by decide) (Nat.le_of_ble_eq_true rfl) (fun v71 M71 q71 => ?_)
            obtain ⟨rfl, hm71⟩ := q71
            have hm71 := hm71.symm
            subst hm71
            refine vv_icmp_lt (pc := 74) x dd_Mo_part_74 (tgt := 81) (by decide) (fun h74 => absurd h74 (fun z => hc ⟨h1c, z⟩)) (fun h74 => ?_)
            refine vv_iconst (pc := 77) x dd_Mo_part_77 (2) (by decide) ?_
            refine vv_goto (pc := 78) x dd_Mo_part_78 (tgt := 82) (by decide) ?_
            refine lp_Mo_62 (pc := 82) G x dd_Mo_part_82 R_N0.2.2 ?_
            have F_N1 : rx RI9 RA mo N0 (mi N0 mo 0 2) := rx_mi.mono (by decide) (by simp)
            have t_N1 : ri (mi N0 mo 0 2) mo 0 = 2 := ri_mi
            have h_N1 : MI pw D ow sl (mi N0 mo 0 2) mo pl Z := MI_scr h_N0 (rx_mi.mono (by decide) (by simp))
            rw [show mm_si N0 7 0 mo 2 = mi N0 mo 0 2 from rfl]
            generalize mi N0 mo 0 2 = N1 at *
            have R_N1 := h_N1.1
            refine vv_aload_n (pc := 85) x dd_Mo_part_85 rfl ?_
            refine lg_Mo_62 (pc := 86) G x dd_Mo_part_86 R_N1.2.2 ?_
            rw [show mm_i N1 7 0 mo = 2 from t_N1]
            refine vv_if_ne (pc := 89) x dd_Mo_part_89 (tgt := 113) (by decide) (fun h89 => ?_) (fun h89 => absurd h89 (by decide))
            exact vv_vret (pc := 113) x dd_Mo_part_113 rfl (by decide) (by decide) ⟨F_N0.trans F_N1, Or.inr (Or.inr ⟨⟨hk, hr, ha⟩, hc, rfl, t_N1, h_N1⟩)⟩
      · refine vv_aload_n (pc := 0) x dd_Mo_part_0 rfl ?_
        refine vv_iload_n (pc := 1) x dd_Mo_part_1 rfl ?_
        refine lv_Mo_120 (pc := 2) G x dd_Mo_part_2 (R_place G h hZ.2.2.1 hnm k9 hk9) R.2.2 ⟨by decide, by decide⟩ (by decide) (by decide) (Nat.le_of_ble_eq_true rfl) (fun v2 M2 q2 => ?_)
        obtain ⟨rfl, hm2⟩ := q2
        have hm2 := hm2.symm
        subst hm2
        rw [show (if k9 < Z.1.length then nI (pl.getD k9 0) else (-1 : Int32)) = nI (pl.getD k9 0) from if_pos hk]
        refine vv_istore (pc := 5) x dd_Mo_part_5 (by decide) (ls2 := [_, _, _, _, _, _, none]) rfl ?_
        refine vv_aload_n (pc := 7) x dd_Mo_part_7 rfl ?_
        refine vv_iload (pc := 8) x dd_Mo_part_8 rfl ?_
        refine vv_if_lt (pc := 10) x dd_Mo_part_10 (tgt := 29) (by decide) (fun h10 => absurd h10 (nI_pos (by omega))) (fun h10 => ?_)
        refine vv_aload_n (pc := 13) x dd_Mo_part_13 rfl ?_
        refine vv_iload_n (pc := 14) x dd_Mo_part_14 rfl ?_
        refine lv_Mo_123 (pc := 15) G x dd_Mo_part_15 (k_rnoReg G) R.2.2 ⟨by decide, by decide⟩ (by decide) (by decide) (Nat.le_of_ble_eq_true rfl) (fun v15 M15 q15 => ?_)
        obtain ⟨rfl, hm15⟩ := q15
        have hm15 := hm15.symm
        subst hm15
        rw [show (if ¬ rv < 0 ∧ rv < 4 then (0 : Int32) else 1) = 0 from if_pos hr]
        refine vv_if_ne (pc := 18) x dd_Mo_part_18 (tgt := 29) (by decide) (fun h18 => absurd h18 (fun z => z rfl)) (fun h18 => ?_)
        refine vv_aload_n (pc := 21) x dd_Mo_part_21 rfl ?_
        refine vv_iload_n (pc := 22) x dd_Mo_part_22 rfl ?_
        refine lv_Mo_123 (pc := 23) G x dd_Mo_part_23 (k_rnoReg G) R.2.2 ⟨by decide, by decide⟩ (by decide) (by decide) (Nat.le_of_ble_eq_true rfl) (fun v23 M23 q23 => ?_)
        obtain ⟨rfl, hm23⟩ := q23
        have hm23 := hm23.symm
        subst hm23
        rw [show (if ¬ av < 0 ∧ av < 4 then (0 : Int32) else 1) = 1 from if_neg ha]
        refine vv_if_eq (pc := 26) x dd_Mo_part_26 (tgt := 33) (by decide) (fun h26 => absurd h26 (by decide)) (fun h26 => ?_)
        refine vv_iconst (pc := 29) x dd_Mo_part_29 (1) (by decide) ?_
        refine vv_goto (pc := 30) x dd_Mo_part_30 (tgt := 34) (by decide) ?_
        refine lp_Mo_62 (pc := 34) G x dd_Mo_part_34 R.2.2 ?_
        have F_N0 : rx RI9 RA mo M (mi M mo 0 1) := rx_mi.mono (by decide) (by simp)
        have t_N0 : ri (mi M mo 0 1) mo 0 = 1 := ri_mi
        have h_N0 : MI pw D ow sl (mi M mo 0 1) mo pl Z := MI_scr h (rx_mi.mono (by decide) (by simp))
        rw [show mm_si M 7 0 mo 1 = mi M mo 0 1 from rfl]
        generalize mi M mo 0 1 = N0 at *
        have R_N0 := h_N0.1
        refine vv_aload_n (pc := 37) x dd_Mo_part_37 rfl ?_
        refine lg_Mo_62 (pc := 38) G x dd_Mo_part_38 R_N0.2.2 ?_
        rw [show mm_i N0 7 0 mo = 1 from t_N0]
        refine vv_if_eq (pc := 41) x dd_Mo_part_41 (tgt := 45) (by decide) (fun h41 => absurd h41 (by decide)) (fun h41 => ?_)
        exact vv_vret (pc := 44) x dd_Mo_part_44 rfl (by decide) (by decide) ⟨F_N0, Or.inr (Or.inl ⟨(fun z => by first | exact hk z.1 | exact hr z.2.1 | exact ha z.2.2), rfl, t_N0, h_N0⟩)⟩
    · refine vv_aload_n (pc := 0) x dd_Mo_part_0 rfl ?_
      refine vv_iload_n (pc := 1) x dd_Mo_part_1 rfl ?_
      refine lv_Mo_120 (pc := 2) G x dd_Mo_part_2 (R_place G h hZ.2.2.1 hnm k9 hk9) R.2.2 ⟨by decide, by decide⟩ (by decide) (by decide) (Nat.le_of_ble_eq_true rfl) (fun v2 M2 q2 => ?_)
      obtain ⟨rfl, hm2⟩ := q2
      have hm2 := hm2.symm
      subst hm2
      rw [show (if k9 < Z.1.length then nI (pl.getD k9 0) else (-1 : Int32)) = nI (pl.getD k9 0) from if_pos hk]
      refine vv_istore (pc := 5) x dd_Mo_part_5 (by decide) (ls2 := [_, _, _, _, _, _, none]) rfl ?_
      refine vv_aload_n (pc := 7) x dd_Mo_part_7 rfl ?_
      refine vv_iload (pc := 8) x dd_Mo_part_8 rfl ?_
      refine vv_if_lt (pc := 10) x dd_Mo_part_10 (tgt := 29) (by decide) (fun h10 => absurd h10 (nI_pos (by omega))) (fun h10 => ?_)
      refine vv_aload_n (pc := 13) x dd_Mo_part_13 rfl ?_
      refine vv_iload_n (pc := 14) x dd_Mo_part_14 rfl ?_
      refine lv_Mo_123 (pc := 15) G x dd_Mo_part_15 (k_rnoReg G) R.2.2 ⟨by decide, by decide⟩ (by decide) (by decide) (Nat.le_of_ble_eq_true rfl) (fun v15 M15 q15 => ?_)
      obtain ⟨rfl, hm15⟩ := q15
      have hm15 := hm15.symm
      subst hm15
      rw [show (if ¬ rv < 0 ∧ rv < 4 then (0 : Int32) else 1) = 1 from if_neg hr]
      refine vv_if_ne (pc := 18) x dd_Mo_part_18 (tgt := 29) (by decide) (fun h18 => ?_) (fun h18 => absurd h18 (by decide))
      refine vv_iconst (pc := 29) x dd_Mo_part_29 (1) (by decide) ?_
      refine vv_goto (pc := 30) x dd_Mo_part_30 (tgt := 34) (by decide) ?_
      refine lp_Mo_62 (pc := 34) G x dd_Mo_part_34 R.2.2 ?_
      have F_N0 : rx RI9 RA mo M (mi M mo 0 1) := rx_mi.mono (by decide) (by simp)
      have t_N0 : ri (mi M mo 0 1) mo 0 = 1 := ri_mi
      have h_N0 : MI pw D ow sl (mi M mo 0 1) mo pl Z := MI_scr h (rx_mi.mono (by decide) (by simp))
      rw [show mm_si M 7 0 mo 1 = mi M mo 0 1 from rfl]
      generalize mi M mo 0 1 = N0 at *
      have R_N0 := h_N0.1
      refine vv_aload_n (pc := 37) x dd_Mo_part_37 rfl ?_
      refine lg_Mo_62 (pc := 38) G x dd_Mo_part_38 R_N0.2.2 ?_
      rw [show mm_i N0 7 0 mo = 1 from t_N0]
      refine vv_if_eq (pc := 41) x dd_Mo_part_41 (tgt := 45) (by decide) (fun h41 => absurd h41 (by decide)) (fun h41 => ?_)
      exact vv_vret (pc := 44) x dd_Mo_part_44 rfl (by decide) (by decide) ⟨F_N0, Or.inr (Or.inl ⟨(fun z => by first | exact hk z.1 | exact hr z.2.1 | exact ha z.2.2), rfl, t_N0, h_N0⟩)⟩
  · refine vv_aload_n (pc := 0) x dd_Mo_part_0 rfl ?_
    refine vv_iload_n (pc := 1) x dd_Mo_part_1 rfl ?_
    refine lv_Mo_120 (pc := 2) G x dd_Mo_part_2 (R_place G h hZ.2.2.1 hnm k9 hk9) R.2.2 ⟨by decide, by decide⟩ (by decide) (by decide) (Nat.le_of_ble_eq_true rfl) (fun v2 M2 q2 => ?_)
    obtain ⟨rfl, hm2⟩ := q2
    have hm2 := hm2.symm
    subst hm2
    rw [show (if k9 < Z.1.length then nI (pl.getD k9 0) else (-1 : Int32)) = -1 from if_neg hk]
    refine vv_istore (pc := 5) x dd_Mo_part_5 (by decide) (ls2 := [_, _, _, _, _, _, none]) rfl ?_
    refine vv_aload_n (pc := 7) x dd_Mo_part_7 rfl ?_
    refine vv_iload (pc := 8) x dd_Mo_part_8 rfl ?_
    refine vv_if_lt (pc := 10) x dd_Mo_part_10 (tgt := 29) (by decide) (fun h10 => ?_) (fun h10 => absurd h10 (fun z => z (by decide)))
    refine vv_iconst (pc := 29) x dd_Mo_part_29 (1) (by decide) ?_
    refine vv_goto (pc := 30) x dd_Mo_part_30 (tgt := 34) (by decide) ?_
    refine lp_Mo_62 (pc := 34) G x dd_Mo_part_34 R.2.2 ?_
    have F_N0 : rx RI9 RA mo M (mi M mo 0 1) := rx_mi.mono (by decide) (by simp)
    have t_N0 : ri (mi M mo 0 1) mo 0 = 1 := ri_mi
    have h_N0 : MI pw D ow sl (mi M mo 0 1) mo pl Z := MI_scr h (rx_mi.mono (by decide) (by simp))
    rw [show mm_si M 7 0 mo 1 = mi M mo 0 1 from rfl]
    generalize mi M mo 0 1 = N0 at *
    have R_N0 := h_N0.1
    refine vv_aload_n (pc := 37) x dd_Mo_part_37 rfl ?_
    refine lg_Mo_62 (pc := 38) G x dd_Mo_part_38 R_N0.2.2 ?_
    rw [show mm_i N0 7 0 mo = 1 from t_N0]
    refine vv_if_eq (pc := 41) x dd_Mo_part_41 (tgt := 45) (by decide) (fun h41 => absurd h41 (by decide)) (fun h41 => ?_)
    exact vv_vret (pc := 44) x dd_Mo_part_44 rfl (by decide) (by decide) ⟨F_N0, Or.inr (Or.inl ⟨(fun z => by first | exact hk z.1 | exact hr z.2.1 | exact ha z.2.2), rfl, t_N0, h_N0⟩)⟩
set_option maxRecDepth 100000 in
set_option maxHeartbeats 1000000 in
theorem R_receive (G : gc g X t0 l) (h : MI pw D ow sl M mo pl Z) (hZ : zok pw Z) (hp6 : pw ≤ 600) (hlat : Z.2.2.1 < 2 ^ 31) (hml : ∀ P ∈ Z.1, P.2.2.2.1.length ≤ 512) {xv rv : Int32} (k9 : Nat) (hk9 : plc Z xv = k9) : Ok g X l yy_Mo_receive cc_Mo_receive 5 (some .int) 1 22 0 0 [.ref mo, .int xv, .int rv] M (fun v M' => rx RI9 RA mo M M' ∧ (((k9 < Z.1.length ∧ rok rv) ∧ 0 < (zget Z k9).2.2.2.1.length ∧ v = some (.int (nI ((zget Z k9).2.2.2.1.length - 1))) ∧ ri M' mo 0 = 0 ∧ MI pw D ow sl M' mo pl (zreg (zpop Z k9) k9 rv.toNatClampNeg ((zget Z k9).2.2.2.1.getD 0 0))) ∨ (¬ (k9 < Z.1.length ∧ rok rv) ∧ (∃ z, v = some (.int z)) ∧ ri M' mo 0 = 1 ∧ MI pw D ow sl M' mo pl Z) ∨ ((k9 < Z.1.length ∧ rok rv) ∧ (zget Z k9).2.2.2.1.length = 0 ∧ (∃ z, v = some (.int z)) ∧ ri M' mo 0 = 2 ∧ MI pw D ow sl M' mo pl Z))) := by
  refine ok_start (by decide) (Nat.le_of_ble_eq_true rfl) (by simp [Value.category]) ?_
  intro p e s m args below meth c9 x
  have R := h.1
  have hnm := znm hZ hlat
  have h8z := hZ.2.1
  by_cases hk : k9 < Z.1.length
  · have hp8 : pl.getD k9 0 < 8 := h.2.2.1.2.2 _ (getD_memN (by have := h.2.2.1.1; omega))
    by_cases hr : rok rv
    · have hho := zho hZ hml
      obtain ⟨⟨a1, a2, a3⟩, a4, ⟨a5, a6⟩, a7, a8⟩ := h.2.2.2.1 k9 hk
      have kk := hZ.1 _ (zget_mem hk)
      have h600 := kk.2.1.1
      have hml9 := hml _ (zget_mem hk)
      have hcp : (nI (pl.getD k9 0)).toNatClampNeg = pl.getD k9 0 := nI_clamp (by omega)
      obtain ⟨-, hj_j9, ej_j9⟩ := rok_in hr
      have gj_j9 := a4 rv.toNatClampNeg hj_j9
      generalize hq_j9 : rv.toNatClampNeg = j9 at *
      by_cases hc : 0 < (zget Z k9).2.2.2.1.length
      · have hl9 : ∀ (n mq : Nat) (M5 : mm) (N2 : mm), MI pw D ow sl N2 mo pl (zreg Z k9 j9 ((zget Z k9).2.2.2.1.getD 0 0)) → rx RI9 RA mo M N2 → ri N2 mo 0 = 0 → mq + n = (zget Z k9).2.2.2.1.length - 1 → rx [] [9, 10] mo N2 M5 → ra M5 mo 9 = upd (ra N2 mo 9) (pl.getD k9 0) (nI ((zget Z k9).2.2.2.1.length - 1)) → (∀ mq', mq' < mq → ra M5 mo 10 (520 * pl.getD k9 0 + mq') = ra N2 mo 10 (520 * pl.getD k9 0 + (mq' + 1))) → (∀ x, ¬ (520 * pl.getD k9 0 ≤ x ∧ x < 520 * pl.getD k9 0 + mq) → ra M5 mo 10 x = ra N2 mo 10 x) → vv g 5 p l e (rm 1 22 0 0) s m args below meth c9 (MQ below (ok_Q g (fun v M' => rx RI9 RA mo M M' ∧ (((k9 < Z.1.length ∧ rok rv) ∧ 0 < (zget Z k9).2.2.2.1.length ∧ v = some (.int (nI ((zget Z k9).2.2.2.1.length - 1))) ∧ ri M' mo 0 = 0 ∧ MI pw D ow sl M' mo pl (zreg (zpop Z k9) k9 j9 ((zget Z k9).2.2.2.1.getD 0 0))) ∨ (¬ (k9 < Z.1.length ∧ rok rv) ∧ (∃ z, v = some (.int z)) ∧ ri M' mo 0 = 1 ∧ MI pw D ow sl M' mo pl Z) ∨ ((k9 < Z.1.length ∧ rok rv) ∧ (zget Z k9).2.2.2.1.length = 0 ∧ (∃ z, v = some (.int z)) ∧ ri M' mo 0 = 2 ∧ MI pw D ow sl M' mo pl Z)))) args s 0 0 (ok_F g)) 0 0 82 [some (.ref mo), some (.int xv), some (.int rv), some (.int (nI (pl.getD k9 0))), some (.int (nI mq))] [] (M5) := by
          intro n
          induction n with
          | zero =>
            intro mq M5 N2 h2 F2 t2 hm F5 e9 hin hout
            have R5 := F5.to h2.1
            have g9 : mm_a M5 (mm_f M5 7 9 mo) (pl.getD k9 0) = nI ((zget Z k9).2.2.2.1.length - 1) := by
              show ra M5 mo 9 _ = _
              rw [e9, upd_eq rfl]
            have hz : zget (zreg Z k9 j9 ((zget Z k9).2.2.2.1.getD 0 0)) k9 = ((zget Z k9).1, (zget Z k9).2.1, (zget Z k9).2.2.1.set j9 ((zget Z k9).2.2.2.1.getD 0 0), (zget Z k9).2.2.2.1, (zget Z k9).2.2.2.2) := by
              unfold zreg
              rw [zget_set hk, if_pos rfl]
            have hpop := MI_pop (f10 := fun _ => 0) (i := k9) h2 (fun P hP => by
              rcases List.mem_or_eq_of_mem_set hP with e8 | e8
              · exact hho P e8
              · rw [e8]; exact hho (zget Z k9) (zget_mem hk)) (by show k9 < (List.set _ _ _).length; rw [List.length_set]; exact hk) (by rw [hz]; exact hc) F5 (by rw [hz]; exact e9) (fun mq' hm' => by rw [hz] at hm'; exact hin mq' (by have : mq' < (zget Z k9).2.2.2.1.length - 1 := hm'; omega)) (fun x hx => hout x (by omega))
            rw [zpop_reg hk] at hpop
            refine vv_iload (pc := 82) x dd_Mo_receive_82 rfl ?_
            refine vv_aload_n (pc := 84) x dd_Mo_receive_84 rfl ?_
            refine lg_Mo_22 (pc := 85) G x dd_Mo_receive_85 R5.2.2 (R5.r 9 (by decide)) ?_
            refine vv_iload_n (pc := 88) x dd_Mo_receive_88 rfl ?_
            refine vv_iald (pc := 89) x dd_Mo_receive_89 (R5.t 9 (by decide)) (in_n (N := 8) (by omega) (R5.n 9 (by decide)) (by decide)) ?_
            rw [hcp, g9]
            refine vv_icmp_ge (pc := 90) x dd_Mo_receive_90 (tgt := 127) (by decide) (fun h90 => ?_) (fun h90 => absurd h90 (fun z => z (nI_le (by omega) (by omega))))
            refine vv_aload_n (pc := 127) x dd_Mo_receive_127 rfl ?_
            refine lg_Mo_22 (pc := 128) G x dd_Mo_receive_128 R5.2.2 (R5.r 9 (by decide)) ?_
            refine vv_iload_n (pc := 131) x dd_Mo_receive_131 rfl ?_
            refine vv_iald (pc := 132) x dd_Mo_receive_132 (R5.t 9 (by decide)) (in_n (N := 8) (by omega) (R5.n 9 (by decide)) (by decide)) ?_
            rw [hcp, g9]
            exact vv_iret (pc := 133) x dd_Mo_receive_133 rfl (by decide) (by decide) ⟨F2.trans (F5.mono (by simp) (by decide)), Or.inl ⟨⟨hk, hr⟩, hc, rfl, (F5.i (by simp)).trans t2, hpop⟩⟩
          | succ n ih =>
            intro mq M5 N2 h2 F2 t2 hm F5 e9 hin hout
            have R5 := F5.to h2.1
            have g9 : mm_a M5 (mm_f M5 7 9 mo) (pl.getD k9 0) = nI ((zget Z k9).2.2.2.1.length - 1) := by
              show ra M5 mo 9 _ = _
              rw [e9, upd_eq rfl]
            refine vv_iload (pc := 82) x dd_Mo_receive_82 rfl ?_
            refine vv_aload_n (pc := 84) x dd_Mo_receive_84 rfl ?_
            refine lg_Mo_22 (pc := 85) G x dd_Mo_receive_85 R5.2.2 (R5.r 9 (by decide)) ?_
            refine vv_iload_n (pc := 88) x dd_Mo_receive_88 rfl ?_
            refine vv_iald (pc := 89) x dd_Mo_receive_89 (R5.t 9 (by decide)) (in_n (N := 8) (by omega) (R5.n 9 (by decide)) (by decide)) ?_
            rw [hcp, g9]
            refine vv_icmp_ge (pc := 90) x dd_Mo_receive_90 (tgt := 127) (by decide) (fun h90 => absurd h90 (nI_ge (by omega) (by omega))) (fun h90 => ?_)
            refine vv_aload_n (pc := 93) x dd_Mo_receive_93 rfl ?_
            refine lg_Mo_25 (pc := 94) G x dd_Mo_receive_94 R5.2.2 (R5.r 10 (by decide)) ?_
            refine vv_sipush (pc := 97) x dd_Mo_receive_97 (520) (by decide) ?_
            refine vv_iload_n (pc := 100) x dd_Mo_receive_100 rfl ?_
            refine vv_imul (pc := 101) x dd_Mo_receive_101 ?_
            refine vv_iload (pc := 102) x dd_Mo_receive_102 rfl ?_
            refine vv_iadd (pc := 104) x dd_Mo_receive_104 ?_
            rw [ix520]
            refine vv_aload_n (pc := 105) x dd_Mo_receive_105 rfl ?_
            refine lg_Mo_25 (pc := 106) G x dd_Mo_receive_106 R5.2.2 (R5.r 10 (by decide)) ?_
            refine vv_sipush (pc := 109) x dd_Mo_receive_109 (520) (by decide) ?_
            refine vv_iload_n (pc := 112) x dd_Mo_receive_112 rfl ?_
            refine vv_imul (pc := 113) x dd_Mo_receive_113 ?_
            refine vv_iload (pc := 114) x dd_Mo_receive_114 rfl ?_
            refine vv_iadd (pc := 116) x dd_Mo_receive_116 ?_
            rw [ix520]
            refine vv_iconst (pc := 117) x dd_Mo_receive_117 (1) (by decide) ?_
            refine vv_iadd (pc := 118) x dd_Mo_receive_118 ?_
            rw [nI_1]
            refine vv_iald (pc := 119) x dd_Mo_receive_119 (R5.t 10 (by decide)) (in_n (N := 4160) (by omega) (R5.n 10 (by decide)) (by decide)) ?_
            rw [nI_clamp (n := 520 * pl.getD k9 0 + mq + 1) (by omega)]
            refine vv_iast (pc := 120) x dd_Mo_receive_120 (R5.t 10 (by decide)) (in_n (N := 4160) (by omega) (R5.n 10 (by decide)) (by decide)) ?_
            rw [nI_clamp (n := 520 * pl.getD k9 0 + mq) (by omega)]
            refine vv_iinc (pc := 121) x dd_Mo_receive_121 rfl (nI_1 mq) (by decide) (ls2 := [_, _, _, _, _]) rfl ?_
            refine vv_goto (pc := 124) x dd_Mo_receive_124 (tgt := 82) (by decide) ?_
            exact ih (mq + 1) (mw M5 mo 10 (upd (ra M5 mo 10) (520 * pl.getD k9 0 + mq) (ra M5 mo 10 (520 * pl.getD k9 0 + mq + 1)))) N2 h2 F2 t2 (by omega) (F5.trans (rx_mw.mono (by simp) (by simp))) (by rw [ra_mw_n R5 (by decide) (by decide) (by decide)]; exact e9) (fun mq' hm' => by
              rw [ra_mw]
              by_cases e8 : mq' = mq
              · rw [upd_eq (by omega), e8]; exact hout _ (by omega)
              · rw [upd_ne (by omega)]; exact hin mq' (by omega)) (fun x hx => by
              rw [ra_mw, upd_ne (by omega)]
              exact hout x (by omega))
        refine vv_aload_n (pc := 0) x dd_Mo_receive_0 rfl ?_
        refine vv_iload_n (pc := 1) x dd_Mo_receive_1 rfl ?_
        refine lv_Mo_120 (pc := 2) G x dd_Mo_receive_2 (R_place G h hZ.2.2.1 hnm k9 hk9) R.2.2 ⟨by decide, by decide⟩ (by decide) (by decide) (Nat.le_of_ble_eq_true rfl) (fun v2 M2 q2 => ?_)
        obtain ⟨rfl, hm2⟩ := q2
        have hm2 := hm2.symm
        subst hm2
        rw [show (if k9 < Z.1.length then nI (pl.getD k9 0) else (-1 : Int32)) = nI (pl.getD k9 0) from if_pos hk]
        refine vv_istore_n (pc := 5) x dd_Mo_receive_5 (by decide) (ls2 := [_, _, _, _, none]) rfl ?_
        refine vv_aload_n (pc := 6) x dd_Mo_receive_6 rfl ?_
        refine vv_iload_n (pc := 7) x dd_Mo_receive_7 rfl ?_
        refine vv_if_lt (pc := 8) x dd_Mo_receive_8 (tgt := 19) (by decide) (fun h8 => absurd h8 (nI_pos (by omega))) (fun h8 => ?_)
        refine vv_aload_n (pc := 11) x dd_Mo_receive_11 rfl ?_
        refine vv_iload_n (pc := 12) x dd_Mo_receive_12 rfl ?_
        refine lv_Mo_123 (pc := 13) G x dd_Mo_receive_13 (k_rnoReg G) R.2.2 ⟨by decide, by decide⟩ (by decide) (by decide) (Nat.le_of_ble_eq_true rfl) (fun v13 M13 q13 => ?_)
        obtain ⟨rfl, hm13⟩ := q13
        have hm13 := hm13.symm
        subst hm13
        rw [show (if ¬ rv < 0 ∧ rv < 4 then (0 : Int32) else 1) = 0 from if_pos hr]
        refine vv_if_eq (pc := 16) x dd_Mo_receive_16 (tgt := 23) (by decide) (fun h16 => ?_) (fun h16 => absurd h16 (fun z => z rfl))
        refine vv_aload_n (pc := 23) x dd_Mo_receive_23 rfl ?_
        refine lg_Mo_22 (pc := 24) G x dd_Mo_receive_24 R.2.2 (R.r 9 (by decide)) ?_
        refine vv_iload_n (pc := 27) x dd_Mo_receive_27 rfl ?_
        refine vv_iald (pc := 28) x dd_Mo_receive_28 (R.t 9 (by decide)) (in_n (N := 8) (by omega) (R.n 9 (by decide)) (by decide)) ?_
        rw [hcp, show mm_a M (mm_f M 7 9 mo) (pl.getD k9 0) = nI (zget Z k9).2.2.2.1.length from a5]
        refine vv_if_ne (pc := 29) x dd_Mo_receive_29 (tgt := 36) (by decide) (fun h29 => ?_) (fun h29 => absurd h29 (nI_ne0 hc (by omega)))
        refine vv_iconst (pc := 36) x dd_Mo_receive_36 (0) (by decide) ?_
        refine lp_Mo_62 (pc := 37) G x dd_Mo_receive_37 R.2.2 ?_
        have F_N0 : rx RI9 RA mo M (mi M mo 0 0) := rx_mi.mono (by decide) (by simp)
        have t_N0 : ri (mi M mo 0 0) mo 0 = 0 := ri_mi
        have h_N0 : MI pw D ow sl (mi M mo 0 0) mo pl Z := MI_scr h (rx_mi.mono (by decide) (by simp))
        rw [show mm_si M 7 0 mo 0 = mi M mo 0 0 from rfl]
        generalize mi M mo 0 0 = N0 at *
        have R_N0 := h_N0.1
        refine vv_aload_n (pc := 40) x dd_Mo_receive_40 rfl ?_
        refine lg_Mo_62 (pc := 41) G x dd_Mo_receive_41 R_N0.2.2 ?_
        rw [show mm_i N0 7 0 mo = 0 from t_N0]
        refine vv_if_eq (pc := 44) x dd_Mo_receive_44 (tgt := 49) (by decide) (fun h44 => ?_) (fun h44 => absurd h44 (fun z => z rfl))
        refine vv_aload_n (pc := 49) x dd_Mo_receive_49 rfl ?_
        refine lg_Mo_19 (pc := 50) G x dd_Mo_receive_50 R_N0.2.2 (R_N0.r 8 (by decide)) ?_
        refine vv_iconst (pc := 53) x dd_Mo_receive_53 (4) (by decide) ?_
        refine vv_iload_n (pc := 54) x dd_Mo_receive_54 rfl ?_
        refine vv_imul (pc := 55) x dd_Mo_receive_55 ?_
        refine vv_iload_n (pc := 56) x dd_Mo_receive_56 rfl ?_
        refine vv_iadd (pc := 57) x dd_Mo_receive_57 ?_
        rw [show (4 : Int32) * nI (pl.getD k9 0) + rv = nI (4 * pl.getD k9 0 + j9) from by rw [ej_j9]; exact ix4]
        refine vv_aload_n (pc := 58) x dd_Mo_receive_58 rfl ?_
        refine lg_Mo_25 (pc := 59) G x dd_Mo_receive_59 R_N0.2.2 (R_N0.r 10 (by decide)) ?_
        refine vv_sipush (pc := 62) x dd_Mo_receive_62 (520) (by decide) ?_
        refine vv_iload_n (pc := 65) x dd_Mo_receive_65 rfl ?_
        refine vv_imul (pc := 66) x dd_Mo_receive_66 ?_
        rw [show (520 : Int32) * nI (pl.getD k9 0) = nI (520 * pl.getD k9 0 + 0) from pk_mul 520 _]
        refine vv_iald (pc := 67) x dd_Mo_receive_67 (R_N0.t 10 (by decide)) (in_n (N := 4160) (by omega) (R_N0.n 10 (by decide)) (by decide)) ?_
        rw [nI_clamp (n := 520 * pl.getD k9 0 + 0) (by omega), show mm_a N0 (mm_f N0 7 10 mo) (520 * pl.getD k9 0 + 0) = (zget Z k9).2.2.2.1.getD 0 0 from (h_N0.2.2.2.1 k9 hk).2.2.1.2 0 hc]
        refine vv_iast (pc := 68) x dd_Mo_receive_68 (R_N0.t 8 (by decide)) (in_n (N := 32) (by omega) (R_N0.n 8 (by decide)) (by decide)) ?_
        rw [nI_clamp (n := 4 * pl.getD k9 0 + j9) (by omega), show mm_sa N0 (mm_f N0 7 8 mo) (upd (mm_a N0 (mm_f N0 7 8 mo)) (4 * pl.getD k9 0 + j9) ((zget Z k9).2.2.2.1.getD 0 0)) = mw N0 mo 8 (upd (ra N0 mo 8) (4 * pl.getD k9 0 + j9) ((zget Z k9).2.2.2.1.getD 0 0)) from rfl]
        have h2 := MI_reg (t := (zget Z k9).2.2.2.1.getD 0 0) h_N0 hho hk hj_j9 kk.1
        have F2 : rx RI9 RA mo N0 (mw N0 mo 8 (upd (ra N0 mo 8) (4 * pl.getD k9 0 + j9) ((zget Z k9).2.2.2.1.getD 0 0))) := rx_mw.mono (by simp) (by decide)
        have t2 : ri (mw N0 mo 8 (upd (ra N0 mo 8) (4 * pl.getD k9 0 + j9) ((zget Z k9).2.2.2.1.getD 0 0))) mo 0 = 0 := t_N0
        have g9 : ra (mw N0 mo 8 (upd (ra N0 mo 8) (4 * pl.getD k9 0 + j9) ((zget Z k9).2.2.2.1.getD 0 0))) mo 9 (pl.getD k9 0) = nI (zget Z k9).2.2.2.1.length := by rw [ra_mw_n R_N0 (by decide) (by decide) (by decide)]; exact (h_N0.2.2.2.1 k9 hk).2.2.1.1
        generalize mw N0 mo 8 (upd (ra N0 mo 8) (4 * pl.getD k9 0 + j9) ((zget Z k9).2.2.2.1.getD 0 0)) = N2 at *
        have R_2 := h2.1
        refine vv_aload_n (pc := 69) x dd_Mo_receive_69 rfl ?_
        refine lg_Mo_22 (pc := 70) G x dd_Mo_receive_70 R_2.2.2 (R_2.r 9 (by decide)) ?_
        refine vv_iload_n (pc := 73) x dd_Mo_receive_73 rfl ?_
        refine vv_dup2 (pc := 74) x dd_Mo_receive_74 rfl rfl ?_
        refine vv_iald (pc := 75) x dd_Mo_receive_75 (R_2.t 9 (by decide)) (in_n (N := 8) (by omega) (R_2.n 9 (by decide)) (by decide)) ?_
        rw [hcp, show mm_a N2 (mm_f N2 7 9 mo) (pl.getD k9 0) = nI (zget Z k9).2.2.2.1.length from g9]
        refine vv_iconst (pc := 76) x dd_Mo_receive_76 (1) (by decide) ?_
        refine vv_isub (pc := 77) x dd_Mo_receive_77 ?_
        rw [nI_dec (by omega)]
        refine vv_iast (pc := 78) x dd_Mo_receive_78 (R_2.t 9 (by decide)) (in_n (N := 8) (by omega) (R_2.n 9 (by decide)) (by decide)) ?_
        rw [hcp]
        refine vv_iconst (pc := 79) x dd_Mo_receive_79 (0) (by decide) ?_
        refine vv_istore (pc := 80) x dd_Mo_receive_80 (by decide) (ls2 := [_, _, _, _, _]) rfl ?_
        exact hl9 ((zget Z k9).2.2.2.1.length - 1) 0 (mw N2 mo 9 (upd (ra N2 mo 9) (pl.getD k9 0) (nI ((zget Z k9).2.2.2.1.length - 1)))) N2 h2 (F_N0.trans F2) t2 (by omega) (rx_mw.mono (by simp) (by simp)) ra_mw (fun m' hm' => by omega) (fun x hx => by rw [ra_mw_n R_2 (by decide) (by decide) (by decide)])
      · have hc0 : (zget Z k9).2.2.2.1.length = 0 := by omega
        refine vv_aload_n (pc := 0) x dd_Mo_receive_0 rfl ?_
        refine vv_iload_n (pc := 1) x dd_Mo_receive_1 rfl ?_
        refine lv_Mo_120 (pc := 2) G x dd_Mo_receive_2 (R_place G h hZ.2.2.1 hnm k9 hk9) R.2.2 ⟨by decide, by decide⟩ (by decide) (by decide) (Nat.le_of_ble_eq_true rfl) (fun v2 M2 q2 => ?_)
        obtain ⟨rfl, hm2⟩ := q2
        have hm2 := hm2.symm
        subst hm2
        rw [show (if k9 < Z.1.length then nI (pl.getD k9 0) else (-1 : Int32)) = nI (pl.getD k9 0) from if_pos hk]
        refine vv_istore_n (pc := 5) x dd_Mo_receive_5 (by decide) (ls2 := [_, _, _, _, none]) rfl ?_
        refine vv_aload_n (pc := 6) x dd_Mo_receive_6 rfl ?_
        refine vv_iload_n (pc := 7) x dd_Mo_receive_7 rfl ?_
        refine vv_if_lt (pc := 8) x dd_Mo_receive_8 (tgt := 19) (by decide) (fun h8 => absurd h8 (nI_pos (by omega))) (fun h8 => ?_)
        refine vv_aload_n (pc := 11) x dd_Mo_receive_11 rfl ?_
        refine vv_iload_n (pc := 12) x dd_Mo_receive_12 rfl ?_
        refine lv_Mo_123 (pc := 13) G x dd_Mo_receive_13 (k_rnoReg G) R.2.2 ⟨by decide, by decide⟩ (by decide) (by decide) (Nat.le_of_ble_eq_true rfl) (fun v13 M13 q13 => ?_)
        obtain ⟨rfl, hm13⟩ := q13
        have hm13 := hm13.symm
        subst hm13
        rw [show (if ¬ rv < 0 ∧ rv < 4 then (0 : Int32) else 1) = 0 from if_pos hr]
        refine vv_if_eq (pc := 16) x dd_Mo_receive_16 (tgt := 23) (by decide) (fun h16 => ?_) (fun h16 => absurd h16 (fun z => z rfl))
        refine vv_aload_n (pc := 23) x dd_Mo_receive_23 rfl ?_
        refine lg_Mo_22 (pc := 24) G x dd_Mo_receive_24 R.2.2 (R.r 9 (by decide)) ?_
        refine vv_iload_n (pc := 27) x dd_Mo_receive_27 rfl ?_
        refine vv_iald (pc := 28) x dd_Mo_receive_28 (R.t 9 (by decide)) (in_n (N := 8) (by omega) (R.n 9 (by decide)) (by decide)) ?_
        rw [hcp, show mm_a M (mm_f M 7 9 mo) (pl.getD k9 0) = nI 0 from a5.trans (by rw [hc0])]
        refine vv_if_ne (pc := 29) x dd_Mo_receive_29 (tgt := 36) (by decide) (fun h29 => absurd h29 (fun z => z rfl)) (fun h29 => ?_)
        refine vv_iconst (pc := 32) x dd_Mo_receive_32 (2) (by decide) ?_
        refine vv_goto (pc := 33) x dd_Mo_receive_33 (tgt := 37) (by decide) ?_
        refine lp_Mo_62 (pc := 37) G x dd_Mo_receive_37 R.2.2 ?_
        have F_N0 : rx RI9 RA mo M (mi M mo 0 2) := rx_mi.mono (by decide) (by simp)
        have t_N0 : ri (mi M mo 0 2) mo 0 = 2 := ri_mi
        have h_N0 : MI pw D ow sl (mi M mo 0 2) mo pl Z := MI_scr h (rx_mi.mono (by decide) (by simp))
        rw [show mm_si M 7 0 mo 2 = mi M mo 0 2 from rfl]
        generalize mi M mo 0 2 = N0 at *
        have R_N0 := h_N0.1
        refine vv_aload_n (pc := 40) x dd_Mo_receive_40 rfl ?_
        refine lg_Mo_62 (pc := 41) G x dd_Mo_receive_41 R_N0.2.2 ?_
        rw [show mm_i N0 7 0 mo = 2 from t_N0]
        refine vv_if_eq (pc := 44) x dd_Mo_receive_44 (tgt := 49) (by decide) (fun h44 => absurd h44 (by decide)) (fun h44 => ?_)
        refine vv_iconst (pc := 47) x dd_Mo_receive_47 (0) (by decide) ?_
        exact vv_iret (pc := 48) x dd_Mo_receive_48 rfl (by decide) (by decide) ⟨F_N0, Or.inr (Or.inr ⟨⟨hk, hr⟩, hc0, ⟨_, rfl⟩, t_N0, h_N0⟩)⟩
    · refine vv_aload_n (pc := 0) x dd_Mo_receive_0 rfl ?_
      refine vv_iload_n (pc := 1) x dd_Mo_receive_1 rfl ?_
      refine lv_Mo_120 (pc := 2) G x dd_Mo_receive_2 (R_place G h hZ.2.2.1 hnm k9 hk9) R.2.2 ⟨by decide, by decide⟩ (by decide) (by decide) (Nat.le_of_ble_eq_true rfl) (fun v2 M2 q2 => ?_)
      obtain ⟨rfl, hm2⟩ := q2
      have hm2 := hm2.symm
      subst hm2
      rw [show (if k9 < Z.1.length then nI (pl.getD k9 0) else (-1 : Int32)) = nI (pl.getD k9 0) from if_pos hk]
      refine vv_istore_n (pc := 5) x dd_Mo_receive_5 (by decide) (ls2 := [_, _, _, _, none]) rfl ?_
      refine vv_aload_n (pc := 6) x dd_Mo_receive_6 rfl ?_
      refine vv_iload_n (pc := 7) x dd_Mo_receive_7 rfl ?_
      refine vv_if_lt (pc := 8) x dd_Mo_receive_8 (tgt := 19) (by decide) (fun h8 => absurd h8 (nI_pos (by omega))) (fun h8 => ?_)
      refine vv_aload_n (pc := 11) x dd_Mo_receive_11 rfl ?_
      refine vv_iload_n (pc := 12) x dd_Mo_receive_12 rfl ?_
      refine lv_Mo_123 (pc := 13) G x dd_Mo_receive_13 (k_rnoReg G) R.2.2 ⟨by decide, by decide⟩ (by decide) (by decide) (Nat.le_of_ble_eq_true rfl) (fun v13 M13 q13 => ?_)
      obtain ⟨rfl, hm13⟩ := q13
      have hm13 := hm13.symm
      subst hm13
      rw [show (if ¬ rv < 0 ∧ rv < 4 then (0 : Int32) else 1) = 1 from if_neg hr]
      refine vv_if_eq (pc := 16) x dd_Mo_receive_16 (tgt := 23) (by decide) (fun h16 => absurd h16 (by decide)) (fun h16 => ?_)
      refine vv_iconst (pc := 19) x dd_Mo_receive_19 (1) (by decide) ?_
      refine vv_goto (pc := 20) x dd_Mo_receive_20 (tgt := 37) (by decide) ?_
      refine lp_Mo_62 (pc := 37) G x dd_Mo_receive_37 R.2.2 ?_
      have F_N0 : rx RI9 RA mo M (mi M mo 0 1) := rx_mi.mono (by decide) (by simp)
      have t_N0 : ri (mi M mo 0 1) mo 0 = 1 := ri_mi
      have h_N0 : MI pw D ow sl (mi M mo 0 1) mo pl Z := MI_scr h (rx_mi.mono (by decide) (by simp))
      rw [show mm_si M 7 0 mo 1 = mi M mo 0 1 from rfl]
      generalize mi M mo 0 1 = N0 at *
      have R_N0 := h_N0.1
      refine vv_aload_n (pc := 40) x dd_Mo_receive_40 rfl ?_
      refine lg_Mo_62 (pc := 41) G x dd_Mo_receive_41 R_N0.2.2 ?_
      rw [show mm_i N0 7 0 mo = 1 from t_N0]
      refine vv_if_eq (pc := 44) x dd_Mo_receive_44 (tgt := 49) (by decide) (fun h44 => absurd h44 (by decide)) (fun h44 => ?_)
      refine vv_iconst (pc := 47) x dd_Mo_receive_47 (0) (by decide) ?_
      exact vv_iret (pc := 48) x dd_Mo_receive_48 rfl (by decide) (by decide) ⟨F_N0, Or.inr (Or.inl ⟨(fun z => by first | exact hk z.1 | exact hr z.2), ⟨_, rfl⟩, t_N0, h_N0⟩)⟩
  · refine vv_aload_n (pc := 0) x dd_Mo_receive_0 rfl ?_
    refine vv_iload_n (pc := 1) x dd_Mo_receive_1 rfl ?_
    refine lv_Mo_120 (pc := 2) G x dd_Mo_receive_2 (R_place G h hZ.2.2.1 hnm k9 hk9) R.2.2 ⟨by decide, by decide⟩ (by decide) (by decide) (Nat.le_of_ble_eq_true rfl) (fun v2 M2 q2 => ?_)
    obtain ⟨rfl, hm2⟩ := q2
    have hm2 := hm2.symm
    subst hm2
    rw [show (if k9 < Z.1.length then nI (pl.getD k9 0) else (-1 : Int32)) = -1 from if_neg hk]
    refine vv_istore_n (pc := 5) x dd_Mo_receive_5 (by decide) (ls2 := [_, _, _, _, none]) rfl ?_
    refine vv_aload_n (pc := 6) x dd_Mo_receive_6 rfl ?_
    refine vv_iload_n (pc := 7) x dd_Mo_receive_7 rfl ?_
    refine vv_if_lt (pc := 8) x dd_Mo_receive_8 (tgt := 19) (by decide) (fun h8 => ?_) (fun h8 => absurd h8 (fun z => z (by decide)))
    refine vv_iconst (pc := 19) x dd_Mo_receive_19 (1) (by decide) ?_
    refine vv_goto (pc := 20) x dd_Mo_receive_20 (tgt := 37) (by decide) ?_
    refine lp_Mo_62 (pc := 37) G x dd_Mo_receive_37 R.2.2 ?_
    have F_N0 : rx RI9 RA mo M (mi M mo 0 1) := rx_mi.mono (by decide) (by simp)
    have t_N0 : ri (mi M mo 0 1) mo 0 = 1 := ri_mi
    have h_N0 : MI pw D ow sl (mi M mo 0 1) mo pl Z := MI_scr h (rx_mi.mono (by decide) (by simp))
    rw [show mm_si M 7 0 mo 1 = mi M mo 0 1 from rfl]
    generalize mi M mo 0 1 = N0 at *
    have R_N0 := h_N0.1
    refine vv_aload_n (pc := 40) x dd_Mo_receive_40 rfl ?_
    refine lg_Mo_62 (pc := 41) G x dd_Mo_receive_41 R_N0.2.2 ?_
    rw [show mm_i N0 7 0 mo = 1 from t_N0]
    refine vv_if_eq (pc := 44) x dd_Mo_receive_44 (tgt := 49) (by decide) (fun h44 => absurd h44 (by decide)) (fun h44 => ?_)
    refine vv_iconst (pc := 47) x dd_Mo_receive_47 (0) (by decide) ?_
    exact vv_iret (pc := 48) x dd_Mo_receive_48 rfl (by decide) (by decide) ⟨F_N0, Or.inr (Or.inl ⟨(fun z => by first | exact hk z.1 | exact hr z.2), ⟨_, rfl⟩, t_N0, h_N0⟩)⟩
end M57
