/-! ===== the reference: send ===== -/
section M66
variable {g : gg} {X : State → Prop} {t0 : Nat} {l : Launch} {M : mm} {M1 M2 : mm} {pw : Nat} {D : Nat → Prop} {ow sl : Nat → Nat} {mo : Nat} {Ki Ka : List Nat} {k : Nat} {pl : List Nat} {Z : zst} {B B0 : List bk} {b : bk}
theorem MI_own {i : Nat} {t : Int32} (h : MI pw D ow sl M mo pl Z) (hZ : ∀ P ∈ Z.1, hok P.2.2.2.2 ∧ P.2.2.2.1.length ≤ 512) (hi : i < Z.1.length) (hm5 : (zget Z i).2.2.2.1.length < 512) (F : rx [] [9, 10] mo M M1) (h9 : ra M1 mo 9 = upd (ra M mo 9) (pl.getD i 0) (nI ((zget Z i).2.2.2.1.length + 1))) (h10 : ra M1 mo 10 = upd (ra M mo 10) (520 * pl.getD i 0 + (zget Z i).2.2.2.1.length) t) : MI pw D ow sl M1 mo pl (zown Z i t) := by
  obtain ⟨R, ⟨i1, i2, i3, i4⟩, ⟨l1, l2, l3⟩, hA, hE, q1, q2⟩ := id h
  have e : ∀ k, k ∈ RA → k ∉ [9, 10] → ra M1 mo k = ra M mo k := fun k h1 h2 => F.a R h1 (by decide) h2
  obtain ⟨⟨a1, a2, a3⟩, a4, ⟨a5, a6⟩, a7, a8⟩ := hA i hi
  refine (MI_step (Z := Z) (P' := ((zget Z i).1, (zget Z i).2.1, (zget Z i).2.2.1, (zget Z i).2.2.2.1 ++ [t], (zget Z i).2.2.2.2)) (p' := Z.2.1) (x := Z.2.2.1) (y := Z.2.2.2) h hZ F hi (fun p hp hne => ?_) ?_ (F.i (by simp)) ((F.i (by simp)).trans i2) (F.i (by simp)) ((F.i (by simp)).trans i4) ⟨(F.i (by simp)).trans q1, fun w hw => ?_⟩ : _)
  · unfold sameP
    rw [e 5 (by decide) (by decide), e 6 (by decide) (by decide), e 7 (by decide) (by decide), e 8 (by decide) (by decide), e 11 (by decide) (by decide), e 12 (by decide) (by decide), h9, h10, upd_ne hne]
    exact ⟨rfl, rfl, rfl, fun _ _ => rfl, rfl, fun x hx => upd_ne (by omega), fun _ _ => rfl, fun _ _ => rfl⟩
  · unfold RP
    rw [e 5 (by decide) (by decide), e 6 (by decide) (by decide), e 7 (by decide) (by decide), e 8 (by decide) (by decide), e 11 (by decide) (by decide), e 12 (by decide) (by decide), h9, h10, upd_eq rfl]
    refine ⟨⟨a1, a2, a3⟩, a4, ⟨?_, fun x hx => ?_⟩, a7, a8⟩
    · show _ = nI ((zget Z i).2.2.2.1 ++ [_]).length
      simp
    · have hx2 : x < (zget Z i).2.2.2.1.length + 1 := by
        have : x < ((zget Z i).2.2.2.1 ++ [t]).length := hx
        simpa using this
      show _ = ((zget Z i).2.2.2.1 ++ [t]).getD x 0
      by_cases z : x = (zget Z i).2.2.2.1.length
      · rw [upd_eq (by omega), z, List.getD_eq_getElem?_getD, List.getElem?_append_right (by omega)]
        simp
      · rw [upd_ne (by omega), a6 x (by omega), List.getD_eq_getElem?_getD, List.getD_eq_getElem?_getD, List.getElem?_append_left (by omega)]
  · rw [e 14 (by decide) (by decide), e 15 (by decide) (by decide)]; exact q2 w hw
set_option maxRecDepth 100000 in
set_option maxHeartbeats 1000000 in
theorem R_send (G : gc g X t0 l) (h : MI pw D ow sl M mo pl Z) (hZ : zok pw Z) (hp6 : pw ≤ 600) (hlat : Z.2.2.1 < 2 ^ 31) (hml : ∀ P ∈ Z.1, P.2.2.2.1.length ≤ 512) {xv rv : Int32} (k9 : Nat) (hk9 : plc Z xv = k9) (hm5 : ∀ P ∈ Z.1, P.2.2.2.1.length < 512) {tv : Int32} (k2 : Nat) (hk2 : plc Z tv = k2) (Rs : Bool × zst) (hRs : k9 < Z.1.length → zsend Z k9 k2 (zrg Z k9 rv) = Rs) : Ok g X l yy_Mo_send cc_Mo_send 6 (some .boolean) 8 188 0 0 [.ref mo, .int xv, .int rv, .int tv] M (fun v M' => rx RI9 RA mo M M' ∧ (((k9 < Z.1.length ∧ rok rv) ∧ k2 < Z.1.length ∧ Rs.1 = true ∧ v = some (.int 1) ∧ ri M' mo 0 = 0 ∧ MI pw D ow sl M' mo pl Rs.2) ∨ ((k9 < Z.1.length ∧ rok rv) ∧ ¬ k2 < Z.1.length ∧ v = some (.int 0) ∧ ri M' mo 0 = 0 ∧ MI pw D ow sl M' mo pl Z) ∨ (¬ (k9 < Z.1.length ∧ rok rv) ∧ (∃ z, v = some (.int z)) ∧ ri M' mo 0 = 1 ∧ MI pw D ow sl M' mo pl Z) ∨ ((k9 < Z.1.length ∧ rok rv) ∧ k2 < Z.1.length ∧ ¬ Rs.1 = true ∧ (∃ z, v = some (.int z)) ∧ ri M' mo 0 = 2 ∧ MI pw D ow sl M' mo pl Rs.2))) := by
  refine ok_start (by decide) (Nat.le_of_ble_eq_true rfl) (by simp [Value.category]) ?_
  intro p e s m args below meth c9 x
  have R := h.1
  have hnm := znm hZ hlat
  have h8z := hZ.2.1
  by_cases hk : k9 < Z.1.length
  · have hp8 : pl.getD k9 0 < 8 := h.2.2.1.2.2 _ (getD_memN (by have := h.2.2.1.1; omega))
    by_cases hr : rok rv
    · have hho := zho hZ hml
      obtain ⟨⟨a1, a2, a3⟩, a4, ⟨a5, a6⟩, a7, a8⟩ := h.2.2.2.1 k9 hk
      have kk := hZ.1 _ (zget_mem hk)
      have h600 := kk.2.1.1
      have hml9 := hml _ (zget_mem hk)
      have hcp : (nI (pl.getD k9 0)).toNatClampNeg = pl.getD k9 0 := nI_clamp (by omega)
      obtain ⟨-, hj_j9, ej_j9⟩ := rok_in hr
      have gj_j9 := a4 rv.toNatClampNeg hj_j9
      generalize hq_j9 : rv.toNatClampNeg = j9 at *
      have hvt := zrg_vt hZ hk hr
      have gt : zrg Z k9 rv = (zget Z k9).2.2.1.getD j9 0 := by unfold zrg; rw [hq_j9]
      have hRs' := hRs hk
      by_cases hq2 : k2 < Z.1.length
      · have hp82 : pl.getD k2 0 < 8 := h.2.2.1.2.2 _ (getD_memN (by have := h.2.2.1.1; omega))
        unfold zsend at hRs'
        by_cases e2 : k2 = k9
        · rw [if_pos e2] at hRs'
          refine vv_aload_n (pc := 0) x dd_Mo_send_0 rfl ?_
          refine vv_iload_n (pc := 1) x dd_Mo_send_1 rfl ?_
          refine lv_Mo_120 (pc := 2) G x dd_Mo_send_2 (R_place G h hZ.2.2.1 hnm k9 hk9) R.2.2 ⟨by decide, by decide⟩ (by decide) (by decide) (Nat.le_of_ble_eq_true rfl) (fun v2 M2 q2 => ?_)
          obtain ⟨rfl, hm2⟩ := q2
          have hm2 := hm2.symm
          subst hm2
          rw [show (if k9 < Z.1.length then nI (pl.getD k9 0) else (-1 : Int32)) = nI (pl.getD k9 0) from if_pos hk]
          refine vv_istore (pc := 5) x dd_Mo_send_5 (by decide) (ls2 := [_, _, _, _, _, none]) rfl ?_
          refine vv_aload_n (pc := 7) x dd_Mo_send_7 rfl ?_
          refine vv_iload (pc := 8) x dd_Mo_send_8 rfl ?_
          refine vv_if_lt (pc := 10) x dd_Mo_send_10 (tgt := 21) (by decide) (fun h10 => absurd h10 (nI_pos (by omega))) (fun h10 => ?_)
          refine vv_aload_n (pc := 13) x dd_Mo_send_13 rfl ?_
          refine vv_iload_n (pc := 14) x dd_Mo_send_14 rfl ?_
          refine lv_Mo_123 (pc := 15) G x dd_Mo_send_15 (k_rnoReg G) R.2.2 ⟨by decide, by decide⟩ (by decide) (by decide) (Nat.le_of_ble_eq_true rfl) (fun v15 M15 q15 => ?_)
          obtain ⟨rfl, hm15⟩ := q15
          have hm15 := hm15.symm
          subst hm15
          rw [show (if ¬ rv < 0 ∧ rv < 4 then (0 : Int32) else 1) = 0 from if_pos hr]
          refine vv_if_eq (pc := 18) x dd_Mo_send_18 (tgt := 25) (by decide) (fun h18 => ?_) (fun h18 => absurd h18 (fun z => z rfl))
          refine vv_iconst (pc := 25) x dd_Mo_send_25 (0) (by decide) ?_
          refine lp_Mo_62 (pc := 26) G x dd_Mo_send_26 R.2.2 ?_
          have F_N0 : rx RI9 RA mo M (mi M mo 0 0) := rx_mi.mono (by decide) (by simp)
          have t_N0 : ri (mi M mo 0 0) mo 0 = 0 := ri_mi
          have h_N0 : MI pw D ow sl (mi M mo 0 0) mo pl Z := MI_scr h (rx_mi.mono (by decide) (by simp))
          rw [show mm_si M 7 0 mo 0 = mi M mo 0 0 from rfl]
          generalize mi M mo 0 0 = N0 at *
          have R_N0 := h_N0.1
          refine vv_aload_n (pc := 29) x dd_Mo_send_29 rfl ?_
          refine vv_iload_n (pc := 30) x dd_Mo_send_30 rfl ?_
          refine lv_Mo_120 (pc := 31) G x dd_Mo_send_31 (R_place G h_N0 hZ.2.2.1 hnm k2 hk2) R_N0.2.2 ⟨by decide, by decide⟩ (by decide) (by decide) (Nat.le_of_ble_eq_true rfl) (fun v31 M31 q31 => ?_)
          obtain ⟨rfl, hm31⟩ := q31
          have hm31 := hm31.symm
          subst hm31
          rw [show (if k2 < Z.1.length then nI (pl.getD k2 0) else (-1 : Int32)) = nI (pl.getD k2 0) from if_pos hq2]
          refine vv_istore (pc := 34) x dd_Mo_send_34 (by decide) (ls2 := [_, _, _, _, _, _]) rfl ?_
          refine vv_aload_n (pc := 36) x dd_Mo_send_36 rfl ?_
          refine lg_Mo_62 (pc := 37) G x dd_Mo_send_37 R_N0.2.2 ?_
          rw [show mm_i N0 7 0 mo = 0 from t_N0]
          refine vv_if_ne (pc := 40) x dd_Mo_send_40 (tgt := 48) (by decide) (fun h40 => absurd h40 (fun z => z rfl)) (fun h40 => ?_)
          refine vv_iload (pc := 43) x dd_Mo_send_43 rfl ?_
          refine vv_if_ge (pc := 45) x dd_Mo_send_45 (tgt := 50) (by decide) (fun h45 => ?_) (fun h45 => absurd h45 (fun z => z (nI_pos' (by omega))))
          refine vv_iload (pc := 50) x dd_Mo_send_50 rfl ?_
          refine vv_iload (pc := 52) x dd_Mo_send_52 rfl ?_
          refine vv_icmp_ne (pc := 54) x dd_Mo_send_54 (tgt := 100) (by decide) (fun h54 => absurd h54 (fun z => z (by rw [e2]))) (fun h54 => ?_)
          refine vv_aload_n (pc := 57) x dd_Mo_send_57 rfl ?_
          refine lg_Mo_25 (pc := 58) G x dd_Mo_send_58 R_N0.2.2 (R_N0.r 10 (by decide)) ?_
          refine vv_sipush (pc := 61) x dd_Mo_send_61 (520) (by decide) ?_
          refine vv_iload (pc := 64) x dd_Mo_send_64 rfl ?_
          refine vv_imul (pc := 66) x dd_Mo_send_66 ?_
          refine vv_aload_n (pc := 67) x dd_Mo_send_67 rfl ?_
          refine lg_Mo_22 (pc := 68) G x dd_Mo_send_68 R_N0.2.2 (R_N0.r 9 (by decide)) ?_
          refine vv_iload (pc := 71) x dd_Mo_send_71 rfl ?_
          refine vv_iald (pc := 73) x dd_Mo_send_73 (R_N0.t 9 (by decide)) (in_n (N := 8) (by omega) (R_N0.n 9 (by decide)) (by decide)) ?_
          rw [hcp, show mm_a N0 (mm_f N0 7 9 mo) (pl.getD k9 0) = nI (zget Z k9).2.2.2.1.length from (h_N0.2.2.2.1 k9 hk).2.2.1.1]
          refine vv_iadd (pc := 74) x dd_Mo_send_74 ?_
          rw [ix520]
          refine vv_aload_n (pc := 75) x dd_Mo_send_75 rfl ?_
          refine lg_Mo_19 (pc := 76) G x dd_Mo_send_76 R_N0.2.2 (R_N0.r 8 (by decide)) ?_
          refine vv_iconst (pc := 79) x dd_Mo_send_79 (4) (by decide) ?_
          refine vv_iload (pc := 80) x dd_Mo_send_80 rfl ?_
          refine vv_imul (pc := 82) x dd_Mo_send_82 ?_
          refine vv_iload_n (pc := 83) x dd_Mo_send_83 rfl ?_
          refine vv_iadd (pc := 84) x dd_Mo_send_84 ?_
          rw [show (4 : Int32) * nI (pl.getD k9 0) + rv = nI (4 * pl.getD k9 0 + j9) from by rw [ej_j9]; exact ix4]
          refine vv_iald (pc := 85) x dd_Mo_send_85 (R_N0.t 8 (by decide)) (in_n (N := 32) (by omega) (R_N0.n 8 (by decide)) (by decide)) ?_
          rw [nI_clamp (n := 4 * pl.getD k9 0 + j9) (by omega), show mm_a N0 (mm_f N0 7 8 mo) (4 * pl.getD k9 0 + j9) = zrg Z k9 rv from by rw [gt]; exact (h_N0.2.2.2.1 k9 hk).2.1 j9 hj_j9]
          refine vv_iast (pc := 86) x dd_Mo_send_86 (R_N0.t 10 (by decide)) (in_n (N := 4160) (by omega) (R_N0.n 10 (by decide)) (by decide)) ?_
          rw [nI_clamp (n := 520 * pl.getD k9 0 + (zget Z k9).2.2.2.1.length) (by omega), show mm_sa N0 (mm_f N0 7 10 mo) (upd (mm_a N0 (mm_f N0 7 10 mo)) (520 * pl.getD k9 0 + (zget Z k9).2.2.2.1.length) (zrg Z k9 rv)) = mw N0 mo 10 (upd (ra N0 mo 10) (520 * pl.getD k9 0 + (zget Z k9).2.2.2.1.length) (zrg Z k9 rv)) from rfl]
          have FB : rx [] [10] mo N0 (mw N0 mo 10 (upd (ra N0 mo 10) (520 * pl.getD k9 0 + (zget Z k9).2.2.2.1.length) (zrg Z k9 rv))) := rx_mw
          have wB : ra (mw N0 mo 10 (upd (ra N0 mo 10) (520 * pl.getD k9 0 + (zget Z k9).2.2.2.1.length) (zrg Z k9 rv))) mo 10 = upd (ra N0 mo 10) (520 * pl.getD k9 0 + (zget Z k9).2.2.2.1.length) (zrg Z k9 rv) := ra_mw
          generalize mw N0 mo 10 (upd (ra N0 mo 10) (520 * pl.getD k9 0 + (zget Z k9).2.2.2.1.length) (zrg Z k9 rv)) = N2 at *
          have R_2 := FB.to R_N0
          have g9b : mm_a N2 (mm_f N2 7 9 mo) (pl.getD k9 0) = nI (zget Z k9).2.2.2.1.length := by show ra N2 mo 9 _ = _; rw [FB.a R_N0 (by decide) (by decide) (by decide)]; exact (h_N0.2.2.2.1 k9 hk).2.2.1.1
          refine vv_aload_n (pc := 87) x dd_Mo_send_87 rfl ?_
          refine lg_Mo_22 (pc := 88) G x dd_Mo_send_88 R_2.2.2 (R_2.r 9 (by decide)) ?_
          refine vv_iload (pc := 91) x dd_Mo_send_91 rfl ?_
          refine vv_dup2 (pc := 93) x dd_Mo_send_93 rfl rfl ?_
          refine vv_iald (pc := 94) x dd_Mo_send_94 (R_2.t 9 (by decide)) (in_n (N := 8) (by omega) (R_2.n 9 (by decide)) (by decide)) ?_
          rw [hcp, g9b]
          refine vv_iconst (pc := 95) x dd_Mo_send_95 (1) (by decide) ?_
          refine vv_iadd (pc := 96) x dd_Mo_send_96 ?_
          rw [nI_1]
          refine vv_iast (pc := 97) x dd_Mo_send_97 (R_2.t 9 (by decide)) (in_n (N := 8) (by omega) (R_2.n 9 (by decide)) (by decide)) ?_
          rw [hcp, show mm_sa N2 (mm_f N2 7 9 mo) (upd (mm_a N2 (mm_f N2 7 9 mo)) (pl.getD k9 0) (nI ((zget Z k9).2.2.2.1.length + 1))) = mw N2 mo 9 (upd (ra N2 mo 9) (pl.getD k9 0) (nI ((zget Z k9).2.2.2.1.length + 1))) from rfl]
          have FC : rx [] [9, 10] mo N0 (mw N2 mo 9 (upd (ra N2 mo 9) (pl.getD k9 0) (nI ((zget Z k9).2.2.2.1.length + 1)))) := (FB.mono (by simp) (by simp)).trans (rx_mw.mono (by simp) (by simp))
          have wC : ra (mw N2 mo 9 (upd (ra N2 mo 9) (pl.getD k9 0) (nI ((zget Z k9).2.2.2.1.length + 1)))) mo 9 = upd (ra N0 mo 9) (pl.getD k9 0) (nI ((zget Z k9).2.2.2.1.length + 1)) := by rw [ra_mw, FB.a R_N0 (by decide) (by decide) (by decide)]
          have wC2 : ra (mw N2 mo 9 (upd (ra N2 mo 9) (pl.getD k9 0) (nI ((zget Z k9).2.2.2.1.length + 1)))) mo 10 = upd (ra N0 mo 10) (520 * pl.getD k9 0 + (zget Z k9).2.2.2.1.length) (zrg Z k9 rv) := by rw [ra_mw_n R_2 (by decide) (by decide) (by decide), wB]
          generalize mw N2 mo 9 (upd (ra N2 mo 9) (pl.getD k9 0) (nI ((zget Z k9).2.2.2.1.length + 1))) = N3 at *
          have hO := MI_own (t := zrg Z k9 rv) h_N0 hho hk (hm5 _ (zget_mem hk)) FC wC wC2
          refine vv_iconst (pc := 98) x dd_Mo_send_98 (1) (by decide) ?_
          exact vv_zret (pc := 99) x dd_Mo_send_99 rfl (Or.inr rfl) (by decide) (by decide) ⟨F_N0.trans (FC.mono (by simp) (by decide)), Or.inl ⟨⟨hk, hr⟩, hq2, by rw [← hRs'], rfl, (FC.i (by simp)).trans t_N0, by rw [← hRs']; exact hO⟩⟩
        · rw [if_neg e2] at hRs'
          by_cases hc : Rs.1 = true
          · refine vv_aload_n (pc := 0) x dd_Mo_send_0 rfl ?_
            refine vv_iload_n (pc := 1) x dd_Mo_send_1 rfl ?_
            refine lv_Mo_120 (pc := 2) G x dd_Mo_send_2 (R_place G h hZ.2.2.1 hnm k9 hk9) R.2.2 ⟨by decide, by decide⟩ (by decide) (by decide) (Nat.le_of_ble_eq_true rfl) (fun v2 M2 q2 => ?_)
            obtain ⟨rfl, hm2⟩ := q2
            have hm2 := hm2.symm
            subst hm2
            rw [show (if k9 < Z.1.length then nI (pl.getD k9 0) else (-1 : Int32)) = nI (pl.getD k9 0) from if_pos hk]
            refine vv_istore (pc := 5) x dd_Mo_send_5 (by decide) (ls2 := [_, _, _, _, _, none]) rfl ?_
            refine vv_aload_n (pc := 7) x dd_Mo_send_7 rfl ?_
            refine vv_iload (pc := 8) x dd_Mo_send_8 rfl ?_
            refine vv_if_lt (pc := 10) x dd_Mo_send_10 (tgt := 21) (by decide) (fun h10 => absurd h10 (nI_pos (by omega))) (fun h10 => ?_)
            refine vv_aload_n (pc := 13) x dd_Mo_send_13 rfl ?_
            refine vv_iload_n (pc := 14) x dd_Mo_send_14 rfl ?_
            refine lv_Mo_123 (pc := 15) G x dd_Mo_send_15 (k_rnoReg G) R.2.2 ⟨by decide, by decide⟩ (by decide) (by decide) (Nat.le_of_ble_eq_true rfl) (fun v15 M15 q15 => ?_)
            obtain ⟨rfl, hm15⟩ := q15
            have hm15 := hm15.symm
            subst hm15
            rw [show (if ¬ rv < 0 ∧ rv < 4 then (0 : Int32) else 1) = 0 from if_pos hr]
            refine vv_if_eq (pc := 18) x dd_Mo_send_18 (tgt := 25) (by decide) (fun h18 => ?_) (fun h18 => absurd h18 (fun z => z rfl))
            refine vv_iconst (pc := 25) x dd_Mo_send_25 (0) (by decide) ?_
            refine lp_Mo_62 (pc := 26) G x dd_Mo_send_26 R.2.2 ?_
            have F_N0 : rx RI9 RA mo M (mi M mo 0 0) := rx_mi.mono (by decide) (by simp)
            have t_N0 : ri (mi M mo 0 0) mo 0 = 0 := ri_mi
            have h_N0 : MI pw D ow sl (mi M mo 0 0) mo pl Z := MI_scr h (rx_mi.mono (by decide) (by simp))
            rw [show mm_si M 7 0 mo 0 = mi M mo 0 0 from rfl]
            generalize mi M mo 0 0 = N0 at *
            have R_N0 := h_N0.1
            refine vv_aload_n (pc := 29) x dd_Mo_send_29 rfl ?_
            refine vv_iload_n (pc := 30) x dd_Mo_send_30 rfl ?_
            refine lv_Mo_120 (pc := 31) G x dd_Mo_send_31 (R_place G h_N0 hZ.2.2.1 hnm k2 hk2) R_N0.2.2 ⟨by decide, by decide⟩ (by decide) (by decide) (Nat.le_of_ble_eq_true rfl) (fun v31 M31 q31 => ?_)
            obtain ⟨rfl, hm31⟩ := q31
            have hm31 := hm31.symm
            subst hm31
            rw [show (if k2 < Z.1.length then nI (pl.getD k2 0) else (-1 : Int32)) = nI (pl.getD k2 0) from if_pos hq2]
            refine vv_istore (pc := 34) x dd_Mo_send_34 (by decide) (ls2 := [_, _, _, _, _, _]) rfl ?_
            refine vv_aload_n (pc := 36) x dd_Mo_send_36 rfl ?_
            refine lg_Mo_62 (pc := 37) G x dd_Mo_send_37 R_N0.2.2 ?_
            rw [show mm_i N0 7 0 mo = 0 from t_N0]
            refine vv_if_ne (pc := 40) x dd_Mo_send_40 (tgt := 48) (by decide) (fun h40 => absurd h40 (fun z => z rfl)) (fun h40 => ?_)
            refine vv_iload (pc := 43) x dd_Mo_send_43 rfl ?_
            refine vv_if_ge (pc := 45) x dd_Mo_send_45 (tgt := 50) (by decide) (fun h45 => ?_) (fun h45 => absurd h45 (fun z => z (nI_pos' (by omega))))
            refine vv_iload (pc := 50) x dd_Mo_send_50 rfl ?_
            refine vv_iload (pc := 52) x dd_Mo_send_52 rfl ?_
            refine vv_icmp_ne (pc := 54) x dd_Mo_send_54 (tgt := 100) (by decide) (fun h54 => ?_) (fun h54 => absurd h54 (fun z => pl_ne h.2.2.1.2.1 (by have := h.2.2.1.1; omega) (by have := h.2.2.1.1; omega) e2 ((nI_eq (by omega) (by omega)).mp z)))
            refine vv_aload_n (pc := 100) x dd_Mo_send_100 rfl ?_
            refine vv_aload_n (pc := 101) x dd_Mo_send_101 rfl ?_
            refine vv_iload (pc := 102) x dd_Mo_send_102 rfl ?_
            refine vv_aload_n (pc := 104) x dd_Mo_send_104 rfl ?_
            refine lg_Mo_19 (pc := 105) G x dd_Mo_send_105 R_N0.2.2 (R_N0.r 8 (by decide)) ?_
            refine vv_iconst (pc := 108) x dd_Mo_send_108 (4) (by decide) ?_
            refine vv_iload (pc := 109) x dd_Mo_send_109 rfl ?_
            refine vv_imul (pc := 111) x dd_Mo_send_111 ?_
            refine vv_iload_n (pc := 112) x dd_Mo_send_112 rfl ?_
            refine vv_iadd (pc := 113) x dd_Mo_send_113 ?_
            rw [show (4 : Int32) * nI (pl.getD k9 0) + rv = nI (4 * pl.getD k9 0 + j9) from by rw [ej_j9]; exact ix4]
            refine vv_iald (pc := 114) x dd_Mo_send_114 (R_N0.t 8 (by decide)) (in_n (N := 32) (by omega) (R_N0.n 8 (by decide)) (by decide)) ?_
            rw [nI_clamp (n := 4 * pl.getD k9 0 + j9) (by omega), show mm_a N0 (mm_f N0 7 8 mo) (4 * pl.getD k9 0 + j9) = zrg Z k9 rv from by rw [gt]; exact (h_N0.2.2.2.1 k9 hk).2.1 j9 hj_j9]
            refine vv_iload (pc := 115) x dd_Mo_send_115 rfl ?_
            refine lv_Mo_141 (pc := 117) G x dd_Mo_send_117 (R_pass G h_N0 hZ hp6 hlat hml hk hq2 (fun z => e2 z.symm) hvt (hm5 _ (zget_mem hq2)) Rs hRs') R_N0.2.2 ⟨by decide, by decide⟩ (by decide) (by decide) (Nat.le_of_ble_eq_true rfl) (fun v117 M117 q117 => ?_)
            obtain ⟨rfl, F_P, h_P⟩ := q117
            have R_P := h_P.1
            have F_P2 : rx RI9 RA mo N0 M117 := F_P.mono (by decide) (by decide)
            rw [show (if Rs.1 = true then (1 : Int32) else 0) = 1 from if_pos hc]
            refine vv_if_eq (pc := 120) x dd_Mo_send_120 (tgt := 127) (by decide) (fun h120 => absurd h120 (by decide)) (fun h120 => ?_)
            refine vv_iconst (pc := 123) x dd_Mo_send_123 (0) (by decide) ?_
            refine vv_goto (pc := 124) x dd_Mo_send_124 (tgt := 128) (by decide) ?_
            refine lp_Mo_62 (pc := 128) G x dd_Mo_send_128 R_P.2.2 ?_
            have F_N1 : rx RI9 RA mo M117 (mi M117 mo 0 0) := rx_mi.mono (by decide) (by simp)
            have t_N1 : ri (mi M117 mo 0 0) mo 0 = 0 := ri_mi
            have h_N1 : MI pw D ow sl (mi M117 mo 0 0) mo pl Rs.2 := MI_scr h_P (rx_mi.mono (by decide) (by simp))
            rw [show mm_si M117 7 0 mo 0 = mi M117 mo 0 0 from rfl]
            generalize mi M117 mo 0 0 = N1 at *
            have R_N1 := h_N1.1
            refine vv_aload_n (pc := 131) x dd_Mo_send_131 rfl ?_
            refine lg_Mo_62 (pc := 132) G x dd_Mo_send_132 R_N1.2.2 ?_
            rw [show mm_i N1 7 0 mo = 0 from t_N1]
            refine vv_if_ne (pc := 135) x dd_Mo_send_135 (tgt := 142) (by decide) (fun h135 => absurd h135 (fun z => z rfl)) (fun h135 => ?_)
            refine vv_iconst (pc := 138) x dd_Mo_send_138 (1) (by decide) ?_
            refine vv_goto (pc := 139) x dd_Mo_send_139 (tgt := 143) (by decide) ?_
            exact vv_zret (pc := 143) x dd_Mo_send_143 rfl (Or.inr rfl) (by decide) (by decide) ⟨(F_N0.trans F_P2).trans F_N1, Or.inl ⟨⟨hk, hr⟩, hq2, hc, rfl, t_N1, h_N1⟩⟩
          · refine vv_aload_n (pc := 0) x dd_Mo_send_0 rfl ?_
            refine vv_iload_n (pc := 1) x dd_Mo_send_1 rfl ?_
            refine lv_Mo_120 (pc := 2) G x dd_Mo_send_2 (R_place G h hZ.2.2.1 hnm k9 hk9) R.2.2 ⟨by decide, by decide⟩ (by decide) (by decide) (Nat.le_of_ble_eq_true rfl) (fun v2 M2 q2 => ?_)
            obtain ⟨rfl, hm2⟩ := q2
            have hm2 := hm2.symm
            subst hm2
            rw [show (if k9 < Z.1.length then nI (pl.getD k9 0) else (-1 : Int32)) = nI (pl.getD k9 0) from if_pos hk]
            refine vv_istore (pc := 5) x dd_Mo_send_5 (by decide) (ls2 := [_, _, _, _, _, none]) rfl ?_
            refine vv_aload_n (pc := 7) x dd_Mo_send_7 rfl ?_
            refine vv_iload (pc := 8) x dd_Mo_send_8 rfl ?_
            refine vv_if_lt (pc := 10) x dd_Mo_send_10 (tgt := 21) (by decide) (fun h10 => absurd h10 (nI_pos (by omega))) (fun h10 => ?_)
            refine vv_aload_n (pc := 13) x dd_Mo_send_13 rfl ?_
            refine vv_iload_n (pc := 14) x dd_Mo_send_14 rfl ?_
            refine lv_Mo_123 (pc := 15) G x dd_Mo_send_15 (k_rnoReg G) R.2.2 ⟨by decide, by decide⟩ (by decide) (by decide) (Nat.le_of_ble_eq_true rfl) (fun v15 M15 q15 => ?_)
            obtain ⟨rfl, hm15⟩ := q15
            have hm15 := hm15.symm
            subst hm15
            rw [show (if ¬ rv < 0 ∧ rv < 4 then (0 : Int32) else 1) = 0 from if_pos hr]
            refine vv_if_eq (pc := 18) x dd_Mo_send_18 (tgt := 25) (by decide) (fun h18 => ?_) (fun h18 => absurd h18 (fun z => z rfl))
            refine vv_iconst (pc := 25) x dd_Mo_send_25 (0) (by decide) ?_
            refine lp_Mo_62 (pc := 26) G x dd_Mo_send_26 R.2.2 ?_
            have F_N0 : rx RI9 RA mo M (mi M mo 0 0) := rx_mi.mono (by decide) (by simp)
            have t_N0 : ri (mi M mo 0 0) mo 0 = 0 := ri_mi
            have h_N0 : MI pw D ow sl (mi M mo 0 0) mo pl Z := MI_scr h (rx_mi.mono (by decide) (by simp))
            rw [show mm_si M 7 0 mo 0 = mi M mo 0 0 from rfl]
            generalize mi M mo 0 0 = N0 at *
            have R_N0 := h_N0.1
            refine vv_aload_n (pc := 29) x dd_Mo_send_29 rfl ?_
            refine vv_iload_n (pc := 30) x dd_Mo_send_30 rfl ?_
            refine lv_Mo_120 (pc := 31) G x dd_Mo_send_31 (R_place G h_N0 hZ.2.2.1 hnm k2 hk2) R_N0.2.2 ⟨by decide, by decide⟩ (by decide) (by decide) (Nat.le_of_ble_eq_true rfl) (fun v31 M31 q31 => ?_)
            obtain ⟨rfl, hm31⟩ := q31
            have hm31 := hm31.symm
            subst hm31
            rw [show (if k2 < Z.1.length then nI (pl.getD k2 0) else (-1 : Int32)) = nI (pl.getD k2 0) from if_pos hq2]
            refine vv_istore (pc := 34) x dd_Mo_send_34 (by decide) (ls2 := [_, _, _, _, _, _]) rfl ?_
            refine vv_aload_n (pc := 36) x dd_Mo_send_36 rfl ?_
            refine lg_Mo_62 (pc := 37) G x dd_Mo_send_37 R_N0.2.2 ?_
            rw [show mm_i N0 7 0 mo = 0 from t_N0]
            refine vv_if_ne (pc := 40) x dd_Mo_send_40 (tgt := 48) (by decide) (fun h40 => absurd h40 (fun z => z rfl)) (fun h40 => ?_)
            refine vv_iload (pc := 43) x dd_Mo_send_43 rfl ?_
            refine vv_if_ge (pc := 45) x dd_Mo_send_45 (tgt := 50) (by decide) (fun h45 => ?_) (fun h45 => absurd h45 (fun z => z (nI_pos' (by omega))))
            refine vv_iload (pc := 50) x dd_Mo_send_50 rfl ?_
            refine vv_iload (pc := 52) x dd_Mo_send_52 rfl ?_
            refine vv_icmp_ne (pc := 54) x dd_Mo_send_54 (tgt := 100) (by decide) (fun h54 => ?_) (fun h54 => absurd h54 (fun z => pl_ne h.2.2.1.2.1 (by have := h.2.2.1.1; omega) (by have := h.2.2.1.1; omega) e2 ((nI_eq (by omega) (by omega)).mp z)))
            refine vv_aload_n (pc := 100) x dd_Mo_send_100 rfl ?_
            refine vv_aload_n (pc := 101) x dd_Mo_send_101 rfl ?_
            refine vv_iload (pc := 102) x dd_Mo_send_102 rfl ?_
            refine vv_aload_n (pc := 104) x dd_Mo_send_104 rfl ?_
            refine lg_Mo_19 (pc := 105) G x dd_Mo_send_105 R_N0.2.2 (R_N0.r 8 (by decide)) ?_
            refine vv_iconst (pc := 108) x dd_Mo_send_108 (4) (by decide) ?_
            refine vv_iload (pc := 109) x dd_Mo_send_109 rfl ?_
            refine vv_imul (pc := 111) x dd_Mo_send_111 ?_
            refine vv_iload_n (pc := 112) x dd_Mo_send_112 rfl ?_
            refine vv_iadd (pc := 113) x dd_Mo_send_113 ?_
            rw [show (4 : Int32) * nI (pl.getD k9 0) + rv = nI (4 * pl.getD k9 0 + j9) from by rw [ej_j9]; exact ix4]
            refine vv_iald (pc := 114) x dd_Mo_send_114 (R_N0.t 8 (by decide)) (in_n (N := 32) (by omega) (R_N0.n 8 (by decide)) (by decide)) ?_
            rw [nI_clamp (n := 4 * pl.getD k9 0 + j9) (by omega), show mm_a N0 (mm_f N0 7 8 mo) (4 * pl.getD k9 0 + j9) = zrg Z k9 rv from by rw [gt]; exact (h_N0.2.2.2.1 k9 hk).2.1 j9 hj_j9]
            refine vv_iload (pc := 115) x dd_Mo_send_115 rfl ?_
            refine lv_Mo_141 (pc := 117) G x dd_Mo_send_117 (R_pass G h_N0 hZ hp6 hlat hml hk hq2 (fun z => e2 z.symm) hvt (hm5 _ (zget_mem hq2)) Rs hRs') R_N0.2.2 ⟨by decide, by decide⟩ (by decide) (by decide) (Nat.le_of_ble_eq_true rfl) (fun v117 M117 q117 => ?_)
            obtain ⟨rfl, F_P, h_P⟩ := q117
            have R_P := h_P.1
            have F_P2 : rx RI9 RA mo N0 M117 := F_P.mono (by decide) (by decide)
            rw [show (if Rs.1 = true then (1 : Int32) else 0) = 0 from if_neg hc]
            refine vv_if_eq (pc := 120) x dd_Mo_send_120 (tgt := 127) (by decide) (fun h120 => ?_) (fun h120 => absurd h120 (fun z => z rfl))
            refine vv_iconst (pc := 127) x dd_Mo_send_127 (2) (by decide) ?_
            refine lp_Mo_62 (pc := 128) G x dd_Mo_send_128 R_P.2.2 ?_
            have F_N1 : rx RI9 RA mo M117 (mi M117 mo 0 2) := rx_mi.mono (by decide) (by simp)
            have t_N1 : ri (mi M117 mo 0 2) mo 0 = 2 := ri_mi
            have h_N1 : MI pw D ow sl (mi M117 mo 0 2) mo pl Rs.2 := MI_scr h_P (rx_mi.mono (by decide) (by simp))
            rw [show mm_si M117 7 0 mo 2 = mi M117 mo 0 2 from rfl]
            generalize mi M117 mo 0 2 = N1 at *
            have R_N1 := h_N1.1
            refine vv_aload_n (pc := 131) x dd_Mo_send_131 rfl ?_
            refine lg_Mo_62 (pc := 132) G x dd_Mo_send_132 R_N1.2.2 ?_
            rw [show mm_i N1 7 0 mo = 2 from t_N1]
            refine vv_if_ne (pc := 135) x dd_Mo_send_135 (tgt := 142) (by decide) (fun h135 => ?_) (fun h135 => absurd h135 (by decide))
            refine vv_iconst (pc := 142) x dd_Mo_send_142 (0) (by decide) ?_
            exact vv_zret (pc := 143) x dd_Mo_send_143 rfl (Or.inl rfl) (by decide) (by decide) ⟨(F_N0.trans F_P2).trans F_N1, Or.inr (Or.inr (Or.inr ⟨⟨hk, hr⟩, hq2, hc, ⟨_, rfl⟩, t_N1, h_N1⟩))⟩
      · refine vv_aload_n (pc := 0) x dd_Mo_send_0 rfl ?_
        refine vv_iload_n (pc := 1) x dd_Mo_send_1 rfl ?_
        refine lv_Mo_120 (pc := 2) G x dd_Mo_send_2 (R_place G h hZ.2.2.1 hnm k9 hk9) R.2.2 ⟨by decide, by decide⟩ (by decide) (by decide) (Nat.le_of_ble_eq_true rfl) (fun v2 M2 q2 => ?_)
        obtain ⟨rfl, hm2⟩ := q2
        have hm2 := hm2.symm
        subst hm2
        rw [show (if k9 < Z.1.length then nI (pl.getD k9 0) else (-1 : Int32)) = nI (pl.getD k9 0) from if_pos hk]
        refine vv_istore (pc := 5) x dd_Mo_send_5 (by decide) (ls2 := [_, _, _, _, _, none]) rfl ?_
        refine vv_aload_n (pc := 7) x dd_Mo_send_7 rfl ?_
        refine vv_iload (pc := 8) x dd_Mo_send_8 rfl ?_
        refine vv_if_lt (pc := 10) x dd_Mo_send_10 (tgt := 21) (by decide) (fun h10 => absurd h10 (nI_pos (by omega))) (fun h10 => ?_)
        refine vv_aload_n (pc := 13) x dd_Mo_send_13 rfl ?_
        refine vv_iload_n (pc := 14) x dd_Mo_send_14 rfl ?_
        refine lv_Mo_123 (pc := 15) G x dd_Mo_send_15 (k_rnoReg G) R.2.2 ⟨by decide, by decide⟩ (by decide) (by decide) (Nat.le_of_ble_eq_true rfl) (fun v15 M15 q15 => ?_)
        obtain ⟨rfl, hm15⟩ := q15
        have hm15 := hm15.symm
        subst hm15
        rw [show (if ¬ rv < 0 ∧ rv < 4 then (0 : Int32) else 1) = 0 from if_pos hr]
        refine vv_if_eq (pc := 18) x dd_Mo_send_18 (tgt := 25) (by decide) (fun h18 => ?_) (fun h18 => absurd h18 (fun z => z rfl))
        refine vv_iconst (pc := 25) x dd_Mo_send_25 (0) (by decide) ?_
        refine lp_Mo_62 (pc := 26) G x dd_Mo_send_26 R.2.2 ?_
        have F_N0 : rx RI9 RA mo M (mi M mo 0 0) := rx_mi.mono (by decide) (by simp)
        have t_N0 : ri (mi M mo 0 0) mo 0 = 0 := ri_mi
        have h_N0 : MI pw D ow sl (mi M mo 0 0) mo pl Z := MI_scr h (rx_mi.mono (by decide) (by simp))
        rw [show mm_si M 7 0 mo 0 = mi M mo 0 0 from rfl]
        generalize mi M mo 0 0 = N0 at *
        have R_N0 := h_N0.1
        refine vv_aload_n (pc := 29) x dd_Mo_send_29 rfl ?_
        refine vv_iload_n (pc := 30) x dd_Mo_send_30 rfl ?_
        refine lv_Mo_120 (pc := 31) G x dd_Mo_send_31 (R_place G h_N0 hZ.2.2.1 hnm k2 hk2) R_N0.2.2 ⟨by decide, by decide⟩ (by decide) (by decide) (Nat.le_of_ble_eq_true rfl) (fun v31 M31 q31 => ?_)
        obtain ⟨rfl, hm31⟩ := q31
        have hm31 := hm31.symm
        subst hm31
        rw [show (if k2 < Z.1.length then nI (pl.getD k2 0) else (-1 : Int32)) = -1 from if_neg hq2]
        refine vv_istore (pc := 34) x dd_Mo_send_34 (by decide) (ls2 := [_, _, _, _, _, _]) rfl ?_
        refine vv_aload_n (pc := 36) x dd_Mo_send_36 rfl ?_
        refine lg_Mo_62 (pc := 37) G x dd_Mo_send_37 R_N0.2.2 ?_
        rw [show mm_i N0 7 0 mo = 0 from t_N0]
        refine vv_if_ne (pc := 40) x dd_Mo_send_40 (tgt := 48) (by decide) (fun h40 => absurd h40 (fun z => z rfl)) (fun h40 => ?_)
        refine vv_iload (pc := 43) x dd_Mo_send_43 rfl ?_
        refine vv_if_ge (pc := 45) x dd_Mo_send_45 (tgt := 50) (by decide) (fun h45 => absurd h45 (by decide)) (fun h45 => ?_)
        refine vv_iconst (pc := 48) x dd_Mo_send_48 (0) (by decide) ?_
        exact vv_zret (pc := 49) x dd_Mo_send_49 rfl (Or.inl rfl) (by decide) (by decide) ⟨F_N0, Or.inr (Or.inl ⟨⟨hk, hr⟩, hq2, rfl, t_N0, h_N0⟩)⟩
    · refine vv_aload_n (pc := 0) x dd_Mo_send_0 rfl ?_
      refine vv_iload_n (pc := 1) x dd_Mo_send_1 rfl ?_
      refine lv_Mo_120 (pc := 2) G x dd_Mo_send_2 (R_place G h hZ.2.2.1 hnm k9 hk9) R.2.2 ⟨by decide, by decide⟩ (by decide) (by decide) (Nat.le_of_ble_eq_true rfl) (fun v2 M2 q2 => ?_)
      obtain ⟨rfl, hm2⟩ := q2
      have hm2 := hm2.symm
      subst hm2
      rw [show (if k9 < Z.1.length then nI (pl.getD k9 0) else (-1 : Int32)) = nI (pl.getD k9 0) from if_pos hk]
      refine vv_istore (pc := 5) x dd_Mo_send_5 (by decide) (ls2 := [_, _, _, _, _, none]) rfl ?_
      refine vv_aload_n (pc := 7) x dd_Mo_send_7 rfl ?_
      refine vv_iload (pc := 8) x dd_Mo_send_8 rfl ?_
      refine vv_if_lt (pc := 10) x dd_Mo_send_10 (tgt := 21) (by decide) (fun h10 => absurd h10 (nI_pos (by omega))) (fun h10 => ?_)
      refine vv_aload_n (pc := 13) x dd_Mo_send_13 rfl ?_
      refine vv_iload_n (pc := 14) x dd_Mo_send_14 rfl ?_
      refine lv_Mo_123 (pc := 15) G x dd_Mo_send_15 (k_rnoReg G) R.2.2 ⟨by decide, by decide⟩ (by decide) (by decide) (Nat.le_of_ble_eq_true rfl) (fun v15 M15 q15 => ?_)
      obtain ⟨rfl, hm15⟩ := q15
      have hm15 := hm15.symm
      subst hm15
      rw [show (if ¬ rv < 0 ∧ rv < 4 then (0 : Int32) else 1) = 1 from if_neg hr]
      refine vv_if_eq (pc := 18) x dd_Mo_send_18 (tgt := 25) (by decide) (fun h18 => absurd h18 (by decide)) (fun h18 => ?_)
      refine vv_iconst (pc := 21) x dd_Mo_send_21 (1) (by decide) ?_
      refine vv_goto (pc := 22) x dd_Mo_send_22 (tgt := 26) (by decide) ?_
      refine lp_Mo_62 (pc := 26) G x dd_Mo_send_26 R.2.2 ?_
      have F_N0 : rx RI9 RA mo M (mi M mo 0 1) := rx_mi.mono (by decide) (by simp)
      have t_N0 : ri (mi M mo 0 1) mo 0 = 1 := ri_mi
      have h_N0 : MI pw D ow sl (mi M mo 0 1) mo pl Z := MI_scr h (rx_mi.mono (by decide) (by simp))
      rw [show mm_si M 7 0 mo 1 = mi M mo 0 1 from rfl]
      generalize mi M mo 0 1 = N0 at *
      have R_N0 := h_N0.1
      refine vv_aload_n (pc := 29) x dd_Mo_send_29 rfl ?_
      refine vv_iload_n (pc := 30) x dd_Mo_send_30 rfl ?_
      refine lv_Mo_120 (pc := 31) G x dd_Mo_send_31 (R_place G h_N0 hZ.2.2.1 hnm k2 hk2) R_N0.2.2 ⟨by decide, by decide⟩ (by decide) (by decide) (Nat.le_of_ble_eq_true rfl) (fun v31 M31 q31 => ?_)
      obtain ⟨rfl, hm31⟩ := q31
      have hm31 := hm31.symm
      subst hm31
      refine vv_istore (pc := 34) x dd_Mo_send_34 (by decide) (ls2 := [_, _, _, _, _, _]) rfl ?_
      refine vv_aload_n (pc := 36) x dd_Mo_send_36 rfl ?_
      refine lg_Mo_62 (pc := 37) G x dd_Mo_send_37 R_N0.2.2 ?_
      rw [show mm_i N0 7 0 mo = 1 from t_N0]
      refine vv_if_ne (pc := 40) x dd_Mo_send_40 (tgt := 48) (by decide) (fun h40 => ?_) (fun h40 => absurd h40 (by decide))
      refine vv_iconst (pc := 48) x dd_Mo_send_48 (0) (by decide) ?_
      exact vv_zret (pc := 49) x dd_Mo_send_49 rfl (Or.inl rfl) (by decide) (by decide) ⟨F_N0, Or.inr (Or.inr (Or.inl ⟨(fun z => by first | exact hk z.1 | exact hr z.2), ⟨_, rfl⟩, t_N0, h_N0⟩))⟩
  · refine vv_aload_n (pc := 0) x dd_Mo_send_0 rfl ?_
    refine vv_iload_n (pc := 1) x dd_Mo_send_1 rfl ?_
    refine lv_Mo_120 (pc := 2) G x dd_Mo_send_2 (R_place G h hZ.2.2.1 hnm k9 hk9) R.2.2 ⟨by decide, by decide⟩ (by decide) (by decide) (Nat.le_of_ble_eq_true rfl) (fun v2 M2 q2 => ?_)
    obtain ⟨rfl, hm2⟩ := q2
    have hm2 := hm2.symm
    subst hm2
    rw [show (if k9 < Z.1.length then nI (pl.getD k9 0) else (-1 : Int32)) = -1 from if_neg hk]
    refine vv_istore (pc := 5) x dd_Mo_send_5 (by decide) (ls2 := [_, _, _, _, _, none]) rfl ?_
    refine vv_aload_n (pc := 7) x dd_Mo_send_7 rfl ?_
    refine vv_iload (pc := 8) x dd_Mo_send_8 rfl ?_
    refine vv_if_lt (pc := 10) x dd_Mo_send_10 (tgt := 21) (by decide) (fun h10 => ?_) (fun h10 => absurd h10 (fun z => z (by decide)))
    refine vv_iconst (pc := 21) x dd_Mo_send_21 (1) (by decide) ?_
    refine vv_goto (pc := 22) x dd_Mo_send_22 (tgt := 26) (by decide) ?_
    refine lp_Mo_62 (pc := 26) G x dd_Mo_send_26 R.2.2 ?_
    have F_N0 : rx RI9 RA mo M (mi M mo 0 1) := rx_mi.mono (by decide) (by simp)
    have t_N0 : ri (mi M mo 0 1) mo 0 = 1 := ri_mi
    have h_N0 : MI pw D ow sl (mi M mo 0 1) mo pl Z := MI_scr h (rx_mi.mono (by decide) (by simp))
    rw [show mm_si M 7 0 mo 1 = mi M mo 0 1 from rfl]
    generalize mi M mo 0 1 = N0 at *
    have R_N0 := h_N0.1
    refine vv_aload_n (pc := 29) x dd_Mo_send_29 rfl ?_
    refine vv_iload_n (pc := 30) x dd_Mo_send_30 rfl ?_
    refine lv_Mo_120 (pc := 31) G x dd_Mo_send_31 (R_place G h_N0 hZ.2.2.1 hnm k2 hk2) R_N0.2.2 ⟨by decide, by decide⟩ (by decide) (by decide) (Nat.le_of_ble_eq_true rfl) (fun v31 M31 q31 => ?_)
    obtain ⟨rfl, hm31⟩ := q31
    have hm31 := hm31.symm
    subst hm31
    refine vv_istore (pc := 34) x dd_Mo_send_34 (by decide) (ls2 := [_, _, _, _, _, _]) rfl ?_
    refine vv_aload_n (pc := 36) x dd_Mo_send_36 rfl ?_
    refine lg_Mo_62 (pc := 37) G x dd_Mo_send_37 R_N0.2.2 ?_
    rw [show mm_i N0 7 0 mo = 1 from t_N0]
    refine vv_if_ne (pc := 40) x dd_Mo_send_40 (tgt := 48) (by decide) (fun h40 => ?_) (fun h40 => absurd h40 (by decide))
    refine vv_iconst (pc := 48) x dd_Mo_send_48 (0) (by decide) ?_
    exact vv_zret (pc := 49) x dd_Mo_send_49 rfl (Or.inl rfl) (by decide) (by decide) ⟨F_N0, Or.inr (Or.inr (Or.inl ⟨(fun z => by first | exact hk z.1 | exact hr z.2), ⟨_, rfl⟩, t_N0, h_N0⟩))⟩
end M66
