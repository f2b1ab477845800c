/-! ===== the reference: tuple ===== -/
section M60
variable {g : gg} {X : State → Prop} {t0 : Nat} {l : Launch} {M : mm} {M1 M2 : mm} {pw : Nat} {D : Nat → Prop} {ow sl : Nat → Nat} {mo : Nat} {Ki Ka : List Nat} {k : Nat} {pl : List Nat} {Z : zst} {B : List bk} {b : bk}
set_option maxRecDepth 100000 in
set_option maxHeartbeats 1000000 in
theorem R_tuple (G : gc g X t0 l) (h : MI pw D ow sl M mo pl Z) (hZ : zok pw Z) (hp6 : pw ≤ 600) (hlat : Z.2.2.1 < 2 ^ 31) (hml : ∀ P ∈ Z.1, P.2.2.2.1.length ≤ 512) {xv rv : Int32} (k9 : Nat) (hk9 : plc Z xv = k9) {nv : Int32} : Ok g X l yy_Mo_tuple cc_Mo_tuple 7 none 7 162 0 0 [.ref mo, .int xv, .int rv, .int nv] M (fun v M' => rx RI9 RA mo M M' ∧ (((k9 < Z.1.length ∧ rok rv) ∧ (¬ nv < 0 ∧ nv ≤ 4) ∧ (zroom Z k9 (nv.toNatClampNeg + 1)).1 = true ∧ v = none ∧ ri M' mo 0 = 0 ∧ MI pw D ow sl M' mo pl (zreg (zbk (zroom Z k9 (nv.toNatClampNeg + 1)).2 k9 (4, (zget (zroom Z k9 (nv.toNatClampNeg + 1)).2 k9).2.2.1.take nv.toNatClampNeg)) k9 rv.toNatClampNeg (tk 4 (hsz (zget (zroom Z k9 (nv.toNatClampNeg + 1)).2 k9).2.2.2.2)))) ∨ (¬ (k9 < Z.1.length ∧ rok rv) ∧ v = none ∧ ri M' mo 0 = 1 ∧ MI pw D ow sl M' mo pl Z) ∨ ((k9 < Z.1.length ∧ rok rv) ∧ ¬ (¬ nv < 0 ∧ nv ≤ 4) ∧ v = none ∧ ri M' mo 0 = 2 ∧ MI pw D ow sl M' mo pl Z) ∨ ((k9 < Z.1.length ∧ rok rv) ∧ (¬ nv < 0 ∧ nv ≤ 4) ∧ ¬ (zroom Z k9 (nv.toNatClampNeg + 1)).1 = true ∧ v = none ∧ ri M' mo 0 = 3 ∧ MI pw D ow sl M' mo pl (zroom Z k9 (nv.toNatClampNeg + 1)).2))) := by
  refine ok_start (by decide) (Nat.le_of_ble_eq_true rfl) (by simp [Value.category]) ?_
  intro p e s m args below meth c9 x
  have R := h.1
  have hnm := znm hZ hlat
  have h8z := hZ.2.1
  by_cases hk : k9 < Z.1.length
  · have hp8 : pl.getD k9 0 < 8 := h.2.2.1.2.2 _ (getD_memN (by have := h.2.2.1.1; omega))
    by_cases hr : rok rv
    · have hho := zho hZ hml
      obtain ⟨⟨a1, a2, a3⟩, a4, ⟨a5, a6⟩, a7, a8⟩ := h.2.2.2.1 k9 hk
      have kk := hZ.1 _ (zget_mem hk)
      have h600 := kk.2.1.1
      have hml9 := hml _ (zget_mem hk)
      have hcp : (nI (pl.getD k9 0)).toNatClampNeg = pl.getD k9 0 := nI_clamp (by omega)
      obtain ⟨-, hj_j9, ej_j9⟩ := rok_in hr
      have gj_j9 := a4 rv.toNatClampNeg hj_j9
      generalize hq_j9 : rv.toNatClampNeg = j9 at *
      by_cases hc : ¬ nv < 0 ∧ nv ≤ 4
      · have hc0 := hc
        obtain ⟨n9, n91, n92⟩ := nI_of hc.1
        have n94 : n9 ≤ 4 := (nI_leI (b := 4) n91 (by decide)).mp (by rw [← n92]; exact hc.2)
        have n93 : nv.toNatClampNeg = n9 := by rw [n92, nI_clamp n91]
        rw [n93]
        have hZ1 := zroom_ok (n := n9 + 1) hZ hk
        have hfit0 := zroom_fit (Z := Z) (i := k9) (n := n9 + 1) hk
        have hzl := zroom_len (Z := Z) (i := k9) (n := n9 + 1)
        have hml1 := zroom_ml2 (n := n9 + 1) hml hk
        have hlat1 := zroom_lat (Z := Z) (i := k9) (n := n9 + 1)
        have hRRr : zroom Z k9 (n9 + 1) = zroom Z k9 (n9 + 1) := rfl
        generalize hRR : zroom Z k9 (n9 + 1) = RR at *
        obtain ⟨ok2, Z1⟩ := RR
        have hZ1' : zok pw Z1 := hZ1
        have hk1 : k9 < Z1.1.length := by have hzl' : Z1.1.length = Z.1.length := hzl; omega
        have hml1' : ∀ P ∈ Z1.1, P.2.2.2.1.length ≤ 512 := hml1
        have kk1 := hZ1'.1 _ (zget_mem hk1)
        have hcap1 := cap_le hZ1' hk1
        have k14 : (zget Z1 k9).2.2.1.length = 4 := kk1.1
        have htl9 : ((zget Z1 k9).2.2.1.take n9).length = n9 := by rw [List.length_take]; omega
        generalize hRg : (zget Z1 k9).2.2.1 = Rg at *
        generalize hU : hsz (zget Z1 k9).2.2.2.2 = U at *
        subst n92
        by_cases hc9 : (ok2, Z1).1 = true
        · have hfit : hsz (zget Z1 k9).2.2.2.2 + (n9 + 1) ≤ (zget Z1 k9).2.1 := by rw [hU]; exact hfit0 hc9
          rw [hU] at hfit
          have hl9 : ∀ (n kq : Nat) (M5 : mm) (MO : mm), rs pw D ow sl MO mo → rx RI9 RA mo M MO → ri MO mo 0 = 0 → (∀ x, x < 4 → ra MO mo 8 (4 * pl.getD k9 0 + x) = Rg.getD x 0) → (∀ M6 : mm, rx [] [11] mo MO M6 → (∀ x, x < n9 → ra M6 mo 11 (600 * pl.getD k9 0 + U + 1 + x) = Rg.getD x 0) → ra M6 mo 11 (600 * pl.getD k9 0 + U) = nI n9 → (∀ x, ¬ (600 * pl.getD k9 0 + U ≤ x ∧ x < 600 * pl.getD k9 0 + U + 1 + n9) → ra M6 mo 11 x = ra MO mo 11 x) → MI pw D ow sl (mw M6 mo 8 (upd (ra M6 mo 8) (4 * pl.getD k9 0 + j9) (tk 4 U))) mo pl (zreg (zbk Z1 k9 (4, Rg.take n9)) k9 j9 (tk 4 U))) → kq + n = n9 → rx [] [11] mo MO M5 → (∀ x, x < kq → ra M5 mo 11 (600 * pl.getD k9 0 + U + 1 + x) = Rg.getD x 0) → ra M5 mo 11 (600 * pl.getD k9 0 + U) = nI n9 → (∀ x, ¬ (600 * pl.getD k9 0 + U ≤ x ∧ x < 600 * pl.getD k9 0 + U + 1 + kq) → ra M5 mo 11 x = ra MO mo 11 x) → vv g 7 p l e (rm 7 162 0 0) s m args below meth c9 (MQ below (ok_Q g (fun v M' => rx RI9 RA mo M M' ∧ (((k9 < Z.1.length ∧ rok rv) ∧ (¬ nI n9 < 0 ∧ nI n9 ≤ 4) ∧ (ok2, Z1).1 = true ∧ v = none ∧ ri M' mo 0 = 0 ∧ MI pw D ow sl M' mo pl (zreg (zbk (ok2, Z1).2 k9 (4, Rg.take n9)) k9 j9 (tk 4 (U)))) ∨ (¬ (k9 < Z.1.length ∧ rok rv) ∧ v = none ∧ ri M' mo 0 = 1 ∧ MI pw D ow sl M' mo pl Z) ∨ ((k9 < Z.1.length ∧ rok rv) ∧ ¬ (¬ nI n9 < 0 ∧ nI n9 ≤ 4) ∧ v = none ∧ ri M' mo 0 = 2 ∧ MI pw D ow sl M' mo pl Z) ∨ ((k9 < Z.1.length ∧ rok rv) ∧ (¬ nI n9 < 0 ∧ nI n9 ≤ 4) ∧ ¬ (ok2, Z1).1 = true ∧ v = none ∧ ri M' mo 0 = 3 ∧ MI pw D ow sl M' mo pl (ok2, Z1).2)))) args s 0 0 (ok_F g)) 0 0 108 [some (.ref mo), some (.int xv), some (.int rv), some (.int (nI n9)), some (.int (nI (pl.getD k9 0))), some (.int (nI U)), some (.int (nI kq))] [] (M5) := by
            intro n
            induction n with
            | zero =>
              intro kq M5 MO RO FO tO hrg hfin hkq F5 e1 e0 e2
              have ek : kq = n9 := by omega
              subst ek
              have R5 := F5.to RO
              have hMI := hfin M5 F5 e1 e0 e2
              have t5 : ri M5 mo 0 = 0 := (F5.i (by simp)).trans tO
              refine vv_iload (pc := 108) x dd_Mo_tuple_108 rfl ?_
              refine vv_iload_n (pc := 110) x dd_Mo_tuple_110 rfl ?_
              refine vv_icmp_ge (pc := 111) x dd_Mo_tuple_111 (tgt := 151) (by decide) (fun h111 => ?_) (fun h111 => absurd h111 (fun z => z (nI_le (Nat.le_refl _) (by omega))))
              refine vv_aload_n (pc := 151) x dd_Mo_tuple_151 rfl ?_
              refine lg_Mo_19 (pc := 152) G x dd_Mo_tuple_152 R5.2.2 (R5.r 8 (by decide)) ?_
              refine vv_iconst (pc := 155) x dd_Mo_tuple_155 (4) (by decide) ?_
              refine vv_iload (pc := 156) x dd_Mo_tuple_156 rfl ?_
              refine vv_imul (pc := 158) x dd_Mo_tuple_158 ?_
              refine vv_iload_n (pc := 159) x dd_Mo_tuple_159 rfl ?_
              refine vv_iadd (pc := 160) x dd_Mo_tuple_160 ?_
              rw [show (4 : Int32) * nI (pl.getD k9 0) + rv = nI (4 * pl.getD k9 0 + j9) from by rw [ej_j9]; exact ix4]
              refine vv_bipush (pc := 161) x dd_Mo_tuple_161 (8) (by decide) ?_
              refine vv_iload (pc := 163) x dd_Mo_tuple_163 rfl ?_
              refine vv_imul (pc := 165) x dd_Mo_tuple_165 ?_
              refine vv_iconst (pc := 166) x dd_Mo_tuple_166 (4) (by decide) ?_
              refine vv_iadd (pc := 167) x dd_Mo_tuple_167 ?_
              rw [show (8 : Int32) * nI U + 4 = tk 4 U from tk_eq (k := 4)]
              refine vv_iast (pc := 168) x dd_Mo_tuple_168 (R5.t 8 (by decide)) (in_n (N := 32) (by omega) (R5.n 8 (by decide)) (by decide)) ?_
              rw [nI_clamp (n := 4 * pl.getD k9 0 + j9) (by omega)]
              exact vv_vret (pc := 169) x dd_Mo_tuple_169 rfl (by decide) (by decide) ⟨(FO.trans (F5.mono (by simp) (by decide))).trans (rx_mw.mono (by simp) (by decide)), Or.inl ⟨⟨hk, hr⟩, hc0, hc9, rfl, (ri_mw (M := M5) (mo := mo) (k := 8) (k2 := 0) (f := upd (ra M5 mo 8) (4 * pl.getD k9 0 + j9) (tk 4 U))).trans t5, hMI⟩⟩
            | succ n ih =>
              intro kq M5 MO RO FO tO hrg hfin hkq F5 e1 e0 e2
              have R5 := F5.to RO
              have g8 : mm_a M5 (mm_f M5 7 8 mo) (4 * pl.getD k9 0 + kq) = Rg.getD kq 0 := by
                show ra M5 mo 8 _ = _
                rw [F5.a RO (by decide) (by decide) (by decide)]
                exact hrg kq (by omega)
              refine vv_iload (pc := 108) x dd_Mo_tuple_108 rfl ?_
              refine vv_iload_n (pc := 110) x dd_Mo_tuple_110 rfl ?_
              refine vv_icmp_ge (pc := 111) x dd_Mo_tuple_111 (tgt := 151) (by decide) (fun h111 => absurd h111 (nI_ge (by omega) (by omega))) (fun h111 => ?_)
              refine vv_aload_n (pc := 114) x dd_Mo_tuple_114 rfl ?_
              refine lg_Mo_28 (pc := 115) G x dd_Mo_tuple_115 R5.2.2 (R5.r 11 (by decide)) ?_
              refine vv_sipush (pc := 118) x dd_Mo_tuple_118 (600) (by decide) ?_
              refine vv_iload (pc := 121) x dd_Mo_tuple_121 rfl ?_
              refine vv_imul (pc := 123) x dd_Mo_tuple_123 ?_
              refine vv_iload (pc := 124) x dd_Mo_tuple_124 rfl ?_
              refine vv_iadd (pc := 126) x dd_Mo_tuple_126 ?_
              rw [ix600]
              refine vv_iconst (pc := 127) x dd_Mo_tuple_127 (1) (by decide) ?_
              refine vv_iadd (pc := 128) x dd_Mo_tuple_128 ?_
              rw [nI_1]
              refine vv_iload (pc := 129) x dd_Mo_tuple_129 rfl ?_
              refine vv_iadd (pc := 131) x dd_Mo_tuple_131 ?_
              rw [nI_add]
              refine vv_aload_n (pc := 132) x dd_Mo_tuple_132 rfl ?_
              refine lg_Mo_19 (pc := 133) G x dd_Mo_tuple_133 R5.2.2 (R5.r 8 (by decide)) ?_
              refine vv_iconst (pc := 136) x dd_Mo_tuple_136 (4) (by decide) ?_
              refine vv_iload (pc := 137) x dd_Mo_tuple_137 rfl ?_
              refine vv_imul (pc := 139) x dd_Mo_tuple_139 ?_
              refine vv_iload (pc := 140) x dd_Mo_tuple_140 rfl ?_
              refine vv_iadd (pc := 142) x dd_Mo_tuple_142 ?_
              rw [ix4]
              refine vv_iald (pc := 143) x dd_Mo_tuple_143 (R5.t 8 (by decide)) (in_n (N := 32) (by omega) (R5.n 8 (by decide)) (by decide)) ?_
              rw [nI_clamp (n := 4 * pl.getD k9 0 + kq) (by omega), g8]
              refine vv_iast (pc := 144) x dd_Mo_tuple_144 (R5.t 11 (by decide)) (in_n (N := 4800) (by omega) (R5.n 11 (by decide)) (by decide)) ?_
              rw [nI_clamp (n := 600 * pl.getD k9 0 + U + 1 + kq) (by omega)]
              refine vv_iinc (pc := 145) x dd_Mo_tuple_145 rfl (nI_1 kq) (by decide) (ls2 := [_, _, _, _, _, _, _]) rfl ?_
              refine vv_goto (pc := 148) x dd_Mo_tuple_148 (tgt := 108) (by decide) ?_
              exact ih (kq + 1) (mw M5 mo 11 (upd (ra M5 mo 11) (600 * pl.getD k9 0 + U + 1 + kq) (Rg.getD kq 0))) MO RO FO tO hrg hfin (by omega) (F5.trans rx_mw) (fun x hx => by
                rw [ra_mw]
                by_cases e9 : x = kq
                · rw [upd_eq (by omega), e9]
                · rw [upd_ne (by omega)]; exact e1 x (by omega)) (by rw [ra_mw, upd_ne (by omega)]; exact e0) (fun x hx => by
                rw [ra_mw, upd_ne (by omega)]
                exact e2 x (by omega))
          refine vv_aload_n (pc := 0) x dd_Mo_tuple_0 rfl ?_
          refine vv_iload_n (pc := 1) x dd_Mo_tuple_1 rfl ?_
          refine lv_Mo_120 (pc := 2) G x dd_Mo_tuple_2 (R_place G h hZ.2.2.1 hnm k9 hk9) R.2.2 ⟨by decide, by decide⟩ (by decide) (by decide) (Nat.le_of_ble_eq_true rfl) (fun v2 M2 q2 => ?_)
          obtain ⟨rfl, hm2⟩ := q2
          have hm2 := hm2.symm
          subst hm2
          rw [show (if k9 < Z.1.length then nI (pl.getD k9 0) else (-1 : Int32)) = nI (pl.getD k9 0) from if_pos hk]
          refine vv_istore (pc := 5) x dd_Mo_tuple_5 (by decide) (ls2 := [_, _, _, _, _, none, none]) rfl ?_
          refine vv_aload_n (pc := 7) x dd_Mo_tuple_7 rfl ?_
          refine vv_iload (pc := 8) x dd_Mo_tuple_8 rfl ?_
          refine vv_if_lt (pc := 10) x dd_Mo_tuple_10 (tgt := 21) (by decide) (fun h10 => absurd h10 (nI_pos (by omega))) (fun h10 => ?_)
          refine vv_aload_n (pc := 13) x dd_Mo_tuple_13 rfl ?_
          refine vv_iload_n (pc := 14) x dd_Mo_tuple_14 rfl ?_
          refine lv_Mo_123 (pc := 15) G x dd_Mo_tuple_15 (k_rnoReg G) R.2.2 ⟨by decide, by decide⟩ (by decide) (by decide) (Nat.le_of_ble_eq_true rfl) (fun v15 M15 q15 => ?_)
          obtain ⟨rfl, hm15⟩ := q15
          have hm15 := hm15.symm
          subst hm15
          rw [show (if ¬ rv < 0 ∧ rv < 4 then (0 : Int32) else 1) = 0 from if_pos hr]
          refine vv_if_eq (pc := 18) x dd_Mo_tuple_18 (tgt := 25) (by decide) (fun h18 => ?_) (fun h18 => absurd h18 (fun z => z rfl))
          refine vv_iload_n (pc := 25) x dd_Mo_tuple_25 rfl ?_
          refine vv_if_lt (pc := 26) x dd_Mo_tuple_26 (tgt := 34) (by decide) (fun h26 => absurd h26 hc0.1) (fun h26 => ?_)
          refine vv_iload_n (pc := 29) x dd_Mo_tuple_29 rfl ?_
          refine vv_iconst (pc := 30) x dd_Mo_tuple_30 (4) (by decide) ?_
          refine vv_icmp_le (pc := 31) x dd_Mo_tuple_31 (tgt := 38) (by decide) (fun h31 => ?_) (fun h31 => absurd h31 (fun z => z hc0.2))
          refine vv_iconst (pc := 38) x dd_Mo_tuple_38 (0) (by decide) ?_
          refine lp_Mo_62 (pc := 39) G x dd_Mo_tuple_39 R.2.2 ?_
          have F_N0 : rx RI9 RA mo M (mi M mo 0 0) := rx_mi.mono (by decide) (by simp)
          have t_N0 : ri (mi M mo 0 0) mo 0 = 0 := ri_mi
          have h_N0 : MI pw D ow sl (mi M mo 0 0) mo pl Z := MI_scr h (rx_mi.mono (by decide) (by simp))
          rw [show mm_si M 7 0 mo 0 = mi M mo 0 0 from rfl]
          generalize mi M mo 0 0 = N0 at *
          have R_N0 := h_N0.1
          refine vv_aload_n (pc := 42) x dd_Mo_tuple_42 rfl ?_
          refine lg_Mo_62 (pc := 43) G x dd_Mo_tuple_43 R_N0.2.2 ?_
          rw [show mm_i N0 7 0 mo = 0 from t_N0]
          refine vv_if_eq (pc := 46) x dd_Mo_tuple_46 (tgt := 50) (by decide) (fun h46 => ?_) (fun h46 => absurd h46 (fun z => z rfl))
          refine vv_aload_n (pc := 50) x dd_Mo_tuple_50 rfl ?_
          refine vv_aload_n (pc := 51) x dd_Mo_tuple_51 rfl ?_
          refine vv_iload (pc := 52) x dd_Mo_tuple_52 rfl ?_
          refine vv_iload_n (pc := 54) x dd_Mo_tuple_54 rfl ?_
          refine vv_iconst (pc := 55) x dd_Mo_tuple_55 (1) (by decide) ?_
          refine vv_iadd (pc := 56) x dd_Mo_tuple_56 ?_
          rw [nI_1]
          refine lv_Mo_128 (pc := 57) G x dd_Mo_tuple_57 (R_room (n := n9 + 1) G h_N0 hZ hp6 hlat hml hk (by omega) (ok2, Z1) hRR) R_N0.2.2 ⟨by decide, by decide⟩ (by decide) (by decide) (Nat.le_of_ble_eq_true rfl) (fun v57 M57 q57 => ?_)
          obtain ⟨rfl, F_R, h_R⟩ := q57
          have R_R := h_R.1
          have t_R : ri M57 mo 0 = 0 := (F_R.i (by decide)).trans t_N0
          have hho1 := zho hZ1' hml1'
          have F_R2 : rx RI9 RA mo N0 M57 := F_R.mono (by decide) (by decide)
          rw [show (if (ok2, Z1).1 = true then (1 : Int32) else 0) = 1 from if_pos hc9]
          refine vv_if_eq (pc := 60) x dd_Mo_tuple_60 (tgt := 67) (by decide) (fun h60 => absurd h60 (by decide)) (fun h60 => ?_)
          refine vv_iconst (pc := 63) x dd_Mo_tuple_63 (0) (by decide) ?_
          refine vv_goto (pc := 64) x dd_Mo_tuple_64 (tgt := 68) (by decide) ?_
          refine lp_Mo_62 (pc := 68) G x dd_Mo_tuple_68 R_R.2.2 ?_
          have F_N1 : rx RI9 RA mo M57 (mi M57 mo 0 0) := rx_mi.mono (by decide) (by simp)
          have t_N1 : ri (mi M57 mo 0 0) mo 0 = 0 := ri_mi
          have h_N1 : MI pw D ow sl (mi M57 mo 0 0) mo pl Z1 := MI_scr h_R (rx_mi.mono (by decide) (by simp))
          rw [show mm_si M57 7 0 mo 0 = mi M57 mo 0 0 from rfl]
          generalize mi M57 mo 0 0 = N1 at *
          have R_N1 := h_N1.1
          refine vv_aload_n (pc := 71) x dd_Mo_tuple_71 rfl ?_
          refine lg_Mo_62 (pc := 72) G x dd_Mo_tuple_72 R_N1.2.2 ?_
          rw [show mm_i N1 7 0 mo = 0 from t_N1]
          refine vv_if_ne (pc := 75) x dd_Mo_tuple_75 (tgt := 169) (by decide) (fun h75 => absurd h75 (fun z => z rfl)) (fun h75 => ?_)
          refine vv_aload_n (pc := 78) x dd_Mo_tuple_78 rfl ?_
          refine vv_iload (pc := 79) x dd_Mo_tuple_79 rfl ?_
          refine vv_iconst (pc := 81) x dd_Mo_tuple_81 (4) (by decide) ?_
          refine vv_iload_n (pc := 82) x dd_Mo_tuple_82 rfl ?_
          refine vv_iconst (pc := 83) x dd_Mo_tuple_83 (1) (by decide) ?_
          refine vv_iadd (pc := 84) x dd_Mo_tuple_84 ?_
          rw [nI_1]
          refine lv_Mo_132 (pc := 85) G x dd_Mo_tuple_85 (R_open (kn := 4) (sz := n9 + 1) G h_N1 hk1 (by omega) (by rw [hU]; omega)) R_N1.2.2 ⟨by decide, by decide⟩ (by decide) (by decide) (Nat.le_of_ble_eq_true rfl) (fun v85 M85 q85 => ?_)
          obtain ⟨rfl, F_O, o7, o12, o12o⟩ := q85
          rw [hU] at o7 o12 o12o ⊢
          have R_O := F_O.to R_N1
          have F_O2 : rx RI9 RA mo N1 M85 := F_O.mono (by simp) (by decide)
          have t_O : ri M85 mo 0 = 0 := (F_O.i (by simp)).trans t_N1
          have rg : ∀ x, x < 4 → ra M85 mo 8 (4 * pl.getD k9 0 + x) = Rg.getD x 0 := fun x hx => by rw [F_O.a R_N1 (by decide) (by decide) (by decide), ← hRg]; exact (h_N1.2.2.2.1 k9 hk1).2.1 x hx
          refine vv_istore (pc := 88) x dd_Mo_tuple_88 (by decide) (ls2 := [_, _, _, _, _, _, none]) rfl ?_
          refine vv_aload_n (pc := 90) x dd_Mo_tuple_90 rfl ?_
          refine lg_Mo_28 (pc := 91) G x dd_Mo_tuple_91 R_O.2.2 (R_O.r 11 (by decide)) ?_
          refine vv_sipush (pc := 94) x dd_Mo_tuple_94 (600) (by decide) ?_
          refine vv_iload (pc := 97) x dd_Mo_tuple_97 rfl ?_
          refine vv_imul (pc := 99) x dd_Mo_tuple_99 ?_
          refine vv_iload (pc := 100) x dd_Mo_tuple_100 rfl ?_
          refine vv_iadd (pc := 102) x dd_Mo_tuple_102 ?_
          rw [ix600]
          refine vv_iload_n (pc := 103) x dd_Mo_tuple_103 rfl ?_
          refine vv_iast (pc := 104) x dd_Mo_tuple_104 (R_O.t 11 (by decide)) (in_n (N := 4800) (by omega) (R_O.n 11 (by decide)) (by decide)) ?_
          rw [nI_clamp (n := 600 * pl.getD k9 0 + U) (by omega)]
          refine vv_iconst (pc := 105) x dd_Mo_tuple_105 (0) (by decide) ?_
          refine vv_istore (pc := 106) x dd_Mo_tuple_106 (by decide) (ls2 := [_, _, _, _, _, _, _]) rfl ?_
          refine hl9 n9 0 (mw M85 mo 11 (upd (ra M85 mo 11) (600 * pl.getD k9 0 + U) (nI n9))) M85 R_O (((F_N0.trans F_R2).trans F_N1).trans F_O2) t_O rg (fun M6 F6 w1 w0 wo => ?_) (by omega) rx_mw (fun x hx => by omega) (by rw [ra_mw, upd_eq rfl]) (fun x hx => by rw [ra_mw, upd_ne (by omega)])
          have F_13 : rx [] [7, 11, 12] mo N1 M6 := (F_O.mono (by simp) (by decide)).trans (F6.mono (by simp) (by decide))
          have e11 : ra M85 mo 11 = ra N1 mo 11 := F_O.a R_N1 (by decide) (by decide) (by decide)
          have s3 : ∀ k, k ∈ RA → k ≠ 11 → ra M6 mo k = ra M85 mo k := fun k h1 h2 => F6.a R_O h1 (by decide) (by simpa using h2)
          have hbz : bsz (4, Rg.take n9) = n9 + 1 := by unfold bsz; rw [if_pos rfl]; show (Rg.take n9).length + 1 = _; rw [htl9]
          have h_B := MI_blk (b := (4, Rg.take n9)) (i := k9) (p' := Z1.2.1) h_N1 hho1 hk1 (by rw [hU, hbz]; omega) (F_13.mono (by simp) (by decide)) (by rw [s3 7 (by decide) (by decide), hU, hbz]; exact o7) (by rw [s3 12 (by decide) (by decide), hU, hbz]; exact o12) (by rw [s3 12 (by decide) (by decide), hU, hbz]; exact o12o) (by
            rw [hU, hbz]
            intro jq hjq _
            unfold bwd
            rw [if_pos rfl]
            by_cases e9 : jq = 0
            · rw [if_pos e9, e9, Nat.add_zero, w0]
              show _ = nI (Rg.take n9).length
              rw [htl9]
            · rw [if_neg e9, show 600 * pl.getD k9 0 + U + jq = 600 * pl.getD k9 0 + U + 1 + (jq - 1) by omega, w1 (jq - 1) (by omega)]
              show _ = (Rg.take n9).getD (jq - 1) 0
              rw [List.getD_eq_getElem?_getD, List.getD_eq_getElem?_getD, List.getElem?_take_of_lt (by omega)]) (by
            rw [hU, hbz, ← e11]
            intro x hx
            exact wo x (by omega)) ⟨(F_13.i (by simp)).trans h_N1.2.2.2.2.2.1, fun w hw => by rw [F_13.a R_N1 (by decide) (by decide) (by decide), F_13.a R_N1 (by decide) (by decide) (by decide)]; exact h_N1.2.2.2.2.2.2 w hw⟩
          have hz2 : zget (zbk (Z1.1, Z1.2.1, Z1.2.2.1, Z1.2.2.2) k9 (4, Rg.take n9)) k9 = ((zget Z1 k9).1, (zget Z1 k9).2.1, (zget Z1 k9).2.2.1, (zget Z1 k9).2.2.2.1, (zget Z1 k9).2.2.2.2 ++ [(4, Rg.take n9)]) := zbk_get (Z := (Z1.1, Z1.2.1, Z1.2.2.1, Z1.2.2.2)) hk1
          have hok2 : ∀ P ∈ (zbk (Z1.1, Z1.2.1, Z1.2.2.1, Z1.2.2.2) k9 (4, Rg.take n9)).1, hok P.2.2.2.2 ∧ P.2.2.2.1.length ≤ 512 := fun P hP => by
            rcases List.mem_or_eq_of_mem_set hP with e8 | e8
            · exact hho1 P e8
            · rw [e8]; exact ⟨hok_add kk1.2.1 (Or.inr (Or.inl ⟨rfl, by show (Rg.take n9).length ≤ 4; omega⟩)) (by rw [hU, hbz]; omega), (hho1 (zget Z1 k9) (zget_mem hk1)).2⟩
          exact MI_reg (t := tk 4 U) (j := j9) h_B hok2 (by rw [zbk_len]; exact hk1) hj_j9 (by rw [hz2]; show (zget Z1 k9).2.2.1.length = 4; rw [hRg]; exact k14)
        · refine vv_aload_n (pc := 0) x dd_Mo_tuple_0 rfl ?_
          refine vv_iload_n (pc := 1) x dd_Mo_tuple_1 rfl ?_
          refine lv_Mo_120 (pc := 2) G x dd_Mo_tuple_2 (R_place G h hZ.2.2.1 hnm k9 hk9) R.2.2 ⟨by decide, by decide⟩ (by decide) (by decide) (Nat.le_of_ble_eq_true rfl) (fun v2 M2 q2 => ?_)
          obtain ⟨rfl, hm2⟩ := q2
          have hm2 := hm2.symm
          subst hm2
          rw [show (if k9 < Z.1.length then nI (pl.getD k9 0) else (-1 : Int32)) = nI (pl.getD k9 0) from if_pos hk]
          refine vv_istore (pc := 5) x dd_Mo_tuple_5 (by decide) (ls2 := [_, _, _, _, _, none, none]) rfl ?_
          refine vv_aload_n (pc := 7) x dd_Mo_tuple_7 rfl ?_
          refine vv_iload (pc := 8) x dd_Mo_tuple_8 rfl ?_
          refine vv_if_lt (pc := 10) x dd_Mo_tuple_10 (tgt := 21) (by decide) (fun h10 => absurd h10 (nI_pos (by omega))) (fun h10 => ?_)
          refine vv_aload_n (pc := 13) x dd_Mo_tuple_13 rfl ?_
          refine vv_iload_n (pc := 14) x dd_Mo_tuple_14 rfl ?_
          refine lv_Mo_123 (pc := 15) G x dd_Mo_tuple_15 (k_rnoReg G) R.2.2 ⟨by decide, by decide⟩ (by decide) (by decide) (Nat.le_of_ble_eq_true rfl) (fun v15 M15 q15 => ?_)
          obtain ⟨rfl, hm15⟩ := q15
          have hm15 := hm15.symm
          subst hm15
          rw [show (if ¬ rv < 0 ∧ rv < 4 then (0 : Int32) else 1) = 0 from if_pos hr]
          refine vv_if_eq (pc := 18) x dd_Mo_tuple_18 (tgt := 25) (by decide) (fun h18 => ?_) (fun h18 => absurd h18 (fun z => z rfl))
          refine vv_iload_n (pc := 25) x dd_Mo_tuple_25 rfl ?_
          refine vv_if_lt (pc := 26) x dd_Mo_tuple_26 (tgt := 34) (by decide) (fun h26 => absurd h26 hc0.1) (fun h26 => ?_)
          refine vv_iload_n (pc := 29) x dd_Mo_tuple_29 rfl ?_
          refine vv_iconst (pc := 30) x dd_Mo_tuple_30 (4) (by decide) ?_
          refine vv_icmp_le (pc := 31) x dd_Mo_tuple_31 (tgt := 38) (by decide) (fun h31 => ?_) (fun h31 => absurd h31 (fun z => z hc0.2))
          refine vv_iconst (pc := 38) x dd_Mo_tuple_38 (0) (by decide) ?_
          refine lp_Mo_62 (pc := 39) G x dd_Mo_tuple_39 R.2.2 ?_
          have F_N0 : rx RI9 RA mo M (mi M mo 0 0) := rx_mi.mono (by decide) (by simp)
          have t_N0 : ri (mi M mo 0 0) mo 0 = 0 := ri_mi
          have h_N0 : MI pw D ow sl (mi M mo 0 0) mo pl Z := MI_scr h (rx_mi.mono (by decide) (by simp))
          rw [show mm_si M 7 0 mo 0 = mi M mo 0 0 from rfl]
          generalize mi M mo 0 0 = N0 at *
          have R_N0 := h_N0.1
          refine vv_aload_n (pc := 42) x dd_Mo_tuple_42 rfl ?_
          refine lg_Mo_62 (pc := 43) G x dd_Mo_tuple_43 R_N0.2.2 ?_
          rw [show mm_i N0 7 0 mo = 0 from t_N0]
          refine vv_if_eq (pc := 46) x dd_Mo_tuple_46 (tgt := 50) (by decide) (fun h46 => ?_) (fun h46 => absurd h46 (fun z => z rfl))
          refine vv_aload_n (pc := 50) x dd_Mo_tuple_50 rfl ?_
          refine vv_aload_n (pc := 51) x dd_Mo_tuple_51 rfl ?_
          refine vv_iload (pc := 52) x dd_Mo_tuple_52 rfl ?_
          refine vv_iload_n (pc := 54) x dd_Mo_tuple_54 rfl ?_
          refine vv_iconst (pc := 55) x dd_Mo_tuple_55 (1) (by decide) ?_
          refine vv_iadd (pc := 56) x dd_Mo_tuple_56 ?_
          rw [nI_1]
          refine lv_Mo_128 (pc := 57) G x dd_Mo_tuple_57 (R_room (n := n9 + 1) G h_N0 hZ hp6 hlat hml hk (by omega) (ok2, Z1) hRR) R_N0.2.2 ⟨by decide, by decide⟩ (by decide) (by decide) (Nat.le_of_ble_eq_true rfl) (fun v57 M57 q57 => ?_)
          obtain ⟨rfl, F_R, h_R⟩ := q57
          have R_R := h_R.1
          have t_R : ri M57 mo 0 = 0 := (F_R.i (by decide)).trans t_N0
          have hho1 := zho hZ1' hml1'
          have F_R2 : rx RI9 RA mo N0 M57 := F_R.mono (by decide) (by decide)
          rw [show (if (ok2, Z1).1 = true then (1 : Int32) else 0) = 0 from if_neg hc9]
          refine vv_if_eq (pc := 60) x dd_Mo_tuple_60 (tgt := 67) (by decide) (fun h60 => ?_) (fun h60 => absurd h60 (fun z => z rfl))
          refine vv_iconst (pc := 67) x dd_Mo_tuple_67 (3) (by decide) ?_
          refine lp_Mo_62 (pc := 68) G x dd_Mo_tuple_68 R_R.2.2 ?_
          have F_N1 : rx RI9 RA mo M57 (mi M57 mo 0 3) := rx_mi.mono (by decide) (by simp)
          have t_N1 : ri (mi M57 mo 0 3) mo 0 = 3 := ri_mi
          have h_N1 : MI pw D ow sl (mi M57 mo 0 3) mo pl Z1 := MI_scr h_R (rx_mi.mono (by decide) (by simp))
          rw [show mm_si M57 7 0 mo 3 = mi M57 mo 0 3 from rfl]
          generalize mi M57 mo 0 3 = N1 at *
          have R_N1 := h_N1.1
          refine vv_aload_n (pc := 71) x dd_Mo_tuple_71 rfl ?_
          refine lg_Mo_62 (pc := 72) G x dd_Mo_tuple_72 R_N1.2.2 ?_
          rw [show mm_i N1 7 0 mo = 3 from t_N1]
          refine vv_if_ne (pc := 75) x dd_Mo_tuple_75 (tgt := 169) (by decide) (fun h75 => ?_) (fun h75 => absurd h75 (by decide))
          exact vv_vret (pc := 169) x dd_Mo_tuple_169 rfl (by decide) (by decide) ⟨(F_N0.trans F_R2).trans F_N1, Or.inr (Or.inr (Or.inr ⟨⟨hk, hr⟩, hc0, hc9, rfl, t_N1, h_N1⟩))⟩
      · by_cases h1c : nv < 0
        · refine vv_aload_n (pc := 0) x dd_Mo_tuple_0 rfl ?_
          refine vv_iload_n (pc := 1) x dd_Mo_tuple_1 rfl ?_
          refine lv_Mo_120 (pc := 2) G x dd_Mo_tuple_2 (R_place G h hZ.2.2.1 hnm k9 hk9) R.2.2 ⟨by decide, by decide⟩ (by decide) (by decide) (Nat.le_of_ble_eq_true rfl) (fun v2 M2 q2 => ?_)
          obtain ⟨rfl, hm2⟩ := q2
          have hm2 := hm2.symm
          subst hm2
          rw [show (if k9 < Z.1.length then nI (pl.getD k9 0) else (-1 : Int32)) = nI (pl.getD k9 0) from if_pos hk]
          refine vv_istore (pc := 5) x dd_Mo_tuple_5 (by decide) (ls2 := [_, _, _, _, _, none, none]) rfl ?_
          refine vv_aload_n (pc := 7) x dd_Mo_tuple_7 rfl ?_
          refine vv_iload (pc := 8) x dd_Mo_tuple_8 rfl ?_
          refine vv_if_lt (pc := 10) x dd_Mo_tuple_10 (tgt := 21) (by decide) (fun h10 => absurd h10 (nI_pos (by omega))) (fun h10 => ?_)
          refine vv_aload_n (pc := 13) x dd_Mo_tuple_13 rfl ?_
          refine vv_iload_n (pc := 14) x dd_Mo_tuple_14 rfl ?_
          refine lv_Mo_123 (pc := 15) G x dd_Mo_tuple_15 (k_rnoReg G) R.2.2 ⟨by decide, by decide⟩ (by decide) (by decide) (Nat.le_of_ble_eq_true rfl) (fun v15 M15 q15 => ?_)
          obtain ⟨rfl, hm15⟩ := q15
          have hm15 := hm15.symm
          subst hm15
          rw [show (if ¬ rv < 0 ∧ rv < 4 then (0 : Int32) else 1) = 0 from if_pos hr]
          refine vv_if_eq (pc := 18) x dd_Mo_tuple_18 (tgt := 25) (by decide) (fun h18 => ?_) (fun h18 => absurd h18 (fun z => z rfl))
          refine vv_iload_n (pc := 25) x dd_Mo_tuple_25 rfl ?_
          refine vv_if_lt (pc := 26) x dd_Mo_tuple_26 (tgt := 34) (by decide) (fun h26 => ?_) (fun h26 => absurd h26 (fun z => z h1c))
          refine vv_iconst (pc := 34) x dd_Mo_tuple_34 (2) (by decide) ?_
          refine vv_goto (pc := 35) x dd_Mo_tuple_35 (tgt := 39) (by decide) ?_
          refine lp_Mo_62 (pc := 39) G x dd_Mo_tuple_39 R.2.2 ?_
          have F_N0 : rx RI9 RA mo M (mi M mo 0 2) := rx_mi.mono (by decide) (by simp)
          have t_N0 : ri (mi M mo 0 2) mo 0 = 2 := ri_mi
          have h_N0 : MI pw D ow sl (mi M mo 0 2) mo pl Z := MI_scr h (rx_mi.mono (by decide) (by simp))
          rw [show mm_si M 7 0 mo 2 = mi M mo 0 2 from rfl]
          generalize mi M mo 0 2 = N0 at *
          have R_N0 := h_N0.1
          refine vv_aload_n (pc := 42) x dd_Mo_tuple_42 rfl ?_
          refine lg_Mo_62 (pc := 43) G x dd_Mo_tuple_43 R_N0.2.2 ?_
          rw [show mm_i N0 7 0 mo = 2 from t_N0]
          refine vv_if_eq (pc := 46) x dd_Mo_tuple_46 (tgt := 50) (by decide) (fun h46 => absurd h46 (by decide)) (fun h46 => ?_)
          exact vv_vret (pc := 49) x dd_Mo_tuple_49 rfl (by decide) (by decide) ⟨F_N0, Or.inr (Or.inr (Or.inl ⟨⟨hk, hr⟩, hc, rfl, t_N0, h_N0⟩))⟩
        · refine vv_aload_n (pc := 0) x dd_Mo_tuple_0 rfl ?_
          refine vv_iload_n (pc := 1) x dd_Mo_tuple_1 rfl ?_
          refine lv_Mo_120 (pc := 2) G x dd_Mo_tuple_2 (R_place G h hZ.2.2.1 hnm k9 hk9) R.2.2 ⟨by decide, by decide⟩ (by decide) (by decide) (Nat.le_of_ble_eq_true rfl) (fun v2 M2 q2 => ?_)
          obtain ⟨rfl, hm2⟩ := q2
          have hm2 := hm2.symm
          subst hm2
          rw [show (if k9 < Z.1.length then nI (pl.getD k9 0) else (-1 : Int32)) = nI (pl.getD k9 0) from if_pos hk]
          refine vv_istore (pc := 5) x dd_Mo_tuple_5 (by decide) (ls2 := [_, _, _, _, _, none, none]) rfl ?_
          refine vv_aload_n (pc := 7) x dd_Mo_tuple_7 rfl ?_
          refine vv_iload (pc := 8) x dd_Mo_tuple_8 rfl ?_
          refine vv_if_lt (pc := 10) x dd_Mo_tuple_10 (tgt := 21) (by decide) (fun h10 => absurd h10 (nI_pos (by omega))) (fun h10 => ?_)
          refine vv_aload_n (pc := 13) x dd_Mo_tuple_13 rfl ?_
          refine vv_iload_n (pc := 14) x dd_Mo_tuple_14 rfl ?_
          refine lv_Mo_123 (pc := 15) G x dd_Mo_tuple_15 (k_rnoReg G) R.2.2 ⟨by decide, by decide⟩ (by decide) (by decide) (Nat.le_of_ble_eq_true rfl) (fun v15 M15 q15 => ?_)
          obtain ⟨rfl, hm15⟩ := q15
          have hm15 := hm15.symm
          subst hm15
          rw [show (if ¬ rv < 0 ∧ rv < 4 then (0 : Int32) else 1) = 0 from if_pos hr]
          refine vv_if_eq (pc := 18) x dd_Mo_tuple_18 (tgt := 25) (by decide) (fun h18 => ?_) (fun h18 => absurd h18 (fun z => z rfl))
          refine vv_iload_n (pc := 25) x dd_Mo_tuple_25 rfl ?_
          refine vv_if_lt (pc := 26) x dd_Mo_tuple_26 (tgt := 34) (by decide) (fun h26 => absurd h26 h1c) (fun h26 => ?_)
          refine vv_iload_n (pc := 29) x dd_Mo_tuple_29 rfl ?_
          refine vv_iconst (pc := 30) x dd_Mo_tuple_30 (4) (by decide) ?_
          refine vv_icmp_le (pc := 31) x dd_Mo_tuple_31 (tgt := 38) (by decide) (fun h31 => absurd h31 (fun z => hc ⟨h1c, z⟩)) (fun h31 => ?_)
          refine vv_iconst (pc := 34) x dd_Mo_tuple_34 (2) (by decide) ?_
          refine vv_goto (pc := 35) x dd_Mo_tuple_35 (tgt := 39) (by decide) ?_
          refine lp_Mo_62 (pc := 39) G x dd_Mo_tuple_39 R.2.2 ?_
          have F_N0 : rx RI9 RA mo M (mi M mo 0 2) := rx_mi.mono (by decide) (by simp)
          have t_N0 : ri (mi M mo 0 2) mo 0 = 2 := ri_mi
          have h_N0 : MI pw D ow sl (mi M mo 0 2) mo pl Z := MI_scr h (rx_mi.mono (by decide) (by simp))
          rw [show mm_si M 7 0 mo 2 = mi M mo 0 2 from rfl]
          generalize mi M mo 0 2 = N0 at *
          have R_N0 := h_N0.1
          refine vv_aload_n (pc := 42) x dd_Mo_tuple_42 rfl ?_
          refine lg_Mo_62 (pc := 43) G x dd_Mo_tuple_43 R_N0.2.2 ?_
          rw [show mm_i N0 7 0 mo = 2 from t_N0]
          refine vv_if_eq (pc := 46) x dd_Mo_tuple_46 (tgt := 50) (by decide) (fun h46 => absurd h46 (by decide)) (fun h46 => ?_)
          exact vv_vret (pc := 49) x dd_Mo_tuple_49 rfl (by decide) (by decide) ⟨F_N0, Or.inr (Or.inr (Or.inl ⟨⟨hk, hr⟩, hc, rfl, t_N0, h_N0⟩))⟩
    · refine vv_aload_n (pc := 0) x dd_Mo_tuple_0 rfl ?_
      refine vv_iload_n (pc := 1) x dd_Mo_tuple_1 rfl ?_
      refine lv_Mo_120 (pc := 2) G x dd_Mo_tuple_2 (R_place G h hZ.2.2.1 hnm k9 hk9) R.2.2 ⟨by decide, by decide⟩ (by decide) (by decide) (Nat.le_of_ble_eq_true rfl) (fun v2 M2 q2 => ?_)
      obtain ⟨rfl, hm2⟩ := q2
      have hm2 := hm2.symm
      subst hm2
      rw [show (if k9 < Z.1.length then nI (pl.getD k9 0) else (-1 : Int32)) = nI (pl.getD k9 0) from if_pos hk]
      refine vv_istore (pc := 5) x dd_Mo_tuple_5 (by decide) (ls2 := [_, _, _, _, _, none, none]) rfl ?_
      refine vv_aload_n (pc := 7) x dd_Mo_tuple_7 rfl ?_
      refine vv_iload (pc := 8) x dd_Mo_tuple_8 rfl ?_
      refine vv_if_lt (pc := 10) x dd_Mo_tuple_10 (tgt := 21) (by decide) (fun h10 => absurd h10 (nI_pos (by omega))) (fun h10 => ?_)
      refine vv_aload_n (pc := 13) x dd_Mo_tuple_13 rfl ?_
      refine vv_iload_n (pc := 14) x dd_Mo_tuple_14 rfl ?_
      refine lv_Mo_123 (pc := 15) G x dd_Mo_tuple_15 (k_rnoReg G) R.2.2 ⟨by decide, by decide⟩ (by decide) (by decide) (Nat.le_of_ble_eq_true rfl) (fun v15 M15 q15 => ?_)
      obtain ⟨rfl, hm15⟩ := q15
      have hm15 := hm15.symm
      subst hm15
      rw [show (if ¬ rv < 0 ∧ rv < 4 then (0 : Int32) else 1) = 1 from if_neg hr]
      refine vv_if_eq (pc := 18) x dd_Mo_tuple_18 (tgt := 25) (by decide) (fun h18 => absurd h18 (by decide)) (fun h18 => ?_)
      refine vv_iconst (pc := 21) x dd_Mo_tuple_21 (1) (by decide) ?_
      refine vv_goto (pc := 22) x dd_Mo_tuple_22 (tgt := 39) (by decide) ?_
      refine lp_Mo_62 (pc := 39) G x dd_Mo_tuple_39 R.2.2 ?_
      have F_N0 : rx RI9 RA mo M (mi M mo 0 1) := rx_mi.mono (by decide) (by simp)
      have t_N0 : ri (mi M mo 0 1) mo 0 = 1 := ri_mi
      have h_N0 : MI pw D ow sl (mi M mo 0 1) mo pl Z := MI_scr h (rx_mi.mono (by decide) (by simp))
      rw [show mm_si M 7 0 mo 1 = mi M mo 0 1 from rfl]
      generalize mi M mo 0 1 = N0 at *
      have R_N0 := h_N0.1
      refine vv_aload_n (pc := 42) x dd_Mo_tuple_42 rfl ?_
      refine lg_Mo_62 (pc := 43) G x dd_Mo_tuple_43 R_N0.2.2 ?_
      rw [show mm_i N0 7 0 mo = 1 from t_N0]
      refine vv_if_eq (pc := 46) x dd_Mo_tuple_46 (tgt := 50) (by decide) (fun h46 => absurd h46 (by decide)) (fun h46 => ?_)
      exact vv_vret (pc := 49) x dd_Mo_tuple_49 rfl (by decide) (by decide) ⟨F_N0, Or.inr (Or.inl ⟨(fun z => by first | exact hk z.1 | exact hr z.2), rfl, t_N0, h_N0⟩)⟩
  · refine vv_aload_n (pc := 0) x dd_Mo_tuple_0 rfl ?_
    refine vv_iload_n (pc := 1) x dd_Mo_tuple_1 rfl ?_
    refine lv_Mo_120 (pc := 2) G x dd_Mo_tuple_2 (R_place G h hZ.2.2.1 hnm k9 hk9) R.2.2 ⟨by decide, by decide⟩ (by decide) (by decide) (Nat.le_of_ble_eq_true rfl) (fun v2 M2 q2 => ?_)
    obtain ⟨rfl, hm2⟩ := q2
    have hm2 := hm2.symm
    subst hm2
    rw [show (if k9 < Z.1.length then nI (pl.getD k9 0) else (-1 : Int32)) = -1 from if_neg hk]
    refine vv_istore (pc := 5) x dd_Mo_tuple_5 (by decide) (ls2 := [_, _, _, _, _, none, none]) rfl ?_
    refine vv_aload_n (pc := 7) x dd_Mo_tuple_7 rfl ?_
    refine vv_iload (pc := 8) x dd_Mo_tuple_8 rfl ?_
    refine vv_if_lt (pc := 10) x dd_Mo_tuple_10 (tgt := 21) (by decide) (fun h10 => ?_) (fun h10 => absurd h10 (fun z => z (by decide)))
    refine vv_iconst (pc := 21) x dd_Mo_tuple_21 (1) (by decide) ?_
    refine vv_goto (pc := 22) x dd_Mo_tuple_22 (tgt := 39) (by decide) ?_
    refine lp_Mo_62 (pc := 39) G x dd_Mo_tuple_39 R.2.2 ?_
    have F_N0 : rx RI9 RA mo M (mi M mo 0 1) := rx_mi.mono (by decide) (by simp)
    have t_N0 : ri (mi M mo 0 1) mo 0 = 1 := ri_mi
    have h_N0 : MI pw D ow sl (mi M mo 0 1) mo pl Z := MI_scr h (rx_mi.mono (by decide) (by simp))
    rw [show mm_si M 7 0 mo 1 = mi M mo 0 1 from rfl]
    generalize mi M mo 0 1 = N0 at *
    have R_N0 := h_N0.1
    refine vv_aload_n (pc := 42) x dd_Mo_tuple_42 rfl ?_
    refine lg_Mo_62 (pc := 43) G x dd_Mo_tuple_43 R_N0.2.2 ?_
    rw [show mm_i N0 7 0 mo = 1 from t_N0]
    refine vv_if_eq (pc := 46) x dd_Mo_tuple_46 (tgt := 50) (by decide) (fun h46 => absurd h46 (by decide)) (fun h46 => ?_)
    exact vv_vret (pc := 49) x dd_Mo_tuple_49 rfl (by decide) (by decide) ⟨F_N0, Or.inr (Or.inl ⟨(fun z => by first | exact hk z.1 | exact hr z.2), rfl, t_N0, h_N0⟩)⟩
end M60
