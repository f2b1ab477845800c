/-! ===== the reference: blob ===== -/
section M61
variable {g : gg} {X : State → Prop} {t0 : Nat} {l : Launch} {M : mm} {M1 M2 : mm} {pw : Nat} {D : Nat → Prop} {ow sl : Nat → Nat} {mo : Nat} {Ki Ka : List Nat} {k : Nat} {pl : List Nat} {Z : zst} {B : List bk} {b : bk}
theorem ffn_step {c : Nat → Nat} : ∀ {n i w : Nat}, i ≤ w → w ≤ i + n → (∀ x, i ≤ x → x < w → 0 < c x) → c w = 0 → ffn c n i = w
  | 0, i, w, h1, h2, _, _ => by
    show i = w
    omega
  | n + 1, i, w, h1, h2, h3, h4 => by
    show (if 0 < c i then ffn c n (i + 1) else i) = w
    by_cases e : i = w
    · rw [e, if_neg (by omega)]
    · rw [if_pos (h3 i (Nat.le_refl _) (by omega))]
      exact ffn_step (by omega) (by omega) (fun x h5 h6 => h3 x (by omega) h6) h4
theorem ffn_pos {c : Nat → Nat} : ∀ {n i x : Nat}, i ≤ x → x < ffn c n i → 0 < c x
  | 0, i, x, h1, h2 => by
    have h3 : x < i := h2
    omega
  | n + 1, i, x, h1, h2 => by
    have h3 : x < (if 0 < c i then ffn c n (i + 1) else i) := h2
    by_cases e : 0 < c i
    · rw [if_pos e] at h3
      by_cases e2 : x = i
      · rw [e2]; exact e
      · exact ffn_pos (by omega) h3
    · rw [if_neg e] at h3
      omega
set_option maxRecDepth 100000 in
set_option maxHeartbeats 1000000 in
theorem R_blob (G : gc g X t0 l) (h : MI pw D ow sl M mo pl Z) (hZ : zok pw Z) (hp6 : pw ≤ 600) (hlat : Z.2.2.1 < 2 ^ 31) (hml : ∀ P ∈ Z.1, P.2.2.2.1.length ≤ 512) {xv rv : Int32} (k9 : Nat) (hk9 : plc Z xv = k9) {nv : Int32} : Ok g X l yy_Mo_blob cc_Mo_blob 7 none 7 162 0 0 [.ref mo, .int xv, .int rv, .int nv] M (fun v M' => rx RI9 RA mo M M' ∧ (((k9 < Z.1.length ∧ rok rv) ∧ (¬ nv < 1 ∧ nv ≤ 100) ∧ (zroom Z k9 2).1 = true ∧ (¬ nI (zroom Z k9 2).2.2.1.1 < nv ∧ (zroom Z k9 2).2.2.1.2.1 < 30) ∧ v = none ∧ ri M' mo 0 = 0 ∧ MI pw D ow sl M' mo pl (zreg (zblob (zroom Z k9 2).2 k9 nv.toNatClampNeg) k9 rv.toNatClampNeg (tk 5 (hsz (zget (zroom Z k9 2).2 k9).2.2.2.2)))) ∨ (¬ (k9 < Z.1.length ∧ rok rv) ∧ v = none ∧ ri M' mo 0 = 1 ∧ MI pw D ow sl M' mo pl Z) ∨ ((k9 < Z.1.length ∧ rok rv) ∧ ¬ (¬ nv < 1 ∧ nv ≤ 100) ∧ v = none ∧ ri M' mo 0 = 2 ∧ MI pw D ow sl M' mo pl Z) ∨ ((k9 < Z.1.length ∧ rok rv) ∧ (¬ nv < 1 ∧ nv ≤ 100) ∧ ¬ (zroom Z k9 2).1 = true ∧ v = none ∧ ri M' mo 0 = 3 ∧ MI pw D ow sl M' mo pl (zroom Z k9 2).2) ∨ ((k9 < Z.1.length ∧ rok rv) ∧ (¬ nv < 1 ∧ nv ≤ 100) ∧ (zroom Z k9 2).1 = true ∧ ¬ (¬ nI (zroom Z k9 2).2.2.1.1 < nv ∧ (zroom Z k9 2).2.2.1.2.1 < 30) ∧ v = none ∧ ri M' mo 0 = 4 ∧ MI pw D ow sl M' mo pl (zroom Z k9 2).2))) := by
  refine ok_start (by decide) (Nat.le_of_ble_eq_true rfl) (by simp [Value.category]) ?_
  intro p e s m args below meth c9 x
  have R := h.1
  have hnm := znm hZ hlat
  have h8z := hZ.2.1
  by_cases hk : k9 < Z.1.length
  · have hp8 : pl.getD k9 0 < 8 := h.2.2.1.2.2 _ (getD_memN (by have := h.2.2.1.1; omega))
    by_cases hr : rok rv
    · have hho := zho hZ hml
      obtain ⟨⟨a1, a2, a3⟩, a4, ⟨a5, a6⟩, a7, a8⟩ := h.2.2.2.1 k9 hk
      have kk := hZ.1 _ (zget_mem hk)
      have h600 := kk.2.1.1
      have hml9 := hml _ (zget_mem hk)
      have hcp : (nI (pl.getD k9 0)).toNatClampNeg = pl.getD k9 0 := nI_clamp (by omega)
      obtain ⟨-, hj_j9, ej_j9⟩ := rok_in hr
      have gj_j9 := a4 rv.toNatClampNeg hj_j9
      generalize hq_j9 : rv.toNatClampNeg = j9 at *
      by_cases hc : ¬ nv < 1 ∧ nv ≤ 100
      · have hc0 := hc
        have hn0 : ¬ nv < 0 := fun z => hc.1 (Int32.lt_of_lt_of_le z (by decide))
        obtain ⟨n9, n91, n92⟩ := nI_of hn0
        have n94 : n9 ≤ 100 := (nI_leI (b := 100) n91 (by decide)).mp (by rw [← n92]; exact hc.2)
        have n95 : 1 ≤ n9 := by
          have := nI_ltI (a := n9) (b := 1) n91 (by decide)
          rw [← n92] at this
          have h7 : ¬ n9 < 1 := fun z => hc.1 (this.mpr z)
          omega
        have n93 : nv.toNatClampNeg = n9 := by rw [n92, nI_clamp n91]
        rw [n93]
        have hZ1 := zroom_ok (n := 2) hZ hk
        have hfit0 := zroom_fit (Z := Z) (i := k9) (n := 2) hk
        have hzl := zroom_len (Z := Z) (i := k9) (n := 2)
        have hml1 := zroom_ml2 (n := 2) hml hk
        have hlat1 := zroom_lat (Z := Z) (i := k9) (n := 2)
        have hRRr : zroom Z k9 (2) = zroom Z k9 (2) := rfl
        generalize hRR : zroom Z k9 (2) = RR at *
        obtain ⟨ok2, Z1⟩ := RR
        have hZ1' : zok pw Z1 := hZ1
        have hk1 : k9 < Z1.1.length := by have hzl' : Z1.1.length = Z.1.length := hzl; omega
        have hml1' : ∀ P ∈ Z1.1, P.2.2.2.1.length ≤ 512 := hml1
        have kk1 := hZ1'.1 _ (zget_mem hk1)
        have hcap1 := cap_le hZ1' hk1
        have hnm1 := znm hZ1' (show Z1.2.2.1 < 2 ^ 31 by have hl' : Z1.2.2.1 = Z.2.2.1 := hlat1; omega)
        have hb30 : Z1.2.1.2.1 ≤ 30 := by
          have e9 := hZ1'.2.2.2.2.1.1.1
          have e8 : nz Z1.2.1.2.2.2 (List.range 30) ≤ (List.range 30).length := List.length_filter_le _ _
          rw [List.length_range] at e8
          omega
        have hfr1 : Z1.2.1.1 ≤ pw := by have := hZ1'.2.2.2.2.2.2; omega
        generalize hU : hsz (zget Z1 k9).2.2.2.2 = U at *
        subst n92
        by_cases hc9 : (ok2, Z1).1 = true
        · have hfit : hsz (zget Z1 k9).2.2.2.2 + 2 ≤ (zget Z1 k9).2.1 := by rw [hU]; exact hfit0 hc9
          rw [hU] at hfit
          by_cases hf9 : ¬ nI Z1.2.1.1 < nI n9 ∧ Z1.2.1.2.1 < 30
          · have hl9 : ∀ (n w9 : Nat) (N2 : mm), MI pw D ow sl N2 mo pl Z1 → rx RI9 RA mo M N2 → ri N2 mo 0 = 0 → w9 + n = zfw Z1 → vv g 7 p l e (rm 7 162 0 0) s m args below meth c9 (MQ below (ok_Q g (fun v M' => rx RI9 RA mo M M' ∧ (((k9 < Z.1.length ∧ rok rv) ∧ (¬ nI n9 < 1 ∧ nI n9 ≤ 100) ∧ (ok2, Z1).1 = true ∧ (¬ nI (ok2, Z1).2.2.1.1 < nI n9 ∧ (ok2, Z1).2.2.1.2.1 < 30) ∧ v = none ∧ ri M' mo 0 = 0 ∧ MI pw D ow sl M' mo pl (zreg (zblob (ok2, Z1).2 k9 n9) k9 j9 (tk 5 (U)))) ∨ (¬ (k9 < Z.1.length ∧ rok rv) ∧ v = none ∧ ri M' mo 0 = 1 ∧ MI pw D ow sl M' mo pl Z) ∨ ((k9 < Z.1.length ∧ rok rv) ∧ ¬ (¬ nI n9 < 1 ∧ nI n9 ≤ 100) ∧ v = none ∧ ri M' mo 0 = 2 ∧ MI pw D ow sl M' mo pl Z) ∨ ((k9 < Z.1.length ∧ rok rv) ∧ (¬ nI n9 < 1 ∧ nI n9 ≤ 100) ∧ ¬ (ok2, Z1).1 = true ∧ v = none ∧ ri M' mo 0 = 3 ∧ MI pw D ow sl M' mo pl (ok2, Z1).2) ∨ ((k9 < Z.1.length ∧ rok rv) ∧ (¬ nI n9 < 1 ∧ nI n9 ≤ 100) ∧ (ok2, Z1).1 = true ∧ ¬ (¬ nI (ok2, Z1).2.2.1.1 < nI n9 ∧ (ok2, Z1).2.2.1.2.1 < 30) ∧ v = none ∧ ri M' mo 0 = 4 ∧ MI pw D ow sl M' mo pl (ok2, Z1).2)))) args s 0 0 (ok_F g)) 0 0 117 [some (.ref mo), some (.int xv), some (.int rv), some (.int (nI n9)), some (.int (nI (pl.getD k9 0))), some (.int (nI w9)), none] [] (N2) := by
              intro n
              have hw30 := zfw_30 (Z := Z1)
              have hw0 := zfw_0 hZ1' hf9.2
              have hsz9 : ∀ w, w < 30 → Z1.2.1.2.2.1 w ≤ pw := fun w hw => by
                have h1 := hZ1'.2.2.2.2.2.2
                have h2 : Z1.2.1.2.2.1 w ≤ psum Z1.2.1.2.2.1 := by
                  have h3 := sr_le (f := Z1.2.1.2.2.1) (n := w + 1) (m := 30) (by omega)
                  rw [sr_s] at h3
                  have h4 : sr Z1.2.1.2.2.1 30 = psum Z1.2.1.2.2.1 := rfl
                  omega
                omega
              induction n with
              | zero =>
                intro w9 N2 h_N2 F2 t_N2 hw9
                have R_N2 := h_N2.1
                have ew : w9 = zfw Z1 := by omega
                subst ew
                have hs0 : Z1.2.1.2.2.1 (zfw Z1) = 0 := by
                  have := hZ1'.2.2.2.2.1.2.1 _ hw30
                  omega
                refine vv_aload_n (pc := 117) x dd_Mo_blob_117 rfl ?_
                refine lg_Mo_34 (pc := 118) G x dd_Mo_blob_118 R_N2.2.2 (R_N2.r 14 (by decide)) ?_
                refine vv_iload (pc := 121) x dd_Mo_blob_121 rfl ?_
                refine vv_iald (pc := 123) x dd_Mo_blob_123 (R_N2.t 14 (by decide)) (in_n (N := 30) (by omega) (R_N2.n 14 (by decide)) (by decide)) ?_
                rw [nI_clamp (n := (zfw Z1)) (by omega), show mm_a N2 (mm_f N2 7 14 mo) (zfw Z1) = nI (Z1.2.1.2.2.1 (zfw Z1)) from (h_N2.2.2.2.2.2.2 (zfw Z1) (by omega)).1]
                rw [show nI (Z1.2.1.2.2.1 (zfw Z1)) = nI 0 from by rw [hs0]]
                refine vv_if_le (pc := 124) x dd_Mo_blob_124 (tgt := 133) (by decide) (fun h124 => ?_) (fun h124 => absurd h124 (fun z => z (by decide)))
                refine vv_aload_n (pc := 133) x dd_Mo_blob_133 rfl ?_
                refine lg_Mo_34 (pc := 134) G x dd_Mo_blob_134 R_N2.2.2 (R_N2.r 14 (by decide)) ?_
                refine vv_iload (pc := 137) x dd_Mo_blob_137 rfl ?_
                refine vv_iload_n (pc := 139) x dd_Mo_blob_139 rfl ?_
                refine vv_iast (pc := 140) x dd_Mo_blob_140 (R_N2.t 14 (by decide)) (in_n (N := 30) (by omega) (R_N2.n 14 (by decide)) (by decide)) ?_
                rw [nI_clamp (n := zfw Z1) (by omega), show mm_sa N2 (mm_f N2 7 14 mo) (upd (mm_a N2 (mm_f N2 7 14 mo)) (zfw Z1) (nI n9)) = mw N2 mo 14 (upd (ra N2 mo 14) (zfw Z1) (nI n9)) from rfl]
                have FA : rx [] [14] mo N2 (mw N2 mo 14 (upd (ra N2 mo 14) (zfw Z1) (nI n9))) := rx_mw
                have wA : ra (mw N2 mo 14 (upd (ra N2 mo 14) (zfw Z1) (nI n9))) mo 14 = upd (ra N2 mo 14) (zfw Z1) (nI n9) := ra_mw
                generalize mw N2 mo 14 (upd (ra N2 mo 14) (zfw Z1) (nI n9)) = N3 at *
                have R_3 := FA.to R_N2
                refine vv_aload_n (pc := 141) x dd_Mo_blob_141 rfl ?_
                refine lg_Mo_37 (pc := 142) G x dd_Mo_blob_142 R_3.2.2 (R_3.r 15 (by decide)) ?_
                refine vv_iload (pc := 145) x dd_Mo_blob_145 rfl ?_
                refine vv_iconst (pc := 147) x dd_Mo_blob_147 (1) (by decide) ?_
                refine vv_iast (pc := 148) x dd_Mo_blob_148 (R_3.t 15 (by decide)) (in_n (N := 30) (by omega) (R_3.n 15 (by decide)) (by decide)) ?_
                rw [nI_clamp (n := zfw Z1) (by omega), show mm_sa N3 (mm_f N3 7 15 mo) (upd (mm_a N3 (mm_f N3 7 15 mo)) (zfw Z1) 1) = mw N3 mo 15 (upd (ra N3 mo 15) (zfw Z1) 1) from rfl]
                have FB : rx [] [14, 15] mo N2 (mw N3 mo 15 (upd (ra N3 mo 15) (zfw Z1) 1)) := (FA.mono (by simp) (by simp)).trans (rx_mw.mono (by simp) (by simp))
                have wB : ra (mw N3 mo 15 (upd (ra N3 mo 15) (zfw Z1) 1)) mo 15 = upd (ra N2 mo 15) (zfw Z1) 1 := by rw [ra_mw, FA.a R_N2 (by decide) (by decide) (by decide)]
                have wB2 : ra (mw N3 mo 15 (upd (ra N3 mo 15) (zfw Z1) 1)) mo 14 = upd (ra N2 mo 14) (zfw Z1) (nI n9) := by rw [ra_mw_n R_3 (by decide) (by decide) (by decide), wA]
                generalize mw N3 mo 15 (upd (ra N3 mo 15) (zfw Z1) 1) = N4 at *
                have R_4 := FB.to R_N2
                refine vv_aload_n (pc := 149) x dd_Mo_blob_149 rfl ?_
                refine vv_dup (pc := 150) x dd_Mo_blob_150 rfl ?_
                refine lg_Mo_65 (pc := 151) G x dd_Mo_blob_151 R_4.2.2 ?_
                rw [show mm_i N4 7 13 mo = nI Z1.2.1.2.1 from (FB.i (by simp)).trans h_N2.2.2.2.2.2.1]
                refine vv_iconst (pc := 154) x dd_Mo_blob_154 (1) (by decide) ?_
                refine vv_iadd (pc := 155) x dd_Mo_blob_155 ?_
                rw [nI_1]
                refine lp_Mo_65 (pc := 156) G x dd_Mo_blob_156 R_4.2.2 ?_
                rw [show mm_si N4 7 13 mo (nI (Z1.2.1.2.1 + 1)) = mi N4 mo 13 (nI (Z1.2.1.2.1 + 1)) from rfl]
                have FC : rx [13] [14, 15] mo N2 (mi N4 mo 13 (nI (Z1.2.1.2.1 + 1))) := (FB.mono (by simp) (by simp)).trans (rx_mi.mono (by simp) (by simp))
                have hC : MI pw D ow sl (mi N4 mo 13 (nI (Z1.2.1.2.1 + 1))) mo pl (Z1.1, pmb Z1.2.1 (zfw Z1) n9, Z1.2.2.1, Z1.2.2.2) := by
                  obtain ⟨x1, ⟨x2, x3, x4, x5⟩, x6, x7, x8, x9⟩ := h_N2
                  have e : ∀ k, k ∈ RA → k ∉ [14, 15] → ra (mi N4 mo 13 (nI (Z1.2.1.2.1 + 1))) mo k = ra N2 mo k := fun k h1 h2 => FC.a x1 h1 (by decide) h2
                  refine ⟨FC.to x1, ⟨(FC.i (by decide)).trans x2, (FC.i (by decide)).trans x3, (FC.i (by decide)).trans x4, (FC.i (by decide)).trans x5⟩, x6, fun i hi => ?_, fun p hp hn => ?_, ri_mi, fun w hw => ?_⟩
                  · have h9 := x7 i hi
                    unfold RP at h9 ⊢
                    rw [e 5 (by decide) (by decide), e 6 (by decide) (by decide), e 7 (by decide) (by decide), e 8 (by decide) (by decide), e 9 (by decide) (by decide), e 10 (by decide) (by decide), e 11 (by decide) (by decide), e 12 (by decide) (by decide)]
                    exact h9
                  · rw [e 5 (by decide) (by decide)]; exact x8 p hp hn
                  · rw [ra_mi, ra_mi, wB, wB2]
                    show _ = nI (un Z1.2.1.2.2.1 (zfw Z1) n9 w) ∧ _ = nI (un Z1.2.1.2.2.2 (zfw Z1) 1 w)
                    by_cases e9 : w = zfw Z1
                    · rw [upd_eq e9, upd_eq e9, e9, un_s, un_s]; exact ⟨rfl, rfl⟩
                    · rw [upd_ne e9, upd_ne e9, un_n e9, un_n e9]; exact x9.2 w hw
                have tC : ri (mi N4 mo 13 (nI (Z1.2.1.2.1 + 1))) mo 0 = 0 := (FC.i (by decide)).trans t_N2
                generalize mi N4 mo 13 (nI (Z1.2.1.2.1 + 1)) = N5 at *
                have R_5 := hC.1
                have hho5 : ∀ P ∈ ((Z1.1, pmb Z1.2.1 (zfw Z1) n9, Z1.2.2.1, Z1.2.2.2) : zst).1, hok P.2.2.2.2 ∧ P.2.2.2.1.length ≤ 512 := zho (Z := Z1) hZ1' hml1'
                have hU5 : hsz (zget (Z1.1, pmb Z1.2.1 (zfw Z1) n9, Z1.2.2.1, Z1.2.2.2) k9).2.2.2.2 = U := hU
                refine vv_aload_n (pc := 159) x dd_Mo_blob_159 rfl ?_
                refine vv_iload (pc := 160) x dd_Mo_blob_160 rfl ?_
                refine vv_iconst (pc := 162) x dd_Mo_blob_162 (5) (by decide) ?_
                refine vv_iconst (pc := 163) x dd_Mo_blob_163 (2) (by decide) ?_
                refine lv_Mo_132 (pc := 164) G x dd_Mo_blob_164 (R_open (kn := 5) (sz := 2) G hC hk1 (by decide) (by rw [hU5]; omega)) R_5.2.2 ⟨by decide, by decide⟩ (by decide) (by decide) (Nat.le_of_ble_eq_true rfl) (fun v164 M164 q164 => ?_)
                obtain ⟨rfl, F_O, o7, o12, o12o⟩ := q164
                rw [hU5] at o7 o12 o12o ⊢
                have R_O := F_O.to R_5
                have t_O : ri M164 mo 0 = 0 := (F_O.i (by simp)).trans tC
                refine vv_istore (pc := 167) x dd_Mo_blob_167 (by decide) (ls2 := [_, _, _, _, _, _, _]) rfl ?_
                refine vv_aload_n (pc := 169) x dd_Mo_blob_169 rfl ?_
                refine lg_Mo_28 (pc := 170) G x dd_Mo_blob_170 R_O.2.2 (R_O.r 11 (by decide)) ?_
                refine vv_sipush (pc := 173) x dd_Mo_blob_173 (600) (by decide) ?_
                refine vv_iload (pc := 176) x dd_Mo_blob_176 rfl ?_
                refine vv_imul (pc := 178) x dd_Mo_blob_178 ?_
                refine vv_iload (pc := 179) x dd_Mo_blob_179 rfl ?_
                refine vv_iadd (pc := 181) x dd_Mo_blob_181 ?_
                rw [ix600]
                refine vv_iload (pc := 182) x dd_Mo_blob_182 rfl ?_
                refine vv_iast (pc := 184) x dd_Mo_blob_184 (R_O.t 11 (by decide)) (in_n (N := 4800) (by omega) (R_O.n 11 (by decide)) (by decide)) ?_
                rw [nI_clamp (n := 600 * pl.getD k9 0 + U) (by omega), show mm_sa M164 (mm_f M164 7 11 mo) (upd (mm_a M164 (mm_f M164 7 11 mo)) (600 * pl.getD k9 0 + U) (nI (zfw Z1))) = mw M164 mo 11 (upd (ra M164 mo 11) (600 * pl.getD k9 0 + U) (nI (zfw Z1))) from rfl]
                have F_W : rx [] [11] mo M164 (mw M164 mo 11 (upd (ra M164 mo 11) (600 * pl.getD k9 0 + U) (nI (zfw Z1)))) := rx_mw
                have w11 : ra (mw M164 mo 11 (upd (ra M164 mo 11) (600 * pl.getD k9 0 + U) (nI (zfw Z1)))) mo 11 = upd (ra M164 mo 11) (600 * pl.getD k9 0 + U) (nI (zfw Z1)) := ra_mw
                generalize mw M164 mo 11 (upd (ra M164 mo 11) (600 * pl.getD k9 0 + U) (nI (zfw Z1))) = N6 at *
                have R_6 := F_W.to R_O
                refine vv_aload_n (pc := 185) x dd_Mo_blob_185 rfl ?_
                refine lg_Mo_28 (pc := 186) G x dd_Mo_blob_186 R_6.2.2 (R_6.r 11 (by decide)) ?_
                refine vv_sipush (pc := 189) x dd_Mo_blob_189 (600) (by decide) ?_
                refine vv_iload (pc := 192) x dd_Mo_blob_192 rfl ?_
                refine vv_imul (pc := 194) x dd_Mo_blob_194 ?_
                refine vv_iload (pc := 195) x dd_Mo_blob_195 rfl ?_
                refine vv_iadd (pc := 197) x dd_Mo_blob_197 ?_
                rw [ix600]
                refine vv_iconst (pc := 198) x dd_Mo_blob_198 (1) (by decide) ?_
                refine vv_iadd (pc := 199) x dd_Mo_blob_199 ?_
                rw [nI_1]
                refine vv_iconst (pc := 200) x dd_Mo_blob_200 (0) (by decide) ?_
                refine vv_iast (pc := 201) x dd_Mo_blob_201 (R_6.t 11 (by decide)) (in_n (N := 4800) (by omega) (R_6.n 11 (by decide)) (by decide)) ?_
                rw [nI_clamp (n := 600 * pl.getD k9 0 + U + 1) (by omega), show mm_sa N6 (mm_f N6 7 11 mo) (upd (mm_a N6 (mm_f N6 7 11 mo)) (600 * pl.getD k9 0 + U + 1) 0) = mw N6 mo 11 (upd (ra N6 mo 11) (600 * pl.getD k9 0 + U + 1) 0) from rfl]
                have F_W2 : rx [] [11] mo M164 (mw N6 mo 11 (upd (ra N6 mo 11) (600 * pl.getD k9 0 + U + 1) 0)) := F_W.trans rx_mw
                have v11 : ra (mw N6 mo 11 (upd (ra N6 mo 11) (600 * pl.getD k9 0 + U + 1) 0)) mo 11 = upd (upd (ra M164 mo 11) (600 * pl.getD k9 0 + U) (nI (zfw Z1))) (600 * pl.getD k9 0 + U + 1) 0 := by rw [ra_mw, w11]
                generalize mw N6 mo 11 (upd (ra N6 mo 11) (600 * pl.getD k9 0 + U + 1) 0) = N7 at *
                have R_7 := F_W2.to R_O
                have F_57 : rx [] [7, 11, 12] mo N5 N7 := (F_O.mono (by simp) (by decide)).trans (F_W2.mono (by simp) (by decide))
                have e11 : ra M164 mo 11 = ra N5 mo 11 := F_O.a R_5 (by decide) (by decide) (by decide)
                have s3 : ∀ k, k ∈ RA → k ≠ 11 → ra N7 mo k = ra M164 mo k := fun k h1 h2 => F_W2.a R_O h1 (by decide) (by simpa using h2)
                have hbz : bsz (5, [nI (zfw Z1)]) = 2 := rfl
                have t7 : ri N7 mo 0 = 0 := (F_W2.i (by simp)).trans t_O
                have h_B := MI_blk (b := (5, [nI (zfw Z1)])) (i := k9) (p' := pmb Z1.2.1 (zfw Z1) n9) hC hho5 hk1 (by rw [hU5, hbz]; omega) (F_57.mono (by simp) (by decide)) (by rw [s3 7 (by decide) (by decide), hU5, hbz]; exact o7) (by rw [s3 12 (by decide) (by decide), hU5, hbz]; exact o12) (by rw [s3 12 (by decide) (by decide), hU5, hbz]; exact o12o) (by
                  rw [v11, hU5, hbz]
                  intro jq hjq h5q
                  rcases jq with _ | _ | jq
                  · rw [upd_ne (by omega), upd_eq (by omega)]; rfl
                  · exact absurd ⟨rfl, rfl⟩ h5q
                  · omega) (by
                  rw [v11, hU5, hbz, e11]
                  intro x hx
                  rw [upd_ne (by omega), upd_ne (by omega)]) ⟨(F_57.i (by simp)).trans hC.2.2.2.2.2.1, fun w hw => by rw [F_57.a R_5 (by decide) (by decide) (by decide), F_57.a R_5 (by decide) (by decide) (by decide)]; exact hC.2.2.2.2.2.2 w hw⟩
                have hz2 : zget (zblob Z1 k9 n9) k9 = ((zget Z1 k9).1, (zget Z1 k9).2.1, (zget Z1 k9).2.2.1, (zget Z1 k9).2.2.2.1, (zget Z1 k9).2.2.2.2 ++ [(5, [nI (zfw Z1)])]) := zbk_get (Z := (Z1.1, pmb Z1.2.1 (zfw Z1) n9, Z1.2.2.1, Z1.2.2.2)) hk1
                have hok2 : ∀ P ∈ (zblob Z1 k9 n9).1, hok P.2.2.2.2 ∧ P.2.2.2.1.length ≤ 512 := fun P hP => by
                  rcases List.mem_or_eq_of_mem_set hP with e8 | e8
                  · exact hho5 P e8
                  · rw [e8]; exact ⟨hok_add kk1.2.1 (Or.inr (Or.inr ⟨rfl, rfl⟩)) (by rw [hU5, hbz]; omega), (hho5 (zget Z1 k9) (zget_mem hk1)).2⟩
                have h_B2 : MI pw D ow sl N7 mo pl (zblob Z1 k9 n9) := h_B
                have h_G := MI_reg (t := tk 5 U) (j := j9) h_B2 hok2 (by unfold zblob; rw [zbk_len]; exact hk1) hj_j9 (by rw [hz2]; exact kk1.1)
                refine vv_aload_n (pc := 202) x dd_Mo_blob_202 rfl ?_
                refine lg_Mo_19 (pc := 203) G x dd_Mo_blob_203 R_7.2.2 (R_7.r 8 (by decide)) ?_
                refine vv_iconst (pc := 206) x dd_Mo_blob_206 (4) (by decide) ?_
                refine vv_iload (pc := 207) x dd_Mo_blob_207 rfl ?_
                refine vv_imul (pc := 209) x dd_Mo_blob_209 ?_
                refine vv_iload_n (pc := 210) x dd_Mo_blob_210 rfl ?_
                refine vv_iadd (pc := 211) x dd_Mo_blob_211 ?_
                rw [show (4 : Int32) * nI (pl.getD k9 0) + rv = nI (4 * pl.getD k9 0 + j9) from by rw [ej_j9]; exact ix4]
                refine vv_bipush (pc := 212) x dd_Mo_blob_212 (8) (by decide) ?_
                refine vv_iload (pc := 214) x dd_Mo_blob_214 rfl ?_
                refine vv_imul (pc := 216) x dd_Mo_blob_216 ?_
                refine vv_iconst (pc := 217) x dd_Mo_blob_217 (5) (by decide) ?_
                refine vv_iadd (pc := 218) x dd_Mo_blob_218 ?_
                rw [show (8 : Int32) * nI U + 5 = tk 5 U from tk_eq (k := 5)]
                refine vv_iast (pc := 219) x dd_Mo_blob_219 (R_7.t 8 (by decide)) (in_n (N := 32) (by omega) (R_7.n 8 (by decide)) (by decide)) ?_
                rw [nI_clamp (n := 4 * pl.getD k9 0 + j9) (by omega)]
                exact vv_vret (pc := 220) x dd_Mo_blob_220 rfl (by decide) (by decide) ⟨(((F2.trans (FC.mono (by decide) (by decide))).trans (F_O.mono (by simp) (by decide))).trans (F_W2.mono (by simp) (by decide))).trans (rx_mw.mono (by simp) (by decide)), Or.inl ⟨⟨hk, hr⟩, hc0, hc9, hf9, rfl, (ri_mw (M := N7) (mo := mo) (k := 8) (k2 := 0) (f := upd (ra N7 mo 8) (4 * pl.getD k9 0 + j9) (tk 5 U))).trans t7, h_G⟩⟩
              | succ n ih =>
                intro w9 N2 h_N2 F2 t_N2 hw9
                have R_N2 := h_N2.1
                have hpos : 0 < Z1.2.1.2.2.1 w9 := by
                  have h1 : 0 < Z1.2.1.2.2.2 w9 := ffn_pos (n := 29) (i := 0) (Nat.zero_le _) (show w9 < zfw Z1 by omega)
                  exact (hZ1'.2.2.2.2.1.2.1 w9 (by omega)).mp h1
                have hle9 := hsz9 w9 (by omega)
                refine vv_aload_n (pc := 117) x dd_Mo_blob_117 rfl ?_
                refine lg_Mo_34 (pc := 118) G x dd_Mo_blob_118 R_N2.2.2 (R_N2.r 14 (by decide)) ?_
                refine vv_iload (pc := 121) x dd_Mo_blob_121 rfl ?_
                refine vv_iald (pc := 123) x dd_Mo_blob_123 (R_N2.t 14 (by decide)) (in_n (N := 30) (by omega) (R_N2.n 14 (by decide)) (by decide)) ?_
                rw [nI_clamp (n := w9) (by omega), show mm_a N2 (mm_f N2 7 14 mo) w9 = nI (Z1.2.1.2.2.1 w9) from (h_N2.2.2.2.2.2.2 w9 (by omega)).1]
                refine vv_if_le (pc := 124) x dd_Mo_blob_124 (tgt := 133) (by decide) (fun h124 => absurd h124 (fun z => by have := (nI_leI (b := 0) (by omega) (by decide)).mp z; omega)) (fun h124 => ?_)
                refine vv_iinc (pc := 127) x dd_Mo_blob_127 rfl (nI_1 w9) (by decide) (ls2 := [_, _, _, _, _, _, none]) rfl ?_
                refine vv_goto (pc := 130) x dd_Mo_blob_130 (tgt := 117) (by decide) ?_
                exact ih (w9 + 1) N2 h_N2 F2 t_N2 (by omega)
            refine vv_aload_n (pc := 0) x dd_Mo_blob_0 rfl ?_
            refine vv_iload_n (pc := 1) x dd_Mo_blob_1 rfl ?_
            refine lv_Mo_120 (pc := 2) G x dd_Mo_blob_2 (R_place G h hZ.2.2.1 hnm k9 hk9) R.2.2 ⟨by decide, by decide⟩ (by decide) (by decide) (Nat.le_of_ble_eq_true rfl) (fun v2 M2 q2 => ?_)
            obtain ⟨rfl, hm2⟩ := q2
            have hm2 := hm2.symm
            subst hm2
            rw [show (if k9 < Z.1.length then nI (pl.getD k9 0) else (-1 : Int32)) = nI (pl.getD k9 0) from if_pos hk]
            refine vv_istore (pc := 5) x dd_Mo_blob_5 (by decide) (ls2 := [_, _, _, _, _, none, none]) rfl ?_
            refine vv_aload_n (pc := 7) x dd_Mo_blob_7 rfl ?_
            refine vv_iload (pc := 8) x dd_Mo_blob_8 rfl ?_
            refine vv_if_lt (pc := 10) x dd_Mo_blob_10 (tgt := 21) (by decide) (fun h10 => absurd h10 (nI_pos (by omega))) (fun h10 => ?_)
            refine vv_aload_n (pc := 13) x dd_Mo_blob_13 rfl ?_
            refine vv_iload_n (pc := 14) x dd_Mo_blob_14 rfl ?_
            refine lv_Mo_123 (pc := 15) G x dd_Mo_blob_15 (k_rnoReg G) R.2.2 ⟨by decide, by decide⟩ (by decide) (by decide) (Nat.le_of_ble_eq_true rfl) (fun v15 M15 q15 => ?_)
            obtain ⟨rfl, hm15⟩ := q15
            have hm15 := hm15.symm
            subst hm15
            rw [show (if ¬ rv < 0 ∧ rv < 4 then (0 : Int32) else 1) = 0 from if_pos hr]
            refine vv_if_eq (pc := 18) x dd_Mo_blob_18 (tgt := 25) (by decide) (fun h18 => ?_) (fun h18 => absurd h18 (fun z => z rfl))
            refine vv_iload_n (pc := 25) x dd_Mo_blob_25 rfl ?_
            refine vv_iconst (pc := 26) x dd_Mo_blob_26 (1) (by decide) ?_
            refine vv_icmp_lt (pc := 27) x dd_Mo_blob_27 (tgt := 36) (by decide) (fun h27 => absurd h27 hc0.1) (fun h27 => ?_)
            refine vv_iload_n (pc := 30) x dd_Mo_blob_30 rfl ?_
            refine vv_bipush (pc := 31) x dd_Mo_blob_31 (100) (by decide) ?_
            refine vv_icmp_le (pc := 33) x dd_Mo_blob_33 (tgt := 40) (by decide) (fun h33 => ?_) (fun h33 => absurd h33 (fun z => z hc0.2))
            refine vv_iconst (pc := 40) x dd_Mo_blob_40 (0) (by decide) ?_
            refine lp_Mo_62 (pc := 41) G x dd_Mo_blob_41 R.2.2 ?_
            have F_N0 : rx RI9 RA mo M (mi M mo 0 0) := rx_mi.mono (by decide) (by simp)
            have t_N0 : ri (mi M mo 0 0) mo 0 = 0 := ri_mi
            have h_N0 : MI pw D ow sl (mi M mo 0 0) mo pl Z := MI_scr h (rx_mi.mono (by decide) (by simp))
            rw [show mm_si M 7 0 mo 0 = mi M mo 0 0 from rfl]
            generalize mi M mo 0 0 = N0 at *
            have R_N0 := h_N0.1
            refine vv_aload_n (pc := 44) x dd_Mo_blob_44 rfl ?_
            refine lg_Mo_62 (pc := 45) G x dd_Mo_blob_45 R_N0.2.2 ?_
            rw [show mm_i N0 7 0 mo = 0 from t_N0]
            refine vv_if_eq (pc := 48) x dd_Mo_blob_48 (tgt := 52) (by decide) (fun h48 => ?_) (fun h48 => absurd h48 (fun z => z rfl))
            refine vv_aload_n (pc := 52) x dd_Mo_blob_52 rfl ?_
            refine vv_aload_n (pc := 53) x dd_Mo_blob_53 rfl ?_
            refine vv_iload (pc := 54) x dd_Mo_blob_54 rfl ?_
            refine vv_iconst (pc := 56) x dd_Mo_blob_56 (2) (by decide) ?_
            refine lv_Mo_128 (pc := 57) G x dd_Mo_blob_57 (R_room (n := 2) G h_N0 hZ hp6 hlat hml hk (by omega) (ok2, Z1) hRR) R_N0.2.2 ⟨by decide, by decide⟩ (by decide) (by decide) (Nat.le_of_ble_eq_true rfl) (fun v57 M57 q57 => ?_)
            obtain ⟨rfl, F_R, h_R⟩ := q57
            have R_R := h_R.1
            have t_R : ri M57 mo 0 = 0 := (F_R.i (by decide)).trans t_N0
            have hho1 := zho hZ1' hml1'
            have F_R2 : rx RI9 RA mo N0 M57 := F_R.mono (by decide) (by decide)
            rw [show (if (ok2, Z1).1 = true then (1 : Int32) else 0) = 1 from if_pos hc9]
            refine vv_if_ne (pc := 60) x dd_Mo_blob_60 (tgt := 67) (by decide) (fun h60 => ?_) (fun h60 => absurd h60 (by decide))
            refine vv_iconst (pc := 67) x dd_Mo_blob_67 (0) (by decide) ?_
            refine lp_Mo_62 (pc := 68) G x dd_Mo_blob_68 R_R.2.2 ?_
            have F_N1 : rx RI9 RA mo M57 (mi M57 mo 0 0) := rx_mi.mono (by decide) (by simp)
            have t_N1 : ri (mi M57 mo 0 0) mo 0 = 0 := ri_mi
            have h_N1 : MI pw D ow sl (mi M57 mo 0 0) mo pl Z1 := MI_scr h_R (rx_mi.mono (by decide) (by simp))
            rw [show mm_si M57 7 0 mo 0 = mi M57 mo 0 0 from rfl]
            generalize mi M57 mo 0 0 = N1 at *
            have R_N1 := h_N1.1
            refine vv_aload_n (pc := 71) x dd_Mo_blob_71 rfl ?_
            refine vv_aload_n (pc := 72) x dd_Mo_blob_72 rfl ?_
            refine lg_Mo_62 (pc := 73) G x dd_Mo_blob_73 R_N1.2.2 ?_
            rw [show mm_i N1 7 0 mo = 0 from t_N1]
            refine vv_if_ne (pc := 76) x dd_Mo_blob_76 (tgt := 100) (by decide) (fun h76 => absurd h76 (fun z => z rfl)) (fun h76 => ?_)
            refine vv_aload_n (pc := 79) x dd_Mo_blob_79 rfl ?_
            refine lv_Mo_110 (pc := 80) G x dd_Mo_blob_80 (R_free G h_N1 hZ1'.2.2.2.2.2.2 hnm1) R_N1.2.2 ⟨by decide, by decide⟩ (by decide) (by decide) (Nat.le_of_ble_eq_true rfl) (fun v80 M80 q80 => ?_)
            obtain ⟨rfl, hm80⟩ := q80
            have hm80 := hm80.symm
            subst hm80
            refine vv_iload_n (pc := 83) x dd_Mo_blob_83 rfl ?_
            refine vv_icmp_lt (pc := 84) x dd_Mo_blob_84 (tgt := 96) (by decide) (fun h84 => absurd h84 hf9.1) (fun h84 => ?_)
            refine vv_aload_n (pc := 87) x dd_Mo_blob_87 rfl ?_
            refine lg_Mo_65 (pc := 88) G x dd_Mo_blob_88 R_N1.2.2 ?_
            refine vv_bipush (pc := 91) x dd_Mo_blob_91 (30) (by decide) ?_
            rw [show mm_i N1 7 13 mo = nI Z1.2.1.2.1 from h_N1.2.2.2.2.2.1]
            refine vv_icmp_ne (pc := 93) x dd_Mo_blob_93 (tgt := 100) (by decide) (fun h93 => ?_) (fun h93 => absurd h93 (fun z => by have := (nI_eq (b := 30) (by omega) (by decide)).mp z; omega))
            refine vv_aload_n (pc := 100) x dd_Mo_blob_100 rfl ?_
            refine lg_Mo_62 (pc := 101) G x dd_Mo_blob_101 R_N1.2.2 ?_
            rw [show mm_i N1 7 0 mo = 0 from t_N1]
            refine lp_Mo_62 (pc := 104) G x dd_Mo_blob_104 R_N1.2.2 ?_
            have F_N2 : rx RI9 RA mo N1 (mi N1 mo 0 0) := rx_mi.mono (by decide) (by simp)
            have t_N2 : ri (mi N1 mo 0 0) mo 0 = 0 := ri_mi
            have h_N2 : MI pw D ow sl (mi N1 mo 0 0) mo pl Z1 := MI_scr h_N1 (rx_mi.mono (by decide) (by simp))
            rw [show mm_si N1 7 0 mo 0 = mi N1 mo 0 0 from rfl]
            generalize mi N1 mo 0 0 = N2 at *
            have R_N2 := h_N2.1
            refine vv_aload_n (pc := 107) x dd_Mo_blob_107 rfl ?_
            refine lg_Mo_62 (pc := 108) G x dd_Mo_blob_108 R_N2.2.2 ?_
            rw [show mm_i N2 7 0 mo = 0 from t_N2]
            refine vv_if_ne (pc := 111) x dd_Mo_blob_111 (tgt := 220) (by decide) (fun h111 => absurd h111 (fun z => z rfl)) (fun h111 => ?_)
            refine vv_iconst (pc := 114) x dd_Mo_blob_114 (0) (by decide) ?_
            refine vv_istore (pc := 115) x dd_Mo_blob_115 (by decide) (ls2 := [_, _, _, _, _, _, none]) rfl ?_
            exact hl9 (zfw Z1) 0 N2 h_N2 (((F_N0.trans F_R2).trans F_N1).trans F_N2) t_N2 (by omega)
          · by_cases h1f : nI Z1.2.1.1 < nI n9
            · refine vv_aload_n (pc := 0) x dd_Mo_blob_0 rfl ?_
              refine vv_iload_n (pc := 1) x dd_Mo_blob_1 rfl ?_
              refine lv_Mo_120 (pc := 2) G x dd_Mo_blob_2 (R_place G h hZ.2.2.1 hnm k9 hk9) R.2.2 ⟨by decide, by decide⟩ (by decide) (by decide) (Nat.le_of_ble_eq_true rfl) (fun v2 M2 q2 => ?_)
              obtain ⟨rfl, hm2⟩ := q2
              have hm2 := hm2.symm
              subst hm2
              rw [show (if k9 < Z.1.length then nI (pl.getD k9 0) else (-1 : Int32)) = nI (pl.getD k9 0) from if_pos hk]
              refine vv_istore (pc := 5) x dd_Mo_blob_5 (by decide) (ls2 := [_, _, _, _, _, none, none]) rfl ?_
              refine vv_aload_n (pc := 7) x dd_Mo_blob_7 rfl ?_
              refine vv_iload (pc := 8) x dd_Mo_blob_8 rfl ?_
              refine vv_if_lt (pc := 10) x dd_Mo_blob_10 (tgt := 21) (by decide) (fun h10 => absurd h10 (nI_pos (by omega))) (fun h10 => ?_)
              refine vv_aload_n (pc := 13) x dd_Mo_blob_13 rfl ?_
              refine vv_iload_n (pc := 14) x dd_Mo_blob_14 rfl ?_
              refine lv_Mo_123 (pc := 15) G x dd_Mo_blob_15 (k_rnoReg G) R.2.2 ⟨by decide, by decide⟩ (by decide) (by decide) (Nat.le_of_ble_eq_true rfl) (fun v15 M15 q15 => ?_)
              obtain ⟨rfl, hm15⟩ := q15
              have hm15 := hm15.symm
              subst hm15
              rw [show (if ¬ rv < 0 ∧ rv < 4 then (0 : Int32) else 1) = 0 from if_pos hr]
              refine vv_if_eq (pc := 18) x dd_Mo_blob_18 (tgt := 25) (by decide) (fun h18 => ?_) (fun h18 => absurd h18 (fun z => z rfl))
              refine vv_iload_n (pc := 25) x dd_Mo_blob_25 rfl ?_
              refine vv_iconst (pc := 26) x dd_Mo_blob_26 (1) (by decide) ?_
              refine vv_icmp_lt (pc := 27) x dd_Mo_blob_27 (tgt := 36) (by decide) (fun h27 => absurd h27 hc0.1) (fun h27 => ?_)
              refine vv_iload_n (pc := 30) x dd_Mo_blob_30 rfl ?_
              refine vv_bipush (pc := 31) x dd_Mo_blob_31 (100) (by decide) ?_
              refine vv_icmp_le (pc := 33) x dd_Mo_blob_33 (tgt := 40) (by decide) (fun h33 => ?_) (fun h33 => absurd h33 (fun z => z hc0.2))
              refine vv_iconst (pc := 40) x dd_Mo_blob_40 (0) (by decide) ?_
              refine lp_Mo_62 (pc := 41) G x dd_Mo_blob_41 R.2.2 ?_
              have F_N0 : rx RI9 RA mo M (mi M mo 0 0) := rx_mi.mono (by decide) (by simp)
              have t_N0 : ri (mi M mo 0 0) mo 0 = 0 := ri_mi
              have h_N0 : MI pw D ow sl (mi M mo 0 0) mo pl Z := MI_scr h (rx_mi.mono (by decide) (by simp))
              rw [show mm_si M 7 0 mo 0 = mi M mo 0 0 from rfl]
              generalize mi M mo 0 0 = N0 at *
              have R_N0 := h_N0.1
              refine vv_aload_n (pc := 44) x dd_Mo_blob_44 rfl ?_
              refine lg_Mo_62 (pc := 45) G x dd_Mo_blob_45 R_N0.2.2 ?_
              rw [show mm_i N0 7 0 mo = 0 from t_N0]
              refine vv_if_eq (pc := 48) x dd_Mo_blob_48 (tgt := 52) (by decide) (fun h48 => ?_) (fun h48 => absurd h48 (fun z => z rfl))
              refine vv_aload_n (pc := 52) x dd_Mo_blob_52 rfl ?_
              refine vv_aload_n (pc := 53) x dd_Mo_blob_53 rfl ?_
              refine vv_iload (pc := 54) x dd_Mo_blob_54 rfl ?_
              refine vv_iconst (pc := 56) x dd_Mo_blob_56 (2) (by decide) ?_
              refine lv_Mo_128 (pc := 57) G x dd_Mo_blob_57 (R_room (n := 2) G h_N0 hZ hp6 hlat hml hk (by omega) (ok2, Z1) hRR) R_N0.2.2 ⟨by decide, by decide⟩ (by decide) (by decide) (Nat.le_of_ble_eq_true rfl) (fun v57 M57 q57 => ?_)
              obtain ⟨rfl, F_R, h_R⟩ := q57
              have R_R := h_R.1
              have t_R : ri M57 mo 0 = 0 := (F_R.i (by decide)).trans t_N0
              have hho1 := zho hZ1' hml1'
              have F_R2 : rx RI9 RA mo N0 M57 := F_R.mono (by decide) (by decide)
              rw [show (if (ok2, Z1).1 = true then (1 : Int32) else 0) = 1 from if_pos hc9]
              refine vv_if_ne (pc := 60) x dd_Mo_blob_60 (tgt := 67) (by decide) (fun h60 => ?_) (fun h60 => absurd h60 (by decide))
              refine vv_iconst (pc := 67) x dd_Mo_blob_67 (0) (by decide) ?_
              refine lp_Mo_62 (pc := 68) G x dd_Mo_blob_68 R_R.2.2 ?_
              have F_N1 : rx RI9 RA mo M57 (mi M57 mo 0 0) := rx_mi.mono (by decide) (by simp)
              have t_N1 : ri (mi M57 mo 0 0) mo 0 = 0 := ri_mi
              have h_N1 : MI pw D ow sl (mi M57 mo 0 0) mo pl Z1 := MI_scr h_R (rx_mi.mono (by decide) (by simp))
              rw [show mm_si M57 7 0 mo 0 = mi M57 mo 0 0 from rfl]
              generalize mi M57 mo 0 0 = N1 at *
              have R_N1 := h_N1.1
              refine vv_aload_n (pc := 71) x dd_Mo_blob_71 rfl ?_
              refine vv_aload_n (pc := 72) x dd_Mo_blob_72 rfl ?_
              refine lg_Mo_62 (pc := 73) G x dd_Mo_blob_73 R_N1.2.2 ?_
              rw [show mm_i N1 7 0 mo = 0 from t_N1]
              refine vv_if_ne (pc := 76) x dd_Mo_blob_76 (tgt := 100) (by decide) (fun h76 => absurd h76 (fun z => z rfl)) (fun h76 => ?_)
              refine vv_aload_n (pc := 79) x dd_Mo_blob_79 rfl ?_
              refine lv_Mo_110 (pc := 80) G x dd_Mo_blob_80 (R_free G h_N1 hZ1'.2.2.2.2.2.2 hnm1) R_N1.2.2 ⟨by decide, by decide⟩ (by decide) (by decide) (Nat.le_of_ble_eq_true rfl) (fun v80 M80 q80 => ?_)
              obtain ⟨rfl, hm80⟩ := q80
              have hm80 := hm80.symm
              subst hm80
              refine vv_iload_n (pc := 83) x dd_Mo_blob_83 rfl ?_
              refine vv_icmp_lt (pc := 84) x dd_Mo_blob_84 (tgt := 96) (by decide) (fun h84 => ?_) (fun h84 => absurd h84 (fun z => z h1f))
              refine vv_iconst (pc := 96) x dd_Mo_blob_96 (4) (by decide) ?_
              refine vv_goto (pc := 97) x dd_Mo_blob_97 (tgt := 104) (by decide) ?_
              refine lp_Mo_62 (pc := 104) G x dd_Mo_blob_104 R_N1.2.2 ?_
              have F_N2 : rx RI9 RA mo N1 (mi N1 mo 0 4) := rx_mi.mono (by decide) (by simp)
              have t_N2 : ri (mi N1 mo 0 4) mo 0 = 4 := ri_mi
              have h_N2 : MI pw D ow sl (mi N1 mo 0 4) mo pl Z1 := MI_scr h_N1 (rx_mi.mono (by decide) (by simp))
              rw [show mm_si N1 7 0 mo 4 = mi N1 mo 0 4 from rfl]
              generalize mi N1 mo 0 4 = N2 at *
              have R_N2 := h_N2.1
              refine vv_aload_n (pc := 107) x dd_Mo_blob_107 rfl ?_
              refine lg_Mo_62 (pc := 108) G x dd_Mo_blob_108 R_N2.2.2 ?_
              rw [show mm_i N2 7 0 mo = 4 from t_N2]
              refine vv_if_ne (pc := 111) x dd_Mo_blob_111 (tgt := 220) (by decide) (fun h111 => ?_) (fun h111 => absurd h111 (by decide))
              exact vv_vret (pc := 220) x dd_Mo_blob_220 rfl (by decide) (by decide) ⟨((F_N0.trans F_R2).trans F_N1).trans F_N2, Or.inr (Or.inr (Or.inr (Or.inr ⟨⟨hk, hr⟩, hc0, hc9, hf9, rfl, t_N2, h_N2⟩)))⟩
            · have hb9 : Z1.2.1.2.1 = 30 := by
                have h7 : ¬ Z1.2.1.2.1 < 30 := fun z => hf9 ⟨h1f, z⟩
                omega
              refine vv_aload_n (pc := 0) x dd_Mo_blob_0 rfl ?_
              refine vv_iload_n (pc := 1) x dd_Mo_blob_1 rfl ?_
              refine lv_Mo_120 (pc := 2) G x dd_Mo_blob_2 (R_place G h hZ.2.2.1 hnm k9 hk9) R.2.2 ⟨by decide, by decide⟩ (by decide) (by decide) (Nat.le_of_ble_eq_true rfl) (fun v2 M2 q2 => ?_)
              obtain ⟨rfl, hm2⟩ := q2
              have hm2 := hm2.symm
              subst hm2
              rw [show (if k9 < Z.1.length then nI (pl.getD k9 0) else (-1 : Int32)) = nI (pl.getD k9 0) from if_pos hk]
              refine vv_istore (pc := 5) x dd_Mo_blob_5 (by decide) (ls2 := [_, _, _, _, _, none, none]) rfl ?_
              refine vv_aload_n (pc := 7) x dd_Mo_blob_7 rfl ?_
              refine vv_iload (pc := 8) x dd_Mo_blob_8 rfl ?_
              refine vv_if_lt (pc := 10) x dd_Mo_blob_10 (tgt := 21) (by decide) (fun h10 => absurd h10 (nI_pos (by omega))) (fun h10 => ?_)
              refine vv_aload_n (pc := 13) x dd_Mo_blob_13 rfl ?_
              refine vv_iload_n (pc := 14) x dd_Mo_blob_14 rfl ?_
              refine lv_Mo_123 (pc := 15) G x dd_Mo_blob_15 (k_rnoReg G) R.2.2 ⟨by decide, by decide⟩ (by decide) (by decide) (Nat.le_of_ble_eq_true rfl) (fun v15 M15 q15 => ?_)
              obtain ⟨rfl, hm15⟩ := q15
              have hm15 := hm15.symm
              subst hm15
              rw [show (if ¬ rv < 0 ∧ rv < 4 then (0 : Int32) else 1) = 0 from if_pos hr]
              refine vv_if_eq (pc := 18) x dd_Mo_blob_18 (tgt := 25) (by decide) (fun h18 => ?_) (fun h18 => absurd h18 (fun z => z rfl))
              refine vv_iload_n (pc := 25) x dd_Mo_blob_25 rfl ?_
              refine vv_iconst (pc := 26) x dd_Mo_blob_26 (1) (by decide) ?_
              refine vv_icmp_lt (pc := 27) x dd_Mo_blob_27 (tgt := 36) (by decide) (fun h27 => absurd h27 hc0.1) (fun h27 => ?_)
              refine vv_iload_n (pc := 30) x dd_Mo_blob_30 rfl ?_
              refine vv_bipush (pc := 31) x dd_Mo_blob_31 (100) (by decide) ?_
              refine vv_icmp_le (pc := 33) x dd_Mo_blob_33 (tgt := 40) (by decide) (fun h33 => ?_) (fun h33 => absurd h33 (fun z => z hc0.2))
              refine vv_iconst (pc := 40) x dd_Mo_blob_40 (0) (by decide) ?_
              refine lp_Mo_62 (pc := 41) G x dd_Mo_blob_41 R.2.2 ?_
              have F_N0 : rx RI9 RA mo M (mi M mo 0 0) := rx_mi.mono (by decide) (by simp)
              have t_N0 : ri (mi M mo 0 0) mo 0 = 0 := ri_mi
              have h_N0 : MI pw D ow sl (mi M mo 0 0) mo pl Z := MI_scr h (rx_mi.mono (by decide) (by simp))
              rw [show mm_si M 7 0 mo 0 = mi M mo 0 0 from rfl]
              generalize mi M mo 0 0 = N0 at *
              have R_N0 := h_N0.1
              refine vv_aload_n (pc := 44) x dd_Mo_blob_44 rfl ?_
              refine lg_Mo_62 (pc := 45) G x dd_Mo_blob_45 R_N0.2.2 ?_
              rw [show mm_i N0 7 0 mo = 0 from t_N0]
              refine vv_if_eq (pc := 48) x dd_Mo_blob_48 (tgt := 52) (by decide) (fun h48 => ?_) (fun h48 => absurd h48 (fun z => z rfl))
              refine vv_aload_n (pc := 52) x dd_Mo_blob_52 rfl ?_
              refine vv_aload_n (pc := 53) x dd_Mo_blob_53 rfl ?_
              refine vv_iload (pc := 54) x dd_Mo_blob_54 rfl ?_
              refine vv_iconst (pc := 56) x dd_Mo_blob_56 (2) (by decide) ?_
              refine lv_Mo_128 (pc := 57) G x dd_Mo_blob_57 (R_room (n := 2) G h_N0 hZ hp6 hlat hml hk (by omega) (ok2, Z1) hRR) R_N0.2.2 ⟨by decide, by decide⟩ (by decide) (by decide) (Nat.le_of_ble_eq_true rfl) (fun v57 M57 q57 => ?_)
              obtain ⟨rfl, F_R, h_R⟩ := q57
              have R_R := h_R.1
              have t_R : ri M57 mo 0 = 0 := (F_R.i (by decide)).trans t_N0
              have hho1 := zho hZ1' hml1'
              have F_R2 : rx RI9 RA mo N0 M57 := F_R.mono (by decide) (by decide)
              rw [show (if (ok2, Z1).1 = true then (1 : Int32) else 0) = 1 from if_pos hc9]
              refine vv_if_ne (pc := 60) x dd_Mo_blob_60 (tgt := 67) (by decide) (fun h60 => ?_) (fun h60 => absurd h60 (by decide))
              refine vv_iconst (pc := 67) x dd_Mo_blob_67 (0) (by decide) ?_
              refine lp_Mo_62 (pc := 68) G x dd_Mo_blob_68 R_R.2.2 ?_
              have F_N1 : rx RI9 RA mo M57 (mi M57 mo 0 0) := rx_mi.mono (by decide) (by simp)
              have t_N1 : ri (mi M57 mo 0 0) mo 0 = 0 := ri_mi
              have h_N1 : MI pw D ow sl (mi M57 mo 0 0) mo pl Z1 := MI_scr h_R (rx_mi.mono (by decide) (by simp))
              rw [show mm_si M57 7 0 mo 0 = mi M57 mo 0 0 from rfl]
              generalize mi M57 mo 0 0 = N1 at *
              have R_N1 := h_N1.1
              refine vv_aload_n (pc := 71) x dd_Mo_blob_71 rfl ?_
              refine vv_aload_n (pc := 72) x dd_Mo_blob_72 rfl ?_
              refine lg_Mo_62 (pc := 73) G x dd_Mo_blob_73 R_N1.2.2 ?_
              rw [show mm_i N1 7 0 mo = 0 from t_N1]
              refine vv_if_ne (pc := 76) x dd_Mo_blob_76 (tgt := 100) (by decide) (fun h76 => absurd h76 (fun z => z rfl)) (fun h76 => ?_)
              refine vv_aload_n (pc := 79) x dd_Mo_blob_79 rfl ?_
              refine lv_Mo_110 (pc := 80) G x dd_Mo_blob_80 (R_free G h_N1 hZ1'.2.2.2.2.2.2 hnm1) R_N1.2.2 ⟨by decide, by decide⟩ (by decide) (by decide) (Nat.le_of_ble_eq_true rfl) (fun v80 M80 q80 => ?_)
              obtain ⟨rfl, hm80⟩ := q80
              have hm80 := hm80.symm
              subst hm80
              refine vv_iload_n (pc := 83) x dd_Mo_blob_83 rfl ?_
              refine vv_icmp_lt (pc := 84) x dd_Mo_blob_84 (tgt := 96) (by decide) (fun h84 => absurd h84 h1f) (fun h84 => ?_)
              refine vv_aload_n (pc := 87) x dd_Mo_blob_87 rfl ?_
              refine lg_Mo_65 (pc := 88) G x dd_Mo_blob_88 R_N1.2.2 ?_
              refine vv_bipush (pc := 91) x dd_Mo_blob_91 (30) (by decide) ?_
              rw [show mm_i N1 7 13 mo = nI Z1.2.1.2.1 from h_N1.2.2.2.2.2.1]
              refine vv_icmp_ne (pc := 93) x dd_Mo_blob_93 (tgt := 100) (by decide) (fun h93 => absurd h93 (fun z => z (by rw [hb9]; rfl))) (fun h93 => ?_)
              refine vv_iconst (pc := 96) x dd_Mo_blob_96 (4) (by decide) ?_
              refine vv_goto (pc := 97) x dd_Mo_blob_97 (tgt := 104) (by decide) ?_
              refine lp_Mo_62 (pc := 104) G x dd_Mo_blob_104 R_N1.2.2 ?_
              have F_N2 : rx RI9 RA mo N1 (mi N1 mo 0 4) := rx_mi.mono (by decide) (by simp)
              have t_N2 : ri (mi N1 mo 0 4) mo 0 = 4 := ri_mi
              have h_N2 : MI pw D ow sl (mi N1 mo 0 4) mo pl Z1 := MI_scr h_N1 (rx_mi.mono (by decide) (by simp))
              rw [show mm_si N1 7 0 mo 4 = mi N1 mo 0 4 from rfl]
              generalize mi N1 mo 0 4 = N2 at *
              have R_N2 := h_N2.1
              refine vv_aload_n (pc := 107) x dd_Mo_blob_107 rfl ?_
              refine lg_Mo_62 (pc := 108) G x dd_Mo_blob_108 R_N2.2.2 ?_
              rw [show mm_i N2 7 0 mo = 4 from t_N2]
              refine vv_if_ne (pc := 111) x dd_Mo_blob_111 (tgt := 220) (by decide) (fun h111 => ?_) (fun h111 => absurd h111 (by decide))
              exact vv_vret (pc := 220) x dd_Mo_blob_220 rfl (by decide) (by decide) ⟨((F_N0.trans F_R2).trans F_N1).trans F_N2, Or.inr (Or.inr (Or.inr (Or.inr ⟨⟨hk, hr⟩, hc0, hc9, hf9, rfl, t_N2, h_N2⟩)))⟩
        · refine vv_aload_n (pc := 0) x dd_Mo_blob_0 rfl ?_
          refine vv_iload_n (pc := 1) x dd_Mo_blob_1 rfl ?_
          refine lv_Mo_120 (pc := 2) G x dd_Mo_blob_2 (R_place G h hZ.2.2.1 hnm k9 hk9) R.2.2 ⟨by decide, by decide⟩ (by decide) (by decide) (Nat.le_of_ble_eq_true rfl) (fun v2 M2 q2 => ?_)
          obtain ⟨rfl, hm2⟩ := q2
          have hm2 := hm2.symm
          subst hm2
          rw [show (if k9 < Z.1.length then nI (pl.getD k9 0) else (-1 : Int32)) = nI (pl.getD k9 0) from if_pos hk]
          refine vv_istore (pc := 5) x dd_Mo_blob_5 (by decide) (ls2 := [_, _, _, _, _, none, none]) rfl ?_
          refine vv_aload_n (pc := 7) x dd_Mo_blob_7 rfl ?_
          refine vv_iload (pc := 8) x dd_Mo_blob_8 rfl ?_
          refine vv_if_lt (pc := 10) x dd_Mo_blob_10 (tgt := 21) (by decide) (fun h10 => absurd h10 (nI_pos (by omega))) (fun h10 => ?_)
          refine vv_aload_n (pc := 13) x dd_Mo_blob_13 rfl ?_
          refine vv_iload_n (pc := 14) x dd_Mo_blob_14 rfl ?_
          refine lv_Mo_123 (pc := 15) G x dd_Mo_blob_15 (k_rnoReg G) R.2.2 ⟨by decide, by decide⟩ (by decide) (by decide) (Nat.le_of_ble_eq_true rfl) (fun v15 M15 q15 => ?_)
          obtain ⟨rfl, hm15⟩ := q15
          have hm15 := hm15.symm
          subst hm15
          rw [show (if ¬ rv < 0 ∧ rv < 4 then (0 : Int32) else 1) = 0 from if_pos hr]
          refine vv_if_eq (pc := 18) x dd_Mo_blob_18 (tgt := 25) (by decide) (fun h18 => ?_) (fun h18 => absurd h18 (fun z => z rfl))
          refine vv_iload_n (pc := 25) x dd_Mo_blob_25 rfl ?_
          refine vv_iconst (pc := 26) x dd_Mo_blob_26 (1) (by decide) ?_
          refine vv_icmp_lt (pc := 27) x dd_Mo_blob_27 (tgt := 36) (by decide) (fun h27 => absurd h27 hc0.1) (fun h27 => ?_)
          refine vv_iload_n (pc := 30) x dd_Mo_blob_30 rfl ?_
          refine vv_bipush (pc := 31) x dd_Mo_blob_31 (100) (by decide) ?_
          refine vv_icmp_le (pc := 33) x dd_Mo_blob_33 (tgt := 40) (by decide) (fun h33 => ?_) (fun h33 => absurd h33 (fun z => z hc0.2))
          refine vv_iconst (pc := 40) x dd_Mo_blob_40 (0) (by decide) ?_
          refine lp_Mo_62 (pc := 41) G x dd_Mo_blob_41 R.2.2 ?_
          have F_N0 : rx RI9 RA mo M (mi M mo 0 0) := rx_mi.mono (by decide) (by simp)
          have t_N0 : ri (mi M mo 0 0) mo 0 = 0 := ri_mi
          have h_N0 : MI pw D ow sl (mi M mo 0 0) mo pl Z := MI_scr h (rx_mi.mono (by decide) (by simp))
          rw [show mm_si M 7 0 mo 0 = mi M mo 0 0 from rfl]
          generalize mi M mo 0 0 = N0 at *
          have R_N0 := h_N0.1
          refine vv_aload_n (pc := 44) x dd_Mo_blob_44 rfl ?_
          refine lg_Mo_62 (pc := 45) G x dd_Mo_blob_45 R_N0.2.2 ?_
          rw [show mm_i N0 7 0 mo = 0 from t_N0]
          refine vv_if_eq (pc := 48) x dd_Mo_blob_48 (tgt := 52) (by decide) (fun h48 => ?_) (fun h48 => absurd h48 (fun z => z rfl))
          refine vv_aload_n (pc := 52) x dd_Mo_blob_52 rfl ?_
          refine vv_aload_n (pc := 53) x dd_Mo_blob_53 rfl ?_
          refine vv_iload (pc := 54) x dd_Mo_blob_54 rfl ?_
          refine vv_iconst (pc := 56) x dd_Mo_blob_56 (2) (by decide) ?_
          refine lv_Mo_128 (pc := 57) G x dd_Mo_blob_57 (R_room (n := 2) G h_N0 hZ hp6 hlat hml hk (by omega) (ok2, Z1) hRR) R_N0.2.2 ⟨by decide, by decide⟩ (by decide) (by decide) (Nat.le_of_ble_eq_true rfl) (fun v57 M57 q57 => ?_)
          obtain ⟨rfl, F_R, h_R⟩ := q57
          have R_R := h_R.1
          have t_R : ri M57 mo 0 = 0 := (F_R.i (by decide)).trans t_N0
          have hho1 := zho hZ1' hml1'
          have F_R2 : rx RI9 RA mo N0 M57 := F_R.mono (by decide) (by decide)
          rw [show (if (ok2, Z1).1 = true then (1 : Int32) else 0) = 0 from if_neg hc9]
          refine vv_if_ne (pc := 60) x dd_Mo_blob_60 (tgt := 67) (by decide) (fun h60 => absurd h60 (fun z => z rfl)) (fun h60 => ?_)
          refine vv_iconst (pc := 63) x dd_Mo_blob_63 (3) (by decide) ?_
          refine vv_goto (pc := 64) x dd_Mo_blob_64 (tgt := 68) (by decide) ?_
          refine lp_Mo_62 (pc := 68) G x dd_Mo_blob_68 R_R.2.2 ?_
          have F_N1 : rx RI9 RA mo M57 (mi M57 mo 0 3) := rx_mi.mono (by decide) (by simp)
          have t_N1 : ri (mi M57 mo 0 3) mo 0 = 3 := ri_mi
          have h_N1 : MI pw D ow sl (mi M57 mo 0 3) mo pl Z1 := MI_scr h_R (rx_mi.mono (by decide) (by simp))
          rw [show mm_si M57 7 0 mo 3 = mi M57 mo 0 3 from rfl]
          generalize mi M57 mo 0 3 = N1 at *
          have R_N1 := h_N1.1
          refine vv_aload_n (pc := 71) x dd_Mo_blob_71 rfl ?_
          refine vv_aload_n (pc := 72) x dd_Mo_blob_72 rfl ?_
          refine lg_Mo_62 (pc := 73) G x dd_Mo_blob_73 R_N1.2.2 ?_
          rw [show mm_i N1 7 0 mo = 3 from t_N1]
          refine vv_if_ne (pc := 76) x dd_Mo_blob_76 (tgt := 100) (by decide) (fun h76 => ?_) (fun h76 => absurd h76 (by decide))
          refine vv_aload_n (pc := 100) x dd_Mo_blob_100 rfl ?_
          refine lg_Mo_62 (pc := 101) G x dd_Mo_blob_101 R_N1.2.2 ?_
          rw [show mm_i N1 7 0 mo = 3 from t_N1]
          refine lp_Mo_62 (pc := 104) G x dd_Mo_blob_104 R_N1.2.2 ?_
          have F_N2 : rx RI9 RA mo N1 (mi N1 mo 0 3) := rx_mi.mono (by decide) (by simp)
          have t_N2 : ri (mi N1 mo 0 3) mo 0 = 3 := ri_mi
          have h_N2 : MI pw D ow sl (mi N1 mo 0 3) mo pl Z1 := MI_scr h_N1 (rx_mi.mono (by decide) (by simp))
          rw [show mm_si N1 7 0 mo 3 = mi N1 mo 0 3 from rfl]
          generalize mi N1 mo 0 3 = N2 at *
          have R_N2 := h_N2.1
          refine vv_aload_n (pc := 107) x dd_Mo_blob_107 rfl ?_
          refine lg_Mo_62 (pc := 108) G x dd_Mo_blob_108 R_N2.2.2 ?_
          rw [show mm_i N2 7 0 mo = 3 from t_N2]
          refine vv_if_ne (pc := 111) x dd_Mo_blob_111 (tgt := 220) (by decide) (fun h111 => ?_) (fun h111 => absurd h111 (by decide))
          exact vv_vret (pc := 220) x dd_Mo_blob_220 rfl (by decide) (by decide) ⟨((F_N0.trans F_R2).trans F_N1).trans F_N2, Or.inr (Or.inr (Or.inr (Or.inl ⟨⟨hk, hr⟩, hc0, hc9, rfl, t_N2, h_N2⟩)))⟩
      · by_cases h1c : nv < 1
        · refine vv_aload_n (pc := 0) x dd_Mo_blob_0 rfl ?_
          refine vv_iload_n (pc := 1) x dd_Mo_blob_1 rfl ?_
          refine lv_Mo_120 (pc := 2) G x dd_Mo_blob_2 (R_place G h hZ.2.2.1 hnm k9 hk9) R.2.2 ⟨by decide, by decide⟩ (by decide) (by decide) (Nat.le_of_ble_eq_true rfl) (fun v2 M2 q2 => ?_)
          obtain ⟨rfl, hm2⟩ := q2
          have hm2 := hm2.symm
          subst hm2
          rw [show (if k9 < Z.1.length then nI (pl.getD k9 0) else (-1 : Int32)) = nI (pl.getD k9 0) from if_pos hk]
          refine vv_istore (pc := 5) x dd_Mo_blob_5 (by decide) (ls2 := [_, _, _, _, _, none, none]) rfl ?_
          refine vv_aload_n (pc := 7) x dd_Mo_blob_7 rfl ?_
          refine vv_iload (pc := 8) x dd_Mo_blob_8 rfl ?_
          refine vv_if_lt (pc := 10) x dd_Mo_blob_10 (tgt := 21) (by decide) (fun h10 => absurd h10 (nI_pos (by omega))) (fun h10 => ?_)
          refine vv_aload_n (pc := 13) x dd_Mo_blob_13 rfl ?_
          refine vv_iload_n (pc := 14) x dd_Mo_blob_14 rfl ?_
          refine lv_Mo_123 (pc := 15) G x dd_Mo_blob_15 (k_rnoReg G) R.2.2 ⟨by decide, by decide⟩ (by decide) (by decide) (Nat.le_of_ble_eq_true rfl) (fun v15 M15 q15 => ?_)
          obtain ⟨rfl, hm15⟩ := q15
          have hm15 := hm15.symm
          subst hm15
          rw [show (if ¬ rv < 0 ∧ rv < 4 then (0 : Int32) else 1) = 0 from if_pos hr]
          refine vv_if_eq (pc := 18) x dd_Mo_blob_18 (tgt := 25) (by decide) (fun h18 => ?_) (fun h18 => absurd h18 (fun z => z rfl))
          refine vv_iload_n (pc := 25) x dd_Mo_blob_25 rfl ?_
          refine vv_iconst (pc := 26) x dd_Mo_blob_26 (1) (by decide) ?_
          refine vv_icmp_lt (pc := 27) x dd_Mo_blob_27 (tgt := 36) (by decide) (fun h27 => ?_) (fun h27 => absurd h27 (fun z => z h1c))
          refine vv_iconst (pc := 36) x dd_Mo_blob_36 (2) (by decide) ?_
          refine vv_goto (pc := 37) x dd_Mo_blob_37 (tgt := 41) (by decide) ?_
          refine lp_Mo_62 (pc := 41) G x dd_Mo_blob_41 R.2.2 ?_
          have F_N0 : rx RI9 RA mo M (mi M mo 0 2) := rx_mi.mono (by decide) (by simp)
          have t_N0 : ri (mi M mo 0 2) mo 0 = 2 := ri_mi
          have h_N0 : MI pw D ow sl (mi M mo 0 2) mo pl Z := MI_scr h (rx_mi.mono (by decide) (by simp))
          rw [show mm_si M 7 0 mo 2 = mi M mo 0 2 from rfl]
          generalize mi M mo 0 2 = N0 at *
          have R_N0 := h_N0.1
          refine vv_aload_n (pc := 44) x dd_Mo_blob_44 rfl ?_
          refine lg_Mo_62 (pc := 45) G x dd_Mo_blob_45 R_N0.2.2 ?_
          rw [show mm_i N0 7 0 mo = 2 from t_N0]
          refine vv_if_eq (pc := 48) x dd_Mo_blob_48 (tgt := 52) (by decide) (fun h48 => absurd h48 (by decide)) (fun h48 => ?_)
          exact vv_vret (pc := 51) x dd_Mo_blob_51 rfl (by decide) (by decide) ⟨F_N0, Or.inr (Or.inr (Or.inl ⟨⟨hk, hr⟩, hc, rfl, t_N0, h_N0⟩))⟩
        · refine vv_aload_n (pc := 0) x dd_Mo_blob_0 rfl ?_
          refine vv_iload_n (pc := 1) x dd_Mo_blob_1 rfl ?_
          refine lv_Mo_120 (pc := 2) G x dd_Mo_blob_2 (R_place G h hZ.2.2.1 hnm k9 hk9) R.2.2 ⟨by decide, by decide⟩ (by decide) (by decide) (Nat.le_of_ble_eq_true rfl) (fun v2 M2 q2 => ?_)
          obtain ⟨rfl, hm2⟩ := q2
          have hm2 := hm2.symm
          subst hm2
          rw [show (if k9 < Z.1.length then nI (pl.getD k9 0) else (-1 : Int32)) = nI (pl.getD k9 0) from if_pos hk]
          refine vv_istore (pc := 5) x dd_Mo_blob_5 (by decide) (ls2 := [_, _, _, _, _, none, none]) rfl ?_
          refine vv_aload_n (pc := 7) x dd_Mo_blob_7 rfl ?_
          refine vv_iload (pc := 8) x dd_Mo_blob_8 rfl ?_
          refine vv_if_lt (pc := 10) x dd_Mo_blob_10 (tgt := 21) (by decide) (fun h10 => absurd h10 (nI_pos (by omega))) (fun h10 => ?_)
          refine vv_aload_n (pc := 13) x dd_Mo_blob_13 rfl ?_
          refine vv_iload_n (pc := 14) x dd_Mo_blob_14 rfl ?_
          refine lv_Mo_123 (pc := 15) G x dd_Mo_blob_15 (k_rnoReg G) R.2.2 ⟨by decide, by decide⟩ (by decide) (by decide) (Nat.le_of_ble_eq_true rfl) (fun v15 M15 q15 => ?_)
          obtain ⟨rfl, hm15⟩ := q15
          have hm15 := hm15.symm
          subst hm15
          rw [show (if ¬ rv < 0 ∧ rv < 4 then (0 : Int32) else 1) = 0 from if_pos hr]
          refine vv_if_eq (pc := 18) x dd_Mo_blob_18 (tgt := 25) (by decide) (fun h18 => ?_) (fun h18 => absurd h18 (fun z => z rfl))
          refine vv_iload_n (pc := 25) x dd_Mo_blob_25 rfl ?_
          refine vv_iconst (pc := 26) x dd_Mo_blob_26 (1) (by decide) ?_
          refine vv_icmp_lt (pc := 27) x dd_Mo_blob_27 (tgt := 36) (by decide) (fun h27 => absurd h27 h1c) (fun h27 => ?_)
          refine vv_iload_n (pc := 30) x dd_Mo_blob_30 rfl ?_
          refine vv_bipush (pc := 31) x dd_Mo_blob_31 (100) (by decide) ?_
          refine vv_icmp_le (pc := 33) x dd_Mo_blob_33 (tgt := 40) (by decide) (fun h33 => absurd h33 (fun z => hc ⟨h1c, z⟩)) (fun h33 => ?_)
          refine vv_iconst (pc := 36) x dd_Mo_blob_36 (2) (by decide) ?_
          refine vv_goto (pc := 37) x dd_Mo_blob_37 (tgt := 41) (by decide) ?_
          refine lp_Mo_62 (pc := 41) G x dd_Mo_blob_41 R.2.2 ?_
          have F_N0 : rx RI9 RA mo M (mi M mo 0 2) := rx_mi.mono (by decide) (by simp)
          have t_N0 : ri (mi M mo 0 2) mo 0 = 2 := ri_mi
          have h_N0 : MI pw D ow sl (mi M mo 0 2) mo pl Z := MI_scr h (rx_mi.mono (by decide) (by simp))
          rw [show mm_si M 7 0 mo 2 = mi M mo 0 2 from rfl]
          generalize mi M mo 0 2 = N0 at *
          have R_N0 := h_N0.1
          refine vv_aload_n (pc := 44) x dd_Mo_blob_44 rfl ?_
          refine lg_Mo_62 (pc := 45) G x dd_Mo_blob_45 R_N0.2.2 ?_
          rw [show mm_i N0 7 0 mo = 2 from t_N0]
          refine vv_if_eq (pc := 48) x dd_Mo_blob_48 (tgt := 52) (by decide) (fun h48 => absurd h48 (by decide)) (fun h48 => ?_)
          exact vv_vret (pc := 51) x dd_Mo_blob_51 rfl (by decide) (by decide) ⟨F_N0, Or.inr (Or.inr (Or.inl ⟨⟨hk, hr⟩, hc, rfl, t_N0, h_N0⟩))⟩
    · refine vv_aload_n (pc := 0) x dd_Mo_blob_0 rfl ?_
      refine vv_iload_n (pc := 1) x dd_Mo_blob_1 rfl ?_
      refine lv_Mo_120 (pc := 2) G x dd_Mo_blob_2 (R_place G h hZ.2.2.1 hnm k9 hk9) R.2.2 ⟨by decide, by decide⟩ (by decide) (by decide) (Nat.le_of_ble_eq_true rfl) (fun v2 M2 q2 => ?_)
      obtain ⟨rfl, hm2⟩ := q2
      have hm2 := hm2.symm
      subst hm2
      rw [show (if k9 < Z.1.length then nI (pl.getD k9 0) else (-1 : Int32)) = nI (pl.getD k9 0) from if_pos hk]
      refine vv_istore (pc := 5) x dd_Mo_blob_5 (by decide) (ls2 := [_, _, _, _, _, none, none]) rfl ?_
      refine vv_aload_n (pc := 7) x dd_Mo_blob_7 rfl ?_
      refine vv_iload (pc := 8) x dd_Mo_blob_8 rfl ?_
      refine vv_if_lt (pc := 10) x dd_Mo_blob_10 (tgt := 21) (by decide) (fun h10 => absurd h10 (nI_pos (by omega))) (fun h10 => ?_)
      refine vv_aload_n (pc := 13) x dd_Mo_blob_13 rfl ?_
      refine vv_iload_n (pc := 14) x dd_Mo_blob_14 rfl ?_
      refine lv_Mo_123 (pc := 15) G x dd_Mo_blob_15 (k_rnoReg G) R.2.2 ⟨by decide, by decide⟩ (by decide) (by decide) (Nat.le_of_ble_eq_true rfl) (fun v15 M15 q15 => ?_)
      obtain ⟨rfl, hm15⟩ := q15
      have hm15 := hm15.symm
      subst hm15
      rw [show (if ¬ rv < 0 ∧ rv < 4 then (0 : Int32) else 1) = 1 from if_neg hr]
      refine vv_if_eq (pc := 18) x dd_Mo_blob_18 (tgt := 25) (by decide) (fun h18 => absurd h18 (by decide)) (fun h18 => ?_)
      refine vv_iconst (pc := 21) x dd_Mo_blob_21 (1) (by decide) ?_
      refine vv_goto (pc := 22) x dd_Mo_blob_22 (tgt := 41) (by decide) ?_
      refine lp_Mo_62 (pc := 41) G x dd_Mo_blob_41 R.2.2 ?_
      have F_N0 : rx RI9 RA mo M (mi M mo 0 1) := rx_mi.mono (by decide) (by simp)
      have t_N0 : ri (mi M mo 0 1) mo 0 = 1 := ri_mi
      have h_N0 : MI pw D ow sl (mi M mo 0 1) mo pl Z := MI_scr h (rx_mi.mono (by decide) (by simp))
      rw [show mm_si M 7 0 mo 1 = mi M mo 0 1 from rfl]
      generalize mi M mo 0 1 = N0 at *
      have R_N0 := h_N0.1
      refine vv_aload_n (pc := 44) x dd_Mo_blob_44 rfl ?_
      refine lg_Mo_62 (pc := 45) G x dd_Mo_blob_45 R_N0.2.2 ?_
      rw [show mm_i N0 7 0 mo = 1 from t_N0]
      refine vv_if_eq (pc := 48) x dd_Mo_blob_48 (tgt := 52) (by decide) (fun h48 => absurd h48 (by decide)) (fun h48 => ?_)
      exact vv_vret (pc := 51) x dd_Mo_blob_51 rfl (by decide) (by decide) ⟨F_N0, Or.inr (Or.inl ⟨(fun z => by first | exact hk z.1 | exact hr z.2), rfl, t_N0, h_N0⟩)⟩
  · refine vv_aload_n (pc := 0) x dd_Mo_blob_0 rfl ?_
    refine vv_iload_n (pc := 1) x dd_Mo_blob_1 rfl ?_
    refine lv_Mo_120 (pc := 2) G x dd_Mo_blob_2 (R_place G h hZ.2.2.1 hnm k9 hk9) R.2.2 ⟨by decide, by decide⟩ (by decide) (by decide) (Nat.le_of_ble_eq_true rfl) (fun v2 M2 q2 => ?_)
    obtain ⟨rfl, hm2⟩ := q2
    have hm2 := hm2.symm
    subst hm2
    rw [show (if k9 < Z.1.length then nI (pl.getD k9 0) else (-1 : Int32)) = -1 from if_neg hk]
    refine vv_istore (pc := 5) x dd_Mo_blob_5 (by decide) (ls2 := [_, _, _, _, _, none, none]) rfl ?_
    refine vv_aload_n (pc := 7) x dd_Mo_blob_7 rfl ?_
    refine vv_iload (pc := 8) x dd_Mo_blob_8 rfl ?_
    refine vv_if_lt (pc := 10) x dd_Mo_blob_10 (tgt := 21) (by decide) (fun h10 => ?_) (fun h10 => absurd h10 (fun z => z (by decide)))
    refine vv_iconst (pc := 21) x dd_Mo_blob_21 (1) (by decide) ?_
    refine vv_goto (pc := 22) x dd_Mo_blob_22 (tgt := 41) (by decide) ?_
    refine lp_Mo_62 (pc := 41) G x dd_Mo_blob_41 R.2.2 ?_
    have F_N0 : rx RI9 RA mo M (mi M mo 0 1) := rx_mi.mono (by decide) (by simp)
    have t_N0 : ri (mi M mo 0 1) mo 0 = 1 := ri_mi
    have h_N0 : MI pw D ow sl (mi M mo 0 1) mo pl Z := MI_scr h (rx_mi.mono (by decide) (by simp))
    rw [show mm_si M 7 0 mo 1 = mi M mo 0 1 from rfl]
    generalize mi M mo 0 1 = N0 at *
    have R_N0 := h_N0.1
    refine vv_aload_n (pc := 44) x dd_Mo_blob_44 rfl ?_
    refine lg_Mo_62 (pc := 45) G x dd_Mo_blob_45 R_N0.2.2 ?_
    rw [show mm_i N0 7 0 mo = 1 from t_N0]
    refine vv_if_eq (pc := 48) x dd_Mo_blob_48 (tgt := 52) (by decide) (fun h48 => absurd h48 (by decide)) (fun h48 => ?_)
    exact vv_vret (pc := 51) x dd_Mo_blob_51 rfl (by decide) (by decide) ⟨F_N0, Or.inr (Or.inl ⟨(fun z => by first | exact hk z.1 | exact hr z.2), rfl, t_N0, h_N0⟩)⟩
end M61
