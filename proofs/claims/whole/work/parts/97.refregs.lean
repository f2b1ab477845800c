/-! ===== the reference: registers ===== -/
section M54
variable {g : gg} {X : State → Prop} {t0 : Nat} {l : Launch} {M : mm} {M1 M2 : mm} {pw : Nat} {D : Nat → Prop} {ow sl : Nat → Nat} {mo : Nat} {Ki Ka : List Nat} {k : Nat} {pl : List Nat} {Z : zst}
set_option maxRecDepth 100000 in
set_option maxHeartbeats 1000000 in
theorem R_nil (G : gc g X t0 l) (h : MI pw D ow sl M mo pl Z) (hZ : zok pw Z) (hp6 : pw ≤ 600) (hlat : Z.2.2.1 < 2 ^ 31) (hml : ∀ P ∈ Z.1, P.2.2.2.1.length ≤ 512) {xv rv : Int32} (k9 : Nat) (hk9 : plc Z xv = k9) : Ok g X l yy_Mo_nil cc_Mo_nil 4 none 1 22 0 0 [.ref mo, .int xv, .int rv] M (fun v M' => rx RI9 RA mo M M' ∧ (((k9 < Z.1.length ∧ rok rv) ∧ v = none ∧ ri M' mo 0 = 0 ∧ MI pw D ow sl M' mo pl (zreg Z k9 rv.toNatClampNeg 0)) ∨ (¬ (k9 < Z.1.length ∧ rok rv) ∧ v = none ∧ ri M' mo 0 = 1 ∧ MI pw D ow sl M' mo pl Z))) := by
  refine ok_start (by decide) (Nat.le_of_ble_eq_true rfl) (by simp [Value.category]) ?_
  intro p e s m args below meth c9 x
  have R := h.1
  have hnm := znm hZ hlat
  have h8z := hZ.2.1
  by_cases hk : k9 < Z.1.length
  · have hp8 : pl.getD k9 0 < 8 := h.2.2.1.2.2 _ (getD_memN (by have := h.2.2.1.1; omega))
    by_cases hr : rok rv
    · have hho := zho hZ hml
      obtain ⟨⟨a1, a2, a3⟩, a4, ⟨a5, a6⟩, a7, a8⟩ := h.2.2.2.1 k9 hk
      have kk := hZ.1 _ (zget_mem hk)
      have h600 := kk.2.1.1
      have hml9 := hml _ (zget_mem hk)
      have hcp : (nI (pl.getD k9 0)).toNatClampNeg = pl.getD k9 0 := nI_clamp (by omega)
      obtain ⟨-, hj_j9, ej_j9⟩ := rok_in hr
      have gj_j9 := a4 rv.toNatClampNeg hj_j9
      generalize hq_j9 : rv.toNatClampNeg = j9 at *
      refine vv_aload_n (pc := 0) x dd_Mo_nil_0 rfl ?_
      refine vv_iload_n (pc := 1) x dd_Mo_nil_1 rfl ?_
      refine lv_Mo_120 (pc := 2) G x dd_Mo_nil_2 (R_place G h hZ.2.2.1 hnm k9 hk9) R.2.2 ⟨by decide, by decide⟩ (by decide) (by decide) (Nat.le_of_ble_eq_true rfl) (fun v2 M2 q2 => ?_)
      obtain ⟨rfl, hm2⟩ := q2
      have hm2 := hm2.symm
      subst hm2
      rw [show (if k9 < Z.1.length then nI (pl.getD k9 0) else (-1 : Int32)) = nI (pl.getD k9 0) from if_pos hk]
      refine vv_istore_n (pc := 5) x dd_Mo_nil_5 (by decide) (ls2 := [_, _, _, _]) rfl ?_
      refine vv_aload_n (pc := 6) x dd_Mo_nil_6 rfl ?_
      refine vv_iload_n (pc := 7) x dd_Mo_nil_7 rfl ?_
      refine vv_if_lt (pc := 8) x dd_Mo_nil_8 (tgt := 19) (by decide) (fun h8 => absurd h8 (nI_pos (by omega))) (fun h8 => ?_)
      refine vv_aload_n (pc := 11) x dd_Mo_nil_11 rfl ?_
      refine vv_iload_n (pc := 12) x dd_Mo_nil_12 rfl ?_
      refine lv_Mo_123 (pc := 13) G x dd_Mo_nil_13 (k_rnoReg G) R.2.2 ⟨by decide, by decide⟩ (by decide) (by decide) (Nat.le_of_ble_eq_true rfl) (fun v13 M13 q13 => ?_)
      obtain ⟨rfl, hm13⟩ := q13
      have hm13 := hm13.symm
      subst hm13
      rw [show (if ¬ rv < 0 ∧ rv < 4 then (0 : Int32) else 1) = 0 from if_pos hr]
      refine vv_if_eq (pc := 16) x dd_Mo_nil_16 (tgt := 23) (by decide) (fun h16 => ?_) (fun h16 => absurd h16 (fun z => z rfl))
      refine vv_iconst (pc := 23) x dd_Mo_nil_23 (0) (by decide) ?_
      refine lp_Mo_62 (pc := 24) G x dd_Mo_nil_24 R.2.2 ?_
      have F_N0 : rx RI9 RA mo M (mi M mo 0 0) := rx_mi.mono (by decide) (by simp)
      have t_N0 : ri (mi M mo 0 0) mo 0 = 0 := ri_mi
      have h_N0 : MI pw D ow sl (mi M mo 0 0) mo pl Z := MI_scr h (rx_mi.mono (by decide) (by simp))
      rw [show mm_si M 7 0 mo 0 = mi M mo 0 0 from rfl]
      generalize mi M mo 0 0 = N0 at *
      have R_N0 := h_N0.1
      refine vv_aload_n (pc := 27) x dd_Mo_nil_27 rfl ?_
      refine lg_Mo_62 (pc := 28) G x dd_Mo_nil_28 R_N0.2.2 ?_
      rw [show mm_i N0 7 0 mo = 0 from t_N0]
      refine vv_if_ne (pc := 31) x dd_Mo_nil_31 (tgt := 45) (by decide) (fun h31 => absurd h31 (fun z => z rfl)) (fun h31 => ?_)
      refine vv_aload_n (pc := 34) x dd_Mo_nil_34 rfl ?_
      refine lg_Mo_19 (pc := 35) G x dd_Mo_nil_35 R_N0.2.2 (R_N0.r 8 (by decide)) ?_
      refine vv_iconst (pc := 38) x dd_Mo_nil_38 (4) (by decide) ?_
      refine vv_iload_n (pc := 39) x dd_Mo_nil_39 rfl ?_
      refine vv_imul (pc := 40) x dd_Mo_nil_40 ?_
      refine vv_iload_n (pc := 41) x dd_Mo_nil_41 rfl ?_
      refine vv_iadd (pc := 42) x dd_Mo_nil_42 ?_
      rw [show (4 : Int32) * nI (pl.getD k9 0) + rv = nI (4 * pl.getD k9 0 + j9) from by rw [ej_j9]; exact ix4]
      refine vv_iconst (pc := 43) x dd_Mo_nil_43 (0) (by decide) ?_
      refine vv_iast (pc := 44) x dd_Mo_nil_44 (R_N0.t 8 (by decide)) (in_n (N := 32) (by omega) (R_N0.n 8 (by decide)) (by decide)) ?_
      rw [nI_clamp (n := 4 * pl.getD k9 0 + j9) (by omega)]
      exact vv_vret (pc := 45) x dd_Mo_nil_45 rfl (by decide) (by decide) ⟨F_N0.trans (rx_mw.mono (by simp) (by decide)), Or.inl ⟨⟨hk, hr⟩, rfl, t_N0, MI_reg h_N0 hho hk hj_j9 kk.1⟩⟩
    · refine vv_aload_n (pc := 0) x dd_Mo_nil_0 rfl ?_
      refine vv_iload_n (pc := 1) x dd_Mo_nil_1 rfl ?_
      refine lv_Mo_120 (pc := 2) G x dd_Mo_nil_2 (R_place G h hZ.2.2.1 hnm k9 hk9) R.2.2 ⟨by decide, by decide⟩ (by decide) (by decide) (Nat.le_of_ble_eq_true rfl) (fun v2 M2 q2 => ?_)
      obtain ⟨rfl, hm2⟩ := q2
      have hm2 := hm2.symm
      subst hm2
      rw [show (if k9 < Z.1.length then nI (pl.getD k9 0) else (-1 : Int32)) = nI (pl.getD k9 0) from if_pos hk]
      refine vv_istore_n (pc := 5) x dd_Mo_nil_5 (by decide) (ls2 := [_, _, _, _]) rfl ?_
      refine vv_aload_n (pc := 6) x dd_Mo_nil_6 rfl ?_
      refine vv_iload_n (pc := 7) x dd_Mo_nil_7 rfl ?_
      refine vv_if_lt (pc := 8) x dd_Mo_nil_8 (tgt := 19) (by decide) (fun h8 => absurd h8 (nI_pos (by omega))) (fun h8 => ?_)
      refine vv_aload_n (pc := 11) x dd_Mo_nil_11 rfl ?_
      refine vv_iload_n (pc := 12) x dd_Mo_nil_12 rfl ?_
      refine lv_Mo_123 (pc := 13) G x dd_Mo_nil_13 (k_rnoReg G) R.2.2 ⟨by decide, by decide⟩ (by decide) (by decide) (Nat.le_of_ble_eq_true rfl) (fun v13 M13 q13 => ?_)
      obtain ⟨rfl, hm13⟩ := q13
      have hm13 := hm13.symm
      subst hm13
      rw [show (if ¬ rv < 0 ∧ rv < 4 then (0 : Int32) else 1) = 1 from if_neg hr]
      refine vv_if_eq (pc := 16) x dd_Mo_nil_16 (tgt := 23) (by decide) (fun h16 => absurd h16 (by decide)) (fun h16 => ?_)
      refine vv_iconst (pc := 19) x dd_Mo_nil_19 (1) (by decide) ?_
      refine vv_goto (pc := 20) x dd_Mo_nil_20 (tgt := 24) (by decide) ?_
      refine lp_Mo_62 (pc := 24) G x dd_Mo_nil_24 R.2.2 ?_
      have F_N0 : rx RI9 RA mo M (mi M mo 0 1) := rx_mi.mono (by decide) (by simp)
      have t_N0 : ri (mi M mo 0 1) mo 0 = 1 := ri_mi
      have h_N0 : MI pw D ow sl (mi M mo 0 1) mo pl Z := MI_scr h (rx_mi.mono (by decide) (by simp))
      rw [show mm_si M 7 0 mo 1 = mi M mo 0 1 from rfl]
      generalize mi M mo 0 1 = N0 at *
      have R_N0 := h_N0.1
      refine vv_aload_n (pc := 27) x dd_Mo_nil_27 rfl ?_
      refine lg_Mo_62 (pc := 28) G x dd_Mo_nil_28 R_N0.2.2 ?_
      rw [show mm_i N0 7 0 mo = 1 from t_N0]
      refine vv_if_ne (pc := 31) x dd_Mo_nil_31 (tgt := 45) (by decide) (fun h31 => ?_) (fun h31 => absurd h31 (by decide))
      exact vv_vret (pc := 45) x dd_Mo_nil_45 rfl (by decide) (by decide) ⟨F_N0, Or.inr ⟨(fun z => by first | exact hk z.1 | exact hr z.2), rfl, t_N0, h_N0⟩⟩
  · refine vv_aload_n (pc := 0) x dd_Mo_nil_0 rfl ?_
    refine vv_iload_n (pc := 1) x dd_Mo_nil_1 rfl ?_
    refine lv_Mo_120 (pc := 2) G x dd_Mo_nil_2 (R_place G h hZ.2.2.1 hnm k9 hk9) R.2.2 ⟨by decide, by decide⟩ (by decide) (by decide) (Nat.le_of_ble_eq_true rfl) (fun v2 M2 q2 => ?_)
    obtain ⟨rfl, hm2⟩ := q2
    have hm2 := hm2.symm
    subst hm2
    rw [show (if k9 < Z.1.length then nI (pl.getD k9 0) else (-1 : Int32)) = -1 from if_neg hk]
    refine vv_istore_n (pc := 5) x dd_Mo_nil_5 (by decide) (ls2 := [_, _, _, _]) rfl ?_
    refine vv_aload_n (pc := 6) x dd_Mo_nil_6 rfl ?_
    refine vv_iload_n (pc := 7) x dd_Mo_nil_7 rfl ?_
    refine vv_if_lt (pc := 8) x dd_Mo_nil_8 (tgt := 19) (by decide) (fun h8 => ?_) (fun h8 => absurd h8 (fun z => z (by decide)))
    refine vv_iconst (pc := 19) x dd_Mo_nil_19 (1) (by decide) ?_
    refine vv_goto (pc := 20) x dd_Mo_nil_20 (tgt := 24) (by decide) ?_
    refine lp_Mo_62 (pc := 24) G x dd_Mo_nil_24 R.2.2 ?_
    have F_N0 : rx RI9 RA mo M (mi M mo 0 1) := rx_mi.mono (by decide) (by simp)
    have t_N0 : ri (mi M mo 0 1) mo 0 = 1 := ri_mi
    have h_N0 : MI pw D ow sl (mi M mo 0 1) mo pl Z := MI_scr h (rx_mi.mono (by decide) (by simp))
    rw [show mm_si M 7 0 mo 1 = mi M mo 0 1 from rfl]
    generalize mi M mo 0 1 = N0 at *
    have R_N0 := h_N0.1
    refine vv_aload_n (pc := 27) x dd_Mo_nil_27 rfl ?_
    refine lg_Mo_62 (pc := 28) G x dd_Mo_nil_28 R_N0.2.2 ?_
    rw [show mm_i N0 7 0 mo = 1 from t_N0]
    refine vv_if_ne (pc := 31) x dd_Mo_nil_31 (tgt := 45) (by decide) (fun h31 => ?_) (fun h31 => absurd h31 (by decide))
    exact vv_vret (pc := 45) x dd_Mo_nil_45 rfl (by decide) (by decide) ⟨F_N0, Or.inr ⟨(fun z => by first | exact hk z.1 | exact hr z.2), rfl, t_N0, h_N0⟩⟩
set_option maxRecDepth 100000 in
set_option maxHeartbeats 1000000 in
theorem R_termOf (G : gc g X t0 l) (h : MI pw D ow sl M mo pl Z) (hZ : zok pw Z) (hp6 : pw ≤ 600) (hlat : Z.2.2.1 < 2 ^ 31) (hml : ∀ P ∈ Z.1, P.2.2.2.1.length ≤ 512) {xv rv : Int32} (k9 : Nat) (hk9 : plc Z xv = k9) : Ok g X l yy_Mo_termOf cc_Mo_termOf 4 (some .int) 1 22 0 0 [.ref mo, .int xv, .int rv] M (fun v M' => rx [0] [] mo M M' ∧ (((k9 < Z.1.length ∧ rok rv) ∧ v = some (.int (zrg Z k9 rv)) ∧ ri M' mo 0 = 0 ∧ MI pw D ow sl M' mo pl Z) ∨ (¬ (k9 < Z.1.length ∧ rok rv) ∧ v = some (.int 0) ∧ ri M' mo 0 = 1 ∧ MI pw D ow sl M' mo pl Z))) := by
  refine ok_start (by decide) (Nat.le_of_ble_eq_true rfl) (by simp [Value.category]) ?_
  intro p e s m args below meth c9 x
  have R := h.1
  have hnm := znm hZ hlat
  have h8z := hZ.2.1
  by_cases hk : k9 < Z.1.length
  · have hp8 : pl.getD k9 0 < 8 := h.2.2.1.2.2 _ (getD_memN (by have := h.2.2.1.1; omega))
    by_cases hr : rok rv
    · have hho := zho hZ hml
      obtain ⟨⟨a1, a2, a3⟩, a4, ⟨a5, a6⟩, a7, a8⟩ := h.2.2.2.1 k9 hk
      have kk := hZ.1 _ (zget_mem hk)
      have h600 := kk.2.1.1
      have hml9 := hml _ (zget_mem hk)
      have hcp : (nI (pl.getD k9 0)).toNatClampNeg = pl.getD k9 0 := nI_clamp (by omega)
      obtain ⟨-, hj_j9, ej_j9⟩ := rok_in hr
      have gj_j9 := a4 rv.toNatClampNeg hj_j9
      generalize hq_j9 : rv.toNatClampNeg = j9 at *
      refine vv_aload_n (pc := 0) x dd_Mo_termOf_0 rfl ?_
      refine vv_iload_n (pc := 1) x dd_Mo_termOf_1 rfl ?_
      refine lv_Mo_120 (pc := 2) G x dd_Mo_termOf_2 (R_place G h hZ.2.2.1 hnm k9 hk9) R.2.2 ⟨by decide, by decide⟩ (by decide) (by decide) (Nat.le_of_ble_eq_true rfl) (fun v2 M2 q2 => ?_)
      obtain ⟨rfl, hm2⟩ := q2
      have hm2 := hm2.symm
      subst hm2
      rw [show (if k9 < Z.1.length then nI (pl.getD k9 0) else (-1 : Int32)) = nI (pl.getD k9 0) from if_pos hk]
      refine vv_istore_n (pc := 5) x dd_Mo_termOf_5 (by decide) (ls2 := [_, _, _, _]) rfl ?_
      refine vv_aload_n (pc := 6) x dd_Mo_termOf_6 rfl ?_
      refine vv_iload_n (pc := 7) x dd_Mo_termOf_7 rfl ?_
      refine vv_if_lt (pc := 8) x dd_Mo_termOf_8 (tgt := 19) (by decide) (fun h8 => absurd h8 (nI_pos (by omega))) (fun h8 => ?_)
      refine vv_aload_n (pc := 11) x dd_Mo_termOf_11 rfl ?_
      refine vv_iload_n (pc := 12) x dd_Mo_termOf_12 rfl ?_
      refine lv_Mo_123 (pc := 13) G x dd_Mo_termOf_13 (k_rnoReg G) R.2.2 ⟨by decide, by decide⟩ (by decide) (by decide) (Nat.le_of_ble_eq_true rfl) (fun v13 M13 q13 => ?_)
      obtain ⟨rfl, hm13⟩ := q13
      have hm13 := hm13.symm
      subst hm13
      rw [show (if ¬ rv < 0 ∧ rv < 4 then (0 : Int32) else 1) = 0 from if_pos hr]
      refine vv_if_eq (pc := 16) x dd_Mo_termOf_16 (tgt := 23) (by decide) (fun h16 => ?_) (fun h16 => absurd h16 (fun z => z rfl))
      refine vv_iconst (pc := 23) x dd_Mo_termOf_23 (0) (by decide) ?_
      refine lp_Mo_62 (pc := 24) G x dd_Mo_termOf_24 R.2.2 ?_
      have F_N0 : rx [0] [] mo M (mi M mo 0 0) := rx_mi
      have t_N0 : ri (mi M mo 0 0) mo 0 = 0 := ri_mi
      have h_N0 : MI pw D ow sl (mi M mo 0 0) mo pl Z := MI_scr h (rx_mi.mono (by decide) (by simp))
      rw [show mm_si M 7 0 mo 0 = mi M mo 0 0 from rfl]
      generalize mi M mo 0 0 = N0 at *
      have R_N0 := h_N0.1
      refine vv_aload_n (pc := 27) x dd_Mo_termOf_27 rfl ?_
      refine lg_Mo_62 (pc := 28) G x dd_Mo_termOf_28 R_N0.2.2 ?_
      rw [show mm_i N0 7 0 mo = 0 from t_N0]
      refine vv_if_ne (pc := 31) x dd_Mo_termOf_31 (tgt := 47) (by decide) (fun h31 => absurd h31 (fun z => z rfl)) (fun h31 => ?_)
      refine vv_aload_n (pc := 34) x dd_Mo_termOf_34 rfl ?_
      refine lg_Mo_19 (pc := 35) G x dd_Mo_termOf_35 R_N0.2.2 (R_N0.r 8 (by decide)) ?_
      refine vv_iconst (pc := 38) x dd_Mo_termOf_38 (4) (by decide) ?_
      refine vv_iload_n (pc := 39) x dd_Mo_termOf_39 rfl ?_
      refine vv_imul (pc := 40) x dd_Mo_termOf_40 ?_
      refine vv_iload_n (pc := 41) x dd_Mo_termOf_41 rfl ?_
      refine vv_iadd (pc := 42) x dd_Mo_termOf_42 ?_
      rw [show (4 : Int32) * nI (pl.getD k9 0) + rv = nI (4 * pl.getD k9 0 + j9) from by rw [ej_j9]; exact ix4]
      refine vv_iald (pc := 43) x dd_Mo_termOf_43 (R_N0.t 8 (by decide)) (in_n (N := 32) (by omega) (R_N0.n 8 (by decide)) (by decide)) ?_
      rw [nI_clamp (n := 4 * pl.getD k9 0 + j9) (by omega), show mm_a N0 (mm_f N0 7 8 mo) (4 * pl.getD k9 0 + j9) = (zget Z k9).2.2.1.getD j9 0 from (h_N0.2.2.2.1 k9 hk).2.1 j9 hj_j9]
      refine vv_goto (pc := 44) x dd_Mo_termOf_44 (tgt := 48) (by decide) ?_
      exact vv_iret (pc := 48) x dd_Mo_termOf_48 rfl (by decide) (by decide) ⟨F_N0, Or.inl ⟨⟨hk, hr⟩, by unfold zrg; rw [hq_j9], t_N0, h_N0⟩⟩
    · refine vv_aload_n (pc := 0) x dd_Mo_termOf_0 rfl ?_
      refine vv_iload_n (pc := 1) x dd_Mo_termOf_1 rfl ?_
      refine lv_Mo_120 (pc := 2) G x dd_Mo_termOf_2 (R_place G h hZ.2.2.1 hnm k9 hk9) R.2.2 ⟨by decide, by decide⟩ (by decide) (by decide) (Nat.le_of_ble_eq_true rfl) (fun v2 M2 q2 => ?_)
      obtain ⟨rfl, hm2⟩ := q2
      have hm2 := hm2.symm
      subst hm2
      rw [show (if k9 < Z.1.length then nI (pl.getD k9 0) else (-1 : Int32)) = nI (pl.getD k9 0) from if_pos hk]
      refine vv_istore_n (pc := 5) x dd_Mo_termOf_5 (by decide) (ls2 := [_, _, _, _]) rfl ?_
      refine vv_aload_n (pc := 6) x dd_Mo_termOf_6 rfl ?_
      refine vv_iload_n (pc := 7) x dd_Mo_termOf_7 rfl ?_
      refine vv_if_lt (pc := 8) x dd_Mo_termOf_8 (tgt := 19) (by decide) (fun h8 => absurd h8 (nI_pos (by omega))) (fun h8 => ?_)
      refine vv_aload_n (pc := 11) x dd_Mo_termOf_11 rfl ?_
      refine vv_iload_n (pc := 12) x dd_Mo_termOf_12 rfl ?_
      refine lv_Mo_123 (pc := 13) G x dd_Mo_termOf_13 (k_rnoReg G) R.2.2 ⟨by decide, by decide⟩ (by decide) (by decide) (Nat.le_of_ble_eq_true rfl) (fun v13 M13 q13 => ?_)
      obtain ⟨rfl, hm13⟩ := q13
      have hm13 := hm13.symm
      subst hm13
      rw [show (if ¬ rv < 0 ∧ rv < 4 then (0 : Int32) else 1) = 1 from if_neg hr]
      refine vv_if_eq (pc := 16) x dd_Mo_termOf_16 (tgt := 23) (by decide) (fun h16 => absurd h16 (by decide)) (fun h16 => ?_)
      refine vv_iconst (pc := 19) x dd_Mo_termOf_19 (1) (by decide) ?_
      refine vv_goto (pc := 20) x dd_Mo_termOf_20 (tgt := 24) (by decide) ?_
      refine lp_Mo_62 (pc := 24) G x dd_Mo_termOf_24 R.2.2 ?_
      have F_N0 : rx [0] [] mo M (mi M mo 0 1) := rx_mi
      have t_N0 : ri (mi M mo 0 1) mo 0 = 1 := ri_mi
      have h_N0 : MI pw D ow sl (mi M mo 0 1) mo pl Z := MI_scr h (rx_mi.mono (by decide) (by simp))
      rw [show mm_si M 7 0 mo 1 = mi M mo 0 1 from rfl]
      generalize mi M mo 0 1 = N0 at *
      have R_N0 := h_N0.1
      refine vv_aload_n (pc := 27) x dd_Mo_termOf_27 rfl ?_
      refine lg_Mo_62 (pc := 28) G x dd_Mo_termOf_28 R_N0.2.2 ?_
      rw [show mm_i N0 7 0 mo = 1 from t_N0]
      refine vv_if_ne (pc := 31) x dd_Mo_termOf_31 (tgt := 47) (by decide) (fun h31 => ?_) (fun h31 => absurd h31 (by decide))
      refine vv_iconst (pc := 47) x dd_Mo_termOf_47 (0) (by decide) ?_
      exact vv_iret (pc := 48) x dd_Mo_termOf_48 rfl (by decide) (by decide) ⟨F_N0, Or.inr ⟨(fun z => by first | exact hk z.1 | exact hr z.2), rfl, t_N0, h_N0⟩⟩
  · refine vv_aload_n (pc := 0) x dd_Mo_termOf_0 rfl ?_
    refine vv_iload_n (pc := 1) x dd_Mo_termOf_1 rfl ?_
    refine lv_Mo_120 (pc := 2) G x dd_Mo_termOf_2 (R_place G h hZ.2.2.1 hnm k9 hk9) R.2.2 ⟨by decide, by decide⟩ (by decide) (by decide) (Nat.le_of_ble_eq_true rfl) (fun v2 M2 q2 => ?_)
    obtain ⟨rfl, hm2⟩ := q2
    have hm2 := hm2.symm
    subst hm2
    rw [show (if k9 < Z.1.length then nI (pl.getD k9 0) else (-1 : Int32)) = -1 from if_neg hk]
    refine vv_istore_n (pc := 5) x dd_Mo_termOf_5 (by decide) (ls2 := [_, _, _, _]) rfl ?_
    refine vv_aload_n (pc := 6) x dd_Mo_termOf_6 rfl ?_
    refine vv_iload_n (pc := 7) x dd_Mo_termOf_7 rfl ?_
    refine vv_if_lt (pc := 8) x dd_Mo_termOf_8 (tgt := 19) (by decide) (fun h8 => ?_) (fun h8 => absurd h8 (fun z => z (by decide)))
    refine vv_iconst (pc := 19) x dd_Mo_termOf_19 (1) (by decide) ?_
    refine vv_goto (pc := 20) x dd_Mo_termOf_20 (tgt := 24) (by decide) ?_
    refine lp_Mo_62 (pc := 24) G x dd_Mo_termOf_24 R.2.2 ?_
    have F_N0 : rx [0] [] mo M (mi M mo 0 1) := rx_mi
    have t_N0 : ri (mi M mo 0 1) mo 0 = 1 := ri_mi
    have h_N0 : MI pw D ow sl (mi M mo 0 1) mo pl Z := MI_scr h (rx_mi.mono (by decide) (by simp))
    rw [show mm_si M 7 0 mo 1 = mi M mo 0 1 from rfl]
    generalize mi M mo 0 1 = N0 at *
    have R_N0 := h_N0.1
    refine vv_aload_n (pc := 27) x dd_Mo_termOf_27 rfl ?_
    refine lg_Mo_62 (pc := 28) G x dd_Mo_termOf_28 R_N0.2.2 ?_
    rw [show mm_i N0 7 0 mo = 1 from t_N0]
    refine vv_if_ne (pc := 31) x dd_Mo_termOf_31 (tgt := 47) (by decide) (fun h31 => ?_) (fun h31 => absurd h31 (by decide))
    refine vv_iconst (pc := 47) x dd_Mo_termOf_47 (0) (by decide) ?_
    exact vv_iret (pc := 48) x dd_Mo_termOf_48 rfl (by decide) (by decide) ⟨F_N0, Or.inr ⟨(fun z => by first | exact hk z.1 | exact hr z.2), rfl, t_N0, h_N0⟩⟩
set_option maxRecDepth 100000 in
set_option maxHeartbeats 1000000 in
theorem R_integer (G : gc g X t0 l) (h : MI pw D ow sl M mo pl Z) (hZ : zok pw Z) (hp6 : pw ≤ 600) (hlat : Z.2.2.1 < 2 ^ 31) (hml : ∀ P ∈ Z.1, P.2.2.2.1.length ≤ 512) {xv rv : Int32} (k9 : Nat) (hk9 : plc Z xv = k9) {nv : Int32} : Ok g X l yy_Mo_integer cc_Mo_integer 5 none 1 22 0 0 [.ref mo, .int xv, .int rv, .int nv] M (fun v M' => rx RI9 RA mo M M' ∧ (((k9 < Z.1.length ∧ rok rv) ∧ (¬ nv < -134217728 ∧ nv ≤ 134217727) ∧ v = none ∧ ri M' mo 0 = 0 ∧ MI pw D ow sl M' mo pl (zreg Z k9 rv.toNatClampNeg (8 * nv + 1))) ∨ (¬ (k9 < Z.1.length ∧ rok rv) ∧ v = none ∧ ri M' mo 0 = 1 ∧ MI pw D ow sl M' mo pl Z) ∨ ((k9 < Z.1.length ∧ rok rv) ∧ ¬ (¬ nv < -134217728 ∧ nv ≤ 134217727) ∧ v = none ∧ ri M' mo 0 = 2 ∧ MI pw D ow sl M' mo pl Z))) := by
  refine ok_start (by decide) (Nat.le_of_ble_eq_true rfl) (by simp [Value.category]) ?_
  intro p e s m args below meth c9 x
  have R := h.1
  have hnm := znm hZ hlat
  have h8z := hZ.2.1
  by_cases hk : k9 < Z.1.length
  · have hp8 : pl.getD k9 0 < 8 := h.2.2.1.2.2 _ (getD_memN (by have := h.2.2.1.1; omega))
    by_cases hr : rok rv
    · have hho := zho hZ hml
      obtain ⟨⟨a1, a2, a3⟩, a4, ⟨a5, a6⟩, a7, a8⟩ := h.2.2.2.1 k9 hk
      have kk := hZ.1 _ (zget_mem hk)
      have h600 := kk.2.1.1
      have hml9 := hml _ (zget_mem hk)
      have hcp : (nI (pl.getD k9 0)).toNatClampNeg = pl.getD k9 0 := nI_clamp (by omega)
      obtain ⟨-, hj_j9, ej_j9⟩ := rok_in hr
      have gj_j9 := a4 rv.toNatClampNeg hj_j9
      generalize hq_j9 : rv.toNatClampNeg = j9 at *
      by_cases hc : ¬ nv < -134217728 ∧ nv ≤ 134217727
      · refine vv_aload_n (pc := 0) x dd_Mo_integer_0 rfl ?_
        refine vv_iload_n (pc := 1) x dd_Mo_integer_1 rfl ?_
        refine lv_Mo_120 (pc := 2) G x dd_Mo_integer_2 (R_place G h hZ.2.2.1 hnm k9 hk9) R.2.2 ⟨by decide, by decide⟩ (by decide) (by decide) (Nat.le_of_ble_eq_true rfl) (fun v2 M2 q2 => ?_)
        obtain ⟨rfl, hm2⟩ := q2
        have hm2 := hm2.symm
        subst hm2
        rw [show (if k9 < Z.1.length then nI (pl.getD k9 0) else (-1 : Int32)) = nI (pl.getD k9 0) from if_pos hk]
        refine vv_istore (pc := 5) x dd_Mo_integer_5 (by decide) (ls2 := [_, _, _, _, _]) rfl ?_
        refine vv_aload_n (pc := 7) x dd_Mo_integer_7 rfl ?_
        refine vv_iload (pc := 8) x dd_Mo_integer_8 rfl ?_
        refine vv_if_lt (pc := 10) x dd_Mo_integer_10 (tgt := 21) (by decide) (fun h10 => absurd h10 (nI_pos (by omega))) (fun h10 => ?_)
        refine vv_aload_n (pc := 13) x dd_Mo_integer_13 rfl ?_
        refine vv_iload_n (pc := 14) x dd_Mo_integer_14 rfl ?_
        refine lv_Mo_123 (pc := 15) G x dd_Mo_integer_15 (k_rnoReg G) R.2.2 ⟨by decide, by decide⟩ (by decide) (by decide) (Nat.le_of_ble_eq_true rfl) (fun v15 M15 q15 => ?_)
        obtain ⟨rfl, hm15⟩ := q15
        have hm15 := hm15.symm
        subst hm15
        rw [show (if ¬ rv < 0 ∧ rv < 4 then (0 : Int32) else 1) = 0 from if_pos hr]
        refine vv_if_eq (pc := 18) x dd_Mo_integer_18 (tgt := 25) (by decide) (fun h18 => ?_) (fun h18 => absurd h18 (fun z => z rfl))
        refine vv_iload_n (pc := 25) x dd_Mo_integer_25 rfl ?_
        refine ll_Mo_126 (pc := 26) G x dd_Mo_integer_26 ?_
        refine vv_icmp_lt (pc := 28) x dd_Mo_integer_28 (tgt := 37) (by decide) (fun h28 => absurd h28 hc.1) (fun h28 => ?_)
        refine vv_iload_n (pc := 31) x dd_Mo_integer_31 rfl ?_
        refine ll_Mo_127 (pc := 32) G x dd_Mo_integer_32 ?_
        refine vv_icmp_le (pc := 34) x dd_Mo_integer_34 (tgt := 41) (by decide) (fun h34 => ?_) (fun h34 => absurd h34 (fun z => z hc.2))
        refine vv_iconst (pc := 41) x dd_Mo_integer_41 (0) (by decide) ?_
        refine lp_Mo_62 (pc := 42) G x dd_Mo_integer_42 R.2.2 ?_
        have F_N0 : rx RI9 RA mo M (mi M mo 0 0) := rx_mi.mono (by decide) (by simp)
        have t_N0 : ri (mi M mo 0 0) mo 0 = 0 := ri_mi
        have h_N0 : MI pw D ow sl (mi M mo 0 0) mo pl Z := MI_scr h (rx_mi.mono (by decide) (by simp))
        rw [show mm_si M 7 0 mo 0 = mi M mo 0 0 from rfl]
        generalize mi M mo 0 0 = N0 at *
        have R_N0 := h_N0.1
        refine vv_aload_n (pc := 45) x dd_Mo_integer_45 rfl ?_
        refine lg_Mo_62 (pc := 46) G x dd_Mo_integer_46 R_N0.2.2 ?_
        rw [show mm_i N0 7 0 mo = 0 from t_N0]
        refine vv_if_ne (pc := 49) x dd_Mo_integer_49 (tgt := 69) (by decide) (fun h49 => absurd h49 (fun z => z rfl)) (fun h49 => ?_)
        refine vv_aload_n (pc := 52) x dd_Mo_integer_52 rfl ?_
        refine lg_Mo_19 (pc := 53) G x dd_Mo_integer_53 R_N0.2.2 (R_N0.r 8 (by decide)) ?_
        refine vv_iconst (pc := 56) x dd_Mo_integer_56 (4) (by decide) ?_
        refine vv_iload (pc := 57) x dd_Mo_integer_57 rfl ?_
        refine vv_imul (pc := 59) x dd_Mo_integer_59 ?_
        refine vv_iload_n (pc := 60) x dd_Mo_integer_60 rfl ?_
        refine vv_iadd (pc := 61) x dd_Mo_integer_61 ?_
        rw [show (4 : Int32) * nI (pl.getD k9 0) + rv = nI (4 * pl.getD k9 0 + j9) from by rw [ej_j9]; exact ix4]
        refine vv_bipush (pc := 62) x dd_Mo_integer_62 (8) (by decide) ?_
        refine vv_iload_n (pc := 64) x dd_Mo_integer_64 rfl ?_
        refine vv_imul (pc := 65) x dd_Mo_integer_65 ?_
        refine vv_iconst (pc := 66) x dd_Mo_integer_66 (1) (by decide) ?_
        refine vv_iadd (pc := 67) x dd_Mo_integer_67 ?_
        refine vv_iast (pc := 68) x dd_Mo_integer_68 (R_N0.t 8 (by decide)) (in_n (N := 32) (by omega) (R_N0.n 8 (by decide)) (by decide)) ?_
        rw [nI_clamp (n := 4 * pl.getD k9 0 + j9) (by omega)]
        exact vv_vret (pc := 69) x dd_Mo_integer_69 rfl (by decide) (by decide) ⟨F_N0.trans (rx_mw.mono (by simp) (by decide)), Or.inl ⟨⟨hk, hr⟩, hc, rfl, t_N0, MI_reg h_N0 hho hk hj_j9 kk.1⟩⟩
      · by_cases h1c : nv < -134217728
        · refine vv_aload_n (pc := 0) x dd_Mo_integer_0 rfl ?_
          refine vv_iload_n (pc := 1) x dd_Mo_integer_1 rfl ?_
          refine lv_Mo_120 (pc := 2) G x dd_Mo_integer_2 (R_place G h hZ.2.2.1 hnm k9 hk9) R.2.2 ⟨by decide, by decide⟩ (by decide) (by decide) (Nat.le_of_ble_eq_true rfl) (fun v2 M2 q2 => ?_)
          obtain ⟨rfl, hm2⟩ := q2
          have hm2 := hm2.symm
          subst hm2
          rw [show (if k9 < Z.1.length then nI (pl.getD k9 0) else (-1 : Int32)) = nI (pl.getD k9 0) from if_pos hk]
          refine vv_istore (pc := 5) x dd_Mo_integer_5 (by decide) (ls2 := [_, _, _, _, _]) rfl ?_
          refine vv_aload_n (pc := 7) x dd_Mo_integer_7 rfl ?_
          refine vv_iload (pc := 8) x dd_Mo_integer_8 rfl ?_
          refine vv_if_lt (pc := 10) x dd_Mo_integer_10 (tgt := 21) (by decide) (fun h10 => absurd h10 (nI_pos (by omega))) (fun h10 => ?_)
          refine vv_aload_n (pc := 13) x dd_Mo_integer_13 rfl ?_
          refine vv_iload_n (pc := 14) x dd_Mo_integer_14 rfl ?_
          refine lv_Mo_123 (pc := 15) G x dd_Mo_integer_15 (k_rnoReg G) R.2.2 ⟨by decide, by decide⟩ (by decide) (by decide) (Nat.le_of_ble_eq_true rfl) (fun v15 M15 q15 => ?_)
          obtain ⟨rfl, hm15⟩ := q15
          have hm15 := hm15.symm
          subst hm15
          rw [show (if ¬ rv < 0 ∧ rv < 4 then (0 : Int32) else 1) = 0 from if_pos hr]
          refine vv_if_eq (pc := 18) x dd_Mo_integer_18 (tgt := 25) (by decide) (fun h18 => ?_) (fun h18 => absurd h18 (fun z => z rfl))
          refine vv_iload_n (pc := 25) x dd_Mo_integer_25 rfl ?_
          refine ll_Mo_126 (pc := 26) G x dd_Mo_integer_26 ?_
          refine vv_icmp_lt (pc := 28) x dd_Mo_integer_28 (tgt := 37) (by decide) (fun h28 => ?_) (fun h28 => absurd h28 (fun z => z h1c))
          refine vv_iconst (pc := 37) x dd_Mo_integer_37 (2) (by decide) ?_
          refine vv_goto (pc := 38) x dd_Mo_integer_38 (tgt := 42) (by decide) ?_
          refine lp_Mo_62 (pc := 42) G x dd_Mo_integer_42 R.2.2 ?_
          have F_N0 : rx RI9 RA mo M (mi M mo 0 2) := rx_mi.mono (by decide) (by simp)
          have t_N0 : ri (mi M mo 0 2) mo 0 = 2 := ri_mi
          have h_N0 : MI pw D ow sl (mi M mo 0 2) mo pl Z := MI_scr h (rx_mi.mono (by decide) (by simp))
          rw [show mm_si M 7 0 mo 2 = mi M mo 0 2 from rfl]
          generalize mi M mo 0 2 = N0 at *
          have R_N0 := h_N0.1
          refine vv_aload_n (pc := 45) x dd_Mo_integer_45 rfl ?_
          refine lg_Mo_62 (pc := 46) G x dd_Mo_integer_46 R_N0.2.2 ?_
          rw [show mm_i N0 7 0 mo = 2 from t_N0]
          refine vv_if_ne (pc := 49) x dd_Mo_integer_49 (tgt := 69) (by decide) (fun h49 => ?_) (fun h49 => absurd h49 (by decide))
          exact vv_vret (pc := 69) x dd_Mo_integer_69 rfl (by decide) (by decide) ⟨F_N0, Or.inr (Or.inr ⟨⟨hk, hr⟩, hc, rfl, t_N0, h_N0⟩)⟩
        · have h2c : ¬ nv ≤ 134217727 := fun z => hc ⟨h1c, z⟩
          refine vv_aload_n (pc := 0) x dd_Mo_integer_0 rfl ?_
          refine vv_iload_n (pc := 1) x dd_Mo_integer_1 rfl ?_
          refine lv_Mo_120 (pc := 2) G x dd_Mo_integer_2 (R_place G h hZ.2.2.1 hnm k9 hk9) R.2.2 ⟨by decide, by decide⟩ (by decide) (by decide) (Nat.le_of_ble_eq_true rfl) (fun v2 M2 q2 => ?_)
          obtain ⟨rfl, hm2⟩ := q2
          have hm2 := hm2.symm
          subst hm2
          rw [show (if k9 < Z.1.length then nI (pl.getD k9 0) else (-1 : Int32)) = nI (pl.getD k9 0) from if_pos hk]
          refine vv_istore (pc := 5) x dd_Mo_integer_5 (by decide) (ls2 := [_, _, _, _, _]) rfl ?_
          refine vv_aload_n (pc := 7) x dd_Mo_integer_7 rfl ?_
          refine vv_iload (pc := 8) x dd_Mo_integer_8 rfl ?_
          refine vv_if_lt (pc := 10) x dd_Mo_integer_10 (tgt := 21) (by decide) (fun h10 => absurd h10 (nI_pos (by omega))) (fun h10 => ?_)
          refine vv_aload_n (pc := 13) x dd_Mo_integer_13 rfl ?_
          refine vv_iload_n (pc := 14) x dd_Mo_integer_14 rfl ?_
          refine lv_Mo_123 (pc := 15) G x dd_Mo_integer_15 (k_rnoReg G) R.2.2 ⟨by decide, by decide⟩ (by decide) (by decide) (Nat.le_of_ble_eq_true rfl) (fun v15 M15 q15 => ?_)
          obtain ⟨rfl, hm15⟩ := q15
          have hm15 := hm15.symm
          subst hm15
          rw [show (if ¬ rv < 0 ∧ rv < 4 then (0 : Int32) else 1) = 0 from if_pos hr]
          refine vv_if_eq (pc := 18) x dd_Mo_integer_18 (tgt := 25) (by decide) (fun h18 => ?_) (fun h18 => absurd h18 (fun z => z rfl))
          refine vv_iload_n (pc := 25) x dd_Mo_integer_25 rfl ?_
          refine ll_Mo_126 (pc := 26) G x dd_Mo_integer_26 ?_
          refine vv_icmp_lt (pc := 28) x dd_Mo_integer_28 (tgt := 37) (by decide) (fun h28 => absurd h28 h1c) (fun h28 => ?_)
          refine vv_iload_n (pc := 31) x dd_Mo_integer_31 rfl ?_
          refine ll_Mo_127 (pc := 32) G x dd_Mo_integer_32 ?_
          refine vv_icmp_le (pc := 34) x dd_Mo_integer_34 (tgt := 41) (by decide) (fun h34 => absurd h34 h2c) (fun h34 => ?_)
          refine vv_iconst (pc := 37) x dd_Mo_integer_37 (2) (by decide) ?_
          refine vv_goto (pc := 38) x dd_Mo_integer_38 (tgt := 42) (by decide) ?_
          refine lp_Mo_62 (pc := 42) G x dd_Mo_integer_42 R.2.2 ?_
          have F_N0 : rx RI9 RA mo M (mi M mo 0 2) := rx_mi.mono (by decide) (by simp)
          have t_N0 : ri (mi M mo 0 2) mo 0 = 2 := ri_mi
          have h_N0 : MI pw D ow sl (mi M mo 0 2) mo pl Z := MI_scr h (rx_mi.mono (by decide) (by simp))
          rw [show mm_si M 7 0 mo 2 = mi M mo 0 2 from rfl]
          generalize mi M mo 0 2 = N0 at *
          have R_N0 := h_N0.1
          refine vv_aload_n (pc := 45) x dd_Mo_integer_45 rfl ?_
          refine lg_Mo_62 (pc := 46) G x dd_Mo_integer_46 R_N0.2.2 ?_
          rw [show mm_i N0 7 0 mo = 2 from t_N0]
          refine vv_if_ne (pc := 49) x dd_Mo_integer_49 (tgt := 69) (by decide) (fun h49 => ?_) (fun h49 => absurd h49 (by decide))
          exact vv_vret (pc := 69) x dd_Mo_integer_69 rfl (by decide) (by decide) ⟨F_N0, Or.inr (Or.inr ⟨⟨hk, hr⟩, hc, rfl, t_N0, h_N0⟩)⟩
    · refine vv_aload_n (pc := 0) x dd_Mo_integer_0 rfl ?_
      refine vv_iload_n (pc := 1) x dd_Mo_integer_1 rfl ?_
      refine lv_Mo_120 (pc := 2) G x dd_Mo_integer_2 (R_place G h hZ.2.2.1 hnm k9 hk9) R.2.2 ⟨by decide, by decide⟩ (by decide) (by decide) (Nat.le_of_ble_eq_true rfl) (fun v2 M2 q2 => ?_)
      obtain ⟨rfl, hm2⟩ := q2
      have hm2 := hm2.symm
      subst hm2
      rw [show (if k9 < Z.1.length then nI (pl.getD k9 0) else (-1 : Int32)) = nI (pl.getD k9 0) from if_pos hk]
      refine vv_istore (pc := 5) x dd_Mo_integer_5 (by decide) (ls2 := [_, _, _, _, _]) rfl ?_
      refine vv_aload_n (pc := 7) x dd_Mo_integer_7 rfl ?_
      refine vv_iload (pc := 8) x dd_Mo_integer_8 rfl ?_
      refine vv_if_lt (pc := 10) x dd_Mo_integer_10 (tgt := 21) (by decide) (fun h10 => absurd h10 (nI_pos (by omega))) (fun h10 => ?_)
      refine vv_aload_n (pc := 13) x dd_Mo_integer_13 rfl ?_
      refine vv_iload_n (pc := 14) x dd_Mo_integer_14 rfl ?_
      refine lv_Mo_123 (pc := 15) G x dd_Mo_integer_15 (k_rnoReg G) R.2.2 ⟨by decide, by decide⟩ (by decide) (by decide) (Nat.le_of_ble_eq_true rfl) (fun v15 M15 q15 => ?_)
      obtain ⟨rfl, hm15⟩ := q15
      have hm15 := hm15.symm
      subst hm15
      rw [show (if ¬ rv < 0 ∧ rv < 4 then (0 : Int32) else 1) = 1 from if_neg hr]
      refine vv_if_eq (pc := 18) x dd_Mo_integer_18 (tgt := 25) (by decide) (fun h18 => absurd h18 (by decide)) (fun h18 => ?_)
      refine vv_iconst (pc := 21) x dd_Mo_integer_21 (1) (by decide) ?_
      refine vv_goto (pc := 22) x dd_Mo_integer_22 (tgt := 42) (by decide) ?_
      refine lp_Mo_62 (pc := 42) G x dd_Mo_integer_42 R.2.2 ?_
      have F_N0 : rx RI9 RA mo M (mi M mo 0 1) := rx_mi.mono (by decide) (by simp)
      have t_N0 : ri (mi M mo 0 1) mo 0 = 1 := ri_mi
      have h_N0 : MI pw D ow sl (mi M mo 0 1) mo pl Z := MI_scr h (rx_mi.mono (by decide) (by simp))
      rw [show mm_si M 7 0 mo 1 = mi M mo 0 1 from rfl]
      generalize mi M mo 0 1 = N0 at *
      have R_N0 := h_N0.1
      refine vv_aload_n (pc := 45) x dd_Mo_integer_45 rfl ?_
      refine lg_Mo_62 (pc := 46) G x dd_Mo_integer_46 R_N0.2.2 ?_
      rw [show mm_i N0 7 0 mo = 1 from t_N0]
      refine vv_if_ne (pc := 49) x dd_Mo_integer_49 (tgt := 69) (by decide) (fun h49 => ?_) (fun h49 => absurd h49 (by decide))
      exact vv_vret (pc := 69) x dd_Mo_integer_69 rfl (by decide) (by decide) ⟨F_N0, Or.inr (Or.inl ⟨(fun z => by first | exact hk z.1 | exact hr z.2), rfl, t_N0, h_N0⟩)⟩
  · refine vv_aload_n (pc := 0) x dd_Mo_integer_0 rfl ?_
    refine vv_iload_n (pc := 1) x dd_Mo_integer_1 rfl ?_
    refine lv_Mo_120 (pc := 2) G x dd_Mo_integer_2 (R_place G h hZ.2.2.1 hnm k9 hk9) R.2.2 ⟨by decide, by decide⟩ (by decide) (by decide) (Nat.le_of_ble_eq_true rfl) (fun v2 M2 q2 => ?_)
    obtain ⟨rfl, hm2⟩ := q2
    have hm2 := hm2.symm
    subst hm2
    rw [show (if k9 < Z.1.length then nI (pl.getD k9 0) else (-1 : Int32)) = -1 from if_neg hk]
    refine vv_istore (pc := 5) x dd_Mo_integer_5 (by decide) (ls2 := [_, _, _, _, _]) rfl ?_
    refine vv_aload_n (pc := 7) x dd_Mo_integer_7 rfl ?_
    refine vv_iload (pc := 8) x dd_Mo_integer_8 rfl ?_
    refine vv_if_lt (pc := 10) x dd_Mo_integer_10 (tgt := 21) (by decide) (fun h10 => ?_) (fun h10 => absurd h10 (fun z => z (by decide)))
    refine vv_iconst (pc := 21) x dd_Mo_integer_21 (1) (by decide) ?_
    refine vv_goto (pc := 22) x dd_Mo_integer_22 (tgt := 42) (by decide) ?_
    refine lp_Mo_62 (pc := 42) G x dd_Mo_integer_42 R.2.2 ?_
    have F_N0 : rx RI9 RA mo M (mi M mo 0 1) := rx_mi.mono (by decide) (by simp)
    have t_N0 : ri (mi M mo 0 1) mo 0 = 1 := ri_mi
    have h_N0 : MI pw D ow sl (mi M mo 0 1) mo pl Z := MI_scr h (rx_mi.mono (by decide) (by simp))
    rw [show mm_si M 7 0 mo 1 = mi M mo 0 1 from rfl]
    generalize mi M mo 0 1 = N0 at *
    have R_N0 := h_N0.1
    refine vv_aload_n (pc := 45) x dd_Mo_integer_45 rfl ?_
    refine lg_Mo_62 (pc := 46) G x dd_Mo_integer_46 R_N0.2.2 ?_
    rw [show mm_i N0 7 0 mo = 1 from t_N0]
    refine vv_if_ne (pc := 49) x dd_Mo_integer_49 (tgt := 69) (by decide) (fun h49 => ?_) (fun h49 => absurd h49 (by decide))
    exact vv_vret (pc := 69) x dd_Mo_integer_69 rfl (by decide) (by decide) ⟨F_N0, Or.inr (Or.inl ⟨(fun z => by first | exact hk z.1 | exact hr z.2), rfl, t_N0, h_N0⟩)⟩
set_option maxRecDepth 100000 in
set_option maxHeartbeats 1000000 in
theorem R_name (G : gc g X t0 l) (h : MI pw D ow sl M mo pl Z) (hZ : zok pw Z) (hp6 : pw ≤ 600) (hlat : Z.2.2.1 < 2 ^ 31) (hml : ∀ P ∈ Z.1, P.2.2.2.1.length ≤ 512) {xv rv : Int32} (k9 : Nat) (hk9 : plc Z xv = k9) {nv : Int32} : Ok g X l yy_Mo_name cc_Mo_name 5 none 1 22 0 0 [.ref mo, .int xv, .int rv, .int nv] M (fun v M' => rx RI9 RA mo M M' ∧ (((k9 < Z.1.length ∧ rok rv) ∧ (¬ nv < 1 ∧ nv ≤ nI Z.2.2.1) ∧ v = none ∧ ri M' mo 0 = 0 ∧ MI pw D ow sl M' mo pl (zreg Z k9 rv.toNatClampNeg (8 * nv + 2))) ∨ (¬ (k9 < Z.1.length ∧ rok rv) ∧ v = none ∧ ri M' mo 0 = 1 ∧ MI pw D ow sl M' mo pl Z) ∨ ((k9 < Z.1.length ∧ rok rv) ∧ ¬ (¬ nv < 1 ∧ nv ≤ nI Z.2.2.1) ∧ v = none ∧ ri M' mo 0 = 2 ∧ MI pw D ow sl M' mo pl Z))) := by
  refine ok_start (by decide) (Nat.le_of_ble_eq_true rfl) (by simp [Value.category]) ?_
  intro p e s m args below meth c9 x
  have R := h.1
  have hnm := znm hZ hlat
  have h8z := hZ.2.1
  by_cases hk : k9 < Z.1.length
  · have hp8 : pl.getD k9 0 < 8 := h.2.2.1.2.2 _ (getD_memN (by have := h.2.2.1.1; omega))
    by_cases hr : rok rv
    · have hho := zho hZ hml
      obtain ⟨⟨a1, a2, a3⟩, a4, ⟨a5, a6⟩, a7, a8⟩ := h.2.2.2.1 k9 hk
      have kk := hZ.1 _ (zget_mem hk)
      have h600 := kk.2.1.1
      have hml9 := hml _ (zget_mem hk)
      have hcp : (nI (pl.getD k9 0)).toNatClampNeg = pl.getD k9 0 := nI_clamp (by omega)
      obtain ⟨-, hj_j9, ej_j9⟩ := rok_in hr
      have gj_j9 := a4 rv.toNatClampNeg hj_j9
      generalize hq_j9 : rv.toNatClampNeg = j9 at *
      by_cases hc : ¬ nv < 1 ∧ nv ≤ nI Z.2.2.1
      · refine vv_aload_n (pc := 0) x dd_Mo_name_0 rfl ?_
        refine vv_iload_n (pc := 1) x dd_Mo_name_1 rfl ?_
        refine lv_Mo_120 (pc := 2) G x dd_Mo_name_2 (R_place G h hZ.2.2.1 hnm k9 hk9) R.2.2 ⟨by decide, by decide⟩ (by decide) (by decide) (Nat.le_of_ble_eq_true rfl) (fun v2 M2 q2 => ?_)
        obtain ⟨rfl, hm2⟩ := q2
        have hm2 := hm2.symm
        subst hm2
        rw [show (if k9 < Z.1.length then nI (pl.getD k9 0) else (-1 : Int32)) = nI (pl.getD k9 0) from if_pos hk]
        refine vv_istore (pc := 5) x dd_Mo_name_5 (by decide) (ls2 := [_, _, _, _, _]) rfl ?_
        refine vv_aload_n (pc := 7) x dd_Mo_name_7 rfl ?_
        refine vv_iload (pc := 8) x dd_Mo_name_8 rfl ?_
        refine vv_if_lt (pc := 10) x dd_Mo_name_10 (tgt := 21) (by decide) (fun h10 => absurd h10 (nI_pos (by omega))) (fun h10 => ?_)
        refine vv_aload_n (pc := 13) x dd_Mo_name_13 rfl ?_
        refine vv_iload_n (pc := 14) x dd_Mo_name_14 rfl ?_
        refine lv_Mo_123 (pc := 15) G x dd_Mo_name_15 (k_rnoReg G) R.2.2 ⟨by decide, by decide⟩ (by decide) (by decide) (Nat.le_of_ble_eq_true rfl) (fun v15 M15 q15 => ?_)
        obtain ⟨rfl, hm15⟩ := q15
        have hm15 := hm15.symm
        subst hm15
        rw [show (if ¬ rv < 0 ∧ rv < 4 then (0 : Int32) else 1) = 0 from if_pos hr]
        refine vv_if_eq (pc := 18) x dd_Mo_name_18 (tgt := 25) (by decide) (fun h18 => ?_) (fun h18 => absurd h18 (fun z => z rfl))
        refine vv_iload_n (pc := 25) x dd_Mo_name_25 rfl ?_
        refine vv_iconst (pc := 26) x dd_Mo_name_26 (1) (by decide) ?_
        refine vv_icmp_lt (pc := 27) x dd_Mo_name_27 (tgt := 38) (by decide) (fun h27 => absurd h27 hc.1) (fun h27 => ?_)
        refine vv_iload_n (pc := 30) x dd_Mo_name_30 rfl ?_
        refine vv_aload_n (pc := 31) x dd_Mo_name_31 rfl ?_
        refine lg_Mo_117 (pc := 32) G x dd_Mo_name_32 R.2.2 ?_
        rw [show mm_i M 7 2 mo = nI Z.2.2.1 from h.2.1.2.1]
        refine vv_icmp_le (pc := 35) x dd_Mo_name_35 (tgt := 42) (by decide) (fun h35 => ?_) (fun h35 => absurd h35 (fun z => z hc.2))
        refine vv_iconst (pc := 42) x dd_Mo_name_42 (0) (by decide) ?_
        refine lp_Mo_62 (pc := 43) G x dd_Mo_name_43 R.2.2 ?_
        have F_N0 : rx RI9 RA mo M (mi M mo 0 0) := rx_mi.mono (by decide) (by simp)
        have t_N0 : ri (mi M mo 0 0) mo 0 = 0 := ri_mi
        have h_N0 : MI pw D ow sl (mi M mo 0 0) mo pl Z := MI_scr h (rx_mi.mono (by decide) (by simp))
        rw [show mm_si M 7 0 mo 0 = mi M mo 0 0 from rfl]
        generalize mi M mo 0 0 = N0 at *
        have R_N0 := h_N0.1
        refine vv_aload_n (pc := 46) x dd_Mo_name_46 rfl ?_
        refine lg_Mo_62 (pc := 47) G x dd_Mo_name_47 R_N0.2.2 ?_
        rw [show mm_i N0 7 0 mo = 0 from t_N0]
        refine vv_if_ne (pc := 50) x dd_Mo_name_50 (tgt := 70) (by decide) (fun h50 => absurd h50 (fun z => z rfl)) (fun h50 => ?_)
        refine vv_aload_n (pc := 53) x dd_Mo_name_53 rfl ?_
        refine lg_Mo_19 (pc := 54) G x dd_Mo_name_54 R_N0.2.2 (R_N0.r 8 (by decide)) ?_
        refine vv_iconst (pc := 57) x dd_Mo_name_57 (4) (by decide) ?_
        refine vv_iload (pc := 58) x dd_Mo_name_58 rfl ?_
        refine vv_imul (pc := 60) x dd_Mo_name_60 ?_
        refine vv_iload_n (pc := 61) x dd_Mo_name_61 rfl ?_
        refine vv_iadd (pc := 62) x dd_Mo_name_62 ?_
        rw [show (4 : Int32) * nI (pl.getD k9 0) + rv = nI (4 * pl.getD k9 0 + j9) from by rw [ej_j9]; exact ix4]
        refine vv_bipush (pc := 63) x dd_Mo_name_63 (8) (by decide) ?_
        refine vv_iload_n (pc := 65) x dd_Mo_name_65 rfl ?_
        refine vv_imul (pc := 66) x dd_Mo_name_66 ?_
        refine vv_iconst (pc := 67) x dd_Mo_name_67 (2) (by decide) ?_
        refine vv_iadd (pc := 68) x dd_Mo_name_68 ?_
        refine vv_iast (pc := 69) x dd_Mo_name_69 (R_N0.t 8 (by decide)) (in_n (N := 32) (by omega) (R_N0.n 8 (by decide)) (by decide)) ?_
        rw [nI_clamp (n := 4 * pl.getD k9 0 + j9) (by omega)]
        exact vv_vret (pc := 70) x dd_Mo_name_70 rfl (by decide) (by decide) ⟨F_N0.trans (rx_mw.mono (by simp) (by decide)), Or.inl ⟨⟨hk, hr⟩, hc, rfl, t_N0, MI_reg h_N0 hho hk hj_j9 kk.1⟩⟩
      · by_cases h1c : nv < 1
        · refine vv_aload_n (pc := 0) x dd_Mo_name_0 rfl ?_
          refine vv_iload_n (pc := 1) x dd_Mo_name_1 rfl ?_
          refine lv_Mo_120 (pc := 2) G x dd_Mo_name_2 (R_place G h hZ.2.2.1 hnm k9 hk9) R.2.2 ⟨by decide, by decide⟩ (by decide) (by decide) (Nat.le_of_ble_eq_true rfl) (fun v2 M2 q2 => ?_)
          obtain ⟨rfl, hm2⟩ := q2
          have hm2 := hm2.symm
          subst hm2
          rw [show (if k9 < Z.1.length then nI (pl.getD k9 0) else (-1 : Int32)) = nI (pl.getD k9 0) from if_pos hk]
          refine vv_istore (pc := 5) x dd_Mo_name_5 (by decide) (ls2 := [_, _, _, _, _]) rfl ?_
          refine vv_aload_n (pc := 7) x dd_Mo_name_7 rfl ?_
          refine vv_iload (pc := 8) x dd_Mo_name_8 rfl ?_
          refine vv_if_lt (pc := 10) x dd_Mo_name_10 (tgt := 21) (by decide) (fun h10 => absurd h10 (nI_pos (by omega))) (fun h10 => ?_)
          refine vv_aload_n (pc := 13) x dd_Mo_name_13 rfl ?_
          refine vv_iload_n (pc := 14) x dd_Mo_name_14 rfl ?_
          refine lv_Mo_123 (pc := 15) G x dd_Mo_name_15 (k_rnoReg G) R.2.2 ⟨by decide, by decide⟩ (by decide) (by decide) (Nat.le_of_ble_eq_true rfl) (fun v15 M15 q15 => ?_)
          obtain ⟨rfl, hm15⟩ := q15
          have hm15 := hm15.symm
          subst hm15
          rw [show (if ¬ rv < 0 ∧ rv < 4 then (0 : Int32) else 1) = 0 from if_pos hr]
          refine vv_if_eq (pc := 18) x dd_Mo_name_18 (tgt := 25) (by decide) (fun h18 => ?_) (fun h18 => absurd h18 (fun z => z rfl))
          refine vv_iload_n (pc := 25) x dd_Mo_name_25 rfl ?_
          refine vv_iconst (pc := 26) x dd_Mo_name_26 (1) (by decide) ?_
          refine vv_icmp_lt (pc := 27) x dd_Mo_name_27 (tgt := 38) (by decide) (fun h27 => ?_) (fun h27 => absurd h27 (fun z => z h1c))
          refine vv_iconst (pc := 38) x dd_Mo_name_38 (2) (by decide) ?_
          refine vv_goto (pc := 39) x dd_Mo_name_39 (tgt := 43) (by decide) ?_
          refine lp_Mo_62 (pc := 43) G x dd_Mo_name_43 R.2.2 ?_
          have F_N0 : rx RI9 RA mo M (mi M mo 0 2) := rx_mi.mono (by decide) (by simp)
          have t_N0 : ri (mi M mo 0 2) mo 0 = 2 := ri_mi
          have h_N0 : MI pw D ow sl (mi M mo 0 2) mo pl Z := MI_scr h (rx_mi.mono (by decide) (by simp))
          rw [show mm_si M 7 0 mo 2 = mi M mo 0 2 from rfl]
          generalize mi M mo 0 2 = N0 at *
          have R_N0 := h_N0.1
          refine vv_aload_n (pc := 46) x dd_Mo_name_46 rfl ?_
          refine lg_Mo_62 (pc := 47) G x dd_Mo_name_47 R_N0.2.2 ?_
          rw [show mm_i N0 7 0 mo = 2 from t_N0]
          refine vv_if_ne (pc := 50) x dd_Mo_name_50 (tgt := 70) (by decide) (fun h50 => ?_) (fun h50 => absurd h50 (by decide))
          exact vv_vret (pc := 70) x dd_Mo_name_70 rfl (by decide) (by decide) ⟨F_N0, Or.inr (Or.inr ⟨⟨hk, hr⟩, hc, rfl, t_N0, h_N0⟩)⟩
        · have h2c : ¬ nv ≤ nI Z.2.2.1 := fun z => hc ⟨h1c, z⟩
          refine vv_aload_n (pc := 0) x dd_Mo_name_0 rfl ?_
          refine vv_iload_n (pc := 1) x dd_Mo_name_1 rfl ?_
          refine lv_Mo_120 (pc := 2) G x dd_Mo_name_2 (R_place G h hZ.2.2.1 hnm k9 hk9) R.2.2 ⟨by decide, by decide⟩ (by decide) (by decide) (Nat.le_of_ble_eq_true rfl) (fun v2 M2 q2 => ?_)
          obtain ⟨rfl, hm2⟩ := q2
          have hm2 := hm2.symm
          subst hm2
          rw [show (if k9 < Z.1.length then nI (pl.getD k9 0) else (-1 : Int32)) = nI (pl.getD k9 0) from if_pos hk]
          refine vv_istore (pc := 5) x dd_Mo_name_5 (by decide) (ls2 := [_, _, _, _, _]) rfl ?_
          refine vv_aload_n (pc := 7) x dd_Mo_name_7 rfl ?_
          refine vv_iload (pc := 8) x dd_Mo_name_8 rfl ?_
          refine vv_if_lt (pc := 10) x dd_Mo_name_10 (tgt := 21) (by decide) (fun h10 => absurd h10 (nI_pos (by omega))) (fun h10 => ?_)
          refine vv_aload_n (pc := 13) x dd_Mo_name_13 rfl ?_
          refine vv_iload_n (pc := 14) x dd_Mo_name_14 rfl ?_
          refine lv_Mo_123 (pc := 15) G x dd_Mo_name_15 (k_rnoReg G) R.2.2 ⟨by decide, by decide⟩ (by decide) (by decide) (Nat.le_of_ble_eq_true rfl) (fun v15 M15 q15 => ?_)
          obtain ⟨rfl, hm15⟩ := q15
          have hm15 := hm15.symm
          subst hm15
          rw [show (if ¬ rv < 0 ∧ rv < 4 then (0 : Int32) else 1) = 0 from if_pos hr]
          refine vv_if_eq (pc := 18) x dd_Mo_name_18 (tgt := 25) (by decide) (fun h18 => ?_) (fun h18 => absurd h18 (fun z => z rfl))
          refine vv_iload_n (pc := 25) x dd_Mo_name_25 rfl ?_
          refine vv_iconst (pc := 26) x dd_Mo_name_26 (1) (by decide) ?_
          refine vv_icmp_lt (pc := 27) x dd_Mo_name_27 (tgt := 38) (by decide) (fun h27 => absurd h27 h1c) (fun h27 => ?_)
          refine vv_iload_n (pc := 30) x dd_Mo_name_30 rfl ?_
          refine vv_aload_n (pc := 31) x dd_Mo_name_31 rfl ?_
          refine lg_Mo_117 (pc := 32) G x dd_Mo_name_32 R.2.2 ?_
          rw [show mm_i M 7 2 mo = nI Z.2.2.1 from h.2.1.2.1]
          refine vv_icmp_le (pc := 35) x dd_Mo_name_35 (tgt := 42) (by decide) (fun h35 => absurd h35 h2c) (fun h35 => ?_)
          refine vv_iconst (pc := 38) x dd_Mo_name_38 (2) (by decide) ?_
          refine vv_goto (pc := 39) x dd_Mo_name_39 (tgt := 43) (by decide) ?_
          refine lp_Mo_62 (pc := 43) G x dd_Mo_name_43 R.2.2 ?_
          have F_N0 : rx RI9 RA mo M (mi M mo 0 2) := rx_mi.mono (by decide) (by simp)
          have t_N0 : ri (mi M mo 0 2) mo 0 = 2 := ri_mi
          have h_N0 : MI pw D ow sl (mi M mo 0 2) mo pl Z := MI_scr h (rx_mi.mono (by decide) (by simp))
          rw [show mm_si M 7 0 mo 2 = mi M mo 0 2 from rfl]
          generalize mi M mo 0 2 = N0 at *
          have R_N0 := h_N0.1
          refine vv_aload_n (pc := 46) x dd_Mo_name_46 rfl ?_
          refine lg_Mo_62 (pc := 47) G x dd_Mo_name_47 R_N0.2.2 ?_
          rw [show mm_i N0 7 0 mo = 2 from t_N0]
          refine vv_if_ne (pc := 50) x dd_Mo_name_50 (tgt := 70) (by decide) (fun h50 => ?_) (fun h50 => absurd h50 (by decide))
          exact vv_vret (pc := 70) x dd_Mo_name_70 rfl (by decide) (by decide) ⟨F_N0, Or.inr (Or.inr ⟨⟨hk, hr⟩, hc, rfl, t_N0, h_N0⟩)⟩
    · refine vv_aload_n (pc := 0) x dd_Mo_name_0 rfl ?_
      refine vv_iload_n (pc := 1) x dd_Mo_name_1 rfl ?_
      refine lv_Mo_120 (pc := 2) G x dd_Mo_name_2 (R_place G h hZ.2.2.1 hnm k9 hk9) R.2.2 ⟨by decide, by decide⟩ (by decide) (by decide) (Nat.le_of_ble_eq_true rfl) (fun v2 M2 q2 => ?_)
      obtain ⟨rfl, hm2⟩ := q2
      have hm2 := hm2.symm
      subst hm2
      rw [show (if k9 < Z.1.length then nI (pl.getD k9 0) else (-1 : Int32)) = nI (pl.getD k9 0) from if_pos hk]
      refine vv_istore (pc := 5) x dd_Mo_name_5 (by decide) (ls2 := [_, _, _, _, _]) rfl ?_
      refine vv_aload_n (pc := 7) x dd_Mo_name_7 rfl ?_
      refine vv_iload (pc := 8) x dd_Mo_name_8 rfl ?_
      refine vv_if_lt (pc := 10) x dd_Mo_name_10 (tgt := 21) (by decide) (fun h10 => absurd h10 (nI_pos (by omega))) (fun h10 => ?_)
      refine vv_aload_n (pc := 13) x dd_Mo_name_13 rfl ?_
      refine vv_iload_n (pc := 14) x dd_Mo_name_14 rfl ?_
      refine lv_Mo_123 (pc := 15) G x dd_Mo_name_15 (k_rnoReg G) R.2.2 ⟨by decide, by decide⟩ (by decide) (by decide) (Nat.le_of_ble_eq_true rfl) (fun v15 M15 q15 => ?_)
      obtain ⟨rfl, hm15⟩ := q15
      have hm15 := hm15.symm
      subst hm15
      rw [show (if ¬ rv < 0 ∧ rv < 4 then (0 : Int32) else 1) = 1 from if_neg hr]
      refine vv_if_eq (pc := 18) x dd_Mo_name_18 (tgt := 25) (by decide) (fun h18 => absurd h18 (by decide)) (fun h18 => ?_)
      refine vv_iconst (pc := 21) x dd_Mo_name_21 (1) (by decide) ?_
      refine vv_goto (pc := 22) x dd_Mo_name_22 (tgt := 43) (by decide) ?_
      refine lp_Mo_62 (pc := 43) G x dd_Mo_name_43 R.2.2 ?_
      have F_N0 : rx RI9 RA mo M (mi M mo 0 1) := rx_mi.mono (by decide) (by simp)
      have t_N0 : ri (mi M mo 0 1) mo 0 = 1 := ri_mi
      have h_N0 : MI pw D ow sl (mi M mo 0 1) mo pl Z := MI_scr h (rx_mi.mono (by decide) (by simp))
      rw [show mm_si M 7 0 mo 1 = mi M mo 0 1 from rfl]
      generalize mi M mo 0 1 = N0 at *
      have R_N0 := h_N0.1
      refine vv_aload_n (pc := 46) x dd_Mo_name_46 rfl ?_
      refine lg_Mo_62 (pc := 47) G x dd_Mo_name_47 R_N0.2.2 ?_
      rw [show mm_i N0 7 0 mo = 1 from t_N0]
      refine vv_if_ne (pc := 50) x dd_Mo_name_50 (tgt := 70) (by decide) (fun h50 => ?_) (fun h50 => absurd h50 (by decide))
      exact vv_vret (pc := 70) x dd_Mo_name_70 rfl (by decide) (by decide) ⟨F_N0, Or.inr (Or.inl ⟨(fun z => by first | exact hk z.1 | exact hr z.2), rfl, t_N0, h_N0⟩)⟩
  · refine vv_aload_n (pc := 0) x dd_Mo_name_0 rfl ?_
    refine vv_iload_n (pc := 1) x dd_Mo_name_1 rfl ?_
    refine lv_Mo_120 (pc := 2) G x dd_Mo_name_2 (R_place G h hZ.2.2.1 hnm k9 hk9) R.2.2 ⟨by decide, by decide⟩ (by decide) (by decide) (Nat.le_of_ble_eq_true rfl) (fun v2 M2 q2 => ?_)
    obtain ⟨rfl, hm2⟩ := q2
    have hm2 := hm2.symm
    subst hm2
    rw [show (if k9 < Z.1.length then nI (pl.getD k9 0) else (-1 : Int32)) = -1 from if_neg hk]
    refine vv_istore (pc := 5) x dd_Mo_name_5 (by decide) (ls2 := [_, _, _, _, _]) rfl ?_
    refine vv_aload_n (pc := 7) x dd_Mo_name_7 rfl ?_
    refine vv_iload (pc := 8) x dd_Mo_name_8 rfl ?_
    refine vv_if_lt (pc := 10) x dd_Mo_name_10 (tgt := 21) (by decide) (fun h10 => ?_) (fun h10 => absurd h10 (fun z => z (by decide)))
    refine vv_iconst (pc := 21) x dd_Mo_name_21 (1) (by decide) ?_
    refine vv_goto (pc := 22) x dd_Mo_name_22 (tgt := 43) (by decide) ?_
    refine lp_Mo_62 (pc := 43) G x dd_Mo_name_43 R.2.2 ?_
    have F_N0 : rx RI9 RA mo M (mi M mo 0 1) := rx_mi.mono (by decide) (by simp)
    have t_N0 : ri (mi M mo 0 1) mo 0 = 1 := ri_mi
    have h_N0 : MI pw D ow sl (mi M mo 0 1) mo pl Z := MI_scr h (rx_mi.mono (by decide) (by simp))
    rw [show mm_si M 7 0 mo 1 = mi M mo 0 1 from rfl]
    generalize mi M mo 0 1 = N0 at *
    have R_N0 := h_N0.1
    refine vv_aload_n (pc := 46) x dd_Mo_name_46 rfl ?_
    refine lg_Mo_62 (pc := 47) G x dd_Mo_name_47 R_N0.2.2 ?_
    rw [show mm_i N0 7 0 mo = 1 from t_N0]
    refine vv_if_ne (pc := 50) x dd_Mo_name_50 (tgt := 70) (by decide) (fun h50 => ?_) (fun h50 => absurd h50 (by decide))
    exact vv_vret (pc := 70) x dd_Mo_name_70 rfl (by decide) (by decide) ⟨F_N0, Or.inr (Or.inl ⟨(fun z => by first | exact hk z.1 | exact hr z.2), rfl, t_N0, h_N0⟩)⟩
set_option maxRecDepth 100000 in
set_option maxHeartbeats 1000000 in
theorem R_move (G : gc g X t0 l) (h : MI pw D ow sl M mo pl Z) (hZ : zok pw Z) (hp6 : pw ≤ 600) (hlat : Z.2.2.1 < 2 ^ 31) (hml : ∀ P ∈ Z.1, P.2.2.2.1.length ≤ 512) {xv rv : Int32} (k9 : Nat) (hk9 : plc Z xv = k9) {av : Int32} : Ok g X l yy_Mo_move cc_Mo_move 5 none 1 22 0 0 [.ref mo, .int xv, .int rv, .int av] M (fun v M' => rx RI9 RA mo M M' ∧ (((k9 < Z.1.length ∧ rok rv ∧ rok av) ∧ v = none ∧ ri M' mo 0 = 0 ∧ MI pw D ow sl M' mo pl (zreg Z k9 rv.toNatClampNeg (zrg Z k9 av))) ∨ (¬ (k9 < Z.1.length ∧ rok rv ∧ rok av) ∧ v = none ∧ ri M' mo 0 = 1 ∧ MI pw D ow sl M' mo pl Z))) := by
  refine ok_start (by decide) (Nat.le_of_ble_eq_true rfl) (by simp [Value.category]) ?_
  intro p e s m args below meth c9 x
  have R := h.1
  have hnm := znm hZ hlat
  have h8z := hZ.2.1
  by_cases hk : k9 < Z.1.length
  · have hp8 : pl.getD k9 0 < 8 := h.2.2.1.2.2 _ (getD_memN (by have := h.2.2.1.1; omega))
    by_cases hr : rok rv
    · by_cases ha : rok av
      · have hho := zho hZ hml
        obtain ⟨⟨a1, a2, a3⟩, a4, ⟨a5, a6⟩, a7, a8⟩ := h.2.2.2.1 k9 hk
        have kk := hZ.1 _ (zget_mem hk)
        have h600 := kk.2.1.1
        have hml9 := hml _ (zget_mem hk)
        have hcp : (nI (pl.getD k9 0)).toNatClampNeg = pl.getD k9 0 := nI_clamp (by omega)
        obtain ⟨-, hj_j9, ej_j9⟩ := rok_in hr
        have gj_j9 := a4 rv.toNatClampNeg hj_j9
        generalize hq_j9 : rv.toNatClampNeg = j9 at *
        obtain ⟨-, hja, eja⟩ := rok_in ha
        have gja := a4 av.toNatClampNeg hja
        generalize hqa : av.toNatClampNeg = ja at *
        refine vv_aload_n (pc := 0) x dd_Mo_move_0 rfl ?_
        refine vv_iload_n (pc := 1) x dd_Mo_move_1 rfl ?_
        refine lv_Mo_120 (pc := 2) G x dd_Mo_move_2 (R_place G h hZ.2.2.1 hnm k9 hk9) R.2.2 ⟨by decide, by decide⟩ (by decide) (by decide) (Nat.le_of_ble_eq_true rfl) (fun v2 M2 q2 => ?_)
        obtain ⟨rfl, hm2⟩ := q2
        have hm2 := hm2.symm
        subst hm2
        rw [show (if k9 < Z.1.length then nI (pl.getD k9 0) else (-1 : Int32)) = nI (pl.getD k9 0) from if_pos hk]
        refine vv_istore (pc := 5) x dd_Mo_move_5 (by decide) (ls2 := [_, _, _, _, _]) rfl ?_
        refine vv_aload_n (pc := 7) x dd_Mo_move_7 rfl ?_
        refine vv_iload (pc := 8) x dd_Mo_move_8 rfl ?_
        refine vv_if_lt (pc := 10) x dd_Mo_move_10 (tgt := 29) (by decide) (fun h10 => absurd h10 (nI_pos (by omega))) (fun h10 => ?_)
        refine vv_aload_n (pc := 13) x dd_Mo_move_13 rfl ?_
        refine vv_iload_n (pc := 14) x dd_Mo_move_14 rfl ?_
        refine lv_Mo_123 (pc := 15) G x dd_Mo_move_15 (k_rnoReg G) R.2.2 ⟨by decide, by decide⟩ (by decide) (by decide) (Nat.le_of_ble_eq_true rfl) (fun v15 M15 q15 => ?_)
        obtain ⟨rfl, hm15⟩ := q15
        have hm15 := hm15.symm
        subst hm15
        rw [show (if ¬ rv < 0 ∧ rv < 4 then (0 : Int32) else 1) = 0 from if_pos hr]
        refine vv_if_ne (pc := 18) x dd_Mo_move_18 (tgt := 29) (by decide) (fun h18 => absurd h18 (fun z => z rfl)) (fun h18 => ?_)
        refine vv_aload_n (pc := 21) x dd_Mo_move_21 rfl ?_
        refine vv_iload_n (pc := 22) x dd_Mo_move_22 rfl ?_
        refine lv_Mo_123 (pc := 23) G x dd_Mo_move_23 (k_rnoReg G) R.2.2 ⟨by decide, by decide⟩ (by decide) (by decide) (Nat.le_of_ble_eq_true rfl) (fun v23 M23 q23 => ?_)
        obtain ⟨rfl, hm23⟩ := q23
        have hm23 := hm23.symm
        subst hm23
        rw [show (if ¬ av < 0 ∧ av < 4 then (0 : Int32) else 1) = 0 from if_pos ha]
        refine vv_if_eq (pc := 26) x dd_Mo_move_26 (tgt := 33) (by decide) (fun h26 => ?_) (fun h26 => absurd h26 (fun z => z rfl))
        refine vv_iconst (pc := 33) x dd_Mo_move_33 (0) (by decide) ?_
        refine lp_Mo_62 (pc := 34) G x dd_Mo_move_34 R.2.2 ?_
        have F_N0 : rx RI9 RA mo M (mi M mo 0 0) := rx_mi.mono (by decide) (by simp)
        have t_N0 : ri (mi M mo 0 0) mo 0 = 0 := ri_mi
        have h_N0 : MI pw D ow sl (mi M mo 0 0) mo pl Z := MI_scr h (rx_mi.mono (by decide) (by simp))
        rw [show mm_si M 7 0 mo 0 = mi M mo 0 0 from rfl]
        generalize mi M mo 0 0 = N0 at *
        have R_N0 := h_N0.1
        refine vv_aload_n (pc := 37) x dd_Mo_move_37 rfl ?_
        refine lg_Mo_62 (pc := 38) G x dd_Mo_move_38 R_N0.2.2 ?_
        rw [show mm_i N0 7 0 mo = 0 from t_N0]
        refine vv_if_ne (pc := 41) x dd_Mo_move_41 (tgt := 66) (by decide) (fun h41 => absurd h41 (fun z => z rfl)) (fun h41 => ?_)
        refine vv_aload_n (pc := 44) x dd_Mo_move_44 rfl ?_
        refine lg_Mo_19 (pc := 45) G x dd_Mo_move_45 R_N0.2.2 (R_N0.r 8 (by decide)) ?_
        refine vv_iconst (pc := 48) x dd_Mo_move_48 (4) (by decide) ?_
        refine vv_iload (pc := 49) x dd_Mo_move_49 rfl ?_
        refine vv_imul (pc := 51) x dd_Mo_move_51 ?_
        refine vv_iload_n (pc := 52) x dd_Mo_move_52 rfl ?_
        refine vv_iadd (pc := 53) x dd_Mo_move_53 ?_
        rw [show (4 : Int32) * nI (pl.getD k9 0) + rv = nI (4 * pl.getD k9 0 + j9) from by rw [ej_j9]; exact ix4]
        refine vv_aload_n (pc := 54) x dd_Mo_move_54 rfl ?_
        refine lg_Mo_19 (pc := 55) G x dd_Mo_move_55 R_N0.2.2 (R_N0.r 8 (by decide)) ?_
        refine vv_iconst (pc := 58) x dd_Mo_move_58 (4) (by decide) ?_
        refine vv_iload (pc := 59) x dd_Mo_move_59 rfl ?_
        refine vv_imul (pc := 61) x dd_Mo_move_61 ?_
        refine vv_iload_n (pc := 62) x dd_Mo_move_62 rfl ?_
        refine vv_iadd (pc := 63) x dd_Mo_move_63 ?_
        rw [show (4 : Int32) * nI (pl.getD k9 0) + av = nI (4 * pl.getD k9 0 + ja) from by rw [eja]; exact ix4]
        refine vv_iald (pc := 64) x dd_Mo_move_64 (R_N0.t 8 (by decide)) (in_n (N := 32) (by omega) (R_N0.n 8 (by decide)) (by decide)) ?_
        rw [nI_clamp (n := 4 * pl.getD k9 0 + ja) (by omega), show mm_a N0 (mm_f N0 7 8 mo) (4 * pl.getD k9 0 + ja) = zrg Z k9 av from by unfold zrg; rw [hqa]; exact (h_N0.2.2.2.1 k9 hk).2.1 ja hja]
        refine vv_iast (pc := 65) x dd_Mo_move_65 (R_N0.t 8 (by decide)) (in_n (N := 32) (by omega) (R_N0.n 8 (by decide)) (by decide)) ?_
        rw [nI_clamp (n := 4 * pl.getD k9 0 + j9) (by omega)]
        exact vv_vret (pc := 66) x dd_Mo_move_66 rfl (by decide) (by decide) ⟨F_N0.trans (rx_mw.mono (by simp) (by decide)), Or.inl ⟨⟨hk, hr, ha⟩, rfl, t_N0, MI_reg h_N0 hho hk hj_j9 kk.1⟩⟩
      · refine vv_aload_n (pc := 0) x dd_Mo_move_0 rfl ?_
        refine vv_iload_n (pc := 1) x dd_Mo_move_1 rfl ?_
        refine lv_Mo_120 (pc := 2) G x dd_Mo_move_2 (R_place G h hZ.2.2.1 hnm k9 hk9) R.2.2 ⟨by decide, by decide⟩ (by decide) (by decide) (Nat.le_of_ble_eq_true rfl) (fun v2 M2 q2 => ?_)
        obtain ⟨rfl, hm2⟩ := q2
        have hm2 := hm2.symm
        subst hm2
        rw [show (if k9 < Z.1.length then nI (pl.getD k9 0) else (-1 : Int32)) = nI (pl.getD k9 0) from if_pos hk]
        refine vv_istore (pc := 5) x dd_Mo_move_5 (by decide) (ls2 := [_, _, _, _, _]) rfl ?_
        refine vv_aload_n (pc := 7) x dd_Mo_move_7 rfl ?_
        refine vv_iload (pc := 8) x dd_Mo_move_8 rfl ?_
        refine vv_if_lt (pc := 10) x dd_Mo_move_10 (tgt := 29) (by decide) (fun h10 => absurd h10 (nI_pos (by omega))) (fun h10 => ?_)
        refine vv_aload_n (pc := 13) x dd_Mo_move_13 rfl ?_
        refine vv_iload_n (pc := 14) x dd_Mo_move_14 rfl ?_
        refine lv_Mo_123 (pc := 15) G x dd_Mo_move_15 (k_rnoReg G) R.2.2 ⟨by decide, by decide⟩ (by decide) (by decide) (Nat.le_of_ble_eq_true rfl) (fun v15 M15 q15 => ?_)
        obtain ⟨rfl, hm15⟩ := q15
        have hm15 := hm15.symm
        subst hm15
        rw [show (if ¬ rv < 0 ∧ rv < 4 then (0 : Int32) else 1) = 0 from if_pos hr]
        refine vv_if_ne (pc := 18) x dd_Mo_move_18 (tgt := 29) (by decide) (fun h18 => absurd h18 (fun z => z rfl)) (fun h18 => ?_)
        refine vv_aload_n (pc := 21) x dd_Mo_move_21 rfl ?_
        refine vv_iload_n (pc := 22) x dd_Mo_move_22 rfl ?_
        refine lv_Mo_123 (pc := 23) G x dd_Mo_move_23 (k_rnoReg G) R.2.2 ⟨by decide, by decide⟩ (by decide) (by decide) (Nat.le_of_ble_eq_true rfl) (fun v23 M23 q23 => ?_)
        obtain ⟨rfl, hm23⟩ := q23
        have hm23 := hm23.symm
        subst hm23
        rw [show (if ¬ av < 0 ∧ av < 4 then (0 : Int32) else 1) = 1 from if_neg ha]
        refine vv_if_eq (pc := 26) x dd_Mo_move_26 (tgt := 33) (by decide) (fun h26 => absurd h26 (by decide)) (fun h26 => ?_)
        refine vv_iconst (pc := 29) x dd_Mo_move_29 (1) (by decide) ?_
        refine vv_goto (pc := 30) x dd_Mo_move_30 (tgt := 34) (by decide) ?_
        refine lp_Mo_62 (pc := 34) G x dd_Mo_move_34 R.2.2 ?_
        have F_N0 : rx RI9 RA mo M (mi M mo 0 1) := rx_mi.mono (by decide) (by simp)
        have t_N0 : ri (mi M mo 0 1) mo 0 = 1 := ri_mi
        have h_N0 : MI pw D ow sl (mi M mo 0 1) mo pl Z := MI_scr h (rx_mi.mono (by decide) (by simp))
        rw [show mm_si M 7 0 mo 1 = mi M mo 0 1 from rfl]
        generalize mi M mo 0 1 = N0 at *
        have R_N0 := h_N0.1
        refine vv_aload_n (pc := 37) x dd_Mo_move_37 rfl ?_
        refine lg_Mo_62 (pc := 38) G x dd_Mo_move_38 R_N0.2.2 ?_
        rw [show mm_i N0 7 0 mo = 1 from t_N0]
        refine vv_if_ne (pc := 41) x dd_Mo_move_41 (tgt := 66) (by decide) (fun h41 => ?_) (fun h41 => absurd h41 (by decide))
        exact vv_vret (pc := 66) x dd_Mo_move_66 rfl (by decide) (by decide) ⟨F_N0, Or.inr ⟨(fun z => by first | exact hk z.1 | exact hr z.2.1 | exact ha z.2.2), rfl, t_N0, h_N0⟩⟩
    · refine vv_aload_n (pc := 0) x dd_Mo_move_0 rfl ?_
      refine vv_iload_n (pc := 1) x dd_Mo_move_1 rfl ?_
      refine lv_Mo_120 (pc := 2) G x dd_Mo_move_2 (R_place G h hZ.2.2.1 hnm k9 hk9) R.2.2 ⟨by decide, by decide⟩ (by decide) (by decide) (Nat.le_of_ble_eq_true rfl) (fun v2 M2 q2 => ?_)
      obtain ⟨rfl, hm2⟩ := q2
      have hm2 := hm2.symm
      subst hm2
      rw [show (if k9 < Z.1.length then nI (pl.getD k9 0) else (-1 : Int32)) = nI (pl.getD k9 0) from if_pos hk]
      refine vv_istore (pc := 5) x dd_Mo_move_5 (by decide) (ls2 := [_, _, _, _, _]) rfl ?_
      refine vv_aload_n (pc := 7) x dd_Mo_move_7 rfl ?_
      refine vv_iload (pc := 8) x dd_Mo_move_8 rfl ?_
      refine vv_if_lt (pc := 10) x dd_Mo_move_10 (tgt := 29) (by decide) (fun h10 => absurd h10 (nI_pos (by omega))) (fun h10 => ?_)
      refine vv_aload_n (pc := 13) x dd_Mo_move_13 rfl ?_
      refine vv_iload_n (pc := 14) x dd_Mo_move_14 rfl ?_
      refine lv_Mo_123 (pc := 15) G x dd_Mo_move_15 (k_rnoReg G) R.2.2 ⟨by decide, by decide⟩ (by decide) (by decide) (Nat.le_of_ble_eq_true rfl) (fun v15 M15 q15 => ?_)
      obtain ⟨rfl, hm15⟩ := q15
      have hm15 := hm15.symm
      subst hm15
      rw [show (if ¬ rv < 0 ∧ rv < 4 then (0 : Int32) else 1) = 1 from if_neg hr]
      refine vv_if_ne (pc := 18) x dd_Mo_move_18 (tgt := 29) (by decide) (fun h18 => ?_) (fun h18 => absurd h18 (by decide))
      refine vv_iconst (pc := 29) x dd_Mo_move_29 (1) (by decide) ?_
      refine vv_goto (pc := 30) x dd_Mo_move_30 (tgt := 34) (by decide) ?_
      refine lp_Mo_62 (pc := 34) G x dd_Mo_move_34 R.2.2 ?_
      have F_N0 : rx RI9 RA mo M (mi M mo 0 1) := rx_mi.mono (by decide) (by simp)
      have t_N0 : ri (mi M mo 0 1) mo 0 = 1 := ri_mi
      have h_N0 : MI pw D ow sl (mi M mo 0 1) mo pl Z := MI_scr h (rx_mi.mono (by decide) (by simp))
      rw [show mm_si M 7 0 mo 1 = mi M mo 0 1 from rfl]
      generalize mi M mo 0 1 = N0 at *
      have R_N0 := h_N0.1
      refine vv_aload_n (pc := 37) x dd_Mo_move_37 rfl ?_
      refine lg_Mo_62 (pc := 38) G x dd_Mo_move_38 R_N0.2.2 ?_
      rw [show mm_i N0 7 0 mo = 1 from t_N0]
      refine vv_if_ne (pc := 41) x dd_Mo_move_41 (tgt := 66) (by decide) (fun h41 => ?_) (fun h41 => absurd h41 (by decide))
      exact vv_vret (pc := 66) x dd_Mo_move_66 rfl (by decide) (by decide) ⟨F_N0, Or.inr ⟨(fun z => by first | exact hk z.1 | exact hr z.2.1 | exact ha z.2.2), rfl, t_N0, h_N0⟩⟩
  · refine vv_aload_n (pc := 0) x dd_Mo_move_0 rfl ?_
    refine vv_iload_n (pc := 1) x dd_Mo_move_1 rfl ?_
    refine lv_Mo_120 (pc := 2) G x dd_Mo_move_2 (R_place G h hZ.2.2.1 hnm k9 hk9) R.2.2 ⟨by decide, by decide⟩ (by decide) (by decide) (Nat.le_of_ble_eq_true rfl) (fun v2 M2 q2 => ?_)
    obtain ⟨rfl, hm2⟩ := q2
    have hm2 := hm2.symm
    subst hm2
    rw [show (if k9 < Z.1.length then nI (pl.getD k9 0) else (-1 : Int32)) = -1 from if_neg hk]
    refine vv_istore (pc := 5) x dd_Mo_move_5 (by decide) (ls2 := [_, _, _, _, _]) rfl ?_
    refine vv_aload_n (pc := 7) x dd_Mo_move_7 rfl ?_
    refine vv_iload (pc := 8) x dd_Mo_move_8 rfl ?_
    refine vv_if_lt (pc := 10) x dd_Mo_move_10 (tgt := 29) (by decide) (fun h10 => ?_) (fun h10 => absurd h10 (fun z => z (by decide)))
    refine vv_iconst (pc := 29) x dd_Mo_move_29 (1) (by decide) ?_
    refine vv_goto (pc := 30) x dd_Mo_move_30 (tgt := 34) (by decide) ?_
    refine lp_Mo_62 (pc := 34) G x dd_Mo_move_34 R.2.2 ?_
    have F_N0 : rx RI9 RA mo M (mi M mo 0 1) := rx_mi.mono (by decide) (by simp)
    have t_N0 : ri (mi M mo 0 1) mo 0 = 1 := ri_mi
    have h_N0 : MI pw D ow sl (mi M mo 0 1) mo pl Z := MI_scr h (rx_mi.mono (by decide) (by simp))
    rw [show mm_si M 7 0 mo 1 = mi M mo 0 1 from rfl]
    generalize mi M mo 0 1 = N0 at *
    have R_N0 := h_N0.1
    refine vv_aload_n (pc := 37) x dd_Mo_move_37 rfl ?_
    refine lg_Mo_62 (pc := 38) G x dd_Mo_move_38 R_N0.2.2 ?_
    rw [show mm_i N0 7 0 mo = 1 from t_N0]
    refine vv_if_ne (pc := 41) x dd_Mo_move_41 (tgt := 66) (by decide) (fun h41 => ?_) (fun h41 => absurd h41 (by decide))
    exact vv_vret (pc := 66) x dd_Mo_move_66 rfl (by decide) (by decide) ⟨F_N0, Or.inr ⟨(fun z => by first | exact hk z.1 | exact hr z.2.1 | exact ha z.2.2), rfl, t_N0, h_N0⟩⟩
end M54
