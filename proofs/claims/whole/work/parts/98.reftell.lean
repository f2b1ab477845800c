/-! ===== the reference: what tells ===== -/
section M55
variable {g : gg} {X : State → Prop} {t0 : Nat} {l : Launch} {M : mm} {M1 M2 : mm} {pw : Nat} {D : Nat → Prop} {ow sl : Nat → Nat} {mo : Nat} {Ki Ka : List Nat} {k : Nat} {pl : List Nat} {Z : zst} {B : List bk}
theorem R_pcv (G : gc g X t0 l) (R : rs pw D ow sl M mo) (H : hok B) {p9 : Nat} (hp9 : p9 < 8) (hw : wv B (fun a => ra M mo 11 (600 * p9 + a))) {t : Int32} (hv : vt B t) : Ok g X l yy_Mo_partsOf cc_Mo_partsOf 3 (some .int) 1 21 0 0 [.ref mo, .int (nI p9), .int t] M (fun v M' => v = some (.int (nI (pts B t).length)) ∧ M' = M) := by
  rcases hv with h1 | ⟨i, hi, rfl⟩
  · refine (k_rparts_lo G h1 R.2.2).mono ?_
    rintro v M' ⟨rfl, rfl⟩
    rw [pts_lo H h1]
    exact ⟨rfl, rfl⟩
  · unfold pts
    rw [hbt_at H hi]
    exact k_rparts G R H hp9 hw hi
theorem R_pov (G : gc g X t0 l) (R : rs pw D ow sl M mo) (H : hok B) {p9 : Nat} (hp9 : p9 < 8) (hw : wv B (fun a => ra M mo 11 (600 * p9 + a))) {t : Int32} (hv : vt B t) {k9 : Nat} (hk : k9 < (pts B t).length) : Ok g X l yy_Mo_partOf cc_Mo_partOf 4 (some .int) 1 21 0 0 [.ref mo, .int (nI p9), .int t, .int (nI k9)] M (fun v M' => v = some (.int ((pts B t).getD k9 0)) ∧ M' = M) := by
  rcases hv with h1 | ⟨i, hi, rfl⟩
  · rw [pts_lo H h1] at hk
    simp at hk
  · unfold pts at hk ⊢
    rw [hbt_at H hi] at hk ⊢
    have e : (bpt (hb B i)).getD k9 0 = (hb B i).2.getD k9 0 := by
      unfold bpt at hk ⊢
      by_cases h5 : (hb B i).1 = 5
      · rw [if_pos h5] at hk
        simp at hk
      · rw [if_neg h5]
    rw [e]
    exact k_rpart G R H hp9 hw hi hk
theorem bow (H : hok B) {W : Nat → Int32} (hw : wv B W) {t : Int32} (hv : vt B t) (h5 : kd t = 5) : ∃ a, a < 600 ∧ t >>> ((3 : Int32) &&& 31) = nI a ∧ W a = (hbt B t).2.getD 0 0 := by
  rcases hv with h1 | ⟨i, hi, rfl⟩
  · omega
  · have hb9 := hok_bnd H hi
    have bp := bsz_pos (hb B i)
    rw [hok_kd H hi] at h5
    refine ⟨had B i, by omega, hok_shr H hi, ?_⟩
    rw [hbt_at H hi]
    have h9 := hw i hi 0 bp (fun z => absurd z.2 (by decide))
    rw [Nat.add_zero] at h9
    rw [h9]
    unfold bwd
    rw [if_neg (by omega)]
set_option maxRecDepth 100000 in
set_option maxHeartbeats 1000000 in
theorem R_kind (G : gc g X t0 l) (h : MI pw D ow sl M mo pl Z) (hZ : zok pw Z) (hp6 : pw ≤ 600) (hlat : Z.2.2.1 < 2 ^ 31) (hml : ∀ P ∈ Z.1, P.2.2.2.1.length ≤ 512) {xv rv : Int32} (k9 : Nat) (hk9 : plc Z xv = k9) : Ok g X l yy_Mo_kind cc_Mo_kind 3 (some .int) 2 45 0 0 [.ref mo, .int xv, .int rv] M (fun v M' => rx RI9 RA mo M M' ∧ (((k9 < Z.1.length ∧ rok rv) ∧ v = some (.int (zrg Z k9 rv &&& 7)) ∧ ri M' mo 0 = 0 ∧ MI pw D ow sl M' mo pl Z) ∨ (¬ (k9 < Z.1.length ∧ rok rv) ∧ (∃ z, v = some (.int z)) ∧ ri M' mo 0 = 1 ∧ MI pw D ow sl M' mo pl Z))) := by
  refine ok_start (by decide) (Nat.le_of_ble_eq_true rfl) (by simp [Value.category]) ?_
  intro p e s m args below meth c9 x
  have R := h.1
  have hnm := znm hZ hlat
  have h8z := hZ.2.1
  by_cases hC : k9 < Z.1.length ∧ rok rv
  · obtain ⟨hk, hr⟩ := id hC
    have hp8 : pl.getD k9 0 < 8 := h.2.2.1.2.2 _ (getD_memN (by have := h.2.2.1.1; omega))
    have kk := hZ.1 _ (zget_mem hk)
    have hvt := zrg_vt hZ hk hr
    refine vv_aload_n (pc := 0) x dd_Mo_kind_0 rfl ?_
    refine vv_aload_n (pc := 1) x dd_Mo_kind_1 rfl ?_
    refine vv_iload_n (pc := 2) x dd_Mo_kind_2 rfl ?_
    refine vv_iload_n (pc := 3) x dd_Mo_kind_3 rfl ?_
    refine lv_Mo_145 (pc := 4) G x dd_Mo_kind_4 (R_termOf G h hZ hp6 hlat hml k9 hk9) R.2.2 ⟨by decide, by decide⟩ (by decide) (by decide) (Nat.le_of_ble_eq_true rfl) (fun v4 M4 q4 => ?_)
    obtain ⟨F1, hq1⟩ := q4
    obtain ⟨-, rfl, t1, h1⟩ := hq1.resolve_right (fun z => z.1 hC)
    have R1 := h1.1
    have G1 := F1.mono (Ki2 := RI9) (Ka2 := RA) (by decide) (by simp)
    refine lv_Mo_68 (pc := 7) G x dd_Mo_kind_7 (k_rkind G) R1.2.2 ⟨by decide, by decide⟩ (by decide) (by decide) (Nat.le_of_ble_eq_true rfl) (fun v7 M7 q7 => ?_)
    obtain ⟨rfl, hm7⟩ := q7
    have hm7 := hm7.symm
    subst hm7
    exact vv_iret (pc := 10) x dd_Mo_kind_10 rfl (by decide) (by decide) ⟨G1, Or.inl ⟨hC, rfl, t1, h1⟩⟩
  · refine vv_aload_n (pc := 0) x dd_Mo_kind_0 rfl ?_
    refine vv_aload_n (pc := 1) x dd_Mo_kind_1 rfl ?_
    refine vv_iload_n (pc := 2) x dd_Mo_kind_2 rfl ?_
    refine vv_iload_n (pc := 3) x dd_Mo_kind_3 rfl ?_
    refine lv_Mo_145 (pc := 4) G x dd_Mo_kind_4 (R_termOf G h hZ hp6 hlat hml k9 hk9) R.2.2 ⟨by decide, by decide⟩ (by decide) (by decide) (Nat.le_of_ble_eq_true rfl) (fun v4 M4 q4 => ?_)
    obtain ⟨F1, hq1⟩ := q4
    obtain ⟨-, rfl, t1, h1⟩ := hq1.resolve_left (fun z => hC z.1)
    have R1 := h1.1
    have G1 := F1.mono (Ki2 := RI9) (Ka2 := RA) (by decide) (by simp)
    refine lv_Mo_68 (pc := 7) G x dd_Mo_kind_7 (k_rkind G) R1.2.2 ⟨by decide, by decide⟩ (by decide) (by decide) (Nat.le_of_ble_eq_true rfl) (fun v7 M7 q7 => ?_)
    obtain ⟨rfl, hm7⟩ := q7
    have hm7 := hm7.symm
    subst hm7
    exact vv_iret (pc := 10) x dd_Mo_kind_10 rfl (by decide) (by decide) ⟨G1, Or.inr ⟨hC, ⟨_, rfl⟩, t1, h1⟩⟩
set_option maxRecDepth 100000 in
set_option maxHeartbeats 1000000 in
theorem R_address (G : gc g X t0 l) (h : MI pw D ow sl M mo pl Z) (hZ : zok pw Z) (hp6 : pw ≤ 600) (hlat : Z.2.2.1 < 2 ^ 31) (hml : ∀ P ∈ Z.1, P.2.2.2.1.length ≤ 512) {xv rv : Int32} (k9 : Nat) (hk9 : plc Z xv = k9) : Ok g X l yy_Mo_address cc_Mo_address 4 (some .int) 2 45 0 0 [.ref mo, .int xv, .int rv] M (fun v M' => rx RI9 RA mo M M' ∧ (((k9 < Z.1.length ∧ rok rv) ∧ v = some (.int (if kd (zrg Z k9 rv) ≤ 2 then -1 else zrg Z k9 rv >>> ((3 : Int32) &&& 31))) ∧ ri M' mo 0 = 0 ∧ MI pw D ow sl M' mo pl Z) ∨ (¬ (k9 < Z.1.length ∧ rok rv) ∧ (∃ z, v = some (.int z)) ∧ ri M' mo 0 = 1 ∧ MI pw D ow sl M' mo pl Z))) := by
  refine ok_start (by decide) (Nat.le_of_ble_eq_true rfl) (by simp [Value.category]) ?_
  intro p e s m args below meth c9 x
  have R := h.1
  have hnm := znm hZ hlat
  have h8z := hZ.2.1
  by_cases hC : k9 < Z.1.length ∧ rok rv
  · obtain ⟨hk, hr⟩ := id hC
    have hp8 : pl.getD k9 0 < 8 := h.2.2.1.2.2 _ (getD_memN (by have := h.2.2.1.1; omega))
    have kk := hZ.1 _ (zget_mem hk)
    have hvt := zrg_vt hZ hk hr
    refine vv_aload_n (pc := 0) x dd_Mo_address_0 rfl ?_
    refine vv_iload_n (pc := 1) x dd_Mo_address_1 rfl ?_
    refine vv_iload_n (pc := 2) x dd_Mo_address_2 rfl ?_
    refine lv_Mo_145 (pc := 3) G x dd_Mo_address_3 (R_termOf G h hZ hp6 hlat hml k9 hk9) R.2.2 ⟨by decide, by decide⟩ (by decide) (by decide) (Nat.le_of_ble_eq_true rfl) (fun v3 M3 q3 => ?_)
    obtain ⟨F1, hq1⟩ := q3
    obtain ⟨-, rfl, t1, h1⟩ := hq1.resolve_right (fun z => z.1 hC)
    have R1 := h1.1
    have G1 := F1.mono (Ki2 := RI9) (Ka2 := RA) (by decide) (by simp)
    refine vv_istore_n (pc := 6) x dd_Mo_address_6 (by decide) (ls2 := [_, _, _, _]) rfl ?_
    refine vv_aload_n (pc := 7) x dd_Mo_address_7 rfl ?_
    refine lg_Mo_62 (pc := 8) G x dd_Mo_address_8 R1.2.2 ?_
    rw [show mm_i M3 7 0 mo = 0 from t1]
    refine vv_if_eq (pc := 11) x dd_Mo_address_11 (tgt := 18) (by decide) (fun h11 => ?_) (fun h11 => absurd h11 (fun z => z rfl))
    refine vv_aload_n (pc := 18) x dd_Mo_address_18 rfl ?_
    refine vv_iload_n (pc := 19) x dd_Mo_address_19 rfl ?_
    refine lv_Mo_82 (pc := 20) G x dd_Mo_address_20 (k_risHeaped G) R1.2.2 ⟨by decide, by decide⟩ (by decide) (by decide) (Nat.le_of_ble_eq_true rfl) (fun v20 M20 q20 => ?_)
    obtain ⟨rfl, hm20⟩ := q20
    have hm20 := hm20.symm
    subst hm20
    refine vv_if_eq (pc := 23) x dd_Mo_address_23 (tgt := 34) (by decide) (fun h23 => ?_) (fun h23 => ?_)
    · refine vv_iconst (pc := 34) x dd_Mo_address_34 (-1) (by decide) ?_
      exact vv_iret (pc := 35) x dd_Mo_address_35 rfl (by decide) (by decide) ⟨G1, Or.inl ⟨hC, by rw [if_pos (Classical.byContradiction (fun z => by rw [if_neg z] at h23; exact absurd h23 (by decide)))], t1, h1⟩⟩
    · refine vv_aload_n (pc := 26) x dd_Mo_address_26 rfl ?_
      refine vv_iload_n (pc := 27) x dd_Mo_address_27 rfl ?_
      refine lv_Mo_72 (pc := 28) G x dd_Mo_address_28 (k_rat G) R1.2.2 ⟨by decide, by decide⟩ (by decide) (by decide) (Nat.le_of_ble_eq_true rfl) (fun v28 M28 q28 => ?_)
      obtain ⟨rfl, hm28⟩ := q28
      have hm28 := hm28.symm
      subst hm28
      refine vv_goto (pc := 31) x dd_Mo_address_31 (tgt := 35) (by decide) ?_
      exact vv_iret (pc := 35) x dd_Mo_address_35 rfl (by decide) (by decide) ⟨G1, Or.inl ⟨hC, by rw [if_neg (fun z => by rw [if_pos z] at h23; exact h23 rfl)], t1, h1⟩⟩
  · refine vv_aload_n (pc := 0) x dd_Mo_address_0 rfl ?_
    refine vv_iload_n (pc := 1) x dd_Mo_address_1 rfl ?_
    refine vv_iload_n (pc := 2) x dd_Mo_address_2 rfl ?_
    refine lv_Mo_145 (pc := 3) G x dd_Mo_address_3 (R_termOf G h hZ hp6 hlat hml k9 hk9) R.2.2 ⟨by decide, by decide⟩ (by decide) (by decide) (Nat.le_of_ble_eq_true rfl) (fun v3 M3 q3 => ?_)
    obtain ⟨F1, hq1⟩ := q3
    obtain ⟨-, rfl, t1, h1⟩ := hq1.resolve_left (fun z => hC z.1)
    have R1 := h1.1
    have G1 := F1.mono (Ki2 := RI9) (Ka2 := RA) (by decide) (by simp)
    refine vv_istore_n (pc := 6) x dd_Mo_address_6 (by decide) (ls2 := [_, _, _, _]) rfl ?_
    refine vv_aload_n (pc := 7) x dd_Mo_address_7 rfl ?_
    refine lg_Mo_62 (pc := 8) G x dd_Mo_address_8 R1.2.2 ?_
    rw [show mm_i M3 7 0 mo = 1 from t1]
    refine vv_if_eq (pc := 11) x dd_Mo_address_11 (tgt := 18) (by decide) (fun h11 => absurd h11 (by decide)) (fun h11 => ?_)
    refine vv_iconst (pc := 14) x dd_Mo_address_14 (0) (by decide) ?_
    refine vv_goto (pc := 15) x dd_Mo_address_15 (tgt := 35) (by decide) ?_
    exact vv_iret (pc := 35) x dd_Mo_address_35 rfl (by decide) (by decide) ⟨G1, Or.inr ⟨hC, ⟨_, rfl⟩, t1, h1⟩⟩
set_option maxRecDepth 100000 in
set_option maxHeartbeats 1000000 in
theorem R_words (G : gc g X t0 l) (h : MI pw D ow sl M mo pl Z) (hZ : zok pw Z) (hp6 : pw ≤ 600) (hlat : Z.2.2.1 < 2 ^ 31) (hml : ∀ P ∈ Z.1, P.2.2.2.1.length ≤ 512) {xv rv : Int32} (k9 : Nat) (hk9 : plc Z xv = k9) : Ok g X l yy_Mo_words cc_Mo_words 4 (some .int) 6 140 0 0 [.ref mo, .int xv, .int rv] M (fun v M' => rx RI9 RA mo M M' ∧ (((k9 < Z.1.length ∧ rok rv) ∧ v = some (.int (nI (hsz (qB (zget Z k9).2.2.2.2 (led (zget Z k9).2.2.2.2 (zrg Z k9 rv)))))) ∧ ri M' mo 0 = 0 ∧ MI pw D ow sl M' mo pl Z) ∨ (¬ (k9 < Z.1.length ∧ rok rv) ∧ (∃ z, v = some (.int z)) ∧ ri M' mo 0 = 1 ∧ MI pw D ow sl M' mo pl Z))) := by
  refine ok_start (by decide) (Nat.le_of_ble_eq_true rfl) (by simp [Value.category]) ?_
  intro p e s m args below meth c9 x
  have R := h.1
  have hnm := znm hZ hlat
  have h8z := hZ.2.1
  by_cases hC : k9 < Z.1.length ∧ rok rv
  · obtain ⟨hk, hr⟩ := id hC
    have hp8 : pl.getD k9 0 < 8 := h.2.2.1.2.2 _ (getD_memN (by have := h.2.2.1.1; omega))
    have kk := hZ.1 _ (zget_mem hk)
    have hvt := zrg_vt hZ hk hr
    refine vv_aload_n (pc := 0) x dd_Mo_words_0 rfl ?_
    refine vv_iload_n (pc := 1) x dd_Mo_words_1 rfl ?_
    refine vv_iload_n (pc := 2) x dd_Mo_words_2 rfl ?_
    refine lv_Mo_145 (pc := 3) G x dd_Mo_words_3 (R_termOf G h hZ hp6 hlat hml k9 hk9) R.2.2 ⟨by decide, by decide⟩ (by decide) (by decide) (Nat.le_of_ble_eq_true rfl) (fun v3 M3 q3 => ?_)
    obtain ⟨F1, hq1⟩ := q3
    obtain ⟨-, rfl, t1, h1⟩ := hq1.resolve_right (fun z => z.1 hC)
    have R1 := h1.1
    have G1 := F1.mono (Ki2 := RI9) (Ka2 := RA) (by decide) (by simp)
    refine vv_istore_n (pc := 6) x dd_Mo_words_6 (by decide) (ls2 := [_, _, _, _]) rfl ?_
    refine vv_aload_n (pc := 7) x dd_Mo_words_7 rfl ?_
    refine lg_Mo_62 (pc := 8) G x dd_Mo_words_8 R1.2.2 ?_
    rw [show mm_i M3 7 0 mo = 0 from t1]
    refine vv_if_eq (pc := 11) x dd_Mo_words_11 (tgt := 18) (by decide) (fun h11 => ?_) (fun h11 => absurd h11 (fun z => z rfl))
    refine vv_aload_n (pc := 18) x dd_Mo_words_18 rfl ?_
    refine vv_aload_n (pc := 19) x dd_Mo_words_19 rfl ?_
    refine vv_iload_n (pc := 20) x dd_Mo_words_20 rfl ?_
    refine lv_Mo_120 (pc := 21) G x dd_Mo_words_21 (R_place G h1 hZ.2.2.1 hnm k9 hk9) R1.2.2 ⟨by decide, by decide⟩ (by decide) (by decide) (Nat.le_of_ble_eq_true rfl) (fun v21 M21 q21 => ?_)
    obtain ⟨rfl, hm21⟩ := q21
    have hm21 := hm21.symm
    subst hm21
    rw [show (if k9 < Z.1.length then nI (pl.getD k9 0) else (-1 : Int32)) = nI (pl.getD k9 0) from if_pos hk]
    refine vv_iload_n (pc := 24) x dd_Mo_words_24 rfl ?_
    refine lv_Mo_138 (pc := 25) G x dd_Mo_words_25 (R_reach G R1 kk.2.1 hp8 (h1.2.2.2.1 k9 hk).2.2.2.1 kk.2.2.2.2.2.1 hvt) R1.2.2 ⟨by decide, by decide⟩ (by decide) (by decide) (Nat.le_of_ble_eq_true rfl) (fun v25 M25 q25 => ?_)
    obtain ⟨rfl, F2⟩ := q25
    exact vv_iret (pc := 28) x dd_Mo_words_28 rfl (by decide) (by decide) ⟨G1.trans (F2.mono (by decide) (by decide)), Or.inl ⟨hC, rfl, (F2.i (by decide)).trans t1, MI_scr h1 (F2.mono (by decide) (by decide))⟩⟩
  · refine vv_aload_n (pc := 0) x dd_Mo_words_0 rfl ?_
    refine vv_iload_n (pc := 1) x dd_Mo_words_1 rfl ?_
    refine vv_iload_n (pc := 2) x dd_Mo_words_2 rfl ?_
    refine lv_Mo_145 (pc := 3) G x dd_Mo_words_3 (R_termOf G h hZ hp6 hlat hml k9 hk9) R.2.2 ⟨by decide, by decide⟩ (by decide) (by decide) (Nat.le_of_ble_eq_true rfl) (fun v3 M3 q3 => ?_)
    obtain ⟨F1, hq1⟩ := q3
    obtain ⟨-, rfl, t1, h1⟩ := hq1.resolve_left (fun z => hC z.1)
    have R1 := h1.1
    have G1 := F1.mono (Ki2 := RI9) (Ka2 := RA) (by decide) (by simp)
    refine vv_istore_n (pc := 6) x dd_Mo_words_6 (by decide) (ls2 := [_, _, _, _]) rfl ?_
    refine vv_aload_n (pc := 7) x dd_Mo_words_7 rfl ?_
    refine lg_Mo_62 (pc := 8) G x dd_Mo_words_8 R1.2.2 ?_
    rw [show mm_i M3 7 0 mo = 1 from t1]
    refine vv_if_eq (pc := 11) x dd_Mo_words_11 (tgt := 18) (by decide) (fun h11 => absurd h11 (by decide)) (fun h11 => ?_)
    refine vv_iconst (pc := 14) x dd_Mo_words_14 (0) (by decide) ?_
    refine vv_goto (pc := 15) x dd_Mo_words_15 (tgt := 28) (by decide) ?_
    exact vv_iret (pc := 28) x dd_Mo_words_28 rfl (by decide) (by decide) ⟨G1, Or.inr ⟨hC, ⟨_, rfl⟩, t1, h1⟩⟩
set_option maxRecDepth 100000 in
set_option maxHeartbeats 1000000 in
theorem R_handles (G : gc g X t0 l) (h : MI pw D ow sl M mo pl Z) (hZ : zok pw Z) (hp6 : pw ≤ 600) (hlat : Z.2.2.1 < 2 ^ 31) (hml : ∀ P ∈ Z.1, P.2.2.2.1.length ≤ 512) {xv rv : Int32} (k9 : Nat) (hk9 : plc Z xv = k9) : Ok g X l yy_Mo_handles cc_Mo_handles 4 (some .int) 2 45 0 0 [.ref mo, .int xv, .int rv] M (fun v M' => rx RI9 RA mo M M' ∧ (((k9 < Z.1.length ∧ rok rv) ∧ v = some (.int (if kd (zrg Z k9 rv) = 5 then nI (Z.2.1.2.2.2 ((hbt (zget Z k9).2.2.2.2 (zrg Z k9 rv)).2.getD 0 0).toNatClampNeg) else 0)) ∧ ri M' mo 0 = 0 ∧ MI pw D ow sl M' mo pl Z) ∨ (¬ (k9 < Z.1.length ∧ rok rv) ∧ (∃ z, v = some (.int z)) ∧ ri M' mo 0 = 1 ∧ MI pw D ow sl M' mo pl Z))) := by
  refine ok_start (by decide) (Nat.le_of_ble_eq_true rfl) (by simp [Value.category]) ?_
  intro p e s m args below meth c9 x
  have R := h.1
  have hnm := znm hZ hlat
  have h8z := hZ.2.1
  by_cases hC : k9 < Z.1.length ∧ rok rv
  · obtain ⟨hk, hr⟩ := id hC
    have hp8 : pl.getD k9 0 < 8 := h.2.2.1.2.2 _ (getD_memN (by have := h.2.2.1.1; omega))
    have kk := hZ.1 _ (zget_mem hk)
    have hvt := zrg_vt hZ hk hr
    by_cases h5 : kd (zrg Z k9 rv) = 5
    · obtain ⟨w9, hw9, ew9, -⟩ := blob_is hZ hk hvt h5
      obtain ⟨a9, ha9, ea9, hW9⟩ := bow kk.2.1 (h.2.2.2.1 k9 hk).2.2.2.1 hvt h5
      rw [ew9] at hW9
      have hcl9 : (nI w9).toNatClampNeg = w9 := nI_clamp (by omega)
      refine vv_aload_n (pc := 0) x dd_Mo_handles_0 rfl ?_
      refine vv_iload_n (pc := 1) x dd_Mo_handles_1 rfl ?_
      refine vv_iload_n (pc := 2) x dd_Mo_handles_2 rfl ?_
      refine lv_Mo_145 (pc := 3) G x dd_Mo_handles_3 (R_termOf G h hZ hp6 hlat hml k9 hk9) R.2.2 ⟨by decide, by decide⟩ (by decide) (by decide) (Nat.le_of_ble_eq_true rfl) (fun v3 M3 q3 => ?_)
      obtain ⟨F1, hq1⟩ := q3
      obtain ⟨-, rfl, t1, h1⟩ := hq1.resolve_right (fun z => z.1 hC)
      have R1 := h1.1
      have G1 := F1.mono (Ki2 := RI9) (Ka2 := RA) (by decide) (by simp)
      refine vv_istore_n (pc := 6) x dd_Mo_handles_6 (by decide) (ls2 := [_, _, _, _]) rfl ?_
      refine vv_aload_n (pc := 7) x dd_Mo_handles_7 rfl ?_
      refine vv_iload_n (pc := 8) x dd_Mo_handles_8 rfl ?_
      refine lv_Mo_68 (pc := 9) G x dd_Mo_handles_9 (k_rkind G) R1.2.2 ⟨by decide, by decide⟩ (by decide) (by decide) (Nat.le_of_ble_eq_true rfl) (fun v9 M9 q9 => ?_)
      obtain ⟨rfl, hm9⟩ := q9
      have hm9 := hm9.symm
      subst hm9
      rw [and7, show nI (kd (zrg Z k9 rv)) = nI 5 from by rw [h5]]
      have hW1 : mm_a M3 (mm_f M3 7 11 mo) (600 * pl.getD k9 0 + a9) = nI w9 := by
        show ra M3 mo 11 _ = _
        rw [F1.a R (by decide) (by simp) (by simp)]
        exact hW9
      refine vv_iconst (pc := 12) x dd_Mo_handles_12 (5) (by decide) ?_
      refine vv_icmp_ne (pc := 13) x dd_Mo_handles_13 (tgt := 44) (by decide) (fun h13 => absurd h13 (fun z => z rfl)) (fun h13 => ?_)
      refine vv_aload_n (pc := 16) x dd_Mo_handles_16 rfl ?_
      refine lg_Mo_37 (pc := 17) G x dd_Mo_handles_17 R1.2.2 (R1.r 15 (by decide)) ?_
      refine vv_aload_n (pc := 20) x dd_Mo_handles_20 rfl ?_
      refine lg_Mo_28 (pc := 21) G x dd_Mo_handles_21 R1.2.2 (R1.r 11 (by decide)) ?_
      refine vv_sipush (pc := 24) x dd_Mo_handles_24 (600) (by decide) ?_
      refine vv_aload_n (pc := 27) x dd_Mo_handles_27 rfl ?_
      refine vv_iload_n (pc := 28) x dd_Mo_handles_28 rfl ?_
      refine lv_Mo_120 (pc := 29) G x dd_Mo_handles_29 (R_place G h1 hZ.2.2.1 hnm k9 hk9) R1.2.2 ⟨by decide, by decide⟩ (by decide) (by decide) (Nat.le_of_ble_eq_true rfl) (fun v29 M29 q29 => ?_)
      obtain ⟨rfl, hm29⟩ := q29
      have hm29 := hm29.symm
      subst hm29
      rw [show (if k9 < Z.1.length then nI (pl.getD k9 0) else (-1 : Int32)) = nI (pl.getD k9 0) from if_pos hk]
      refine vv_imul (pc := 32) x dd_Mo_handles_32 ?_
      refine vv_aload_n (pc := 33) x dd_Mo_handles_33 rfl ?_
      refine vv_iload_n (pc := 34) x dd_Mo_handles_34 rfl ?_
      refine lv_Mo_72 (pc := 35) G x dd_Mo_handles_35 (k_rat G) R1.2.2 ⟨by decide, by decide⟩ (by decide) (by decide) (Nat.le_of_ble_eq_true rfl) (fun v35 M35 q35 => ?_)
      obtain ⟨rfl, hm35⟩ := q35
      have hm35 := hm35.symm
      subst hm35
      rw [ea9]
      refine vv_iadd (pc := 38) x dd_Mo_handles_38 ?_
      rw [ix600]
      refine vv_iald (pc := 39) x dd_Mo_handles_39 (R1.t 11 (by decide)) (in_n (N := 4800) (by omega) (R1.n 11 (by decide)) (by decide)) ?_
      rw [nI_clamp (n := 600 * pl.getD k9 0 + a9) (by omega), hW1]
      refine vv_iald (pc := 40) x dd_Mo_handles_40 (R1.t 15 (by decide)) (in_n (N := 30) (by omega) (R1.n 15 (by decide)) (by decide)) ?_
      rw [hcl9, show mm_a M3 (mm_f M3 7 15 mo) w9 = nI (Z.2.1.2.2.2 w9) from (h1.2.2.2.2.2.2 w9 hw9).2]
      refine vv_goto (pc := 41) x dd_Mo_handles_41 (tgt := 45) (by decide) ?_
      exact vv_iret (pc := 45) x dd_Mo_handles_45 rfl (by decide) (by decide) ⟨G1, Or.inl ⟨hC, by rw [if_pos h5, ew9, hcl9], t1, h1⟩⟩
    · refine vv_aload_n (pc := 0) x dd_Mo_handles_0 rfl ?_
      refine vv_iload_n (pc := 1) x dd_Mo_handles_1 rfl ?_
      refine vv_iload_n (pc := 2) x dd_Mo_handles_2 rfl ?_
      refine lv_Mo_145 (pc := 3) G x dd_Mo_handles_3 (R_termOf G h hZ hp6 hlat hml k9 hk9) R.2.2 ⟨by decide, by decide⟩ (by decide) (by decide) (Nat.le_of_ble_eq_true rfl) (fun v3 M3 q3 => ?_)
      obtain ⟨F1, hq1⟩ := q3
      obtain ⟨-, rfl, t1, h1⟩ := hq1.resolve_right (fun z => z.1 hC)
      have R1 := h1.1
      have G1 := F1.mono (Ki2 := RI9) (Ka2 := RA) (by decide) (by simp)
      refine vv_istore_n (pc := 6) x dd_Mo_handles_6 (by decide) (ls2 := [_, _, _, _]) rfl ?_
      refine vv_aload_n (pc := 7) x dd_Mo_handles_7 rfl ?_
      refine vv_iload_n (pc := 8) x dd_Mo_handles_8 rfl ?_
      refine lv_Mo_68 (pc := 9) G x dd_Mo_handles_9 (k_rkind G) R1.2.2 ⟨by decide, by decide⟩ (by decide) (by decide) (Nat.le_of_ble_eq_true rfl) (fun v9 M9 q9 => ?_)
      obtain ⟨rfl, hm9⟩ := q9
      have hm9 := hm9.symm
      subst hm9
      rw [and7]
      refine vv_iconst (pc := 12) x dd_Mo_handles_12 (5) (by decide) ?_
      refine vv_icmp_ne (pc := 13) x dd_Mo_handles_13 (tgt := 44) (by decide) (fun h13 => ?_) (fun h13 => absurd h13 (fun z => h5 ((nI_eq (b := 5) (by have := kd_lt (zrg Z k9 rv); omega) (by decide)).mp z)))
      refine vv_iconst (pc := 44) x dd_Mo_handles_44 (0) (by decide) ?_
      exact vv_iret (pc := 45) x dd_Mo_handles_45 rfl (by decide) (by decide) ⟨G1, Or.inl ⟨hC, by rw [if_neg h5], t1, h1⟩⟩
  · refine vv_aload_n (pc := 0) x dd_Mo_handles_0 rfl ?_
    refine vv_iload_n (pc := 1) x dd_Mo_handles_1 rfl ?_
    refine vv_iload_n (pc := 2) x dd_Mo_handles_2 rfl ?_
    refine lv_Mo_145 (pc := 3) G x dd_Mo_handles_3 (R_termOf G h hZ hp6 hlat hml k9 hk9) R.2.2 ⟨by decide, by decide⟩ (by decide) (by decide) (Nat.le_of_ble_eq_true rfl) (fun v3 M3 q3 => ?_)
    obtain ⟨F1, hq1⟩ := q3
    obtain ⟨-, rfl, t1, h1⟩ := hq1.resolve_left (fun z => hC z.1)
    have R1 := h1.1
    have G1 := F1.mono (Ki2 := RI9) (Ka2 := RA) (by decide) (by simp)
    refine vv_istore_n (pc := 6) x dd_Mo_handles_6 (by decide) (ls2 := [_, _, _, _]) rfl ?_
    refine vv_aload_n (pc := 7) x dd_Mo_handles_7 rfl ?_
    refine vv_iload_n (pc := 8) x dd_Mo_handles_8 rfl ?_
    refine lv_Mo_68 (pc := 9) G x dd_Mo_handles_9 (k_rkind G) R1.2.2 ⟨by decide, by decide⟩ (by decide) (by decide) (Nat.le_of_ble_eq_true rfl) (fun v9 M9 q9 => ?_)
    obtain ⟨rfl, hm9⟩ := q9
    have hm9 := hm9.symm
    subst hm9
    refine vv_iconst (pc := 12) x dd_Mo_handles_12 (5) (by decide) ?_
    refine vv_icmp_ne (pc := 13) x dd_Mo_handles_13 (tgt := 44) (by decide) (fun h13 => ?_) (fun h13 => absurd h13 (by decide))
    refine vv_iconst (pc := 44) x dd_Mo_handles_44 (0) (by decide) ?_
    exact vv_iret (pc := 45) x dd_Mo_handles_45 rfl (by decide) (by decide) ⟨G1, Or.inr ⟨hC, ⟨_, rfl⟩, t1, h1⟩⟩
set_option maxRecDepth 100000 in
set_option maxHeartbeats 1000000 in
theorem R_value (G : gc g X t0 l) (h : MI pw D ow sl M mo pl Z) (hZ : zok pw Z) (hp6 : pw ≤ 600) (hlat : Z.2.2.1 < 2 ^ 31) (hml : ∀ P ∈ Z.1, P.2.2.2.1.length ≤ 512) {xv rv : Int32} (k9 : Nat) (hk9 : plc Z xv = k9) : Ok g X l yy_Mo_value cc_Mo_value 5 (some .int) 2 45 0 0 [.ref mo, .int xv, .int rv] M (fun v M' => rx RI9 RA mo M M' ∧ (((k9 < Z.1.length ∧ rok rv) ∧ v = some (.int (zval Z k9 (zrg Z k9 rv))) ∧ ri M' mo 0 = 0 ∧ MI pw D ow sl M' mo pl Z) ∨ (¬ (k9 < Z.1.length ∧ rok rv) ∧ (∃ z, v = some (.int z)) ∧ ri M' mo 0 = 1 ∧ MI pw D ow sl M' mo pl Z))) := by
  refine ok_start (by decide) (Nat.le_of_ble_eq_true rfl) (by simp [Value.category]) ?_
  intro p e s m args below meth c9 x
  have R := h.1
  have hnm := znm hZ hlat
  have h8z := hZ.2.1
  by_cases hC : k9 < Z.1.length ∧ rok rv
  · obtain ⟨hk, hr⟩ := id hC
    have hp8 : pl.getD k9 0 < 8 := h.2.2.1.2.2 _ (getD_memN (by have := h.2.2.1.1; omega))
    have kk := hZ.1 _ (zget_mem hk)
    have hvt := zrg_vt hZ hk hr
    refine vv_aload_n (pc := 0) x dd_Mo_value_0 rfl ?_
    refine vv_iload_n (pc := 1) x dd_Mo_value_1 rfl ?_
    refine vv_iload_n (pc := 2) x dd_Mo_value_2 rfl ?_
    refine lv_Mo_145 (pc := 3) G x dd_Mo_value_3 (R_termOf G h hZ hp6 hlat hml k9 hk9) R.2.2 ⟨by decide, by decide⟩ (by decide) (by decide) (Nat.le_of_ble_eq_true rfl) (fun v3 M3 q3 => ?_)
    obtain ⟨F1, hq1⟩ := q3
    obtain ⟨-, rfl, t1, h1⟩ := hq1.resolve_right (fun z => z.1 hC)
    have R1 := h1.1
    have G1 := F1.mono (Ki2 := RI9) (Ka2 := RA) (by decide) (by simp)
    refine vv_istore_n (pc := 6) x dd_Mo_value_6 (by decide) (ls2 := [_, _, _, _, none]) rfl ?_
    refine vv_aload_n (pc := 7) x dd_Mo_value_7 rfl ?_
    refine vv_iload_n (pc := 8) x dd_Mo_value_8 rfl ?_
    refine lv_Mo_120 (pc := 9) G x dd_Mo_value_9 (R_place G h1 hZ.2.2.1 hnm k9 hk9) R1.2.2 ⟨by decide, by decide⟩ (by decide) (by decide) (Nat.le_of_ble_eq_true rfl) (fun v9 M9 q9 => ?_)
    obtain ⟨rfl, hm9⟩ := q9
    have hm9 := hm9.symm
    subst hm9
    rw [show (if k9 < Z.1.length then nI (pl.getD k9 0) else (-1 : Int32)) = nI (pl.getD k9 0) from if_pos hk]
    refine vv_istore (pc := 12) x dd_Mo_value_12 (by decide) (ls2 := [_, _, _, _, _]) rfl ?_
    refine vv_aload_n (pc := 14) x dd_Mo_value_14 rfl ?_
    refine vv_iload_n (pc := 15) x dd_Mo_value_15 rfl ?_
    refine lv_Mo_68 (pc := 16) G x dd_Mo_value_16 (k_rkind G) R1.2.2 ⟨by decide, by decide⟩ (by decide) (by decide) (Nat.le_of_ble_eq_true rfl) (fun v16 M16 q16 => ?_)
    obtain ⟨rfl, hm16⟩ := q16
    have hm16 := hm16.symm
    subst hm16
    rw [and7]
    refine sw_Mo_value_19 x (fun h19_1 => ?_) (fun h19_2 => ?_) (fun h19_3 => ?_) (fun h19_4 => ?_) (fun h19_5 => ?_) (fun n19_1 n19_2 n19_3 n19_4 n19_5 => ?_)
    · refine vv_iload_n (pc := 52) x dd_Mo_value_52 rfl ?_
      refine vv_iconst (pc := 53) x dd_Mo_value_53 (3) (by decide) ?_
      refine vv_ishr (pc := 54) x dd_Mo_value_54 ?_
      exact vv_iret (pc := 55) x dd_Mo_value_55 rfl (by decide) (by decide) ⟨G1, Or.inl ⟨hC, by unfold zval; rw [if_pos (Or.inl ((nI_eq (by have := kd_lt (zrg Z k9 rv); omega) (by decide)).mp h19_1))], t1, h1⟩⟩
    · refine vv_iload_n (pc := 52) x dd_Mo_value_52 rfl ?_
      refine vv_iconst (pc := 53) x dd_Mo_value_53 (3) (by decide) ?_
      refine vv_ishr (pc := 54) x dd_Mo_value_54 ?_
      exact vv_iret (pc := 55) x dd_Mo_value_55 rfl (by decide) (by decide) ⟨G1, Or.inl ⟨hC, by unfold zval; rw [if_pos (Or.inr ((nI_eq (by have := kd_lt (zrg Z k9 rv); omega) (by decide)).mp h19_2))], t1, h1⟩⟩
    · refine vv_aload_n (pc := 56) x dd_Mo_value_56 rfl ?_
      refine vv_iload (pc := 57) x dd_Mo_value_57 rfl ?_
      refine vv_iload_n (pc := 59) x dd_Mo_value_59 rfl ?_
      refine lv_Mo_75 (pc := 60) G x dd_Mo_value_60 (R_pcv G R1 kk.2.1 hp8 (h1.2.2.2.1 k9 hk).2.2.2.1 hvt) R1.2.2 ⟨by decide, by decide⟩ (by decide) (by decide) (Nat.le_of_ble_eq_true rfl) (fun v60 M60 q60 => ?_)
      obtain ⟨rfl, hm60⟩ := q60
      have hm60 := hm60.symm
      subst hm60
      exact vv_iret (pc := 63) x dd_Mo_value_63 rfl (by decide) (by decide) ⟨G1, Or.inl ⟨hC, by have e3 : kd (zrg Z k9 rv) = 3 := (nI_eq (by have := kd_lt (zrg Z k9 rv); omega) (by decide)).mp h19_3; unfold zval; rw [if_neg (by omega), if_neg (by omega)], t1, h1⟩⟩
    · refine vv_aload_n (pc := 56) x dd_Mo_value_56 rfl ?_
      refine vv_iload (pc := 57) x dd_Mo_value_57 rfl ?_
      refine vv_iload_n (pc := 59) x dd_Mo_value_59 rfl ?_
      refine lv_Mo_75 (pc := 60) G x dd_Mo_value_60 (R_pcv G R1 kk.2.1 hp8 (h1.2.2.2.1 k9 hk).2.2.2.1 hvt) R1.2.2 ⟨by decide, by decide⟩ (by decide) (by decide) (Nat.le_of_ble_eq_true rfl) (fun v60 M60 q60 => ?_)
      obtain ⟨rfl, hm60⟩ := q60
      have hm60 := hm60.symm
      subst hm60
      exact vv_iret (pc := 63) x dd_Mo_value_63 rfl (by decide) (by decide) ⟨G1, Or.inl ⟨hC, by have e3 : kd (zrg Z k9 rv) = 4 := (nI_eq (by have := kd_lt (zrg Z k9 rv); omega) (by decide)).mp h19_4; unfold zval; rw [if_neg (by omega), if_neg (by omega)], t1, h1⟩⟩
    · have h5 : kd (zrg Z k9 rv) = 5 := (nI_eq (by have := kd_lt (zrg Z k9 rv); omega) (by decide)).mp h19_5
      obtain ⟨w9, hw9, ew9, -⟩ := blob_is hZ hk hvt h5
      obtain ⟨a9, ha9, ea9, hW9⟩ := bow kk.2.1 (h.2.2.2.1 k9 hk).2.2.2.1 hvt h5
      rw [ew9] at hW9
      have hcl9 : (nI w9).toNatClampNeg = w9 := nI_clamp (by omega)
      have hW1 : mm_a M3 (mm_f M3 7 11 mo) (600 * pl.getD k9 0 + a9) = nI w9 := by
        show ra M3 mo 11 _ = _
        rw [F1.a R (by decide) (by simp) (by simp)]
        exact hW9
      refine vv_aload_n (pc := 64) x dd_Mo_value_64 rfl ?_
      refine lg_Mo_34 (pc := 65) G x dd_Mo_value_65 R1.2.2 (R1.r 14 (by decide)) ?_
      refine vv_aload_n (pc := 68) x dd_Mo_value_68 rfl ?_
      refine lg_Mo_28 (pc := 69) G x dd_Mo_value_69 R1.2.2 (R1.r 11 (by decide)) ?_
      refine vv_sipush (pc := 72) x dd_Mo_value_72 (600) (by decide) ?_
      refine vv_iload (pc := 75) x dd_Mo_value_75 rfl ?_
      refine vv_imul (pc := 77) x dd_Mo_value_77 ?_
      refine vv_aload_n (pc := 78) x dd_Mo_value_78 rfl ?_
      refine vv_iload_n (pc := 79) x dd_Mo_value_79 rfl ?_
      refine lv_Mo_72 (pc := 80) G x dd_Mo_value_80 (k_rat G) R1.2.2 ⟨by decide, by decide⟩ (by decide) (by decide) (Nat.le_of_ble_eq_true rfl) (fun v80 M80 q80 => ?_)
      obtain ⟨rfl, hm80⟩ := q80
      have hm80 := hm80.symm
      subst hm80
      rw [ea9]
      refine vv_iadd (pc := 83) x dd_Mo_value_83 ?_
      rw [ix600]
      refine vv_iald (pc := 84) x dd_Mo_value_84 (R1.t 11 (by decide)) (in_n (N := 4800) (by omega) (R1.n 11 (by decide)) (by decide)) ?_
      rw [nI_clamp (n := 600 * pl.getD k9 0 + a9) (by omega), hW1]
      refine vv_iald (pc := 85) x dd_Mo_value_85 (R1.t 14 (by decide)) (in_n (N := 30) (by omega) (R1.n 14 (by decide)) (by decide)) ?_
      rw [hcl9, show mm_a M3 (mm_f M3 7 14 mo) w9 = nI (Z.2.1.2.2.1 w9) from (h1.2.2.2.2.2.2 w9 hw9).1]
      exact vv_iret (pc := 86) x dd_Mo_value_86 rfl (by decide) (by decide) ⟨G1, Or.inl ⟨hC, by unfold zval; rw [if_neg (by omega), if_pos h5, ew9, hcl9], t1, h1⟩⟩
    · refine vv_iconst (pc := 87) x dd_Mo_value_87 (0) (by decide) ?_
      exact vv_iret (pc := 88) x dd_Mo_value_88 rfl (by decide) (by decide) ⟨G1, Or.inl ⟨hC, by
          have q1 : kd (zrg Z k9 rv) ≠ 1 := fun z => n19_1 (by rw [z]; rfl)
          have q2 : kd (zrg Z k9 rv) ≠ 2 := fun z => n19_2 (by rw [z]; rfl)
          have q3 : kd (zrg Z k9 rv) ≠ 3 := fun z => n19_3 (by rw [z]; rfl)
          have q4 : kd (zrg Z k9 rv) ≠ 4 := fun z => n19_4 (by rw [z]; rfl)
          have q5 : kd (zrg Z k9 rv) ≠ 5 := fun z => n19_5 (by rw [z]; rfl)
          have hlo : kd (zrg Z k9 rv) ≤ 2 := by
            rcases hvt with z | ⟨ix, hix9, ez⟩
            · exact z
            · have hb9 := hok_bnd kk.2.1 hix9
              rw [ez, hok_kd kk.2.1 hix9] at q3 q4 q5
              omega
          unfold zval
          rw [if_neg (by omega), if_neg q5, pts_lo kk.2.1 hlo]
          rfl, t1, h1⟩⟩
  · refine vv_aload_n (pc := 0) x dd_Mo_value_0 rfl ?_
    refine vv_iload_n (pc := 1) x dd_Mo_value_1 rfl ?_
    refine vv_iload_n (pc := 2) x dd_Mo_value_2 rfl ?_
    refine lv_Mo_145 (pc := 3) G x dd_Mo_value_3 (R_termOf G h hZ hp6 hlat hml k9 hk9) R.2.2 ⟨by decide, by decide⟩ (by decide) (by decide) (Nat.le_of_ble_eq_true rfl) (fun v3 M3 q3 => ?_)
    obtain ⟨F1, hq1⟩ := q3
    obtain ⟨-, rfl, t1, h1⟩ := hq1.resolve_left (fun z => hC z.1)
    have R1 := h1.1
    have G1 := F1.mono (Ki2 := RI9) (Ka2 := RA) (by decide) (by simp)
    refine vv_istore_n (pc := 6) x dd_Mo_value_6 (by decide) (ls2 := [_, _, _, _, none]) rfl ?_
    refine vv_aload_n (pc := 7) x dd_Mo_value_7 rfl ?_
    refine vv_iload_n (pc := 8) x dd_Mo_value_8 rfl ?_
    refine lv_Mo_120 (pc := 9) G x dd_Mo_value_9 (R_place G h1 hZ.2.2.1 hnm k9 hk9) R1.2.2 ⟨by decide, by decide⟩ (by decide) (by decide) (Nat.le_of_ble_eq_true rfl) (fun v9 M9 q9 => ?_)
    obtain ⟨rfl, hm9⟩ := q9
    have hm9 := hm9.symm
    subst hm9
    refine vv_istore (pc := 12) x dd_Mo_value_12 (by decide) (ls2 := [_, _, _, _, _]) rfl ?_
    refine vv_aload_n (pc := 14) x dd_Mo_value_14 rfl ?_
    refine vv_iload_n (pc := 15) x dd_Mo_value_15 rfl ?_
    refine lv_Mo_68 (pc := 16) G x dd_Mo_value_16 (k_rkind G) R1.2.2 ⟨by decide, by decide⟩ (by decide) (by decide) (Nat.le_of_ble_eq_true rfl) (fun v16 M16 q16 => ?_)
    obtain ⟨rfl, hm16⟩ := q16
    have hm16 := hm16.symm
    subst hm16
    refine sw_Mo_value_19 x (fun h19_1 => ?_) (fun h19_2 => ?_) (fun h19_3 => ?_) (fun h19_4 => ?_) (fun h19_5 => ?_) (fun n19_1 n19_2 n19_3 n19_4 n19_5 => ?_)
    · exact absurd h19_1 (by decide)
    · exact absurd h19_2 (by decide)
    · exact absurd h19_3 (by decide)
    · exact absurd h19_4 (by decide)
    · exact absurd h19_5 (by decide)
    · refine vv_iconst (pc := 87) x dd_Mo_value_87 (0) (by decide) ?_
      exact vv_iret (pc := 88) x dd_Mo_value_88 rfl (by decide) (by decide) ⟨G1, Or.inr ⟨hC, ⟨_, rfl⟩, t1, h1⟩⟩
end M55
