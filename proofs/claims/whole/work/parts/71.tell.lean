/-! ===== the methods that tell ===== -/
section M28
variable {g : gg} {X : State → Prop} {t0 : Nat} {l : Launch} {M : mm} {pw : Nat} {D : Nat → Prop} {ow sl : Nat → Nat} {o : Nat} {La Le : List Nat} {Z : zst} {B : List bk}
theorem K_pcv (G : gc g X t0 l) (S : sh pw D ow sl M) (hp : pw ≠ 0) (hp6 : pw ≤ 600) {h : Nat} (hD : D h) (hT : mm_t M h = 3) (H : HeapIs pw M h B) {t : Int32} (hv : vt B t) : Ok g X l yy_He_partCount cc_He_partCount 2 (some .int) 1 20 0 0 [.ref h, .int t] M (fun v M' => v = some (.int (nI (pts B t).length)) ∧ M' = M) := by
  rcases hv with h1 | ⟨i, hi, e⟩
  · rw [pts_lo (H.ok hp6) h1]
    exact K_partCount0 G S hp hp6 hD hT H h1
  · subst e
    unfold pts
    rw [hbt_at (H.ok hp6) hi]
    exact K_partCount G S hp hp6 hD hT H hi
theorem K_pov (G : gc g X t0 l) (S : sh pw D ow sl M) (hp : pw ≠ 0) (hp6 : pw ≤ 600) {h : Nat} (hD : D h) (hT : mm_t M h = 3) (H : HeapIs pw M h B) {t : Int32} (hv : vt B t) {k : Nat} (hk : k < (pts B t).length) : Ok g X l yy_He_partOf cc_He_partOf 3 (some .int) 2 40 0 0 [.ref h, .int t, .int (nI k)] M (fun v M' => v = some (.int ((pts B t).getD k 0)) ∧ M' = M) := by
  rcases hv with h1 | ⟨i, hi, e⟩
  · rw [pts_lo (H.ok hp6) h1] at hk
    simp at hk
  · subst e
    unfold pts at *
    rw [hbt_at (H.ok hp6) hi] at *
    rw [← bpt_getD hk]
    exact K_partOf G S hp hp6 hD hT H hi hk
theorem K_bov (G : gc g X t0 l) (S : sh pw D ow sl M) (hp : pw ≠ 0) (hp6 : pw ≤ 600) {h : Nat} (hD : D h) (hT : mm_t M h = 3) (H : HeapIs pw M h B) {t : Int32} (hv : vt B t) (h5 : kd t = 5) : Ok g X l yy_He_blobOf cc_He_blobOf 2 (some .int) 1 20 0 0 [.ref h, .int t] M (fun v M' => v = some (.int ((hbt B t).2.getD 0 0)) ∧ M' = M) := by
  obtain ⟨i, hi, e, hb1⟩ := vt_hi H.2.2 hp6 hv (by omega)
  have h6 : (hb B i).1 = 5 := by omega
  rw [e, hbt_at (H.ok hp6) hi]
  exact K_blobOf G S hp hp6 hD hT H hi h6
/-- the blob of a handle: its place, and that it lives -/
theorem blob_is (hZ : zok pw Z) {i : Nat} (hi : i < Z.1.length) {t : Int32} (hv : vt (zget Z i).2.2.2.2 t) (h5 : kd t = 5) : ∃ w, w < 30 ∧ (hbt (zget Z i).2.2.2.2 t).2.getD 0 0 = nI w ∧ 0 < Z.2.1.2.2.2 w := by
  obtain ⟨k1, k2, k3, k4, k5, k6, k7, k8⟩ := hZ.1 _ (zget_mem hi)
  rcases hv with h1 | ⟨j, hj, e⟩
  · omega
  · have hb1 : (hb (zget Z i).2.2.2.2 j).1 = 5 := by
      have := hok_tm k2 hj
      rw [e] at h5
      unfold htm at h5
      rw [kd_tk this.1 this.2.1] at h5
      exact h5
    obtain ⟨w1, w2⟩ := k7 j hj hb1
    refine ⟨bw (zget Z i).2.2.2.2 j, w2, by rw [e, hbt_at k2 hj]; exact w1, ?_⟩
    rw [hZ.2.2.2.2.2.1 _ w2]
    have h9 := zcnt_le (w := bw (zget Z i).2.2.2.2 j) (zget_mem hi)
    have h10 : bw (zget Z i).2.2.2.2 j ∈ hnd (zget Z i).2.2.2.2 := by
      unfold hnd
      refine List.mem_filterMap.mpr ⟨hb (zget Z i).2.2.2.2 j, List.mem_of_getElem? (hb_get hj), ?_⟩
      rw [if_pos hb1]
      rfl
    have := List.count_pos_iff.mpr h10
    omega
set_option maxRecDepth 100000 in
set_option maxHeartbeats 4000000 in
theorem C_mcollect (G : gc g X t0 l) (C : CI pw D ow sl M o La Le Z) (hZ : zok pw Z) {xv : Int32} (k9 : Nat) (hk9 : plc Z xv = k9) : OkX g X l yy_CH_collect cc_CH_collect 4 (some .int) 7 118 1 6 [.ref o, .int xv] M (fun v M' => v = some (.int (nI (hsz (zget Z k9).2.2.2.2) - nI (hsz (zget (zcol Z k9) k9).2.2.2.2))) ∧ k9 < Z.1.length ∧ CI pw D ow sl M' o La Le (zcol Z k9) ∧ kp pw D M M') (fun E M' => E = "java/lang/IndexOutOfBoundsException" ∧ M' = M ∧ ¬ k9 < Z.1.length) := by
  refine okx_start (by decide) (Nat.le_of_ble_eq_true rfl) (by simp [Value.category]) ?_
  intro p e s m args below meth c9 x ht0
  have C0 := C
  obtain ⟨⟨hDc, hTc⟩, ⟨hDs, hTs⟩, ⟨hDb, hTb⟩, hTa⟩ := CI_tags C
  obtain ⟨S, ⟨hDo, hTo, hp, hp6⟩, ⟨ha1, ha2, ha3, ha4⟩, ⟨hl, hP⟩, ⟨hpo, T0, hT0⟩, ⟨hw, hlt, hcn⟩, hL⟩ := C
  refine vv_aload_n (pc := 0) x dd_CH_collect_0 rfl ?_
  refine vv_iload_n (pc := 1) x dd_CH_collect_1 rfl ?_
  refine lv_CH_93x (pc := 2) G x ht0 dd_CH_collect_2 (C_living1 G C0 hZ k9 hk9) hTo ⟨by decide, by decide⟩ (by decide) (by decide) (Nat.le_of_ble_eq_true rfl) (fun v2 M2 q2 => ?_) (fun E M' q => ⟨q.1, q.2.1, q.2.2⟩)
  obtain ⟨rfl, hm3, hk⟩ := q2
  have hm3 := hm3.symm
  subst hm3
  have hi : k9 < La.length := by omega
  obtain ⟨⟨hDp, hTp⟩, ⟨hDf, hTf⟩, ⟨hDm, hTm⟩⟩ := hTa _ (List.mem_append_left Le (getD_memN hi))
  obtain ⟨p1, p2, p3, p4, p5⟩ := hP k9 hi
  refine vv_astore_n (pc := 5) x dd_CH_collect_5 (by decide) (ls2 := [_, _, _, none]) rfl ?_
  refine vv_aload_n (pc := 6) x dd_CH_collect_6 rfl ?_
  refine lg_CH_97 (pc := 7) G x dd_CH_collect_7 hTp (S.or hDp hTp 2 (by decide)) ?_
  refine lg_CH_180 (pc := 10) G x dd_CH_collect_10 hTf ?_
  rw [p3.1]
  refine vv_istore_n (pc := 13) x dd_CH_collect_13 (by decide) (ls2 := [_, _, _, _]) rfl ?_
  refine vv_aload_n (pc := 14) x dd_CH_collect_14 rfl ?_
  refine vv_aload_n (pc := 15) x dd_CH_collect_15 rfl ?_
  refine lv_CH_183 (pc := 16) G x dd_CH_collect_16 (C_collect G C0 hZ hi) hTo ⟨by decide, by decide⟩ (by decide) (by decide) (Nat.le_of_ble_eq_true rfl) (fun v16 M16 q16 => ?_)
  obtain ⟨rfl, C1, kp1⟩ := q16
  obtain ⟨-, -, -, hTa1⟩ := CI_tags C1
  obtain ⟨⟨-, hTp1⟩, ⟨-, hTf1⟩, -⟩ := hTa1 _ (List.mem_append_left Le (getD_memN hi))
  have r31 := (C1.2.2.2.1.2 k9 hi).2.2.1.1
  refine vv_iload_n (pc := 19) x dd_CH_collect_19 rfl ?_
  refine vv_aload_n (pc := 20) x dd_CH_collect_20 rfl ?_
  refine lg_CH_97 (pc := 21) G x dd_CH_collect_21 hTp1 (C1.1.or hDp hTp1 2 (by decide)) ?_
  refine lg_CH_180 (pc := 24) G x dd_CH_collect_24 hTf1 ?_
  rw [r31]
  refine vv_isub (pc := 27) x dd_CH_collect_27 ?_
  exact vvx_ret (vv_iret (pc := 28) x dd_CH_collect_28 rfl (by decide) (by decide) ⟨rfl, hk, C1, kp1⟩)
set_option maxRecDepth 100000 in
set_option maxHeartbeats 4000000 in
theorem C_of (G : gc g X t0 l) (C : CI pw D ow sl M o La Le Z) (hZ : zok pw Z) {xv : Int32} (k9 : Nat) (hk9 : plc Z xv = k9) {wv : Int32} : OkX g X l yy_CH_of cc_CH_of 4 (some .int) 7 111 2 12 [.ref o, .int xv, .int wv] M (fun v M' => v = some (.int (if wv = 0 then nI (zget Z k9).2.1 else if wv = 1 then nI (hsz (zget Z k9).2.2.2.2) else nI (zget Z k9).2.2.2.1.length)) ∧ M' = M ∧ k9 < Z.1.length ∧ (wv = 0 ∨ wv = 1 ∨ wv = 2)) (fun E M' => (E = "java/lang/IndexOutOfBoundsException" ∧ M' = M ∧ ¬ k9 < Z.1.length) ∨ (E = "java/lang/IllegalArgumentException" ∧ M' = M ∧ k9 < Z.1.length ∧ ¬ (wv = 0 ∨ wv = 1 ∨ wv = 2))) := by
  refine okx_start (by decide) (Nat.le_of_ble_eq_true rfl) (by simp [Value.category]) ?_
  intro p e s m args below meth c9 x ht0
  have C0 := C
  obtain ⟨⟨hDc, hTc⟩, ⟨hDs, hTs⟩, ⟨hDb, hTb⟩, hTa⟩ := CI_tags C
  obtain ⟨S, ⟨hDo, hTo, hp, hp6⟩, ⟨ha1, ha2, ha3, ha4⟩, ⟨hl, hP⟩, ⟨hpo, T0, hT0⟩, ⟨hw, hlt, hcn⟩, hL⟩ := C
  refine vv_aload_n (pc := 0) x dd_CH_of_0 rfl ?_
  refine vv_iload_n (pc := 1) x dd_CH_of_1 rfl ?_
  refine lv_CH_93x (pc := 2) G x ht0 dd_CH_of_2 (C_living1 G C0 hZ k9 hk9) hTo ⟨by decide, by decide⟩ (by decide) (by decide) (Nat.le_of_ble_eq_true rfl) (fun v2 M2 q2 => ?_) (fun E M' q => Or.inl ⟨q.1, q.2.1, q.2.2⟩)
  obtain ⟨rfl, hm3, hk⟩ := q2
  have hm3 := hm3.symm
  subst hm3
  have hi : k9 < La.length := by omega
  obtain ⟨⟨hDp, hTp⟩, ⟨hDf, hTf⟩, ⟨hDm, hTm⟩⟩ := hTa _ (List.mem_append_left Le (getD_memN hi))
  obtain ⟨p1, p2, p3, p4, p5⟩ := hP k9 hi
  refine vv_astore_n (pc := 5) x dd_CH_of_5 (by decide) (ls2 := [_, _, _, _]) rfl ?_
  refine vv_iload_n (pc := 6) x dd_CH_of_6 rfl ?_
  refine sw_CH_of_7 x (fun h7_0 => ?_) (fun h7_1 => ?_) (fun h7_2 => ?_) (fun n7_0 n7_1 n7_2 => ?_)
  · refine vv_aload_n (pc := 32) x dd_CH_of_32 rfl ?_
    refine lg_CH_108 (pc := 33) G x dd_CH_of_33 hTp ?_
    rw [p2]
    exact vvx_ret (vv_iret (pc := 36) x dd_CH_of_36 rfl (by decide) (by decide) ⟨by rw [if_pos h7_0], rfl, hk, Or.inl h7_0⟩)
  · refine vv_aload_n (pc := 37) x dd_CH_of_37 rfl ?_
    refine lg_CH_97 (pc := 38) G x dd_CH_of_38 hTp (S.or hDp hTp 2 (by decide)) ?_
    refine lg_CH_180 (pc := 41) G x dd_CH_of_41 hTf ?_
    rw [p3.1]
    exact vvx_ret (vv_iret (pc := 44) x dd_CH_of_44 rfl (by decide) (by decide) ⟨by rw [h7_1]; rfl, rfl, hk, Or.inr (Or.inl h7_1)⟩)
  · refine vv_aload_n (pc := 45) x dd_CH_of_45 rfl ?_
    refine lg_CH_169 (pc := 46) G x dd_CH_of_46 hTp (S.or hDp hTp 4 (by decide)) ?_
    refine lg_CH_173 (pc := 49) G x dd_CH_of_49 hTm ?_
    obtain ⟨f9, g1, g2, g3⟩ := p5
    rw [g2]
    exact vvx_ret (vv_iret (pc := 52) x dd_CH_of_52 rfl (by decide) (by decide) ⟨by rw [h7_2]; rfl, rfl, hk, Or.inr (Or.inr h7_2)⟩)
  · exact lx_CH_124 (pc := 53) G x ht0 dd_CH_of_53 dd_CH_of_56 dd_CH_of_57 dd_CH_of_60 ⟨by decide, by decide⟩ (Nat.le_of_ble_eq_true rfl) (by decide) (by decide) (Or.inr ⟨rfl, rfl, hk, fun z => by rcases z with z | z | z <;> contradiction⟩)
set_option maxRecDepth 100000 in
set_option maxHeartbeats 4000000 in
theorem C_handles (G : gc g X t0 l) (C : CI pw D ow sl M o La Le Z) (hZ : zok pw Z) {xv rv : Int32} (k9 : Nat) (hk9 : plc Z xv = k9) : OkX g X l yy_CH_handles cc_CH_handles 5 (some .int) 8 133 2 12 [.ref o, .int xv, .int rv] M (fun v M' => v = some (.int (if kd (zrg Z k9 rv) = 5 then nI (Z.2.1.2.2.2 ((hbt (zget Z k9).2.2.2.2 (zrg Z k9 rv)).2.getD 0 0).toNatClampNeg) else 0)) ∧ M' = M ∧ k9 < Z.1.length ∧ rok rv) (fun E M' => E = "java/lang/IndexOutOfBoundsException" ∧ M' = M ∧ ¬ (k9 < Z.1.length ∧ rok rv)) := by
  refine okx_start (by decide) (Nat.le_of_ble_eq_true rfl) (by simp [Value.category]) ?_
  intro p e s m args below meth c9 x ht0
  have C0 := C
  obtain ⟨⟨hDc, hTc⟩, ⟨hDs, hTs⟩, ⟨hDb, hTb⟩, hTa⟩ := CI_tags C
  obtain ⟨S, ⟨hDo, hTo, hp, hp6⟩, ⟨ha1, ha2, ha3, ha4⟩, ⟨hl, hP⟩, ⟨hpo, T0, hT0⟩, ⟨hw, hlt, hcn⟩, hL⟩ := C
  refine vv_aload_n (pc := 0) x dd_CH_handles_0 rfl ?_
  refine vv_iload_n (pc := 1) x dd_CH_handles_1 rfl ?_
  refine vv_iload_n (pc := 2) x dd_CH_handles_2 rfl ?_
  refine lv_CH_115x (pc := 3) G x ht0 dd_CH_handles_3 (C_living2 G C0 hZ k9 hk9) hTo ⟨by decide, by decide⟩ (by decide) (by decide) (Nat.le_of_ble_eq_true rfl) (fun v3 M3 q3 => ?_) (fun E M' q => ⟨q.1, q.2.1, q.2.2⟩)
  obtain ⟨rfl, hm3, hk, hr⟩ := q3
  have hm3 := hm3.symm
  subst hm3
  have hi : k9 < La.length := by omega
  obtain ⟨⟨hDp, hTp⟩, ⟨hDf, hTf⟩, ⟨hDm, hTm⟩⟩ := hTa _ (List.mem_append_left Le (getD_memN hi))
  obtain ⟨p1, p2, p3, p4, p5⟩ := hP k9 hi
  obtain ⟨hin, hj, ej⟩ := rok_in hr
  have rr := S.r hDp hTp 3 (show (4 : Nat) ≠ 0 by decide)
  have tr := S.t hDp hTp 3 (show (4 : Nat) ≠ 0 by decide)
  have nr : mm_n M (mm_f M 3 3 (La.getD k9 0)) = 4 := S.n hDp hTp 3 (show (4 : Nat) ≠ 0 by decide)
  have eg : mm_a M (mm_f M 3 3 (La.getD k9 0)) rv.toNatClampNeg = zrg Z k9 rv := p4 _ hj
  refine vv_astore_n (pc := 6) x dd_CH_handles_6 (by decide) (ls2 := [_, _, _, _, none]) rfl ?_
  refine vv_aload_n (pc := 7) x dd_CH_handles_7 rfl ?_
  refine lg_CH_118 (pc := 8) G x dd_CH_handles_8 hTp rr ?_
  refine vv_iload_n (pc := 11) x dd_CH_handles_11 rfl ?_
  refine vv_iald (pc := 12) x dd_CH_handles_12 tr (by rw [nr]; exact hin) ?_
  rw [eg]
  refine vv_istore (pc := 13) x dd_CH_handles_13 (by decide) (ls2 := [_, _, _, _, _]) rfl ?_
  refine vv_iload (pc := 15) x dd_CH_handles_15 rfl ?_
  refine lv_CH_193 (pc := 17) G x dd_CH_handles_17 (k_kindOf G)  ⟨by decide, by decide⟩ (by decide) (by decide) (Nat.le_of_ble_eq_true rfl) (fun v17 M17 q17 => ?_)
  obtain ⟨rfl, hm17⟩ := q17
  have hm17 := hm17.symm
  subst hm17
  rw [and7]
  have kl := kd_lt (zrg Z k9 rv)
  refine vv_iconst (pc := 20) x dd_CH_handles_20 (5) (by decide) ?_
  refine vv_icmp_ne (pc := 21) x dd_CH_handles_21 (tgt := 44) (by decide) (fun h21 => ?_) (fun h21 => ?_)
  · refine vv_iconst (pc := 44) x dd_CH_handles_44 (0) (by decide) ?_
    exact vvx_ret (vv_iret (pc := 45) x dd_CH_handles_45 rfl (by decide) (by decide) ⟨by rw [if_neg (fun z => h21 (by rw [z]; rfl))], rfl, hk, hr⟩)
  · have h5 : kd (zrg Z k9 rv) = 5 := (nI_eq (b := 5) (by omega) (by decide)).mp h21
    obtain ⟨w, w1, w2, w3⟩ := blob_is hZ hk (zrg_vt hZ hk hr) h5
    have nb : mm_n M (mm_f M 5 3 (mm_f M 6 1 o)) = 30 := S.n hDb hTb 3 (show (30 : Nat) ≠ 0 by decide)
    refine vv_aload_n (pc := 24) x dd_CH_handles_24 rfl ?_
    refine lg_CH_27 (pc := 25) G x dd_CH_handles_25 hTo (S.or hDo hTo 1 (by decide)) ?_
    refine lg_CH_213 (pc := 28) G x dd_CH_handles_28 hTb (S.r hDb hTb 3 (show (30 : Nat) ≠ 0 by decide)) ?_
    refine vv_aload_n (pc := 31) x dd_CH_handles_31 rfl ?_
    refine lg_CH_97 (pc := 32) G x dd_CH_handles_32 hTp (S.or hDp hTp 2 (by decide)) ?_
    refine vv_iload (pc := 35) x dd_CH_handles_35 rfl ?_
    refine lv_CH_202 (pc := 37) G x dd_CH_handles_37 (K_bov G S hp hp6 hDf hTf p3 (zrg_vt hZ hk hr) h5) hTf ⟨by decide, by decide⟩ (by decide) (by decide) (Nat.le_of_ble_eq_true rfl) (fun v37 M37 q37 => ?_)
    obtain ⟨rfl, hm37⟩ := q37
    have hm37 := hm37.symm
    subst hm37
    rw [w2]
    refine vv_iald (pc := 40) x dd_CH_handles_40 (S.t hDb hTb 3 (show (30 : Nat) ≠ 0 by decide)) (in_n w1 nb (by decide)) ?_
    refine vv_goto (pc := 41) x dd_CH_handles_41 (tgt := 45) (by decide) ?_
    exact vvx_ret (vv_iret (pc := 45) x dd_CH_handles_45 rfl (by decide) (by decide) ⟨by
        have h9 : mm_a M (mm_f M 5 3 (mm_f M 6 1 o)) w = nI (Z.2.1.2.2.2 w) := (hpo.2.2 w w1).1
        rw [if_pos h5, nI_clamp (by omega), h9], rfl, hk, hr⟩)
set_option maxRecDepth 100000 in
set_option maxHeartbeats 4000000 in
theorem C_count (G : gc g X t0 l) (C : CI pw D ow sl M o La Le Z) (hZ : zok pw Z) {wv : Int32} : OkX g X l yy_CH_count cc_CH_count 2 (some .int) 6 89 1 6 [.ref o, .int wv] M (fun v M' => v = some (.int (if wv = 0 then nI Z.1.length else if wv = 1 then nI Z.2.1.1 else if wv = 2 then nI Z.2.1.2.1 else if wv = 3 then nI Z.2.2.1 else nI Z.2.2.2)) ∧ M' = M ∧ (wv = 0 ∨ wv = 1 ∨ wv = 2 ∨ wv = 3 ∨ wv = 4)) (fun E M' => E = "java/lang/IllegalArgumentException" ∧ M' = M ∧ ¬ (wv = 0 ∨ wv = 1 ∨ wv = 2 ∨ wv = 3 ∨ wv = 4)) := by
  refine okx_start (by decide) (Nat.le_of_ble_eq_true rfl) (by simp [Value.category]) ?_
  intro p e s m args below meth c9 x ht0
  have C0 := C
  obtain ⟨⟨hDc, hTc⟩, ⟨hDs, hTs⟩, ⟨hDb, hTb⟩, hTa⟩ := CI_tags C
  obtain ⟨S, ⟨hDo, hTo, hp, hp6⟩, ⟨ha1, ha2, ha3, ha4⟩, ⟨hl, hP⟩, ⟨hpo, T0, hT0⟩, ⟨hw, hlt, hcn⟩, hL⟩ := C
  have hTl : mm_t M (mm_f M 6 2 o) = 9 := S.ot hDo hTo 2 (by decide)
  refine vv_iload_n (pc := 0) x dd_CH_count_0 rfl ?_
  refine sw_CH_count_1 x (fun h1_0 => ?_) (fun h1_1 => ?_) (fun h1_2 => ?_) (fun h1_3 => ?_) (fun h1_4 => ?_) (fun n1_0 n1_1 n1_2 n1_3 n1_4 => ?_)
  · refine vv_aload_n (pc := 36) x dd_CH_count_36 rfl ?_
    refine lg_CH_34 (pc := 37) G x dd_CH_count_37 hTo (S.or hDo hTo 2 (by decide)) ?_
    refine lv_CH_62 (pc := 40) G x dd_CH_count_40 (k_size G hTl hL.1) hTl ⟨by decide, by decide⟩ (by decide) (by decide) (Nat.le_of_ble_eq_true rfl) (fun v40 M40 q40 => ?_)
    obtain ⟨rfl, hm40⟩ := q40
    have hm40 := hm40.symm
    subst hm40
    rw [hl]
    exact vvx_ret (vv_iret (pc := 43) x dd_CH_count_43 rfl (by decide) (by decide) ⟨by rw [h1_0]; rfl, rfl, Or.inl h1_0⟩)
  · refine vv_aload_n (pc := 44) x dd_CH_count_44 rfl ?_
    refine lg_CH_27 (pc := 45) G x dd_CH_count_45 hTo (S.or hDo hTo 1 (by decide)) ?_
    refine lg_CH_66 (pc := 48) G x dd_CH_count_48 hTb ?_
    rw [show mm_i M 5 0 (mm_f M 6 1 o) = nI Z.2.1.1 from hpo.1]
    exact vvx_ret (vv_iret (pc := 51) x dd_CH_count_51 rfl (by decide) (by decide) ⟨by rw [h1_1]; rfl, rfl, Or.inr (Or.inl h1_1)⟩)
  · refine vv_aload_n (pc := 52) x dd_CH_count_52 rfl ?_
    refine lg_CH_27 (pc := 53) G x dd_CH_count_53 hTo (S.or hDo hTo 1 (by decide)) ?_
    refine lg_CH_144 (pc := 56) G x dd_CH_count_56 hTb ?_
    rw [show mm_i M 5 1 (mm_f M 6 1 o) = nI Z.2.1.2.1 from hpo.2.1]
    exact vvx_ret (vv_iret (pc := 59) x dd_CH_count_59 rfl (by decide) (by decide) ⟨by rw [h1_2]; rfl, rfl, Or.inr (Or.inr (Or.inl h1_2))⟩)
  · refine vv_aload_n (pc := 60) x dd_CH_count_60 rfl ?_
    refine lg_CH_83 (pc := 61) G x dd_CH_count_61 hTo ?_
    rw [hlt]
    exact vvx_ret (vv_iret (pc := 64) x dd_CH_count_64 rfl (by decide) (by decide) ⟨by rw [h1_3]; rfl, rfl, Or.inr (Or.inr (Or.inr (Or.inl h1_3)))⟩)
  · refine vv_aload_n (pc := 65) x dd_CH_count_65 rfl ?_
    refine lg_CH_190 (pc := 66) G x dd_CH_count_66 hTo ?_
    rw [hcn]
    exact vvx_ret (vv_iret (pc := 69) x dd_CH_count_69 rfl (by decide) (by decide) ⟨by rw [h1_4]; rfl, rfl, Or.inr (Or.inr (Or.inr (Or.inr h1_4)))⟩)
  · exact lx_CH_124 (pc := 70) G x ht0 dd_CH_count_70 dd_CH_count_73 dd_CH_count_74 dd_CH_count_77 ⟨by decide, by decide⟩ (Nat.le_of_ble_eq_true rfl) (by decide) (by decide) ⟨rfl, rfl, fun z => by rcases z with z | z | z | z | z <;> contradiction⟩
set_option maxRecDepth 100000 in
set_option maxHeartbeats 4000000 in
theorem C_part (G : gc g X t0 l) (C : CI pw D ow sl M o La Le Z) (hZ : zok pw Z) {xv rv : Int32} (k9 : Nat) (hk9 : plc Z xv = k9) {av kv : Int32} : OkX g X l yy_CH_part cc_CH_part 7 none 8 133 4 24 [.ref o, .int xv, .int rv, .int av, .int kv] M (fun v M' => v = none ∧ (k9 < Z.1.length ∧ rok rv ∧ rok av) ∧ (¬ kv < 0 ∧ kv < nI (pts (zget Z k9).2.2.2.2 (zrg Z k9 av)).length) ∧ CI pw D ow sl M' o La Le (zreg Z k9 rv.toNatClampNeg ((pts (zget Z k9).2.2.2.2 (zrg Z k9 av)).getD kv.toNatClampNeg 0)) ∧ kp pw D M M') (fun E M' => (E = "java/lang/IndexOutOfBoundsException" ∧ M' = M ∧ ¬ (k9 < Z.1.length ∧ rok rv ∧ rok av)) ∨ (E = "java/lang/IllegalArgumentException" ∧ M' = M ∧ (k9 < Z.1.length ∧ rok rv ∧ rok av) ∧ ¬ (¬ kv < 0 ∧ kv < nI (pts (zget Z k9).2.2.2.2 (zrg Z k9 av)).length))) := by
  refine okx_start (by decide) (Nat.le_of_ble_eq_true rfl) (by simp [Value.category]) ?_
  intro p e s m args below meth c9 x ht0
  have C0 := C
  obtain ⟨⟨hDc, hTc⟩, ⟨hDs, hTs⟩, ⟨hDb, hTb⟩, hTa⟩ := CI_tags C
  obtain ⟨S, ⟨hDo, hTo, hp, hp6⟩, ⟨ha1, ha2, ha3, ha4⟩, ⟨hl, hP⟩, ⟨hpo, T0, hT0⟩, ⟨hw, hlt, hcn⟩, hL⟩ := C
  refine vv_aload_n (pc := 0) x dd_CH_part_0 rfl ?_
  refine vv_iload_n (pc := 1) x dd_CH_part_1 rfl ?_
  refine vv_iload_n (pc := 2) x dd_CH_part_2 rfl ?_
  refine lv_CH_115x (pc := 3) G x ht0 dd_CH_part_3 (C_living2 G C0 hZ k9 hk9) hTo ⟨by decide, by decide⟩ (by decide) (by decide) (Nat.le_of_ble_eq_true rfl) (fun v3 M3 q3 => ?_) (fun E M' q => Or.inl ⟨q.1, q.2.1, fun z => q.2.2 ⟨z.1, z.2.1⟩⟩)
  obtain ⟨rfl, hm3, hk, hr⟩ := q3
  have hm3 := hm3.symm
  subst hm3
  have hi : k9 < La.length := by omega
  obtain ⟨⟨hDp, hTp⟩, ⟨hDf, hTf⟩, ⟨hDm, hTm⟩⟩ := hTa _ (List.mem_append_left Le (getD_memN hi))
  obtain ⟨p1, p2, p3, p4, p5⟩ := hP k9 hi
  obtain ⟨hin, hj, ej⟩ := rok_in hr
  have rr := S.r hDp hTp 3 (show (4 : Nat) ≠ 0 by decide)
  have tr := S.t hDp hTp 3 (show (4 : Nat) ≠ 0 by decide)
  have nr : mm_n M (mm_f M 3 3 (La.getD k9 0)) = 4 := S.n hDp hTp 3 (show (4 : Nat) ≠ 0 by decide)
  have eg : mm_a M (mm_f M 3 3 (La.getD k9 0)) rv.toNatClampNeg = zrg Z k9 rv := p4 _ hj
  refine vv_astore (pc := 6) x dd_CH_part_6 (by decide) (ls2 := [_, _, _, _, _, _, none]) rfl ?_
  refine vv_iload_n (pc := 8) x dd_CH_part_8 rfl ?_
  refine lv_CH_130x (pc := 9) G x ht0 dd_CH_part_9 (C_reg G)  ⟨by decide, by decide⟩ (by decide) (by decide) (Nat.le_of_ble_eq_true rfl) (fun v9 M9 q9 => ?_) (fun E M' q => Or.inl ⟨q.1, q.2.1, fun z => q.2.2 z.2.2⟩)
  obtain ⟨rfl, hm9, ha⟩ := q9
  have hm9 := hm9.symm
  subst hm9
  have eg2 : mm_a M (mm_f M 3 3 (La.getD k9 0)) av.toNatClampNeg = zrg Z k9 av := p4 _ (rok_in ha).2.1
  have hva := zrg_vt hZ hk ha
  refine vv_aload (pc := 12) x dd_CH_part_12 rfl ?_
  refine lg_CH_118 (pc := 14) G x dd_CH_part_14 hTp rr ?_
  refine vv_iload_n (pc := 17) x dd_CH_part_17 rfl ?_
  refine vv_iald (pc := 18) x dd_CH_part_18 tr (by rw [nr]; exact (rok_in ha).1) ?_
  rw [eg2]
  refine vv_istore (pc := 19) x dd_CH_part_19 (by decide) (ls2 := [_, _, _, _, _, _, _]) rfl ?_
  refine vv_iload (pc := 21) x dd_CH_part_21 rfl ?_
  refine vv_if_lt (pc := 23) x dd_CH_part_23 (tgt := 41) (by decide) (fun h23 => ?_) (fun h23 => ?_)
  · exact lx_CH_124 (pc := 41) G x ht0 dd_CH_part_41 dd_CH_part_44 dd_CH_part_45 dd_CH_part_48 ⟨by decide, by decide⟩ (Nat.le_of_ble_eq_true rfl) (by decide) (by decide) (Or.inr ⟨rfl, rfl, ⟨hk, hr, ha⟩, fun z => z.1 h23⟩)
  · refine vv_iload (pc := 26) x dd_CH_part_26 rfl ?_
    refine vv_aload (pc := 28) x dd_CH_part_28 rfl ?_
    refine lg_CH_97 (pc := 30) G x dd_CH_part_30 hTp (S.or hDp hTp 2 (by decide)) ?_
    refine vv_iload (pc := 33) x dd_CH_part_33 rfl ?_
    refine lv_CH_156 (pc := 35) G x dd_CH_part_35 (K_pcv G S hp hp6 hDf hTf p3 hva) hTf ⟨by decide, by decide⟩ (by decide) (by decide) (Nat.le_of_ble_eq_true rfl) (fun v35 M35 q35 => ?_)
    obtain ⟨rfl, hm35⟩ := q35
    have hm35 := hm35.symm
    subst hm35
    refine vv_icmp_lt (pc := 38) x dd_CH_part_38 (tgt := 49) (by decide) (fun h38 => ?_) (fun h38 => ?_)
    · obtain ⟨kk, kk1, kk2⟩ := nI_of h23
      have hpl : (pts (zget Z k9).2.2.2.2 (zrg Z k9 av)).length < 2 ^ 31 := by
        have h9 := hZ.1 _ (zget_mem hk)
        unfold pts hbt
        cases e9 : hix (zget Z k9).2.2.2.2 (zrg Z k9 av) with
        | none => simp [bpt]
        | some i9 =>
          have := bpt_le4 (h9.2.1.2 i9 (hix_lt e9).1)
          show (bpt (hb _ i9)).length < 2 ^ 31
          omega
      have hkl : kk < (pts (zget Z k9).2.2.2.2 (zrg Z k9 av)).length := (nI_ltI kk1 hpl).mp (by rw [← kk2]; exact h38)
      refine vv_aload (pc := 49) x dd_CH_part_49 rfl ?_
      refine lg_CH_118 (pc := 51) G x dd_CH_part_51 hTp rr ?_
      refine vv_iload_n (pc := 54) x dd_CH_part_54 rfl ?_
      refine vv_aload (pc := 55) x dd_CH_part_55 rfl ?_
      refine lg_CH_97 (pc := 57) G x dd_CH_part_57 hTp (S.or hDp hTp 2 (by decide)) ?_
      refine vv_iload (pc := 60) x dd_CH_part_60 rfl ?_
      refine vv_iload (pc := 62) x dd_CH_part_62 rfl ?_
      rw [kk2]
      refine lv_CH_159 (pc := 64) G x dd_CH_part_64 (K_pov G S hp hp6 hDf hTf p3 hva hkl) hTf ⟨by decide, by decide⟩ (by decide) (by decide) (Nat.le_of_ble_eq_true rfl) (fun v64 M64 q64 => ?_)
      obtain ⟨rfl, hm64⟩ := q64
      have hm64 := hm64.symm
      subst hm64
      rw [← kk2]
      refine vv_iast (pc := 67) x dd_CH_part_67 tr (by rw [nr]; exact hin) ?_
      exact vvx_ret (vv_vret (pc := 68) x dd_CH_part_68 rfl (by decide) (by decide) ⟨rfl, ⟨hk, hr, ha⟩, ⟨h23, h38⟩, by rw [kk2, nI_clamp kk1]; exact CI_reg C0 hZ hi hj⟩)
    · exact lx_CH_124 (pc := 41) G x ht0 dd_CH_part_41 dd_CH_part_44 dd_CH_part_45 dd_CH_part_48 ⟨by decide, by decide⟩ (Nat.le_of_ble_eq_true rfl) (by decide) (by decide) (Or.inr ⟨rfl, rfl, ⟨hk, hr, ha⟩, fun z => h38 z.2⟩)
end M28
