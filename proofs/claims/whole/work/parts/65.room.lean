/-! ===== room is made ===== -/
section M22
variable {g : gg} {X : State → Prop} {t0 : Nat} {l : Launch} {M : mm} {pw : Nat} {D : Nat → Prop} {ow sl : Nat → Nat} {o : Nat} {La Le : List Nat} {Z : zst}
def stp (n : Nat) : Nat := (n + 7) / 8 * 8
def zgrow (Z : zst) (i gr : Nat) : zst := (Z.1.set i ((zget Z i).1, (zget Z i).2.1 + gr, (zget Z i).2.2), (Z.2.1.1 - gr, Z.2.1.2), Z.2.2.1, Z.2.2.2)
def zroom (Z : zst) (i n : Nat) : Bool × zst := if hsz (zget Z i).2.2.2.2 + n ≤ (zget Z i).2.1 then (true, Z) else if stp (hsz (zget (zcol Z i) i).2.2.2.2 + n - (zget (zcol Z i) i).2.1) ≤ (zcol Z i).2.1.1 then (true, zgrow (zcol Z i) i (stp (hsz (zget (zcol Z i) i).2.2.2.2 + n - (zget (zcol Z i) i).2.1))) else (false, zcol Z i)
theorem cap_le (h : zok pw Z) {i : Nat} (hi : i < Z.1.length) : Z.2.1.1 + (zget Z i).2.1 ≤ pw := by
  have h1 := h.2.2.2.2.2.2
  have h2 : (zget Z i).2.1 ≤ zcap Z.1 := by
    have hm := zget_mem hi
    unfold zcap
    generalize zget Z i = P at hm
    generalize Z.1 = L at hm
    induction L with
    | nil => simp at hm
    | cons a L ih =>
      rw [List.map_cons, List.sum_cons]
      rcases List.mem_cons.mp hm with e | e
      · rw [e]; omega
      · have := ih e
        omega
  omega
theorem zgrow_ok (h : zok pw Z) {i gr : Nat} (hi : i < Z.1.length) (hg : gr ≤ Z.2.1.1) : zok pw (zgrow Z i gr) := by
  have hm := zget_mem hi
  obtain ⟨h1, h2, h3, h4, h5, h6, h7⟩ := h
  refine ⟨fun P hP => ?_, ?_, ?_, fun P hP => ?_, h5, fun w hw => ?_, ?_⟩
  · rcases List.mem_or_eq_of_mem_set hP with e | e
    · exact h1 P e
    · rw [e]
      obtain ⟨k1, k2, k3, k4⟩ := h1 _ hm
      exact ⟨k1, k2, Nat.le_trans k3 (Nat.le_add_right _ _), k4⟩
  · show (Z.1.set i _).length ≤ 8
    rw [List.length_set]; exact h2
  · show ((Z.1.set i _).map (fun P => P.1)).Pairwise _
    rw [map_set_num (by rfl) hi]
    exact h3
  · rcases List.mem_or_eq_of_mem_set hP with e | e
    · exact h4 P e
    · rw [e]
      exact h4 (zget Z i) hm
  · show Z.2.1.2.2.2 w = zcnt (Z.1.set i _) w
    rw [h6 w hw]
    have e1 := sum_set (fun P => (hnd P.2.2.2.2).count w) (L := Z.1) (P := ((zget Z i).1, (zget Z i).2.1 + gr, (zget Z i).2.2)) hi
    have e4 : (hnd (Z.1.getD i (0, 0, [], [], [])).2.2.2.2).count w = (hnd (zget Z i).2.2.2.2).count w := rfl
    simp only [e4] at e1
    unfold zcnt
    omega
  · show Z.2.1.1 - gr + zcap (Z.1.set i _) + psum Z.2.1.2.2.1 = pw
    have e1 := sum_set (fun P => P.2.1) (L := Z.1) (P := ((zget Z i).1, (zget Z i).2.1 + gr, (zget Z i).2.2)) hi
    have e2 : (Z.1.getD i (0, 0, [], [], [])).2.1 = (zget Z i).2.1 := rfl
    simp only [e2] at e1
    unfold zcap at *
    omega
theorem zcol_len {i : Nat} : (zcol Z i).1.length = Z.1.length := by
  unfold zcol
  rw [List.length_set]
theorem zroom_ok (h : zok pw Z) {i n : Nat} (hi : i < Z.1.length) : zok pw (zroom Z i n).2 := by
  unfold zroom
  split
  · exact h
  · split
    · rename_i hg
      exact zgrow_ok (zcol_ok h hi) (by rw [zcol_len]; exact hi) hg
    · exact zcol_ok h hi
theorem zroom_len {i n : Nat} : (zroom Z i n).2.1.length = Z.1.length := by
  unfold zroom
  split
  · rfl
  · split
    · unfold zgrow
      rw [List.length_set, zcol_len]
    · exact zcol_len
theorem lk_pos {a b : Nat} (ha : a < 2 ^ 30) (hb : b < 2 ^ 30) : 0 < nI a - nI b ↔ b < a := by
  rw [Int32.lt_iff_toInt_lt, pk_sub_toInt ha hb]
  show (0 : Int) < _ ↔ _
  omega
theorem lk_max {a b : Nat} (ha : a < 2 ^ 30) (hb : b < 2 ^ 30) : (if 0 < nI a - nI b then nI a - nI b else 0) = nI (a - b) := by
  by_cases h : b < a
  · rw [if_pos ((lk_pos ha hb).mpr h), pk_sub (by omega)]
  · rw [if_neg (fun z => h ((lk_pos ha hb).mp z)), show a - b = 0 by omega]
    rfl
theorem stp_is {n : Nat} (h : n < 2 ^ 30) : (nI n + 8 - 1) / 8 * 8 = nI (stp n) := by
  have e1 : nI n + 8 - 1 = nI (n + 7) := by
    show nI n + nI 8 - 1 = _
    rw [nI_add, show n + 8 = (n + 7) + 1 by omega, nI_pred]
  rw [e1]
  show nI (n + 7) / nI 8 * nI 8 = _
  rw [pk_div (by omega) (by decide) (by decide), pk_mul]
  rfl
theorem stp_le {n : Nat} : stp n ≤ n + 7 := by unfold stp; omega
theorem CI_7 (C : CI pw D ow sl M o La Le Z) : ∀ m k, D m → mm_t M m = 8 → aL pw 7 k ≠ 0 → mm_t M (mm_f M 7 k m) ≠ 0 := fun m k hD hT hk => by
  rw [C.1.t hD hT k hk]
  decide
set_option maxRecDepth 100000 in
set_option maxHeartbeats 4000000 in
theorem C_room (G : gc g X t0 l) (C : CI pw D ow sl M o La Le Z) (hZ : zok pw Z) (hDl : ∀ a, D a → mm_t M a ≠ 0) {i : Nat} (hi : i < La.length) {n : Nat} (hn : n ≤ 1000) (Rs : Bool × zst) (hRs : zroom Z i n = Rs) : Ok g X l yy_CH_makeRoom cc_CH_makeRoom 4 (some .boolean) 5 118 0 0 [.ref o, .ref (La.getD i 0), .int (nI n)] M (fun v M' => v = some (.int (if Rs.1 = true then 1 else 0)) ∧ CI pw D ow sl M' o La Le Rs.2 ∧ kp pw D M M') := by
  refine ok_start (by decide) (Nat.le_of_ble_eq_true rfl) (by simp [Value.category]) ?_
  intro p e s m args below meth c9 x
  have C0 := C
  obtain ⟨⟨hDc, hTc⟩, ⟨hDs, hTs⟩, ⟨hDb, hTb⟩, hTa⟩ := CI_tags C
  obtain ⟨S, ⟨hDo, hTo, hp, hp6⟩, ⟨ha1, ha2, ha3, ha4⟩, ⟨hl, hP⟩, ⟨hpo, T0, hT0⟩, ⟨hw, hlt, hcn⟩, hL⟩ := C
  have hmem : La.getD i 0 ∈ La ++ Le := List.mem_append_left _ (getD_memN hi)
  obtain ⟨⟨hDp, hTp⟩, ⟨hDf, hTf⟩, ⟨hDm, hTm⟩⟩ := hTa _ hmem
  obtain ⟨p1, p2, p3, p4, p5⟩ := hP i hi
  have hiZ : i < Z.1.length := by omega
  have hcap := cap_le hZ hiZ
  have hus := (hZ.1 _ (zget_mem hiZ)).2.2.1
  have hZ1 := zcol_ok hZ hiZ
  have hiZ1 : i < (zcol Z i).1.length := by rw [zcol_len]; exact hiZ
  have hcap1 := cap_le hZ1 hiZ1
  have hus1 := (hZ1.1 _ (zget_mem hiZ1)).2.2.1
  refine vv_aload_n (pc := 0) x dd_CH_makeRoom_0 rfl ?_
  refine vv_iload_n (pc := 1) x dd_CH_makeRoom_1 rfl ?_
  refine lv_CH_235 (pc := 2) G x dd_CH_makeRoom_2 (k_lacks G hTp (S.or hDp hTp 2 (by decide)) hTf) hTp ⟨by decide, by decide⟩ (by decide) (by decide) (Nat.le_of_ble_eq_true rfl) (fun v2 M2 q2 => ?_)
  obtain ⟨rfl, hm2⟩ := q2
  have hm2 := hm2.symm
  subst hm2
  rw [p3.1, p2, nI_add]
  refine vv_if_gt (pc := 5) x dd_CH_makeRoom_5 (tgt := 10) (by decide) (fun h5 => ?_) (fun h5 => ?_)
  · have h6 : ¬ hsz (zget Z i).2.2.2.2 + n ≤ (zget Z i).2.1 := by
      have := (lk_pos (by omega) (by omega)).mp h5
      omega
    unfold zroom at hRs
    rw [if_neg h6] at hRs
    refine vv_aload_n (pc := 10) x dd_CH_makeRoom_10 rfl ?_
    refine vv_aload_n (pc := 11) x dd_CH_makeRoom_11 rfl ?_
    refine lv_CH_183 (pc := 12) G x dd_CH_makeRoom_12 (C_collect G C0 hZ hi) hTo ⟨by decide, by decide⟩ (by decide) (by decide) (Nat.le_of_ble_eq_true rfl) (fun v12 M12 q12 => ?_)
    obtain ⟨rfl, C1, kp1⟩ := q12
    have C10 := C1
    generalize zcol Z i = Z1 at *
    obtain ⟨⟨hDc1, hTc1⟩, ⟨hDs1, hTs1⟩, ⟨hDb1, hTb1⟩, hTa1⟩ := CI_tags C1
    obtain ⟨S1, ⟨-, hTo1, -, -⟩, -, ⟨hl1, hP1⟩, ⟨hpo1, T01, hT01⟩, -, -⟩ := C1
    obtain ⟨⟨-, hTp1⟩, ⟨hDf1, hTf1⟩, ⟨hDm1, hTm1⟩⟩ := hTa1 _ hmem
    obtain ⟨q1, q2, q3, q4, q5⟩ := hP1 i hi
    have hst := stp_le (n := hsz (zget Z1 i).2.2.2.2 + n - (zget Z1 i).2.1)
    refine vv_iconst (pc := 15) x dd_CH_makeRoom_15 (0) (by decide) ?_
    refine vv_aload_n (pc := 16) x dd_CH_makeRoom_16 rfl ?_
    refine vv_iload_n (pc := 17) x dd_CH_makeRoom_17 rfl ?_
    refine lv_CH_235 (pc := 18) G x dd_CH_makeRoom_18 (k_lacks G hTp1 (S1.or hDp hTp1 2 (by decide)) hTf1) hTp1 ⟨by decide, by decide⟩ (by decide) (by decide) (Nat.le_of_ble_eq_true rfl) (fun v18 M18 q18 => ?_)
    obtain ⟨rfl, hm18⟩ := q18
    subst hm18
    rw [q3.1, q2, nI_add]
    refine lm_CH_15 (pc := 21) G x dd_CH_makeRoom_21 ⟨by decide, by decide⟩ (Nat.le_of_ble_eq_true rfl) (by decide) (by decide) ?_
    rw [lk_max (by omega) (by omega)]
    refine lv_CH_187 (pc := 24) G x dd_CH_makeRoom_24 (k_inSteps G)  ⟨by decide, by decide⟩ (by decide) (by decide) (Nat.le_of_ble_eq_true rfl) (fun v24 M24 q24 => ?_)
    obtain ⟨rfl, hm24⟩ := q24
    subst hm24
    rw [stp_is (by omega)]
    refine vv_istore_n (pc := 27) x dd_CH_makeRoom_27 (by decide) (ls2 := [_, _, _, _]) rfl ?_
    refine vv_iload_n (pc := 28) x dd_CH_makeRoom_28 rfl ?_
    refine vv_aload_n (pc := 29) x dd_CH_makeRoom_29 rfl ?_
    refine lg_CH_27 (pc := 30) G x dd_CH_makeRoom_30 hTo1 (S1.or hDo hTo1 1 (by decide)) ?_
    refine lg_CH_66 (pc := 33) G x dd_CH_makeRoom_33 hTb1 ?_
    rw [show mm_i M24 5 0 (mm_f M24 6 1 o) = nI Z1.2.1.1 from hpo1.1]
    refine vv_icmp_le (pc := 36) x dd_CH_makeRoom_36 (tgt := 41) (by decide) (fun h36 => ?_) (fun h36 => ?_)
    · have h7 : stp (hsz (zget Z1 i).2.2.2.2 + n - (zget Z1 i).2.1) ≤ Z1.2.1.1 := (nI_leI (by omega) (by omega)).mp h36
      rw [if_pos h7] at hRs
      generalize hgr : stp (hsz (zget Z1 i).2.2.2.2 + n - (zget Z1 i).2.1) = gr at *
      refine vv_aload_n (pc := 41) x dd_CH_makeRoom_41 rfl ?_
      refine lg_CH_27 (pc := 42) G x dd_CH_makeRoom_42 hTo1 (S1.or hDo hTo1 1 (by decide)) ?_
      refine vv_dup (pc := 45) x dd_CH_makeRoom_45 rfl ?_
      refine lg_CH_66 (pc := 46) G x dd_CH_makeRoom_46 hTb1 ?_
      rw [show mm_i M24 5 0 (mm_f M24 6 1 o) = nI Z1.2.1.1 from hpo1.1]
      refine vv_iload_n (pc := 49) x dd_CH_makeRoom_49 rfl ?_
      refine vv_isub (pc := 50) x dd_CH_makeRoom_50 ?_
      rw [pk_sub h7]
      refine lp_CH_66 (pc := 51) G x dd_CH_makeRoom_51 hTb1 ?_
      refine vv_aload_n (pc := 54) x dd_CH_makeRoom_54 rfl ?_
      refine vv_dup (pc := 55) x dd_CH_makeRoom_55 rfl ?_
      refine lg_CH_108 (pc := 56) G x dd_CH_makeRoom_56 (by exact hTp1) ?_
      rw [mi_si_c (by decide), q2]
      refine vv_iload_n (pc := 59) x dd_CH_makeRoom_59 rfl ?_
      refine vv_iadd (pc := 60) x dd_CH_makeRoom_60 ?_
      rw [nI_add]
      refine lp_CH_108 (pc := 61) G x dd_CH_makeRoom_61 (by exact hTp1) ?_
      refine vv_iconst (pc := 64) x dd_CH_makeRoom_64 (1) (by decide) ?_
      exact vv_zret (pc := 65) x dd_CH_makeRoom_65 rfl (Or.inr rfl) (by decide) (by decide) ⟨by
          rw [← hRs]
          rfl, by
          rw [← hRs]
          have F : fr (stI (ob M24 o (La.getD i 0))) (scR (mm_f M24 6 4 o)) (stA pw D M24 (ob M24 o (La.getD i 0))) M24 (mm_si (mm_si M24 5 0 (mm_f M24 6 1 o) (nI (Z1.2.1.1 - gr))) 3 1 (La.getD i 0) (nI ((zget Z1 i).2.1 + gr))) := by
            refine ⟨rfl, rfl, rfl, rfl, fun c' k a z => ?_, fun _ _ _ _ => rfl, fun _ _ => rfl⟩
            rw [mi_si, if_neg (fun y => z ⟨by omega, by rw [y.2.2]; unfold ob; simp⟩), mi_si, if_neg (fun y => z ⟨by omega, by rw [y.2.2]; unfold ob; simp⟩)]
          have hst := CI_step C10 hi (P' := ((zget Z1 i).1, (zget Z1 i).2.1 + gr, (zget Z1 i).2.2)) (p' := (Z1.2.1.1 - gr, Z1.2.1.2)) F ⟨?_, ?_, ?_, q4, ?_⟩ ⟨?_, ?_, hpo1.2.2⟩ ⟨T01, ?_⟩
          · exact ⟨hst.1, kp1.trans hDl (CI_7 C0) hst.2⟩
          · rw [mi_si_k (by decide), mi_si_c (by decide)]; exact q1
          · rw [mi_si_s]
          · exact HeapIs.si (HeapIs.si q3 (by decide)) (by decide)
          · obtain ⟨f, f1, f2, f3, f4⟩ := q5
            exact ⟨f, f1, by rw [mi_si_c (by decide), mi_si_c (by decide)]; exact f2, by rw [mi_si_c (by decide), mi_si_c (by decide)]; exact f3, f4⟩
          · show mm_i (mm_si (mm_si M24 5 0 (mm_f M24 6 1 o) (nI (Z1.2.1.1 - gr))) 3 1 (La.getD i 0) (nI ((zget Z1 i).2.1 + gr))) 5 0 (mm_f M24 6 1 o) = nI (Z1.2.1.1 - gr)
            rw [mi_si_c (by decide), mi_si_s]
          · show mm_i (mm_si (mm_si M24 5 0 (mm_f M24 6 1 o) (nI (Z1.2.1.1 - gr))) 3 1 (La.getD i 0) (nI ((zget Z1 i).2.1 + gr))) 5 1 (mm_f M24 6 1 o) = nI Z1.2.1.2.1
            rw [mi_si_c (by decide), mi_si_k (by decide)]
            exact hpo1.2.1
          · exact HeapIs.si (HeapIs.si hT01 (by decide)) (by decide)⟩
    · refine vv_iconst (pc := 39) x dd_CH_makeRoom_39 (0) (by decide) ?_
      exact vv_zret (pc := 40) x dd_CH_makeRoom_40 rfl (Or.inl rfl) (by decide) (by decide) ⟨by
          have h7 : ¬ stp (hsz (zget Z1 i).2.2.2.2 + n - (zget Z1 i).2.1) ≤ Z1.2.1.1 := fun z => h36 (nI_le z (by omega))
          rw [if_neg h7] at hRs
          rw [← hRs]
          rfl, by
          have h7 : ¬ stp (hsz (zget Z1 i).2.2.2.2 + n - (zget Z1 i).2.1) ≤ Z1.2.1.1 := fun z => h36 (nI_le z (by omega))
          rw [if_neg h7] at hRs
          rw [← hRs]
          exact ⟨C10, kp1⟩⟩
  · refine vv_iconst (pc := 8) x dd_CH_makeRoom_8 (1) (by decide) ?_
    exact vv_zret (pc := 9) x dd_CH_makeRoom_9 rfl (Or.inr rfl) (by decide) (by decide) ⟨by
        have h6 : hsz (zget Z i).2.2.2.2 + n ≤ (zget Z i).2.1 := Nat.le_of_not_lt (fun z => h5 ((lk_pos (by omega) (by omega)).mpr z))
        rw [← hRs]
        unfold zroom
        rw [if_pos h6]
        rfl, by
        have h6 : hsz (zget Z i).2.2.2.2 + n ≤ (zget Z i).2.1 := Nat.le_of_not_lt (fun z => h5 ((lk_pos (by omega) (by omega)).mpr z))
        rw [← hRs]
        unfold zroom
        rw [if_pos h6]
        exact ⟨C0, kp.rf⟩⟩
end M22
