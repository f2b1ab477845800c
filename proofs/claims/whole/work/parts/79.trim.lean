/-! ===== trim ===== -/
section M36
variable {g : gg} {X : State → Prop} {t0 : Nat} {l : Launch} {M : mm} {pw : Nat} {D : Nat → Prop} {ow sl : Nat → Nat} {o : Nat} {La Le : List Nat} {Z : zst}
/-- capacities come in steps -/
def z8 (Z : zst) : Prop := ∀ P ∈ Z.1, 8 ≤ P.2.1 ∧ P.2.1 % 8 = 0
def lst8 (n : Nat) : Nat := if 8 < stp n then stp n else 8
def ztrim (Z : zst) (i : Nat) : zst := ((zcol Z i).1.set i ((zget (zcol Z i) i).1, lst8 (hsz (zget (zcol Z i) i).2.2.2.2), (zget (zcol Z i) i).2.2), ((zcol Z i).2.1.1 + ((zget (zcol Z i) i).2.1 - lst8 (hsz (zget (zcol Z i) i).2.2.2.2)), (zcol Z i).2.1.2), (zcol Z i).2.2.1, (zcol Z i).2.2.2)
theorem zcol_cap {i : Nat} (hi : i < Z.1.length) : (zget (zcol Z i) i).2.1 = (zget Z i).2.1 := by
  unfold zcol
  rw [zget_set hi, if_pos rfl]
  rfl
theorem lst8_le {n c : Nat} (h1 : 8 ≤ c) (h2 : c % 8 = 0) (h3 : n ≤ c) : lst8 n ≤ c := by
  unfold lst8 stp
  split <;> omega
theorem mx8 {n : Nat} (h : n < 2 ^ 30) : (if (8 : Int32) < nI (stp n) then nI (stp n) else 8) = nI (lst8 n) := by
  have hs := stp_le (n := n)
  unfold lst8
  by_cases h8 : 8 < stp n
  · rw [if_pos h8, if_pos (show (8 : Int32) < nI (stp n) from nI_lt (a := 8) h8 (by omega))]
  · have h9 : ¬ (8 : Int32) < nI (stp n) := fun z => h8 ((nI_ltI (a := 8) (by decide) (by omega)).mp z)
    rw [if_neg h8, if_neg h9]
    rfl
set_option maxRecDepth 100000 in
set_option maxHeartbeats 4000000 in
theorem C_trim (G : gc g X t0 l) (C : CI pw D ow sl M o La Le Z) (hZ : zok pw Z) (h8 : z8 Z) (hDl : ∀ a, D a → mm_t M a ≠ 0) {xv : Int32} (k9 : Nat) (hk9 : plc Z xv = k9) : OkX g X l yy_CH_trim cc_CH_trim 4 (some .int) 7 118 1 6 [.ref o, .int xv] M (fun v M' => v = some (.int (nI (lst8 (hsz (zget (zcol Z k9) k9).2.2.2.2)))) ∧ k9 < Z.1.length ∧ CI pw D ow sl M' o La Le (ztrim Z k9) ∧ kp pw D M M') (fun E M' => E = "java/lang/IndexOutOfBoundsException" ∧ M' = M ∧ ¬ k9 < Z.1.length) := by
  refine okx_start (by decide) (Nat.le_of_ble_eq_true rfl) (by simp [Value.category]) ?_
  intro p e s m args below meth c9 x ht0
  have C0 := C
  obtain ⟨⟨hDc, hTc⟩, ⟨hDs, hTs⟩, ⟨hDb, hTb⟩, hTa⟩ := CI_tags C
  obtain ⟨S, ⟨hDo, hTo, hp, hp6⟩, ⟨ha1, ha2, ha3, ha4⟩, ⟨hl, hP⟩, ⟨hpo, T0, hT0⟩, ⟨hw, hlt, hcn⟩, hL⟩ := C
  refine vv_aload_n (pc := 0) x dd_CH_trim_0 rfl ?_
  refine vv_iload_n (pc := 1) x dd_CH_trim_1 rfl ?_
  refine lv_CH_93x (pc := 2) G x ht0 dd_CH_trim_2 (C_living1 G C0 hZ k9 hk9) hTo ⟨by decide, by decide⟩ (by decide) (by decide) (Nat.le_of_ble_eq_true rfl) (fun v2 M2 q2 => ?_) (fun E M' q => ⟨q.1, q.2.1, q.2.2⟩)
  obtain ⟨rfl, hm3, hk⟩ := q2
  have hm3 := hm3.symm
  subst hm3
  have hi : k9 < La.length := by omega
  obtain ⟨⟨hDp, hTp⟩, ⟨hDf, hTf⟩, ⟨hDm, hTm⟩⟩ := hTa _ (List.mem_append_left Le (getD_memN hi))
  obtain ⟨p1, p2, p3, p4, p5⟩ := hP k9 hi
  refine vv_astore_n (pc := 5) x dd_CH_trim_5 (by decide) (ls2 := [_, _, _, none]) rfl ?_
  refine vv_aload_n (pc := 6) x dd_CH_trim_6 rfl ?_
  refine vv_aload_n (pc := 7) x dd_CH_trim_7 rfl ?_
  refine lv_CH_183 (pc := 8) G x dd_CH_trim_8 (C_collect G C0 hZ hi) hTo ⟨by decide, by decide⟩ (by decide) (by decide) (Nat.le_of_ble_eq_true rfl) (fun v8 M8 q8 => ?_)
  obtain ⟨rfl, C1, kp1⟩ := q8
  have hc8 := h8 _ (zget_mem hk)
  have hcc := zcol_cap hk
  have hZ1 := zcol_ok hZ hk
  have hk1 : k9 < (zcol Z k9).1.length := by rw [zcol_len]; exact hk
  unfold ztrim
  generalize zcol Z k9 = Z1 at *
  have hcap1 := cap_le hZ1 hk1
  have hus1 := (hZ1.1 _ (zget_mem hk1)).2.2.1
  have hle8 := lst8_le (n := hsz (zget Z1 k9).2.2.2.2) (c := (zget Z1 k9).2.1) (by rw [hcc]; exact hc8.1) (by rw [hcc]; exact hc8.2) hus1
  have C10 := C1
  obtain ⟨-, -, ⟨hDb1, hTb1⟩, hTa1⟩ := CI_tags C1
  obtain ⟨S1, ⟨-, hTo1, -, -⟩, -, ⟨hl1, hP1⟩, ⟨hpo1, T01, hT01⟩, -, -⟩ := C1
  obtain ⟨⟨-, hTp1⟩, ⟨hDf1, hTf1⟩, -⟩ := hTa1 _ (List.mem_append_left Le (getD_memN hi))
  obtain ⟨u1, u2, u3, u4, u5⟩ := hP1 k9 hi
  refine vv_bipush (pc := 11) x dd_CH_trim_11 (8) (by decide) ?_
  refine vv_aload_n (pc := 13) x dd_CH_trim_13 rfl ?_
  refine lg_CH_97 (pc := 14) G x dd_CH_trim_14 hTp1 (S1.or hDp hTp1 2 (by decide)) ?_
  refine lg_CH_180 (pc := 17) G x dd_CH_trim_17 hTf1 ?_
  rw [u3.1]
  refine lv_CH_187 (pc := 20) G x dd_CH_trim_20 (k_inSteps G)  ⟨by decide, by decide⟩ (by decide) (by decide) (Nat.le_of_ble_eq_true rfl) (fun v20 M20 q20 => ?_)
  obtain ⟨rfl, hm20⟩ := q20
  have hm20 := hm20.symm
  subst hm20
  rw [stp_is (by omega)]
  refine lm_CH_15 (pc := 23) G x dd_CH_trim_23 ⟨by decide, by decide⟩ (Nat.le_of_ble_eq_true rfl) (by decide) (by decide) ?_
  rw [mx8 (by omega)]
  generalize hL8 : lst8 (hsz (zget Z1 k9).2.2.2.2) = l8 at *
  refine vv_istore_n (pc := 26) x dd_CH_trim_26 (by decide) (ls2 := [_, _, _, _]) rfl ?_
  refine vv_aload_n (pc := 27) x dd_CH_trim_27 rfl ?_
  refine lg_CH_27 (pc := 28) G x dd_CH_trim_28 hTo1 (S1.or hDo hTo1 1 (by decide)) ?_
  refine vv_dup (pc := 31) x dd_CH_trim_31 rfl ?_
  refine lg_CH_66 (pc := 32) G x dd_CH_trim_32 hTb1 ?_
  refine vv_aload_n (pc := 35) x dd_CH_trim_35 rfl ?_
  refine lg_CH_108 (pc := 36) G x dd_CH_trim_36 hTp1 ?_
  refine vv_iload_n (pc := 39) x dd_CH_trim_39 rfl ?_
  rw [u2]
  refine vv_isub (pc := 40) x dd_CH_trim_40 ?_
  rw [pk_sub hle8, show mm_i M8 5 0 (mm_f M8 6 1 o) = nI Z1.2.1.1 from hpo1.1]
  refine vv_iadd (pc := 41) x dd_CH_trim_41 ?_
  rw [nI_add]
  refine lp_CH_66 (pc := 42) G x dd_CH_trim_42 hTb1 ?_
  refine vv_aload_n (pc := 45) x dd_CH_trim_45 rfl ?_
  refine vv_iload_n (pc := 46) x dd_CH_trim_46 rfl ?_
  refine lp_CH_108 (pc := 47) G x dd_CH_trim_47 (by exact hTp1) ?_
  refine vv_iload_n (pc := 50) x dd_CH_trim_50 rfl ?_
  exact vvx_ret (vv_iret (pc := 51) x dd_CH_trim_51 rfl (by decide) (by decide) ⟨rfl, hk, by
      have F : fr (stI (ob M8 o (La.getD k9 0))) (scR (mm_f M8 6 4 o)) (stA pw D M8 (ob M8 o (La.getD k9 0))) M8 (mm_si (mm_si M8 5 0 (mm_f M8 6 1 o) (nI (Z1.2.1.1 + ((zget Z1 k9).2.1 - l8)))) 3 1 (La.getD k9 0) (nI l8)) := by
        refine ⟨rfl, rfl, rfl, rfl, fun c' k a z => ?_, fun _ _ _ _ => rfl, fun _ _ => rfl⟩
        rw [mi_si, if_neg (fun y => z ⟨by omega, by rw [y.2.2]; unfold ob; simp⟩), mi_si, if_neg (fun y => z ⟨by omega, by rw [y.2.2]; unfold ob; simp⟩)]
      have hst := CI_step C10 hi (P' := ((zget Z1 k9).1, l8, (zget Z1 k9).2.2)) (p' := (Z1.2.1.1 + ((zget Z1 k9).2.1 - l8), Z1.2.1.2)) F ⟨?_, ?_, ?_, u4, ?_⟩ ⟨?_, ?_, hpo1.2.2⟩ ⟨T01, ?_⟩
      · exact ⟨hst.1, kp1.trans hDl (CI_7 C0) hst.2⟩
      · rw [mi_si_k (by decide), mi_si_c (by decide)]; exact u1
      · rw [mi_si_s]
      · exact HeapIs.si (HeapIs.si u3 (by decide)) (by decide)
      · obtain ⟨f, f1, f2, f3, f4⟩ := u5
        exact ⟨f, f1, by rw [mi_si_c (by decide), mi_si_c (by decide)]; exact f2, by rw [mi_si_c (by decide), mi_si_c (by decide)]; exact f3, f4⟩
      · show mm_i (mm_si (mm_si M8 5 0 (mm_f M8 6 1 o) (nI (Z1.2.1.1 + ((zget Z1 k9).2.1 - l8)))) 3 1 (La.getD k9 0) (nI l8)) 5 0 (mm_f M8 6 1 o) = nI (Z1.2.1.1 + ((zget Z1 k9).2.1 - l8))
        rw [mi_si_c (by decide), mi_si_s]
      · show mm_i (mm_si (mm_si M8 5 0 (mm_f M8 6 1 o) (nI (Z1.2.1.1 + ((zget Z1 k9).2.1 - l8)))) 3 1 (La.getD k9 0) (nI l8)) 5 1 (mm_f M8 6 1 o) = nI Z1.2.1.2.1
        rw [mi_si_c (by decide), mi_si_k (by decide)]
        exact hpo1.2.1
      · exact HeapIs.si (HeapIs.si hT01 (by decide)) (by decide)⟩)
end M36
