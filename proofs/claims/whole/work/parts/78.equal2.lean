/-! ===== equal, the walk ===== -/
section M35
variable {g : gg} {X : State → Prop} {t0 : Nat} {l : Launch} {M : mm} {pw : Nat} {D : Nat → Prop} {ow sl : Nat → Nat} {o : Nat} {La Le : List Nat} {Z : zst}
theorem ite_01 (b9 : Bool) : (if b9 = true then (1 : Int32) else 0) = 0 ∨ (if b9 = true then (1 : Int32) else 0) = 1 := by cases b9 <;> decide
set_option maxRecDepth 100000 in
set_option maxHeartbeats 4000000 in
theorem C_equal (G : gc g X t0 l) (C : CI pw D ow sl M o La Le Z) (hZ : zok pw Z) {xv rv : Int32} (k9 : Nat) (hk9 : plc Z xv = k9) {ov sv : Int32} (k2 : Nat) (hk2 : plc Z ov = k2) (Rs : Bool × List (Int32 × Int32)) (hRs : cmpr (zget Z k9).2.2.2.2 (zget Z k2).2.2.2.2 2000 [(zrg Z k9 rv, zrg Z k2 sv)] = Rs) : OkX g X l yy_CH_equal cc_CH_equal 8 (some .boolean) 8 133 5 30 [.ref o, .int xv, .int rv, .int ov, .int sv] M (fun v M' => v = some (.int (if Rs.1 = true then 1 else 0)) ∧ ((k9 < Z.1.length ∧ rok rv) ∧ k2 < Z.1.length ∧ rok sv) ∧ (Rs.1 = true → Rs.2 = []) ∧ CI pw D ow sl M' o La Le (Z) ∧ kp pw D M M') (fun E M' => (E = "java/lang/IndexOutOfBoundsException" ∧ M' = M ∧ ¬ ((k9 < Z.1.length ∧ rok rv) ∧ k2 < Z.1.length ∧ rok sv)) ∨ (E = "java/lang/UnsupportedOperationException" ∧ ((k9 < Z.1.length ∧ rok rv) ∧ k2 < Z.1.length ∧ rok sv) ∧ Rs.1 = true ∧ ¬ Rs.2 = [] ∧ CI pw D ow sl M' o La Le (Z) ∧ kp pw D M M')) := by
  refine okx_start (by decide) (Nat.le_of_ble_eq_true rfl) (by simp [Value.category]) ?_
  intro p e s m args below meth c9 x ht0
  have C0 := C
  obtain ⟨⟨hDc, hTc⟩, ⟨hDs, hTs⟩, ⟨hDb, hTb⟩, hTa⟩ := CI_tags C
  obtain ⟨S, ⟨hDo, hTo, hp, hp6⟩, ⟨ha1, ha2, ha3, ha4⟩, ⟨hl, hP⟩, ⟨hpo, T0, hT0⟩, ⟨hw, hlt, hcn⟩, hL⟩ := C
  refine vv_aload_n (pc := 0) x dd_CH_equal_0 rfl ?_
  refine vv_iload_n (pc := 1) x dd_CH_equal_1 rfl ?_
  refine vv_iload_n (pc := 2) x dd_CH_equal_2 rfl ?_
  refine lv_CH_115x (pc := 3) G x ht0 dd_CH_equal_3 (C_living2 G C0 hZ k9 hk9) hTo ⟨by decide, by decide⟩ (by decide) (by decide) (Nat.le_of_ble_eq_true rfl) (fun v3 M3 q3 => ?_) (fun E M' q => Or.inl ⟨q.1, q.2.1, fun z => q.2.2 z.1⟩)
  obtain ⟨rfl, hm3, hk, hr⟩ := q3
  have hm3 := hm3.symm
  subst hm3
  have hi : k9 < La.length := by omega
  obtain ⟨⟨hDp, hTp⟩, ⟨hDf, hTf⟩, ⟨hDm, hTm⟩⟩ := hTa _ (List.mem_append_left Le (getD_memN hi))
  obtain ⟨p1, p2, p3, p4, p5⟩ := hP k9 hi
  obtain ⟨hin, hj, ej⟩ := rok_in hr
  have rr := S.r hDp hTp 3 (show (4 : Nat) ≠ 0 by decide)
  have tr := S.t hDp hTp 3 (show (4 : Nat) ≠ 0 by decide)
  have nr : mm_n M (mm_f M 3 3 (La.getD k9 0)) = 4 := S.n hDp hTp 3 (show (4 : Nat) ≠ 0 by decide)
  have eg : mm_a M (mm_f M 3 3 (La.getD k9 0)) rv.toNatClampNeg = zrg Z k9 rv := p4 _ hj
  refine vv_astore (pc := 6) x dd_CH_equal_6 (by decide) (ls2 := [_, _, _, _, _, _, none, none]) rfl ?_
  refine vv_aload_n (pc := 8) x dd_CH_equal_8 rfl ?_
  refine vv_iload_n (pc := 9) x dd_CH_equal_9 rfl ?_
  refine vv_iload (pc := 10) x dd_CH_equal_10 rfl ?_
  refine lv_CH_115x (pc := 12) G x ht0 dd_CH_equal_12 (C_living2 G C0 hZ k2 hk2) hTo ⟨by decide, by decide⟩ (by decide) (by decide) (Nat.le_of_ble_eq_true rfl) (fun v12 M12 q12 => ?_) (fun E M' q => Or.inl ⟨q.1, q.2.1, fun z => q.2.2 z.2⟩)
  obtain ⟨rfl, hm12, hk2l, hs2⟩ := q12
  have hm12 := hm12.symm
  subst hm12
  have hi2 : k2 < La.length := by omega
  obtain ⟨⟨hDp2, hTp2⟩, ⟨hDf2, hTf2⟩, -⟩ := hTa _ (List.mem_append_left Le (getD_memN hi2))
  obtain ⟨-, -, w3, w4, -⟩ := hP k2 hi2
  have rr2 := S.r hDp2 hTp2 3 (show (4 : Nat) ≠ 0 by decide)
  have tr2 := S.t hDp2 hTp2 3 (show (4 : Nat) ≠ 0 by decide)
  have nr2 : mm_n M (mm_f M 3 3 (La.getD k2 0)) = 4 := S.n hDp2 hTp2 3 (show (4 : Nat) ≠ 0 by decide)
  have eg2 : mm_a M (mm_f M 3 3 (La.getD k2 0)) sv.toNatClampNeg = zrg Z k2 sv := w4 _ (rok_in hs2).2.1
  have hD5 : D (mm_f M 6 5 o) := S.od hDo hTo 5 (by decide)
  have hT5 : mm_t M (mm_f M 6 5 o) = 2 := S.ot hDo hTo 5 (by decide)
  have o1 := hZ.1 _ (zget_mem hk)
  have o2 := hZ.1 _ (zget_mem hk2l)
  obtain ⟨cp, hcp⟩ := cpo_of o1.2.1 p3.2.2.1 o1.2.2.2.2.2.2.2
  refine vv_astore (pc := 15) x dd_CH_equal_15 (by decide) (ls2 := [_, _, _, _, _, _, _, none]) rfl ?_
  refine vv_aload_n (pc := 17) x dd_CH_equal_17 rfl ?_
  refine lg_CH_51 (pc := 18) G x dd_CH_equal_18 hTo (S.or hDo hTo 5 (by decide)) ?_
  refine vv_aload (pc := 21) x dd_CH_equal_21 rfl ?_
  refine lg_CH_97 (pc := 23) G x dd_CH_equal_23 hTp (S.or hDp hTp 2 (by decide)) ?_
  refine vv_aload (pc := 26) x dd_CH_equal_26 rfl ?_
  refine lg_CH_118 (pc := 28) G x dd_CH_equal_28 hTp rr ?_
  refine vv_iload_n (pc := 31) x dd_CH_equal_31 rfl ?_
  refine vv_iald (pc := 32) x dd_CH_equal_32 tr (by rw [nr]; exact hin) ?_
  rw [eg]
  refine vv_aload (pc := 33) x dd_CH_equal_33 rfl ?_
  refine lg_CH_97 (pc := 35) G x dd_CH_equal_35 hTp2 (S.or hDp2 hTp2 2 (by decide)) ?_
  refine vv_aload (pc := 38) x dd_CH_equal_38 rfl ?_
  refine lg_CH_118 (pc := 40) G x dd_CH_equal_40 hTp2 rr2 ?_
  refine vv_iload (pc := 43) x dd_CH_equal_43 rfl ?_
  refine vv_iald (pc := 45) x dd_CH_equal_45 tr2 (by rw [nr2]; exact (rok_in hs2).1) ?_
  rw [eg2]
  refine lv_CH_216 (pc := 46) G x dd_CH_equal_46 (K_cstart G S hp hp6 hD5 hT5) hT5 ⟨by decide, by decide⟩ (by decide) (by decide) (Nat.le_of_ble_eq_true rfl) (fun v46 M46 q46 => ?_)
  obtain ⟨rfl, F1, K1⟩ := q46
  have S1 := sh.cm F1 S
  have ff1 : ∀ k a, mm_f M46 6 k a = mm_f M 6 k a := fun k a => F1.f (fun z => absurd z.1 (by decide))
  have hTo1 : mm_t M46 o = 7 := by rw [F1.1]; exact hTo
  refine vv_aload_n (pc := 49) x dd_CH_equal_49 rfl ?_
  refine lg_CH_51 (pc := 50) G x dd_CH_equal_50 hTo1 (S1.or hDo hTo1 5 (by decide)) ?_
  rw [ff1]
  refine lv_CH_219 (pc := 53) G x dd_CH_equal_53 (K_finds (st := [(zrg Z k9 rv, zrg Z k2 sv)]) (cp := cp) G S1 hp hp6 (by exact K1) hDf (by rw [F1.1]; exact hTf) hDf2 (by rw [F1.1]; exact hTf2) (heap_cm S hp hD5 hT5 hDf hTf F1 p3) (heap_cm S hp hD5 hT5 hDf2 hTf2 F1 w3) o1.2.2.2.2.2.1 o2.2.2.2.2.2.1 hcp ⟨Nat.zero_le _, trivial⟩ (fun p9 hp9 => by rw [List.mem_singleton.mp hp9]; exact ⟨zrg_vt hZ hk hr, zrg_vt hZ hk2l hs2⟩) Rs hRs) K1.1.1 ⟨by decide, by decide⟩ (by decide) (by decide) (Nat.le_of_ble_eq_true rfl) (fun v53 M53 q53 => ?_)
  obtain ⟨rfl, F2, K2⟩ := q53
  have e5 : mm_f M46 6 5 o = mm_f M 6 5 o := ff1 5 o
  have F3 := F1.cm F2
  have S3 := sh.cm F3 S
  have C3 := CI_cmp C0 F3
  have hTo3 : mm_t M53 o = 7 := by rw [F3.1]; exact hTo
  have ff3 : ∀ k a, mm_f M53 6 k a = mm_f M 6 k a := fun k a => F3.f (fun z => absurd z.1 (by decide))
  refine vv_istore (pc := 56) x dd_CH_equal_56 (by decide) (ls2 := [_, _, _, _, _, _, _, _]) rfl ?_
  refine vv_iload (pc := 58) x dd_CH_equal_58 rfl ?_
  refine vv_if_eq (pc := 60) x dd_CH_equal_60 (tgt := 81) (by decide) (fun h60 => ?_) (fun h60 => ?_)
  · refine vv_iload (pc := 81) x dd_CH_equal_81 rfl ?_
    exact vvx_ret (vv_zret (pc := 83) x dd_CH_equal_83 rfl (ite_01 _) (by decide) (by decide) ⟨rfl, ⟨⟨hk, hr⟩, hk2l, hs2⟩, fun z => by rw [if_pos z] at h60; exact absurd h60 (by decide), C3.1, C3.2⟩)
  · refine vv_aload_n (pc := 63) x dd_CH_equal_63 rfl ?_
    refine lg_CH_51 (pc := 64) G x dd_CH_equal_64 hTo3 (S3.or hDo hTo3 5 (by decide)) ?_
    rw [ff3]
    refine lv_CH_222 (pc := 67) G x dd_CH_equal_67 (K_unfinished G K2 hp6) K2.1.1 ⟨by decide, by decide⟩ (by decide) (by decide) (Nat.le_of_ble_eq_true rfl) (fun v67 M67 q67 => ?_)
    obtain ⟨rfl, hm67⟩ := q67
    have hm67 := hm67.symm
    subst hm67
    refine vv_if_eq (pc := 70) x dd_CH_equal_70 (tgt := 81) (by decide) (fun h70 => ?_) (fun h70 => ?_)
    · refine vv_iload (pc := 81) x dd_CH_equal_81 rfl ?_
      exact vvx_ret (vv_zret (pc := 83) x dd_CH_equal_83 rfl (ite_01 _) (by decide) (by decide) ⟨rfl, ⟨⟨hk, hr⟩, hk2l, hs2⟩, fun _ => Classical.byContradiction (fun z => by rw [if_neg (fun y => z (List.reverse_eq_nil_iff.mp y))] at h70; exact absurd h70 (by decide)), C3.1, C3.2⟩)
    · exact lx_CH_147 (pc := 73) G x ht0 dd_CH_equal_73 dd_CH_equal_76 dd_CH_equal_77 dd_CH_equal_80 ⟨by decide, by decide⟩ (Nat.le_of_ble_eq_true rfl) (by decide) (by decide) (Or.inr ⟨rfl, ⟨⟨hk, hr⟩, hk2l, hs2⟩, Classical.byContradiction (fun z => h60 (by rw [if_neg z])), fun z => h70 (by rw [z]; rfl), C3.1, C3.2⟩)
end M35
