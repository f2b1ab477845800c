/-! ===== tuple ===== -/
section M31
variable {g : gg} {X : State → Prop} {t0 : Nat} {l : Launch} {M : mm} {pw : Nat} {D : Nat → Prop} {ow sl : Nat → Nat} {o : Nat} {La Le : List Nat} {Z : zst} {B : List bk} {b : bk}
set_option maxRecDepth 100000 in
set_option maxHeartbeats 4000000 in
theorem C_tuple (G : gc g X t0 l) (C : CI pw D ow sl M o La Le Z) (hZ : zok pw Z) (hDl : ∀ a, D a → mm_t M a ≠ 0) {xv rv : Int32} (k9 : Nat) (hk9 : plc Z xv = k9) {nv : Int32} : OkX g X l yy_CH_tuple cc_CH_tuple 5 none 8 163 4 24 [.ref o, .int xv, .int rv, .int nv] M (fun v M' => v = none ∧ (k9 < Z.1.length ∧ rok rv) ∧ (¬ nv < 0 ∧ nv ≤ 4) ∧ (zroom Z k9 (nv.toNatClampNeg + 1)).1 = true ∧ CI pw D ow sl M' o La Le (zreg (zbk (zroom Z k9 (nv.toNatClampNeg + 1)).2 k9 (4, (zget (zroom Z k9 (nv.toNatClampNeg + 1)).2 k9).2.2.1.take nv.toNatClampNeg)) k9 rv.toNatClampNeg (tk 4 (hsz (zget (zroom Z k9 (nv.toNatClampNeg + 1)).2 k9).2.2.2.2))) ∧ kp pw D M M') (fun E M' => (E = "java/lang/IndexOutOfBoundsException" ∧ M' = M ∧ ¬ (k9 < Z.1.length ∧ rok rv)) ∨ (E = "java/lang/IllegalArgumentException" ∧ M' = M ∧ (k9 < Z.1.length ∧ rok rv) ∧ ¬ (¬ nv < 0 ∧ nv ≤ 4)) ∨ (E = "java/lang/IllegalStateException" ∧ (k9 < Z.1.length ∧ rok rv) ∧ (¬ nv < 0 ∧ nv ≤ 4) ∧ ¬ (zroom Z k9 (nv.toNatClampNeg + 1)).1 = true ∧ CI pw D ow sl M' o La Le ((zroom Z k9 (nv.toNatClampNeg + 1)).2) ∧ kp pw D M M')) := by
  refine okx_start (by decide) (Nat.le_of_ble_eq_true rfl) (by simp [Value.category]) ?_
  intro p e s m args below meth c9 x ht0
  have C0 := C
  obtain ⟨⟨hDc, hTc⟩, ⟨hDs, hTs⟩, ⟨hDb, hTb⟩, hTa⟩ := CI_tags C
  obtain ⟨S, ⟨hDo, hTo, hp, hp6⟩, ⟨ha1, ha2, ha3, ha4⟩, ⟨hl, hP⟩, ⟨hpo, T0, hT0⟩, ⟨hw, hlt, hcn⟩, hL⟩ := C
  refine vv_aload_n (pc := 0) x dd_CH_tuple_0 rfl ?_
  refine vv_iload_n (pc := 1) x dd_CH_tuple_1 rfl ?_
  refine vv_iload_n (pc := 2) x dd_CH_tuple_2 rfl ?_
  refine lv_CH_115x (pc := 3) G x ht0 dd_CH_tuple_3 (C_living2 G C0 hZ k9 hk9) hTo ⟨by decide, by decide⟩ (by decide) (by decide) (Nat.le_of_ble_eq_true rfl) (fun v3 M3 q3 => ?_) (fun E M' q => Or.inl ⟨q.1, q.2.1, q.2.2⟩)
  obtain ⟨rfl, hm3, hk, hr⟩ := q3
  have hm3 := hm3.symm
  subst hm3
  have hi : k9 < La.length := by omega
  obtain ⟨⟨hDp, hTp⟩, ⟨hDf, hTf⟩, ⟨hDm, hTm⟩⟩ := hTa _ (List.mem_append_left Le (getD_memN hi))
  obtain ⟨p1, p2, p3, p4, p5⟩ := hP k9 hi
  obtain ⟨hin, hj, ej⟩ := rok_in hr
  have rr := S.r hDp hTp 3 (show (4 : Nat) ≠ 0 by decide)
  have tr := S.t hDp hTp 3 (show (4 : Nat) ≠ 0 by decide)
  have nr : mm_n M (mm_f M 3 3 (La.getD k9 0)) = 4 := S.n hDp hTp 3 (show (4 : Nat) ≠ 0 by decide)
  have eg : mm_a M (mm_f M 3 3 (La.getD k9 0)) rv.toNatClampNeg = zrg Z k9 rv := p4 _ hj
  refine vv_astore (pc := 6) x dd_CH_tuple_6 (by decide) (ls2 := [_, _, _, _, _]) rfl ?_
  refine vv_iload_n (pc := 8) x dd_CH_tuple_8 rfl ?_
  refine vv_if_lt (pc := 9) x dd_CH_tuple_9 (tgt := 17) (by decide) (fun h9 => ?_) (fun h9 => ?_)
  · exact lx_CH_124 (pc := 17) G x ht0 dd_CH_tuple_17 dd_CH_tuple_20 dd_CH_tuple_21 dd_CH_tuple_24 ⟨by decide, by decide⟩ (Nat.le_of_ble_eq_true rfl) (by decide) (by decide) (Or.inr (Or.inl ⟨rfl, rfl, ⟨hk, hr⟩, fun z => z.1 h9⟩))
  · refine vv_iload_n (pc := 12) x dd_CH_tuple_12 rfl ?_
    refine vv_iconst (pc := 13) x dd_CH_tuple_13 (4) (by decide) ?_
    refine vv_icmp_le (pc := 14) x dd_CH_tuple_14 (tgt := 25) (by decide) (fun h14 => ?_) (fun h14 => ?_)
    · obtain ⟨n9, n91, n92⟩ := nI_of h9
      have n94 : n9 ≤ 4 := (nI_leI (b := 4) n91 (by decide)).mp (by rw [← n92]; exact h14)
      have n93 : nv.toNatClampNeg = n9 := by rw [n92, nI_clamp n91]
      rw [n93]
      refine vv_aload_n (pc := 25) x dd_CH_tuple_25 rfl ?_
      refine vv_aload (pc := 26) x dd_CH_tuple_26 rfl ?_
      refine vv_iload_n (pc := 28) x dd_CH_tuple_28 rfl ?_
      refine vv_iconst (pc := 29) x dd_CH_tuple_29 (1) (by decide) ?_
      refine vv_iadd (pc := 30) x dd_CH_tuple_30 ?_
      rw [n92, nI_1]
      refine lv_CH_133x (pc := 31) G x ht0 dd_CH_tuple_31 (C_need (n := n9 + 1) G C0 hZ hDl hi (by omega) _ rfl) hTo ⟨by decide, by decide⟩ (by decide) (by decide) (Nat.le_of_ble_eq_true rfl) (fun v31 M31 q31 => ?_) (fun E M' q => Or.inr (Or.inr ⟨q.1, ⟨hk, hr⟩, by rw [← n92]; exact ⟨h9, h14⟩, q.2.1, q.2.2⟩))
      obtain ⟨rfl, hR1, C1, kp1⟩ := q31
      have hZ1 := zroom_ok (n := n9 + 1) hZ hk
      have hfit := zroom_fit hk hR1
      have hzl := zroom_len (Z := Z) (i := k9) (n := n9 + 1)
      generalize zroom Z k9 (n9 + 1) = RR at *
      obtain ⟨ok2, Z1⟩ := RR
      obtain ⟨-, -, -, hTa1⟩ := CI_tags C1
      have C10 := C1
      obtain ⟨S1, ⟨-, hTo1, -, -⟩, -, ⟨hl1, hP1⟩, -, -, -⟩ := C1
      obtain ⟨⟨-, hTp1⟩, ⟨hDf1, hTf1⟩, ⟨hDm1, hTm1⟩⟩ := hTa1 _ (List.mem_append_left Le (getD_memN hi))
      obtain ⟨u1, u2, u3, u4, u5⟩ := hP1 k9 hi
      have hk1 : k9 < Z1.1.length := by have hzl' : Z1.1.length = Z.1.length := hzl; omega
      have hZ1' : zok pw Z1 := hZ1
      have hfit' : hsz (zget Z1 k9).2.2.2.2 + (n9 + 1) ≤ (zget Z1 k9).2.1 := hfit
      have hcap1 := cap_le hZ1' hk1
      have rr1 := S1.r hDp hTp1 3 (show (4 : Nat) ≠ 0 by decide)
      have tr1 := S1.t hDp hTp1 3 (show (4 : Nat) ≠ 0 by decide)
      have nr1 : mm_n M31 (mm_f M31 3 3 (La.getD k9 0)) = 4 := S1.n hDp hTp1 3 (show (4 : Nat) ≠ 0 by decide)
      have k14 := (hZ1'.1 _ (zget_mem hk1)).1
      have k15 := (hZ1'.1 _ (zget_mem hk1)).2.2.2.1
      have htl9 : ((zget Z1 k9).2.2.1.take n9).length = n9 := by rw [List.length_take]; omega
      refine vv_aload (pc := 34) x dd_CH_tuple_34 rfl ?_
      refine lg_CH_118 (pc := 36) G x dd_CH_tuple_36 hTp1 rr1 ?_
      refine vv_iload_n (pc := 39) x dd_CH_tuple_39 rfl ?_
      refine vv_aload (pc := 40) x dd_CH_tuple_40 rfl ?_
      refine lg_CH_97 (pc := 42) G x dd_CH_tuple_42 hTp1 (S1.or hDp hTp1 2 (by decide)) ?_
      refine vv_aload (pc := 45) x dd_CH_tuple_45 rfl ?_
      refine lg_CH_118 (pc := 47) G x dd_CH_tuple_47 hTp1 rr1 ?_
      refine vv_iload_n (pc := 50) x dd_CH_tuple_50 rfl ?_
      refine lv_CH_140 (pc := 51) G x dd_CH_tuple_51 (K_addTuple (B := (zget Z1 k9).2.2.2.2) (Rg := (zget Z1 k9).2.2.1) G S1 hp hp6 hDf1 hTf1 u3 n94 k14 tr1 nr1 u4 (S1.ap hDp hTp1 (k := 3) (show (4 : Nat) ≠ 0 by decide) hDf1 hTf1 (k2 := 3) hp (Or.inl (ne_tag hTp1 hTf1 (by decide)))) (by omega)) hTf1 ⟨by decide, by decide⟩ (by decide) (by decide) (Nat.le_of_ble_eq_true rfl) (fun v51 M51 q51 => ?_)
      obtain ⟨rfl, hH⟩ := q51
      have F2 := hadd_fr hH
      have hadd9 := CI_add C10 hi hH
      have hZ2 := zbk_ok (b := (4, (zget Z1 k9).2.2.1.take n9)) hZ1' hp6 hk1 (Or.inr (Or.inl ⟨rfl, by show ((zget Z1 k9).2.2.1.take n9).length ≤ 4; rw [htl9]; exact n94⟩)) (fun t9 ht9 => k15 t9 (List.mem_of_mem_take (show t9 ∈ (zget Z1 k9).2.2.1.take n9 from ht9))) (by show ¬ (4 : Nat) = 5; decide) (by show _ + (((zget Z1 k9).2.2.1.take n9).length + 1) ≤ _; rw [htl9]; exact hfit')
      have hrg := CI_reg (t := tk 4 (hsz (zget Z1 k9).2.2.2.2)) hadd9.1 hZ2 hi hj
      have ff : ∀ c' k a, mm_f M51 c' k a = mm_f M31 c' k a := fun c' k a => F2.f (fun z => z)
      rw [ff] at hrg
      refine vv_iast (pc := 54) x dd_CH_tuple_54 (by rw [F2.1]; exact tr1) (by rw [F2.2.1, nr1]; exact hin) ?_
      exact vvx_ret (vv_vret (pc := 55) x dd_CH_tuple_55 rfl (by decide) (by decide) ⟨rfl, ⟨hk, hr⟩, by rw [← n92]; exact ⟨h9, h14⟩, hR1, hrg.1, kp1.trans hDl (CI_7 C0) (hadd9.2.trans (fun a9 h9 => by rw [(kp1.1 a9 (hDl a9 h9)).1]; exact hDl a9 h9) (CI_7 C10) hrg.2)⟩)
    · exact lx_CH_124 (pc := 17) G x ht0 dd_CH_tuple_17 dd_CH_tuple_20 dd_CH_tuple_21 dd_CH_tuple_24 ⟨by decide, by decide⟩ (Nat.le_of_ble_eq_true rfl) (by decide) (by decide) (Or.inr (Or.inl ⟨rfl, rfl, ⟨hk, hr⟩, fun z => h14 z.2⟩))
end M31
