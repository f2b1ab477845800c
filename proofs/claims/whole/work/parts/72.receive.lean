/-! ===== value, receive ===== -/
section M29
variable {g : gg} {X : State → Prop} {t0 : Nat} {l : Launch} {M : mm} {pw : Nat} {D : Nat → Prop} {ow sl : Nat → Nat} {o : Nat} {La Le : List Nat} {Z : zst} {B : List bk}
def zval (Z : zst) (k : Nat) (t : Int32) : Int32 := if kd t = 1 ∨ kd t = 2 then t >>> ((3 : Int32) &&& 31) else if kd t = 5 then nI (Z.2.1.2.2.1 ((hbt (zget Z k).2.2.2.2 t).2.getD 0 0).toNatClampNeg) else nI (pts (zget Z k).2.2.2.2 t).length
def zpop (Z : zst) (i : Nat) : zst := (Z.1.set i ((zget Z i).1, (zget Z i).2.1, (zget Z i).2.2.1, (zget Z i).2.2.2.1.tail, (zget Z i).2.2.2.2), Z.2.1, Z.2.2.1, Z.2.2.2)
theorem zpop_ok (h : zok pw Z) {i : Nat} (hi : i < Z.1.length) : zok pw (zpop Z i) := by
  obtain ⟨k1, k2, k3, k4, k5, k6⟩ := h.1 _ (zget_mem hi)
  exact zset_ok h hi ⟨k1, k2, k3, k4, fun t ht => k5 t (List.mem_of_mem_tail ht), k6⟩ rfl rfl rfl
theorem zpop_len {i : Nat} : (zpop Z i).1.length = Z.1.length := by
  unfold zpop
  rw [List.length_set]
set_option maxRecDepth 100000 in
set_option maxHeartbeats 4000000 in
theorem C_value (G : gc g X t0 l) (C : CI pw D ow sl M o La Le Z) (hZ : zok pw Z) {xv rv : Int32} (k9 : Nat) (hk9 : plc Z xv = k9) : OkX g X l yy_CH_value cc_CH_value 5 (some .int) 8 133 2 12 [.ref o, .int xv, .int rv] M (fun v M' => v = some (.int (zval Z k9 (zrg Z k9 rv))) ∧ M' = M ∧ k9 < Z.1.length ∧ rok rv) (fun E M' => E = "java/lang/IndexOutOfBoundsException" ∧ M' = M ∧ ¬ (k9 < Z.1.length ∧ rok rv)) := by
  refine okx_start (by decide) (Nat.le_of_ble_eq_true rfl) (by simp [Value.category]) ?_
  intro p e s m args below meth c9 x ht0
  have C0 := C
  obtain ⟨⟨hDc, hTc⟩, ⟨hDs, hTs⟩, ⟨hDb, hTb⟩, hTa⟩ := CI_tags C
  obtain ⟨S, ⟨hDo, hTo, hp, hp6⟩, ⟨ha1, ha2, ha3, ha4⟩, ⟨hl, hP⟩, ⟨hpo, T0, hT0⟩, ⟨hw, hlt, hcn⟩, hL⟩ := C
  refine vv_aload_n (pc := 0) x dd_CH_value_0 rfl ?_
  refine vv_iload_n (pc := 1) x dd_CH_value_1 rfl ?_
  refine vv_iload_n (pc := 2) x dd_CH_value_2 rfl ?_
  refine lv_CH_115x (pc := 3) G x ht0 dd_CH_value_3 (C_living2 G C0 hZ k9 hk9) hTo ⟨by decide, by decide⟩ (by decide) (by decide) (Nat.le_of_ble_eq_true rfl) (fun v3 M3 q3 => ?_) (fun E M' q => ⟨q.1, q.2.1, q.2.2⟩)
  obtain ⟨rfl, hm3, hk, hr⟩ := q3
  have hm3 := hm3.symm
  subst hm3
  have hi : k9 < La.length := by omega
  obtain ⟨⟨hDp, hTp⟩, ⟨hDf, hTf⟩, ⟨hDm, hTm⟩⟩ := hTa _ (List.mem_append_left Le (getD_memN hi))
  obtain ⟨p1, p2, p3, p4, p5⟩ := hP k9 hi
  obtain ⟨hin, hj, ej⟩ := rok_in hr
  have rr := S.r hDp hTp 3 (show (4 : Nat) ≠ 0 by decide)
  have tr := S.t hDp hTp 3 (show (4 : Nat) ≠ 0 by decide)
  have nr : mm_n M (mm_f M 3 3 (La.getD k9 0)) = 4 := S.n hDp hTp 3 (show (4 : Nat) ≠ 0 by decide)
  have eg : mm_a M (mm_f M 3 3 (La.getD k9 0)) rv.toNatClampNeg = zrg Z k9 rv := p4 _ hj
  refine vv_astore_n (pc := 6) x dd_CH_value_6 (by decide) (ls2 := [_, _, _, _, none]) rfl ?_
  refine vv_aload_n (pc := 7) x dd_CH_value_7 rfl ?_
  refine lg_CH_118 (pc := 8) G x dd_CH_value_8 hTp rr ?_
  refine vv_iload_n (pc := 11) x dd_CH_value_11 rfl ?_
  refine vv_iald (pc := 12) x dd_CH_value_12 tr (by rw [nr]; exact hin) ?_
  rw [eg]
  refine vv_istore (pc := 13) x dd_CH_value_13 (by decide) (ls2 := [_, _, _, _, _]) rfl ?_
  refine vv_iload (pc := 15) x dd_CH_value_15 rfl ?_
  refine lv_CH_193 (pc := 17) G x dd_CH_value_17 (k_kindOf G)  ⟨by decide, by decide⟩ (by decide) (by decide) (Nat.le_of_ble_eq_true rfl) (fun v17 M17 q17 => ?_)
  obtain ⟨rfl, hm17⟩ := q17
  have hm17 := hm17.symm
  subst hm17
  rw [and7]
  have kl := kd_lt (zrg Z k9 rv)
  have hvt := zrg_vt hZ hk hr
  have kq : ∀ n, n < 8 → nI (kd (zrg Z k9 rv)) = nI n → kd (zrg Z k9 rv) = n := fun n hn e9 => (nI_eq (by omega) (by omega)).mp e9
  refine sw_CH_value_20 x (fun h20_1 => ?_) (fun h20_2 => ?_) (fun h20_3 => ?_) (fun h20_4 => ?_) (fun h20_5 => ?_) (fun n20_1 n20_2 n20_3 n20_4 n20_5 => ?_)
  · refine vv_iload (pc := 56) x dd_CH_value_56 rfl ?_
    refine lv_CH_196 (pc := 58) G x dd_CH_value_58 (k_contentOf G)  ⟨by decide, by decide⟩ (by decide) (by decide) (Nat.le_of_ble_eq_true rfl) (fun v58 M58 q58 => ?_)
    obtain ⟨rfl, hm58⟩ := q58
    have hm58 := hm58.symm
    subst hm58
    exact vvx_ret (vv_iret (pc := 61) x dd_CH_value_61 rfl (by decide) (by decide) ⟨by unfold zval; rw [if_pos (Or.inl (kq 1 (by decide) h20_1))], rfl, hk, hr⟩)
  · refine vv_iload (pc := 56) x dd_CH_value_56 rfl ?_
    refine lv_CH_196 (pc := 58) G x dd_CH_value_58 (k_contentOf G)  ⟨by decide, by decide⟩ (by decide) (by decide) (Nat.le_of_ble_eq_true rfl) (fun v58 M58 q58 => ?_)
    obtain ⟨rfl, hm58⟩ := q58
    have hm58 := hm58.symm
    subst hm58
    exact vvx_ret (vv_iret (pc := 61) x dd_CH_value_61 rfl (by decide) (by decide) ⟨by unfold zval; rw [if_pos (Or.inr (kq 2 (by decide) h20_2))], rfl, hk, hr⟩)
  · refine vv_aload_n (pc := 80) x dd_CH_value_80 rfl ?_
    refine lg_CH_97 (pc := 81) G x dd_CH_value_81 hTp (S.or hDp hTp 2 (by decide)) ?_
    refine vv_iload (pc := 84) x dd_CH_value_84 rfl ?_
    refine lv_CH_156 (pc := 86) G x dd_CH_value_86 (K_pcv G S hp hp6 hDf hTf p3 hvt) hTf ⟨by decide, by decide⟩ (by decide) (by decide) (Nat.le_of_ble_eq_true rfl) (fun v86 M86 q86 => ?_)
    obtain ⟨rfl, hm86⟩ := q86
    have hm86 := hm86.symm
    subst hm86
    exact vvx_ret (vv_iret (pc := 89) x dd_CH_value_89 rfl (by decide) (by decide) ⟨by have e3 := kq 3 (by decide) h20_3; unfold zval; rw [if_neg (by omega), if_neg (by omega)], rfl, hk, hr⟩)
  · refine vv_aload_n (pc := 80) x dd_CH_value_80 rfl ?_
    refine lg_CH_97 (pc := 81) G x dd_CH_value_81 hTp (S.or hDp hTp 2 (by decide)) ?_
    refine vv_iload (pc := 84) x dd_CH_value_84 rfl ?_
    refine lv_CH_156 (pc := 86) G x dd_CH_value_86 (K_pcv G S hp hp6 hDf hTf p3 hvt) hTf ⟨by decide, by decide⟩ (by decide) (by decide) (Nat.le_of_ble_eq_true rfl) (fun v86 M86 q86 => ?_)
    obtain ⟨rfl, hm86⟩ := q86
    have hm86 := hm86.symm
    subst hm86
    exact vvx_ret (vv_iret (pc := 89) x dd_CH_value_89 rfl (by decide) (by decide) ⟨by have e3 := kq 4 (by decide) h20_4; unfold zval; rw [if_neg (by omega), if_neg (by omega)], rfl, hk, hr⟩)
  · have h5 : kd (zrg Z k9 rv) = 5 := kq 5 (by decide) h20_5
    obtain ⟨w, w1, w2, w3⟩ := blob_is hZ hk hvt h5
    have nb : mm_n M (mm_f M 5 2 (mm_f M 6 1 o)) = 30 := S.n hDb hTb 2 (show (30 : Nat) ≠ 0 by decide)
    refine vv_aload_n (pc := 62) x dd_CH_value_62 rfl ?_
    refine lg_CH_27 (pc := 63) G x dd_CH_value_63 hTo (S.or hDo hTo 1 (by decide)) ?_
    refine lg_CH_199 (pc := 66) G x dd_CH_value_66 hTb (S.r hDb hTb 2 (show (30 : Nat) ≠ 0 by decide)) ?_
    refine vv_aload_n (pc := 69) x dd_CH_value_69 rfl ?_
    refine lg_CH_97 (pc := 70) G x dd_CH_value_70 hTp (S.or hDp hTp 2 (by decide)) ?_
    refine vv_iload (pc := 73) x dd_CH_value_73 rfl ?_
    refine lv_CH_202 (pc := 75) G x dd_CH_value_75 (K_bov G S hp hp6 hDf hTf p3 hvt h5) hTf ⟨by decide, by decide⟩ (by decide) (by decide) (Nat.le_of_ble_eq_true rfl) (fun v75 M75 q75 => ?_)
    obtain ⟨rfl, hm75⟩ := q75
    have hm75 := hm75.symm
    subst hm75
    have ev9 : ∀ {y : Int32}, y = (hbt (zget Z k9).2.2.2.2 (zrg Z k9 rv)).2.getD 0 0 → y = nI w := fun z => z.trans w2
    refine vv_iald (pc := 78) x dd_CH_value_78 (S.t hDb hTb 2 (show (30 : Nat) ≠ 0 by decide)) (by rw [w2]; exact in_n w1 nb (by decide)) ?_
    exact vvx_ret (vv_iret (pc := 79) x dd_CH_value_79 rfl (by decide) (by decide) ⟨by
        have h9 : mm_a M (mm_f M 5 2 (mm_f M 6 1 o)) w = nI (Z.2.1.2.2.1 w) := (hpo.2.2 w w1).2 w3
        unfold zval
        rw [if_neg (by omega), if_pos h5, w2, nI_clamp (by omega), h9], rfl, hk, hr⟩)
  · refine vv_aload_n (pc := 80) x dd_CH_value_80 rfl ?_
    refine lg_CH_97 (pc := 81) G x dd_CH_value_81 hTp (S.or hDp hTp 2 (by decide)) ?_
    refine vv_iload (pc := 84) x dd_CH_value_84 rfl ?_
    refine lv_CH_156 (pc := 86) G x dd_CH_value_86 (K_pcv G S hp hp6 hDf hTf p3 hvt) hTf ⟨by decide, by decide⟩ (by decide) (by decide) (Nat.le_of_ble_eq_true rfl) (fun v86 M86 q86 => ?_)
    obtain ⟨rfl, hm86⟩ := q86
    have hm86 := hm86.symm
    subst hm86
    exact vvx_ret (vv_iret (pc := 89) x dd_CH_value_89 rfl (by decide) (by decide) ⟨by
        have e1 : ¬ kd (zrg Z k9 rv) = 1 := fun z => n20_1 (by rw [z]; rfl)
        have e2 : ¬ kd (zrg Z k9 rv) = 2 := fun z => n20_2 (by rw [z]; rfl)
        have e5 : ¬ kd (zrg Z k9 rv) = 5 := fun z => n20_5 (by rw [z]; rfl)
        unfold zval
        rw [if_neg (by omega), if_neg e5], rfl, hk, hr⟩)
set_option maxRecDepth 100000 in
set_option maxHeartbeats 4000000 in
theorem C_receive (G : gc g X t0 l) (C : CI pw D ow sl M o La Le Z) (hZ : zok pw Z) (hDl9 : ∀ a, D a → mm_t M a ≠ 0) {xv rv : Int32} (k9 : Nat) (hk9 : plc Z xv = k9) : OkX g X l yy_CH_receive cc_CH_receive 4 (some .int) 8 133 3 18 [.ref o, .int xv, .int rv] M (fun v M' => v = some (.int (nI ((zget Z k9).2.2.2.1.length - 1))) ∧ (k9 < Z.1.length ∧ rok rv) ∧ 0 < (zget Z k9).2.2.2.1.length ∧ CI pw D ow sl M' o La Le (zreg (zpop Z k9) k9 rv.toNatClampNeg ((zget Z k9).2.2.2.1.getD 0 0)) ∧ kp pw D M M') (fun E M' => (E = "java/lang/IndexOutOfBoundsException" ∧ M' = M ∧ ¬ (k9 < Z.1.length ∧ rok rv)) ∨ (E = "java/lang/IllegalStateException" ∧ M' = M ∧ (k9 < Z.1.length ∧ rok rv) ∧ (zget Z k9).2.2.2.1.length = 0)) := by
  refine okx_start (by decide) (Nat.le_of_ble_eq_true rfl) (by simp [Value.category]) ?_
  intro p e s m args below meth c9 x ht0
  have C0 := C
  obtain ⟨⟨hDc, hTc⟩, ⟨hDs, hTs⟩, ⟨hDb, hTb⟩, hTa⟩ := CI_tags C
  obtain ⟨S, ⟨hDo, hTo, hp, hp6⟩, ⟨ha1, ha2, ha3, ha4⟩, ⟨hl, hP⟩, ⟨hpo, T0, hT0⟩, ⟨hw, hlt, hcn⟩, hL⟩ := C
  have hDl := hDl9
  refine vv_aload_n (pc := 0) x dd_CH_receive_0 rfl ?_
  refine vv_iload_n (pc := 1) x dd_CH_receive_1 rfl ?_
  refine vv_iload_n (pc := 2) x dd_CH_receive_2 rfl ?_
  refine lv_CH_115x (pc := 3) G x ht0 dd_CH_receive_3 (C_living2 G C0 hZ k9 hk9) hTo ⟨by decide, by decide⟩ (by decide) (by decide) (Nat.le_of_ble_eq_true rfl) (fun v3 M3 q3 => ?_) (fun E M' q => Or.inl ⟨q.1, q.2.1, q.2.2⟩)
  obtain ⟨rfl, hm3, hk, hr⟩ := q3
  have hm3 := hm3.symm
  subst hm3
  have hi : k9 < La.length := by omega
  obtain ⟨⟨hDp, hTp⟩, ⟨hDf, hTf⟩, ⟨hDm, hTm⟩⟩ := hTa _ (List.mem_append_left Le (getD_memN hi))
  obtain ⟨p1, p2, p3, p4, p5⟩ := hP k9 hi
  obtain ⟨hin, hj, ej⟩ := rok_in hr
  have rr := S.r hDp hTp 3 (show (4 : Nat) ≠ 0 by decide)
  have tr := S.t hDp hTp 3 (show (4 : Nat) ≠ 0 by decide)
  have nr : mm_n M (mm_f M 3 3 (La.getD k9 0)) = 4 := S.n hDp hTp 3 (show (4 : Nat) ≠ 0 by decide)
  have eg : mm_a M (mm_f M 3 3 (La.getD k9 0)) rv.toNatClampNeg = zrg Z k9 rv := p4 _ hj
  refine vv_astore_n (pc := 6) x dd_CH_receive_6 (by decide) (ls2 := [_, _, _, _]) rfl ?_
  refine vv_aload_n (pc := 7) x dd_CH_receive_7 rfl ?_
  refine lg_CH_169 (pc := 8) G x dd_CH_receive_8 hTp (S.or hDp hTp 4 (by decide)) ?_
  refine lg_CH_173 (pc := 11) G x dd_CH_receive_11 hTm ?_
  obtain ⟨f9, g1, g2, g3, g4, g5⟩ := id p5
  rw [g2]
  refine vv_if_ne (pc := 14) x dd_CH_receive_14 (tgt := 25) (by decide) (fun h14 => ?_) (fun h14 => ?_)
  · have hpos : 0 < (zget Z k9).2.2.2.1.length := Nat.pos_of_ne_zero (fun z => h14 (by rw [z]; rfl))
    obtain ⟨m9, ms9, e9⟩ : ∃ m9 ms9, (zget Z k9).2.2.2.1 = m9 :: ms9 := by
      cases h9 : (zget Z k9).2.2.2.1 with
      | nil => rw [h9] at hpos; simp at hpos
      | cons a b => exact ⟨a, b, rfl⟩
    have p6 := p5
    rw [e9] at p6
    refine vv_aload_n (pc := 25) x dd_CH_receive_25 rfl ?_
    refine lg_CH_118 (pc := 26) G x dd_CH_receive_26 hTp rr ?_
    refine vv_iload_n (pc := 29) x dd_CH_receive_29 rfl ?_
    refine vv_aload_n (pc := 30) x dd_CH_receive_30 rfl ?_
    refine lg_CH_169 (pc := 31) G x dd_CH_receive_31 hTp (S.or hDp hTp 4 (by decide)) ?_
    refine lv_CH_177 (pc := 34) G x dd_CH_receive_34 (K_takeFirst G S hDm hTm p6) hTm ⟨by decide, by decide⟩ (by decide) (by decide) (Nat.le_of_ble_eq_true rfl) (fun v34 M34 q34 => ?_)
    obtain ⟨rfl, F, hM9⟩ := q34
    have NB : mm_f M 3 4 (La.getD k9 0) ∈ ob M o (La.getD k9 0) := by unfold ob; simp
    have ff : ∀ c' k a, mm_f M34 c' k a = mm_f M c' k a := fun c' k a => F.f (fun z => z)
    have hst := CI_step C0 hi (M1 := M34) (P' := ((zget Z k9).1, (zget Z k9).2.1, (zget Z k9).2.2.1, (zget Z k9).2.2.2.1.tail, (zget Z k9).2.2.2.2)) (p' := Z.2.1) (F.mono (fun c' k a z => ⟨by have := z.1; omega, by rw [z.2.2]; exact NB⟩) (fun _ _ _ z => z.elim) (fun _ z => z.elim)) ⟨by rw [F.2.2.2.2.1 _ _ _ (fun z => absurd z.1 (by decide))]; exact p1, by rw [F.2.2.2.2.1 _ _ _ (fun z => absurd z.1 (by decide))]; exact p2, by rw [ff]; exact HeapIs.fr F p3 (fun z => absurd z.1 (by decide)) (fun z => absurd z.1 (by decide)) (fun z => z) (fun z => z) (fun z => z) (fun z => z), fun j9 hj9 => by rw [ff, F.2.2.2.2.2.2 _ (fun z => z)]; exact p4 j9 hj9, by rw [ff]; show MailIs M34 _ (zget Z k9).2.2.2.1.tail; rw [e9]; exact hM9⟩ (by
      unfold PoolIs pget
      rw [ff, ff, F.2.2.2.2.1 _ _ _ (fun z => absurd z.1 (by decide)), F.2.2.2.2.1 _ _ _ (fun z => absurd z.1 (by decide)), F.2.2.2.2.2.2 _ (fun z => z), F.2.2.2.2.2.2 _ (fun z => z)]
      exact hpo) ⟨T0, HeapIs.fr F hT0 (fun z => absurd z.1 (by decide)) (fun z => absurd z.1 (by decide)) (fun z => z) (fun z => z) (fun z => z) (fun z => z)⟩
    have hrg := CI_reg (t := m9) hst.1 (zpop_ok hZ hk) hi hj
    rw [ff] at hrg
    have tr2 : mm_t M34 (mm_f M 3 3 (La.getD k9 0)) = 100 := by rw [F.1]; exact tr
    have nr2 : mm_n M34 (mm_f M 3 3 (La.getD k9 0)) = 4 := by rw [F.2.1]; exact nr
    have hTp2 : mm_t M34 (La.getD k9 0) = 4 := by rw [F.1]; exact hTp
    have hTm2 : mm_t M34 (mm_f M 3 4 (La.getD k9 0)) = 5 := by rw [F.1]; exact hTm
    have S2 := F.sh (fun _ _ _ z => z.elim) S
    have h40 : mm_i M34 4 0 (mm_f M 3 4 (La.getD k9 0)) = nI ms9.length := by
      obtain ⟨f8, y1, y2, y3⟩ := hM9
      exact y2
    refine vv_iast (pc := 37) x dd_CH_receive_37 tr2 (by rw [nr2]; exact hin) ?_
    refine vv_aload_n (pc := 38) x dd_CH_receive_38 rfl ?_
    refine lg_CH_169 (pc := 39) G x dd_CH_receive_39 (by exact hTp2) (by exact S2.or hDp hTp2 4 (by decide)) ?_
    rw [mf_sa, ff]
    refine lg_CH_173 (pc := 42) G x dd_CH_receive_42 (by exact hTm2) ?_
    rw [mi_sa, h40]
    exact vvx_ret (vv_iret (pc := 45) x dd_CH_receive_45 rfl (by decide) (by decide) ⟨by rw [e9]; rfl, ⟨hk, hr⟩, hpos, by
        rw [e9]
        exact ⟨hrg.1, hst.2.trans hDl (CI_7 C0) hrg.2⟩⟩)
  · exact lx_CH_69 (pc := 17) G x ht0 dd_CH_receive_17 dd_CH_receive_20 dd_CH_receive_21 dd_CH_receive_24 ⟨by decide, by decide⟩ (Nat.le_of_ble_eq_true rfl) (by decide) (by decide) (Or.inr ⟨rfl, rfl, ⟨hk, hr⟩, (nI_eq (b := 0) (by omega) (by decide)).mp h14⟩)
end M29
