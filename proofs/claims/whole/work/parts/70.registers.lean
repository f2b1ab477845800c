/-! ===== the methods that read or set a register ===== -/
section M27
variable {g : gg} {X : State → Prop} {t0 : Nat} {l : Launch} {M : mm} {pw : Nat} {D : Nat → Prop} {ow sl : Nat → Nat} {o : Nat} {La Le : List Nat} {Z : zst}
theorem rok_in {rv : Int32} (h : rok rv) : vp_in rv 4 ∧ rv.toNatClampNeg < 4 ∧ rv = nI rv.toNatClampNeg := by
  obtain ⟨j, h1, e⟩ := nI_of h.1
  have h2 : j < 4 := (nI_ltI (b := 4) h1 (by decide)).mp (by rw [← e]; exact h.2)
  subst e
  rw [nI_clamp h1]
  exact ⟨vp_in_nI h2 (by decide), h2, rfl⟩
theorem zset_ok (h : zok pw Z) {i : Nat} {P' : pcs} (hi : i < Z.1.length) (hP : pok P') (e1 : P'.1 = (zget Z i).1) (e2 : P'.2.1 = (zget Z i).2.1) (e3 : P'.2.2.2.2 = (zget Z i).2.2.2.2) : zok pw (Z.1.set i P', Z.2.1, Z.2.2.1, Z.2.2.2) := by
  have hm := zget_mem hi
  obtain ⟨h1, h2, h3, h4, h5, h6, h7⟩ := h
  refine ⟨fun P hP2 => ?_, ?_, ?_, fun P hP2 => ?_, h5, fun w hw => ?_, ?_⟩
  · rcases List.mem_or_eq_of_mem_set hP2 with e | e
    · exact h1 P e
    · rw [e]; exact hP
  · show (Z.1.set i _).length ≤ 8
    rw [List.length_set]; exact h2
  · show ((Z.1.set i _).map (fun P => P.1)).Pairwise _
    rw [map_set_num e1 hi]
    exact h3
  · rcases List.mem_or_eq_of_mem_set hP2 with e | e
    · exact h4 P e
    · rw [e, e1]
      exact h4 (zget Z i) hm
  · show Z.2.1.2.2.2 w = zcnt (Z.1.set i _) w
    rw [h6 w hw]
    have e5 := sum_set (fun P => (hnd P.2.2.2.2).count w) (L := Z.1) (P := P') hi
    have e4 : (hnd (Z.1.getD i (0, 0, [], [], [])).2.2.2.2).count w = (hnd (zget Z i).2.2.2.2).count w := rfl
    simp only [e4, e3] at e5
    unfold zcnt
    omega
  · show Z.2.1.1 + zcap (Z.1.set i _) + psum Z.2.1.2.2.1 = pw
    have e5 := sum_set (fun P => P.2.1) (L := Z.1) (P := P') hi
    have e6 : (Z.1.getD i (0, 0, [], [], [])).2.1 = (zget Z i).2.1 := rfl
    simp only [e6, e2] at e5
    unfold zcap at *
    omega
def zreg (Z : zst) (i j : Nat) (t : Int32) : zst := (Z.1.set i ((zget Z i).1, (zget Z i).2.1, (zget Z i).2.2.1.set j t, (zget Z i).2.2.2.1, (zget Z i).2.2.2.2), Z.2.1, Z.2.2.1, Z.2.2.2)
def zrg (Z : zst) (i : Nat) (rv : Int32) : Int32 := (zget Z i).2.2.1.getD rv.toNatClampNeg 0
theorem zreg_ok (h : zok pw Z) {i j : Nat} {t : Int32} (hi : i < Z.1.length) (ht : vt (zget Z i).2.2.2.2 t) : zok pw (zreg Z i j t) := by
  obtain ⟨k1, k2, k3, k4, k5⟩ := h.1 _ (zget_mem hi)
  refine zset_ok h hi ⟨by show (List.set _ _ _).length = 4; rw [List.length_set]; exact k1, k2, k3, fun t1 h1 => ?_, k5⟩ rfl rfl rfl
  rcases List.mem_or_eq_of_mem_set h1 with e | e
  · exact k4 t1 e
  · rw [e]; exact ht
theorem zrg_vt (h : zok pw Z) {i : Nat} {rv : Int32} (hi : i < Z.1.length) (hr : rok rv) : vt (zget Z i).2.2.2.2 (zrg Z i rv) := by
  obtain ⟨k1, k2, k3, k4, k5⟩ := h.1 _ (zget_mem hi)
  exact k4 _ (getD_mem (by rw [k1]; exact (rok_in hr).2.1))
theorem CI_reg (C : CI pw D ow sl M o La Le Z) (hZ : zok pw Z) {i j : Nat} {t : Int32} (hi : i < La.length) (hj : j < 4) : CI pw D ow sl (mm_sa M (mm_f M 3 3 (La.getD i 0)) (upd (mm_a M (mm_f M 3 3 (La.getD i 0))) j t)) o La Le (zreg Z i j t) ∧ kp pw D M (mm_sa M (mm_f M 3 3 (La.getD i 0)) (upd (mm_a M (mm_f M 3 3 (La.getD i 0))) j t)) := by
  have C0 := C
  obtain ⟨⟨hDc, hTc⟩, ⟨hDs, hTs⟩, ⟨hDb, hTb⟩, hTa⟩ := CI_tags C
  obtain ⟨S, ⟨hDo, hTo, hp, hp6⟩, ⟨ha1, ha2, ha3, ha4⟩, ⟨hl, hP⟩, ⟨hpo, T0, hT0⟩, -, -⟩ := C
  obtain ⟨⟨hDp, hTp⟩, ⟨hDf, hTf⟩, ⟨hDm, hTm⟩⟩ := hTa _ (List.mem_append_left Le (getD_memN hi))
  obtain ⟨p1, p2, p3, p4, p5⟩ := hP i hi
  have k1 := (hZ.1 _ (zget_mem (Z := Z) (i := i) (by omega))).1
  have NA : ∀ {a1 c1 k2 : Nat}, D a1 → mm_t M a1 = c1 + 1 → aL pw c1 k2 ≠ 0 → a1 ≠ La.getD i 0 → mm_f M c1 k2 a1 ≠ mm_f M 3 3 (La.getD i 0) := fun h1 h2 h3 h4 => S.ap h1 h2 h3 hDp hTp (k2 := 3) (show (4 : Nat) ≠ 0 by decide) (Or.inl h4)
  refine CI_step C0 hi (fr_sa.mono (fun _ _ _ z => z.elim) (fun _ _ _ z => z.elim) (fun a z => by rw [z]; exact stA_in hDp hTp (show (4 : Nat) ≠ 0 by decide) (by decide) (by unfold ob; simp))) ⟨p1, p2, ?_, fun x hx => ?_, ?_⟩ ?_ ⟨T0, ?_⟩
  · exact HeapIs.sa p3 (NA hDf hTf hp (ne_tag hTf hTp (by decide))) (NA hDf hTf hp (ne_tag hTf hTp (by decide)))
  · rw [mf_sa, ma_sa_s]
    show upd _ j t x = (List.set _ j t).getD x 0
    unfold upd
    by_cases e : x = j
    · subst e
      rw [if_pos rfl, List.getD_eq_getElem?_getD, List.getElem?_set_self (by omega)]
      rfl
    · rw [if_neg e, p4 x hx, List.getD_eq_getElem?_getD, List.getD_eq_getElem?_getD, List.getElem?_set_ne (fun z => e z.symm)]
  · exact MailIs.fr fr_sa p5 (fun z => z) (fun z => z) (fun z => z) (NA hDm hTm (show (512 : Nat) ≠ 0 by decide) (ne_tag hTm hTp (by decide)))
  · unfold PoolIs pget
    rw [mf_sa, ma_sa_n (NA (c1 := 5) (k2 := 2) hDb hTb (show (30 : Nat) ≠ 0 by decide) (ne_tag hTb hTp (by decide))), ma_sa_n (NA (c1 := 5) (k2 := 3) hDb hTb (show (30 : Nat) ≠ 0 by decide) (ne_tag hTb hTp (by decide)))]
    exact hpo
  · exact HeapIs.sa hT0 (NA hDs hTs hp (ne_tag hTs hTp (by decide))) (NA hDs hTs hp (ne_tag hTs hTp (by decide)))
set_option maxRecDepth 100000 in
set_option maxHeartbeats 4000000 in
theorem C_nil (G : gc g X t0 l) (C : CI pw D ow sl M o La Le Z) (hZ : zok pw Z) {xv rv : Int32} (k9 : Nat) (hk9 : plc Z xv = k9) : OkX g X l yy_CH_nil cc_CH_nil 3 none 8 133 2 12 [.ref o, .int xv, .int rv] M (fun v M' => v = none ∧ (k9 < Z.1.length ∧ rok rv) ∧ CI pw D ow sl M' o La Le (zreg Z k9 rv.toNatClampNeg 0) ∧ kp pw D M M') (fun E M' => E = "java/lang/IndexOutOfBoundsException" ∧ M' = M ∧ ¬ (k9 < Z.1.length ∧ rok rv)) := by
  refine okx_start (by decide) (Nat.le_of_ble_eq_true rfl) (by simp [Value.category]) ?_
  intro p e s m args below meth c9 x ht0
  have C0 := C
  obtain ⟨⟨hDc, hTc⟩, ⟨hDs, hTs⟩, ⟨hDb, hTb⟩, hTa⟩ := CI_tags C
  obtain ⟨S, ⟨hDo, hTo, hp, hp6⟩, ⟨ha1, ha2, ha3, ha4⟩, ⟨hl, hP⟩, ⟨hpo, T0, hT0⟩, ⟨hw, hlt, hcn⟩, hL⟩ := C
  refine vv_aload_n (pc := 0) x dd_CH_nil_0 rfl ?_
  refine vv_iload_n (pc := 1) x dd_CH_nil_1 rfl ?_
  refine vv_iload_n (pc := 2) x dd_CH_nil_2 rfl ?_
  refine lv_CH_115x (pc := 3) G x ht0 dd_CH_nil_3 (C_living2 G C0 hZ k9 hk9) hTo ⟨by decide, by decide⟩ (by decide) (by decide) (Nat.le_of_ble_eq_true rfl) (fun v3 M3 q3 => ?_) (fun E M' q => ⟨q.1, q.2.1, q.2.2⟩)
  obtain ⟨rfl, hm3, hk, hr⟩ := q3
  have hm3 := hm3.symm
  subst hm3
  have hi : k9 < La.length := by omega
  obtain ⟨⟨hDp, hTp⟩, ⟨hDf, hTf⟩, ⟨hDm, hTm⟩⟩ := hTa _ (List.mem_append_left Le (getD_memN hi))
  obtain ⟨p1, p2, p3, p4, p5⟩ := hP k9 hi
  obtain ⟨hin, hj, ej⟩ := rok_in hr
  have rr := S.r hDp hTp 3 (show (4 : Nat) ≠ 0 by decide)
  have tr := S.t hDp hTp 3 (show (4 : Nat) ≠ 0 by decide)
  have nr : mm_n M (mm_f M 3 3 (La.getD k9 0)) = 4 := S.n hDp hTp 3 (show (4 : Nat) ≠ 0 by decide)
  have eg : mm_a M (mm_f M 3 3 (La.getD k9 0)) rv.toNatClampNeg = zrg Z k9 rv := p4 _ hj
  refine lg_CH_118 (pc := 6) G x dd_CH_nil_6 hTp rr ?_
  refine vv_iload_n (pc := 9) x dd_CH_nil_9 rfl ?_
  refine vv_iconst (pc := 10) x dd_CH_nil_10 (0) (by decide) ?_
  refine vv_iast (pc := 11) x dd_CH_nil_11 tr (by rw [nr]; exact hin) ?_
  exact vvx_ret (vv_vret (pc := 12) x dd_CH_nil_12 rfl (by decide) (by decide) ⟨rfl, ⟨hk, hr⟩, CI_reg C0 hZ hi hj⟩)
set_option maxRecDepth 100000 in
set_option maxHeartbeats 4000000 in
theorem C_integer (G : gc g X t0 l) (C : CI pw D ow sl M o La Le Z) (hZ : zok pw Z) {xv rv : Int32} (k9 : Nat) (hk9 : plc Z xv = k9) {nv : Int32} : OkX g X l yy_CH_integer cc_CH_integer 5 none 8 133 3 18 [.ref o, .int xv, .int rv, .int nv] M (fun v M' => v = none ∧ (k9 < Z.1.length ∧ rok rv) ∧ (¬ nv < -134217728 ∧ nv ≤ 134217727) ∧ CI pw D ow sl M' o La Le (zreg Z k9 rv.toNatClampNeg (8 * nv + 1)) ∧ kp pw D M M') (fun E M' => (E = "java/lang/IndexOutOfBoundsException" ∧ M' = M ∧ ¬ (k9 < Z.1.length ∧ rok rv)) ∨ (E = "java/lang/IllegalArgumentException" ∧ M' = M ∧ (k9 < Z.1.length ∧ rok rv) ∧ ¬ (¬ nv < -134217728 ∧ nv ≤ 134217727))) := by
  refine okx_start (by decide) (Nat.le_of_ble_eq_true rfl) (by simp [Value.category]) ?_
  intro p e s m args below meth c9 x ht0
  have C0 := C
  obtain ⟨⟨hDc, hTc⟩, ⟨hDs, hTs⟩, ⟨hDb, hTb⟩, hTa⟩ := CI_tags C
  obtain ⟨S, ⟨hDo, hTo, hp, hp6⟩, ⟨ha1, ha2, ha3, ha4⟩, ⟨hl, hP⟩, ⟨hpo, T0, hT0⟩, ⟨hw, hlt, hcn⟩, hL⟩ := C
  refine vv_aload_n (pc := 0) x dd_CH_integer_0 rfl ?_
  refine vv_iload_n (pc := 1) x dd_CH_integer_1 rfl ?_
  refine vv_iload_n (pc := 2) x dd_CH_integer_2 rfl ?_
  refine lv_CH_115x (pc := 3) G x ht0 dd_CH_integer_3 (C_living2 G C0 hZ k9 hk9) hTo ⟨by decide, by decide⟩ (by decide) (by decide) (Nat.le_of_ble_eq_true rfl) (fun v3 M3 q3 => ?_) (fun E M' q => Or.inl ⟨q.1, q.2.1, q.2.2⟩)
  obtain ⟨rfl, hm3, hk, hr⟩ := q3
  have hm3 := hm3.symm
  subst hm3
  have hi : k9 < La.length := by omega
  obtain ⟨⟨hDp, hTp⟩, ⟨hDf, hTf⟩, ⟨hDm, hTm⟩⟩ := hTa _ (List.mem_append_left Le (getD_memN hi))
  obtain ⟨p1, p2, p3, p4, p5⟩ := hP k9 hi
  obtain ⟨hin, hj, ej⟩ := rok_in hr
  have rr := S.r hDp hTp 3 (show (4 : Nat) ≠ 0 by decide)
  have tr := S.t hDp hTp 3 (show (4 : Nat) ≠ 0 by decide)
  have nr : mm_n M (mm_f M 3 3 (La.getD k9 0)) = 4 := S.n hDp hTp 3 (show (4 : Nat) ≠ 0 by decide)
  have eg : mm_a M (mm_f M 3 3 (La.getD k9 0)) rv.toNatClampNeg = zrg Z k9 rv := p4 _ hj
  refine vv_astore (pc := 6) x dd_CH_integer_6 (by decide) (ls2 := [_, _, _, _, _]) rfl ?_
  refine vv_iload_n (pc := 8) x dd_CH_integer_8 rfl ?_
  refine ll_CH_122 (pc := 9) G x dd_CH_integer_9 ?_
  refine vv_icmp_lt (pc := 11) x dd_CH_integer_11 (tgt := 20) (by decide) (fun h11 => ?_) (fun h11 => ?_)
  · exact lx_CH_124 (pc := 20) G x ht0 dd_CH_integer_20 dd_CH_integer_23 dd_CH_integer_24 dd_CH_integer_27 ⟨by decide, by decide⟩ (Nat.le_of_ble_eq_true rfl) (by decide) (by decide) (Or.inr ⟨rfl, rfl, ⟨hk, hr⟩, fun z => z.1 h11⟩)
  · refine vv_iload_n (pc := 14) x dd_CH_integer_14 rfl ?_
    refine ll_CH_123 (pc := 15) G x dd_CH_integer_15 ?_
    refine vv_icmp_le (pc := 17) x dd_CH_integer_17 (tgt := 28) (by decide) (fun h17 => ?_) (fun h17 => ?_)
    · refine vv_aload (pc := 28) x dd_CH_integer_28 rfl ?_
      refine lg_CH_118 (pc := 30) G x dd_CH_integer_30 hTp rr ?_
      refine vv_iload_n (pc := 33) x dd_CH_integer_33 rfl ?_
      refine vv_iconst (pc := 34) x dd_CH_integer_34 (1) (by decide) ?_
      refine vv_iload_n (pc := 35) x dd_CH_integer_35 rfl ?_
      refine lv_CH_127 (pc := 36) G x dd_CH_integer_36 (k_termOf G)  ⟨by decide, by decide⟩ (by decide) (by decide) (Nat.le_of_ble_eq_true rfl) (fun v36 M36 q36 => ?_)
      obtain ⟨rfl, hm36⟩ := q36
      have hm36 := hm36.symm
      subst hm36
      rw [mul8]
      refine vv_iast (pc := 39) x dd_CH_integer_39 tr (by rw [nr]; exact hin) ?_
      exact vvx_ret (vv_vret (pc := 40) x dd_CH_integer_40 rfl (by decide) (by decide) ⟨rfl, ⟨hk, hr⟩, ⟨h11, h17⟩, CI_reg C0 hZ hi hj⟩)
    · exact lx_CH_124 (pc := 20) G x ht0 dd_CH_integer_20 dd_CH_integer_23 dd_CH_integer_24 dd_CH_integer_27 ⟨by decide, by decide⟩ (Nat.le_of_ble_eq_true rfl) (by decide) (by decide) (Or.inr ⟨rfl, rfl, ⟨hk, hr⟩, fun z => h17 z.2⟩)
set_option maxRecDepth 100000 in
set_option maxHeartbeats 4000000 in
theorem C_name (G : gc g X t0 l) (C : CI pw D ow sl M o La Le Z) (hZ : zok pw Z) {xv rv : Int32} (k9 : Nat) (hk9 : plc Z xv = k9) {nv : Int32} : OkX g X l yy_CH_name cc_CH_name 5 none 8 133 3 18 [.ref o, .int xv, .int rv, .int nv] M (fun v M' => v = none ∧ (k9 < Z.1.length ∧ rok rv) ∧ (¬ nv < 1 ∧ nv ≤ nI Z.2.2.1) ∧ CI pw D ow sl M' o La Le (zreg Z k9 rv.toNatClampNeg (nv <<< ((3 : Int32) &&& 31) ||| 2)) ∧ kp pw D M M') (fun E M' => (E = "java/lang/IndexOutOfBoundsException" ∧ M' = M ∧ ¬ (k9 < Z.1.length ∧ rok rv)) ∨ (E = "java/lang/IllegalArgumentException" ∧ M' = M ∧ (k9 < Z.1.length ∧ rok rv) ∧ ¬ (¬ nv < 1 ∧ nv ≤ nI Z.2.2.1))) := by
  refine okx_start (by decide) (Nat.le_of_ble_eq_true rfl) (by simp [Value.category]) ?_
  intro p e s m args below meth c9 x ht0
  have C0 := C
  obtain ⟨⟨hDc, hTc⟩, ⟨hDs, hTs⟩, ⟨hDb, hTb⟩, hTa⟩ := CI_tags C
  obtain ⟨S, ⟨hDo, hTo, hp, hp6⟩, ⟨ha1, ha2, ha3, ha4⟩, ⟨hl, hP⟩, ⟨hpo, T0, hT0⟩, ⟨hw, hlt, hcn⟩, hL⟩ := C
  refine vv_aload_n (pc := 0) x dd_CH_name_0 rfl ?_
  refine vv_iload_n (pc := 1) x dd_CH_name_1 rfl ?_
  refine vv_iload_n (pc := 2) x dd_CH_name_2 rfl ?_
  refine lv_CH_115x (pc := 3) G x ht0 dd_CH_name_3 (C_living2 G C0 hZ k9 hk9) hTo ⟨by decide, by decide⟩ (by decide) (by decide) (Nat.le_of_ble_eq_true rfl) (fun v3 M3 q3 => ?_) (fun E M' q => Or.inl ⟨q.1, q.2.1, q.2.2⟩)
  obtain ⟨rfl, hm3, hk, hr⟩ := q3
  have hm3 := hm3.symm
  subst hm3
  have hi : k9 < La.length := by omega
  obtain ⟨⟨hDp, hTp⟩, ⟨hDf, hTf⟩, ⟨hDm, hTm⟩⟩ := hTa _ (List.mem_append_left Le (getD_memN hi))
  obtain ⟨p1, p2, p3, p4, p5⟩ := hP k9 hi
  obtain ⟨hin, hj, ej⟩ := rok_in hr
  have rr := S.r hDp hTp 3 (show (4 : Nat) ≠ 0 by decide)
  have tr := S.t hDp hTp 3 (show (4 : Nat) ≠ 0 by decide)
  have nr : mm_n M (mm_f M 3 3 (La.getD k9 0)) = 4 := S.n hDp hTp 3 (show (4 : Nat) ≠ 0 by decide)
  have eg : mm_a M (mm_f M 3 3 (La.getD k9 0)) rv.toNatClampNeg = zrg Z k9 rv := p4 _ hj
  refine vv_astore (pc := 6) x dd_CH_name_6 (by decide) (ls2 := [_, _, _, _, _]) rfl ?_
  refine vv_iload_n (pc := 8) x dd_CH_name_8 rfl ?_
  refine vv_iconst (pc := 9) x dd_CH_name_9 (1) (by decide) ?_
  refine vv_icmp_lt (pc := 10) x dd_CH_name_10 (tgt := 21) (by decide) (fun h10 => ?_) (fun h10 => ?_)
  · exact lx_CH_124 (pc := 21) G x ht0 dd_CH_name_21 dd_CH_name_24 dd_CH_name_25 dd_CH_name_28 ⟨by decide, by decide⟩ (Nat.le_of_ble_eq_true rfl) (by decide) (by decide) (Or.inr ⟨rfl, rfl, ⟨hk, hr⟩, fun z => z.1 h10⟩)
  · refine vv_iload_n (pc := 13) x dd_CH_name_13 rfl ?_
    refine vv_aload_n (pc := 14) x dd_CH_name_14 rfl ?_
    refine lg_CH_83 (pc := 15) G x dd_CH_name_15 hTo ?_
    rw [hlt]
    refine vv_icmp_le (pc := 18) x dd_CH_name_18 (tgt := 29) (by decide) (fun h18 => ?_) (fun h18 => ?_)
    · refine vv_aload (pc := 29) x dd_CH_name_29 rfl ?_
      refine lg_CH_118 (pc := 31) G x dd_CH_name_31 hTp rr ?_
      refine vv_iload_n (pc := 34) x dd_CH_name_34 rfl ?_
      refine vv_iconst (pc := 35) x dd_CH_name_35 (2) (by decide) ?_
      refine vv_iload_n (pc := 36) x dd_CH_name_36 rfl ?_
      refine lv_CH_127 (pc := 37) G x dd_CH_name_37 (k_termOf G)  ⟨by decide, by decide⟩ (by decide) (by decide) (Nat.le_of_ble_eq_true rfl) (fun v37 M37 q37 => ?_)
      obtain ⟨rfl, hm37⟩ := q37
      have hm37 := hm37.symm
      subst hm37
      refine vv_iast (pc := 40) x dd_CH_name_40 tr (by rw [nr]; exact hin) ?_
      exact vvx_ret (vv_vret (pc := 41) x dd_CH_name_41 rfl (by decide) (by decide) ⟨rfl, ⟨hk, hr⟩, ⟨h10, h18⟩, CI_reg C0 hZ hi hj⟩)
    · exact lx_CH_124 (pc := 21) G x ht0 dd_CH_name_21 dd_CH_name_24 dd_CH_name_25 dd_CH_name_28 ⟨by decide, by decide⟩ (Nat.le_of_ble_eq_true rfl) (by decide) (by decide) (Or.inr ⟨rfl, rfl, ⟨hk, hr⟩, fun z => h18 z.2⟩)
set_option maxRecDepth 100000 in
set_option maxHeartbeats 4000000 in
theorem C_move (G : gc g X t0 l) (C : CI pw D ow sl M o La Le Z) (hZ : zok pw Z) {xv rv : Int32} (k9 : Nat) (hk9 : plc Z xv = k9) {av : Int32} : OkX g X l yy_CH_move cc_CH_move 5 none 8 133 3 18 [.ref o, .int xv, .int rv, .int av] M (fun v M' => v = none ∧ (k9 < Z.1.length ∧ rok rv ∧ rok av) ∧ CI pw D ow sl M' o La Le (zreg Z k9 rv.toNatClampNeg (zrg Z k9 av)) ∧ kp pw D M M') (fun E M' => E = "java/lang/IndexOutOfBoundsException" ∧ M' = M ∧ ¬ (k9 < Z.1.length ∧ rok rv ∧ rok av)) := by
  refine okx_start (by decide) (Nat.le_of_ble_eq_true rfl) (by simp [Value.category]) ?_
  intro p e s m args below meth c9 x ht0
  have C0 := C
  obtain ⟨⟨hDc, hTc⟩, ⟨hDs, hTs⟩, ⟨hDb, hTb⟩, hTa⟩ := CI_tags C
  obtain ⟨S, ⟨hDo, hTo, hp, hp6⟩, ⟨ha1, ha2, ha3, ha4⟩, ⟨hl, hP⟩, ⟨hpo, T0, hT0⟩, ⟨hw, hlt, hcn⟩, hL⟩ := C
  refine vv_aload_n (pc := 0) x dd_CH_move_0 rfl ?_
  refine vv_iload_n (pc := 1) x dd_CH_move_1 rfl ?_
  refine vv_iload_n (pc := 2) x dd_CH_move_2 rfl ?_
  refine lv_CH_115x (pc := 3) G x ht0 dd_CH_move_3 (C_living2 G C0 hZ k9 hk9) hTo ⟨by decide, by decide⟩ (by decide) (by decide) (Nat.le_of_ble_eq_true rfl) (fun v3 M3 q3 => ?_) (fun E M' q => ⟨q.1, q.2.1, fun z => q.2.2 ⟨z.1, z.2.1⟩⟩)
  obtain ⟨rfl, hm3, hk, hr⟩ := q3
  have hm3 := hm3.symm
  subst hm3
  have hi : k9 < La.length := by omega
  obtain ⟨⟨hDp, hTp⟩, ⟨hDf, hTf⟩, ⟨hDm, hTm⟩⟩ := hTa _ (List.mem_append_left Le (getD_memN hi))
  obtain ⟨p1, p2, p3, p4, p5⟩ := hP k9 hi
  obtain ⟨hin, hj, ej⟩ := rok_in hr
  have rr := S.r hDp hTp 3 (show (4 : Nat) ≠ 0 by decide)
  have tr := S.t hDp hTp 3 (show (4 : Nat) ≠ 0 by decide)
  have nr : mm_n M (mm_f M 3 3 (La.getD k9 0)) = 4 := S.n hDp hTp 3 (show (4 : Nat) ≠ 0 by decide)
  have eg : mm_a M (mm_f M 3 3 (La.getD k9 0)) rv.toNatClampNeg = zrg Z k9 rv := p4 _ hj
  refine vv_astore (pc := 6) x dd_CH_move_6 (by decide) (ls2 := [_, _, _, _, _]) rfl ?_
  refine vv_iload_n (pc := 8) x dd_CH_move_8 rfl ?_
  refine lv_CH_130x (pc := 9) G x ht0 dd_CH_move_9 (C_reg G)  ⟨by decide, by decide⟩ (by decide) (by decide) (Nat.le_of_ble_eq_true rfl) (fun v9 M9 q9 => ?_) (fun E M' q => ⟨q.1, q.2.1, fun z => q.2.2 z.2.2⟩)
  obtain ⟨rfl, hm9, ha⟩ := q9
  have hm9 := hm9.symm
  subst hm9
  have eg2 : mm_a M (mm_f M 3 3 (La.getD k9 0)) av.toNatClampNeg = zrg Z k9 av := p4 _ (rok_in ha).2.1
  refine vv_aload (pc := 12) x dd_CH_move_12 rfl ?_
  refine lg_CH_118 (pc := 14) G x dd_CH_move_14 hTp rr ?_
  refine vv_iload_n (pc := 17) x dd_CH_move_17 rfl ?_
  refine vv_aload (pc := 18) x dd_CH_move_18 rfl ?_
  refine lg_CH_118 (pc := 20) G x dd_CH_move_20 hTp rr ?_
  refine vv_iload_n (pc := 23) x dd_CH_move_23 rfl ?_
  refine vv_iald (pc := 24) x dd_CH_move_24 tr (by rw [nr]; exact (rok_in ha).1) ?_
  rw [eg2]
  refine vv_iast (pc := 25) x dd_CH_move_25 tr (by rw [nr]; exact hin) ?_
  exact vvx_ret (vv_vret (pc := 26) x dd_CH_move_26 rfl (by decide) (by decide) ⟨rfl, ⟨hk, hr, ha⟩, CI_reg C0 hZ hi hj⟩)
set_option maxRecDepth 100000 in
set_option maxHeartbeats 4000000 in
theorem C_kind (G : gc g X t0 l) (C : CI pw D ow sl M o La Le Z) (hZ : zok pw Z) {xv rv : Int32} (k9 : Nat) (hk9 : plc Z xv = k9) : OkX g X l yy_CH_kind cc_CH_kind 3 (some .int) 8 133 2 12 [.ref o, .int xv, .int rv] M (fun v M' => v = some (.int (zrg Z k9 rv &&& 7)) ∧ M' = M ∧ k9 < Z.1.length ∧ rok rv) (fun E M' => E = "java/lang/IndexOutOfBoundsException" ∧ M' = M ∧ ¬ (k9 < Z.1.length ∧ rok rv)) := by
  refine okx_start (by decide) (Nat.le_of_ble_eq_true rfl) (by simp [Value.category]) ?_
  intro p e s m args below meth c9 x ht0
  have C0 := C
  obtain ⟨⟨hDc, hTc⟩, ⟨hDs, hTs⟩, ⟨hDb, hTb⟩, hTa⟩ := CI_tags C
  obtain ⟨S, ⟨hDo, hTo, hp, hp6⟩, ⟨ha1, ha2, ha3, ha4⟩, ⟨hl, hP⟩, ⟨hpo, T0, hT0⟩, ⟨hw, hlt, hcn⟩, hL⟩ := C
  refine vv_aload_n (pc := 0) x dd_CH_kind_0 rfl ?_
  refine vv_iload_n (pc := 1) x dd_CH_kind_1 rfl ?_
  refine vv_iload_n (pc := 2) x dd_CH_kind_2 rfl ?_
  refine lv_CH_115x (pc := 3) G x ht0 dd_CH_kind_3 (C_living2 G C0 hZ k9 hk9) hTo ⟨by decide, by decide⟩ (by decide) (by decide) (Nat.le_of_ble_eq_true rfl) (fun v3 M3 q3 => ?_) (fun E M' q => ⟨q.1, q.2.1, q.2.2⟩)
  obtain ⟨rfl, hm3, hk, hr⟩ := q3
  have hm3 := hm3.symm
  subst hm3
  have hi : k9 < La.length := by omega
  obtain ⟨⟨hDp, hTp⟩, ⟨hDf, hTf⟩, ⟨hDm, hTm⟩⟩ := hTa _ (List.mem_append_left Le (getD_memN hi))
  obtain ⟨p1, p2, p3, p4, p5⟩ := hP k9 hi
  obtain ⟨hin, hj, ej⟩ := rok_in hr
  have rr := S.r hDp hTp 3 (show (4 : Nat) ≠ 0 by decide)
  have tr := S.t hDp hTp 3 (show (4 : Nat) ≠ 0 by decide)
  have nr : mm_n M (mm_f M 3 3 (La.getD k9 0)) = 4 := S.n hDp hTp 3 (show (4 : Nat) ≠ 0 by decide)
  have eg : mm_a M (mm_f M 3 3 (La.getD k9 0)) rv.toNatClampNeg = zrg Z k9 rv := p4 _ hj
  refine lg_CH_118 (pc := 6) G x dd_CH_kind_6 hTp rr ?_
  refine vv_iload_n (pc := 9) x dd_CH_kind_9 rfl ?_
  refine vv_iald (pc := 10) x dd_CH_kind_10 tr (by rw [nr]; exact hin) ?_
  rw [eg]
  refine lv_CH_193 (pc := 11) G x dd_CH_kind_11 (k_kindOf G)  ⟨by decide, by decide⟩ (by decide) (by decide) (Nat.le_of_ble_eq_true rfl) (fun v11 M11 q11 => ?_)
  obtain ⟨rfl, hm11⟩ := q11
  have hm11 := hm11.symm
  subst hm11
  exact vvx_ret (vv_iret (pc := 14) x dd_CH_kind_14 rfl (by decide) (by decide) ⟨rfl, rfl, hk, hr⟩)
set_option maxRecDepth 100000 in
set_option maxHeartbeats 4000000 in
theorem C_address (G : gc g X t0 l) (C : CI pw D ow sl M o La Le Z) (hZ : zok pw Z) {xv rv : Int32} (k9 : Nat) (hk9 : plc Z xv = k9) : OkX g X l yy_CH_address cc_CH_address 4 (some .int) 8 133 2 12 [.ref o, .int xv, .int rv] M (fun v M' => v = some (.int (if kd (zrg Z k9 rv) ≤ 2 then -1 else zrg Z k9 rv >>> ((3 : Int32) &&& 31))) ∧ M' = M ∧ k9 < Z.1.length ∧ rok rv) (fun E M' => E = "java/lang/IndexOutOfBoundsException" ∧ M' = M ∧ ¬ (k9 < Z.1.length ∧ rok rv)) := by
  refine okx_start (by decide) (Nat.le_of_ble_eq_true rfl) (by simp [Value.category]) ?_
  intro p e s m args below meth c9 x ht0
  have C0 := C
  obtain ⟨⟨hDc, hTc⟩, ⟨hDs, hTs⟩, ⟨hDb, hTb⟩, hTa⟩ := CI_tags C
  obtain ⟨S, ⟨hDo, hTo, hp, hp6⟩, ⟨ha1, ha2, ha3, ha4⟩, ⟨hl, hP⟩, ⟨hpo, T0, hT0⟩, ⟨hw, hlt, hcn⟩, hL⟩ := C
  refine vv_aload_n (pc := 0) x dd_CH_address_0 rfl ?_
  refine vv_iload_n (pc := 1) x dd_CH_address_1 rfl ?_
  refine vv_iload_n (pc := 2) x dd_CH_address_2 rfl ?_
  refine lv_CH_115x (pc := 3) G x ht0 dd_CH_address_3 (C_living2 G C0 hZ k9 hk9) hTo ⟨by decide, by decide⟩ (by decide) (by decide) (Nat.le_of_ble_eq_true rfl) (fun v3 M3 q3 => ?_) (fun E M' q => ⟨q.1, q.2.1, q.2.2⟩)
  obtain ⟨rfl, hm3, hk, hr⟩ := q3
  have hm3 := hm3.symm
  subst hm3
  have hi : k9 < La.length := by omega
  obtain ⟨⟨hDp, hTp⟩, ⟨hDf, hTf⟩, ⟨hDm, hTm⟩⟩ := hTa _ (List.mem_append_left Le (getD_memN hi))
  obtain ⟨p1, p2, p3, p4, p5⟩ := hP k9 hi
  obtain ⟨hin, hj, ej⟩ := rok_in hr
  have rr := S.r hDp hTp 3 (show (4 : Nat) ≠ 0 by decide)
  have tr := S.t hDp hTp 3 (show (4 : Nat) ≠ 0 by decide)
  have nr : mm_n M (mm_f M 3 3 (La.getD k9 0)) = 4 := S.n hDp hTp 3 (show (4 : Nat) ≠ 0 by decide)
  have eg : mm_a M (mm_f M 3 3 (La.getD k9 0)) rv.toNatClampNeg = zrg Z k9 rv := p4 _ hj
  refine lg_CH_118 (pc := 6) G x dd_CH_address_6 hTp rr ?_
  refine vv_iload_n (pc := 9) x dd_CH_address_9 rfl ?_
  refine vv_iald (pc := 10) x dd_CH_address_10 tr (by rw [nr]; exact hin) ?_
  rw [eg]
  refine vv_istore_n (pc := 11) x dd_CH_address_11 (by decide) (ls2 := [_, _, _, _]) rfl ?_
  refine vv_iload_n (pc := 12) x dd_CH_address_12 rfl ?_
  refine lv_CH_205 (pc := 13) G x dd_CH_address_13 (k_liesInHeap G)  ⟨by decide, by decide⟩ (by decide) (by decide) (Nat.le_of_ble_eq_true rfl) (fun v13 M13 q13 => ?_)
  obtain ⟨rfl, hm13⟩ := q13
  have hm13 := hm13.symm
  subst hm13
  refine vv_if_eq (pc := 16) x dd_CH_address_16 (tgt := 26) (by decide) (fun h16 => ?_) (fun h16 => ?_)
  · refine vv_iconst (pc := 26) x dd_CH_address_26 (-1) (by decide) ?_
    exact vvx_ret (vv_iret (pc := 27) x dd_CH_address_27 rfl (by decide) (by decide) ⟨by
        rw [if_pos (Classical.byContradiction (fun z => by rw [lie1 (by omega)] at h16; exact absurd h16 (by decide)))], rfl, hk, hr⟩)
  · refine vv_iload_n (pc := 19) x dd_CH_address_19 rfl ?_
    refine lv_CH_196 (pc := 20) G x dd_CH_address_20 (k_contentOf G)  ⟨by decide, by decide⟩ (by decide) (by decide) (Nat.le_of_ble_eq_true rfl) (fun v20 M20 q20 => ?_)
    obtain ⟨rfl, hm20⟩ := q20
    have hm20 := hm20.symm
    subst hm20
    refine vv_goto (pc := 23) x dd_CH_address_23 (tgt := 27) (by decide) ?_
    exact vvx_ret (vv_iret (pc := 27) x dd_CH_address_27 rfl (by decide) (by decide) ⟨by
        rw [if_neg (fun z => by rw [lie0 z] at h16; exact h16 rfl)], rfl, hk, hr⟩)
set_option maxRecDepth 100000 in
set_option maxHeartbeats 4000000 in
theorem C_mwords (G : gc g X t0 l) (C : CI pw D ow sl M o La Le Z) (hZ : zok pw Z) {xv rv : Int32} (k9 : Nat) (hk9 : plc Z xv = k9) : OkX g X l yy_CH_words cc_CH_words 4 (some .int) 8 133 2 12 [.ref o, .int xv, .int rv] M (fun v M' => v = some (.int (nI (hsz (qB (zget Z k9).2.2.2.2 (led (zget Z k9).2.2.2.2 (zrg Z k9 rv)))))) ∧ (k9 < Z.1.length ∧ rok rv) ∧ CI pw D ow sl M' o La Le (Z) ∧ kp pw D M M') (fun E M' => E = "java/lang/IndexOutOfBoundsException" ∧ M' = M ∧ ¬ (k9 < Z.1.length ∧ rok rv)) := by
  refine okx_start (by decide) (Nat.le_of_ble_eq_true rfl) (by simp [Value.category]) ?_
  intro p e s m args below meth c9 x ht0
  have C0 := C
  obtain ⟨⟨hDc, hTc⟩, ⟨hDs, hTs⟩, ⟨hDb, hTb⟩, hTa⟩ := CI_tags C
  obtain ⟨S, ⟨hDo, hTo, hp, hp6⟩, ⟨ha1, ha2, ha3, ha4⟩, ⟨hl, hP⟩, ⟨hpo, T0, hT0⟩, ⟨hw, hlt, hcn⟩, hL⟩ := C
  refine vv_aload_n (pc := 0) x dd_CH_words_0 rfl ?_
  refine vv_iload_n (pc := 1) x dd_CH_words_1 rfl ?_
  refine vv_iload_n (pc := 2) x dd_CH_words_2 rfl ?_
  refine lv_CH_115x (pc := 3) G x ht0 dd_CH_words_3 (C_living2 G C0 hZ k9 hk9) hTo ⟨by decide, by decide⟩ (by decide) (by decide) (Nat.le_of_ble_eq_true rfl) (fun v3 M3 q3 => ?_) (fun E M' q => ⟨q.1, q.2.1, q.2.2⟩)
  obtain ⟨rfl, hm3, hk, hr⟩ := q3
  have hm3 := hm3.symm
  subst hm3
  have hi : k9 < La.length := by omega
  obtain ⟨⟨hDp, hTp⟩, ⟨hDf, hTf⟩, ⟨hDm, hTm⟩⟩ := hTa _ (List.mem_append_left Le (getD_memN hi))
  obtain ⟨p1, p2, p3, p4, p5⟩ := hP k9 hi
  obtain ⟨hin, hj, ej⟩ := rok_in hr
  have rr := S.r hDp hTp 3 (show (4 : Nat) ≠ 0 by decide)
  have tr := S.t hDp hTp 3 (show (4 : Nat) ≠ 0 by decide)
  have nr : mm_n M (mm_f M 3 3 (La.getD k9 0)) = 4 := S.n hDp hTp 3 (show (4 : Nat) ≠ 0 by decide)
  have eg : mm_a M (mm_f M 3 3 (La.getD k9 0)) rv.toNatClampNeg = zrg Z k9 rv := p4 _ hj
  refine vv_astore_n (pc := 6) x dd_CH_words_6 (by decide) (ls2 := [_, _, _, _]) rfl ?_
  refine vv_aload_n (pc := 7) x dd_CH_words_7 rfl ?_
  refine vv_aload_n (pc := 8) x dd_CH_words_8 rfl ?_
  refine lg_CH_97 (pc := 9) G x dd_CH_words_9 hTp (S.or hDp hTp 2 (by decide)) ?_
  refine vv_aload_n (pc := 12) x dd_CH_words_12 rfl ?_
  refine lg_CH_118 (pc := 13) G x dd_CH_words_13 hTp rr ?_
  refine vv_iload_n (pc := 16) x dd_CH_words_16 rfl ?_
  refine vv_iald (pc := 17) x dd_CH_words_17 tr (by rw [nr]; exact hin) ?_
  rw [eg]
  refine lv_CH_209 (pc := 18) G x dd_CH_words_18 (C_words G C0 hZ hi (zrg_vt hZ hk hr)) hTo ⟨by decide, by decide⟩ (by decide) (by decide) (Nat.le_of_ble_eq_true rfl) (fun v18 M18 q18 => ?_)
  obtain ⟨rfl, ⟨C1, kp1⟩, -⟩ := q18
  exact vvx_ret (vv_iret (pc := 21) x dd_CH_words_21 rfl (by decide) (by decide) ⟨rfl, ⟨hk, hr⟩, C1, kp1⟩)
end M27
