/-! ===== send ===== -/
section M32
variable {g : gg} {X : State → Prop} {t0 : Nat} {l : Launch} {M : mm} {pw : Nat} {D : Nat → Prop} {ow sl : Nat → Nat} {o : Nat} {La Le : List Nat} {Z : zst}
set_option maxRecDepth 100000 in
set_option maxHeartbeats 4000000 in
theorem C_own (G : gc g X t0 l) (C : CI pw D ow sl M o La Le Z) (hZ : zok pw Z) {r : Nat} (hr : r < La.length) {t : Int32} (hml : (zget Z r).2.2.2.1.length < 512) : Ok g X l yy_CH_deliver cc_CH_deliver 4 (some .boolean) 6 141 0 0 [.ref o, .ref (La.getD r 0), .int t, .ref (La.getD r 0)] M (fun v M' => v = some (.int 1) ∧ CI pw D ow sl M' o La Le (zown Z r t) ∧ kp pw D M M') := by
  refine ok_start (by decide) (Nat.le_of_ble_eq_true rfl) (by simp [Value.category]) ?_
  intro p e s m args below meth c9 x
  have C0 := C
  obtain ⟨⟨hDc, hTc⟩, ⟨hDs, hTs⟩, ⟨hDb, hTb⟩, hTa⟩ := CI_tags C
  obtain ⟨S, ⟨hDo, hTo, hp, hp6⟩, ⟨ha1, ha2, ha3, ha4⟩, ⟨hl, hP⟩, ⟨hpo, T0, hT0⟩, ⟨hw, hlt, hcn⟩, hL⟩ := C
  obtain ⟨⟨hDp, hTp⟩, ⟨hDf, hTf⟩, ⟨hDm, hTm⟩⟩ := hTa _ (List.mem_append_left Le (getD_memN hr))
  obtain ⟨p1, p2, p3, p4, p5⟩ := hP r hr
  refine vv_aload_n (pc := 0) x dd_CH_deliver_0 rfl ?_
  refine lg_CH_169 (pc := 1) G x dd_CH_deliver_1 hTp (S.or hDp hTp 4 (by decide)) ?_
  refine lv_CH_253 (pc := 4) G x dd_CH_deliver_4 (K_isFull G hTm p5 hml) hTm ⟨by decide, by decide⟩ (by decide) (by decide) (Nat.le_of_ble_eq_true rfl) (fun v4 M4 q4 => ?_)
  obtain ⟨rfl, hm4⟩ := q4
  have hm4 := hm4.symm
  subst hm4
  refine vv_if_eq (pc := 7) x dd_CH_deliver_7 (tgt := 12) (by decide) (fun h7 => ?_) (fun h7 => absurd h7 (fun z => z rfl))
  refine vv_aload_n (pc := 12) x dd_CH_deliver_12 rfl ?_
  refine vv_aload_n (pc := 13) x dd_CH_deliver_13 rfl ?_
  refine vv_acmp_ne (pc := 14) x dd_CH_deliver_14 (tgt := 27) (by decide) (fun h14 => absurd h14 (fun z => z rfl)) (fun h14 => ?_)
  refine vv_aload_n (pc := 17) x dd_CH_deliver_17 rfl ?_
  refine lg_CH_169 (pc := 18) G x dd_CH_deliver_18 hTp (S.or hDp hTp 4 (by decide)) ?_
  refine vv_iload_n (pc := 21) x dd_CH_deliver_21 rfl ?_
  refine lv_CH_256 (pc := 22) G x dd_CH_deliver_22 (K_addLast G S hDm hTm p5 hml) hTm ⟨by decide, by decide⟩ (by decide) (by decide) (Nat.le_of_ble_eq_true rfl) (fun v22 M22 q22 => ?_)
  obtain ⟨rfl, F, hM9⟩ := q22
  refine vv_iconst (pc := 25) x dd_CH_deliver_25 (1) (by decide) ?_
  exact vv_zret (pc := 26) x dd_CH_deliver_26 rfl (Or.inr rfl) (by decide) (by decide) ⟨rfl, by
      have ff : ∀ c' k a, mm_f M22 c' k a = mm_f M c' k a := fun c' k a => F.f (fun z => z)
      have NA : ∀ {a1 c1 k2 : Nat}, D a1 → mm_t M a1 = c1 + 1 → aL pw c1 k2 ≠ 0 → a1 ≠ mm_f M 3 4 (La.getD r 0) → mm_f M c1 k2 a1 ≠ mm_f M 4 2 (mm_f M 3 4 (La.getD r 0)) := fun h1 h2 h3 h4 => S.ap h1 h2 h3 hDm hTm (k2 := 2) (show (512 : Nat) ≠ 0 by decide) (Or.inl h4)
      refine CI_step C0 hr (P' := ((zget Z r).1, (zget Z r).2.1, (zget Z r).2.2.1, (zget Z r).2.2.2.1 ++ [t], (zget Z r).2.2.2.2)) (p' := Z.2.1) (F.mono (fun c' k a z => ⟨by have := z.1; omega, by rw [z.2.2]; unfold ob; simp⟩) (fun _ _ _ z => z.elim) (fun a z => by rw [z]; exact stA_in hDm hTm (show (512 : Nat) ≠ 0 by decide) (by decide) (by unfold ob; simp))) ⟨?_, ?_, ?_, fun x9 hx => ?_, ?_⟩ ?_ ⟨T0, ?_⟩
      · rw [F.2.2.2.2.1 _ _ _ (fun z => absurd z.1 (by decide))]; exact p1
      · rw [F.2.2.2.2.1 _ _ _ (fun z => absurd z.1 (by decide))]; exact p2
      · rw [ff]
        exact HeapIs.fr F p3 (fun z => absurd z.1 (by decide)) (fun z => absurd z.1 (by decide)) (fun z => z) (fun z => z) (NA hDf hTf hp (ne_tag hTf hTm (by decide))) (NA hDf hTf hp (ne_tag hTf hTm (by decide)))
      · rw [ff, F.2.2.2.2.2.2 _ (NA (c1 := 3) (k2 := 3) hDp hTp (show (4 : Nat) ≠ 0 by decide) (ne_tag hTp hTm (by decide)))]
        exact p4 x9 hx
      · rw [ff]; exact hM9
      · unfold PoolIs pget
        rw [ff, ff, F.2.2.2.2.1 _ _ _ (fun z => absurd z.1 (by decide)), F.2.2.2.2.1 _ _ _ (fun z => absurd z.1 (by decide)), F.2.2.2.2.2.2 _ (NA (c1 := 5) (k2 := 2) hDb hTb (show (30 : Nat) ≠ 0 by decide) (ne_tag hTb hTm (by decide))), F.2.2.2.2.2.2 _ (NA (c1 := 5) (k2 := 3) hDb hTb (show (30 : Nat) ≠ 0 by decide) (ne_tag hTb hTm (by decide)))]
        exact hpo
      · exact HeapIs.fr F hT0 (fun z => absurd z.1 (by decide)) (fun z => absurd z.1 (by decide)) (fun z => z) (fun z => z) (NA hDs hTs hp (ne_tag hTs hTm (by decide))) (NA hDs hTs hp (ne_tag hTs hTm (by decide)))⟩
def zsend (Z : zst) (s r : Nat) (t : Int32) : Bool × zst := if r = s then (true, zown Z s t) else zdel Z s r t
theorem C_del (G : gc g X t0 l) (C : CI pw D ow sl M o La Le Z) (hZ : zok pw Z) (hDl : ∀ a, D a → mm_t M a ≠ 0) {s1 r : Nat} (hs : s1 < La.length) (hr : r < La.length) {t : Int32} (ht : vt (zget Z s1).2.2.2.2 t) (hml : (zget Z r).2.2.2.1.length < 512) (Rs : Bool × zst) (hRs : zsend Z s1 r t = Rs) : Ok g X l yy_CH_deliver cc_CH_deliver 4 (some .boolean) 6 141 0 0 [.ref o, .ref (La.getD s1 0), .int t, .ref (La.getD r 0)] M (fun v M' => v = some (.int (if Rs.1 = true then 1 else 0)) ∧ CI pw D ow sl M' o La Le Rs.2 ∧ kp pw D M M') := by
  unfold zsend at hRs
  by_cases e : r = s1
  · subst e
    rw [if_pos rfl] at hRs
    rw [← hRs]
    refine (C_own G C hZ hr hml).mono ?_
    rintro v M' ⟨rfl, h1⟩
    exact ⟨rfl, h1⟩
  · rw [if_neg e] at hRs
    exact C_deliver G C hZ hDl hs hr (fun z => e z.symm) ht hml Rs hRs
set_option maxRecDepth 100000 in
set_option maxHeartbeats 4000000 in
theorem C_send (G : gc g X t0 l) (C : CI pw D ow sl M o La Le Z) (hZ : zok pw Z) (hDl : ∀ a, D a → mm_t M a ≠ 0) (hml : ∀ P ∈ Z.1, P.2.2.2.1.length < 512) {xv rv : Int32} (k9 : Nat) (hk9 : plc Z xv = k9) {tv : Int32} (k2 : Nat) (hk2 : plc Z tv = k2) (Rs : Bool × zst) (hRs : k9 < Z.1.length → zsend Z k9 k2 (zrg Z k9 rv) = Rs) : OkX g X l yy_CH_send cc_CH_send 6 (some .boolean) 8 164 3 18 [.ref o, .int xv, .int rv, .int tv] M (fun v M' => v = some (.int (if k2 < Z.1.length then 1 else 0)) ∧ (k9 < Z.1.length ∧ rok rv) ∧ (k2 < Z.1.length → Rs.1 = true) ∧ CI pw D ow sl M' o La Le (if k2 < Z.1.length then Rs.2 else Z) ∧ kp pw D M M') (fun E M' => (E = "java/lang/IndexOutOfBoundsException" ∧ M' = M ∧ ¬ (k9 < Z.1.length ∧ rok rv)) ∨ (E = "java/lang/IllegalStateException" ∧ (k9 < Z.1.length ∧ rok rv) ∧ k2 < Z.1.length ∧ ¬ Rs.1 = true ∧ CI pw D ow sl M' o La Le Rs.2 ∧ kp pw D M M')) := by
  refine okx_start (by decide) (Nat.le_of_ble_eq_true rfl) (by simp [Value.category]) ?_
  intro p e s m args below meth c9 x ht0
  have C0 := C
  obtain ⟨⟨hDc, hTc⟩, ⟨hDs, hTs⟩, ⟨hDb, hTb⟩, hTa⟩ := CI_tags C
  obtain ⟨S, ⟨hDo, hTo, hp, hp6⟩, ⟨ha1, ha2, ha3, ha4⟩, ⟨hl, hP⟩, ⟨hpo, T0, hT0⟩, ⟨hw, hlt, hcn⟩, hL⟩ := C
  have hTl : mm_t M (mm_f M 6 2 o) = 9 := S.ot hDo hTo 2 (by decide)
  have h8 := hZ.2.1
  by_cases hk2l : k2 < Z.1.length
  · have hm9 := ha1 _ (List.mem_append_left Le (getD_memN (L := La) (k := k2) (by omega)))
    refine vv_aload_n (pc := 0) x dd_CH_send_0 rfl ?_
    refine vv_iload_n (pc := 1) x dd_CH_send_1 rfl ?_
    refine vv_iload_n (pc := 2) x dd_CH_send_2 rfl ?_
    refine lv_CH_115x (pc := 3) G x ht0 dd_CH_send_3 (C_living2 G C0 hZ k9 hk9) hTo ⟨by decide, by decide⟩ (by decide) (by decide) (Nat.le_of_ble_eq_true rfl) (fun v3 M3 q3 => ?_) (fun E M' q => Or.inl ⟨q.1, q.2.1, q.2.2⟩)
    obtain ⟨rfl, hm3, hk, hr⟩ := q3
    have hm3 := hm3.symm
    subst hm3
    have hi : k9 < La.length := by omega
    obtain ⟨⟨hDp, hTp⟩, ⟨hDf, hTf⟩, ⟨hDm, hTm⟩⟩ := hTa _ (List.mem_append_left Le (getD_memN hi))
    obtain ⟨p1, p2, p3, p4, p5⟩ := hP k9 hi
    obtain ⟨hin, hj, ej⟩ := rok_in hr
    have rr := S.r hDp hTp 3 (show (4 : Nat) ≠ 0 by decide)
    have tr := S.t hDp hTp 3 (show (4 : Nat) ≠ 0 by decide)
    have nr : mm_n M (mm_f M 3 3 (La.getD k9 0)) = 4 := S.n hDp hTp 3 (show (4 : Nat) ≠ 0 by decide)
    have eg : mm_a M (mm_f M 3 3 (La.getD k9 0)) rv.toNatClampNeg = zrg Z k9 rv := p4 _ hj
    refine vv_astore (pc := 6) x dd_CH_send_6 (by decide) (ls2 := [_, _, _, _, _, none]) rfl ?_
    refine vv_aload_n (pc := 8) x dd_CH_send_8 rfl ?_
    refine vv_iload_n (pc := 9) x dd_CH_send_9 rfl ?_
    refine lv_CH_111 (pc := 10) G x dd_CH_send_10 (C_place G C0 hZ k2 hk2) hTo ⟨by decide, by decide⟩ (by decide) (by decide) (Nat.le_of_ble_eq_true rfl) (fun v10 M10 q10 => ?_)
    obtain ⟨rfl, hm10⟩ := q10
    have hm10 := hm10.symm
    subst hm10
    rw [show (if k2 < Z.1.length then nI k2 else (-1 : Int32)) = nI k2 from if_pos hk2l]
    refine vv_istore (pc := 13) x dd_CH_send_13 (by decide) (ls2 := [_, _, _, _, _, _]) rfl ?_
    refine vv_iload (pc := 15) x dd_CH_send_15 rfl ?_
    refine vv_if_ge (pc := 17) x dd_CH_send_17 (tgt := 22) (by decide) (fun h17 => ?_) (fun h17 => absurd h17 (fun z => z (nI_pos' (by omega))))
    refine vv_aload_n (pc := 22) x dd_CH_send_22 rfl ?_
    refine vv_aload (pc := 23) x dd_CH_send_23 rfl ?_
    refine vv_aload (pc := 25) x dd_CH_send_25 rfl ?_
    refine lg_CH_118 (pc := 27) G x dd_CH_send_27 hTp rr ?_
    refine vv_iload_n (pc := 30) x dd_CH_send_30 rfl ?_
    refine vv_iald (pc := 31) x dd_CH_send_31 tr (by rw [nr]; exact hin) ?_
    rw [eg]
    refine vv_aload_n (pc := 32) x dd_CH_send_32 rfl ?_
    refine lg_CH_34 (pc := 33) G x dd_CH_send_33 hTo (S.or hDo hTo 2 (by decide)) ?_
    refine vv_iload (pc := 36) x dd_CH_send_36 rfl ?_
    refine lv_CH_162 (pc := 38) G x dd_CH_send_38 (k_get G hTl hL.1 (by omega) (i := k2) (by omega)) hTl ⟨by decide, by decide⟩ (by decide) (by decide) (Nat.le_of_ble_eq_true rfl) (fun v38 M38 q38 => ?_)
    obtain ⟨rfl, hm38⟩ := q38
    have hm38 := hm38.symm
    subst hm38
    refine lc_CH_76 (pc := 41) G x dd_CH_send_41 hm9.2 ?_
    refine lv_CH_165 (pc := 44) G x dd_CH_send_44 (C_del G C0 hZ hDl hi (r := k2) (by omega) (zrg_vt hZ hk hr) (hml _ (zget_mem hk2l)) Rs (hRs hk)) hTo ⟨by decide, by decide⟩ (by decide) (by decide) (Nat.le_of_ble_eq_true rfl) (fun v44 M44 q44 => ?_)
    obtain ⟨rfl, C1, kp1⟩ := q44
    refine vv_if_ne (pc := 47) x dd_CH_send_47 (tgt := 58) (by decide) (fun h47 => ?_) (fun h47 => ?_)
    · refine vv_iconst (pc := 58) x dd_CH_send_58 (1) (by decide) ?_
      exact vvx_ret (vv_zret (pc := 59) x dd_CH_send_59 rfl (Or.inr rfl) (by decide) (by decide) ⟨by rw [if_pos hk2l], ⟨hk, hr⟩, fun _ => Classical.byContradiction (fun z => h47 (by rw [if_neg z])), by rw [if_pos hk2l]; exact C1, kp1⟩)
    · exact lx_CH_69 (pc := 50) G x ht0 dd_CH_send_50 dd_CH_send_53 dd_CH_send_54 dd_CH_send_57 ⟨by decide, by decide⟩ (Nat.le_of_ble_eq_true rfl) (by decide) (by decide) (Or.inr ⟨rfl, ⟨hk, hr⟩, hk2l, fun z => by rw [if_pos z] at h47; exact absurd h47 (by decide), C1, kp1⟩)
  · refine vv_aload_n (pc := 0) x dd_CH_send_0 rfl ?_
    refine vv_iload_n (pc := 1) x dd_CH_send_1 rfl ?_
    refine vv_iload_n (pc := 2) x dd_CH_send_2 rfl ?_
    refine lv_CH_115x (pc := 3) G x ht0 dd_CH_send_3 (C_living2 G C0 hZ k9 hk9) hTo ⟨by decide, by decide⟩ (by decide) (by decide) (Nat.le_of_ble_eq_true rfl) (fun v3 M3 q3 => ?_) (fun E M' q => Or.inl ⟨q.1, q.2.1, q.2.2⟩)
    obtain ⟨rfl, hm3, hk, hr⟩ := q3
    have hm3 := hm3.symm
    subst hm3
    have hi : k9 < La.length := by omega
    obtain ⟨⟨hDp, hTp⟩, ⟨hDf, hTf⟩, ⟨hDm, hTm⟩⟩ := hTa _ (List.mem_append_left Le (getD_memN hi))
    obtain ⟨p1, p2, p3, p4, p5⟩ := hP k9 hi
    obtain ⟨hin, hj, ej⟩ := rok_in hr
    have rr := S.r hDp hTp 3 (show (4 : Nat) ≠ 0 by decide)
    have tr := S.t hDp hTp 3 (show (4 : Nat) ≠ 0 by decide)
    have nr : mm_n M (mm_f M 3 3 (La.getD k9 0)) = 4 := S.n hDp hTp 3 (show (4 : Nat) ≠ 0 by decide)
    have eg : mm_a M (mm_f M 3 3 (La.getD k9 0)) rv.toNatClampNeg = zrg Z k9 rv := p4 _ hj
    refine vv_astore (pc := 6) x dd_CH_send_6 (by decide) (ls2 := [_, _, _, _, _, none]) rfl ?_
    refine vv_aload_n (pc := 8) x dd_CH_send_8 rfl ?_
    refine vv_iload_n (pc := 9) x dd_CH_send_9 rfl ?_
    refine lv_CH_111 (pc := 10) G x dd_CH_send_10 (C_place G C0 hZ k2 hk2) hTo ⟨by decide, by decide⟩ (by decide) (by decide) (Nat.le_of_ble_eq_true rfl) (fun v10 M10 q10 => ?_)
    obtain ⟨rfl, hm10⟩ := q10
    have hm10 := hm10.symm
    subst hm10
    rw [show (if k2 < Z.1.length then nI k2 else (-1 : Int32)) = -1 from if_neg hk2l]
    refine vv_istore (pc := 13) x dd_CH_send_13 (by decide) (ls2 := [_, _, _, _, _, _]) rfl ?_
    refine vv_iload (pc := 15) x dd_CH_send_15 rfl ?_
    refine vv_if_ge (pc := 17) x dd_CH_send_17 (tgt := 22) (by decide) (fun h17 => absurd h17 (by decide)) (fun h17 => ?_)
    refine vv_iconst (pc := 20) x dd_CH_send_20 (0) (by decide) ?_
    exact vvx_ret (vv_zret (pc := 21) x dd_CH_send_21 rfl (Or.inl rfl) (by decide) (by decide) ⟨by rw [if_neg hk2l], ⟨hk, hr⟩, fun z => absurd z hk2l, by rw [if_neg hk2l]; exact C0, kp.rf⟩)
end M32
