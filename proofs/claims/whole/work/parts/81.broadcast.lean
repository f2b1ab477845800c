/-! ===== broadcast ===== -/
section M38
variable {g : gg} {X : State → Prop} {t0 : Nat} {l : Launch} {M : mm} {pw : Nat} {D : Nat → Prop} {ow sl : Nat → Nat} {o : Nat} {La Le : List Nat} {Z : zst}
theorem ztak_ne {r j : Nat} {B : List bk} {t : Int32} (hr : r < Z.1.length) (h : j ≠ r) : zget (ztak Z r B t) j = zget Z j := zget_set_ne hr h
theorem ztak_len {r : Nat} {B : List bk} {t : Int32} : (ztak Z r B t).1.length = Z.1.length := by
  unfold ztak
  rw [List.length_set]
theorem zdel_ne {s r j : Nat} {t : Int32} (hr : r < Z.1.length) (h : j ≠ r) : zget (zdel Z s r t).2 j = zget Z j := by
  unfold zdel
  split
  · exact (ztak_ne (by rw [zroom_len]; exact hr) h).trans (zroom_ne hr h)
  · exact zroom_ne hr h
theorem zdel_len {s r : Nat} {t : Int32} : (zdel Z s r t).2.1.length = Z.1.length := by
  unfold zdel
  split
  · exact ztak_len.trans zroom_len
  · exact zroom_len
theorem z8_del (h : z8 Z) {s r : Nat} {t : Int32} (hr : r < Z.1.length) : z8 (zdel Z s r t).2 := by
  have h1 : ∀ n, z8 (zroom Z r n).2 := fun n => z8_room h hr
  unfold zdel
  split
  · have h2 := h1 (hsz (qB (zget Z s).2.2.2.2 (led (zget Z s).2.2.2.2 t)))
    exact z8_set h2 (h2 (zget (zroom Z r (hsz (qB (zget Z s).2.2.2.2 (led (zget Z s).2.2.2.2 t)))).2 r) (zget_mem (by rw [zroom_len]; exact hr)))
  · exact h1 _
/-- to all but the sender, from i on -/
def zbc (s : Nat) (t : Int32) : Nat → Nat → Nat → zst → Nat × zst
  | 0, _, got, Z => (got, Z)
  | n + 1, i, got, Z => if i = s then zbc s t n (i + 1) got Z else zbc s t n (i + 1) (if (zdel Z s i t).1 = true then got + 1 else got) (zdel Z s i t).2
set_option maxRecDepth 100000 in
set_option maxHeartbeats 4000000 in
theorem C_broadcast (G : gc g X t0 l) (C : CI pw D ow sl M o La Le Z) (hZ : zok pw Z) (hDl : ∀ a, D a → mm_t M a ≠ 0) (hml : ∀ P ∈ Z.1, P.2.2.2.1.length < 512) {xv rv : Int32} (k9 : Nat) (hk9 : plc Z xv = k9) (Rs : Nat × zst) (hRs : k9 < Z.1.length → zbc k9 (zrg Z k9 rv) Z.1.length 0 0 Z = Rs) : OkX g X l yy_CH_broadcast cc_CH_broadcast 7 (some .int) 8 164 2 12 [.ref o, .int xv, .int rv] M (fun v M' => v = some (.int (nI Rs.1)) ∧ (k9 < Z.1.length ∧ rok rv) ∧ CI pw D ow sl M' o La Le Rs.2 ∧ kp pw D M M') (fun E M' => E = "java/lang/IndexOutOfBoundsException" ∧ M' = M ∧ ¬ (k9 < Z.1.length ∧ rok rv)) := by
  refine okx_start (by decide) (Nat.le_of_ble_eq_true rfl) (by simp [Value.category]) ?_
  intro p e s m args below meth c9 x ht0
  have C0 := C
  obtain ⟨⟨hDc, hTc⟩, ⟨hDs, hTs⟩, ⟨hDb, hTb⟩, hTa⟩ := CI_tags C
  obtain ⟨S, ⟨hDo, hTo, hp, hp6⟩, ⟨ha1, ha2, ha3, ha4⟩, ⟨hl, hP⟩, ⟨hpo, T0, hT0⟩, ⟨hw, hlt, hcn⟩, hL⟩ := C
  have h8 := hZ.2.1
  have hloop : ∀ (n i got : Nat) (Z1 : zst) (M1 : mm) (u : Option Value), k9 < Z.1.length → rok rv → i + n = Z.1.length → got ≤ i → Z1.1.length = Z.1.length → CI pw D ow sl M1 o La Le Z1 → zok pw Z1 → kp pw D M M1 → (∀ a, D a → mm_t M1 a ≠ 0) → (∀ j, i ≤ j → j < Z.1.length → (zget Z1 j).2.2.2.1.length < 512) → zget Z1 k9 = zget Z k9 → zbc k9 (zrg Z k9 rv) n i got Z1 = Rs → vv g 7 p l e (rm 8 164 2 12) s m args below meth c9 (vx_MQ below (ok_Q g (fun v M' => v = some (.int (nI Rs.1)) ∧ (k9 < Z.1.length ∧ rok rv) ∧ CI pw D ow sl M' o La Le Rs.2 ∧ kp pw D M M')) (ox_X g (fun E M' => E = "java/lang/IndexOutOfBoundsException" ∧ M' = M ∧ ¬ (k9 < Z.1.length ∧ rok rv))) args s 2 12 (ok_F g)) 2 12 13 [some (.ref o), some (.int xv), some (.int rv), some (.ref (La.getD k9 0)), some (.int (nI got)), some (.int (nI i)), u] [] (M1) := by
    intro n
    induction n with
    | zero =>
      intro i got Z1 M1 u hk hr hi hg hZl C1 hZ1 kp1 hDl1 hml1 e9 hR
      have e : (got, Z1) = Rs := hR
      obtain ⟨S1, ⟨-, hTo1, -, -⟩, -, ⟨hl1, hP1⟩, -, -, hL1⟩ := id C1
      have hTl1 : mm_t M1 (mm_f M1 6 2 o) = 9 := S1.ot hDo hTo1 2 (by decide)
      refine vv_iload (pc := 13) x dd_CH_broadcast_13 rfl ?_
      refine vv_aload_n (pc := 15) x dd_CH_broadcast_15 rfl ?_
      refine lg_CH_34 (pc := 16) G x dd_CH_broadcast_16 hTo1 (S1.or hDo hTo1 2 (by decide)) ?_
      refine lv_CH_62 (pc := 19) G x dd_CH_broadcast_19 (k_size G hTl1 hL1.1) hTl1 ⟨by decide, by decide⟩ (by decide) (by decide) (Nat.le_of_ble_eq_true rfl) (fun v19 M19 q19 => ?_)
      obtain ⟨rfl, hm19⟩ := q19
      have hm19 := hm19.symm
      subst hm19
      refine vv_icmp_ge (pc := 22) x dd_CH_broadcast_22 (tgt := 70) (by decide) (fun h22 => ?_) (fun h22 => absurd h22 (fun z => z (nI_le (by omega) (by omega))))
      refine vv_iload (pc := 70) x dd_CH_broadcast_70 rfl ?_
      exact vvx_ret (vv_iret (pc := 72) x dd_CH_broadcast_72 rfl (by decide) (by decide) ⟨by rw [← e], ⟨hk, hr⟩, by rw [← e]; exact C1, kp1⟩)
    | succ n ih =>
      intro i got Z1 M1 u hk hr hi hg hZl C1 hZ1 kp1 hDl1 hml1 e9 hR
      have hR2 : (if i = k9 then zbc k9 (zrg Z k9 rv) n (i + 1) got Z1 else zbc k9 (zrg Z k9 rv) n (i + 1) (if (zdel Z1 k9 i (zrg Z k9 rv)).1 = true then got + 1 else got) (zdel Z1 k9 i (zrg Z k9 rv)).2) = Rs := hR
      obtain ⟨S1, ⟨-, hTo1, -, -⟩, ⟨hb1, hb2, -, -⟩, ⟨hl1, hP1⟩, -, -, hL1⟩ := id C1
      have hTl1 : mm_t M1 (mm_f M1 6 2 o) = 9 := S1.ot hDo hTo1 2 (by decide)
      have hi1 : i < La.length := by omega
      have hm := hb1 _ (List.mem_append_left Le (getD_memN hi1))
      have hj : k9 < La.length := by omega
      have hm2 := hb1 _ (List.mem_append_left Le (getD_memN hj))
      by_cases e : i = k9
      · rw [if_pos e] at hR2
        refine vv_iload (pc := 13) x dd_CH_broadcast_13 rfl ?_
        refine vv_aload_n (pc := 15) x dd_CH_broadcast_15 rfl ?_
        refine lg_CH_34 (pc := 16) G x dd_CH_broadcast_16 hTo1 (S1.or hDo hTo1 2 (by decide)) ?_
        refine lv_CH_62 (pc := 19) G x dd_CH_broadcast_19 (k_size G hTl1 hL1.1) hTl1 ⟨by decide, by decide⟩ (by decide) (by decide) (Nat.le_of_ble_eq_true rfl) (fun v19 M19 q19 => ?_)
        obtain ⟨rfl, hm19⟩ := q19
        have hm19 := hm19.symm
        subst hm19
        refine vv_icmp_ge (pc := 22) x dd_CH_broadcast_22 (tgt := 70) (by decide) (fun h22 => absurd h22 (nI_ge (by omega) (by omega))) (fun h22 => ?_)
        refine vv_aload_n (pc := 25) x dd_CH_broadcast_25 rfl ?_
        refine lg_CH_34 (pc := 26) G x dd_CH_broadcast_26 hTo1 (S1.or hDo hTo1 2 (by decide)) ?_
        refine vv_iload (pc := 29) x dd_CH_broadcast_29 rfl ?_
        refine lv_CH_162 (pc := 31) G x dd_CH_broadcast_31 (k_get G hTl1 hL1.1 (by omega) hi1) hTl1 ⟨by decide, by decide⟩ (by decide) (by decide) (Nat.le_of_ble_eq_true rfl) (fun v31 M31 q31 => ?_)
        obtain ⟨rfl, hm31⟩ := q31
        have hm31 := hm31.symm
        subst hm31
        refine lc_CH_76 (pc := 34) G x dd_CH_broadcast_34 hm.2 ?_
        refine vv_astore (pc := 37) x dd_CH_broadcast_37 (by decide) (ls2 := [_, _, _, _, _, _, _]) rfl ?_
        refine vv_aload (pc := 39) x dd_CH_broadcast_39 rfl ?_
        refine vv_aload_n (pc := 41) x dd_CH_broadcast_41 rfl ?_
        refine vv_acmp_eq (pc := 42) x dd_CH_broadcast_42 (tgt := 64) (by decide) (fun h42 => ?_) (fun h42 => absurd h42 (fun z => z (by rw [e])))
        refine vv_iinc (pc := 64) x dd_CH_broadcast_64 rfl (nI_1 i) (by decide) (ls2 := [_, _, _, _, _, _, _]) rfl ?_
        refine vv_goto (pc := 67) x dd_CH_broadcast_67 (tgt := 13) (by decide) ?_
        exact ih (i + 1) got Z1 M1 _ hk hr (by omega) (by omega) hZl C1 hZ1 kp1 hDl1 (fun j h1 h2 => hml1 j (by omega) h2) e9 hR2
      · rw [if_neg e] at hR2
        have hvt : vt (zget Z1 k9).2.2.2.2 (zrg Z k9 rv) := by rw [e9]; exact zrg_vt hZ hk hr
        have rr := S1.r hm2.1 hm2.2 3 (show (4 : Nat) ≠ 0 by decide)
        have tr := S1.t hm2.1 hm2.2 3 (show (4 : Nat) ≠ 0 by decide)
        have nr : mm_n M1 (mm_f M1 3 3 (La.getD k9 0)) = 4 := S1.n hm2.1 hm2.2 3 (show (4 : Nat) ≠ 0 by decide)
        have eg : mm_a M1 (mm_f M1 3 3 (La.getD k9 0)) rv.toNatClampNeg = zrg Z k9 rv := by
          have := (hP1 k9 hj).2.2.2.1 _ (rok_in hr).2.1
          rw [e9] at this
          exact this
        have hok := zdel_ok hZ1 hp6 (r := i) (s := k9) (by omega) (by omega) (fun z => e z.symm) hvt
        have hst := fun (b : Nat) (M2 : mm) (u2 : Option Value) (C2 : CI pw D ow sl M2 o La Le (zdel Z1 k9 i (zrg Z k9 rv)).2) (kp2 : kp pw D M1 M2) (hb : b ≤ i + 1) (hR3 : zbc k9 (zrg Z k9 rv) n (i + 1) b (zdel Z1 k9 i (zrg Z k9 rv)).2 = Rs) => ih (i + 1) b _ M2 u2 hk hr (by omega) hb (by rw [zdel_len]; exact hZl) C2 hok (kp1.trans hDl (CI_7 C0) kp2) (fun a ha => by rw [(kp2.1 a (hDl1 a ha)).1]; exact hDl1 a ha) (fun j h1 h2 => by rw [zdel_ne (by omega) (by omega)]; exact hml1 j (by omega) h2) (by rw [zdel_ne (by omega) (fun z => e z.symm)]; exact e9) hR3
        refine vv_iload (pc := 13) x dd_CH_broadcast_13 rfl ?_
        refine vv_aload_n (pc := 15) x dd_CH_broadcast_15 rfl ?_
        refine lg_CH_34 (pc := 16) G x dd_CH_broadcast_16 hTo1 (S1.or hDo hTo1 2 (by decide)) ?_
        refine lv_CH_62 (pc := 19) G x dd_CH_broadcast_19 (k_size G hTl1 hL1.1) hTl1 ⟨by decide, by decide⟩ (by decide) (by decide) (Nat.le_of_ble_eq_true rfl) (fun v19 M19 q19 => ?_)
        obtain ⟨rfl, hm19⟩ := q19
        have hm19 := hm19.symm
        subst hm19
        refine vv_icmp_ge (pc := 22) x dd_CH_broadcast_22 (tgt := 70) (by decide) (fun h22 => absurd h22 (nI_ge (by omega) (by omega))) (fun h22 => ?_)
        refine vv_aload_n (pc := 25) x dd_CH_broadcast_25 rfl ?_
        refine lg_CH_34 (pc := 26) G x dd_CH_broadcast_26 hTo1 (S1.or hDo hTo1 2 (by decide)) ?_
        refine vv_iload (pc := 29) x dd_CH_broadcast_29 rfl ?_
        refine lv_CH_162 (pc := 31) G x dd_CH_broadcast_31 (k_get G hTl1 hL1.1 (by omega) hi1) hTl1 ⟨by decide, by decide⟩ (by decide) (by decide) (Nat.le_of_ble_eq_true rfl) (fun v31 M31 q31 => ?_)
        obtain ⟨rfl, hm31⟩ := q31
        have hm31 := hm31.symm
        subst hm31
        refine lc_CH_76 (pc := 34) G x dd_CH_broadcast_34 hm.2 ?_
        refine vv_astore (pc := 37) x dd_CH_broadcast_37 (by decide) (ls2 := [_, _, _, _, _, _, _]) rfl ?_
        refine vv_aload (pc := 39) x dd_CH_broadcast_39 rfl ?_
        refine vv_aload_n (pc := 41) x dd_CH_broadcast_41 rfl ?_
        refine vv_acmp_eq (pc := 42) x dd_CH_broadcast_42 (tgt := 64) (by decide) (fun h42 => absurd h42 (La_ne hb2 hj hi1 e)) (fun h42 => ?_)
        refine vv_aload_n (pc := 45) x dd_CH_broadcast_45 rfl ?_
        refine vv_aload_n (pc := 46) x dd_CH_broadcast_46 rfl ?_
        refine vv_aload_n (pc := 47) x dd_CH_broadcast_47 rfl ?_
        refine lg_CH_118 (pc := 48) G x dd_CH_broadcast_48 hm2.2 rr ?_
        refine vv_iload_n (pc := 51) x dd_CH_broadcast_51 rfl ?_
        refine vv_iald (pc := 52) x dd_CH_broadcast_52 tr (by rw [nr]; exact (rok_in hr).1) ?_
        rw [eg]
        refine vv_aload (pc := 53) x dd_CH_broadcast_53 rfl ?_
        refine lv_CH_165 (pc := 55) G x dd_CH_broadcast_55 (C_deliver G C1 hZ1 hDl1 hj hi1 (fun z => e z.symm) hvt (hml1 i (by omega) (by omega)) (zdel Z1 k9 i (zrg Z k9 rv)) rfl) hTo1 ⟨by decide, by decide⟩ (by decide) (by decide) (Nat.le_of_ble_eq_true rfl) (fun v55 M55 q55 => ?_)
        obtain ⟨rfl, C2, kp2⟩ := q55
        refine vv_if_eq (pc := 58) x dd_CH_broadcast_58 (tgt := 64) (by decide) (fun h58 => ?_) (fun h58 => ?_)
        · refine vv_iinc (pc := 64) x dd_CH_broadcast_64 rfl (nI_1 i) (by decide) (ls2 := [_, _, _, _, _, _, _]) rfl ?_
          refine vv_goto (pc := 67) x dd_CH_broadcast_67 (tgt := 13) (by decide) ?_
          exact hst got M55 _ C2 kp2 (by omega) (by rw [if_neg (fun z => by rw [if_pos z] at h58; exact absurd h58 (by decide))] at hR2; exact hR2)
        · refine vv_iinc (pc := 61) x dd_CH_broadcast_61 rfl (nI_1 got) (by decide) (ls2 := [_, _, _, _, _, _, _]) rfl ?_
          refine vv_iinc (pc := 64) x dd_CH_broadcast_64 rfl (nI_1 i) (by decide) (ls2 := [_, _, _, _, _, _, _]) rfl ?_
          refine vv_goto (pc := 67) x dd_CH_broadcast_67 (tgt := 13) (by decide) ?_
          exact hst (got + 1) M55 _ C2 kp2 (by omega) (by rw [if_pos (Classical.byContradiction (fun z => h58 (by rw [if_neg z])))] at hR2; exact hR2)
  refine vv_aload_n (pc := 0) x dd_CH_broadcast_0 rfl ?_
  refine vv_iload_n (pc := 1) x dd_CH_broadcast_1 rfl ?_
  refine vv_iload_n (pc := 2) x dd_CH_broadcast_2 rfl ?_
  refine lv_CH_115x (pc := 3) G x ht0 dd_CH_broadcast_3 (C_living2 G C0 hZ k9 hk9) hTo ⟨by decide, by decide⟩ (by decide) (by decide) (Nat.le_of_ble_eq_true rfl) (fun v3 M3 q3 => ?_) (fun E M' q => ⟨q.1, q.2.1, q.2.2⟩)
  obtain ⟨rfl, hm3, hk, hr⟩ := q3
  have hm3 := hm3.symm
  subst hm3
  have hi : k9 < La.length := by omega
  obtain ⟨⟨hDp, hTp⟩, ⟨hDf, hTf⟩, ⟨hDm, hTm⟩⟩ := hTa _ (List.mem_append_left Le (getD_memN hi))
  obtain ⟨p1, p2, p3, p4, p5⟩ := hP k9 hi
  obtain ⟨hin, hj, ej⟩ := rok_in hr
  have rr := S.r hDp hTp 3 (show (4 : Nat) ≠ 0 by decide)
  have tr := S.t hDp hTp 3 (show (4 : Nat) ≠ 0 by decide)
  have nr : mm_n M (mm_f M 3 3 (La.getD k9 0)) = 4 := S.n hDp hTp 3 (show (4 : Nat) ≠ 0 by decide)
  have eg : mm_a M (mm_f M 3 3 (La.getD k9 0)) rv.toNatClampNeg = zrg Z k9 rv := p4 _ hj
  refine vv_astore_n (pc := 6) x dd_CH_broadcast_6 (by decide) (ls2 := [_, _, _, _, none, none, none]) rfl ?_
  refine vv_iconst (pc := 7) x dd_CH_broadcast_7 (0) (by decide) ?_
  refine vv_istore (pc := 8) x dd_CH_broadcast_8 (by decide) (ls2 := [_, _, _, _, _, none, none]) rfl ?_
  refine vv_iconst (pc := 10) x dd_CH_broadcast_10 (0) (by decide) ?_
  refine vv_istore (pc := 11) x dd_CH_broadcast_11 (by decide) (ls2 := [_, _, _, _, _, _, none]) rfl ?_
  exact hloop Z.1.length 0 0 Z _ _ hk hr (by omega) (by omega) rfl C0 hZ kp.rf hDl (fun j h1 h2 => hml _ (zget_mem h2)) rfl (hRs hk)
end M38
