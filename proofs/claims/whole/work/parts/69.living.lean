/-! ===== who lives, which register, room needed ===== -/
section M26
variable {g : gg} {X : State → Prop} {t0 : Nat} {l : Launch} {M : mm} {pw : Nat} {D : Nat → Prop} {ow sl : Nat → Nat} {o : Nat} {La Le : List Nat} {Z : zst}
/-- a register -/
def rok (rv : Int32) : Prop := ¬ rv < 0 ∧ rv < 4
set_option maxRecDepth 100000 in
set_option maxHeartbeats 4000000 in
theorem C_reg (G : gc g X t0 l) {rv : Int32} : OkX g X l yy_CH_checkRegister cc_CH_checkRegister 1 none 6 89 1 6 [.int rv] M (fun v M' => v = none ∧ M' = M ∧ rok rv) (fun E M' => E = "java/lang/IndexOutOfBoundsException" ∧ M' = M ∧ ¬ rok rv) := by
  refine okx_start (by decide) (Nat.le_of_ble_eq_true rfl) (by simp [Value.category]) ?_
  intro p e s m args below meth c9 x ht0
  refine vv_iload_n (pc := 0) x dd_CH_checkRegister_0 rfl ?_
  refine vv_if_lt (pc := 1) x dd_CH_checkRegister_1 (tgt := 9) (by decide) (fun h1 => ?_) (fun h1 => ?_)
  · exact lx_CH_228 (pc := 9) G x ht0 dd_CH_checkRegister_9 dd_CH_checkRegister_12 dd_CH_checkRegister_13 dd_CH_checkRegister_16 ⟨by decide, by decide⟩ (Nat.le_of_ble_eq_true rfl) (by decide) (by decide) ⟨rfl, rfl, fun z => z.1 h1⟩
  · refine vv_iload_n (pc := 4) x dd_CH_checkRegister_4 rfl ?_
    refine vv_iconst (pc := 5) x dd_CH_checkRegister_5 (4) (by decide) ?_
    refine vv_icmp_lt (pc := 6) x dd_CH_checkRegister_6 (tgt := 17) (by decide) (fun h6 => ?_) (fun h6 => ?_)
    · exact vvx_ret (vv_vret (pc := 17) x dd_CH_checkRegister_17 rfl (by decide) (by decide) ⟨rfl, rfl, h1, h6⟩)
    · exact lx_CH_228 (pc := 9) G x ht0 dd_CH_checkRegister_9 dd_CH_checkRegister_12 dd_CH_checkRegister_13 dd_CH_checkRegister_16 ⟨by decide, by decide⟩ (Nat.le_of_ble_eq_true rfl) (by decide) (by decide) ⟨rfl, rfl, fun z => h6 z.2⟩
set_option maxRecDepth 100000 in
set_option maxHeartbeats 4000000 in
theorem C_living1 (G : gc g X t0 l) (C : CI pw D ow sl M o La Le Z) (hZ : zok pw Z) {xv : Int32} (k9 : Nat) (hk9 : plc Z xv = k9) : OkX g X l yy_CH_living1 cc_CH_living1 3 (some (.object "CopyHeaps$HeapProcess")) 6 89 1 6 [.ref o, .int xv] M (fun v M' => v = some (.ref (La.getD k9 0)) ∧ M' = M ∧ k9 < Z.1.length) (fun E M' => E = "java/lang/IndexOutOfBoundsException" ∧ M' = M ∧ ¬ k9 < Z.1.length) := by
  refine okx_start (by decide) (Nat.le_of_ble_eq_true rfl) (by simp [Value.category]) ?_
  intro p e s m args below meth c9 x ht0
  have C0 := C
  obtain ⟨S, ⟨hDo, hTo, hp, hp6⟩, ⟨ha1, ha2, ha3, ha4⟩, ⟨hl, hP⟩, -, -, hL⟩ := C
  have hTl : mm_t M (mm_f M 6 2 o) = 9 := S.ot hDo hTo 2 (by decide)
  have h8 := hZ.2.1
  by_cases hk : k9 < Z.1.length
  · have hm := ha1 _ (List.mem_append_left Le (getD_memN (L := La) (k := k9) (by omega)))
    refine vv_aload_n (pc := 0) x dd_CH_living1_0 rfl ?_
    refine vv_iload_n (pc := 1) x dd_CH_living1_1 rfl ?_
    refine lv_CH_111 (pc := 2) G x dd_CH_living1_2 (C_place G C0 hZ k9 hk9) hTo ⟨by decide, by decide⟩ (by decide) (by decide) (Nat.le_of_ble_eq_true rfl) (fun v2 M2 q2 => ?_)
    obtain ⟨rfl, hm2⟩ := q2
    have hm2 := hm2.symm
    subst hm2
    rw [if_pos hk]
    refine vv_istore_n (pc := 5) x dd_CH_living1_5 (by decide) (ls2 := [_, _, _]) rfl ?_
    refine vv_iload_n (pc := 6) x dd_CH_living1_6 rfl ?_
    refine vv_if_ge (pc := 7) x dd_CH_living1_7 (tgt := 18) (by decide) (fun h7 => ?_) (fun h7 => absurd h7 (fun z => z (nI_pos' (by omega))))
    refine vv_aload_n (pc := 18) x dd_CH_living1_18 rfl ?_
    refine lg_CH_34 (pc := 19) G x dd_CH_living1_19 (by assumption) (S.or hDo hTo 2 (by decide)) ?_
    refine vv_iload_n (pc := 22) x dd_CH_living1_22 rfl ?_
    refine lv_CH_162 (pc := 23) G x dd_CH_living1_23 (k_get G hTl hL.1 (by omega) (i := k9) (by omega)) hTl ⟨by decide, by decide⟩ (by decide) (by decide) (Nat.le_of_ble_eq_true rfl) (fun v23 M23 q23 => ?_)
    obtain ⟨rfl, hm23⟩ := q23
    have hm23 := hm23.symm
    subst hm23
    refine lc_CH_76 (pc := 26) G x dd_CH_living1_26 hm.2 ?_
    exact vvx_ret (vv_aret (pc := 29) x dd_CH_living1_29 rfl (by decide) (by decide) ⟨rfl, rfl, hk⟩)
  · refine vv_aload_n (pc := 0) x dd_CH_living1_0 rfl ?_
    refine vv_iload_n (pc := 1) x dd_CH_living1_1 rfl ?_
    refine lv_CH_111 (pc := 2) G x dd_CH_living1_2 (C_place G C0 hZ k9 hk9) hTo ⟨by decide, by decide⟩ (by decide) (by decide) (Nat.le_of_ble_eq_true rfl) (fun v2 M2 q2 => ?_)
    obtain ⟨rfl, hm2⟩ := q2
    have hm2 := hm2.symm
    subst hm2
    rw [if_neg hk]
    refine vv_istore_n (pc := 5) x dd_CH_living1_5 (by decide) (ls2 := [_, _, _]) rfl ?_
    refine vv_iload_n (pc := 6) x dd_CH_living1_6 rfl ?_
    refine vv_if_ge (pc := 7) x dd_CH_living1_7 (tgt := 18) (by decide) (fun h7 => absurd h7 (by decide)) (fun h7 => ?_)
    exact lx_CH_228 (pc := 10) G x ht0 dd_CH_living1_10 dd_CH_living1_13 dd_CH_living1_14 dd_CH_living1_17 ⟨by decide, by decide⟩ (Nat.le_of_ble_eq_true rfl) (by decide) (by decide) ⟨rfl, rfl, hk⟩
set_option maxRecDepth 100000 in
set_option maxHeartbeats 4000000 in
theorem C_living2 (G : gc g X t0 l) (C : CI pw D ow sl M o La Le Z) (hZ : zok pw Z) {xv rv : Int32} (k9 : Nat) (hk9 : plc Z xv = k9) : OkX g X l yy_CH_living2 cc_CH_living2 3 (some (.object "CopyHeaps$HeapProcess")) 7 111 2 12 [.ref o, .int xv, .int rv] M (fun v M' => v = some (.ref (La.getD k9 0)) ∧ M' = M ∧ k9 < Z.1.length ∧ rok rv) (fun E M' => E = "java/lang/IndexOutOfBoundsException" ∧ M' = M ∧ ¬ (k9 < Z.1.length ∧ rok rv)) := by
  refine okx_start (by decide) (Nat.le_of_ble_eq_true rfl) (by simp [Value.category]) ?_
  intro p e s m args below meth c9 x ht0
  have hTo := C.2.1.2.1
  refine vv_iload_n (pc := 0) x dd_CH_living2_0 rfl ?_
  refine lv_CH_130x (pc := 1) G x ht0 dd_CH_living2_1 (C_reg G)  ⟨by decide, by decide⟩ (by decide) (by decide) (Nat.le_of_ble_eq_true rfl) (fun v1 M1 q1 => ?_) (fun E M' q => ⟨q.1, q.2.1, fun z => q.2.2 z.2⟩)
  obtain ⟨rfl, rfl, hr1⟩ := q1
  refine vv_aload_n (pc := 4) x dd_CH_living2_4 rfl ?_
  refine vv_iload_n (pc := 5) x dd_CH_living2_5 rfl ?_
  refine lv_CH_93x (pc := 6) G x ht0 dd_CH_living2_6 (C_living1 G C hZ k9 hk9) hTo ⟨by decide, by decide⟩ (by decide) (by decide) (Nat.le_of_ble_eq_true rfl) (fun v6 M6 q6 => ?_) (fun E M' q => ⟨q.1, q.2.1, fun z => q.2.2 z.1⟩)
  obtain ⟨rfl, rfl, hk1⟩ := q6
  exact vvx_ret (vv_aret (pc := 9) x dd_CH_living2_9 rfl (by decide) (by decide) ⟨rfl, rfl, hk1, hr1⟩)
set_option maxRecDepth 100000 in
set_option maxHeartbeats 4000000 in
theorem C_need (G : gc g X t0 l) (C : CI pw D ow sl M o La Le Z) (hZ : zok pw Z) (hDl : ∀ a, D a → mm_t M a ≠ 0) {i : Nat} (hi : i < La.length) {n : Nat} (hn : n ≤ 1000) (Rs : Bool × zst) (hRs : zroom Z i n = Rs) : OkX g X l yy_CH_needRoom cc_CH_needRoom 3 none 6 141 1 6 [.ref o, .ref (La.getD i 0), .int (nI n)] M (fun v M' => v = none ∧ Rs.1 = true ∧ CI pw D ow sl M' o La Le Rs.2 ∧ kp pw D M M') (fun E M' => E = "java/lang/IllegalStateException" ∧ ¬ Rs.1 = true ∧ CI pw D ow sl M' o La Le Rs.2 ∧ kp pw D M M') := by
  refine okx_start (by decide) (Nat.le_of_ble_eq_true rfl) (by simp [Value.category]) ?_
  intro p e s m args below meth c9 x ht0
  have hTo := C.2.1.2.1
  refine vv_aload_n (pc := 0) x dd_CH_needRoom_0 rfl ?_
  refine vv_aload_n (pc := 1) x dd_CH_needRoom_1 rfl ?_
  refine vv_iload_n (pc := 2) x dd_CH_needRoom_2 rfl ?_
  refine lv_CH_231 (pc := 3) G x dd_CH_needRoom_3 (C_room G C hZ hDl hi hn Rs hRs) hTo ⟨by decide, by decide⟩ (by decide) (by decide) (Nat.le_of_ble_eq_true rfl) (fun v3 M3 q3 => ?_)
  obtain ⟨rfl, C1, kp1⟩ := q3
  refine vv_if_ne (pc := 6) x dd_CH_needRoom_6 (tgt := 17) (by decide) (fun h6 => ?_) (fun h6 => ?_)
  · exact vvx_ret (vv_vret (pc := 17) x dd_CH_needRoom_17 rfl (by decide) (by decide) ⟨rfl, Classical.byContradiction (fun z => h6 (by rw [if_neg z])), C1, kp1⟩)
  · exact lx_CH_69 (pc := 9) G x ht0 dd_CH_needRoom_9 dd_CH_needRoom_12 dd_CH_needRoom_13 dd_CH_needRoom_16 ⟨by decide, by decide⟩ (Nat.le_of_ble_eq_true rfl) (by decide) (by decide) ⟨rfl, fun z => by rw [if_pos z] at h6; exact absurd h6 (by decide), C1, kp1⟩
end M26
