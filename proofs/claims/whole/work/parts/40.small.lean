/-! ===== the small methods of the class ===== -/
section M1
variable {g : gg} {X : State → Prop} {t0 : Nat} {l : Launch} {M : mm} {pw : Nat} {D : Nat → Prop} {ow sl : Nat → Nat}
set_option maxRecDepth 100000 in
set_option maxHeartbeats 4000000 in
theorem k_termOf (G : gc g X t0 l) {k n : Int32} : Ok g X l yy_CH_termOf cc_CH_termOf 2 (some .int) 0 0 0 0 [.int k, .int n] M (fun v M' => v = some (.int (n <<< ((3 : Int32) &&& 31) ||| k)) ∧ M' = M) := by
  refine ok_start (by decide) (Nat.le_of_ble_eq_true rfl) (by simp [Value.category]) ?_
  intro p e s m args below meth c x
  refine vv_iload_n (pc := 0) x dd_CH_termOf_0 rfl ?_
  refine vv_iconst (pc := 1) x dd_CH_termOf_1 (3) (by decide) ?_
  refine vv_ishl (pc := 2) x dd_CH_termOf_2 ?_
  refine vv_iload_n (pc := 3) x dd_CH_termOf_3 rfl ?_
  refine vv_ior (pc := 4) x dd_CH_termOf_4 ?_
  exact vv_iret (pc := 5) x dd_CH_termOf_5 rfl (by decide) (by decide) ⟨rfl, rfl⟩
set_option maxRecDepth 100000 in
set_option maxHeartbeats 4000000 in
theorem k_kindOf (G : gc g X t0 l) {t : Int32} : Ok g X l yy_CH_kindOf cc_CH_kindOf 1 (some .int) 0 0 0 0 [.int t] M (fun v M' => v = some (.int (t &&& 7)) ∧ M' = M) := by
  refine ok_start (by decide) (Nat.le_of_ble_eq_true rfl) (by simp [Value.category]) ?_
  intro p e s m args below meth c x
  refine vv_iload_n (pc := 0) x dd_CH_kindOf_0 rfl ?_
  refine vv_bipush (pc := 1) x dd_CH_kindOf_1 (7) (by decide) ?_
  refine vv_iand (pc := 3) x dd_CH_kindOf_3 ?_
  exact vv_iret (pc := 4) x dd_CH_kindOf_4 rfl (by decide) (by decide) ⟨rfl, rfl⟩
set_option maxRecDepth 100000 in
set_option maxHeartbeats 4000000 in
theorem k_contentOf (G : gc g X t0 l) {t : Int32} : Ok g X l yy_CH_contentOf cc_CH_contentOf 1 (some .int) 0 0 0 0 [.int t] M (fun v M' => v = some (.int (t >>> ((3 : Int32) &&& 31))) ∧ M' = M) := by
  refine ok_start (by decide) (Nat.le_of_ble_eq_true rfl) (by simp [Value.category]) ?_
  intro p e s m args below meth c x
  refine vv_iload_n (pc := 0) x dd_CH_contentOf_0 rfl ?_
  refine vv_iconst (pc := 1) x dd_CH_contentOf_1 (3) (by decide) ?_
  refine vv_ishr (pc := 2) x dd_CH_contentOf_2 ?_
  exact vv_iret (pc := 3) x dd_CH_contentOf_3 rfl (by decide) (by decide) ⟨rfl, rfl⟩
set_option maxRecDepth 100000 in
set_option maxHeartbeats 4000000 in
theorem k_liesInHeap (G : gc g X t0 l) {t : Int32} : Ok g X l yy_CH_liesInHeap cc_CH_liesInHeap 1 (some .boolean) 1 20 0 0 [.int t] M (fun v M' => v = some (.int (if t &&& 7 < 3 then 0 else 1)) ∧ M' = M) := by
  refine ok_start (by decide) (Nat.le_of_ble_eq_true rfl) (by simp [Value.category]) ?_
  intro p e s m args below meth c x
  refine vv_iload_n (pc := 0) x dd_CH_liesInHeap_0 rfl ?_
  refine lv_CH_193 (pc := 1) G x dd_CH_liesInHeap_1 (k_kindOf G)  ⟨by decide, by decide⟩ (by decide) (by decide) (Nat.le_of_ble_eq_true rfl) (fun v1 M1 q1 => ?_)
  obtain ⟨rfl, rfl⟩ := q1
  refine vv_iconst (pc := 4) x dd_CH_liesInHeap_4 (3) (by decide) ?_
  refine vv_icmp_lt (pc := 5) x dd_CH_liesInHeap_5 (tgt := 12) (by decide) (fun h5 => ?_) (fun h5 => ?_)
  · refine vv_iconst (pc := 12) x dd_CH_liesInHeap_12 (0) (by decide) ?_
    exact vv_zret (pc := 13) x dd_CH_liesInHeap_13 rfl (Or.inl rfl) (by decide) (by decide) ⟨by rw [if_pos h5], rfl⟩
  · refine vv_iconst (pc := 8) x dd_CH_liesInHeap_8 (1) (by decide) ?_
    refine vv_goto (pc := 9) x dd_CH_liesInHeap_9 (tgt := 13) (by decide) ?_
    exact vv_zret (pc := 13) x dd_CH_liesInHeap_13 rfl (Or.inr rfl) (by decide) (by decide) ⟨by rw [if_neg h5], rfl⟩
set_option maxRecDepth 100000 in
set_option maxHeartbeats 4000000 in
theorem k_inSteps (G : gc g X t0 l) {w : Int32} : Ok g X l yy_CH_inSteps cc_CH_inSteps 1 (some .int) 0 0 0 0 [.int w] M (fun v M' => v = some (.int ((w + 8 - 1) / 8 * 8)) ∧ M' = M) := by
  refine ok_start (by decide) (Nat.le_of_ble_eq_true rfl) (by simp [Value.category]) ?_
  intro p e s m args below meth c x
  refine vv_iload_n (pc := 0) x dd_CH_inSteps_0 rfl ?_
  refine vv_bipush (pc := 1) x dd_CH_inSteps_1 (8) (by decide) ?_
  refine vv_iadd (pc := 3) x dd_CH_inSteps_3 ?_
  refine vv_iconst (pc := 4) x dd_CH_inSteps_4 (1) (by decide) ?_
  refine vv_isub (pc := 5) x dd_CH_inSteps_5 ?_
  refine vv_bipush (pc := 6) x dd_CH_inSteps_6 (8) (by decide) ?_
  refine vv_idiv (pc := 8) x dd_CH_inSteps_8 (by decide) ?_
  refine vv_bipush (pc := 9) x dd_CH_inSteps_9 (8) (by decide) ?_
  refine vv_imul (pc := 11) x dd_CH_inSteps_11 ?_
  exact vv_iret (pc := 12) x dd_CH_inSteps_12 rfl (by decide) (by decide) ⟨rfl, rfl⟩
set_option maxRecDepth 100000 in
set_option maxHeartbeats 4000000 in
theorem k_firstPart (G : gc g X t0 l) {t : Int32} : Ok g X l yy_He_firstPart cc_He_firstPart 1 (some .int) 1 20 0 0 [.int t] M (fun v M' => v = some (.int (if t &&& 7 = 4 then 1 else 0)) ∧ M' = M) := by
  refine ok_start (by decide) (Nat.le_of_ble_eq_true rfl) (by simp [Value.category]) ?_
  intro p e s m args below meth c x
  refine vv_iload_n (pc := 0) x dd_He_firstPart_0 rfl ?_
  refine lv_He_36 (pc := 1) G x dd_He_firstPart_1 (k_kindOf G)  ⟨by decide, by decide⟩ (by decide) (by decide) (Nat.le_of_ble_eq_true rfl) (fun v1 M1 q1 => ?_)
  obtain ⟨rfl, rfl⟩ := q1
  refine vv_iconst (pc := 4) x dd_He_firstPart_4 (4) (by decide) ?_
  refine vv_icmp_ne (pc := 5) x dd_He_firstPart_5 (tgt := 12) (by decide) (fun h5 => ?_) (fun h5 => ?_)
  · refine vv_iconst (pc := 12) x dd_He_firstPart_12 (0) (by decide) ?_
    exact vv_iret (pc := 13) x dd_He_firstPart_13 rfl (by decide) (by decide) ⟨by rw [if_neg h5], rfl⟩
  · refine vv_iconst (pc := 8) x dd_He_firstPart_8 (1) (by decide) ?_
    refine vv_goto (pc := 9) x dd_He_firstPart_9 (tgt := 13) (by decide) ?_
    exact vv_iret (pc := 13) x dd_He_firstPart_13 rfl (by decide) (by decide) ⟨by rw [if_pos h5], rfl⟩
set_option maxRecDepth 100000 in
set_option maxHeartbeats 4000000 in
theorem k_lengthOf (G : gc g X t0 l) {k f : Int32} : Ok g X l yy_He_lengthOf cc_He_lengthOf 2 (some .int) 0 0 0 0 [.int k, .int f] M (fun v M' => v = some (.int (if k = 3 then 2 else if k = 4 then f + 1 else 2)) ∧ M' = M) := by
  refine ok_start (by decide) (Nat.le_of_ble_eq_true rfl) (by simp [Value.category]) ?_
  intro p e s m args below meth c x
  refine vv_iload_n (pc := 0) x dd_He_lengthOf_0 rfl ?_
  refine sw_He_lengthOf_1 x (fun h1_3 => ?_) (fun h1_4 => ?_) (fun n1_3 n1_4 => ?_)
  · refine vv_iconst (pc := 28) x dd_He_lengthOf_28 (2) (by decide) ?_
    exact vv_iret (pc := 29) x dd_He_lengthOf_29 rfl (by decide) (by decide) ⟨by rw [if_pos h1_3], rfl⟩
  · refine vv_iload_n (pc := 30) x dd_He_lengthOf_30 rfl ?_
    refine vv_iconst (pc := 31) x dd_He_lengthOf_31 (1) (by decide) ?_
    refine vv_iadd (pc := 32) x dd_He_lengthOf_32 ?_
    exact vv_iret (pc := 33) x dd_He_lengthOf_33 rfl (by decide) (by decide) ⟨by rw [if_neg (by rw [h1_4]; decide), if_pos h1_4], rfl⟩
  · refine vv_iconst (pc := 34) x dd_He_lengthOf_34 (2) (by decide) ?_
    exact vv_iret (pc := 35) x dd_He_lengthOf_35 rfl (by decide) (by decide) ⟨by rw [if_neg n1_3, if_neg n1_4], rfl⟩
/-- a cell of a heap is written; a structure is placed -/
def hst (M : mm) (h : Nat) (i v : Int32) : mm := mm_sa M (mm_f M 2 3 h) (upd (mm_a M (mm_f M 2 3 h)) i.toNatClampNeg v)
def hpl (M : mm) (h : Nat) (t n : Int32) : mm := mm_si (mm_si (mm_sa M (mm_f M 2 2 h) (upd (mm_a M (mm_f M 2 2 h)) (mm_i M 2 1 h).toNatClampNeg t)) 2 1 h (mm_i M 2 1 h + 1)) 2 0 h (mm_i M 2 0 h + n)
set_option maxRecDepth 100000 in
set_option maxHeartbeats 4000000 in
theorem k_place (G : gc g X t0 l) (S : sh pw D ow sl M) (hp : pw ≠ 0) {h : Nat} (hD : D h) (hT : mm_t M h = 3) {t n : Int32} (i2 : vp_in (mm_i M 2 1 h) (mm_n M (mm_f M 2 2 h))) : Ok g X l yy_He_place cc_He_place 3 (some .int) 0 0 0 0 [.ref h, .int t, .int n] M (fun v M' => v = some (.int t) ∧ M' = hpl M h t n) := by
  refine ok_start (by decide) (Nat.le_of_ble_eq_true rfl) (by simp [Value.category]) ?_
  intro p e s m args below meth c x
  have r2 := S.r hD hT 2 hp
  have t2 := S.t hD hT 2 hp
  have r3 := S.r hD hT 3 hp
  have t3 := S.t hD hT 3 hp
  refine vv_aload_n (pc := 0) x dd_He_place_0 rfl ?_
  refine lg_He_9 (pc := 1) G x dd_He_place_1 (by assumption) (by assumption) ?_
  refine vv_aload_n (pc := 4) x dd_He_place_4 rfl ?_
  refine lg_He_22 (pc := 5) G x dd_He_place_5 (by assumption) ?_
  refine vv_iload_n (pc := 8) x dd_He_place_8 rfl ?_
  refine vv_iast (pc := 9) x dd_He_place_9 (by assumption) (by assumption) ?_
  refine vv_aload_n (pc := 10) x dd_He_place_10 rfl ?_
  refine vv_dup (pc := 11) x dd_He_place_11 rfl ?_
  refine lg_He_22 (pc := 12) G x dd_He_place_12 (by assumption) ?_
  refine vv_iconst (pc := 15) x dd_He_place_15 (1) (by decide) ?_
  refine vv_iadd (pc := 16) x dd_He_place_16 ?_
  refine lp_He_22 (pc := 17) G x dd_He_place_17 (by assumption) ?_
  refine vv_aload_n (pc := 20) x dd_He_place_20 rfl ?_
  refine vv_dup (pc := 21) x dd_He_place_21 rfl ?_
  refine lg_He_18 (pc := 22) G x dd_He_place_22 (by assumption) ?_
  refine vv_iload_n (pc := 25) x dd_He_place_25 rfl ?_
  refine vv_iadd (pc := 26) x dd_He_place_26 ?_
  refine lp_He_18 (pc := 27) G x dd_He_place_27 (by assumption) ?_
  refine vv_iload_n (pc := 30) x dd_He_place_30 rfl ?_
  exact vv_iret (pc := 31) x dd_He_place_31 rfl (by decide) (by decide) ⟨rfl, rfl⟩
set_option maxRecDepth 100000 in
set_option maxHeartbeats 4000000 in
theorem k_clear (G : gc g X t0 l) (S : sh pw D ow sl M) (hp : pw ≠ 0) {h : Nat} (hD : D h) (hT : mm_t M h = 3) : Ok g X l yy_He_clear cc_He_clear 1 none 0 0 0 0 [.ref h] M (fun v M' => v = none ∧ M' = mm_si (mm_si M 2 0 h 0) 2 1 h 0) := by
  refine ok_start (by decide) (Nat.le_of_ble_eq_true rfl) (by simp [Value.category]) ?_
  intro p e s m args below meth c x
  refine vv_aload_n (pc := 0) x dd_He_clear_0 rfl ?_
  refine vv_iconst (pc := 1) x dd_He_clear_1 (0) (by decide) ?_
  refine lp_He_18 (pc := 2) G x dd_He_clear_2 (by assumption) ?_
  refine vv_aload_n (pc := 5) x dd_He_clear_5 rfl ?_
  refine vv_iconst (pc := 6) x dd_He_clear_6 (0) (by decide) ?_
  refine lp_He_22 (pc := 7) G x dd_He_clear_7 (by assumption) ?_
  exact vv_vret (pc := 10) x dd_He_clear_10 rfl (by decide) (by decide) ⟨rfl, rfl⟩
set_option maxRecDepth 100000 in
set_option maxHeartbeats 4000000 in
theorem k_addPair (G : gc g X t0 l) (S : sh pw D ow sl M) (hp : pw ≠ 0) {h : Nat} (hD : D h) (hT : mm_t M h = 3) {a b : Int32} (i2 : vp_in (mm_i M 2 1 h) (mm_n M (mm_f M 2 2 h))) (i3 : vp_in (mm_i M 2 0 h) (mm_n M (mm_f M 2 3 h))) (i4 : vp_in (mm_i M 2 0 h + 1) (mm_n M (mm_f M 2 3 h))) : Ok g X l yy_He_addPair cc_He_addPair 3 (some .int) 1 22 0 0 [.ref h, .int a, .int b] M (fun v M' => v = some (.int (mm_i M 2 0 h <<< ((3 : Int32) &&& 31) ||| 3)) ∧ M' = hpl (hst (hst M h (mm_i M 2 0 h) a) h (mm_i M 2 0 h + 1) b) h (mm_i M 2 0 h <<< ((3 : Int32) &&& 31) ||| 3) 2) := by
  refine ok_start (by decide) (Nat.le_of_ble_eq_true rfl) (by simp [Value.category]) ?_
  intro p e s m args below meth c x
  have r2 := S.r hD hT 2 hp
  have t2 := S.t hD hT 2 hp
  have r3 := S.r hD hT 3 hp
  have t3 := S.t hD hT 3 hp
  refine vv_aload_n (pc := 0) x dd_He_addPair_0 rfl ?_
  refine lg_He_15 (pc := 1) G x dd_He_addPair_1 (by assumption) (by assumption) ?_
  refine vv_aload_n (pc := 4) x dd_He_addPair_4 rfl ?_
  refine lg_He_18 (pc := 5) G x dd_He_addPair_5 (by assumption) ?_
  refine vv_iload_n (pc := 8) x dd_He_addPair_8 rfl ?_
  refine vv_iast (pc := 9) x dd_He_addPair_9 (by assumption) (by assumption) ?_
  refine vv_aload_n (pc := 10) x dd_He_addPair_10 rfl ?_
  refine lg_He_15 (pc := 11) G x dd_He_addPair_11 (by assumption) (by assumption) ?_
  refine vv_aload_n (pc := 14) x dd_He_addPair_14 rfl ?_
  refine lg_He_18 (pc := 15) G x dd_He_addPair_15 (by assumption) ?_
  refine vv_iconst (pc := 18) x dd_He_addPair_18 (1) (by decide) ?_
  refine vv_iadd (pc := 19) x dd_He_addPair_19 ?_
  refine vv_iload_n (pc := 20) x dd_He_addPair_20 rfl ?_
  refine vv_iast (pc := 21) x dd_He_addPair_21 (by assumption) (by assumption) ?_
  refine vv_aload_n (pc := 22) x dd_He_addPair_22 rfl ?_
  refine vv_iconst (pc := 23) x dd_He_addPair_23 (3) (by decide) ?_
  refine vv_aload_n (pc := 24) x dd_He_addPair_24 rfl ?_
  refine lg_He_18 (pc := 25) G x dd_He_addPair_25 (by assumption) ?_
  refine lv_He_25 (pc := 28) G x dd_He_addPair_28 (k_termOf G)  ⟨by decide, by decide⟩ (by decide) (by decide) (Nat.le_of_ble_eq_true rfl) (fun v28 M28 q28 => ?_)
  obtain ⟨rfl, rfl⟩ := q28
  refine vv_iconst (pc := 31) x dd_He_addPair_31 (2) (by decide) ?_
  refine lv_He_29 (pc := 32) G x dd_He_addPair_32 (k_place G (pw := pw) (D := D) (ow := ow) (sl := sl) (by exact S) hp hD (by exact hT) (by exact i2)) (by assumption) ⟨by decide, by decide⟩ (by decide) (by decide) (Nat.le_of_ble_eq_true rfl) (fun v32 M32 q32 => ?_)
  obtain ⟨rfl, rfl⟩ := q32
  exact vv_iret (pc := 35) x dd_He_addPair_35 rfl (by decide) (by decide) ⟨rfl, rfl⟩
set_option maxRecDepth 100000 in
set_option maxHeartbeats 4000000 in
theorem k_addHandle (G : gc g X t0 l) (S : sh pw D ow sl M) (hp : pw ≠ 0) {h : Nat} (hD : D h) (hT : mm_t M h = 3) {a : Int32} (i2 : vp_in (mm_i M 2 1 h) (mm_n M (mm_f M 2 2 h))) (i3 : vp_in (mm_i M 2 0 h) (mm_n M (mm_f M 2 3 h))) : Ok g X l yy_He_addHandle cc_He_addHandle 2 (some .int) 1 22 0 0 [.ref h, .int a] M (fun v M' => v = some (.int (mm_i M 2 0 h <<< ((3 : Int32) &&& 31) ||| 5)) ∧ M' = hpl (hst M h (mm_i M 2 0 h) a) h (mm_i M 2 0 h <<< ((3 : Int32) &&& 31) ||| 5) 2) := by
  refine ok_start (by decide) (Nat.le_of_ble_eq_true rfl) (by simp [Value.category]) ?_
  intro p e s m args below meth c x
  have r2 := S.r hD hT 2 hp
  have t2 := S.t hD hT 2 hp
  have r3 := S.r hD hT 3 hp
  have t3 := S.t hD hT 3 hp
  refine vv_aload_n (pc := 0) x dd_He_addHandle_0 rfl ?_
  refine lg_He_15 (pc := 1) G x dd_He_addHandle_1 (by assumption) (by assumption) ?_
  refine vv_aload_n (pc := 4) x dd_He_addHandle_4 rfl ?_
  refine lg_He_18 (pc := 5) G x dd_He_addHandle_5 (by assumption) ?_
  refine vv_iload_n (pc := 8) x dd_He_addHandle_8 rfl ?_
  refine vv_iast (pc := 9) x dd_He_addHandle_9 (by assumption) (by assumption) ?_
  refine vv_aload_n (pc := 10) x dd_He_addHandle_10 rfl ?_
  refine vv_iconst (pc := 11) x dd_He_addHandle_11 (5) (by decide) ?_
  refine vv_aload_n (pc := 12) x dd_He_addHandle_12 rfl ?_
  refine lg_He_18 (pc := 13) G x dd_He_addHandle_13 (by assumption) ?_
  refine lv_He_25 (pc := 16) G x dd_He_addHandle_16 (k_termOf G)  ⟨by decide, by decide⟩ (by decide) (by decide) (Nat.le_of_ble_eq_true rfl) (fun v16 M16 q16 => ?_)
  obtain ⟨rfl, rfl⟩ := q16
  refine vv_iconst (pc := 19) x dd_He_addHandle_19 (2) (by decide) ?_
  refine lv_He_29 (pc := 20) G x dd_He_addHandle_20 (k_place G (pw := pw) (D := D) (ow := ow) (sl := sl) (by exact S) hp hD (by exact hT) (by exact i2)) (by assumption) ⟨by decide, by decide⟩ (by decide) (by decide) (Nat.le_of_ble_eq_true rfl) (fun v20 M20 q20 => ?_)
  obtain ⟨rfl, rfl⟩ := q20
  exact vv_iret (pc := 23) x dd_He_addHandle_23 rfl (by decide) (by decide) ⟨rfl, rfl⟩
end M1
