/-! ===== more of the class: heaps, mailboxes, the pool, fill ===== -/
section M2
variable {g : gg} {X : State → Prop} {t0 : Nat} {l : Launch} {M : mm} {pw : Nat} {D : Nat → Prop} {ow sl : Nat → Nat}
set_option maxRecDepth 100000 in
set_option maxHeartbeats 4000000 in
theorem k_blobOf (G : gc g X t0 l) (S : sh pw D ow sl M) (hp : pw ≠ 0) {h : Nat} (hD : D h) (hT : mm_t M h = 3) {t : Int32} (i3 : vp_in (t >>> ((3 : Int32) &&& 31)) (mm_n M (mm_f M 2 3 h))) : Ok g X l yy_He_blobOf cc_He_blobOf 2 (some .int) 1 20 0 0 [.ref h, .int t] M (fun v M' => v = some (.int (mm_a M (mm_f M 2 3 h) (t >>> ((3 : Int32) &&& 31)).toNatClampNeg)) ∧ M' = M) := by
  refine ok_start (by decide) (Nat.le_of_ble_eq_true rfl) (by simp [Value.category]) ?_
  intro p e s m args below meth c x
  have r2 := S.r hD hT 2 hp
  have t2 := S.t hD hT 2 hp
  have r3 := S.r hD hT 3 hp
  have t3 := S.t hD hT 3 hp
  refine vv_aload_n (pc := 0) x dd_He_blobOf_0 rfl ?_
  refine lg_He_15 (pc := 1) G x dd_He_blobOf_1 (by assumption) (by assumption) ?_
  refine vv_iload_n (pc := 4) x dd_He_blobOf_4 rfl ?_
  refine lv_He_32 (pc := 5) G x dd_He_blobOf_5 (k_contentOf G)  ⟨by decide, by decide⟩ (by decide) (by decide) (Nat.le_of_ble_eq_true rfl) (fun v5 M5 q5 => ?_)
  obtain ⟨rfl, rfl⟩ := q5
  refine vv_iald (pc := 8) x dd_He_blobOf_8 (by assumption) (by assumption) ?_
  exact vv_iret (pc := 9) x dd_He_blobOf_9 rfl (by decide) (by decide) ⟨rfl, rfl⟩
/-- how many parts, by the words of the heap -/
def hpc (M : mm) (h : Nat) (t : Int32) : Int32 := if t &&& 7 = 3 then 2 else if t &&& 7 = 4 then mm_a M (mm_f M 2 3 h) (t >>> ((3 : Int32) &&& 31)).toNatClampNeg else 0
/-- where part k lies -/
def hpi (t k : Int32) : Int32 := t >>> ((3 : Int32) &&& 31) + (if t &&& 7 = 4 then 1 else 0) + k
set_option maxRecDepth 100000 in
set_option maxHeartbeats 4000000 in
theorem k_partCount (G : gc g X t0 l) (S : sh pw D ow sl M) (hp : pw ≠ 0) {h : Nat} (hD : D h) (hT : mm_t M h = 3) {t : Int32} (i3 : t &&& 7 = 4 → vp_in (t >>> ((3 : Int32) &&& 31)) (mm_n M (mm_f M 2 3 h))) : Ok g X l yy_He_partCount cc_He_partCount 2 (some .int) 1 20 0 0 [.ref h, .int t] M (fun v M' => v = some (.int (hpc M h t)) ∧ M' = M) := by
  refine ok_start (by decide) (Nat.le_of_ble_eq_true rfl) (by simp [Value.category]) ?_
  intro p e s m args below meth c x
  have r2 := S.r hD hT 2 hp
  have t2 := S.t hD hT 2 hp
  have r3 := S.r hD hT 3 hp
  have t3 := S.t hD hT 3 hp
  refine vv_iload_n (pc := 0) x dd_He_partCount_0 rfl ?_
  refine lv_He_36 (pc := 1) G x dd_He_partCount_1 (k_kindOf G)  ⟨by decide, by decide⟩ (by decide) (by decide) (Nat.le_of_ble_eq_true rfl) (fun v1 M1 q1 => ?_)
  obtain ⟨rfl, rfl⟩ := q1
  refine sw_He_partCount_4 x (fun h4_3 => ?_) (fun h4_4 => ?_) (fun n4_3 n4_4 => ?_)
  · refine vv_iconst (pc := 32) x dd_He_partCount_32 (2) (by decide) ?_
    exact vv_iret (pc := 33) x dd_He_partCount_33 rfl (by decide) (by decide) ⟨by rw [hpc, if_pos h4_3], rfl⟩
  · refine vv_aload_n (pc := 34) x dd_He_partCount_34 rfl ?_
    refine lg_He_15 (pc := 35) G x dd_He_partCount_35 (by assumption) (by assumption) ?_
    refine vv_iload_n (pc := 38) x dd_He_partCount_38 rfl ?_
    refine lv_He_32 (pc := 39) G x dd_He_partCount_39 (k_contentOf G)  ⟨by decide, by decide⟩ (by decide) (by decide) (Nat.le_of_ble_eq_true rfl) (fun v39 M39 q39 => ?_)
    obtain ⟨rfl, rfl⟩ := q39
    refine vv_iald (pc := 42) x dd_He_partCount_42 (by assumption) (i3 h4_4) ?_
    exact vv_iret (pc := 43) x dd_He_partCount_43 rfl (by decide) (by decide) ⟨by rw [hpc, if_neg (by rw [h4_4]; decide), if_pos h4_4], rfl⟩
  · refine vv_iconst (pc := 44) x dd_He_partCount_44 (0) (by decide) ?_
    exact vv_iret (pc := 45) x dd_He_partCount_45 rfl (by decide) (by decide) ⟨by rw [hpc, if_neg n4_3, if_neg n4_4], rfl⟩
set_option maxRecDepth 100000 in
set_option maxHeartbeats 4000000 in
theorem k_partOf (G : gc g X t0 l) (S : sh pw D ow sl M) (hp : pw ≠ 0) {h : Nat} (hD : D h) (hT : mm_t M h = 3) {t k : Int32} (i3 : vp_in (hpi t k) (mm_n M (mm_f M 2 3 h))) : Ok g X l yy_He_partOf cc_He_partOf 3 (some .int) 2 40 0 0 [.ref h, .int t, .int k] M (fun v M' => v = some (.int (mm_a M (mm_f M 2 3 h) (hpi t k).toNatClampNeg)) ∧ M' = M) := by
  refine ok_start (by decide) (Nat.le_of_ble_eq_true rfl) (by simp [Value.category]) ?_
  intro p e s m args below meth c x
  have r2 := S.r hD hT 2 hp
  have t2 := S.t hD hT 2 hp
  have r3 := S.r hD hT 3 hp
  have t3 := S.t hD hT 3 hp
  refine vv_aload_n (pc := 0) x dd_He_partOf_0 rfl ?_
  refine lg_He_15 (pc := 1) G x dd_He_partOf_1 (by assumption) (by assumption) ?_
  refine vv_iload_n (pc := 4) x dd_He_partOf_4 rfl ?_
  refine lv_He_32 (pc := 5) G x dd_He_partOf_5 (k_contentOf G)  ⟨by decide, by decide⟩ (by decide) (by decide) (Nat.le_of_ble_eq_true rfl) (fun v5 M5 q5 => ?_)
  obtain ⟨rfl, rfl⟩ := q5
  refine vv_iload_n (pc := 8) x dd_He_partOf_8 rfl ?_
  refine lv_He_48 (pc := 9) G x dd_He_partOf_9 (k_firstPart G)  ⟨by decide, by decide⟩ (by decide) (by decide) (Nat.le_of_ble_eq_true rfl) (fun v9 M9 q9 => ?_)
  obtain ⟨rfl, rfl⟩ := q9
  refine vv_iadd (pc := 12) x dd_He_partOf_12 ?_
  refine vv_iload_n (pc := 13) x dd_He_partOf_13 rfl ?_
  refine vv_iadd (pc := 14) x dd_He_partOf_14 ?_
  refine vv_iald (pc := 15) x dd_He_partOf_15 (by assumption) (by assumption) ?_
  exact vv_iret (pc := 16) x dd_He_partOf_16 rfl (by decide) (by decide) ⟨rfl, rfl⟩
set_option maxRecDepth 100000 in
set_option maxHeartbeats 4000000 in
theorem k_setPart (G : gc g X t0 l) (S : sh pw D ow sl M) (hp : pw ≠ 0) {h : Nat} (hD : D h) (hT : mm_t M h = 3) {t k v : Int32} (i3 : vp_in (hpi t k) (mm_n M (mm_f M 2 3 h))) : Ok g X l yy_He_setPart cc_He_setPart 4 none 2 40 0 0 [.ref h, .int t, .int k, .int v] M (fun r M' => r = none ∧ M' = hst M h (hpi t k) v) := by
  refine ok_start (by decide) (Nat.le_of_ble_eq_true rfl) (by simp [Value.category]) ?_
  intro p e s m args below meth c x
  have r2 := S.r hD hT 2 hp
  have t2 := S.t hD hT 2 hp
  have r3 := S.r hD hT 3 hp
  have t3 := S.t hD hT 3 hp
  refine vv_aload_n (pc := 0) x dd_He_setPart_0 rfl ?_
  refine lg_He_15 (pc := 1) G x dd_He_setPart_1 (by assumption) (by assumption) ?_
  refine vv_iload_n (pc := 4) x dd_He_setPart_4 rfl ?_
  refine lv_He_32 (pc := 5) G x dd_He_setPart_5 (k_contentOf G)  ⟨by decide, by decide⟩ (by decide) (by decide) (Nat.le_of_ble_eq_true rfl) (fun v5 M5 q5 => ?_)
  obtain ⟨rfl, rfl⟩ := q5
  refine vv_iload_n (pc := 8) x dd_He_setPart_8 rfl ?_
  refine lv_He_48 (pc := 9) G x dd_He_setPart_9 (k_firstPart G)  ⟨by decide, by decide⟩ (by decide) (by decide) (Nat.le_of_ble_eq_true rfl) (fun v9 M9 q9 => ?_)
  obtain ⟨rfl, rfl⟩ := q9
  refine vv_iadd (pc := 12) x dd_He_setPart_12 ?_
  refine vv_iload_n (pc := 13) x dd_He_setPart_13 rfl ?_
  refine vv_iadd (pc := 14) x dd_He_setPart_14 ?_
  refine vv_iload_n (pc := 15) x dd_He_setPart_15 rfl ?_
  refine vv_iast (pc := 16) x dd_He_setPart_16 (by assumption) (by assumption) ?_
  exact vv_vret (pc := 17) x dd_He_setPart_17 rfl (by decide) (by decide) ⟨rfl, rfl⟩
/-- the place in the ring -/
def rg (M : mm) (b : Nat) (i : Int32) : Int32 := (mm_i M 4 1 b + i) - (mm_i M 4 1 b + i) / 512 * 512
set_option maxRecDepth 100000 in
set_option maxHeartbeats 4000000 in
theorem k_placeInRing (G : gc g X t0 l) {b : Nat} (hT : mm_t M b = 5) {i : Int32} : Ok g X l yy_Ma_placeInRing cc_Ma_placeInRing 2 (some .int) 0 0 0 0 [.ref b, .int i] M (fun v M' => v = some (.int (rg M b i)) ∧ M' = M) := by
  refine ok_start (by decide) (Nat.le_of_ble_eq_true rfl) (by simp [Value.category]) ?_
  intro p e s m args below meth c x
  refine vv_aload_n (pc := 0) x dd_Ma_placeInRing_0 rfl ?_
  refine lg_Ma_15 (pc := 1) G x dd_Ma_placeInRing_1 (by assumption) ?_
  refine vv_iload_n (pc := 4) x dd_Ma_placeInRing_4 rfl ?_
  refine vv_iadd (pc := 5) x dd_Ma_placeInRing_5 ?_
  refine vv_sipush (pc := 6) x dd_Ma_placeInRing_6 (512) (by decide) ?_
  refine vv_irem (pc := 9) x dd_Ma_placeInRing_9 (by decide) ?_
  exact vv_iret (pc := 10) x dd_Ma_placeInRing_10 rfl (by decide) (by decide) ⟨rfl, rfl⟩
set_option maxRecDepth 100000 in
set_option maxHeartbeats 4000000 in
theorem k_mget (G : gc g X t0 l) (S : sh pw D ow sl M) {b : Nat} (hD : D b) (hT : mm_t M b = 5) {i : Int32} (i2 : vp_in (rg M b i) (mm_n M (mm_f M 4 2 b))) : Ok g X l yy_Ma_get cc_Ma_get 2 (some .int) 1 21 0 0 [.ref b, .int i] M (fun v M' => v = some (.int (mm_a M (mm_f M 4 2 b) (rg M b i).toNatClampNeg)) ∧ M' = M) := by
  refine ok_start (by decide) (Nat.le_of_ble_eq_true rfl) (by simp [Value.category]) ?_
  intro p e s m args below meth c x
  have r2 := S.r hD hT 2 (by show (512 : Nat) ≠ 0; decide)
  have t2 := S.t hD hT 2 (by show (512 : Nat) ≠ 0; decide)
  refine vv_aload_n (pc := 0) x dd_Ma_get_0 rfl ?_
  refine lg_Ma_9 (pc := 1) G x dd_Ma_get_1 (by assumption) (by assumption) ?_
  refine vv_aload_n (pc := 4) x dd_Ma_get_4 rfl ?_
  refine vv_iload_n (pc := 5) x dd_Ma_get_5 rfl ?_
  refine lv_Ma_30 (pc := 6) G x dd_Ma_get_6 (k_placeInRing G hT) (by assumption) ⟨by decide, by decide⟩ (by decide) (by decide) (Nat.le_of_ble_eq_true rfl) (fun v6 M6 q6 => ?_)
  obtain ⟨rfl, rfl⟩ := q6
  refine vv_iald (pc := 9) x dd_Ma_get_9 (by assumption) (by assumption) ?_
  exact vv_iret (pc := 10) x dd_Ma_get_10 rfl (by decide) (by decide) ⟨rfl, rfl⟩
set_option maxRecDepth 100000 in
set_option maxHeartbeats 4000000 in
theorem k_mset (G : gc g X t0 l) (S : sh pw D ow sl M) {b : Nat} (hD : D b) (hT : mm_t M b = 5) {i t : Int32} (i2 : vp_in (rg M b i) (mm_n M (mm_f M 4 2 b))) : Ok g X l yy_Ma_set cc_Ma_set 3 none 1 21 0 0 [.ref b, .int i, .int t] M (fun v M' => v = none ∧ M' = mm_sa M (mm_f M 4 2 b) (upd (mm_a M (mm_f M 4 2 b)) (rg M b i).toNatClampNeg t)) := by
  refine ok_start (by decide) (Nat.le_of_ble_eq_true rfl) (by simp [Value.category]) ?_
  intro p e s m args below meth c x
  have r2 := S.r hD hT 2 (by show (512 : Nat) ≠ 0; decide)
  have t2 := S.t hD hT 2 (by show (512 : Nat) ≠ 0; decide)
  refine vv_aload_n (pc := 0) x dd_Ma_set_0 rfl ?_
  refine lg_Ma_9 (pc := 1) G x dd_Ma_set_1 (by assumption) (by assumption) ?_
  refine vv_aload_n (pc := 4) x dd_Ma_set_4 rfl ?_
  refine vv_iload_n (pc := 5) x dd_Ma_set_5 rfl ?_
  refine lv_Ma_30 (pc := 6) G x dd_Ma_set_6 (k_placeInRing G hT) (by assumption) ⟨by decide, by decide⟩ (by decide) (by decide) (Nat.le_of_ble_eq_true rfl) (fun v6 M6 q6 => ?_)
  obtain ⟨rfl, rfl⟩ := q6
  refine vv_iload_n (pc := 9) x dd_Ma_set_9 rfl ?_
  refine vv_iast (pc := 10) x dd_Ma_set_10 (by assumption) (by assumption) ?_
  exact vv_vret (pc := 11) x dd_Ma_set_11 rfl (by decide) (by decide) ⟨rfl, rfl⟩
set_option maxRecDepth 100000 in
set_option maxHeartbeats 4000000 in
theorem k_mclear (G : gc g X t0 l) {b : Nat} (hT : mm_t M b = 5) : Ok g X l yy_Ma_clear cc_Ma_clear 1 none 0 0 0 0 [.ref b] M (fun v M' => v = none ∧ M' = mm_si (mm_si M 4 1 b 0) 4 0 b 0) := by
  refine ok_start (by decide) (Nat.le_of_ble_eq_true rfl) (by simp [Value.category]) ?_
  intro p e s m args below meth c x
  refine vv_aload_n (pc := 0) x dd_Ma_clear_0 rfl ?_
  refine vv_iconst (pc := 1) x dd_Ma_clear_1 (0) (by decide) ?_
  refine lp_Ma_15 (pc := 2) G x dd_Ma_clear_2 (by assumption) ?_
  refine vv_aload_n (pc := 5) x dd_Ma_clear_5 rfl ?_
  refine vv_iconst (pc := 6) x dd_Ma_clear_6 (0) (by decide) ?_
  refine lp_Ma_19 (pc := 7) G x dd_Ma_clear_7 (by assumption) ?_
  exact vv_vret (pc := 10) x dd_Ma_clear_10 rfl (by decide) (by decide) ⟨rfl, rfl⟩
set_option maxRecDepth 100000 in
set_option maxHeartbeats 4000000 in
theorem k_isFull (G : gc g X t0 l) {b : Nat} (hT : mm_t M b = 5) : Ok g X l yy_Ma_isFull cc_Ma_isFull 1 (some .boolean) 0 0 0 0 [.ref b] M (fun v M' => v = some (.int (if mm_i M 4 0 b < 512 then 0 else 1)) ∧ M' = M) := by
  refine ok_start (by decide) (Nat.le_of_ble_eq_true rfl) (by simp [Value.category]) ?_
  intro p e s m args below meth c x
  refine vv_aload_n (pc := 0) x dd_Ma_isFull_0 rfl ?_
  refine lg_Ma_19 (pc := 1) G x dd_Ma_isFull_1 (by assumption) ?_
  refine vv_sipush (pc := 4) x dd_Ma_isFull_4 (512) (by decide) ?_
  refine vv_icmp_lt (pc := 7) x dd_Ma_isFull_7 (tgt := 14) (by decide) (fun h7 => ?_) (fun h7 => ?_)
  · refine vv_iconst (pc := 14) x dd_Ma_isFull_14 (0) (by decide) ?_
    exact vv_zret (pc := 15) x dd_Ma_isFull_15 rfl (Or.inl rfl) (by decide) (by decide) ⟨by rw [if_pos h7], rfl⟩
  · refine vv_iconst (pc := 10) x dd_Ma_isFull_10 (1) (by decide) ?_
    refine vv_goto (pc := 11) x dd_Ma_isFull_11 (tgt := 15) (by decide) ?_
    exact vv_zret (pc := 15) x dd_Ma_isFull_15 rfl (Or.inr rfl) (by decide) (by decide) ⟨by rw [if_neg h7], rfl⟩
set_option maxRecDepth 100000 in
set_option maxHeartbeats 4000000 in
theorem k_countHandle (G : gc g X t0 l) (S : sh pw D ow sl M) {b : Nat} (hD : D b) (hT : mm_t M b = 6) {w : Int32} (i3 : vp_in w (mm_n M (mm_f M 5 3 b))) : Ok g X l yy_Po_countHandle cc_Po_countHandle 2 none 0 0 0 0 [.ref b, .int w] M (fun v M' => v = none ∧ M' = mm_sa M (mm_f M 5 3 b) (upd (mm_a M (mm_f M 5 3 b)) w.toNatClampNeg (mm_a M (mm_f M 5 3 b) w.toNatClampNeg + 1))) := by
  refine ok_start (by decide) (Nat.le_of_ble_eq_true rfl) (by simp [Value.category]) ?_
  intro p e s m args below meth c x
  have r2 := S.r hD hT 2 (by show (30 : Nat) ≠ 0; decide)
  have t2 := S.t hD hT 2 (by show (30 : Nat) ≠ 0; decide)
  have r3 := S.r hD hT 3 (by show (30 : Nat) ≠ 0; decide)
  have t3 := S.t hD hT 3 (by show (30 : Nat) ≠ 0; decide)
  refine vv_aload_n (pc := 0) x dd_Po_countHandle_0 rfl ?_
  refine lg_Po_15 (pc := 1) G x dd_Po_countHandle_1 (by assumption) (by assumption) ?_
  refine vv_iload_n (pc := 4) x dd_Po_countHandle_4 rfl ?_
  refine vv_dup2 (pc := 5) x dd_Po_countHandle_5 rfl rfl ?_
  refine vv_iald (pc := 6) x dd_Po_countHandle_6 (by assumption) (by assumption) ?_
  refine vv_iconst (pc := 7) x dd_Po_countHandle_7 (1) (by decide) ?_
  refine vv_iadd (pc := 8) x dd_Po_countHandle_8 ?_
  refine vv_iast (pc := 9) x dd_Po_countHandle_9 (by assumption) (by assumption) ?_
  exact vv_vret (pc := 10) x dd_Po_countHandle_10 rfl (by decide) (by decide) ⟨rfl, rfl⟩
set_option maxRecDepth 100000 in
set_option maxHeartbeats 4000000 in
theorem k_lacks (G : gc g X t0 l) {b : Nat} (hT : mm_t M b = 4) (r2 : mm_r M 3 2 b ≠ 0) (t2 : mm_t M (mm_f M 3 2 b) = 3) {w : Int32} : Ok g X l yy_Pr_lacks cc_Pr_lacks 2 (some .int) 0 0 0 0 [.ref b, .int w] M (fun v M' => v = some (.int (mm_i M 2 0 (mm_f M 3 2 b) + w - mm_i M 3 1 b)) ∧ M' = M) := by
  refine ok_start (by decide) (Nat.le_of_ble_eq_true rfl) (by simp [Value.category]) ?_
  intro p e s m args below meth c x
  refine vv_aload_n (pc := 0) x dd_Pr_lacks_0 rfl ?_
  refine lg_Pr_27 (pc := 1) G x dd_Pr_lacks_1 (by assumption) (by assumption) ?_
  refine lg_Pr_48 (pc := 4) G x dd_Pr_lacks_4 (by assumption) ?_
  refine vv_iload_n (pc := 7) x dd_Pr_lacks_7 rfl ?_
  refine vv_iadd (pc := 8) x dd_Pr_lacks_8 ?_
  refine vv_aload_n (pc := 9) x dd_Pr_lacks_9 rfl ?_
  refine lg_Pr_35 (pc := 10) G x dd_Pr_lacks_10 (by assumption) ?_
  refine vv_isub (pc := 13) x dd_Pr_lacks_13 ?_
  exact vv_iret (pc := 14) x dd_Pr_lacks_14 rfl (by decide) (by decide) ⟨rfl, rfl⟩
set_option maxRecDepth 100000 in
set_option maxHeartbeats 4000000 in
theorem k_fill (G : gc g X t0 l) {a : Nat} (hT : mm_t M a = 100) (hn : mm_n M a < 2 ^ 31) {w : Int32} : Ok g X l yy_Ar_fill cc_Ar_fill 4 none 0 0 0 0 [.ref a, .int w] M (fun v M' => v = none ∧ M' = mm_sa M a (fun j => if j < mm_n M a then w else mm_a M a j)) := by
  refine ok_start (by decide) (Nat.le_of_ble_eq_true rfl) (by simp [Value.category]) ?_
  intro p e s m args below meth c x
  have hloop : ∀ k i : Nat, mm_n M a - i < k → i ≤ mm_n M a → vv g 4 p l e (rm 0 0 0 0) s m args below meth c (MQ below (ok_Q g (fun v M' => v = none ∧ M' = mm_sa M a (fun j => if j < mm_n M a then w else mm_a M a j))) args s 0 0 (ok_F g)) 0 0 5 [some (.ref a), some (.int w), some (.int (nI i)), some (.int (nI (mm_n M a)))] [] (mm_sa M a (fun j => if j < i then w else mm_a M a j)) := by
    intro k
    induction k with
    | zero => intro i h; omega
    | succ k ih =>
      intro i hk hi
      refine vv_iload_n (pc := 5) x dd_Ar_fill_5 rfl ?_
      refine vv_iload_n (pc := 6) x dd_Ar_fill_6 rfl ?_
      refine vv_icmp_ge (pc := 7) x dd_Ar_fill_7 (tgt := 20) (by decide) (fun h7 => ?_) (fun h7 => ?_)
      · have hin : i = mm_n M a := by have := (nI_leI hn (by omega)).mp h7; omega
        subst hin
        exact vv_vret (pc := 20) x dd_Ar_fill_20 rfl (by decide) (by decide) ⟨rfl, rfl⟩
      · have hlt : i < mm_n M a := by
          rcases Nat.lt_or_ge i (mm_n M a) with h | h
          · exact h
          · exact absurd (nI_le h (by omega)) h7
        have hcl : (nI i).toNatClampNeg = i := nI_clamp (by omega)
        refine vv_aload_n (pc := 10) x dd_Ar_fill_10 rfl ?_
        refine vv_iload_n (pc := 11) x dd_Ar_fill_11 rfl ?_
        refine vv_iload_n (pc := 12) x dd_Ar_fill_12 rfl ?_
        refine vv_iast (pc := 13) x dd_Ar_fill_13 (by assumption) (by exact vp_in_nI hlt hn) ?_
        refine vv_iinc (pc := 14) x dd_Ar_fill_14 rfl (nI_1 i) (by decide) (ls2 := [_, _, _, _]) rfl ?_
        refine vv_goto (pc := 17) x dd_Ar_fill_17 (tgt := 5) (by decide) ?_
        have e : mm_sa (mm_sa M a (fun j => if j < i then w else mm_a M a j)) a (upd (mm_a (mm_sa M a (fun j => if j < i then w else mm_a M a j)) a) (nI i).toNatClampNeg w) = mm_sa M a (fun j => if j < i + 1 then w else mm_a M a j) := by
          rw [sa_sa, ma_sa_s, hcl]
          congr 1
          funext j
          unfold upd
          by_cases h1 : j = i
          · rw [if_pos h1, if_pos (by omega)]
          · rw [if_neg h1]
            show (if j < i then w else mm_a M a j) = _
            by_cases h2 : j < i
            · rw [if_pos h2, if_pos (by omega)]
            · rw [if_neg h2, if_neg (by omega)]
        rw [e]
        exact ih (i + 1) (by omega) (by omega)
  refine vv_iconst (pc := 0) x dd_Ar_fill_0 (0) (by decide) ?_
  refine vv_istore_n (pc := 1) x dd_Ar_fill_1 (by decide) (ls2 := [_, _, _, none]) rfl ?_
  refine vv_aload_n (pc := 2) x dd_Ar_fill_2 rfl ?_
  refine vv_alenI (pc := 3) x dd_Ar_fill_3 (by assumption) ?_
  refine vv_istore_n (pc := 4) x dd_Ar_fill_4 (by decide) (ls2 := [_, _, _, _]) rfl ?_
  have e0 : M = mm_sa M a (fun j => if j < 0 then w else mm_a M a j) := (sa_id (by funext j; rw [if_neg (Nat.not_lt_zero j)])).symm
  have h0 := hloop (mm_n M a + 1) 0 (by omega) (Nat.zero_le _)
  rw [← e0] at h0
  exact h0
end M2
