/-! ===== mailbox, pool, tuples, copies ===== -/
section M3
variable {g : gg} {X : State → Prop} {t0 : Nat} {l : Launch} {M : mm} {pw : Nat} {D : Nat → Prop} {ow sl : Nat → Nat}
/-- a message behind the others -/
def madd (M : mm) (b : Nat) (t : Int32) : mm := mm_sa (mm_si M 4 0 b (mm_i M 4 0 b + 1)) (mm_f M 4 2 b) (upd (mm_a M (mm_f M 4 2 b)) (rg M b (mm_i M 4 0 b + 1 - 1)).toNatClampNeg t)
def mtake (M : mm) (b : Nat) : mm := mm_si (mm_si M 4 1 b (rg M b 1)) 4 0 b (mm_i M 4 0 b - 1)
set_option maxRecDepth 100000 in
set_option maxHeartbeats 4000000 in
theorem k_addLast (G : gc g X t0 l) (S : sh pw D ow sl M) {b : Nat} (hD : D b) (hT : mm_t M b = 5) {t : Int32} (i2 : vp_in (rg M b (mm_i M 4 0 b + 1 - 1)) (mm_n M (mm_f M 4 2 b))) : Ok g X l yy_Ma_addLast cc_Ma_addLast 2 none 2 43 0 0 [.ref b, .int t] M (fun v M' => v = none ∧ M' = madd M b t) := by
  refine ok_start (by decide) (Nat.le_of_ble_eq_true rfl) (by simp [Value.category]) ?_
  intro p e s m args below meth c x
  have r2 := S.r hD hT 2 (by show (512 : Nat) ≠ 0; decide)
  have t2 := S.t hD hT 2 (by show (512 : Nat) ≠ 0; decide)
  have e0 : mm_i (mm_si M 4 0 b (mm_i M 4 0 b + 1)) 4 0 b = mm_i M 4 0 b + 1 := mi_si_s
  refine vv_aload_n (pc := 0) x dd_Ma_addLast_0 rfl ?_
  refine vv_dup (pc := 1) x dd_Ma_addLast_1 rfl ?_
  refine lg_Ma_19 (pc := 2) G x dd_Ma_addLast_2 (by assumption) ?_
  refine vv_iconst (pc := 5) x dd_Ma_addLast_5 (1) (by decide) ?_
  refine vv_iadd (pc := 6) x dd_Ma_addLast_6 ?_
  refine lp_Ma_19 (pc := 7) G x dd_Ma_addLast_7 (by assumption) ?_
  refine vv_aload_n (pc := 10) x dd_Ma_addLast_10 rfl ?_
  refine vv_aload_n (pc := 11) x dd_Ma_addLast_11 rfl ?_
  refine lg_Ma_19 (pc := 12) G x dd_Ma_addLast_12 (by assumption) ?_
  refine vv_iconst (pc := 15) x dd_Ma_addLast_15 (1) (by decide) ?_
  refine vv_isub (pc := 16) x dd_Ma_addLast_16 ?_
  refine vv_iload_n (pc := 17) x dd_Ma_addLast_17 rfl ?_
  refine lv_Ma_22 (pc := 18) G x dd_Ma_addLast_18 (k_mset G (by exact S) hD (by exact hT) (by rw [e0]; exact i2)) (by assumption) ⟨by decide, by decide⟩ (by decide) (by decide) (Nat.le_of_ble_eq_true rfl) (fun v18 M18 q18 => ?_)
  obtain ⟨rfl, rfl⟩ := q18
  exact vv_vret (pc := 21) x dd_Ma_addLast_21 rfl (by decide) (by decide) ⟨rfl, by rw [e0]; rfl⟩
set_option maxRecDepth 100000 in
set_option maxHeartbeats 4000000 in
theorem k_takeFirst (G : gc g X t0 l) (S : sh pw D ow sl M) {b : Nat} (hD : D b) (hT : mm_t M b = 5) (i2 : vp_in (rg M b 0) (mm_n M (mm_f M 4 2 b))) : Ok g X l yy_Ma_takeFirst cc_Ma_takeFirst 2 (some .int) 2 42 0 0 [.ref b] M (fun v M' => v = some (.int (mm_a M (mm_f M 4 2 b) (rg M b 0).toNatClampNeg)) ∧ M' = mtake M b) := by
  refine ok_start (by decide) (Nat.le_of_ble_eq_true rfl) (by simp [Value.category]) ?_
  intro p e s m args below meth c x
  have r2 := S.r hD hT 2 (by show (512 : Nat) ≠ 0; decide)
  have t2 := S.t hD hT 2 (by show (512 : Nat) ≠ 0; decide)
  refine vv_aload_n (pc := 0) x dd_Ma_takeFirst_0 rfl ?_
  refine vv_iconst (pc := 1) x dd_Ma_takeFirst_1 (0) (by decide) ?_
  refine lv_Ma_26 (pc := 2) G x dd_Ma_takeFirst_2 (k_mget G (by exact S) hD (by exact hT) (by exact i2)) (by assumption) ⟨by decide, by decide⟩ (by decide) (by decide) (Nat.le_of_ble_eq_true rfl) (fun v2 M2 q2 => ?_)
  obtain ⟨rfl, rfl⟩ := q2
  refine vv_istore_n (pc := 5) x dd_Ma_takeFirst_5 (by decide) (ls2 := [_, _]) rfl ?_
  refine vv_aload_n (pc := 6) x dd_Ma_takeFirst_6 rfl ?_
  refine vv_aload_n (pc := 7) x dd_Ma_takeFirst_7 rfl ?_
  refine vv_iconst (pc := 8) x dd_Ma_takeFirst_8 (1) (by decide) ?_
  refine lv_Ma_30 (pc := 9) G x dd_Ma_takeFirst_9 (k_placeInRing G (by exact hT)) (by assumption) ⟨by decide, by decide⟩ (by decide) (by decide) (Nat.le_of_ble_eq_true rfl) (fun v9 M9 q9 => ?_)
  obtain ⟨rfl, rfl⟩ := q9
  refine lp_Ma_15 (pc := 12) G x dd_Ma_takeFirst_12 (by assumption) ?_
  refine vv_aload_n (pc := 15) x dd_Ma_takeFirst_15 rfl ?_
  refine vv_dup (pc := 16) x dd_Ma_takeFirst_16 rfl ?_
  refine lg_Ma_19 (pc := 17) G x dd_Ma_takeFirst_17 (by assumption) ?_
  refine vv_iconst (pc := 20) x dd_Ma_takeFirst_20 (1) (by decide) ?_
  refine vv_isub (pc := 21) x dd_Ma_takeFirst_21 ?_
  refine lp_Ma_19 (pc := 22) G x dd_Ma_takeFirst_22 (by assumption) ?_
  refine vv_iload_n (pc := 25) x dd_Ma_takeFirst_25 rfl ?_
  exact vv_iret (pc := 26) x dd_Ma_takeFirst_26 rfl (by decide) (by decide) ⟨rfl, rfl⟩
/-- a handle goes -/
def pdec (M : mm) (b : Nat) (w : Int32) : mm := mm_sa M (mm_f M 5 3 b) (upd (mm_a M (mm_f M 5 3 b)) w.toNatClampNeg (mm_a M (mm_f M 5 3 b) w.toNatClampNeg - 1))
def pdrop (M : mm) (b : Nat) (w : Int32) : mm := if mm_a M (mm_f M 5 3 b) w.toNatClampNeg - 1 = 0 then mm_si (mm_si (pdec M b w) 5 0 b (mm_i M 5 0 b + mm_a M (mm_f M 5 2 b) w.toNatClampNeg)) 5 1 b (mm_i M 5 1 b - 1) else pdec M b w
set_option maxRecDepth 100000 in
set_option maxHeartbeats 4000000 in
theorem k_dropHandle (G : gc g X t0 l) (S : sh pw D ow sl M) {b : Nat} (hD : D b) (hT : mm_t M b = 6) {w : Int32} (i3 : vp_in w (mm_n M (mm_f M 5 3 b))) (i2 : vp_in w (mm_n M (mm_f M 5 2 b))) : Ok g X l yy_Po_dropHandle cc_Po_dropHandle 2 none 0 0 0 0 [.ref b, .int w] M (fun v M' => v = none ∧ M' = pdrop M b w) := by
  refine ok_start (by decide) (Nat.le_of_ble_eq_true rfl) (by simp [Value.category]) ?_
  intro p e s m args below meth c x
  have r2 := S.r hD hT 2 (by show (30 : Nat) ≠ 0; decide)
  have t2 := S.t hD hT 2 (by show (30 : Nat) ≠ 0; decide)
  have r3 := S.r hD hT 3 (by show (30 : Nat) ≠ 0; decide)
  have t3 := S.t hD hT 3 (by show (30 : Nat) ≠ 0; decide)
  have hne : mm_f M 5 2 b ≠ mm_f M 5 3 b := S.ap hD hT (by show (30 : Nat) ≠ 0; decide) hD hT (by show (30 : Nat) ≠ 0; decide) (Or.inr (by decide))
  have e1 : mm_a (pdec M b w) (mm_f M 5 3 b) w.toNatClampNeg = mm_a M (mm_f M 5 3 b) w.toNatClampNeg - 1 := by
    unfold pdec
    rw [ma_sa_s]
    exact if_pos rfl
  have e2 : mm_a (pdec M b w) (mm_f M 5 2 b) = mm_a M (mm_f M 5 2 b) := ma_sa_n hne
  refine vv_aload_n (pc := 0) x dd_Po_dropHandle_0 rfl ?_
  refine lg_Po_15 (pc := 1) G x dd_Po_dropHandle_1 (by assumption) (by assumption) ?_
  refine vv_iload_n (pc := 4) x dd_Po_dropHandle_4 rfl ?_
  refine vv_dup2 (pc := 5) x dd_Po_dropHandle_5 rfl rfl ?_
  refine vv_iald (pc := 6) x dd_Po_dropHandle_6 (by assumption) (by assumption) ?_
  refine vv_iconst (pc := 7) x dd_Po_dropHandle_7 (1) (by decide) ?_
  refine vv_isub (pc := 8) x dd_Po_dropHandle_8 ?_
  refine vv_iast (pc := 9) x dd_Po_dropHandle_9 (by assumption) (by assumption) ?_
  refine vv_aload_n (pc := 10) x dd_Po_dropHandle_10 rfl ?_
  refine lg_Po_15 (pc := 11) G x dd_Po_dropHandle_11 (by assumption) (by assumption) ?_
  refine vv_iload_n (pc := 14) x dd_Po_dropHandle_14 rfl ?_
  refine vv_iald (pc := 15) x dd_Po_dropHandle_15 (by assumption) (by assumption) ?_
  refine vv_if_ne (pc := 16) x dd_Po_dropHandle_16 (tgt := 44) (by decide) (fun h16 => ?_) (fun h16 => ?_)
  · exact vv_vret (pc := 44) x dd_Po_dropHandle_44 rfl (by decide) (by decide) ⟨rfl, (if_neg (by rw [← e1]; exact h16)).symm⟩
  · refine vv_aload_n (pc := 19) x dd_Po_dropHandle_19 rfl ?_
    refine vv_dup (pc := 20) x dd_Po_dropHandle_20 rfl ?_
    refine lg_Po_18 (pc := 21) G x dd_Po_dropHandle_21 (by assumption) ?_
    refine vv_aload_n (pc := 24) x dd_Po_dropHandle_24 rfl ?_
    refine lg_Po_9 (pc := 25) G x dd_Po_dropHandle_25 (by assumption) (by assumption) ?_
    refine vv_iload_n (pc := 28) x dd_Po_dropHandle_28 rfl ?_
    refine vv_iald (pc := 29) x dd_Po_dropHandle_29 (by assumption) (by assumption) ?_
    refine vv_iadd (pc := 30) x dd_Po_dropHandle_30 ?_
    refine lp_Po_18 (pc := 31) G x dd_Po_dropHandle_31 (by assumption) ?_
    refine vv_aload_n (pc := 34) x dd_Po_dropHandle_34 rfl ?_
    refine vv_dup (pc := 35) x dd_Po_dropHandle_35 rfl ?_
    refine lg_Po_22 (pc := 36) G x dd_Po_dropHandle_36 (by assumption) ?_
    refine vv_iconst (pc := 39) x dd_Po_dropHandle_39 (1) (by decide) ?_
    refine vv_isub (pc := 40) x dd_Po_dropHandle_40 ?_
    refine lp_Po_22 (pc := 41) G x dd_Po_dropHandle_41 (by assumption) ?_
    exact vv_vret (pc := 44) x dd_Po_dropHandle_44 rfl (by decide) (by decide) ⟨rfl, by rw [pdrop, if_pos (by rw [← e1]; exact h16), ← e2]; rfl⟩
end M3
