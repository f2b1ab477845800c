/-! ===== the small methods of the class ===== -/
section M1
variable {g : gg} {X : State → Prop} {t0 : Nat} {l : Launch} {M : mm}
set_option maxRecDepth 100000 in
set_option maxHeartbeats 4000000 in
theorem k_termOf (G : gc g X t0 l) {k n : Int32} : Ok g X l yy_CH_termOf cc_CH_termOf 2 (some .int) 0 0 0 0 [.int k, .int n] M (fun v M' => v = some (.int (n <<< ((3 : Int32) &&& 31) ||| k)) ∧ M' = M) := by
  refine ok_start (by decide) (Nat.le_of_ble_eq_true rfl) (by simp [Value.category]) ?_
  intro p e s m args below meth c x
  refine vv_iload_n (pc := 0) x dd_CH_termOf_0 rfl ?_
  refine vv_iconst (pc := 1) x dd_CH_termOf_1 (3) (by decide) ?_
  refine vv_ishl (pc := 2) x dd_CH_termOf_2 ?_
  refine vv_iload_n (pc := 3) x dd_CH_termOf_3 rfl ?_
  refine vv_ior (pc := 4) x dd_CH_termOf_4 ?_
  exact vv_iret (pc := 5) x dd_CH_termOf_5 rfl (by decide) (by decide) ⟨rfl, rfl⟩
set_option maxRecDepth 100000 in
set_option maxHeartbeats 4000000 in
theorem k_kindOf (G : gc g X t0 l) {t : Int32} : Ok g X l yy_CH_kindOf cc_CH_kindOf 1 (some .int) 0 0 0 0 [.int t] M (fun v M' => v = some (.int (t &&& 7)) ∧ M' = M) := by
  refine ok_start (by decide) (Nat.le_of_ble_eq_true rfl) (by simp [Value.category]) ?_
  intro p e s m args below meth c x
  refine vv_iload_n (pc := 0) x dd_CH_kindOf_0 rfl ?_
  refine vv_bipush (pc := 1) x dd_CH_kindOf_1 (7) (by decide) ?_
  refine vv_iand (pc := 3) x dd_CH_kindOf_3 ?_
  exact vv_iret (pc := 4) x dd_CH_kindOf_4 rfl (by decide) (by decide) ⟨rfl, rfl⟩
set_option maxRecDepth 100000 in
set_option maxHeartbeats 4000000 in
theorem k_contentOf (G : gc g X t0 l) {t : Int32} : Ok g X l yy_CH_contentOf cc_CH_contentOf 1 (some .int) 0 0 0 0 [.int t] M (fun v M' => v = some (.int (t >>> ((3 : Int32) &&& 31))) ∧ M' = M) := by
  refine ok_start (by decide) (Nat.le_of_ble_eq_true rfl) (by simp [Value.category]) ?_
  intro p e s m args below meth c x
  refine vv_iload_n (pc := 0) x dd_CH_contentOf_0 rfl ?_
  refine vv_iconst (pc := 1) x dd_CH_contentOf_1 (3) (by decide) ?_
  refine vv_ishr (pc := 2) x dd_CH_contentOf_2 ?_
  exact vv_iret (pc := 3) x dd_CH_contentOf_3 rfl (by decide) (by decide) ⟨rfl, rfl⟩
end M1
