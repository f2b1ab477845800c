/-! ===== the law's own methods around the class's ===== -/
section M72
variable {g : gg} {X : State → Prop} {t0 : Nat} {l : Launch} {M M1 : mm} {pw n : Nat} {D : Nat → Prop} {ow sl : Nat → Nat} {o out : Nat} {La Le : List Nat} {Z : zst}
theorem CE_of (C : CI pw D ow sl M1 o La Le Z) (K : kp pw D M M1) (hDl : ∀ a, D a → mm_t M a ≠ 0) (hs0 : sl 0 = t0) : kq pw D M M1 ∧ CE pw t0 D M1 o Z := ⟨K.q, D, ow, sl, La, Le, fun _ h => h, fun a ha => by rw [(K.1 a (hDl a ha)).1]; exact hDl a ha, hs0, C⟩
theorem CE_rf (C : CI pw D ow sl M o La Le Z) (hDl : ∀ a, D a → mm_t M a ≠ 0) (hs0 : sl 0 = t0) : kq pw D M M ∧ CE pw t0 D M o Z := ⟨kq.rf, D, ow, sl, La, Le, fun _ h => h, hDl, hs0, C⟩
theorem CE_lo {a : Nat} {f : Nat → Int64} (h : kq pw D M M1 ∧ CE pw t0 D M1 o Z) : kq pw D M (mm_sl M1 a f) ∧ CE pw t0 D (mm_sl M1 a f) o Z := h
theorem ml_out {a : Nat} {f : Nat → Int64} {v : Int64} : mm_l (mm_sl M a (va_up f (0 : Int32).toNatClampNeg v)) a 0 = v := by
  show (if a = a then va_up f (0 : Int32).toNatClampNeg v else mm_l M a) 0 = v
  rw [if_pos rfl]
  exact if_pos rfl
set_option maxRecDepth 100000 in
set_option maxHeartbeats 1000000 in
theorem W_spawn (G : gc g X t0 l) (C : CI pw D ow sl M o La Le Z) (I : zi pw n Z) (hn : n < 512) (hDl : ∀ a, D a → mm_t M a ≠ 0) (hs0 : sl 0 = t0) (hto : mm_t M out = 101) (hno : mm_n M out = 1) : OkW g X l yy_La_spawn cc_La_spawn 3 (some .int) [(0, 8, 11, 13)] 7 129 9 1744 [.ref o, .ref out] M (fun v M' => v = some (.int (F_spawn Z ).1) ∧ (kq pw D M M' ∧ CE pw t0 D M' o (F_spawn Z ).2.2) ∧ ((F_spawn Z ).1 = 0 → mm_l M' out 0 = (F_spawn Z ).2.1.toInt64)) := by
  have hm5 : ∀ P ∈ Z.1, P.2.2.2.1.length < 512 := fun P hP => by have := I.2.2.1 P hP; omega
  have hTo : mm_t M o = 7 := C.2.1.2.1
  refine okw_start (by decide) (Nat.le_of_ble_eq_true rfl) (by simp [Value.category]) ?_
  intro p e s m args below meth c9 x ht
  refine vv_aload_n (pc := 0) x dd_La_spawn_0 rfl ?_
  refine vv_iconst (pc := 1) x dd_La_spawn_1 (0) (by decide) ?_
  refine vv_aload_n (pc := 2) x dd_La_spawn_2 rfl ?_
  refine lz_La_spawn (pc := 3) G x dd_La_spawn_3 (C_spawn G C I.1 hDl hs0) hTo ⟨by decide, by decide⟩ (by decide) (by decide) (Nat.le_of_ble_eq_true rfl) (fun v1 M1 q1 => ?_) (fun E1 M1 q1 => ?_)
  · obtain ⟨rfl, c1, K1, D1, ow1, sl1, p9, Le1, s1, s2, s3, C1⟩ := q1
    refine vv_i2l (pc := 6) x dd_La_spawn_6 ?_
    refine vv_last (pc := 7) x dd_La_spawn_7 ((K1.1 out (by rw [hto]; decide)).1.trans hto) (in_n (i := 0) (N := 1) (by decide) ((K1.1 out (by rw [hto]; decide)).2.1.trans hno) (by decide)) ?_
    refine vv_goto (pc := 8) x dd_La_spawn_8 (tgt := 14) (by decide) ?_
    refine vv_iconst (pc := 14) x dd_La_spawn_14 (0) (by decide) ?_
    exact vv_iret (pc := 15) x dd_La_spawn_15 rfl (by decide) (by decide) (by rw [F_spawn, cif_t c1]; exact ⟨rfl, CE_lo (⟨K1.q, D1, ow1, sl1, _, _, s1, s2, s3, C1⟩), fun _ => ml_out⟩)
  · obtain ⟨rfl, hm, c1⟩ := q1
    have hm := hm.symm
    subst hm
    refine ⟨11, hx_La_spawn_0 G x ht, fun q9 => ?_⟩
    refine vv_astore_n (pc := 11) x dd_La_spawn_11 (by decide) (ls2 := [_, _, _]) rfl ?_
    refine vv_iconst (pc := 12) x dd_La_spawn_12 (1) (by decide) ?_
    exact vv_iret (pc := 13) x dd_La_spawn_13 rfl (by decide) (by decide) (by rw [F_spawn, cif_f c1]; exact ⟨rfl, CE_rf C hDl hs0, fun z => absurd z (show ¬ (1 : Int32) = 0 by decide)⟩)
set_option maxRecDepth 100000 in
set_option maxHeartbeats 1000000 in
theorem W_exit (G : gc g X t0 l) (C : CI pw D ow sl M o La Le Z) (I : zi pw n Z) (hn : n < 512) (hDl : ∀ a, D a → mm_t M a ≠ 0) (hs0 : sl 0 = t0) (hto : mm_t M out = 101) (hno : mm_n M out = 1) {xv : Int32} : OkW g X l yy_La_exit cc_La_exit 4 (some .int) [(0, 9, 12, 19)] 8 134 2 16 [.ref o, .int xv, .ref out] M (fun v M' => v = some (.int (F_exit Z xv).1) ∧ (kq pw D M M' ∧ CE pw t0 D M' o (F_exit Z xv).2.2) ∧ ((F_exit Z xv).1 = 0 → mm_l M' out 0 = (F_exit Z xv).2.1.toInt64)) := by
  have hm5 : ∀ P ∈ Z.1, P.2.2.2.1.length < 512 := fun P hP => by have := I.2.2.1 P hP; omega
  have hTo : mm_t M o = 7 := C.2.1.2.1
  refine okw_start (by decide) (Nat.le_of_ble_eq_true rfl) (by simp [Value.category]) ?_
  intro p e s m args below meth c9 x ht
  refine vv_aload_n (pc := 0) x dd_La_exit_0 rfl ?_
  refine vv_iconst (pc := 1) x dd_La_exit_1 (0) (by decide) ?_
  refine vv_aload_n (pc := 2) x dd_La_exit_2 rfl ?_
  refine vv_iload_n (pc := 3) x dd_La_exit_3 rfl ?_
  refine lz_La_exit (pc := 4) G x dd_La_exit_4 (C_exit G C I.1 hDl hs0 (plc Z xv) rfl) hTo ⟨by decide, by decide⟩ (by decide) (by decide) (Nat.le_of_ble_eq_true rfl) (fun v1 M1 q1 => ?_) (fun E1 M1 q1 => ?_)
  · obtain ⟨rfl, c1, C1, K1⟩ := q1
    refine vv_i2l (pc := 7) x dd_La_exit_7 ?_
    refine vv_last (pc := 8) x dd_La_exit_8 ((K1.1 out (by rw [hto]; decide)).1.trans hto) (in_n (i := 0) (N := 1) (by decide) ((K1.1 out (by rw [hto]; decide)).2.1.trans hno) (by decide)) ?_
    refine vv_goto (pc := 9) x dd_La_exit_9 (tgt := 15) (by decide) ?_
    refine vv_iconst (pc := 15) x dd_La_exit_15 (0) (by decide) ?_
    exact vv_iret (pc := 16) x dd_La_exit_16 rfl (by decide) (by decide) (by rw [F_exit, cif_t c1]; exact ⟨rfl, CE_lo (CE_of C1 K1 hDl hs0), fun _ => ml_out⟩)
  · obtain ⟨rfl, hm, c1⟩ := q1
    have hm := hm.symm
    subst hm
    refine ⟨12, hx_La_exit_0 G x ht, fun q9 => ?_⟩
    refine vv_astore_n (pc := 12) x dd_La_exit_12 (by decide) (ls2 := [_, _, _, _]) rfl ?_
    refine vv_iconst (pc := 13) x dd_La_exit_13 (1) (by decide) ?_
    exact vv_iret (pc := 14) x dd_La_exit_14 rfl (by decide) (by decide) (by rw [F_exit, cif_f c1]; exact ⟨rfl, CE_rf C hDl hs0, fun z => absurd z (show ¬ (1 : Int32) = 0 by decide)⟩)
set_option maxRecDepth 100000 in
set_option maxHeartbeats 1000000 in
theorem W_nil (G : gc g X t0 l) (C : CI pw D ow sl M o La Le Z) (I : zi pw n Z) (hn : n < 512) (hDl : ∀ a, D a → mm_t M a ≠ 0) (hs0 : sl 0 = t0) {xv rv : Int32} : OkW g X l yy_La_nil cc_La_nil 4 (some .int) [(0, 6, 9, 19)] 9 155 2 12 [.ref o, .int xv, .int rv] M (fun v M' => v = some (.int (F_nil Z xv rv).1) ∧ (kq pw D M M' ∧ CE pw t0 D M' o (F_nil Z xv rv).2.2)) := by
  have hm5 : ∀ P ∈ Z.1, P.2.2.2.1.length < 512 := fun P hP => by have := I.2.2.1 P hP; omega
  have hTo : mm_t M o = 7 := C.2.1.2.1
  refine okw_start (by decide) (Nat.le_of_ble_eq_true rfl) (by simp [Value.category]) ?_
  intro p e s m args below meth c9 x ht
  refine vv_aload_n (pc := 0) x dd_La_nil_0 rfl ?_
  refine vv_iload_n (pc := 1) x dd_La_nil_1 rfl ?_
  refine vv_iload_n (pc := 2) x dd_La_nil_2 rfl ?_
  refine lz_La_nil (pc := 3) G x dd_La_nil_3 (C_nil G C I.1 (plc Z xv) rfl) hTo ⟨by decide, by decide⟩ (by decide) (by decide) (Nat.le_of_ble_eq_true rfl) (fun v1 M1 q1 => ?_) (fun E1 M1 q1 => ?_)
  · obtain ⟨rfl, c1, C1, K1⟩ := q1
    refine vv_goto (pc := 6) x dd_La_nil_6 (tgt := 12) (by decide) ?_
    refine vv_iconst (pc := 12) x dd_La_nil_12 (0) (by decide) ?_
    exact vv_iret (pc := 13) x dd_La_nil_13 rfl (by decide) (by decide) (by rw [F_nil, cif_t c1]; exact ⟨rfl, CE_of C1 K1 hDl hs0⟩)
  · obtain ⟨rfl, hm, c1⟩ := q1
    have hm := hm.symm
    subst hm
    refine ⟨9, hx_La_nil_0 G x ht, fun q9 => ?_⟩
    refine vv_astore_n (pc := 9) x dd_La_nil_9 (by decide) (ls2 := [_, _, _, _]) rfl ?_
    refine vv_iconst (pc := 10) x dd_La_nil_10 (1) (by decide) ?_
    exact vv_iret (pc := 11) x dd_La_nil_11 rfl (by decide) (by decide) (by rw [F_nil, cif_f c1]; exact ⟨rfl, CE_rf C hDl hs0⟩)
set_option maxRecDepth 100000 in
set_option maxHeartbeats 1000000 in
theorem W_integer (G : gc g X t0 l) (C : CI pw D ow sl M o La Le Z) (I : zi pw n Z) (hn : n < 512) (hDl : ∀ a, D a → mm_t M a ≠ 0) (hs0 : sl 0 = t0) {xv rv nv : Int32} : OkW g X l yy_La_integer cc_La_integer 5 (some .int) [(0, 7, 10, 19), (0, 7, 14, 29)] 9 157 3 18 [.ref o, .int xv, .int rv, .int nv] M (fun v M' => v = some (.int (F_integer Z xv rv nv).1) ∧ (kq pw D M M' ∧ CE pw t0 D M' o (F_integer Z xv rv nv).2.2)) := by
  have hm5 : ∀ P ∈ Z.1, P.2.2.2.1.length < 512 := fun P hP => by have := I.2.2.1 P hP; omega
  have hTo : mm_t M o = 7 := C.2.1.2.1
  refine okw_start (by decide) (Nat.le_of_ble_eq_true rfl) (by simp [Value.category]) ?_
  intro p e s m args below meth c9 x ht
  refine vv_aload_n (pc := 0) x dd_La_integer_0 rfl ?_
  refine vv_iload_n (pc := 1) x dd_La_integer_1 rfl ?_
  refine vv_iload_n (pc := 2) x dd_La_integer_2 rfl ?_
  refine vv_iload_n (pc := 3) x dd_La_integer_3 rfl ?_
  refine lz_La_integer (pc := 4) G x dd_La_integer_4 (C_integer G C I.1 (plc Z xv) rfl) hTo ⟨by decide, by decide⟩ (by decide) (by decide) (Nat.le_of_ble_eq_true rfl) (fun v1 M1 q1 => ?_) (fun E1 M1 q1 => ?_)
  · obtain ⟨rfl, c1, c2, C1, K1⟩ := q1
    refine vv_goto (pc := 7) x dd_La_integer_7 (tgt := 18) (by decide) ?_
    refine vv_iconst (pc := 18) x dd_La_integer_18 (0) (by decide) ?_
    exact vv_iret (pc := 19) x dd_La_integer_19 rfl (by decide) (by decide) (by rw [F_integer, cif_f (fun z => z c1), cif_f (fun z => z c2)]; exact ⟨rfl, CE_of C1 K1 hDl hs0⟩)
  · rcases q1 with q1 | q1
    · obtain ⟨rfl, hm, c1⟩ := q1
      have hm := hm.symm
      subst hm
      refine ⟨10, hx_La_integer_0 G x ht, fun q9 => ?_⟩
      refine vv_astore (pc := 10) x dd_La_integer_10 (by decide) (ls2 := [_, _, _, _, _]) rfl ?_
      refine vv_iconst (pc := 12) x dd_La_integer_12 (1) (by decide) ?_
      exact vv_iret (pc := 13) x dd_La_integer_13 rfl (by decide) (by decide) (by rw [F_integer, cif_t c1]; exact ⟨rfl, CE_rf C hDl hs0⟩)
    · obtain ⟨rfl, hm, c1, c2⟩ := q1
      have hm := hm.symm
      subst hm
      refine ⟨14, hx_La_integer_1 G x ht, fun q9 => ?_⟩
      refine vv_astore (pc := 14) x dd_La_integer_14 (by decide) (ls2 := [_, _, _, _, _]) rfl ?_
      refine vv_iconst (pc := 16) x dd_La_integer_16 (2) (by decide) ?_
      exact vv_iret (pc := 17) x dd_La_integer_17 rfl (by decide) (by decide) (by rw [F_integer, cif_f (fun z => z c1), cif_t c2]; exact ⟨rfl, CE_rf C hDl hs0⟩)
set_option maxRecDepth 100000 in
set_option maxHeartbeats 1000000 in
theorem W_name (G : gc g X t0 l) (C : CI pw D ow sl M o La Le Z) (I : zi pw n Z) (hn : n < 512) (hDl : ∀ a, D a → mm_t M a ≠ 0) (hs0 : sl 0 = t0) {xv rv nv : Int32} : OkW g X l yy_La_name cc_La_name 5 (some .int) [(0, 7, 10, 19), (0, 7, 14, 29)] 9 157 3 18 [.ref o, .int xv, .int rv, .int nv] M (fun v M' => v = some (.int (F_name Z xv rv nv).1) ∧ (kq pw D M M' ∧ CE pw t0 D M' o (F_name Z xv rv nv).2.2)) := by
  have hm5 : ∀ P ∈ Z.1, P.2.2.2.1.length < 512 := fun P hP => by have := I.2.2.1 P hP; omega
  have hTo : mm_t M o = 7 := C.2.1.2.1
  refine okw_start (by decide) (Nat.le_of_ble_eq_true rfl) (by simp [Value.category]) ?_
  intro p e s m args below meth c9 x ht
  refine vv_aload_n (pc := 0) x dd_La_name_0 rfl ?_
  refine vv_iload_n (pc := 1) x dd_La_name_1 rfl ?_
  refine vv_iload_n (pc := 2) x dd_La_name_2 rfl ?_
  refine vv_iload_n (pc := 3) x dd_La_name_3 rfl ?_
  refine lz_La_name (pc := 4) G x dd_La_name_4 (C_name G C I.1 (plc Z xv) rfl) hTo ⟨by decide, by decide⟩ (by decide) (by decide) (Nat.le_of_ble_eq_true rfl) (fun v1 M1 q1 => ?_) (fun E1 M1 q1 => ?_)
  · obtain ⟨rfl, c1, c2, C1, K1⟩ := q1
    rw [mul8b] at C1
    refine vv_goto (pc := 7) x dd_La_name_7 (tgt := 18) (by decide) ?_
    refine vv_iconst (pc := 18) x dd_La_name_18 (0) (by decide) ?_
    exact vv_iret (pc := 19) x dd_La_name_19 rfl (by decide) (by decide) (by rw [F_name, cif_f (fun z => z c1), cif_f (fun z => z c2)]; exact ⟨rfl, CE_of C1 K1 hDl hs0⟩)
  · rcases q1 with q1 | q1
    · obtain ⟨rfl, hm, c1⟩ := q1
      have hm := hm.symm
      subst hm
      refine ⟨10, hx_La_name_0 G x ht, fun q9 => ?_⟩
      refine vv_astore (pc := 10) x dd_La_name_10 (by decide) (ls2 := [_, _, _, _, _]) rfl ?_
      refine vv_iconst (pc := 12) x dd_La_name_12 (1) (by decide) ?_
      exact vv_iret (pc := 13) x dd_La_name_13 rfl (by decide) (by decide) (by rw [F_name, cif_t c1]; exact ⟨rfl, CE_rf C hDl hs0⟩)
    · obtain ⟨rfl, hm, c1, c2⟩ := q1
      have hm := hm.symm
      subst hm
      refine ⟨14, hx_La_name_1 G x ht, fun q9 => ?_⟩
      refine vv_astore (pc := 14) x dd_La_name_14 (by decide) (ls2 := [_, _, _, _, _]) rfl ?_
      refine vv_iconst (pc := 16) x dd_La_name_16 (2) (by decide) ?_
      exact vv_iret (pc := 17) x dd_La_name_17 rfl (by decide) (by decide) (by rw [F_name, cif_f (fun z => z c1), cif_t c2]; exact ⟨rfl, CE_rf C hDl hs0⟩)
set_option maxRecDepth 100000 in
set_option maxHeartbeats 1000000 in
theorem W_move (G : gc g X t0 l) (C : CI pw D ow sl M o La Le Z) (I : zi pw n Z) (hn : n < 512) (hDl : ∀ a, D a → mm_t M a ≠ 0) (hs0 : sl 0 = t0) {xv rv av : Int32} : OkW g X l yy_La_move cc_La_move 5 (some .int) [(0, 7, 10, 19)] 9 157 3 18 [.ref o, .int xv, .int rv, .int av] M (fun v M' => v = some (.int (F_move Z xv rv av).1) ∧ (kq pw D M M' ∧ CE pw t0 D M' o (F_move Z xv rv av).2.2)) := by
  have hm5 : ∀ P ∈ Z.1, P.2.2.2.1.length < 512 := fun P hP => by have := I.2.2.1 P hP; omega
  have hTo : mm_t M o = 7 := C.2.1.2.1
  refine okw_start (by decide) (Nat.le_of_ble_eq_true rfl) (by simp [Value.category]) ?_
  intro p e s m args below meth c9 x ht
  refine vv_aload_n (pc := 0) x dd_La_move_0 rfl ?_
  refine vv_iload_n (pc := 1) x dd_La_move_1 rfl ?_
  refine vv_iload_n (pc := 2) x dd_La_move_2 rfl ?_
  refine vv_iload_n (pc := 3) x dd_La_move_3 rfl ?_
  refine lz_La_move (pc := 4) G x dd_La_move_4 (C_move G C I.1 (plc Z xv) rfl) hTo ⟨by decide, by decide⟩ (by decide) (by decide) (Nat.le_of_ble_eq_true rfl) (fun v1 M1 q1 => ?_) (fun E1 M1 q1 => ?_)
  · obtain ⟨rfl, c1, C1, K1⟩ := q1
    refine vv_goto (pc := 7) x dd_La_move_7 (tgt := 14) (by decide) ?_
    refine vv_iconst (pc := 14) x dd_La_move_14 (0) (by decide) ?_
    exact vv_iret (pc := 15) x dd_La_move_15 rfl (by decide) (by decide) (by rw [F_move, cif_t c1]; exact ⟨rfl, CE_of C1 K1 hDl hs0⟩)
  · obtain ⟨rfl, hm, c1⟩ := q1
    have hm := hm.symm
    subst hm
    refine ⟨10, hx_La_move_0 G x ht, fun q9 => ?_⟩
    refine vv_astore (pc := 10) x dd_La_move_10 (by decide) (ls2 := [_, _, _, _, _]) rfl ?_
    refine vv_iconst (pc := 12) x dd_La_move_12 (1) (by decide) ?_
    exact vv_iret (pc := 13) x dd_La_move_13 rfl (by decide) (by decide) (by rw [F_move, cif_f c1]; exact ⟨rfl, CE_rf C hDl hs0⟩)
set_option maxRecDepth 100000 in
set_option maxHeartbeats 1000000 in
theorem W_pair (G : gc g X t0 l) (C : CI pw D ow sl M o La Le Z) (I : zi pw n Z) (hn : n < 512) (hDl : ∀ a, D a → mm_t M a ≠ 0) (hs0 : sl 0 = t0) {xv rv av bv : Int32} : OkW g X l yy_La_pair cc_La_pair 6 (some .int) [(0, 9, 12, 19), (0, 9, 16, 13)] 9 188 5 30 [.ref o, .int xv, .int rv, .int av, .int bv] M (fun v M' => v = some (.int (F_pair Z xv rv av bv).1) ∧ (kq pw D M M' ∧ CE pw t0 D M' o (F_pair Z xv rv av bv).2.2)) := by
  have hm5 : ∀ P ∈ Z.1, P.2.2.2.1.length < 512 := fun P hP => by have := I.2.2.1 P hP; omega
  have hTo : mm_t M o = 7 := C.2.1.2.1
  refine okw_start (by decide) (Nat.le_of_ble_eq_true rfl) (by simp [Value.category]) ?_
  intro p e s m args below meth c9 x ht
  refine vv_aload_n (pc := 0) x dd_La_pair_0 rfl ?_
  refine vv_iload_n (pc := 1) x dd_La_pair_1 rfl ?_
  refine vv_iload_n (pc := 2) x dd_La_pair_2 rfl ?_
  refine vv_iload_n (pc := 3) x dd_La_pair_3 rfl ?_
  refine vv_iload (pc := 4) x dd_La_pair_4 rfl ?_
  refine lz_La_pair (pc := 6) G x dd_La_pair_6 (C_pair G C I.1 hDl (plc Z xv) rfl) hTo ⟨by decide, by decide⟩ (by decide) (by decide) (Nat.le_of_ble_eq_true rfl) (fun v1 M1 q1 => ?_) (fun E1 M1 q1 => ?_)
  · obtain ⟨rfl, c1, c2, C1, K1⟩ := q1
    refine vv_goto (pc := 9) x dd_La_pair_9 (tgt := 20) (by decide) ?_
    refine vv_iconst (pc := 20) x dd_La_pair_20 (0) (by decide) ?_
    exact vv_iret (pc := 21) x dd_La_pair_21 rfl (by decide) (by decide) (by rw [F_pair, cif_f (fun z => z c1), cif_f (fun z => z c2)]; exact ⟨rfl, CE_of C1 K1 hDl hs0⟩)
  · rcases q1 with q1 | q1
    · obtain ⟨rfl, hm, c1⟩ := q1
      have hm := hm.symm
      subst hm
      refine ⟨12, hx_La_pair_0 G x ht, fun q9 => ?_⟩
      refine vv_astore (pc := 12) x dd_La_pair_12 (by decide) (ls2 := [_, _, _, _, _, _]) rfl ?_
      refine vv_iconst (pc := 14) x dd_La_pair_14 (1) (by decide) ?_
      exact vv_iret (pc := 15) x dd_La_pair_15 rfl (by decide) (by decide) (by rw [F_pair, cif_t c1]; exact ⟨rfl, CE_rf C hDl hs0⟩)
    · obtain ⟨rfl, c1, c2, C1, K1⟩ := q1
      refine ⟨16, hx_La_pair_1 G x ht, fun q9 => ?_⟩
      refine vv_astore (pc := 16) x dd_La_pair_16 (by decide) (ls2 := [_, _, _, _, _, _]) rfl ?_
      refine vv_iconst (pc := 18) x dd_La_pair_18 (2) (by decide) ?_
      exact vv_iret (pc := 19) x dd_La_pair_19 rfl (by decide) (by decide) (by rw [F_pair, cif_f (fun z => z c1), cif_t c2]; exact ⟨rfl, CE_of C1 K1 hDl hs0⟩)
set_option maxRecDepth 100000 in
set_option maxHeartbeats 1000000 in
theorem W_tuple (G : gc g X t0 l) (C : CI pw D ow sl M o La Le Z) (I : zi pw n Z) (hn : n < 512) (hDl : ∀ a, D a → mm_t M a ≠ 0) (hs0 : sl 0 = t0) {xv rv nv : Int32} : OkW g X l yy_La_tuple cc_La_tuple 5 (some .int) [(0, 7, 10, 19), (0, 7, 14, 29), (0, 7, 18, 13)] 9 187 4 24 [.ref o, .int xv, .int rv, .int nv] M (fun v M' => v = some (.int (F_tuple Z xv rv nv).1) ∧ (kq pw D M M' ∧ CE pw t0 D M' o (F_tuple Z xv rv nv).2.2)) := by
  have hm5 : ∀ P ∈ Z.1, P.2.2.2.1.length < 512 := fun P hP => by have := I.2.2.1 P hP; omega
  have hTo : mm_t M o = 7 := C.2.1.2.1
  refine okw_start (by decide) (Nat.le_of_ble_eq_true rfl) (by simp [Value.category]) ?_
  intro p e s m args below meth c9 x ht
  refine vv_aload_n (pc := 0) x dd_La_tuple_0 rfl ?_
  refine vv_iload_n (pc := 1) x dd_La_tuple_1 rfl ?_
  refine vv_iload_n (pc := 2) x dd_La_tuple_2 rfl ?_
  refine vv_iload_n (pc := 3) x dd_La_tuple_3 rfl ?_
  refine lz_La_tuple (pc := 4) G x dd_La_tuple_4 (C_tuple G C I.1 hDl (plc Z xv) rfl) hTo ⟨by decide, by decide⟩ (by decide) (by decide) (Nat.le_of_ble_eq_true rfl) (fun v1 M1 q1 => ?_) (fun E1 M1 q1 => ?_)
  · obtain ⟨rfl, c1, c2, c3, C1, K1⟩ := q1
    refine vv_goto (pc := 7) x dd_La_tuple_7 (tgt := 22) (by decide) ?_
    refine vv_iconst (pc := 22) x dd_La_tuple_22 (0) (by decide) ?_
    exact vv_iret (pc := 23) x dd_La_tuple_23 rfl (by decide) (by decide) (by rw [F_tuple, cif_f (fun z => z c1), cif_f (fun z => z c2), cif_f (fun z => z c3)]; exact ⟨rfl, CE_of C1 K1 hDl hs0⟩)
  · rcases q1 with q1 | q1 | q1
    · obtain ⟨rfl, hm, c1⟩ := q1
      have hm := hm.symm
      subst hm
      refine ⟨10, hx_La_tuple_0 G x ht, fun q9 => ?_⟩
      refine vv_astore (pc := 10) x dd_La_tuple_10 (by decide) (ls2 := [_, _, _, _, _]) rfl ?_
      refine vv_iconst (pc := 12) x dd_La_tuple_12 (1) (by decide) ?_
      exact vv_iret (pc := 13) x dd_La_tuple_13 rfl (by decide) (by decide) (by rw [F_tuple, cif_t c1]; exact ⟨rfl, CE_rf C hDl hs0⟩)
    · obtain ⟨rfl, hm, c1, c2⟩ := q1
      have hm := hm.symm
      subst hm
      refine ⟨14, hx_La_tuple_1 G x ht, fun q9 => ?_⟩
      refine vv_astore (pc := 14) x dd_La_tuple_14 (by decide) (ls2 := [_, _, _, _, _]) rfl ?_
      refine vv_iconst (pc := 16) x dd_La_tuple_16 (2) (by decide) ?_
      exact vv_iret (pc := 17) x dd_La_tuple_17 rfl (by decide) (by decide) (by rw [F_tuple, cif_f (fun z => z c1), cif_t c2]; exact ⟨rfl, CE_rf C hDl hs0⟩)
    · obtain ⟨rfl, c1, c2, c3, C1, K1⟩ := q1
      refine ⟨18, hx_La_tuple_2 G x ht, fun q9 => ?_⟩
      refine vv_astore (pc := 18) x dd_La_tuple_18 (by decide) (ls2 := [_, _, _, _, _]) rfl ?_
      refine vv_iconst (pc := 20) x dd_La_tuple_20 (3) (by decide) ?_
      exact vv_iret (pc := 21) x dd_La_tuple_21 rfl (by decide) (by decide) (by rw [F_tuple, cif_f (fun z => z c1), cif_f (fun z => z c2), cif_t c3]; exact ⟨rfl, CE_of C1 K1 hDl hs0⟩)
set_option maxRecDepth 100000 in
set_option maxHeartbeats 1000000 in
theorem W_blob (G : gc g X t0 l) (C : CI pw D ow sl M o La Le Z) (I : zi pw n Z) (hn : n < 512) (hDl : ∀ a, D a → mm_t M a ≠ 0) (hs0 : sl 0 = t0) {xv rv nv : Int32} : OkW g X l yy_La_blob cc_La_blob 5 (some .int) [(0, 7, 10, 19), (0, 7, 14, 29), (0, 7, 18, 13), (0, 7, 22, 47)] 9 187 4 24 [.ref o, .int xv, .int rv, .int nv] M (fun v M' => v = some (.int (F_blob Z xv rv nv).1) ∧ (kq pw D M M' ∧ CE pw t0 D M' o (F_blob Z xv rv nv).2.2)) := by
  have hm5 : ∀ P ∈ Z.1, P.2.2.2.1.length < 512 := fun P hP => by have := I.2.2.1 P hP; omega
  have hTo : mm_t M o = 7 := C.2.1.2.1
  refine okw_start (by decide) (Nat.le_of_ble_eq_true rfl) (by simp [Value.category]) ?_
  intro p e s m args below meth c9 x ht
  refine vv_aload_n (pc := 0) x dd_La_blob_0 rfl ?_
  refine vv_iload_n (pc := 1) x dd_La_blob_1 rfl ?_
  refine vv_iload_n (pc := 2) x dd_La_blob_2 rfl ?_
  refine vv_iload_n (pc := 3) x dd_La_blob_3 rfl ?_
  refine lz_La_blob (pc := 4) G x dd_La_blob_4 (C_blob G C I.1 hDl (plc Z xv) rfl) hTo ⟨by decide, by decide⟩ (by decide) (by decide) (Nat.le_of_ble_eq_true rfl) (fun v1 M1 q1 => ?_) (fun E1 M1 q1 => ?_)
  · obtain ⟨rfl, c1, c2, c3, c4, C1, K1⟩ := q1
    refine vv_goto (pc := 7) x dd_La_blob_7 (tgt := 26) (by decide) ?_
    refine vv_iconst (pc := 26) x dd_La_blob_26 (0) (by decide) ?_
    exact vv_iret (pc := 27) x dd_La_blob_27 rfl (by decide) (by decide) (by rw [F_blob, cif_f (fun z => z c1), cif_f (fun z => z c2), cif_f (fun z => z c3), cif_f (fun z => z c4)]; exact ⟨rfl, CE_of C1 K1 hDl hs0⟩)
  · rcases q1 with q1 | q1 | q1 | q1
    · obtain ⟨rfl, hm, c1⟩ := q1
      have hm := hm.symm
      subst hm
      refine ⟨10, hx_La_blob_0 G x ht, fun q9 => ?_⟩
      refine vv_astore (pc := 10) x dd_La_blob_10 (by decide) (ls2 := [_, _, _, _, _]) rfl ?_
      refine vv_iconst (pc := 12) x dd_La_blob_12 (1) (by decide) ?_
      exact vv_iret (pc := 13) x dd_La_blob_13 rfl (by decide) (by decide) (by rw [F_blob, cif_t c1]; exact ⟨rfl, CE_rf C hDl hs0⟩)
    · obtain ⟨rfl, hm, c1, c2⟩ := q1
      have hm := hm.symm
      subst hm
      refine ⟨14, hx_La_blob_1 G x ht, fun q9 => ?_⟩
      refine vv_astore (pc := 14) x dd_La_blob_14 (by decide) (ls2 := [_, _, _, _, _]) rfl ?_
      refine vv_iconst (pc := 16) x dd_La_blob_16 (2) (by decide) ?_
      exact vv_iret (pc := 17) x dd_La_blob_17 rfl (by decide) (by decide) (by rw [F_blob, cif_f (fun z => z c1), cif_t c2]; exact ⟨rfl, CE_rf C hDl hs0⟩)
    · obtain ⟨rfl, c1, c2, c3, C1, K1⟩ := q1
      refine ⟨18, hx_La_blob_2 G x ht, fun q9 => ?_⟩
      refine vv_astore (pc := 18) x dd_La_blob_18 (by decide) (ls2 := [_, _, _, _, _]) rfl ?_
      refine vv_iconst (pc := 20) x dd_La_blob_20 (3) (by decide) ?_
      exact vv_iret (pc := 21) x dd_La_blob_21 rfl (by decide) (by decide) (by rw [F_blob, cif_f (fun z => z c1), cif_f (fun z => z c2), cif_t c3]; exact ⟨rfl, CE_of C1 K1 hDl hs0⟩)
    · obtain ⟨rfl, c1, c2, c3, c4, C1, K1⟩ := q1
      refine ⟨22, hx_La_blob_3 G x ht, fun q9 => ?_⟩
      refine vv_astore (pc := 22) x dd_La_blob_22 (by decide) (ls2 := [_, _, _, _, _]) rfl ?_
      refine vv_iconst (pc := 24) x dd_La_blob_24 (4) (by decide) ?_
      exact vv_iret (pc := 25) x dd_La_blob_25 rfl (by decide) (by decide) (by rw [F_blob, cif_f (fun z => z c1), cif_f (fun z => z c2), cif_f (fun z => z c3), cif_t c4]; exact ⟨rfl, CE_of C1 K1 hDl hs0⟩)
set_option maxRecDepth 100000 in
set_option maxHeartbeats 1000000 in
theorem W_part (G : gc g X t0 l) (C : CI pw D ow sl M o La Le Z) (I : zi pw n Z) (hn : n < 512) (hDl : ∀ a, D a → mm_t M a ≠ 0) (hs0 : sl 0 = t0) {xv rv av kv : Int32} : OkW g X l yy_La_part cc_La_part 6 (some .int) [(0, 9, 12, 19), (0, 9, 16, 29)] 9 159 4 24 [.ref o, .int xv, .int rv, .int av, .int kv] M (fun v M' => v = some (.int (F_part Z xv rv av kv).1) ∧ (kq pw D M M' ∧ CE pw t0 D M' o (F_part Z xv rv av kv).2.2)) := by
  have hm5 : ∀ P ∈ Z.1, P.2.2.2.1.length < 512 := fun P hP => by have := I.2.2.1 P hP; omega
  have hTo : mm_t M o = 7 := C.2.1.2.1
  refine okw_start (by decide) (Nat.le_of_ble_eq_true rfl) (by simp [Value.category]) ?_
  intro p e s m args below meth c9 x ht
  refine vv_aload_n (pc := 0) x dd_La_part_0 rfl ?_
  refine vv_iload_n (pc := 1) x dd_La_part_1 rfl ?_
  refine vv_iload_n (pc := 2) x dd_La_part_2 rfl ?_
  refine vv_iload_n (pc := 3) x dd_La_part_3 rfl ?_
  refine vv_iload (pc := 4) x dd_La_part_4 rfl ?_
  refine lz_La_part (pc := 6) G x dd_La_part_6 (C_part G C I.1 (plc Z xv) rfl) hTo ⟨by decide, by decide⟩ (by decide) (by decide) (Nat.le_of_ble_eq_true rfl) (fun v1 M1 q1 => ?_) (fun E1 M1 q1 => ?_)
  · obtain ⟨rfl, c1, c2, C1, K1⟩ := q1
    refine vv_goto (pc := 9) x dd_La_part_9 (tgt := 20) (by decide) ?_
    refine vv_iconst (pc := 20) x dd_La_part_20 (0) (by decide) ?_
    exact vv_iret (pc := 21) x dd_La_part_21 rfl (by decide) (by decide) (by rw [F_part, cif_f (fun z => z c1), cif_f (fun z => z c2)]; exact ⟨rfl, CE_of C1 K1 hDl hs0⟩)
  · rcases q1 with q1 | q1
    · obtain ⟨rfl, hm, c1⟩ := q1
      have hm := hm.symm
      subst hm
      refine ⟨12, hx_La_part_0 G x ht, fun q9 => ?_⟩
      refine vv_astore (pc := 12) x dd_La_part_12 (by decide) (ls2 := [_, _, _, _, _, _]) rfl ?_
      refine vv_iconst (pc := 14) x dd_La_part_14 (1) (by decide) ?_
      exact vv_iret (pc := 15) x dd_La_part_15 rfl (by decide) (by decide) (by rw [F_part, cif_t c1]; exact ⟨rfl, CE_rf C hDl hs0⟩)
    · obtain ⟨rfl, hm, c1, c2⟩ := q1
      have hm := hm.symm
      subst hm
      refine ⟨16, hx_La_part_1 G x ht, fun q9 => ?_⟩
      refine vv_astore (pc := 16) x dd_La_part_16 (by decide) (ls2 := [_, _, _, _, _, _]) rfl ?_
      refine vv_iconst (pc := 18) x dd_La_part_18 (2) (by decide) ?_
      exact vv_iret (pc := 19) x dd_La_part_19 rfl (by decide) (by decide) (by rw [F_part, cif_f (fun z => z c1), cif_t c2]; exact ⟨rfl, CE_rf C hDl hs0⟩)
set_option maxRecDepth 100000 in
set_option maxHeartbeats 1000000 in
theorem W_send (G : gc g X t0 l) (C : CI pw D ow sl M o La Le Z) (I : zi pw n Z) (hn : n < 512) (hDl : ∀ a, D a → mm_t M a ≠ 0) (hs0 : sl 0 = t0) (hto : mm_t M out = 101) (hno : mm_n M out = 1) {xv rv tv : Int32} : OkW g X l yy_La_send cc_La_send 6 (some .int) [(0, 19, 22, 19), (0, 19, 26, 13)] 9 189 3 18 [.ref o, .int xv, .int rv, .int tv, .ref out] M (fun v M' => v = some (.int (F_send Z xv rv tv).1) ∧ (kq pw D M M' ∧ CE pw t0 D M' o (F_send Z xv rv tv).2.2) ∧ ((F_send Z xv rv tv).1 = 0 → mm_l M' out 0 = (F_send Z xv rv tv).2.1.toInt64)) := by
  have hm5 : ∀ P ∈ Z.1, P.2.2.2.1.length < 512 := fun P hP => by have := I.2.2.1 P hP; omega
  have hTo : mm_t M o = 7 := C.2.1.2.1
  refine okw_start (by decide) (Nat.le_of_ble_eq_true rfl) (by simp [Value.category]) ?_
  intro p e s m args below meth c9 x ht
  refine vv_aload (pc := 0) x dd_La_send_0 rfl ?_
  refine vv_iconst (pc := 2) x dd_La_send_2 (0) (by decide) ?_
  refine vv_aload_n (pc := 3) x dd_La_send_3 rfl ?_
  refine vv_iload_n (pc := 4) x dd_La_send_4 rfl ?_
  refine vv_iload_n (pc := 5) x dd_La_send_5 rfl ?_
  refine vv_iload_n (pc := 6) x dd_La_send_6 rfl ?_
  refine lz_La_send (pc := 7) G x dd_La_send_7 (C_send G C I.1 hDl hm5 (plc Z xv) rfl (plc Z tv) rfl (zsend Z (plc Z xv) (plc Z tv) (zrg Z (plc Z xv) rv)) (fun _ => rfl)) hTo ⟨by decide, by decide⟩ (by decide) (by decide) (Nat.le_of_ble_eq_true rfl) (fun v1 M1 q1 => ?_) (fun E1 M1 q1 => ?_)
  · obtain ⟨rfl, c1, c2, C1, K1⟩ := q1
    by_cases e1 : plc Z tv < Z.1.length
    · rw [show (if plc Z tv < Z.1.length then (1 : Int32) else 0) = 1 from if_pos e1]
      refine vv_if_eq (pc := 10) x dd_La_send_10 (tgt := 17) (by decide) (fun h10 => absurd h10 (by decide)) (fun h10 => ?_)
      refine vv_lconst (pc := 13) x dd_La_send_13 (v := 1) (by decide) ?_
      refine vv_goto (pc := 14) x dd_La_send_14 (tgt := 18) (by decide) ?_
      refine vv_last (pc := 18) x dd_La_send_18 ((K1.1 out (by rw [hto]; decide)).1.trans hto) (in_n (i := 0) (N := 1) (by decide) ((K1.1 out (by rw [hto]; decide)).2.1.trans hno) (by decide)) ?_
      refine vv_goto (pc := 19) x dd_La_send_19 (tgt := 30) (by decide) ?_
      refine vv_iconst (pc := 30) x dd_La_send_30 (0) (by decide) ?_
      exact vv_iret (pc := 31) x dd_La_send_31 rfl (by decide) (by decide) (by rw [F_send, cif_f (fun z => z c1), cif_f (fun z => z e1), cif_f (fun z => z (c2 e1))]; exact ⟨rfl, (by rw [show (if plc Z tv < Z.1.length then (zsend Z (plc Z xv) (plc Z tv) (zrg Z (plc Z xv) rv)).2 else Z) = (zsend Z (plc Z xv) (plc Z tv) (zrg Z (plc Z xv) rv)).2 from if_pos e1] at C1; exact CE_lo (CE_of C1 K1 hDl hs0)), fun _ => (ml_out.trans (show (1 : Int64) = (1 : Int32).toInt64 by decide))⟩)
    · rw [show (if plc Z tv < Z.1.length then (1 : Int32) else 0) = 0 from if_neg e1]
      refine vv_if_eq (pc := 10) x dd_La_send_10 (tgt := 17) (by decide) (fun h10 => ?_) (fun h10 => absurd h10 (fun z => z rfl))
      refine vv_lconst (pc := 17) x dd_La_send_17 (v := 0) (by decide) ?_
      refine vv_last (pc := 18) x dd_La_send_18 ((K1.1 out (by rw [hto]; decide)).1.trans hto) (in_n (i := 0) (N := 1) (by decide) ((K1.1 out (by rw [hto]; decide)).2.1.trans hno) (by decide)) ?_
      refine vv_goto (pc := 19) x dd_La_send_19 (tgt := 30) (by decide) ?_
      refine vv_iconst (pc := 30) x dd_La_send_30 (0) (by decide) ?_
      exact vv_iret (pc := 31) x dd_La_send_31 rfl (by decide) (by decide) (by rw [F_send, cif_f (fun z => z c1), cif_t e1]; exact ⟨rfl, (by rw [show (if plc Z tv < Z.1.length then (zsend Z (plc Z xv) (plc Z tv) (zrg Z (plc Z xv) rv)).2 else Z) = Z from if_neg e1] at C1; exact CE_lo (CE_of C1 K1 hDl hs0)), fun _ => (ml_out.trans (show (0 : Int64) = (0 : Int32).toInt64 by decide))⟩)
  · rcases q1 with q1 | q1
    · obtain ⟨rfl, hm, c1⟩ := q1
      have hm := hm.symm
      subst hm
      refine ⟨22, hx_La_send_0 G x ht, fun q9 => ?_⟩
      refine vv_astore (pc := 22) x dd_La_send_22 (by decide) (ls2 := [_, _, _, _, _, _]) rfl ?_
      refine vv_iconst (pc := 24) x dd_La_send_24 (1) (by decide) ?_
      exact vv_iret (pc := 25) x dd_La_send_25 rfl (by decide) (by decide) (by rw [F_send, cif_t c1]; exact ⟨rfl, CE_rf C hDl hs0, fun z => absurd z (show ¬ (1 : Int32) = 0 by decide)⟩)
    · obtain ⟨rfl, c1, c2, c3, C1, K1⟩ := q1
      refine ⟨26, hx_La_send_1 G x ht, fun q9 => ?_⟩
      refine vv_astore (pc := 26) x dd_La_send_26 (by decide) (ls2 := [_, _, _, _, _, _]) rfl ?_
      refine vv_iconst (pc := 28) x dd_La_send_28 (2) (by decide) ?_
      exact vv_iret (pc := 29) x dd_La_send_29 rfl (by decide) (by decide) (by rw [F_send, cif_f (fun z => z c1), cif_f (fun z => z c2), cif_t c3]; exact ⟨rfl, CE_of C1 K1 hDl hs0, fun z => absurd z (show ¬ (2 : Int32) = 0 by decide)⟩)
set_option maxRecDepth 100000 in
set_option maxHeartbeats 1000000 in
theorem W_broadcast (G : gc g X t0 l) (C : CI pw D ow sl M o La Le Z) (I : zi pw n Z) (hn : n < 512) (hDl : ∀ a, D a → mm_t M a ≠ 0) (hs0 : sl 0 = t0) (hto : mm_t M out = 101) (hno : mm_n M out = 1) {xv rv : Int32} : OkW g X l yy_La_broadcast cc_La_broadcast 5 (some .int) [(0, 10, 13, 19)] 9 190 2 12 [.ref o, .int xv, .int rv, .ref out] M (fun v M' => v = some (.int (F_broadcast Z xv rv).1) ∧ (kq pw D M M' ∧ CE pw t0 D M' o (F_broadcast Z xv rv).2.2) ∧ ((F_broadcast Z xv rv).1 = 0 → mm_l M' out 0 = (F_broadcast Z xv rv).2.1.toInt64)) := by
  have hm5 : ∀ P ∈ Z.1, P.2.2.2.1.length < 512 := fun P hP => by have := I.2.2.1 P hP; omega
  have hTo : mm_t M o = 7 := C.2.1.2.1
  refine okw_start (by decide) (Nat.le_of_ble_eq_true rfl) (by simp [Value.category]) ?_
  intro p e s m args below meth c9 x ht
  refine vv_aload_n (pc := 0) x dd_La_broadcast_0 rfl ?_
  refine vv_iconst (pc := 1) x dd_La_broadcast_1 (0) (by decide) ?_
  refine vv_aload_n (pc := 2) x dd_La_broadcast_2 rfl ?_
  refine vv_iload_n (pc := 3) x dd_La_broadcast_3 rfl ?_
  refine vv_iload_n (pc := 4) x dd_La_broadcast_4 rfl ?_
  refine lz_La_broadcast (pc := 5) G x dd_La_broadcast_5 (C_broadcast G C I.1 hDl hm5 (plc Z xv) rfl (zbc (plc Z xv) (zrg Z (plc Z xv) rv) Z.1.length 0 0 Z) (fun _ => rfl)) hTo ⟨by decide, by decide⟩ (by decide) (by decide) (Nat.le_of_ble_eq_true rfl) (fun v1 M1 q1 => ?_) (fun E1 M1 q1 => ?_)
  · obtain ⟨rfl, c1, C1, K1⟩ := q1
    refine vv_i2l (pc := 8) x dd_La_broadcast_8 ?_
    refine vv_last (pc := 9) x dd_La_broadcast_9 ((K1.1 out (by rw [hto]; decide)).1.trans hto) (in_n (i := 0) (N := 1) (by decide) ((K1.1 out (by rw [hto]; decide)).2.1.trans hno) (by decide)) ?_
    refine vv_goto (pc := 10) x dd_La_broadcast_10 (tgt := 17) (by decide) ?_
    refine vv_iconst (pc := 17) x dd_La_broadcast_17 (0) (by decide) ?_
    exact vv_iret (pc := 18) x dd_La_broadcast_18 rfl (by decide) (by decide) (by rw [F_broadcast, cif_t c1]; exact ⟨rfl, CE_lo (CE_of C1 K1 hDl hs0), fun _ => ml_out⟩)
  · obtain ⟨rfl, hm, c1⟩ := q1
    have hm := hm.symm
    subst hm
    refine ⟨13, hx_La_broadcast_0 G x ht, fun q9 => ?_⟩
    refine vv_astore (pc := 13) x dd_La_broadcast_13 (by decide) (ls2 := [_, _, _, _, _]) rfl ?_
    refine vv_iconst (pc := 15) x dd_La_broadcast_15 (1) (by decide) ?_
    exact vv_iret (pc := 16) x dd_La_broadcast_16 rfl (by decide) (by decide) (by rw [F_broadcast, cif_f c1]; exact ⟨rfl, CE_rf C hDl hs0, fun z => absurd z (show ¬ (1 : Int32) = 0 by decide)⟩)
set_option maxRecDepth 100000 in
set_option maxHeartbeats 1000000 in
theorem W_receive (G : gc g X t0 l) (C : CI pw D ow sl M o La Le Z) (I : zi pw n Z) (hn : n < 512) (hDl : ∀ a, D a → mm_t M a ≠ 0) (hs0 : sl 0 = t0) (hto : mm_t M out = 101) (hno : mm_n M out = 1) {xv rv : Int32} : OkW g X l yy_La_receive cc_La_receive 5 (some .int) [(0, 10, 13, 19), (0, 10, 17, 13)] 9 156 3 18 [.ref o, .int xv, .int rv, .ref out] M (fun v M' => v = some (.int (F_receive Z xv rv).1) ∧ (kq pw D M M' ∧ CE pw t0 D M' o (F_receive Z xv rv).2.2) ∧ ((F_receive Z xv rv).1 = 0 → mm_l M' out 0 = (F_receive Z xv rv).2.1.toInt64)) := by
  have hm5 : ∀ P ∈ Z.1, P.2.2.2.1.length < 512 := fun P hP => by have := I.2.2.1 P hP; omega
  have hTo : mm_t M o = 7 := C.2.1.2.1
  refine okw_start (by decide) (Nat.le_of_ble_eq_true rfl) (by simp [Value.category]) ?_
  intro p e s m args below meth c9 x ht
  refine vv_aload_n (pc := 0) x dd_La_receive_0 rfl ?_
  refine vv_iconst (pc := 1) x dd_La_receive_1 (0) (by decide) ?_
  refine vv_aload_n (pc := 2) x dd_La_receive_2 rfl ?_
  refine vv_iload_n (pc := 3) x dd_La_receive_3 rfl ?_
  refine vv_iload_n (pc := 4) x dd_La_receive_4 rfl ?_
  refine lz_La_receive (pc := 5) G x dd_La_receive_5 (C_receive G C I.1 hDl (plc Z xv) rfl) hTo ⟨by decide, by decide⟩ (by decide) (by decide) (Nat.le_of_ble_eq_true rfl) (fun v1 M1 q1 => ?_) (fun E1 M1 q1 => ?_)
  · obtain ⟨rfl, c1, c2, C1, K1⟩ := q1
    refine vv_i2l (pc := 8) x dd_La_receive_8 ?_
    refine vv_last (pc := 9) x dd_La_receive_9 ((K1.1 out (by rw [hto]; decide)).1.trans hto) (in_n (i := 0) (N := 1) (by decide) ((K1.1 out (by rw [hto]; decide)).2.1.trans hno) (by decide)) ?_
    refine vv_goto (pc := 10) x dd_La_receive_10 (tgt := 21) (by decide) ?_
    refine vv_iconst (pc := 21) x dd_La_receive_21 (0) (by decide) ?_
    exact vv_iret (pc := 22) x dd_La_receive_22 rfl (by decide) (by decide) (by rw [F_receive, cif_f (fun z => z c1), cif_f (fun z => by omega)]; exact ⟨rfl, CE_lo (CE_of C1 K1 hDl hs0), fun _ => ml_out⟩)
  · rcases q1 with q1 | q1
    · obtain ⟨rfl, hm, c1⟩ := q1
      have hm := hm.symm
      subst hm
      refine ⟨13, hx_La_receive_0 G x ht, fun q9 => ?_⟩
      refine vv_astore (pc := 13) x dd_La_receive_13 (by decide) (ls2 := [_, _, _, _, _]) rfl ?_
      refine vv_iconst (pc := 15) x dd_La_receive_15 (1) (by decide) ?_
      exact vv_iret (pc := 16) x dd_La_receive_16 rfl (by decide) (by decide) (by rw [F_receive, cif_t c1]; exact ⟨rfl, CE_rf C hDl hs0, fun z => absurd z (show ¬ (1 : Int32) = 0 by decide)⟩)
    · obtain ⟨rfl, hm, c1, c2⟩ := q1
      have hm := hm.symm
      subst hm
      refine ⟨17, hx_La_receive_1 G x ht, fun q9 => ?_⟩
      refine vv_astore (pc := 17) x dd_La_receive_17 (by decide) (ls2 := [_, _, _, _, _]) rfl ?_
      refine vv_iconst (pc := 19) x dd_La_receive_19 (2) (by decide) ?_
      exact vv_iret (pc := 20) x dd_La_receive_20 rfl (by decide) (by decide) (by rw [F_receive, cif_f (fun z => z c1), cif_t c2]; exact ⟨rfl, CE_rf C hDl hs0, fun z => absurd z (show ¬ (2 : Int32) = 0 by decide)⟩)
set_option maxRecDepth 100000 in
set_option maxHeartbeats 1000000 in
theorem W_collect (G : gc g X t0 l) (C : CI pw D ow sl M o La Le Z) (I : zi pw n Z) (hn : n < 512) (hDl : ∀ a, D a → mm_t M a ≠ 0) (hs0 : sl 0 = t0) (hto : mm_t M out = 101) (hno : mm_n M out = 1) {xv : Int32} : OkW g X l yy_La_collect cc_La_collect 4 (some .int) [(0, 9, 12, 19)] 8 141 1 6 [.ref o, .int xv, .ref out] M (fun v M' => v = some (.int (F_collect Z xv).1) ∧ (kq pw D M M' ∧ CE pw t0 D M' o (F_collect Z xv).2.2) ∧ ((F_collect Z xv).1 = 0 → mm_l M' out 0 = (F_collect Z xv).2.1.toInt64)) := by
  have hm5 : ∀ P ∈ Z.1, P.2.2.2.1.length < 512 := fun P hP => by have := I.2.2.1 P hP; omega
  have hTo : mm_t M o = 7 := C.2.1.2.1
  refine okw_start (by decide) (Nat.le_of_ble_eq_true rfl) (by simp [Value.category]) ?_
  intro p e s m args below meth c9 x ht
  refine vv_aload_n (pc := 0) x dd_La_collect_0 rfl ?_
  refine vv_iconst (pc := 1) x dd_La_collect_1 (0) (by decide) ?_
  refine vv_aload_n (pc := 2) x dd_La_collect_2 rfl ?_
  refine vv_iload_n (pc := 3) x dd_La_collect_3 rfl ?_
  refine lz_La_collect (pc := 4) G x dd_La_collect_4 (C_mcollect G C I.1 (plc Z xv) rfl) hTo ⟨by decide, by decide⟩ (by decide) (by decide) (Nat.le_of_ble_eq_true rfl) (fun v1 M1 q1 => ?_) (fun E1 M1 q1 => ?_)
  · obtain ⟨rfl, c1, C1, K1⟩ := q1
    refine vv_i2l (pc := 7) x dd_La_collect_7 ?_
    refine vv_last (pc := 8) x dd_La_collect_8 ((K1.1 out (by rw [hto]; decide)).1.trans hto) (in_n (i := 0) (N := 1) (by decide) ((K1.1 out (by rw [hto]; decide)).2.1.trans hno) (by decide)) ?_
    refine vv_goto (pc := 9) x dd_La_collect_9 (tgt := 15) (by decide) ?_
    refine vv_iconst (pc := 15) x dd_La_collect_15 (0) (by decide) ?_
    exact vv_iret (pc := 16) x dd_La_collect_16 rfl (by decide) (by decide) (by rw [F_collect, cif_t c1]; exact ⟨rfl, CE_lo (CE_of C1 K1 hDl hs0), fun _ => ml_out⟩)
  · obtain ⟨rfl, hm, c1⟩ := q1
    have hm := hm.symm
    subst hm
    refine ⟨12, hx_La_collect_0 G x ht, fun q9 => ?_⟩
    refine vv_astore_n (pc := 12) x dd_La_collect_12 (by decide) (ls2 := [_, _, _, _]) rfl ?_
    refine vv_iconst (pc := 13) x dd_La_collect_13 (1) (by decide) ?_
    exact vv_iret (pc := 14) x dd_La_collect_14 rfl (by decide) (by decide) (by rw [F_collect, cif_f c1]; exact ⟨rfl, CE_rf C hDl hs0, fun z => absurd z (show ¬ (1 : Int32) = 0 by decide)⟩)
set_option maxRecDepth 100000 in
set_option maxHeartbeats 1000000 in
theorem W_trim (G : gc g X t0 l) (C : CI pw D ow sl M o La Le Z) (I : zi pw n Z) (hn : n < 512) (hDl : ∀ a, D a → mm_t M a ≠ 0) (hs0 : sl 0 = t0) (hto : mm_t M out = 101) (hno : mm_n M out = 1) {xv : Int32} : OkW g X l yy_La_trim cc_La_trim 4 (some .int) [(0, 9, 12, 19)] 8 141 1 6 [.ref o, .int xv, .ref out] M (fun v M' => v = some (.int (F_trim Z xv).1) ∧ (kq pw D M M' ∧ CE pw t0 D M' o (F_trim Z xv).2.2) ∧ ((F_trim Z xv).1 = 0 → mm_l M' out 0 = (F_trim Z xv).2.1.toInt64)) := by
  have hm5 : ∀ P ∈ Z.1, P.2.2.2.1.length < 512 := fun P hP => by have := I.2.2.1 P hP; omega
  have hTo : mm_t M o = 7 := C.2.1.2.1
  refine okw_start (by decide) (Nat.le_of_ble_eq_true rfl) (by simp [Value.category]) ?_
  intro p e s m args below meth c9 x ht
  refine vv_aload_n (pc := 0) x dd_La_trim_0 rfl ?_
  refine vv_iconst (pc := 1) x dd_La_trim_1 (0) (by decide) ?_
  refine vv_aload_n (pc := 2) x dd_La_trim_2 rfl ?_
  refine vv_iload_n (pc := 3) x dd_La_trim_3 rfl ?_
  refine lz_La_trim (pc := 4) G x dd_La_trim_4 (C_trim G C I.1 I.2.1 hDl (plc Z xv) rfl) hTo ⟨by decide, by decide⟩ (by decide) (by decide) (Nat.le_of_ble_eq_true rfl) (fun v1 M1 q1 => ?_) (fun E1 M1 q1 => ?_)
  · obtain ⟨rfl, c1, C1, K1⟩ := q1
    refine vv_i2l (pc := 7) x dd_La_trim_7 ?_
    refine vv_last (pc := 8) x dd_La_trim_8 ((K1.1 out (by rw [hto]; decide)).1.trans hto) (in_n (i := 0) (N := 1) (by decide) ((K1.1 out (by rw [hto]; decide)).2.1.trans hno) (by decide)) ?_
    refine vv_goto (pc := 9) x dd_La_trim_9 (tgt := 15) (by decide) ?_
    refine vv_iconst (pc := 15) x dd_La_trim_15 (0) (by decide) ?_
    exact vv_iret (pc := 16) x dd_La_trim_16 rfl (by decide) (by decide) (by rw [F_trim, cif_t c1]; exact ⟨rfl, CE_lo (CE_of C1 K1 hDl hs0), fun _ => ml_out⟩)
  · obtain ⟨rfl, hm, c1⟩ := q1
    have hm := hm.symm
    subst hm
    refine ⟨12, hx_La_trim_0 G x ht, fun q9 => ?_⟩
    refine vv_astore_n (pc := 12) x dd_La_trim_12 (by decide) (ls2 := [_, _, _, _]) rfl ?_
    refine vv_iconst (pc := 13) x dd_La_trim_13 (1) (by decide) ?_
    exact vv_iret (pc := 14) x dd_La_trim_14 rfl (by decide) (by decide) (by rw [F_trim, cif_f c1]; exact ⟨rfl, CE_rf C hDl hs0, fun z => absurd z (show ¬ (1 : Int32) = 0 by decide)⟩)
set_option maxRecDepth 100000 in
set_option maxHeartbeats 1000000 in
theorem W_count (G : gc g X t0 l) (C : CI pw D ow sl M o La Le Z) (I : zi pw n Z) (hn : n < 512) (hDl : ∀ a, D a → mm_t M a ≠ 0) (hs0 : sl 0 = t0) (hto : mm_t M out = 101) (hno : mm_n M out = 1) {wq : Int32} : OkW g X l yy_La_count cc_La_count 4 (some .int) [(0, 9, 12, 29)] 7 110 1 6 [.ref o, .int wq, .ref out] M (fun v M' => v = some (.int (F_count Z wq).1) ∧ (kq pw D M M' ∧ CE pw t0 D M' o (F_count Z wq).2.2) ∧ ((F_count Z wq).1 = 0 → mm_l M' out 0 = (F_count Z wq).2.1.toInt64)) := by
  have hm5 : ∀ P ∈ Z.1, P.2.2.2.1.length < 512 := fun P hP => by have := I.2.2.1 P hP; omega
  have hTo : mm_t M o = 7 := C.2.1.2.1
  refine okw_start (by decide) (Nat.le_of_ble_eq_true rfl) (by simp [Value.category]) ?_
  intro p e s m args below meth c9 x ht
  refine vv_aload_n (pc := 0) x dd_La_count_0 rfl ?_
  refine vv_iconst (pc := 1) x dd_La_count_1 (0) (by decide) ?_
  refine vv_aload_n (pc := 2) x dd_La_count_2 rfl ?_
  refine vv_iload_n (pc := 3) x dd_La_count_3 rfl ?_
  refine lz_La_count (pc := 4) G x dd_La_count_4 (C_count G C I.1) hTo ⟨by decide, by decide⟩ (by decide) (by decide) (Nat.le_of_ble_eq_true rfl) (fun v1 M1 q1 => ?_) (fun E1 M1 q1 => ?_)
  · obtain ⟨rfl, hm, c1⟩ := q1
    have hm := hm.symm
    subst hm
    refine vv_i2l (pc := 7) x dd_La_count_7 ?_
    refine vv_last (pc := 8) x dd_La_count_8 hto (in_n (i := 0) (N := 1) (by decide) hno (by decide)) ?_
    refine vv_goto (pc := 9) x dd_La_count_9 (tgt := 15) (by decide) ?_
    refine vv_iconst (pc := 15) x dd_La_count_15 (0) (by decide) ?_
    exact vv_iret (pc := 16) x dd_La_count_16 rfl (by decide) (by decide) (by rw [F_count, cif_t c1]; exact ⟨rfl, CE_lo (CE_rf C hDl hs0), fun _ => ml_out⟩)
  · obtain ⟨rfl, hm, c1⟩ := q1
    have hm := hm.symm
    subst hm
    refine ⟨12, hx_La_count_0 G x ht, fun q9 => ?_⟩
    refine vv_astore_n (pc := 12) x dd_La_count_12 (by decide) (ls2 := [_, _, _, _]) rfl ?_
    refine vv_iconst (pc := 13) x dd_La_count_13 (1) (by decide) ?_
    exact vv_iret (pc := 14) x dd_La_count_14 rfl (by decide) (by decide) (by rw [F_count, cif_f c1]; exact ⟨rfl, CE_rf C hDl hs0, fun z => absurd z (show ¬ (1 : Int32) = 0 by decide)⟩)
set_option maxRecDepth 100000 in
set_option maxHeartbeats 1000000 in
theorem W_of (G : gc g X t0 l) (C : CI pw D ow sl M o La Le Z) (I : zi pw n Z) (hn : n < 512) (hDl : ∀ a, D a → mm_t M a ≠ 0) (hs0 : sl 0 = t0) (hto : mm_t M out = 101) (hno : mm_n M out = 1) {xv wq : Int32} : OkW g X l yy_La_of cc_La_of 5 (some .int) [(0, 10, 13, 19), (0, 10, 17, 29)] 8 134 2 12 [.ref o, .int xv, .int wq, .ref out] M (fun v M' => v = some (.int (F_of Z xv wq).1) ∧ (kq pw D M M' ∧ CE pw t0 D M' o (F_of Z xv wq).2.2) ∧ ((F_of Z xv wq).1 = 0 → mm_l M' out 0 = (F_of Z xv wq).2.1.toInt64)) := by
  have hm5 : ∀ P ∈ Z.1, P.2.2.2.1.length < 512 := fun P hP => by have := I.2.2.1 P hP; omega
  have hTo : mm_t M o = 7 := C.2.1.2.1
  refine okw_start (by decide) (Nat.le_of_ble_eq_true rfl) (by simp [Value.category]) ?_
  intro p e s m args below meth c9 x ht
  refine vv_aload_n (pc := 0) x dd_La_of_0 rfl ?_
  refine vv_iconst (pc := 1) x dd_La_of_1 (0) (by decide) ?_
  refine vv_aload_n (pc := 2) x dd_La_of_2 rfl ?_
  refine vv_iload_n (pc := 3) x dd_La_of_3 rfl ?_
  refine vv_iload_n (pc := 4) x dd_La_of_4 rfl ?_
  refine lz_La_of (pc := 5) G x dd_La_of_5 (C_of G C I.1 (plc Z xv) rfl) hTo ⟨by decide, by decide⟩ (by decide) (by decide) (Nat.le_of_ble_eq_true rfl) (fun v1 M1 q1 => ?_) (fun E1 M1 q1 => ?_)
  · obtain ⟨rfl, hm, c1, c2⟩ := q1
    have hm := hm.symm
    subst hm
    refine vv_i2l (pc := 8) x dd_La_of_8 ?_
    refine vv_last (pc := 9) x dd_La_of_9 hto (in_n (i := 0) (N := 1) (by decide) hno (by decide)) ?_
    refine vv_goto (pc := 10) x dd_La_of_10 (tgt := 21) (by decide) ?_
    refine vv_iconst (pc := 21) x dd_La_of_21 (0) (by decide) ?_
    exact vv_iret (pc := 22) x dd_La_of_22 rfl (by decide) (by decide) (by rw [F_of, cif_f (fun z => z c1), cif_f (fun z => z c2)]; exact ⟨rfl, CE_lo (CE_rf C hDl hs0), fun _ => ml_out⟩)
  · rcases q1 with q1 | q1
    · obtain ⟨rfl, hm, c1⟩ := q1
      have hm := hm.symm
      subst hm
      refine ⟨13, hx_La_of_0 G x ht, fun q9 => ?_⟩
      refine vv_astore (pc := 13) x dd_La_of_13 (by decide) (ls2 := [_, _, _, _, _]) rfl ?_
      refine vv_iconst (pc := 15) x dd_La_of_15 (1) (by decide) ?_
      exact vv_iret (pc := 16) x dd_La_of_16 rfl (by decide) (by decide) (by rw [F_of, cif_t c1]; exact ⟨rfl, CE_rf C hDl hs0, fun z => absurd z (show ¬ (1 : Int32) = 0 by decide)⟩)
    · obtain ⟨rfl, hm, c1, c2⟩ := q1
      have hm := hm.symm
      subst hm
      refine ⟨17, hx_La_of_1 G x ht, fun q9 => ?_⟩
      refine vv_astore (pc := 17) x dd_La_of_17 (by decide) (ls2 := [_, _, _, _, _]) rfl ?_
      refine vv_iconst (pc := 19) x dd_La_of_19 (2) (by decide) ?_
      exact vv_iret (pc := 20) x dd_La_of_20 rfl (by decide) (by decide) (by rw [F_of, cif_f (fun z => z c1), cif_t c2]; exact ⟨rfl, CE_rf C hDl hs0, fun z => absurd z (show ¬ (2 : Int32) = 0 by decide)⟩)
set_option maxRecDepth 100000 in
set_option maxHeartbeats 1000000 in
theorem W_kind (G : gc g X t0 l) (C : CI pw D ow sl M o La Le Z) (I : zi pw n Z) (hn : n < 512) (hDl : ∀ a, D a → mm_t M a ≠ 0) (hs0 : sl 0 = t0) (hto : mm_t M out = 101) (hno : mm_n M out = 1) {xv rv : Int32} : OkW g X l yy_La_kind cc_La_kind 5 (some .int) [(0, 10, 13, 19)] 9 155 2 12 [.ref o, .int xv, .int rv, .ref out] M (fun v M' => v = some (.int (F_kind Z xv rv).1) ∧ (kq pw D M M' ∧ CE pw t0 D M' o (F_kind Z xv rv).2.2) ∧ ((F_kind Z xv rv).1 = 0 → mm_l M' out 0 = (F_kind Z xv rv).2.1.toInt64)) := by
  have hm5 : ∀ P ∈ Z.1, P.2.2.2.1.length < 512 := fun P hP => by have := I.2.2.1 P hP; omega
  have hTo : mm_t M o = 7 := C.2.1.2.1
  refine okw_start (by decide) (Nat.le_of_ble_eq_true rfl) (by simp [Value.category]) ?_
  intro p e s m args below meth c9 x ht
  refine vv_aload_n (pc := 0) x dd_La_kind_0 rfl ?_
  refine vv_iconst (pc := 1) x dd_La_kind_1 (0) (by decide) ?_
  refine vv_aload_n (pc := 2) x dd_La_kind_2 rfl ?_
  refine vv_iload_n (pc := 3) x dd_La_kind_3 rfl ?_
  refine vv_iload_n (pc := 4) x dd_La_kind_4 rfl ?_
  refine lz_La_kind (pc := 5) G x dd_La_kind_5 (C_kind G C I.1 (plc Z xv) rfl) hTo ⟨by decide, by decide⟩ (by decide) (by decide) (Nat.le_of_ble_eq_true rfl) (fun v1 M1 q1 => ?_) (fun E1 M1 q1 => ?_)
  · obtain ⟨rfl, hm, c1, c2⟩ := q1
    have hm := hm.symm
    subst hm
    refine vv_i2l (pc := 8) x dd_La_kind_8 ?_
    refine vv_last (pc := 9) x dd_La_kind_9 hto (in_n (i := 0) (N := 1) (by decide) hno (by decide)) ?_
    refine vv_goto (pc := 10) x dd_La_kind_10 (tgt := 17) (by decide) ?_
    refine vv_iconst (pc := 17) x dd_La_kind_17 (0) (by decide) ?_
    exact vv_iret (pc := 18) x dd_La_kind_18 rfl (by decide) (by decide) (by rw [F_kind, cif_t ⟨c1, c2⟩]; exact ⟨rfl, CE_lo (CE_rf C hDl hs0), fun _ => ml_out⟩)
  · obtain ⟨rfl, hm, c1⟩ := q1
    have hm := hm.symm
    subst hm
    refine ⟨13, hx_La_kind_0 G x ht, fun q9 => ?_⟩
    refine vv_astore (pc := 13) x dd_La_kind_13 (by decide) (ls2 := [_, _, _, _, _]) rfl ?_
    refine vv_iconst (pc := 15) x dd_La_kind_15 (1) (by decide) ?_
    exact vv_iret (pc := 16) x dd_La_kind_16 rfl (by decide) (by decide) (by rw [F_kind, cif_f c1]; exact ⟨rfl, CE_rf C hDl hs0, fun z => absurd z (show ¬ (1 : Int32) = 0 by decide)⟩)
set_option maxRecDepth 100000 in
set_option maxHeartbeats 1000000 in
theorem W_value (G : gc g X t0 l) (C : CI pw D ow sl M o La Le Z) (I : zi pw n Z) (hn : n < 512) (hDl : ∀ a, D a → mm_t M a ≠ 0) (hs0 : sl 0 = t0) (hto : mm_t M out = 101) (hno : mm_n M out = 1) {xv rv : Int32} : OkW g X l yy_La_value cc_La_value 5 (some .int) [(0, 10, 13, 19)] 9 157 2 12 [.ref o, .int xv, .int rv, .ref out] M (fun v M' => v = some (.int (F_value Z xv rv).1) ∧ (kq pw D M M' ∧ CE pw t0 D M' o (F_value Z xv rv).2.2) ∧ ((F_value Z xv rv).1 = 0 → mm_l M' out 0 = (F_value Z xv rv).2.1.toInt64)) := by
  have hm5 : ∀ P ∈ Z.1, P.2.2.2.1.length < 512 := fun P hP => by have := I.2.2.1 P hP; omega
  have hTo : mm_t M o = 7 := C.2.1.2.1
  refine okw_start (by decide) (Nat.le_of_ble_eq_true rfl) (by simp [Value.category]) ?_
  intro p e s m args below meth c9 x ht
  refine vv_aload_n (pc := 0) x dd_La_value_0 rfl ?_
  refine vv_iconst (pc := 1) x dd_La_value_1 (0) (by decide) ?_
  refine vv_aload_n (pc := 2) x dd_La_value_2 rfl ?_
  refine vv_iload_n (pc := 3) x dd_La_value_3 rfl ?_
  refine vv_iload_n (pc := 4) x dd_La_value_4 rfl ?_
  refine lz_La_value (pc := 5) G x dd_La_value_5 (C_value G C I.1 (plc Z xv) rfl) hTo ⟨by decide, by decide⟩ (by decide) (by decide) (Nat.le_of_ble_eq_true rfl) (fun v1 M1 q1 => ?_) (fun E1 M1 q1 => ?_)
  · obtain ⟨rfl, hm, c1, c2⟩ := q1
    have hm := hm.symm
    subst hm
    refine vv_i2l (pc := 8) x dd_La_value_8 ?_
    refine vv_last (pc := 9) x dd_La_value_9 hto (in_n (i := 0) (N := 1) (by decide) hno (by decide)) ?_
    refine vv_goto (pc := 10) x dd_La_value_10 (tgt := 17) (by decide) ?_
    refine vv_iconst (pc := 17) x dd_La_value_17 (0) (by decide) ?_
    exact vv_iret (pc := 18) x dd_La_value_18 rfl (by decide) (by decide) (by rw [F_value, cif_t ⟨c1, c2⟩]; exact ⟨rfl, CE_lo (CE_rf C hDl hs0), fun _ => ml_out⟩)
  · obtain ⟨rfl, hm, c1⟩ := q1
    have hm := hm.symm
    subst hm
    refine ⟨13, hx_La_value_0 G x ht, fun q9 => ?_⟩
    refine vv_astore (pc := 13) x dd_La_value_13 (by decide) (ls2 := [_, _, _, _, _]) rfl ?_
    refine vv_iconst (pc := 15) x dd_La_value_15 (1) (by decide) ?_
    exact vv_iret (pc := 16) x dd_La_value_16 rfl (by decide) (by decide) (by rw [F_value, cif_f c1]; exact ⟨rfl, CE_rf C hDl hs0, fun z => absurd z (show ¬ (1 : Int32) = 0 by decide)⟩)
set_option maxRecDepth 100000 in
set_option maxHeartbeats 1000000 in
theorem W_address (G : gc g X t0 l) (C : CI pw D ow sl M o La Le Z) (I : zi pw n Z) (hn : n < 512) (hDl : ∀ a, D a → mm_t M a ≠ 0) (hs0 : sl 0 = t0) (hto : mm_t M out = 101) (hno : mm_n M out = 1) {xv rv : Int32} : OkW g X l yy_La_address cc_La_address 5 (some .int) [(0, 10, 13, 19)] 9 156 2 12 [.ref o, .int xv, .int rv, .ref out] M (fun v M' => v = some (.int (F_address Z xv rv).1) ∧ (kq pw D M M' ∧ CE pw t0 D M' o (F_address Z xv rv).2.2) ∧ ((F_address Z xv rv).1 = 0 → mm_l M' out 0 = (F_address Z xv rv).2.1.toInt64)) := by
  have hm5 : ∀ P ∈ Z.1, P.2.2.2.1.length < 512 := fun P hP => by have := I.2.2.1 P hP; omega
  have hTo : mm_t M o = 7 := C.2.1.2.1
  refine okw_start (by decide) (Nat.le_of_ble_eq_true rfl) (by simp [Value.category]) ?_
  intro p e s m args below meth c9 x ht
  refine vv_aload_n (pc := 0) x dd_La_address_0 rfl ?_
  refine vv_iconst (pc := 1) x dd_La_address_1 (0) (by decide) ?_
  refine vv_aload_n (pc := 2) x dd_La_address_2 rfl ?_
  refine vv_iload_n (pc := 3) x dd_La_address_3 rfl ?_
  refine vv_iload_n (pc := 4) x dd_La_address_4 rfl ?_
  refine lz_La_address (pc := 5) G x dd_La_address_5 (C_address G C I.1 (plc Z xv) rfl) hTo ⟨by decide, by decide⟩ (by decide) (by decide) (Nat.le_of_ble_eq_true rfl) (fun v1 M1 q1 => ?_) (fun E1 M1 q1 => ?_)
  · obtain ⟨rfl, hm, c1, c2⟩ := q1
    have hm := hm.symm
    subst hm
    refine vv_i2l (pc := 8) x dd_La_address_8 ?_
    refine vv_last (pc := 9) x dd_La_address_9 hto (in_n (i := 0) (N := 1) (by decide) hno (by decide)) ?_
    refine vv_goto (pc := 10) x dd_La_address_10 (tgt := 17) (by decide) ?_
    refine vv_iconst (pc := 17) x dd_La_address_17 (0) (by decide) ?_
    exact vv_iret (pc := 18) x dd_La_address_18 rfl (by decide) (by decide) (by rw [F_address, cif_t ⟨c1, c2⟩]; exact ⟨rfl, CE_lo (CE_rf C hDl hs0), fun _ => ml_out⟩)
  · obtain ⟨rfl, hm, c1⟩ := q1
    have hm := hm.symm
    subst hm
    refine ⟨13, hx_La_address_0 G x ht, fun q9 => ?_⟩
    refine vv_astore (pc := 13) x dd_La_address_13 (by decide) (ls2 := [_, _, _, _, _]) rfl ?_
    refine vv_iconst (pc := 15) x dd_La_address_15 (1) (by decide) ?_
    exact vv_iret (pc := 16) x dd_La_address_16 rfl (by decide) (by decide) (by rw [F_address, cif_f c1]; exact ⟨rfl, CE_rf C hDl hs0, fun z => absurd z (show ¬ (1 : Int32) = 0 by decide)⟩)
set_option maxRecDepth 100000 in
set_option maxHeartbeats 1000000 in
theorem W_words (G : gc g X t0 l) (C : CI pw D ow sl M o La Le Z) (I : zi pw n Z) (hn : n < 512) (hDl : ∀ a, D a → mm_t M a ≠ 0) (hs0 : sl 0 = t0) (hto : mm_t M out = 101) (hno : mm_n M out = 1) {xv rv : Int32} : OkW g X l yy_La_words cc_La_words 5 (some .int) [(0, 10, 13, 19)] 9 156 2 12 [.ref o, .int xv, .int rv, .ref out] M (fun v M' => v = some (.int (F_words Z xv rv).1) ∧ (kq pw D M M' ∧ CE pw t0 D M' o (F_words Z xv rv).2.2) ∧ ((F_words Z xv rv).1 = 0 → mm_l M' out 0 = (F_words Z xv rv).2.1.toInt64)) := by
  have hm5 : ∀ P ∈ Z.1, P.2.2.2.1.length < 512 := fun P hP => by have := I.2.2.1 P hP; omega
  have hTo : mm_t M o = 7 := C.2.1.2.1
  refine okw_start (by decide) (Nat.le_of_ble_eq_true rfl) (by simp [Value.category]) ?_
  intro p e s m args below meth c9 x ht
  refine vv_aload_n (pc := 0) x dd_La_words_0 rfl ?_
  refine vv_iconst (pc := 1) x dd_La_words_1 (0) (by decide) ?_
  refine vv_aload_n (pc := 2) x dd_La_words_2 rfl ?_
  refine vv_iload_n (pc := 3) x dd_La_words_3 rfl ?_
  refine vv_iload_n (pc := 4) x dd_La_words_4 rfl ?_
  refine lz_La_words (pc := 5) G x dd_La_words_5 (C_mwords G C I.1 (plc Z xv) rfl) hTo ⟨by decide, by decide⟩ (by decide) (by decide) (Nat.le_of_ble_eq_true rfl) (fun v1 M1 q1 => ?_) (fun E1 M1 q1 => ?_)
  · obtain ⟨rfl, c1, C1, K1⟩ := q1
    refine vv_i2l (pc := 8) x dd_La_words_8 ?_
    refine vv_last (pc := 9) x dd_La_words_9 ((K1.1 out (by rw [hto]; decide)).1.trans hto) (in_n (i := 0) (N := 1) (by decide) ((K1.1 out (by rw [hto]; decide)).2.1.trans hno) (by decide)) ?_
    refine vv_goto (pc := 10) x dd_La_words_10 (tgt := 17) (by decide) ?_
    refine vv_iconst (pc := 17) x dd_La_words_17 (0) (by decide) ?_
    exact vv_iret (pc := 18) x dd_La_words_18 rfl (by decide) (by decide) (by rw [F_words, cif_t c1]; exact ⟨rfl, CE_lo (CE_of C1 K1 hDl hs0), fun _ => ml_out⟩)
  · obtain ⟨rfl, hm, c1⟩ := q1
    have hm := hm.symm
    subst hm
    refine ⟨13, hx_La_words_0 G x ht, fun q9 => ?_⟩
    refine vv_astore (pc := 13) x dd_La_words_13 (by decide) (ls2 := [_, _, _, _, _]) rfl ?_
    refine vv_iconst (pc := 15) x dd_La_words_15 (1) (by decide) ?_
    exact vv_iret (pc := 16) x dd_La_words_16 rfl (by decide) (by decide) (by rw [F_words, cif_f c1]; exact ⟨rfl, CE_rf C hDl hs0, fun z => absurd z (show ¬ (1 : Int32) = 0 by decide)⟩)
set_option maxRecDepth 100000 in
set_option maxHeartbeats 1000000 in
theorem W_handles (G : gc g X t0 l) (C : CI pw D ow sl M o La Le Z) (I : zi pw n Z) (hn : n < 512) (hDl : ∀ a, D a → mm_t M a ≠ 0) (hs0 : sl 0 = t0) (hto : mm_t M out = 101) (hno : mm_n M out = 1) {xv rv : Int32} : OkW g X l yy_La_handles cc_La_handles 5 (some .int) [(0, 10, 13, 19)] 9 157 2 12 [.ref o, .int xv, .int rv, .ref out] M (fun v M' => v = some (.int (F_handles Z xv rv).1) ∧ (kq pw D M M' ∧ CE pw t0 D M' o (F_handles Z xv rv).2.2) ∧ ((F_handles Z xv rv).1 = 0 → mm_l M' out 0 = (F_handles Z xv rv).2.1.toInt64)) := by
  have hm5 : ∀ P ∈ Z.1, P.2.2.2.1.length < 512 := fun P hP => by have := I.2.2.1 P hP; omega
  have hTo : mm_t M o = 7 := C.2.1.2.1
  refine okw_start (by decide) (Nat.le_of_ble_eq_true rfl) (by simp [Value.category]) ?_
  intro p e s m args below meth c9 x ht
  refine vv_aload_n (pc := 0) x dd_La_handles_0 rfl ?_
  refine vv_iconst (pc := 1) x dd_La_handles_1 (0) (by decide) ?_
  refine vv_aload_n (pc := 2) x dd_La_handles_2 rfl ?_
  refine vv_iload_n (pc := 3) x dd_La_handles_3 rfl ?_
  refine vv_iload_n (pc := 4) x dd_La_handles_4 rfl ?_
  refine lz_La_handles (pc := 5) G x dd_La_handles_5 (C_handles G C I.1 (plc Z xv) rfl) hTo ⟨by decide, by decide⟩ (by decide) (by decide) (Nat.le_of_ble_eq_true rfl) (fun v1 M1 q1 => ?_) (fun E1 M1 q1 => ?_)
  · obtain ⟨rfl, hm, c1, c2⟩ := q1
    have hm := hm.symm
    subst hm
    refine vv_i2l (pc := 8) x dd_La_handles_8 ?_
    refine vv_last (pc := 9) x dd_La_handles_9 hto (in_n (i := 0) (N := 1) (by decide) hno (by decide)) ?_
    refine vv_goto (pc := 10) x dd_La_handles_10 (tgt := 17) (by decide) ?_
    refine vv_iconst (pc := 17) x dd_La_handles_17 (0) (by decide) ?_
    exact vv_iret (pc := 18) x dd_La_handles_18 rfl (by decide) (by decide) (by rw [F_handles, cif_t ⟨c1, c2⟩]; exact ⟨rfl, CE_lo (CE_rf C hDl hs0), fun _ => ml_out⟩)
  · obtain ⟨rfl, hm, c1⟩ := q1
    have hm := hm.symm
    subst hm
    refine ⟨13, hx_La_handles_0 G x ht, fun q9 => ?_⟩
    refine vv_astore (pc := 13) x dd_La_handles_13 (by decide) (ls2 := [_, _, _, _, _]) rfl ?_
    refine vv_iconst (pc := 15) x dd_La_handles_15 (1) (by decide) ?_
    exact vv_iret (pc := 16) x dd_La_handles_16 rfl (by decide) (by decide) (by rw [F_handles, cif_f c1]; exact ⟨rfl, CE_rf C hDl hs0, fun z => absurd z (show ¬ (1 : Int32) = 0 by decide)⟩)
set_option maxRecDepth 100000 in
set_option maxHeartbeats 1000000 in
theorem W_equal (G : gc g X t0 l) (C : CI pw D ow sl M o La Le Z) (I : zi pw n Z) (hn : n < 512) (hDl : ∀ a, D a → mm_t M a ≠ 0) (hs0 : sl 0 = t0) (hto : mm_t M out = 101) (hno : mm_n M out = 1) {xv rv ov sv : Int32} : OkW g X l yy_La_equal cc_La_equal 7 (some .int) [(0, 21, 24, 19), (0, 21, 28, 47)] 9 160 5 30 [.ref o, .int xv, .int rv, .int ov, .int sv, .ref out] M (fun v M' => v = some (.int (F_equal Z xv rv ov sv).1) ∧ (kq pw D M M' ∧ CE pw t0 D M' o (F_equal Z xv rv ov sv).2.2) ∧ ((F_equal Z xv rv ov sv).1 = 0 → mm_l M' out 0 = (F_equal Z xv rv ov sv).2.1.toInt64)) := by
  have hm5 : ∀ P ∈ Z.1, P.2.2.2.1.length < 512 := fun P hP => by have := I.2.2.1 P hP; omega
  have hTo : mm_t M o = 7 := C.2.1.2.1
  refine okw_start (by decide) (Nat.le_of_ble_eq_true rfl) (by simp [Value.category]) ?_
  intro p e s m args below meth c9 x ht
  refine vv_aload (pc := 0) x dd_La_equal_0 rfl ?_
  refine vv_iconst (pc := 2) x dd_La_equal_2 (0) (by decide) ?_
  refine vv_aload_n (pc := 3) x dd_La_equal_3 rfl ?_
  refine vv_iload_n (pc := 4) x dd_La_equal_4 rfl ?_
  refine vv_iload_n (pc := 5) x dd_La_equal_5 rfl ?_
  refine vv_iload_n (pc := 6) x dd_La_equal_6 rfl ?_
  refine vv_iload (pc := 7) x dd_La_equal_7 rfl ?_
  refine lz_La_equal (pc := 9) G x dd_La_equal_9 (C_equal G C I.1 (plc Z xv) rfl (plc Z ov) rfl (cmpr (zget Z (plc Z xv)).2.2.2.2 (zget Z (plc Z ov)).2.2.2.2 2000 [(zrg Z (plc Z xv) rv, zrg Z (plc Z ov) sv)]) rfl) hTo ⟨by decide, by decide⟩ (by decide) (by decide) (Nat.le_of_ble_eq_true rfl) (fun v1 M1 q1 => ?_) (fun E1 M1 q1 => ?_)
  · obtain ⟨rfl, c1, c2, C1, K1⟩ := q1
    by_cases e1 : (cmpr (zget Z (plc Z xv)).2.2.2.2 (zget Z (plc Z ov)).2.2.2.2 2000 [(zrg Z (plc Z xv) rv, zrg Z (plc Z ov) sv)]).1 = true
    · rw [show (if (cmpr (zget Z (plc Z xv)).2.2.2.2 (zget Z (plc Z ov)).2.2.2.2 2000 [(zrg Z (plc Z xv) rv, zrg Z (plc Z ov) sv)]).1 = true then (1 : Int32) else 0) = 1 from if_pos e1]
      refine vv_if_eq (pc := 12) x dd_La_equal_12 (tgt := 19) (by decide) (fun h12 => absurd h12 (by decide)) (fun h12 => ?_)
      refine vv_lconst (pc := 15) x dd_La_equal_15 (v := 1) (by decide) ?_
      refine vv_goto (pc := 16) x dd_La_equal_16 (tgt := 20) (by decide) ?_
      refine vv_last (pc := 20) x dd_La_equal_20 ((K1.1 out (by rw [hto]; decide)).1.trans hto) (in_n (i := 0) (N := 1) (by decide) ((K1.1 out (by rw [hto]; decide)).2.1.trans hno) (by decide)) ?_
      refine vv_goto (pc := 21) x dd_La_equal_21 (tgt := 32) (by decide) ?_
      refine vv_iconst (pc := 32) x dd_La_equal_32 (0) (by decide) ?_
      exact vv_iret (pc := 33) x dd_La_equal_33 rfl (by decide) (by decide) (by rw [F_equal, cif_f (fun z => z c1), cif_f (fun z => z.2 (c2 z.1))]; exact ⟨rfl, CE_lo (CE_of C1 K1 hDl hs0), fun _ => ml_out.trans (show (1 : Int64) = (if (cmpr (zget Z (plc Z xv)).2.2.2.2 (zget Z (plc Z ov)).2.2.2.2 2000 [(zrg Z (plc Z xv) rv, zrg Z (plc Z ov) sv)]).1 = true then (1 : Int32) else 0).toInt64 by rw [if_pos e1]; decide)⟩)
    · rw [show (if (cmpr (zget Z (plc Z xv)).2.2.2.2 (zget Z (plc Z ov)).2.2.2.2 2000 [(zrg Z (plc Z xv) rv, zrg Z (plc Z ov) sv)]).1 = true then (1 : Int32) else 0) = 0 from if_neg e1]
      refine vv_if_eq (pc := 12) x dd_La_equal_12 (tgt := 19) (by decide) (fun h12 => ?_) (fun h12 => absurd h12 (fun z => z rfl))
      refine vv_lconst (pc := 19) x dd_La_equal_19 (v := 0) (by decide) ?_
      refine vv_last (pc := 20) x dd_La_equal_20 ((K1.1 out (by rw [hto]; decide)).1.trans hto) (in_n (i := 0) (N := 1) (by decide) ((K1.1 out (by rw [hto]; decide)).2.1.trans hno) (by decide)) ?_
      refine vv_goto (pc := 21) x dd_La_equal_21 (tgt := 32) (by decide) ?_
      refine vv_iconst (pc := 32) x dd_La_equal_32 (0) (by decide) ?_
      exact vv_iret (pc := 33) x dd_La_equal_33 rfl (by decide) (by decide) (by rw [F_equal, cif_f (fun z => z c1), cif_f (fun z => z.2 (c2 z.1))]; exact ⟨rfl, CE_lo (CE_of C1 K1 hDl hs0), fun _ => ml_out.trans (show (0 : Int64) = (if (cmpr (zget Z (plc Z xv)).2.2.2.2 (zget Z (plc Z ov)).2.2.2.2 2000 [(zrg Z (plc Z xv) rv, zrg Z (plc Z ov) sv)]).1 = true then (1 : Int32) else 0).toInt64 by rw [if_neg e1]; decide)⟩)
  · rcases q1 with q1 | q1
    · obtain ⟨rfl, hm, c1⟩ := q1
      have hm := hm.symm
      subst hm
      refine ⟨24, hx_La_equal_0 G x ht, fun q9 => ?_⟩
      refine vv_astore (pc := 24) x dd_La_equal_24 (by decide) (ls2 := [_, _, _, _, _, _, _]) rfl ?_
      refine vv_iconst (pc := 26) x dd_La_equal_26 (1) (by decide) ?_
      exact vv_iret (pc := 27) x dd_La_equal_27 rfl (by decide) (by decide) (by rw [F_equal, cif_t c1]; exact ⟨rfl, CE_rf C hDl hs0, fun z => absurd z (show ¬ (1 : Int32) = 0 by decide)⟩)
    · obtain ⟨rfl, c1, c2, c3, C1, K1⟩ := q1
      refine ⟨28, hx_La_equal_1 G x ht, fun q9 => ?_⟩
      refine vv_astore (pc := 28) x dd_La_equal_28 (by decide) (ls2 := [_, _, _, _, _, _, _]) rfl ?_
      refine vv_iconst (pc := 30) x dd_La_equal_30 (2) (by decide) ?_
      exact vv_iret (pc := 31) x dd_La_equal_31 rfl (by decide) (by decide) (by rw [F_equal, cif_f (fun z => z c1), cif_t ⟨c2, c3⟩]; exact ⟨rfl, CE_of C1 K1 hDl hs0, fun z => absurd z (show ¬ (2 : Int32) = 0 by decide)⟩)
end M72
