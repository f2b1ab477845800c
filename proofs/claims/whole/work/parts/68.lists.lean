/-! ===== lists: looking things up ===== -/
section M25
variable {g : gg} {X : State → Prop} {t0 : Nat} {l : Launch} {M : mm} {pw : Nat} {D : Nat → Prop} {ow sl : Nat → Nat} {o : Nat} {La Le : List Nat} {Z : zst} {al : Nat} {L : List Nat}
set_option maxRecDepth 100000 in
set_option maxHeartbeats 4000000 in
theorem k_pcheck (G : gc g X t0 l) {i n : Nat} (h : i < n) (hn : n < 2 ^ 31) : Ok g X l yy_Pc_checkIndex3 cc_Pc_checkIndex3 3 (some .int) 0 0 0 0 [.int (nI i), .int (nI n), .null] M (fun v M' => v = some (.int (nI i)) ∧ M' = M) := by
  refine ok_start (by decide) (Nat.le_of_ble_eq_true rfl) (by simp [Value.category]) ?_
  intro p e s m args below meth c9 x
  refine vv_iload_n (pc := 0) x dd_Pc_checkIndex3_0 rfl ?_
  refine vv_if_lt (pc := 1) x dd_Pc_checkIndex3_1 (tgt := 9) (by decide) (fun h1 => absurd h1 (nI_pos (by omega))) (fun h1 => ?_)
  refine vv_iload_n (pc := 4) x dd_Pc_checkIndex3_4 rfl ?_
  refine vv_iload_n (pc := 5) x dd_Pc_checkIndex3_5 rfl ?_
  refine vv_icmp_lt (pc := 6) x dd_Pc_checkIndex3_6 (tgt := 16) (by decide) (fun h6 => ?_) (fun h6 => absurd h6 (fun z => z (nI_lt h hn)))
  refine vv_iload_n (pc := 16) x dd_Pc_checkIndex3_16 rfl ?_
  exact vv_iret (pc := 17) x dd_Pc_checkIndex3_17 rfl (by decide) (by decide) ⟨rfl, rfl⟩
set_option maxRecDepth 100000 in
set_option maxHeartbeats 4000000 in
theorem k_ocheck (G : gc g X t0 l) {i n : Nat} (h : i < n) (hn : n < 2 ^ 31) : Ok g X l yy_Ob_checkIndex2 cc_Ob_checkIndex2 2 (some .int) 1 22 0 0 [.int (nI i), .int (nI n)] M (fun v M' => v = some (.int (nI i)) ∧ M' = M) := by
  refine ok_start (by decide) (Nat.le_of_ble_eq_true rfl) (by simp [Value.category]) ?_
  intro p e s m args below meth c9 x
  refine vv_iload_n (pc := 0) x dd_Ob_checkIndex2_0 rfl ?_
  refine vv_iload_n (pc := 1) x dd_Ob_checkIndex2_1 rfl ?_
  refine vv_null (pc := 2) x dd_Ob_checkIndex2_2 ?_
  refine lv_Ob_105 (pc := 3) G x dd_Ob_checkIndex2_3 (k_pcheck G h hn)  ⟨by decide, by decide⟩ (by decide) (by decide) (Nat.le_of_ble_eq_true rfl) (fun v3 M3 q3 => ?_)
  obtain ⟨rfl, hm3⟩ := q3
  have hm3 := hm3.symm
  subst hm3
  exact vv_iret (pc := 6) x dd_Ob_checkIndex2_6 rfl (by decide) (by decide) ⟨rfl, rfl⟩
set_option maxRecDepth 100000 in
set_option maxHeartbeats 4000000 in
theorem k_size (G : gc g X t0 l) {t1 : Nat} (hT : mm_t M al = 9) (H : ALIs t1 M al L) : Ok g X l yy_AL_size cc_AL_size 1 (some .int) 0 0 0 0 [.ref al] M (fun v M' => v = some (.int (nI L.length)) ∧ M' = M) := by
  refine ok_start (by decide) (Nat.le_of_ble_eq_true rfl) (by simp [Value.category]) ?_
  intro p e s m args below meth c9 x
  refine vv_aload_n (pc := 0) x dd_AL_size_0 rfl ?_
  refine lg_AL_48 (pc := 1) G x dd_AL_size_1 (by assumption) ?_
  rw [H.2.1]
  exact vv_iret (pc := 4) x dd_AL_size_4 rfl (by decide) (by decide) ⟨rfl, rfl⟩
set_option maxRecDepth 100000 in
set_option maxHeartbeats 4000000 in
theorem k_isEmpty (G : gc g X t0 l) {t1 : Nat} (hT : mm_t M al = 9) (H : ALIs t1 M al L) (hl : L.length < 2 ^ 31) : Ok g X l yy_AL_isEmpty cc_AL_isEmpty 1 (some .boolean) 0 0 0 0 [.ref al] M (fun v M' => v = some (.int (if L.length = 0 then 1 else 0)) ∧ M' = M) := by
  refine ok_start (by decide) (Nat.le_of_ble_eq_true rfl) (by simp [Value.category]) ?_
  intro p e s m args below meth c9 x
  refine vv_aload_n (pc := 0) x dd_AL_isEmpty_0 rfl ?_
  refine lg_AL_48 (pc := 1) G x dd_AL_isEmpty_1 (by assumption) ?_
  rw [H.2.1]
  refine vv_if_ne (pc := 4) x dd_AL_isEmpty_4 (tgt := 11) (by decide) (fun h4 => ?_) (fun h4 => ?_)
  · refine vv_iconst (pc := 11) x dd_AL_isEmpty_11 (0) (by decide) ?_
    exact vv_zret (pc := 12) x dd_AL_isEmpty_12 rfl (Or.inl rfl) (by decide) (by decide) ⟨by rw [if_neg (fun e9 => h4 (by rw [e9]; rfl))], rfl⟩
  · refine vv_iconst (pc := 7) x dd_AL_isEmpty_7 (1) (by decide) ?_
    refine vv_goto (pc := 8) x dd_AL_isEmpty_8 (tgt := 12) (by decide) ?_
    exact vv_zret (pc := 12) x dd_AL_isEmpty_12 rfl (Or.inr rfl) (by decide) (by decide) ⟨by rw [if_pos ((nI_eq (b := 0) hl (by decide)).mp h4)], rfl⟩
set_option maxRecDepth 100000 in
set_option maxHeartbeats 4000000 in
theorem k_eldata (G : gc g X t0 l) {t1 : Nat} (hT : mm_t M al = 9) (H : ALIs t1 M al L) (hl : L.length < 2 ^ 31) {i : Nat} (hi : i < L.length) : Ok g X l yy_AL_elementData cc_AL_elementData 2 (some (.object "java/lang/Object")) 0 0 0 0 [.ref al, .int (nI i)] M (fun v M' => v = some (.ref (L.getD i 0)) ∧ M' = M) := by
  refine ok_start (by decide) (Nat.le_of_ble_eq_true rfl) (by simp [Value.category]) ?_
  intro p e s m args below meth c9 x
  obtain ⟨-, h2, h3, h4, h5⟩ := (H.2.2.resolve_left (fun z => by rw [z.1] at hi; simp at hi))
  have h1 := H.1
  have hc : (nI i).toNatClampNeg = i := nI_clamp (by omega)
  have hq := h5 i hi
  have he : mm_e M (mm_f M 8 1 al) i = L.getD i 0 := by
    unfold mm_e
    rw [hq]
    rfl
  have hin : vp_in (nI i) (mm_n M (mm_f M 8 1 al)) := vp_in_nI (by rw [h3]; omega) (by rw [h3]; decide)
  refine vv_aload_n (pc := 0) x dd_AL_elementData_0 rfl ?_
  refine lg_AL_9 (pc := 1) G x dd_AL_elementData_1 (by assumption) (by assumption) ?_
  refine vv_iload_n (pc := 4) x dd_AL_elementData_4 rfl ?_
  refine vv_aald (pc := 5) x dd_AL_elementData_5 h2 hin (by rw [hc, hq]; omega) ?_
  rw [hc, he]
  exact vv_aret (pc := 6) x dd_AL_elementData_6 rfl (by decide) (by decide) ⟨rfl, rfl⟩
set_option maxRecDepth 100000 in
set_option maxHeartbeats 4000000 in
theorem k_get (G : gc g X t0 l) {t1 : Nat} (hT : mm_t M al = 9) (H : ALIs t1 M al L) (hl : L.length < 2 ^ 31) {i : Nat} (hi : i < L.length) : Ok g X l yy_AL_get cc_AL_get 2 (some (.object "java/lang/Object")) 2 43 0 0 [.ref al, .int (nI i)] M (fun v M' => v = some (.ref (L.getD i 0)) ∧ M' = M) := by
  refine ok_start (by decide) (Nat.le_of_ble_eq_true rfl) (by simp [Value.category]) ?_
  intro p e s m args below meth c9 x
  refine vv_iload_n (pc := 0) x dd_AL_get_0 rfl ?_
  refine vv_aload_n (pc := 1) x dd_AL_get_1 rfl ?_
  refine lg_AL_48 (pc := 2) G x dd_AL_get_2 (by assumption) ?_
  rw [H.2.1]
  refine lv_AL_118 (pc := 5) G x dd_AL_get_5 (k_ocheck G hi hl)  ⟨by decide, by decide⟩ (by decide) (by decide) (Nat.le_of_ble_eq_true rfl) (fun v5 M5 q5 => ?_)
  obtain ⟨rfl, hm5⟩ := q5
  have hm5 := hm5.symm
  subst hm5
  refine vv_pop (pc := 8) x dd_AL_get_8 rfl ?_
  refine vv_aload_n (pc := 9) x dd_AL_get_9 rfl ?_
  refine vv_iload_n (pc := 10) x dd_AL_get_10 rfl ?_
  refine lv_AL_123 (pc := 11) G x dd_AL_get_11 (k_eldata G hT H hl hi) hT ⟨by decide, by decide⟩ (by decide) (by decide) (Nat.le_of_ble_eq_true rfl) (fun v11 M11 q11 => ?_)
  obtain ⟨rfl, hm11⟩ := q11
  have hm11 := hm11.symm
  subst hm11
  exact vv_aret (pc := 14) x dd_AL_get_14 rfl (by decide) (by decide) ⟨rfl, rfl⟩
/-- the place of a number among n processes from i on; the one behind the last, if there is none -/
def pf (Z : zst) (xv : Int32) : Nat → Nat → Nat
  | 0, i => i
  | n + 1, i => if nI (zget Z i).1 = xv then i else pf Z xv n (i + 1)
theorem pf_le {xv : Int32} : ∀ {n i : Nat}, i ≤ pf Z xv n i ∧ pf Z xv n i ≤ i + n
  | 0, i => ⟨Nat.le_refl _, Nat.le_refl _⟩
  | n + 1, i => by
    show i ≤ (if nI (zget Z i).1 = xv then i else pf Z xv n (i + 1)) ∧ (if nI (zget Z i).1 = xv then i else pf Z xv n (i + 1)) ≤ _
    have := pf_le (xv := xv) (n := n) (i := i + 1)
    split <;> omega
theorem pf_eq {xv : Int32} : ∀ {n i : Nat}, pf Z xv n i < i + n → nI (zget Z (pf Z xv n i)).1 = xv
  | 0, i, h => by
    have h1 : i < i + 0 := h
    omega
  | n + 1, i, h => by
    have h1 : (if nI (zget Z i).1 = xv then i else pf Z xv n (i + 1)) < i + (n + 1) := h
    show nI (zget Z (if nI (zget Z i).1 = xv then i else pf Z xv n (i + 1))).1 = xv
    by_cases e : nI (zget Z i).1 = xv
    · rw [if_pos e]; exact e
    · rw [if_neg e] at h1 ⊢
      exact pf_eq (by omega)
def plc (Z : zst) (xv : Int32) : Nat := pf Z xv Z.1.length 0
set_option maxRecDepth 100000 in
set_option maxHeartbeats 4000000 in
theorem C_place8 (G : gc g X t0 l) (C : CI pw D ow sl M o La Le Z) (h8 : Z.1.length ≤ 8) {xv : Int32} (k9 : Nat) (hk9 : plc Z xv = k9) : Ok g X l yy_CH_placeOf cc_CH_placeOf 3 (some .int) 3 64 0 0 [.ref o, .int xv] M (fun v M' => v = some (.int (if k9 < Z.1.length then nI k9 else -1)) ∧ M' = M) := by
  refine ok_start (by decide) (Nat.le_of_ble_eq_true rfl) (by simp [Value.category]) ?_
  intro p e s m args below meth c9 x
  obtain ⟨S, ⟨hDo, hTo, hp, hp6⟩, ⟨ha1, ha2, ha3, ha4⟩, ⟨hl, hP⟩, -, -, hL⟩ := C
  have r2 := S.or hDo hTo 2 (by decide)
  have hTl : mm_t M (mm_f M 6 2 o) = 9 := S.ot hDo hTo 2 (by decide)
  have hLa := hL.1
  have hll : La.length < 2 ^ 31 := by omega
  have hloop : ∀ (n i : Nat), i + n = Z.1.length → pf Z xv n i = k9 → vv g 3 p l e (rm 3 64 0 0) s m args below meth c9 (MQ below (ok_Q g (fun v M' => v = some (.int (if k9 < Z.1.length then nI k9 else -1)) ∧ M' = M)) args s 0 0 (ok_F g)) 0 0 2 [some (.ref o), some (.int xv), some (.int (nI i))] [] (M) := by
    intro n
    induction n with
    | zero =>
      intro i hi hk
      have e : i = k9 := hk
      refine vv_iload_n (pc := 2) x dd_CH_placeOf_2 rfl ?_
      refine vv_aload_n (pc := 3) x dd_CH_placeOf_3 rfl ?_
      refine lg_CH_34 (pc := 4) G x dd_CH_placeOf_4 (by assumption) r2 ?_
      refine lv_CH_62 (pc := 7) G x dd_CH_placeOf_7 (k_size G hTl hLa) hTl ⟨by decide, by decide⟩ (by decide) (by decide) (Nat.le_of_ble_eq_true rfl) (fun v7 M7 q7 => ?_)
      obtain ⟨rfl, hm7⟩ := q7
      have hm7 := hm7.symm
      subst hm7
      refine vv_icmp_ge (pc := 10) x dd_CH_placeOf_10 (tgt := 39) (by decide) (fun h10 => ?_) (fun h10 => absurd h10 (fun z => z (nI_le (by omega) (by omega))))
      refine vv_iconst (pc := 39) x dd_CH_placeOf_39 (-1) (by decide) ?_
      exact vv_iret (pc := 40) x dd_CH_placeOf_40 rfl (by decide) (by decide) ⟨by rw [if_neg (by omega)], rfl⟩
    | succ n ih =>
      intro i hi hk
      have hk2 : (if nI (zget Z i).1 = xv then i else pf Z xv n (i + 1)) = k9 := hk
      have hi1 : i < La.length := by omega
      have hm := ha1 _ (List.mem_append_left Le (getD_memN hi1))
      have hnum := (hP i hi1).1
      refine vv_iload_n (pc := 2) x dd_CH_placeOf_2 rfl ?_
      refine vv_aload_n (pc := 3) x dd_CH_placeOf_3 rfl ?_
      refine lg_CH_34 (pc := 4) G x dd_CH_placeOf_4 (by assumption) r2 ?_
      refine lv_CH_62 (pc := 7) G x dd_CH_placeOf_7 (k_size G hTl hLa) hTl ⟨by decide, by decide⟩ (by decide) (by decide) (Nat.le_of_ble_eq_true rfl) (fun v7 M7 q7 => ?_)
      obtain ⟨rfl, hm7⟩ := q7
      have hm7 := hm7.symm
      subst hm7
      refine vv_icmp_ge (pc := 10) x dd_CH_placeOf_10 (tgt := 39) (by decide) (fun h10 => absurd h10 (nI_ge (by omega) (by omega))) (fun h10 => ?_)
      refine vv_aload_n (pc := 13) x dd_CH_placeOf_13 rfl ?_
      refine lg_CH_34 (pc := 14) G x dd_CH_placeOf_14 (by assumption) r2 ?_
      refine vv_iload_n (pc := 17) x dd_CH_placeOf_17 rfl ?_
      refine lv_CH_162 (pc := 18) G x dd_CH_placeOf_18 (k_get G hTl hLa hll hi1) hTl ⟨by decide, by decide⟩ (by decide) (by decide) (Nat.le_of_ble_eq_true rfl) (fun v18 M18 q18 => ?_)
      obtain ⟨rfl, hm18⟩ := q18
      have hm18 := hm18.symm
      subst hm18
      refine lc_CH_76 (pc := 21) G x dd_CH_placeOf_21 hm.2 ?_
      refine lg_CH_225 (pc := 24) G x dd_CH_placeOf_24 hm.2 ?_
      refine vv_iload_n (pc := 27) x dd_CH_placeOf_27 rfl ?_
      rw [hnum]
      refine vv_icmp_ne (pc := 28) x dd_CH_placeOf_28 (tgt := 33) (by decide) (fun h28 => ?_) (fun h28 => ?_)
      · rw [if_neg h28] at hk2
        refine vv_iinc (pc := 33) x dd_CH_placeOf_33 rfl (nI_1 i) (by decide) (ls2 := [_, _, _]) rfl ?_
        refine vv_goto (pc := 36) x dd_CH_placeOf_36 (tgt := 2) (by decide) ?_
        exact ih (i + 1) (by omega) hk2
      · refine vv_iload_n (pc := 31) x dd_CH_placeOf_31 rfl ?_
        exact vv_iret (pc := 32) x dd_CH_placeOf_32 rfl (by decide) (by decide) ⟨by
            rw [if_pos h28] at hk2
            rw [← hk2, if_pos (by omega)], rfl⟩
  refine vv_iconst (pc := 0) x dd_CH_placeOf_0 (0) (by decide) ?_
  refine vv_istore_n (pc := 1) x dd_CH_placeOf_1 (by decide) (ls2 := [_, _, _]) rfl ?_
  exact hloop Z.1.length 0 (by omega) hk9
theorem C_place (G : gc g X t0 l) (C : CI pw D ow sl M o La Le Z) (hZ : zok pw Z) {xv : Int32} (k9 : Nat) (hk9 : plc Z xv = k9) : Ok g X l yy_CH_placeOf cc_CH_placeOf 3 (some .int) 3 64 0 0 [.ref o, .int xv] M (fun v M' => v = some (.int (if k9 < Z.1.length then nI k9 else -1)) ∧ M' = M) := C_place8 G C hZ.2.1 k9 hk9
end M25
