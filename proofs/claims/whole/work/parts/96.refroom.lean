/-! ===== the reference: room, and what reads or sets a register ===== -/
section M53
variable {g : gg} {X : State → Prop} {t0 : Nat} {l : Launch} {M : mm} {M1 M2 : mm} {pw : Nat} {D : Nat → Prop} {ow sl : Nat → Nat} {mo : Nat} {Ki Ka : List Nat} {k : Nat} {pl : List Nat} {Z : zst}
def RI9 : List Nat := [0, 1, 2, 3, 4, 13, 16]
theorem znm (hZ : zok pw Z) (hl : Z.2.2.1 < 2 ^ 31) : ∀ P ∈ Z.1, 1 ≤ P.1 ∧ P.1 < 2 ^ 31 := fun P hP => by
  have := hZ.2.2.2.1 P hP
  omega
theorem zgrow_0 {i : Nat} (hi : i < Z.1.length) : zgrow Z i 0 = Z := by
  unfold zgrow
  show (Z.1.set i (zget Z i), (Z.2.1.1, Z.2.1.2), Z.2.2.1, Z.2.2.2) = Z
  rw [set_same hi]
theorem stp_is7 {n : Nat} (h : n < 2 ^ 30) : (nI n + 7) / 8 * 8 = nI (stp n) := by
  show (nI n + nI 7) / nI 8 * nI 8 = _
  rw [nI_add, pk_div (by omega) (by decide) (by decide), pk_mul]
  rfl
theorem zcol_ml2 {i : Nat} (h : ∀ P ∈ Z.1, P.2.2.2.1.length ≤ 512) (hi : i < Z.1.length) : ∀ P ∈ (zcol Z i).1, P.2.2.2.1.length ≤ 512 := fun P hP => by
  rcases List.mem_or_eq_of_mem_set hP with e | e
  · exact h P e
  · rw [e]
    show (List.map _ _).length ≤ 512
    rw [List.length_map]
    exact h _ (zget_mem hi)
theorem MI_grow {i gr : Nat} (h : MI pw D ow sl M mo pl Z) (hZ : ∀ P ∈ Z.1, hok P.2.2.2.2 ∧ P.2.2.2.1.length ≤ 512) (hi : i < Z.1.length) : MI pw D ow sl (mw M mo 6 (upd (ra M mo 6) (pl.getD i 0) (nI ((zget Z i).2.1 + gr)))) mo pl (zgrow Z i gr) := by
  obtain ⟨R, ⟨i1, i2, i3, i4⟩, ⟨l1, l2, l3⟩, hA, hE, q1, q2⟩ := id h
  have e : ∀ k, k ∈ RA → k ≠ 6 → ra (mw M mo 6 (upd (ra M mo 6) (pl.getD i 0) (nI ((zget Z i).2.1 + gr)))) mo k = ra M mo k := fun k h1 h2 => ra_mw_n R (by decide) h1 h2
  obtain ⟨⟨a1, a2, a3⟩, a4, ⟨a5, a6⟩, a7, a8⟩ := hA i hi
  refine MI_step h hZ rx_mw hi (fun p hp hne => ?_) ?_ rfl i2 rfl i4 ⟨q1, fun w hw => ?_⟩
  · unfold sameP
    rw [e 5 (by decide) (by decide), e 7 (by decide) (by decide), e 8 (by decide) (by decide), e 9 (by decide) (by decide), e 10 (by decide) (by decide), e 11 (by decide) (by decide), e 12 (by decide) (by decide), ra_mw, upd_ne hne]
    exact sameP.rf
  · unfold RP
    rw [e 5 (by decide) (by decide), e 7 (by decide) (by decide), e 8 (by decide) (by decide), e 9 (by decide) (by decide), e 10 (by decide) (by decide), e 11 (by decide) (by decide), e 12 (by decide) (by decide), ra_mw, upd_eq rfl]
    exact ⟨⟨a1, rfl, a3⟩, a4, ⟨a5, a6⟩, a7, a8⟩
  · rw [e 14 (by decide) (by decide), e 15 (by decide) (by decide)]; exact q2 w hw
theorem MI_reg {i j : Nat} {t : Int32} (h : MI pw D ow sl M mo pl Z) (hZ : ∀ P ∈ Z.1, hok P.2.2.2.2 ∧ P.2.2.2.1.length ≤ 512) (hi : i < Z.1.length) (hj : j < 4) (hl4 : (zget Z i).2.2.1.length = 4) : MI pw D ow sl (mw M mo 8 (upd (ra M mo 8) (4 * pl.getD i 0 + j) t)) mo pl (zreg Z i j t) := by
  obtain ⟨R, ⟨i1, i2, i3, i4⟩, ⟨l1, l2, l3⟩, hA, hE, q1, q2⟩ := id h
  have e : ∀ k, k ∈ RA → k ≠ 8 → ra (mw M mo 8 (upd (ra M mo 8) (4 * pl.getD i 0 + j) t)) mo k = ra M mo k := fun k h1 h2 => ra_mw_n R (by decide) h1 h2
  obtain ⟨⟨a1, a2, a3⟩, a4, ⟨a5, a6⟩, a7, a8⟩ := hA i hi
  refine MI_step h hZ rx_mw hi (fun p hp hne => ?_) ?_ rfl i2 rfl i4 ⟨q1, fun w hw => ?_⟩
  · unfold sameP
    rw [e 5 (by decide) (by decide), e 6 (by decide) (by decide), e 7 (by decide) (by decide), e 9 (by decide) (by decide), e 10 (by decide) (by decide), e 11 (by decide) (by decide), e 12 (by decide) (by decide), ra_mw]
    exact ⟨rfl, rfl, rfl, fun x hx => upd_ne (by omega), rfl, fun _ _ => rfl, fun _ _ => rfl, fun _ _ => rfl⟩
  · unfold RP
    rw [e 5 (by decide) (by decide), e 6 (by decide) (by decide), e 7 (by decide) (by decide), e 9 (by decide) (by decide), e 10 (by decide) (by decide), e 11 (by decide) (by decide), e 12 (by decide) (by decide), ra_mw]
    refine ⟨⟨a1, a2, a3⟩, fun x hx => ?_, ⟨a5, a6⟩, a7, a8⟩
    show _ = (List.set _ j t).getD x 0
    by_cases ex : x = j
    · rw [upd_eq (by omega), ex, List.getD_eq_getElem?_getD, List.getElem?_set_self (by omega)]
      rfl
    · rw [upd_ne (by omega), a4 x hx, List.getD_eq_getElem?_getD, List.getD_eq_getElem?_getD, List.getElem?_set_ne (fun z => ex z.symm)]
  · rw [e 14 (by decide) (by decide), e 15 (by decide) (by decide)]; exact q2 w hw
theorem zho (hZ : zok pw Z) (hml : ∀ P ∈ Z.1, P.2.2.2.1.length ≤ 512) : ∀ P ∈ Z.1, hok P.2.2.2.2 ∧ P.2.2.2.1.length ≤ 512 := fun P hP => ⟨(hZ.1 P hP).2.1, hml P hP⟩
set_option maxRecDepth 100000 in
set_option maxHeartbeats 1000000 in
theorem R_room (G : gc g X t0 l) (h : MI pw D ow sl M mo pl Z) (hZ : zok pw Z) (hp6 : pw ≤ 600) (hlat : Z.2.2.1 < 2 ^ 31) (hml : ∀ P ∈ Z.1, P.2.2.2.1.length ≤ 512) {i : Nat} (hi : i < Z.1.length) {n : Nat} (hn : n ≤ 1000) (Rs : Bool × zst) (hRs : zroom Z i n = Rs) : Ok g X l yy_Mo_room cc_Mo_room 4 (some .boolean) 6 139 0 0 [.ref mo, .int (nI (pl.getD i 0)), .int (nI n)] M (fun v M' => v = some (.int (if Rs.1 = true then 1 else 0)) ∧ rx [4, 13, 16] [6, 7, 8, 10, 11, 12, 14, 15, 17, 18, 19] mo M M' ∧ MI pw D ow sl M' mo pl Rs.2) := by
  refine ok_start (by decide) (Nat.le_of_ble_eq_true rfl) (by simp [Value.category]) ?_
  intro p e s m args below meth c9 x
  have hm := zget_mem hi
  have hk := hZ.1 _ hm
  obtain ⟨R, ⟨i1, i2, i3, i4⟩, ⟨l1, l2, l3⟩, hA, hE, hq0⟩ := id h
  have hp8 : pl.getD i 0 < 8 := l3 _ (getD_memN (by omega))
  obtain ⟨⟨a1, a2, a3⟩, -⟩ := hA i hi
  have hcap := cap_le hZ hi
  have hus := hk.2.2.1
  have hZ1 := zcol_ok hZ hi
  have hi1 : i < (zcol Z i).1.length := by rw [zcol_len]; exact hi
  have hcap1 := cap_le hZ1 hi1
  have hus1 := (hZ1.1 _ (zget_mem hi1)).2.2.1
  have hcp : (nI (pl.getD i 0)).toNatClampNeg = pl.getD i 0 := nI_clamp (by omega)
  have e7 : mm_a M (mm_f M 7 7 mo) (pl.getD i 0) = nI (hsz (zget Z i).2.2.2.2) := a3
  have e6 : mm_a M (mm_f M 7 6 mo) (pl.getD i 0) = nI (zget Z i).2.1 := a2
  unfold zroom at hRs
  have hstp : stp (hsz (zget (zcol Z i) i).2.2.2.2 + n - (zget (zcol Z i) i).2.1) ≤ hsz (zget (zcol Z i) i).2.2.2.2 + n - (zget (zcol Z i) i).2.1 + 7 := stp_le
  by_cases hfit : hsz (zget Z i).2.2.2.2 + n ≤ (zget Z i).2.1
  · rw [if_pos hfit] at hRs
    subst hRs
    refine vv_aload_n (pc := 0) x dd_Mo_room_0 rfl ?_
    refine lg_Mo_16 (pc := 1) G x dd_Mo_room_1 R.2.2 (R.r 7 (by decide)) ?_
    refine vv_iload_n (pc := 4) x dd_Mo_room_4 rfl ?_
    refine vv_iald (pc := 5) x dd_Mo_room_5 (R.t 7 (by decide)) (in_n (N := 8) (by omega) (R.n 7 (by decide)) (by decide)) ?_
    rw [hcp, e7]
    refine vv_iload_n (pc := 6) x dd_Mo_room_6 rfl ?_
    refine vv_iadd (pc := 7) x dd_Mo_room_7 ?_
    rw [nI_add]
    refine vv_aload_n (pc := 8) x dd_Mo_room_8 rfl ?_
    refine lg_Mo_13 (pc := 9) G x dd_Mo_room_9 R.2.2 (R.r 6 (by decide)) ?_
    refine vv_iload_n (pc := 12) x dd_Mo_room_12 rfl ?_
    refine vv_iald (pc := 13) x dd_Mo_room_13 (R.t 6 (by decide)) (in_n (N := 8) (by omega) (R.n 6 (by decide)) (by decide)) ?_
    rw [hcp, e6]
    refine vv_icmp_gt (pc := 14) x dd_Mo_room_14 (tgt := 19) (by decide) (fun h14 => absurd h14 (fun z => by have := (nI_ltI (by omega) (by omega)).mp z; omega)) (fun h14 => ?_)
    refine vv_iconst (pc := 17) x dd_Mo_room_17 (1) (by decide) ?_
    exact vv_zret (pc := 18) x dd_Mo_room_18 rfl (Or.inr rfl) (by decide) (by decide) ⟨rfl, rx.rf, h⟩
  · rw [if_neg hfit] at hRs
    have h14no := nI_lt (a := (zget Z i).2.1) (b := hsz (zget Z i).2.2.2.2 + n) (by omega) (by omega)
    by_cases hm0 : hsz (zget (zcol Z i) i).2.2.2.2 + n ≤ (zget (zcol Z i) i).2.1
    · rw [show hsz (zget (zcol Z i) i).2.2.2.2 + n - (zget (zcol Z i) i).2.1 = 0 by omega, show stp 0 = 0 from rfl, if_pos (Nat.zero_le _), zgrow_0 hi1] at hRs
      subst hRs
      refine vv_aload_n (pc := 0) x dd_Mo_room_0 rfl ?_
      refine lg_Mo_16 (pc := 1) G x dd_Mo_room_1 R.2.2 (R.r 7 (by decide)) ?_
      refine vv_iload_n (pc := 4) x dd_Mo_room_4 rfl ?_
      refine vv_iald (pc := 5) x dd_Mo_room_5 (R.t 7 (by decide)) (in_n (N := 8) (by omega) (R.n 7 (by decide)) (by decide)) ?_
      rw [hcp, e7]
      refine vv_iload_n (pc := 6) x dd_Mo_room_6 rfl ?_
      refine vv_iadd (pc := 7) x dd_Mo_room_7 ?_
      rw [nI_add]
      refine vv_aload_n (pc := 8) x dd_Mo_room_8 rfl ?_
      refine lg_Mo_13 (pc := 9) G x dd_Mo_room_9 R.2.2 (R.r 6 (by decide)) ?_
      refine vv_iload_n (pc := 12) x dd_Mo_room_12 rfl ?_
      refine vv_iald (pc := 13) x dd_Mo_room_13 (R.t 6 (by decide)) (in_n (N := 8) (by omega) (R.n 6 (by decide)) (by decide)) ?_
      rw [hcp, e6]
      refine vv_icmp_gt (pc := 14) x dd_Mo_room_14 (tgt := 19) (by decide) (fun h14 => ?_) (fun h14 => absurd h14 (fun z => z h14no))
      refine vv_aload_n (pc := 19) x dd_Mo_room_19 rfl ?_
      refine vv_iload_n (pc := 20) x dd_Mo_room_20 rfl ?_
      refine lv_Mo_107 (pc := 21) G x dd_Mo_room_21 (R_gather G h hZ hp6 hml hi) R.2.2 ⟨by decide, by decide⟩ (by decide) (by decide) (Nat.le_of_ble_eq_true rfl) (fun v21 M21 q21 => ?_)
      obtain ⟨rfl, F1, h1⟩ := q21
      have R1 := h1.1
      obtain ⟨⟨b1, b2, b3⟩, -⟩ := h1.2.2.2.1 i hi1
      have g7 : mm_a M21 (mm_f M21 7 7 mo) (pl.getD i 0) = nI (hsz (zget (zcol Z i) i).2.2.2.2) := b3
      have g6 : mm_a M21 (mm_f M21 7 6 mo) (pl.getD i 0) = nI (zget (zcol Z i) i).2.1 := b2
      refine vv_aload_n (pc := 24) x dd_Mo_room_24 rfl ?_
      refine lg_Mo_16 (pc := 25) G x dd_Mo_room_25 R1.2.2 (R1.r 7 (by decide)) ?_
      refine vv_iload_n (pc := 28) x dd_Mo_room_28 rfl ?_
      refine vv_iald (pc := 29) x dd_Mo_room_29 (R1.t 7 (by decide)) (in_n (N := 8) (by omega) (R1.n 7 (by decide)) (by decide)) ?_
      rw [hcp, g7]
      refine vv_iload_n (pc := 30) x dd_Mo_room_30 rfl ?_
      refine vv_iadd (pc := 31) x dd_Mo_room_31 ?_
      rw [nI_add]
      refine vv_aload_n (pc := 32) x dd_Mo_room_32 rfl ?_
      refine lg_Mo_13 (pc := 33) G x dd_Mo_room_33 R1.2.2 (R1.r 6 (by decide)) ?_
      refine vv_iload_n (pc := 36) x dd_Mo_room_36 rfl ?_
      refine vv_iald (pc := 37) x dd_Mo_room_37 (R1.t 6 (by decide)) (in_n (N := 8) (by omega) (R1.n 6 (by decide)) (by decide)) ?_
      rw [hcp, g6]
      refine vv_isub (pc := 38) x dd_Mo_room_38 ?_
      refine vv_istore_n (pc := 39) x dd_Mo_room_39 (by decide) (ls2 := [_, _, _, _]) rfl ?_
      refine vv_iload_n (pc := 40) x dd_Mo_room_40 rfl ?_
      refine vv_if_gt (pc := 41) x dd_Mo_room_41 (tgt := 46) (by decide) (fun h41 => absurd h41 (fun z => by have := (lk_pos (by omega) (by omega)).mp z; omega)) (fun h41 => ?_)
      refine vv_iconst (pc := 44) x dd_Mo_room_44 (1) (by decide) ?_
      exact vv_zret (pc := 45) x dd_Mo_room_45 rfl (Or.inr rfl) (by decide) (by decide) ⟨rfl, F1.mono (by decide) (by decide), h1⟩
    · have hZf := hZ1.2.2.2.2.2.2
      have hnm1 : ∀ P ∈ (zcol Z i).1, 1 ≤ P.1 ∧ P.1 < 2 ^ 31 := znm hZ1 hlat
      have hfle : (zcol Z i).2.1.1 ≤ pw := by omega
      generalize hgr : stp (hsz (zget (zcol Z i) i).2.2.2.2 + n - (zget (zcol Z i) i).2.1) = gr at *
      by_cases hfr : gr ≤ (zcol Z i).2.1.1
      · rw [if_pos hfr] at hRs
        subst hRs
        refine vv_aload_n (pc := 0) x dd_Mo_room_0 rfl ?_
        refine lg_Mo_16 (pc := 1) G x dd_Mo_room_1 R.2.2 (R.r 7 (by decide)) ?_
        refine vv_iload_n (pc := 4) x dd_Mo_room_4 rfl ?_
        refine vv_iald (pc := 5) x dd_Mo_room_5 (R.t 7 (by decide)) (in_n (N := 8) (by omega) (R.n 7 (by decide)) (by decide)) ?_
        rw [hcp, e7]
        refine vv_iload_n (pc := 6) x dd_Mo_room_6 rfl ?_
        refine vv_iadd (pc := 7) x dd_Mo_room_7 ?_
        rw [nI_add]
        refine vv_aload_n (pc := 8) x dd_Mo_room_8 rfl ?_
        refine lg_Mo_13 (pc := 9) G x dd_Mo_room_9 R.2.2 (R.r 6 (by decide)) ?_
        refine vv_iload_n (pc := 12) x dd_Mo_room_12 rfl ?_
        refine vv_iald (pc := 13) x dd_Mo_room_13 (R.t 6 (by decide)) (in_n (N := 8) (by omega) (R.n 6 (by decide)) (by decide)) ?_
        rw [hcp, e6]
        refine vv_icmp_gt (pc := 14) x dd_Mo_room_14 (tgt := 19) (by decide) (fun h14 => ?_) (fun h14 => absurd h14 (fun z => z h14no))
        refine vv_aload_n (pc := 19) x dd_Mo_room_19 rfl ?_
        refine vv_iload_n (pc := 20) x dd_Mo_room_20 rfl ?_
        refine lv_Mo_107 (pc := 21) G x dd_Mo_room_21 (R_gather G h hZ hp6 hml hi) R.2.2 ⟨by decide, by decide⟩ (by decide) (by decide) (Nat.le_of_ble_eq_true rfl) (fun v21 M21 q21 => ?_)
        obtain ⟨rfl, F1, h1⟩ := q21
        have R1 := h1.1
        obtain ⟨⟨b1, b2, b3⟩, -⟩ := h1.2.2.2.1 i hi1
        have g7 : mm_a M21 (mm_f M21 7 7 mo) (pl.getD i 0) = nI (hsz (zget (zcol Z i) i).2.2.2.2) := b3
        have g6 : mm_a M21 (mm_f M21 7 6 mo) (pl.getD i 0) = nI (zget (zcol Z i) i).2.1 := b2
        refine vv_aload_n (pc := 24) x dd_Mo_room_24 rfl ?_
        refine lg_Mo_16 (pc := 25) G x dd_Mo_room_25 R1.2.2 (R1.r 7 (by decide)) ?_
        refine vv_iload_n (pc := 28) x dd_Mo_room_28 rfl ?_
        refine vv_iald (pc := 29) x dd_Mo_room_29 (R1.t 7 (by decide)) (in_n (N := 8) (by omega) (R1.n 7 (by decide)) (by decide)) ?_
        rw [hcp, g7]
        refine vv_iload_n (pc := 30) x dd_Mo_room_30 rfl ?_
        refine vv_iadd (pc := 31) x dd_Mo_room_31 ?_
        rw [nI_add]
        refine vv_aload_n (pc := 32) x dd_Mo_room_32 rfl ?_
        refine lg_Mo_13 (pc := 33) G x dd_Mo_room_33 R1.2.2 (R1.r 6 (by decide)) ?_
        refine vv_iload_n (pc := 36) x dd_Mo_room_36 rfl ?_
        refine vv_iald (pc := 37) x dd_Mo_room_37 (R1.t 6 (by decide)) (in_n (N := 8) (by omega) (R1.n 6 (by decide)) (by decide)) ?_
        rw [hcp, g6]
        refine vv_isub (pc := 38) x dd_Mo_room_38 ?_
        refine vv_istore_n (pc := 39) x dd_Mo_room_39 (by decide) (ls2 := [_, _, _, _]) rfl ?_
        refine vv_iload_n (pc := 40) x dd_Mo_room_40 rfl ?_
        refine vv_if_gt (pc := 41) x dd_Mo_room_41 (tgt := 46) (by decide) (fun h41 => ?_) (fun h41 => absurd h41 (fun z => z ((lk_pos (by omega) (by omega)).mpr (by omega))))
        rw [pk_sub (by omega)]
        refine vv_iload_n (pc := 46) x dd_Mo_room_46 rfl ?_
        refine vv_bipush (pc := 47) x dd_Mo_room_47 (7) (by decide) ?_
        refine vv_iadd (pc := 49) x dd_Mo_room_49 ?_
        refine vv_bipush (pc := 50) x dd_Mo_room_50 (8) (by decide) ?_
        refine vv_idiv (pc := 52) x dd_Mo_room_52 (by decide) ?_
        refine vv_bipush (pc := 53) x dd_Mo_room_53 (8) (by decide) ?_
        refine vv_imul (pc := 55) x dd_Mo_room_55 ?_
        rw [stp_is7 (by omega), hgr]
        refine vv_istore_n (pc := 56) x dd_Mo_room_56 (by decide) (ls2 := [_, _, _, _]) rfl ?_
        refine vv_aload_n (pc := 57) x dd_Mo_room_57 rfl ?_
        refine lv_Mo_110 (pc := 58) G x dd_Mo_room_58 (R_free G h1 hZf hnm1) R1.2.2 ⟨by decide, by decide⟩ (by decide) (by decide) (Nat.le_of_ble_eq_true rfl) (fun v58 M58 q58 => ?_)
        obtain ⟨rfl, hm58⟩ := q58
        have hm58 := hm58.symm
        subst hm58
        refine vv_iload_n (pc := 61) x dd_Mo_room_61 rfl ?_
        refine vv_icmp_ge (pc := 62) x dd_Mo_room_62 (tgt := 67) (by decide) (fun h62 => ?_) (fun h62 => absurd h62 (fun z => z (nI_le hfr (by omega))))
        refine vv_aload_n (pc := 67) x dd_Mo_room_67 rfl ?_
        refine lg_Mo_13 (pc := 68) G x dd_Mo_room_68 R1.2.2 (R1.r 6 (by decide)) ?_
        refine vv_iload_n (pc := 71) x dd_Mo_room_71 rfl ?_
        refine vv_dup2 (pc := 72) x dd_Mo_room_72 rfl rfl ?_
        refine vv_iald (pc := 73) x dd_Mo_room_73 (R1.t 6 (by decide)) (in_n (N := 8) (by omega) (R1.n 6 (by decide)) (by decide)) ?_
        rw [hcp, g6]
        refine vv_iload_n (pc := 74) x dd_Mo_room_74 rfl ?_
        refine vv_iadd (pc := 75) x dd_Mo_room_75 ?_
        rw [nI_add]
        refine vv_iast (pc := 76) x dd_Mo_room_76 (R1.t 6 (by decide)) (in_n (N := 8) (by omega) (R1.n 6 (by decide)) (by decide)) ?_
        rw [hcp]
        refine vv_iconst (pc := 77) x dd_Mo_room_77 (1) (by decide) ?_
        exact vv_zret (pc := 78) x dd_Mo_room_78 rfl (Or.inr rfl) (by decide) (by decide) ⟨rfl, (F1.mono (by decide) (by decide)).trans (rx_mw.mono (by simp) (by simp)), MI_grow h1 (zho hZ1 (zcol_ml2 hml hi)) hi1⟩
      · rw [if_neg hfr] at hRs
        subst hRs
        refine vv_aload_n (pc := 0) x dd_Mo_room_0 rfl ?_
        refine lg_Mo_16 (pc := 1) G x dd_Mo_room_1 R.2.2 (R.r 7 (by decide)) ?_
        refine vv_iload_n (pc := 4) x dd_Mo_room_4 rfl ?_
        refine vv_iald (pc := 5) x dd_Mo_room_5 (R.t 7 (by decide)) (in_n (N := 8) (by omega) (R.n 7 (by decide)) (by decide)) ?_
        rw [hcp, e7]
        refine vv_iload_n (pc := 6) x dd_Mo_room_6 rfl ?_
        refine vv_iadd (pc := 7) x dd_Mo_room_7 ?_
        rw [nI_add]
        refine vv_aload_n (pc := 8) x dd_Mo_room_8 rfl ?_
        refine lg_Mo_13 (pc := 9) G x dd_Mo_room_9 R.2.2 (R.r 6 (by decide)) ?_
        refine vv_iload_n (pc := 12) x dd_Mo_room_12 rfl ?_
        refine vv_iald (pc := 13) x dd_Mo_room_13 (R.t 6 (by decide)) (in_n (N := 8) (by omega) (R.n 6 (by decide)) (by decide)) ?_
        rw [hcp, e6]
        refine vv_icmp_gt (pc := 14) x dd_Mo_room_14 (tgt := 19) (by decide) (fun h14 => ?_) (fun h14 => absurd h14 (fun z => z h14no))
        refine vv_aload_n (pc := 19) x dd_Mo_room_19 rfl ?_
        refine vv_iload_n (pc := 20) x dd_Mo_room_20 rfl ?_
        refine lv_Mo_107 (pc := 21) G x dd_Mo_room_21 (R_gather G h hZ hp6 hml hi) R.2.2 ⟨by decide, by decide⟩ (by decide) (by decide) (Nat.le_of_ble_eq_true rfl) (fun v21 M21 q21 => ?_)
        obtain ⟨rfl, F1, h1⟩ := q21
        have R1 := h1.1
        obtain ⟨⟨b1, b2, b3⟩, -⟩ := h1.2.2.2.1 i hi1
        have g7 : mm_a M21 (mm_f M21 7 7 mo) (pl.getD i 0) = nI (hsz (zget (zcol Z i) i).2.2.2.2) := b3
        have g6 : mm_a M21 (mm_f M21 7 6 mo) (pl.getD i 0) = nI (zget (zcol Z i) i).2.1 := b2
        refine vv_aload_n (pc := 24) x dd_Mo_room_24 rfl ?_
        refine lg_Mo_16 (pc := 25) G x dd_Mo_room_25 R1.2.2 (R1.r 7 (by decide)) ?_
        refine vv_iload_n (pc := 28) x dd_Mo_room_28 rfl ?_
        refine vv_iald (pc := 29) x dd_Mo_room_29 (R1.t 7 (by decide)) (in_n (N := 8) (by omega) (R1.n 7 (by decide)) (by decide)) ?_
        rw [hcp, g7]
        refine vv_iload_n (pc := 30) x dd_Mo_room_30 rfl ?_
        refine vv_iadd (pc := 31) x dd_Mo_room_31 ?_
        rw [nI_add]
        refine vv_aload_n (pc := 32) x dd_Mo_room_32 rfl ?_
        refine lg_Mo_13 (pc := 33) G x dd_Mo_room_33 R1.2.2 (R1.r 6 (by decide)) ?_
        refine vv_iload_n (pc := 36) x dd_Mo_room_36 rfl ?_
        refine vv_iald (pc := 37) x dd_Mo_room_37 (R1.t 6 (by decide)) (in_n (N := 8) (by omega) (R1.n 6 (by decide)) (by decide)) ?_
        rw [hcp, g6]
        refine vv_isub (pc := 38) x dd_Mo_room_38 ?_
        refine vv_istore_n (pc := 39) x dd_Mo_room_39 (by decide) (ls2 := [_, _, _, _]) rfl ?_
        refine vv_iload_n (pc := 40) x dd_Mo_room_40 rfl ?_
        refine vv_if_gt (pc := 41) x dd_Mo_room_41 (tgt := 46) (by decide) (fun h41 => ?_) (fun h41 => absurd h41 (fun z => z ((lk_pos (by omega) (by omega)).mpr (by omega))))
        rw [pk_sub (by omega)]
        refine vv_iload_n (pc := 46) x dd_Mo_room_46 rfl ?_
        refine vv_bipush (pc := 47) x dd_Mo_room_47 (7) (by decide) ?_
        refine vv_iadd (pc := 49) x dd_Mo_room_49 ?_
        refine vv_bipush (pc := 50) x dd_Mo_room_50 (8) (by decide) ?_
        refine vv_idiv (pc := 52) x dd_Mo_room_52 (by decide) ?_
        refine vv_bipush (pc := 53) x dd_Mo_room_53 (8) (by decide) ?_
        refine vv_imul (pc := 55) x dd_Mo_room_55 ?_
        rw [stp_is7 (by omega), hgr]
        refine vv_istore_n (pc := 56) x dd_Mo_room_56 (by decide) (ls2 := [_, _, _, _]) rfl ?_
        refine vv_aload_n (pc := 57) x dd_Mo_room_57 rfl ?_
        refine lv_Mo_110 (pc := 58) G x dd_Mo_room_58 (R_free G h1 hZf hnm1) R1.2.2 ⟨by decide, by decide⟩ (by decide) (by decide) (Nat.le_of_ble_eq_true rfl) (fun v58 M58 q58 => ?_)
        obtain ⟨rfl, hm58⟩ := q58
        have hm58 := hm58.symm
        subst hm58
        refine vv_iload_n (pc := 61) x dd_Mo_room_61 rfl ?_
        refine vv_icmp_ge (pc := 62) x dd_Mo_room_62 (tgt := 67) (by decide) (fun h62 => absurd h62 (nI_ge (by omega) (by omega))) (fun h62 => ?_)
        refine vv_iconst (pc := 65) x dd_Mo_room_65 (0) (by decide) ?_
        exact vv_zret (pc := 66) x dd_Mo_room_66 rfl (Or.inl rfl) (by decide) (by decide) ⟨rfl, F1.mono (by decide) (by decide), h1⟩
end M53
