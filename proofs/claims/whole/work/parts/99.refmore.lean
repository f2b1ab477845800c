/-! ===== the reference: count, of, collect, trim, part, receive ===== -/
section M56
variable {g : gg} {X : State → Prop} {t0 : Nat} {l : Launch} {M : mm} {M1 M2 : mm} {pw : Nat} {D : Nat → Prop} {ow sl : Nat → Nat} {mo : Nat} {Ki Ka : List Nat} {k : Nat} {pl : List Nat} {Z : zst} {B : List bk}
theorem in4 {w : Int32} (h1 : ¬ w < 0) (h2 : w ≤ 4) : w = 0 ∨ w = 1 ∨ w = 2 ∨ w = 3 ∨ w = 4 := by
  obtain ⟨n, hn, e⟩ := nI_of h1
  have h3 : n ≤ 4 := (nI_leI (b := 4) hn (by decide)).mp (by rw [← e]; exact h2)
  rcases n with _ | _ | _ | _ | _ | n
  · exact Or.inl e
  · exact Or.inr (Or.inl e)
  · exact Or.inr (Or.inr (Or.inl e))
  · exact Or.inr (Or.inr (Or.inr (Or.inl e)))
  · exact Or.inr (Or.inr (Or.inr (Or.inr e)))
  · omega
theorem in2 {w : Int32} (h1 : ¬ w < 0) (h2 : w ≤ 2) : w = 0 ∨ w = 1 ∨ w = 2 := by
  obtain ⟨n, hn, e⟩ := nI_of h1
  have h3 : n ≤ 2 := (nI_leI (b := 2) hn (by decide)).mp (by rw [← e]; exact h2)
  rcases n with _ | _ | _ | n
  · exact Or.inl e
  · exact Or.inr (Or.inl e)
  · exact Or.inr (Or.inr e)
  · omega
theorem MI_cap {i c : Nat} {p' : pp} (h : MI pw D ow sl M mo pl Z) (hZ : ∀ P ∈ Z.1, hok P.2.2.2.2 ∧ P.2.2.2.1.length ≤ 512) (hi : i < Z.1.length) (hp' : p'.2 = Z.2.1.2) : MI pw D ow sl (mw M mo 6 (upd (ra M mo 6) (pl.getD i 0) (nI c))) mo pl (Z.1.set i ((zget Z i).1, c, (zget Z i).2.2), p', Z.2.2.1, Z.2.2.2) := by
  obtain ⟨R, ⟨i1, i2, i3, i4⟩, ⟨l1, l2, l3⟩, hA, hE, q1, q2⟩ := id h
  have e : ∀ k, k ∈ RA → k ≠ 6 → ra (mw M mo 6 (upd (ra M mo 6) (pl.getD i 0) (nI c))) mo k = ra M mo k := fun k h1 h2 => ra_mw_n R (by decide) h1 h2
  obtain ⟨⟨a1, a2, a3⟩, a4, ⟨a5, a6⟩, a7, a8⟩ := hA i hi
  refine MI_step h hZ rx_mw hi (fun p hp hne => ?_) ?_ rfl i2 rfl i4 ⟨by rw [hp']; exact q1, fun w hw => ?_⟩
  · unfold sameP
    rw [e 5 (by decide) (by decide), e 7 (by decide) (by decide), e 8 (by decide) (by decide), e 9 (by decide) (by decide), e 10 (by decide) (by decide), e 11 (by decide) (by decide), e 12 (by decide) (by decide), ra_mw, upd_ne hne]
    exact sameP.rf
  · unfold RP
    rw [e 5 (by decide) (by decide), e 7 (by decide) (by decide), e 8 (by decide) (by decide), e 9 (by decide) (by decide), e 10 (by decide) (by decide), e 11 (by decide) (by decide), e 12 (by decide) (by decide), ra_mw, upd_eq rfl]
    exact ⟨⟨a1, rfl, a3⟩, a4, ⟨a5, a6⟩, a7, a8⟩
  · rw [e 14 (by decide) (by decide), e 15 (by decide) (by decide), hp']; exact q2 w hw
theorem MI_pop {i : Nat} {f10 : Nat → Int32} (h : MI pw D ow sl M mo pl Z) (hZ : ∀ P ∈ Z.1, hok P.2.2.2.2 ∧ P.2.2.2.1.length ≤ 512) (hi : i < Z.1.length) (hl : 0 < (zget Z i).2.2.2.1.length) (F : rx [] [9, 10] mo M M1) (e9 : ra M1 mo 9 = upd (ra M mo 9) (pl.getD i 0) (nI ((zget Z i).2.2.2.1.length - 1))) (h10 : ∀ m, m < (zget Z i).2.2.2.1.length - 1 → ra M1 mo 10 (520 * pl.getD i 0 + m) = ra M mo 10 (520 * pl.getD i 0 + (m + 1))) (h10o : ∀ x, ¬ (520 * pl.getD i 0 ≤ x ∧ x < 520 * pl.getD i 0 + 520) → ra M1 mo 10 x = ra M mo 10 x) : MI pw D ow sl M1 mo pl (zpop Z i) := by
  obtain ⟨R, ⟨i1, i2, i3, i4⟩, ⟨l1, l2, l3⟩, hA, hE, q1, q2⟩ := id h
  have e : ∀ k, k ∈ RA → k ∉ [9, 10] → ra M1 mo k = ra M mo k := fun k h1 h2 => F.a R h1 (by decide) h2
  obtain ⟨⟨a1, a2, a3⟩, a4, ⟨a5, a6⟩, a7, a8⟩ := hA i hi
  refine MI_step h hZ F hi (fun p hp hne => ?_) ?_ (F.i (by simp)) ((F.i (by simp)).trans i2) (F.i (by simp)) ((F.i (by simp)).trans i4) ⟨(F.i (by simp)).trans q1, fun w hw => ?_⟩
  · unfold sameP
    rw [e 5 (by decide) (by decide), e 6 (by decide) (by decide), e 7 (by decide) (by decide), e 8 (by decide) (by decide), e 11 (by decide) (by decide), e 12 (by decide) (by decide), e9, upd_ne hne]
    exact ⟨rfl, rfl, rfl, fun _ _ => rfl, rfl, fun x hx => h10o _ (by omega), fun _ _ => rfl, fun _ _ => rfl⟩
  · unfold RP
    rw [e 5 (by decide) (by decide), e 6 (by decide) (by decide), e 7 (by decide) (by decide), e 8 (by decide) (by decide), e 11 (by decide) (by decide), e 12 (by decide) (by decide), e9, upd_eq rfl]
    refine ⟨⟨a1, a2, a3⟩, a4, ⟨?_, fun x hx => ?_⟩, a7, a8⟩
    · show _ = nI (zget Z i).2.2.2.1.tail.length
      rw [List.length_tail]
    · have hx2 : x < (zget Z i).2.2.2.1.tail.length := hx
      rw [List.length_tail] at hx2
      rw [h10 x hx2, a6 (x + 1) (by omega)]
      show _ = (zget Z i).2.2.2.1.tail.getD x 0
      rw [List.getD_eq_getElem?_getD, List.getD_eq_getElem?_getD, List.getElem?_tail]
  · rw [e 14 (by decide) (by decide), e 15 (by decide) (by decide)]; exact q2 w hw
theorem zpop_reg {i j : Nat} {t : Int32} (hi : i < Z.1.length) : zpop (zreg Z i j t) i = zreg (zpop Z i) i j t := by
  unfold zpop zreg
  rw [zget_set hi, zget_set hi, if_pos rfl, if_pos rfl]
  show (List.set (List.set _ _ _) _ _, _, _, _) = (List.set (List.set _ _ _) _ _, _, _, _)
  rw [List.set_set, List.set_set]
set_option maxRecDepth 100000 in
set_option maxHeartbeats 1000000 in
theorem R_count (G : gc g X t0 l) (h : MI pw D ow sl M mo pl Z) (hZ : zok pw Z) (hlat : Z.2.2.1 < 2 ^ 31) {wq : Int32} : Ok g X l yy_Mo_count cc_Mo_count 2 (some .int) 1 22 0 0 [.ref mo, .int wq] M (fun v M' => rx RI9 RA mo M M' ∧ (((wq = 0 ∨ wq = 1 ∨ wq = 2 ∨ wq = 3 ∨ wq = 4) ∧ v = some (.int (if wq = 0 then nI Z.1.length else if wq = 1 then nI Z.2.1.1 else if wq = 2 then nI Z.2.1.2.1 else if wq = 3 then nI Z.2.2.1 else nI Z.2.2.2)) ∧ ri M' mo 0 = 0 ∧ MI pw D ow sl M' mo pl Z) ∨ (¬ (wq = 0 ∨ wq = 1 ∨ wq = 2 ∨ wq = 3 ∨ wq = 4) ∧ (∃ z, v = some (.int z)) ∧ ri M' mo 0 = 1 ∧ MI pw D ow sl M' mo pl Z))) := by
  refine ok_start (by decide) (Nat.le_of_ble_eq_true rfl) (by simp [Value.category]) ?_
  intro p e s m args below meth c9 x
  have R := h.1
  have hnm := znm hZ hlat
  by_cases hc : wq = 0 ∨ wq = 1 ∨ wq = 2 ∨ wq = 3 ∨ wq = 4
  · rcases hc with hw | hw | hw | hw | hw
    · subst hw
      refine vv_aload_n (pc := 0) x dd_Mo_count_0 rfl ?_
      refine vv_iload_n (pc := 1) x dd_Mo_count_1 rfl ?_
      refine vv_if_lt (pc := 2) x dd_Mo_count_2 (tgt := 10) (by decide) (fun h2 => absurd h2 (by decide)) (fun h2 => ?_)
      refine vv_iload_n (pc := 5) x dd_Mo_count_5 rfl ?_
      refine vv_iconst (pc := 6) x dd_Mo_count_6 (4) (by decide) ?_
      refine vv_icmp_le (pc := 7) x dd_Mo_count_7 (tgt := 14) (by decide) (fun h7 => ?_) (fun h7 => absurd h7 (fun z => z (by decide)))
      refine vv_iconst (pc := 14) x dd_Mo_count_14 (0) (by decide) ?_
      refine lp_Mo_62 (pc := 15) G x dd_Mo_count_15 R.2.2 ?_
      have F_N0 : rx RI9 RA mo M (mi M mo 0 0) := rx_mi.mono (by decide) (by simp)
      have t_N0 : ri (mi M mo 0 0) mo 0 = 0 := ri_mi
      have h_N0 : MI pw D ow sl (mi M mo 0 0) mo pl Z := MI_scr h (rx_mi.mono (by decide) (by simp))
      rw [show mm_si M 7 0 mo 0 = mi M mo 0 0 from rfl]
      generalize mi M mo 0 0 = N0 at *
      have R_N0 := h_N0.1
      refine vv_aload_n (pc := 18) x dd_Mo_count_18 rfl ?_
      refine lg_Mo_62 (pc := 19) G x dd_Mo_count_19 R_N0.2.2 ?_
      rw [show mm_i N0 7 0 mo = 0 from t_N0]
      refine vv_if_eq (pc := 22) x dd_Mo_count_22 (tgt := 29) (by decide) (fun h22 => ?_) (fun h22 => absurd h22 (fun z => z rfl))
      refine vv_iload_n (pc := 29) x dd_Mo_count_29 rfl ?_
      refine vv_if_ne (pc := 30) x dd_Mo_count_30 (tgt := 40) (by decide) (fun h30 => absurd h30 (fun z => z rfl)) (fun h30 => ?_)
      refine vv_aload_n (pc := 33) x dd_Mo_count_33 rfl ?_
      refine lg_Mo_114 (pc := 34) G x dd_Mo_count_34 R_N0.2.2 ?_
      refine vv_goto (pc := 37) x dd_Mo_count_37 (tgt := 80) (by decide) ?_
      rw [show mm_i N0 7 3 mo = nI Z.1.length from h_N0.2.1.2.2.1]
      exact vv_iret (pc := 80) x dd_Mo_count_80 rfl (by decide) (by decide) ⟨F_N0, Or.inl ⟨by decide, rfl, t_N0, h_N0⟩⟩
    · subst hw
      refine vv_aload_n (pc := 0) x dd_Mo_count_0 rfl ?_
      refine vv_iload_n (pc := 1) x dd_Mo_count_1 rfl ?_
      refine vv_if_lt (pc := 2) x dd_Mo_count_2 (tgt := 10) (by decide) (fun h2 => absurd h2 (by decide)) (fun h2 => ?_)
      refine vv_iload_n (pc := 5) x dd_Mo_count_5 rfl ?_
      refine vv_iconst (pc := 6) x dd_Mo_count_6 (4) (by decide) ?_
      refine vv_icmp_le (pc := 7) x dd_Mo_count_7 (tgt := 14) (by decide) (fun h7 => ?_) (fun h7 => absurd h7 (fun z => z (by decide)))
      refine vv_iconst (pc := 14) x dd_Mo_count_14 (0) (by decide) ?_
      refine lp_Mo_62 (pc := 15) G x dd_Mo_count_15 R.2.2 ?_
      have F_N0 : rx RI9 RA mo M (mi M mo 0 0) := rx_mi.mono (by decide) (by simp)
      have t_N0 : ri (mi M mo 0 0) mo 0 = 0 := ri_mi
      have h_N0 : MI pw D ow sl (mi M mo 0 0) mo pl Z := MI_scr h (rx_mi.mono (by decide) (by simp))
      rw [show mm_si M 7 0 mo 0 = mi M mo 0 0 from rfl]
      generalize mi M mo 0 0 = N0 at *
      have R_N0 := h_N0.1
      refine vv_aload_n (pc := 18) x dd_Mo_count_18 rfl ?_
      refine lg_Mo_62 (pc := 19) G x dd_Mo_count_19 R_N0.2.2 ?_
      rw [show mm_i N0 7 0 mo = 0 from t_N0]
      refine vv_if_eq (pc := 22) x dd_Mo_count_22 (tgt := 29) (by decide) (fun h22 => ?_) (fun h22 => absurd h22 (fun z => z rfl))
      refine vv_iload_n (pc := 29) x dd_Mo_count_29 rfl ?_
      refine vv_if_ne (pc := 30) x dd_Mo_count_30 (tgt := 40) (by decide) (fun h30 => ?_) (fun h30 => absurd h30 (by decide))
      refine vv_iload_n (pc := 40) x dd_Mo_count_40 rfl ?_
      refine vv_iconst (pc := 41) x dd_Mo_count_41 (1) (by decide) ?_
      refine vv_icmp_ne (pc := 42) x dd_Mo_count_42 (tgt := 52) (by decide) (fun h42 => absurd h42 (fun z => z rfl)) (fun h42 => ?_)
      refine vv_aload_n (pc := 45) x dd_Mo_count_45 rfl ?_
      refine lv_Mo_110 (pc := 46) G x dd_Mo_count_46 (R_free G h_N0 hZ.2.2.2.2.2.2 hnm) R_N0.2.2 ⟨by decide, by decide⟩ (by decide) (by decide) (Nat.le_of_ble_eq_true rfl) (fun v46 M46 q46 => ?_)
      obtain ⟨rfl, hm46⟩ := q46
      have hm46 := hm46.symm
      subst hm46
      refine vv_goto (pc := 49) x dd_Mo_count_49 (tgt := 80) (by decide) ?_
      exact vv_iret (pc := 80) x dd_Mo_count_80 rfl (by decide) (by decide) ⟨F_N0, Or.inl ⟨by decide, rfl, t_N0, h_N0⟩⟩
    · subst hw
      refine vv_aload_n (pc := 0) x dd_Mo_count_0 rfl ?_
      refine vv_iload_n (pc := 1) x dd_Mo_count_1 rfl ?_
      refine vv_if_lt (pc := 2) x dd_Mo_count_2 (tgt := 10) (by decide) (fun h2 => absurd h2 (by decide)) (fun h2 => ?_)
      refine vv_iload_n (pc := 5) x dd_Mo_count_5 rfl ?_
      refine vv_iconst (pc := 6) x dd_Mo_count_6 (4) (by decide) ?_
      refine vv_icmp_le (pc := 7) x dd_Mo_count_7 (tgt := 14) (by decide) (fun h7 => ?_) (fun h7 => absurd h7 (fun z => z (by decide)))
      refine vv_iconst (pc := 14) x dd_Mo_count_14 (0) (by decide) ?_
      refine lp_Mo_62 (pc := 15) G x dd_Mo_count_15 R.2.2 ?_
      have F_N0 : rx RI9 RA mo M (mi M mo 0 0) := rx_mi.mono (by decide) (by simp)
      have t_N0 : ri (mi M mo 0 0) mo 0 = 0 := ri_mi
      have h_N0 : MI pw D ow sl (mi M mo 0 0) mo pl Z := MI_scr h (rx_mi.mono (by decide) (by simp))
      rw [show mm_si M 7 0 mo 0 = mi M mo 0 0 from rfl]
      generalize mi M mo 0 0 = N0 at *
      have R_N0 := h_N0.1
      refine vv_aload_n (pc := 18) x dd_Mo_count_18 rfl ?_
      refine lg_Mo_62 (pc := 19) G x dd_Mo_count_19 R_N0.2.2 ?_
      rw [show mm_i N0 7 0 mo = 0 from t_N0]
      refine vv_if_eq (pc := 22) x dd_Mo_count_22 (tgt := 29) (by decide) (fun h22 => ?_) (fun h22 => absurd h22 (fun z => z rfl))
      refine vv_iload_n (pc := 29) x dd_Mo_count_29 rfl ?_
      refine vv_if_ne (pc := 30) x dd_Mo_count_30 (tgt := 40) (by decide) (fun h30 => ?_) (fun h30 => absurd h30 (by decide))
      refine vv_iload_n (pc := 40) x dd_Mo_count_40 rfl ?_
      refine vv_iconst (pc := 41) x dd_Mo_count_41 (1) (by decide) ?_
      refine vv_icmp_ne (pc := 42) x dd_Mo_count_42 (tgt := 52) (by decide) (fun h42 => ?_) (fun h42 => absurd h42 (by decide))
      refine vv_iload_n (pc := 52) x dd_Mo_count_52 rfl ?_
      refine vv_iconst (pc := 53) x dd_Mo_count_53 (2) (by decide) ?_
      refine vv_icmp_ne (pc := 54) x dd_Mo_count_54 (tgt := 64) (by decide) (fun h54 => absurd h54 (fun z => z rfl)) (fun h54 => ?_)
      refine vv_aload_n (pc := 57) x dd_Mo_count_57 rfl ?_
      refine lg_Mo_65 (pc := 58) G x dd_Mo_count_58 R_N0.2.2 ?_
      refine vv_goto (pc := 61) x dd_Mo_count_61 (tgt := 80) (by decide) ?_
      rw [show mm_i N0 7 13 mo = nI Z.2.1.2.1 from h_N0.2.2.2.2.2.1]
      exact vv_iret (pc := 80) x dd_Mo_count_80 rfl (by decide) (by decide) ⟨F_N0, Or.inl ⟨by decide, rfl, t_N0, h_N0⟩⟩
    · subst hw
      refine vv_aload_n (pc := 0) x dd_Mo_count_0 rfl ?_
      refine vv_iload_n (pc := 1) x dd_Mo_count_1 rfl ?_
      refine vv_if_lt (pc := 2) x dd_Mo_count_2 (tgt := 10) (by decide) (fun h2 => absurd h2 (by decide)) (fun h2 => ?_)
      refine vv_iload_n (pc := 5) x dd_Mo_count_5 rfl ?_
      refine vv_iconst (pc := 6) x dd_Mo_count_6 (4) (by decide) ?_
      refine vv_icmp_le (pc := 7) x dd_Mo_count_7 (tgt := 14) (by decide) (fun h7 => ?_) (fun h7 => absurd h7 (fun z => z (by decide)))
      refine vv_iconst (pc := 14) x dd_Mo_count_14 (0) (by decide) ?_
      refine lp_Mo_62 (pc := 15) G x dd_Mo_count_15 R.2.2 ?_
      have F_N0 : rx RI9 RA mo M (mi M mo 0 0) := rx_mi.mono (by decide) (by simp)
      have t_N0 : ri (mi M mo 0 0) mo 0 = 0 := ri_mi
      have h_N0 : MI pw D ow sl (mi M mo 0 0) mo pl Z := MI_scr h (rx_mi.mono (by decide) (by simp))
      rw [show mm_si M 7 0 mo 0 = mi M mo 0 0 from rfl]
      generalize mi M mo 0 0 = N0 at *
      have R_N0 := h_N0.1
      refine vv_aload_n (pc := 18) x dd_Mo_count_18 rfl ?_
      refine lg_Mo_62 (pc := 19) G x dd_Mo_count_19 R_N0.2.2 ?_
      rw [show mm_i N0 7 0 mo = 0 from t_N0]
      refine vv_if_eq (pc := 22) x dd_Mo_count_22 (tgt := 29) (by decide) (fun h22 => ?_) (fun h22 => absurd h22 (fun z => z rfl))
      refine vv_iload_n (pc := 29) x dd_Mo_count_29 rfl ?_
      refine vv_if_ne (pc := 30) x dd_Mo_count_30 (tgt := 40) (by decide) (fun h30 => ?_) (fun h30 => absurd h30 (by decide))
      refine vv_iload_n (pc := 40) x dd_Mo_count_40 rfl ?_
      refine vv_iconst (pc := 41) x dd_Mo_count_41 (1) (by decide) ?_
      refine vv_icmp_ne (pc := 42) x dd_Mo_count_42 (tgt := 52) (by decide) (fun h42 => ?_) (fun h42 => absurd h42 (by decide))
      refine vv_iload_n (pc := 52) x dd_Mo_count_52 rfl ?_
      refine vv_iconst (pc := 53) x dd_Mo_count_53 (2) (by decide) ?_
      refine vv_icmp_ne (pc := 54) x dd_Mo_count_54 (tgt := 64) (by decide) (fun h54 => ?_) (fun h54 => absurd h54 (by decide))
      refine vv_iload_n (pc := 64) x dd_Mo_count_64 rfl ?_
      refine vv_iconst (pc := 65) x dd_Mo_count_65 (3) (by decide) ?_
      refine vv_icmp_ne (pc := 66) x dd_Mo_count_66 (tgt := 76) (by decide) (fun h66 => absurd h66 (fun z => z rfl)) (fun h66 => ?_)
      refine vv_aload_n (pc := 69) x dd_Mo_count_69 rfl ?_
      refine lg_Mo_117 (pc := 70) G x dd_Mo_count_70 R_N0.2.2 ?_
      refine vv_goto (pc := 73) x dd_Mo_count_73 (tgt := 80) (by decide) ?_
      rw [show mm_i N0 7 2 mo = nI Z.2.2.1 from h_N0.2.1.2.1]
      exact vv_iret (pc := 80) x dd_Mo_count_80 rfl (by decide) (by decide) ⟨F_N0, Or.inl ⟨by decide, rfl, t_N0, h_N0⟩⟩
    · subst hw
      refine vv_aload_n (pc := 0) x dd_Mo_count_0 rfl ?_
      refine vv_iload_n (pc := 1) x dd_Mo_count_1 rfl ?_
      refine vv_if_lt (pc := 2) x dd_Mo_count_2 (tgt := 10) (by decide) (fun h2 => absurd h2 (by decide)) (fun h2 => ?_)
      refine vv_iload_n (pc := 5) x dd_Mo_count_5 rfl ?_
      refine vv_iconst (pc := 6) x dd_Mo_count_6 (4) (by decide) ?_
      refine vv_icmp_le (pc := 7) x dd_Mo_count_7 (tgt := 14) (by decide) (fun h7 => ?_) (fun h7 => absurd h7 (fun z => z (by decide)))
      refine vv_iconst (pc := 14) x dd_Mo_count_14 (0) (by decide) ?_
      refine lp_Mo_62 (pc := 15) G x dd_Mo_count_15 R.2.2 ?_
      have F_N0 : rx RI9 RA mo M (mi M mo 0 0) := rx_mi.mono (by decide) (by simp)
      have t_N0 : ri (mi M mo 0 0) mo 0 = 0 := ri_mi
      have h_N0 : MI pw D ow sl (mi M mo 0 0) mo pl Z := MI_scr h (rx_mi.mono (by decide) (by simp))
      rw [show mm_si M 7 0 mo 0 = mi M mo 0 0 from rfl]
      generalize mi M mo 0 0 = N0 at *
      have R_N0 := h_N0.1
      refine vv_aload_n (pc := 18) x dd_Mo_count_18 rfl ?_
      refine lg_Mo_62 (pc := 19) G x dd_Mo_count_19 R_N0.2.2 ?_
      rw [show mm_i N0 7 0 mo = 0 from t_N0]
      refine vv_if_eq (pc := 22) x dd_Mo_count_22 (tgt := 29) (by decide) (fun h22 => ?_) (fun h22 => absurd h22 (fun z => z rfl))
      refine vv_iload_n (pc := 29) x dd_Mo_count_29 rfl ?_
      refine vv_if_ne (pc := 30) x dd_Mo_count_30 (tgt := 40) (by decide) (fun h30 => ?_) (fun h30 => absurd h30 (by decide))
      refine vv_iload_n (pc := 40) x dd_Mo_count_40 rfl ?_
      refine vv_iconst (pc := 41) x dd_Mo_count_41 (1) (by decide) ?_
      refine vv_icmp_ne (pc := 42) x dd_Mo_count_42 (tgt := 52) (by decide) (fun h42 => ?_) (fun h42 => absurd h42 (by decide))
      refine vv_iload_n (pc := 52) x dd_Mo_count_52 rfl ?_
      refine vv_iconst (pc := 53) x dd_Mo_count_53 (2) (by decide) ?_
      refine vv_icmp_ne (pc := 54) x dd_Mo_count_54 (tgt := 64) (by decide) (fun h54 => ?_) (fun h54 => absurd h54 (by decide))
      refine vv_iload_n (pc := 64) x dd_Mo_count_64 rfl ?_
      refine vv_iconst (pc := 65) x dd_Mo_count_65 (3) (by decide) ?_
      refine vv_icmp_ne (pc := 66) x dd_Mo_count_66 (tgt := 76) (by decide) (fun h66 => ?_) (fun h66 => absurd h66 (by decide))
      refine vv_aload_n (pc := 76) x dd_Mo_count_76 rfl ?_
      refine lg_Mo_93 (pc := 77) G x dd_Mo_count_77 R_N0.2.2 ?_
      rw [show mm_i N0 7 4 mo = nI Z.2.2.2 from h_N0.2.1.2.2.2]
      exact vv_iret (pc := 80) x dd_Mo_count_80 rfl (by decide) (by decide) ⟨F_N0, Or.inl ⟨by decide, rfl, t_N0, h_N0⟩⟩
  · by_cases h1c : wq < 0
    · refine vv_aload_n (pc := 0) x dd_Mo_count_0 rfl ?_
      refine vv_iload_n (pc := 1) x dd_Mo_count_1 rfl ?_
      refine vv_if_lt (pc := 2) x dd_Mo_count_2 (tgt := 10) (by decide) (fun h2 => ?_) (fun h2 => absurd h2 (fun z => z h1c))
      refine vv_iconst (pc := 10) x dd_Mo_count_10 (1) (by decide) ?_
      refine vv_goto (pc := 11) x dd_Mo_count_11 (tgt := 15) (by decide) ?_
      refine lp_Mo_62 (pc := 15) G x dd_Mo_count_15 R.2.2 ?_
      have F_N0 : rx RI9 RA mo M (mi M mo 0 1) := rx_mi.mono (by decide) (by simp)
      have t_N0 : ri (mi M mo 0 1) mo 0 = 1 := ri_mi
      have h_N0 : MI pw D ow sl (mi M mo 0 1) mo pl Z := MI_scr h (rx_mi.mono (by decide) (by simp))
      rw [show mm_si M 7 0 mo 1 = mi M mo 0 1 from rfl]
      generalize mi M mo 0 1 = N0 at *
      have R_N0 := h_N0.1
      refine vv_aload_n (pc := 18) x dd_Mo_count_18 rfl ?_
      refine lg_Mo_62 (pc := 19) G x dd_Mo_count_19 R_N0.2.2 ?_
      rw [show mm_i N0 7 0 mo = 1 from t_N0]
      refine vv_if_eq (pc := 22) x dd_Mo_count_22 (tgt := 29) (by decide) (fun h22 => absurd h22 (by decide)) (fun h22 => ?_)
      refine vv_iconst (pc := 25) x dd_Mo_count_25 (0) (by decide) ?_
      refine vv_goto (pc := 26) x dd_Mo_count_26 (tgt := 80) (by decide) ?_
      exact vv_iret (pc := 80) x dd_Mo_count_80 rfl (by decide) (by decide) ⟨F_N0, Or.inr ⟨hc, ⟨_, rfl⟩, t_N0, h_N0⟩⟩
    · refine vv_aload_n (pc := 0) x dd_Mo_count_0 rfl ?_
      refine vv_iload_n (pc := 1) x dd_Mo_count_1 rfl ?_
      refine vv_if_lt (pc := 2) x dd_Mo_count_2 (tgt := 10) (by decide) (fun h2 => absurd h2 h1c) (fun h2 => ?_)
      refine vv_iload_n (pc := 5) x dd_Mo_count_5 rfl ?_
      refine vv_iconst (pc := 6) x dd_Mo_count_6 (4) (by decide) ?_
      refine vv_icmp_le (pc := 7) x dd_Mo_count_7 (tgt := 14) (by decide) (fun h7 => absurd h7 (fun z => hc (in4 h1c z))) (fun h7 => ?_)
      refine vv_iconst (pc := 10) x dd_Mo_count_10 (1) (by decide) ?_
      refine vv_goto (pc := 11) x dd_Mo_count_11 (tgt := 15) (by decide) ?_
      refine lp_Mo_62 (pc := 15) G x dd_Mo_count_15 R.2.2 ?_
      have F_N0 : rx RI9 RA mo M (mi M mo 0 1) := rx_mi.mono (by decide) (by simp)
      have t_N0 : ri (mi M mo 0 1) mo 0 = 1 := ri_mi
      have h_N0 : MI pw D ow sl (mi M mo 0 1) mo pl Z := MI_scr h (rx_mi.mono (by decide) (by simp))
      rw [show mm_si M 7 0 mo 1 = mi M mo 0 1 from rfl]
      generalize mi M mo 0 1 = N0 at *
      have R_N0 := h_N0.1
      refine vv_aload_n (pc := 18) x dd_Mo_count_18 rfl ?_
      refine lg_Mo_62 (pc := 19) G x dd_Mo_count_19 R_N0.2.2 ?_
      rw [show mm_i N0 7 0 mo = 1 from t_N0]
      refine vv_if_eq (pc := 22) x dd_Mo_count_22 (tgt := 29) (by decide) (fun h22 => absurd h22 (by decide)) (fun h22 => ?_)
      refine vv_iconst (pc := 25) x dd_Mo_count_25 (0) (by decide) ?_
      refine vv_goto (pc := 26) x dd_Mo_count_26 (tgt := 80) (by decide) ?_
      exact vv_iret (pc := 80) x dd_Mo_count_80 rfl (by decide) (by decide) ⟨F_N0, Or.inr ⟨hc, ⟨_, rfl⟩, t_N0, h_N0⟩⟩
set_option maxRecDepth 100000 in
set_option maxHeartbeats 1000000 in
theorem R_of (G : gc g X t0 l) (h : MI pw D ow sl M mo pl Z) (hZ : zok pw Z) (hp6 : pw ≤ 600) (hlat : Z.2.2.1 < 2 ^ 31) (hml : ∀ P ∈ Z.1, P.2.2.2.1.length ≤ 512) {xv : Int32} (k9 : Nat) (hk9 : plc Z xv = k9) {wq : Int32} : Ok g X l yy_Mo_of cc_Mo_of 4 (some .int) 1 22 0 0 [.ref mo, .int xv, .int wq] M (fun v M' => rx RI9 RA mo M M' ∧ ((k9 < Z.1.length ∧ (wq = 0 ∨ wq = 1 ∨ wq = 2) ∧ v = some (.int (if wq = 0 then nI (zget Z k9).2.1 else if wq = 1 then nI (hsz (zget Z k9).2.2.2.2) else nI (zget Z k9).2.2.2.1.length)) ∧ ri M' mo 0 = 0 ∧ MI pw D ow sl M' mo pl Z) ∨ (¬ k9 < Z.1.length ∧ (∃ z, v = some (.int z)) ∧ ri M' mo 0 = 1 ∧ MI pw D ow sl M' mo pl Z) ∨ (k9 < Z.1.length ∧ ¬ (wq = 0 ∨ wq = 1 ∨ wq = 2) ∧ (∃ z, v = some (.int z)) ∧ ri M' mo 0 = 2 ∧ MI pw D ow sl M' mo pl Z))) := by
  refine ok_start (by decide) (Nat.le_of_ble_eq_true rfl) (by simp [Value.category]) ?_
  intro p e s m args below meth c9 x
  have R := h.1
  have hnm := znm hZ hlat
  have h8z := hZ.2.1
  by_cases hk : k9 < Z.1.length
  · have hp8 : pl.getD k9 0 < 8 := h.2.2.1.2.2 _ (getD_memN (by have := h.2.2.1.1; omega))
    have hho := zho hZ hml
    obtain ⟨⟨a1, a2, a3⟩, a4, ⟨a5, a6⟩, a7, a8⟩ := h.2.2.2.1 k9 hk
    have kk := hZ.1 _ (zget_mem hk)
    have h600 := kk.2.1.1
    have hml9 := hml _ (zget_mem hk)
    have hcp : (nI (pl.getD k9 0)).toNatClampNeg = pl.getD k9 0 := nI_clamp (by omega)
    by_cases hc : wq = 0 ∨ wq = 1 ∨ wq = 2
    · rcases hc with hw | hw | hw
      · subst hw
        refine vv_aload_n (pc := 0) x dd_Mo_of_0 rfl ?_
        refine vv_iload_n (pc := 1) x dd_Mo_of_1 rfl ?_
        refine lv_Mo_120 (pc := 2) G x dd_Mo_of_2 (R_place G h hZ.2.2.1 hnm k9 hk9) R.2.2 ⟨by decide, by decide⟩ (by decide) (by decide) (Nat.le_of_ble_eq_true rfl) (fun v2 M2 q2 => ?_)
        obtain ⟨rfl, hm2⟩ := q2
        have hm2 := hm2.symm
        subst hm2
        rw [show (if k9 < Z.1.length then nI (pl.getD k9 0) else (-1 : Int32)) = nI (pl.getD k9 0) from if_pos hk]
        refine vv_istore_n (pc := 5) x dd_Mo_of_5 (by decide) (ls2 := [_, _, _, _]) rfl ?_
        refine vv_aload_n (pc := 6) x dd_Mo_of_6 rfl ?_
        refine vv_iload_n (pc := 7) x dd_Mo_of_7 rfl ?_
        refine vv_if_ge (pc := 8) x dd_Mo_of_8 (tgt := 15) (by decide) (fun h8 => ?_) (fun h8 => absurd h8 (fun z => z (nI_pos' (by omega))))
        refine vv_iload_n (pc := 15) x dd_Mo_of_15 rfl ?_
        refine vv_if_lt (pc := 16) x dd_Mo_of_16 (tgt := 24) (by decide) (fun h16 => absurd h16 (by decide)) (fun h16 => ?_)
        refine vv_iload_n (pc := 19) x dd_Mo_of_19 rfl ?_
        refine vv_iconst (pc := 20) x dd_Mo_of_20 (2) (by decide) ?_
        refine vv_icmp_le (pc := 21) x dd_Mo_of_21 (tgt := 28) (by decide) (fun h21 => ?_) (fun h21 => absurd h21 (fun z => z (by decide)))
        refine vv_iconst (pc := 28) x dd_Mo_of_28 (0) (by decide) ?_
        refine lp_Mo_62 (pc := 29) G x dd_Mo_of_29 R.2.2 ?_
        have F_N0 : rx RI9 RA mo M (mi M mo 0 0) := rx_mi.mono (by decide) (by simp)
        have t_N0 : ri (mi M mo 0 0) mo 0 = 0 := ri_mi
        have h_N0 : MI pw D ow sl (mi M mo 0 0) mo pl Z := MI_scr h (rx_mi.mono (by decide) (by simp))
        rw [show mm_si M 7 0 mo 0 = mi M mo 0 0 from rfl]
        generalize mi M mo 0 0 = N0 at *
        have R_N0 := h_N0.1
        refine vv_aload_n (pc := 32) x dd_Mo_of_32 rfl ?_
        refine lg_Mo_62 (pc := 33) G x dd_Mo_of_33 R_N0.2.2 ?_
        rw [show mm_i N0 7 0 mo = 0 from t_N0]
        refine vv_if_eq (pc := 36) x dd_Mo_of_36 (tgt := 43) (by decide) (fun h36 => ?_) (fun h36 => absurd h36 (fun z => z rfl))
        refine vv_iload_n (pc := 43) x dd_Mo_of_43 rfl ?_
        refine vv_if_ne (pc := 44) x dd_Mo_of_44 (tgt := 56) (by decide) (fun h44 => absurd h44 (fun z => z rfl)) (fun h44 => ?_)
        refine vv_aload_n (pc := 47) x dd_Mo_of_47 rfl ?_
        refine lg_Mo_13 (pc := 48) G x dd_Mo_of_48 R_N0.2.2 (R_N0.r 6 (by decide)) ?_
        refine vv_iload_n (pc := 51) x dd_Mo_of_51 rfl ?_
        refine vv_iald (pc := 52) x dd_Mo_of_52 (R_N0.t 6 (by decide)) (in_n (N := 8) (by omega) (R_N0.n 6 (by decide)) (by decide)) ?_
        rw [hcp, show mm_a N0 (mm_f N0 7 6 mo) (pl.getD k9 0) = nI ((zget Z k9).2.1) from (h_N0.2.2.2.1 k9 hk).1.2.1]
        refine vv_goto (pc := 53) x dd_Mo_of_53 (tgt := 76) (by decide) ?_
        exact vv_iret (pc := 76) x dd_Mo_of_76 rfl (by decide) (by decide) ⟨F_N0, Or.inl ⟨hk, by decide, rfl, t_N0, h_N0⟩⟩
      · subst hw
        refine vv_aload_n (pc := 0) x dd_Mo_of_0 rfl ?_
        refine vv_iload_n (pc := 1) x dd_Mo_of_1 rfl ?_
        refine lv_Mo_120 (pc := 2) G x dd_Mo_of_2 (R_place G h hZ.2.2.1 hnm k9 hk9) R.2.2 ⟨by decide, by decide⟩ (by decide) (by decide) (Nat.le_of_ble_eq_true rfl) (fun v2 M2 q2 => ?_)
        obtain ⟨rfl, hm2⟩ := q2
        have hm2 := hm2.symm
        subst hm2
        rw [show (if k9 < Z.1.length then nI (pl.getD k9 0) else (-1 : Int32)) = nI (pl.getD k9 0) from if_pos hk]
        refine vv_istore_n (pc := 5) x dd_Mo_of_5 (by decide) (ls2 := [_, _, _, _]) rfl ?_
        refine vv_aload_n (pc := 6) x dd_Mo_of_6 rfl ?_
        refine vv_iload_n (pc := 7) x dd_Mo_of_7 rfl ?_
        refine vv_if_ge (pc := 8) x dd_Mo_of_8 (tgt := 15) (by decide) (fun h8 => ?_) (fun h8 => absurd h8 (fun z => z (nI_pos' (by omega))))
        refine vv_iload_n (pc := 15) x dd_Mo_of_15 rfl ?_
        refine vv_if_lt (pc := 16) x dd_Mo_of_16 (tgt := 24) (by decide) (fun h16 => absurd h16 (by decide)) (fun h16 => ?_)
        refine vv_iload_n (pc := 19) x dd_Mo_of_19 rfl ?_
        refine vv_iconst (pc := 20) x dd_Mo_of_20 (2) (by decide) ?_
        refine vv_icmp_le (pc := 21) x dd_Mo_of_21 (tgt := 28) (by decide) (fun h21 => ?_) (fun h21 => absurd h21 (fun z => z (by decide)))
        refine vv_iconst (pc := 28) x dd_Mo_of_28 (0) (by decide) ?_
        refine lp_Mo_62 (pc := 29) G x dd_Mo_of_29 R.2.2 ?_
        have F_N0 : rx RI9 RA mo M (mi M mo 0 0) := rx_mi.mono (by decide) (by simp)
        have t_N0 : ri (mi M mo 0 0) mo 0 = 0 := ri_mi
        have h_N0 : MI pw D ow sl (mi M mo 0 0) mo pl Z := MI_scr h (rx_mi.mono (by decide) (by simp))
        rw [show mm_si M 7 0 mo 0 = mi M mo 0 0 from rfl]
        generalize mi M mo 0 0 = N0 at *
        have R_N0 := h_N0.1
        refine vv_aload_n (pc := 32) x dd_Mo_of_32 rfl ?_
        refine lg_Mo_62 (pc := 33) G x dd_Mo_of_33 R_N0.2.2 ?_
        rw [show mm_i N0 7 0 mo = 0 from t_N0]
        refine vv_if_eq (pc := 36) x dd_Mo_of_36 (tgt := 43) (by decide) (fun h36 => ?_) (fun h36 => absurd h36 (fun z => z rfl))
        refine vv_iload_n (pc := 43) x dd_Mo_of_43 rfl ?_
        refine vv_if_ne (pc := 44) x dd_Mo_of_44 (tgt := 56) (by decide) (fun h44 => ?_) (fun h44 => absurd h44 (by decide))
        refine vv_iload_n (pc := 56) x dd_Mo_of_56 rfl ?_
        refine vv_iconst (pc := 57) x dd_Mo_of_57 (1) (by decide) ?_
        refine vv_icmp_ne (pc := 58) x dd_Mo_of_58 (tgt := 70) (by decide) (fun h58 => absurd h58 (fun z => z rfl)) (fun h58 => ?_)
        refine vv_aload_n (pc := 61) x dd_Mo_of_61 rfl ?_
        refine lg_Mo_16 (pc := 62) G x dd_Mo_of_62 R_N0.2.2 (R_N0.r 7 (by decide)) ?_
        refine vv_iload_n (pc := 65) x dd_Mo_of_65 rfl ?_
        refine vv_iald (pc := 66) x dd_Mo_of_66 (R_N0.t 7 (by decide)) (in_n (N := 8) (by omega) (R_N0.n 7 (by decide)) (by decide)) ?_
        rw [hcp, show mm_a N0 (mm_f N0 7 7 mo) (pl.getD k9 0) = nI (hsz (zget Z k9).2.2.2.2) from (h_N0.2.2.2.1 k9 hk).1.2.2]
        refine vv_goto (pc := 67) x dd_Mo_of_67 (tgt := 76) (by decide) ?_
        exact vv_iret (pc := 76) x dd_Mo_of_76 rfl (by decide) (by decide) ⟨F_N0, Or.inl ⟨hk, by decide, rfl, t_N0, h_N0⟩⟩
      · subst hw
        refine vv_aload_n (pc := 0) x dd_Mo_of_0 rfl ?_
        refine vv_iload_n (pc := 1) x dd_Mo_of_1 rfl ?_
        refine lv_Mo_120 (pc := 2) G x dd_Mo_of_2 (R_place G h hZ.2.2.1 hnm k9 hk9) R.2.2 ⟨by decide, by decide⟩ (by decide) (by decide) (Nat.le_of_ble_eq_true rfl) (fun v2 M2 q2 => ?_)
        obtain ⟨rfl, hm2⟩ := q2
        have hm2 := hm2.symm
        subst hm2
        rw [show (if k9 < Z.1.length then nI (pl.getD k9 0) else (-1 : Int32)) = nI (pl.getD k9 0) from if_pos hk]
        refine vv_istore_n (pc := 5) x dd_Mo_of_5 (by decide) (ls2 := [_, _, _, _]) rfl ?_
        refine vv_aload_n (pc := 6) x dd_Mo_of_6 rfl ?_
        refine vv_iload_n (pc := 7) x dd_Mo_of_7 rfl ?_
        refine vv_if_ge (pc := 8) x dd_Mo_of_8 (tgt := 15) (by decide) (fun h8 => ?_) (fun h8 => absurd h8 (fun z => z (nI_pos' (by omega))))
        refine vv_iload_n (pc := 15) x dd_Mo_of_15 rfl ?_
        refine vv_if_lt (pc := 16) x dd_Mo_of_16 (tgt := 24) (by decide) (fun h16 => absurd h16 (by decide)) (fun h16 => ?_)
        refine vv_iload_n (pc := 19) x dd_Mo_of_19 rfl ?_
        refine vv_iconst (pc := 20) x dd_Mo_of_20 (2) (by decide) ?_
        refine vv_icmp_le (pc := 21) x dd_Mo_of_21 (tgt := 28) (by decide) (fun h21 => ?_) (fun h21 => absurd h21 (fun z => z (by decide)))
        refine vv_iconst (pc := 28) x dd_Mo_of_28 (0) (by decide) ?_
        refine lp_Mo_62 (pc := 29) G x dd_Mo_of_29 R.2.2 ?_
        have F_N0 : rx RI9 RA mo M (mi M mo 0 0) := rx_mi.mono (by decide) (by simp)
        have t_N0 : ri (mi M mo 0 0) mo 0 = 0 := ri_mi
        have h_N0 : MI pw D ow sl (mi M mo 0 0) mo pl Z := MI_scr h (rx_mi.mono (by decide) (by simp))
        rw [show mm_si M 7 0 mo 0 = mi M mo 0 0 from rfl]
        generalize mi M mo 0 0 = N0 at *
        have R_N0 := h_N0.1
        refine vv_aload_n (pc := 32) x dd_Mo_of_32 rfl ?_
        refine lg_Mo_62 (pc := 33) G x dd_Mo_of_33 R_N0.2.2 ?_
        rw [show mm_i N0 7 0 mo = 0 from t_N0]
        refine vv_if_eq (pc := 36) x dd_Mo_of_36 (tgt := 43) (by decide) (fun h36 => ?_) (fun h36 => absurd h36 (fun z => z rfl))
        refine vv_iload_n (pc := 43) x dd_Mo_of_43 rfl ?_
        refine vv_if_ne (pc := 44) x dd_Mo_of_44 (tgt := 56) (by decide) (fun h44 => ?_) (fun h44 => absurd h44 (by decide))
        refine vv_iload_n (pc := 56) x dd_Mo_of_56 rfl ?_
        refine vv_iconst (pc := 57) x dd_Mo_of_57 (1) (by decide) ?_
        refine vv_icmp_ne (pc := 58) x dd_Mo_of_58 (tgt := 70) (by decide) (fun h58 => ?_) (fun h58 => absurd h58 (by decide))
        refine vv_aload_n (pc := 70) x dd_Mo_of_70 rfl ?_
        refine lg_Mo_22 (pc := 71) G x dd_Mo_of_71 R_N0.2.2 (R_N0.r 9 (by decide)) ?_
        refine vv_iload_n (pc := 74) x dd_Mo_of_74 rfl ?_
        refine vv_iald (pc := 75) x dd_Mo_of_75 (R_N0.t 9 (by decide)) (in_n (N := 8) (by omega) (R_N0.n 9 (by decide)) (by decide)) ?_
        rw [hcp, show mm_a N0 (mm_f N0 7 9 mo) (pl.getD k9 0) = nI ((zget Z k9).2.2.2.1.length) from (h_N0.2.2.2.1 k9 hk).2.2.1.1]
        exact vv_iret (pc := 76) x dd_Mo_of_76 rfl (by decide) (by decide) ⟨F_N0, Or.inl ⟨hk, by decide, rfl, t_N0, h_N0⟩⟩
    · by_cases h1c : wq < 0
      · refine vv_aload_n (pc := 0) x dd_Mo_of_0 rfl ?_
        refine vv_iload_n (pc := 1) x dd_Mo_of_1 rfl ?_
        refine lv_Mo_120 (pc := 2) G x dd_Mo_of_2 (R_place G h hZ.2.2.1 hnm k9 hk9) R.2.2 ⟨by decide, by decide⟩ (by decide) (by decide) (Nat.le_of_ble_eq_true rfl) (fun v2 M2 q2 => ?_)
        obtain ⟨rfl, hm2⟩ := q2
        have hm2 := hm2.symm
        subst hm2
        rw [show (if k9 < Z.1.length then nI (pl.getD k9 0) else (-1 : Int32)) = nI (pl.getD k9 0) from if_pos hk]
        refine vv_istore_n (pc := 5) x dd_Mo_of_5 (by decide) (ls2 := [_, _, _, _]) rfl ?_
        refine vv_aload_n (pc := 6) x dd_Mo_of_6 rfl ?_
        refine vv_iload_n (pc := 7) x dd_Mo_of_7 rfl ?_
        refine vv_if_ge (pc := 8) x dd_Mo_of_8 (tgt := 15) (by decide) (fun h8 => ?_) (fun h8 => absurd h8 (fun z => z (nI_pos' (by omega))))
        refine vv_iload_n (pc := 15) x dd_Mo_of_15 rfl ?_
        refine vv_if_lt (pc := 16) x dd_Mo_of_16 (tgt := 24) (by decide) (fun h16 => ?_) (fun h16 => absurd h16 (fun z => z h1c))
        refine vv_iconst (pc := 24) x dd_Mo_of_24 (2) (by decide) ?_
        refine vv_goto (pc := 25) x dd_Mo_of_25 (tgt := 29) (by decide) ?_
        refine lp_Mo_62 (pc := 29) G x dd_Mo_of_29 R.2.2 ?_
        have F_N0 : rx RI9 RA mo M (mi M mo 0 2) := rx_mi.mono (by decide) (by simp)
        have t_N0 : ri (mi M mo 0 2) mo 0 = 2 := ri_mi
        have h_N0 : MI pw D ow sl (mi M mo 0 2) mo pl Z := MI_scr h (rx_mi.mono (by decide) (by simp))
        rw [show mm_si M 7 0 mo 2 = mi M mo 0 2 from rfl]
        generalize mi M mo 0 2 = N0 at *
        have R_N0 := h_N0.1
        refine vv_aload_n (pc := 32) x dd_Mo_of_32 rfl ?_
        refine lg_Mo_62 (pc := 33) G x dd_Mo_of_33 R_N0.2.2 ?_
        rw [show mm_i N0 7 0 mo = 2 from t_N0]
        refine vv_if_eq (pc := 36) x dd_Mo_of_36 (tgt := 43) (by decide) (fun h36 => absurd h36 (by decide)) (fun h36 => ?_)
        refine vv_iconst (pc := 39) x dd_Mo_of_39 (0) (by decide) ?_
        refine vv_goto (pc := 40) x dd_Mo_of_40 (tgt := 76) (by decide) ?_
        exact vv_iret (pc := 76) x dd_Mo_of_76 rfl (by decide) (by decide) ⟨F_N0, Or.inr (Or.inr ⟨hk, hc, ⟨_, rfl⟩, t_N0, h_N0⟩)⟩
      · refine vv_aload_n (pc := 0) x dd_Mo_of_0 rfl ?_
        refine vv_iload_n (pc := 1) x dd_Mo_of_1 rfl ?_
        refine lv_Mo_120 (pc := 2) G x dd_Mo_of_2 (R_place G h hZ.2.2.1 hnm k9 hk9) R.2.2 ⟨by decide, by decide⟩ (by decide) (by decide) (Nat.le_of_ble_eq_true rfl) (fun v2 M2 q2 => ?_)
        obtain ⟨rfl, hm2⟩ := q2
        have hm2 := hm2.symm
        subst hm2
        rw [show (if k9 < Z.1.length then nI (pl.getD k9 0) else (-1 : Int32)) = nI (pl.getD k9 0) from if_pos hk]
        refine vv_istore_n (pc := 5) x dd_Mo_of_5 (by decide) (ls2 := [_, _, _, _]) rfl ?_
        refine vv_aload_n (pc := 6) x dd_Mo_of_6 rfl ?_
        refine vv_iload_n (pc := 7) x dd_Mo_of_7 rfl ?_
        refine vv_if_ge (pc := 8) x dd_Mo_of_8 (tgt := 15) (by decide) (fun h8 => ?_) (fun h8 => absurd h8 (fun z => z (nI_pos' (by omega))))
        refine vv_iload_n (pc := 15) x dd_Mo_of_15 rfl ?_
        refine vv_if_lt (pc := 16) x dd_Mo_of_16 (tgt := 24) (by decide) (fun h16 => absurd h16 h1c) (fun h16 => ?_)
        refine vv_iload_n (pc := 19) x dd_Mo_of_19 rfl ?_
        refine vv_iconst (pc := 20) x dd_Mo_of_20 (2) (by decide) ?_
        refine vv_icmp_le (pc := 21) x dd_Mo_of_21 (tgt := 28) (by decide) (fun h21 => absurd h21 (fun z => hc (in2 h1c z))) (fun h21 => ?_)
        refine vv_iconst (pc := 24) x dd_Mo_of_24 (2) (by decide) ?_
        refine vv_goto (pc := 25) x dd_Mo_of_25 (tgt := 29) (by decide) ?_
        refine lp_Mo_62 (pc := 29) G x dd_Mo_of_29 R.2.2 ?_
        have F_N0 : rx RI9 RA mo M (mi M mo 0 2) := rx_mi.mono (by decide) (by simp)
        have t_N0 : ri (mi M mo 0 2) mo 0 = 2 := ri_mi
        have h_N0 : MI pw D ow sl (mi M mo 0 2) mo pl Z := MI_scr h (rx_mi.mono (by decide) (by simp))
        rw [show mm_si M 7 0 mo 2 = mi M mo 0 2 from rfl]
        generalize mi M mo 0 2 = N0 at *
        have R_N0 := h_N0.1
        refine vv_aload_n (pc := 32) x dd_Mo_of_32 rfl ?_
        refine lg_Mo_62 (pc := 33) G x dd_Mo_of_33 R_N0.2.2 ?_
        rw [show mm_i N0 7 0 mo = 2 from t_N0]
        refine vv_if_eq (pc := 36) x dd_Mo_of_36 (tgt := 43) (by decide) (fun h36 => absurd h36 (by decide)) (fun h36 => ?_)
        refine vv_iconst (pc := 39) x dd_Mo_of_39 (0) (by decide) ?_
        refine vv_goto (pc := 40) x dd_Mo_of_40 (tgt := 76) (by decide) ?_
        exact vv_iret (pc := 76) x dd_Mo_of_76 rfl (by decide) (by decide) ⟨F_N0, Or.inr (Or.inr ⟨hk, hc, ⟨_, rfl⟩, t_N0, h_N0⟩)⟩
  · refine vv_aload_n (pc := 0) x dd_Mo_of_0 rfl ?_
    refine vv_iload_n (pc := 1) x dd_Mo_of_1 rfl ?_
    refine lv_Mo_120 (pc := 2) G x dd_Mo_of_2 (R_place G h hZ.2.2.1 hnm k9 hk9) R.2.2 ⟨by decide, by decide⟩ (by decide) (by decide) (Nat.le_of_ble_eq_true rfl) (fun v2 M2 q2 => ?_)
    obtain ⟨rfl, hm2⟩ := q2
    have hm2 := hm2.symm
    subst hm2
    rw [show (if k9 < Z.1.length then nI (pl.getD k9 0) else (-1 : Int32)) = -1 from if_neg hk]
    refine vv_istore_n (pc := 5) x dd_Mo_of_5 (by decide) (ls2 := [_, _, _, _]) rfl ?_
    refine vv_aload_n (pc := 6) x dd_Mo_of_6 rfl ?_
    refine vv_iload_n (pc := 7) x dd_Mo_of_7 rfl ?_
    refine vv_if_ge (pc := 8) x dd_Mo_of_8 (tgt := 15) (by decide) (fun h8 => absurd h8 (by decide)) (fun h8 => ?_)
    refine vv_iconst (pc := 11) x dd_Mo_of_11 (1) (by decide) ?_
    refine vv_goto (pc := 12) x dd_Mo_of_12 (tgt := 29) (by decide) ?_
    refine lp_Mo_62 (pc := 29) G x dd_Mo_of_29 R.2.2 ?_
    have F_N0 : rx RI9 RA mo M (mi M mo 0 1) := rx_mi.mono (by decide) (by simp)
    have t_N0 : ri (mi M mo 0 1) mo 0 = 1 := ri_mi
    have h_N0 : MI pw D ow sl (mi M mo 0 1) mo pl Z := MI_scr h (rx_mi.mono (by decide) (by simp))
    rw [show mm_si M 7 0 mo 1 = mi M mo 0 1 from rfl]
    generalize mi M mo 0 1 = N0 at *
    have R_N0 := h_N0.1
    refine vv_aload_n (pc := 32) x dd_Mo_of_32 rfl ?_
    refine lg_Mo_62 (pc := 33) G x dd_Mo_of_33 R_N0.2.2 ?_
    rw [show mm_i N0 7 0 mo = 1 from t_N0]
    refine vv_if_eq (pc := 36) x dd_Mo_of_36 (tgt := 43) (by decide) (fun h36 => absurd h36 (by decide)) (fun h36 => ?_)
    refine vv_iconst (pc := 39) x dd_Mo_of_39 (0) (by decide) ?_
    refine vv_goto (pc := 40) x dd_Mo_of_40 (tgt := 76) (by decide) ?_
    exact vv_iret (pc := 76) x dd_Mo_of_76 rfl (by decide) (by decide) ⟨F_N0, Or.inr (Or.inl ⟨hk, ⟨_, rfl⟩, t_N0, h_N0⟩)⟩
set_option maxRecDepth 100000 in
set_option maxHeartbeats 1000000 in
theorem R_collect (G : gc g X t0 l) (h : MI pw D ow sl M mo pl Z) (hZ : zok pw Z) (hp6 : pw ≤ 600) (hlat : Z.2.2.1 < 2 ^ 31) (hml : ∀ P ∈ Z.1, P.2.2.2.1.length ≤ 512) {xv : Int32} (k9 : Nat) (hk9 : plc Z xv = k9) : Ok g X l yy_Mo_collect cc_Mo_collect 4 (some .int) 6 139 0 0 [.ref mo, .int xv] M (fun v M' => rx RI9 RA mo M M' ∧ ((k9 < Z.1.length ∧ v = some (.int (nI (hsz (zget Z k9).2.2.2.2) - nI (hsz (zget (zcol Z k9) k9).2.2.2.2))) ∧ ri M' mo 0 = 0 ∧ MI pw D ow sl M' mo pl (zcol Z k9)) ∨ (¬ k9 < Z.1.length ∧ (∃ z, v = some (.int z)) ∧ ri M' mo 0 = 1 ∧ MI pw D ow sl M' mo pl Z))) := by
  refine ok_start (by decide) (Nat.le_of_ble_eq_true rfl) (by simp [Value.category]) ?_
  intro p e s m args below meth c9 x
  have R := h.1
  have hnm := znm hZ hlat
  have h8z := hZ.2.1
  by_cases hk : k9 < Z.1.length
  · have hp8 : pl.getD k9 0 < 8 := h.2.2.1.2.2 _ (getD_memN (by have := h.2.2.1.1; omega))
    have hho := zho hZ hml
    obtain ⟨⟨a1, a2, a3⟩, a4, ⟨a5, a6⟩, a7, a8⟩ := h.2.2.2.1 k9 hk
    have kk := hZ.1 _ (zget_mem hk)
    have h600 := kk.2.1.1
    have hml9 := hml _ (zget_mem hk)
    have hcp : (nI (pl.getD k9 0)).toNatClampNeg = pl.getD k9 0 := nI_clamp (by omega)
    refine vv_aload_n (pc := 0) x dd_Mo_collect_0 rfl ?_
    refine vv_iload_n (pc := 1) x dd_Mo_collect_1 rfl ?_
    refine lv_Mo_120 (pc := 2) G x dd_Mo_collect_2 (R_place G h hZ.2.2.1 hnm k9 hk9) R.2.2 ⟨by decide, by decide⟩ (by decide) (by decide) (Nat.le_of_ble_eq_true rfl) (fun v2 M2 q2 => ?_)
    obtain ⟨rfl, hm2⟩ := q2
    have hm2 := hm2.symm
    subst hm2
    rw [show (if k9 < Z.1.length then nI (pl.getD k9 0) else (-1 : Int32)) = nI (pl.getD k9 0) from if_pos hk]
    refine vv_istore_n (pc := 5) x dd_Mo_collect_5 (by decide) (ls2 := [_, _, _, none]) rfl ?_
    refine vv_aload_n (pc := 6) x dd_Mo_collect_6 rfl ?_
    refine vv_iload_n (pc := 7) x dd_Mo_collect_7 rfl ?_
    refine vv_if_ge (pc := 8) x dd_Mo_collect_8 (tgt := 15) (by decide) (fun h8 => ?_) (fun h8 => absurd h8 (fun z => z (nI_pos' (by omega))))
    refine vv_iconst (pc := 15) x dd_Mo_collect_15 (0) (by decide) ?_
    refine lp_Mo_62 (pc := 16) G x dd_Mo_collect_16 R.2.2 ?_
    have F_N0 : rx RI9 RA mo M (mi M mo 0 0) := rx_mi.mono (by decide) (by simp)
    have t_N0 : ri (mi M mo 0 0) mo 0 = 0 := ri_mi
    have h_N0 : MI pw D ow sl (mi M mo 0 0) mo pl Z := MI_scr h (rx_mi.mono (by decide) (by simp))
    rw [show mm_si M 7 0 mo 0 = mi M mo 0 0 from rfl]
    generalize mi M mo 0 0 = N0 at *
    have R_N0 := h_N0.1
    refine vv_aload_n (pc := 19) x dd_Mo_collect_19 rfl ?_
    refine lg_Mo_62 (pc := 20) G x dd_Mo_collect_20 R_N0.2.2 ?_
    rw [show mm_i N0 7 0 mo = 0 from t_N0]
    refine vv_if_eq (pc := 23) x dd_Mo_collect_23 (tgt := 28) (by decide) (fun h23 => ?_) (fun h23 => absurd h23 (fun z => z rfl))
    refine vv_aload_n (pc := 28) x dd_Mo_collect_28 rfl ?_
    refine lg_Mo_16 (pc := 29) G x dd_Mo_collect_29 R_N0.2.2 (R_N0.r 7 (by decide)) ?_
    refine vv_iload_n (pc := 32) x dd_Mo_collect_32 rfl ?_
    refine vv_iald (pc := 33) x dd_Mo_collect_33 (R_N0.t 7 (by decide)) (in_n (N := 8) (by omega) (R_N0.n 7 (by decide)) (by decide)) ?_
    rw [hcp, show mm_a N0 (mm_f N0 7 7 mo) (pl.getD k9 0) = nI (hsz (zget Z k9).2.2.2.2) from (h_N0.2.2.2.1 k9 hk).1.2.2]
    refine vv_istore_n (pc := 34) x dd_Mo_collect_34 (by decide) (ls2 := [_, _, _, _]) rfl ?_
    refine vv_aload_n (pc := 35) x dd_Mo_collect_35 rfl ?_
    refine vv_iload_n (pc := 36) x dd_Mo_collect_36 rfl ?_
    refine lv_Mo_107 (pc := 37) G x dd_Mo_collect_37 (R_gather G h_N0 hZ hp6 hml hk) R_N0.2.2 ⟨by decide, by decide⟩ (by decide) (by decide) (Nat.le_of_ble_eq_true rfl) (fun v37 M37 q37 => ?_)
    obtain ⟨rfl, F2, h2⟩ := q37
    have R_2 := h2.1
    have hk1 : k9 < (zcol Z k9).1.length := by rw [zcol_len]; exact hk
    refine vv_iload_n (pc := 40) x dd_Mo_collect_40 rfl ?_
    refine vv_aload_n (pc := 41) x dd_Mo_collect_41 rfl ?_
    refine lg_Mo_16 (pc := 42) G x dd_Mo_collect_42 R_2.2.2 (R_2.r 7 (by decide)) ?_
    refine vv_iload_n (pc := 45) x dd_Mo_collect_45 rfl ?_
    refine vv_iald (pc := 46) x dd_Mo_collect_46 (R_2.t 7 (by decide)) (in_n (N := 8) (by omega) (R_2.n 7 (by decide)) (by decide)) ?_
    rw [hcp, show mm_a M37 (mm_f M37 7 7 mo) (pl.getD k9 0) = nI (hsz (zget (zcol Z k9) k9).2.2.2.2) from (h2.2.2.2.1 k9 hk1).1.2.2]
    refine vv_isub (pc := 47) x dd_Mo_collect_47 ?_
    exact vv_iret (pc := 48) x dd_Mo_collect_48 rfl (by decide) (by decide) ⟨F_N0.trans (F2.mono (by decide) (by decide)), Or.inl ⟨hk, rfl, (F2.i (by decide)).trans t_N0, h2⟩⟩
  · refine vv_aload_n (pc := 0) x dd_Mo_collect_0 rfl ?_
    refine vv_iload_n (pc := 1) x dd_Mo_collect_1 rfl ?_
    refine lv_Mo_120 (pc := 2) G x dd_Mo_collect_2 (R_place G h hZ.2.2.1 hnm k9 hk9) R.2.2 ⟨by decide, by decide⟩ (by decide) (by decide) (Nat.le_of_ble_eq_true rfl) (fun v2 M2 q2 => ?_)
    obtain ⟨rfl, hm2⟩ := q2
    have hm2 := hm2.symm
    subst hm2
    rw [show (if k9 < Z.1.length then nI (pl.getD k9 0) else (-1 : Int32)) = -1 from if_neg hk]
    refine vv_istore_n (pc := 5) x dd_Mo_collect_5 (by decide) (ls2 := [_, _, _, none]) rfl ?_
    refine vv_aload_n (pc := 6) x dd_Mo_collect_6 rfl ?_
    refine vv_iload_n (pc := 7) x dd_Mo_collect_7 rfl ?_
    refine vv_if_ge (pc := 8) x dd_Mo_collect_8 (tgt := 15) (by decide) (fun h8 => absurd h8 (by decide)) (fun h8 => ?_)
    refine vv_iconst (pc := 11) x dd_Mo_collect_11 (1) (by decide) ?_
    refine vv_goto (pc := 12) x dd_Mo_collect_12 (tgt := 16) (by decide) ?_
    refine lp_Mo_62 (pc := 16) G x dd_Mo_collect_16 R.2.2 ?_
    have F_N0 : rx RI9 RA mo M (mi M mo 0 1) := rx_mi.mono (by decide) (by simp)
    have t_N0 : ri (mi M mo 0 1) mo 0 = 1 := ri_mi
    have h_N0 : MI pw D ow sl (mi M mo 0 1) mo pl Z := MI_scr h (rx_mi.mono (by decide) (by simp))
    rw [show mm_si M 7 0 mo 1 = mi M mo 0 1 from rfl]
    generalize mi M mo 0 1 = N0 at *
    have R_N0 := h_N0.1
    refine vv_aload_n (pc := 19) x dd_Mo_collect_19 rfl ?_
    refine lg_Mo_62 (pc := 20) G x dd_Mo_collect_20 R_N0.2.2 ?_
    rw [show mm_i N0 7 0 mo = 1 from t_N0]
    refine vv_if_eq (pc := 23) x dd_Mo_collect_23 (tgt := 28) (by decide) (fun h23 => absurd h23 (by decide)) (fun h23 => ?_)
    refine vv_iconst (pc := 26) x dd_Mo_collect_26 (0) (by decide) ?_
    exact vv_iret (pc := 27) x dd_Mo_collect_27 rfl (by decide) (by decide) ⟨F_N0, Or.inr ⟨hk, ⟨_, rfl⟩, t_N0, h_N0⟩⟩
set_option maxRecDepth 100000 in
set_option maxHeartbeats 1000000 in
theorem R_trim (G : gc g X t0 l) (h : MI pw D ow sl M mo pl Z) (hZ : zok pw Z) (hp6 : pw ≤ 600) (hlat : Z.2.2.1 < 2 ^ 31) (hml : ∀ P ∈ Z.1, P.2.2.2.1.length ≤ 512) {xv : Int32} (k9 : Nat) (hk9 : plc Z xv = k9) : Ok g X l yy_Mo_trim cc_Mo_trim 3 (some .int) 6 139 0 0 [.ref mo, .int xv] M (fun v M' => rx RI9 RA mo M M' ∧ ((k9 < Z.1.length ∧ v = some (.int (nI (lst8 (hsz (zget (zcol Z k9) k9).2.2.2.2)))) ∧ ri M' mo 0 = 0 ∧ MI pw D ow sl M' mo pl (ztrim Z k9)) ∨ (¬ k9 < Z.1.length ∧ (∃ z, v = some (.int z)) ∧ ri M' mo 0 = 1 ∧ MI pw D ow sl M' mo pl Z))) := by
  refine ok_start (by decide) (Nat.le_of_ble_eq_true rfl) (by simp [Value.category]) ?_
  intro p e s m args below meth c9 x
  have R := h.1
  have hnm := znm hZ hlat
  have h8z := hZ.2.1
  by_cases hk : k9 < Z.1.length
  · have hp8 : pl.getD k9 0 < 8 := h.2.2.1.2.2 _ (getD_memN (by have := h.2.2.1.1; omega))
    have hho := zho hZ hml
    obtain ⟨⟨a1, a2, a3⟩, a4, ⟨a5, a6⟩, a7, a8⟩ := h.2.2.2.1 k9 hk
    have kk := hZ.1 _ (zget_mem hk)
    have h600 := kk.2.1.1
    have hml9 := hml _ (zget_mem hk)
    have hcp : (nI (pl.getD k9 0)).toNatClampNeg = pl.getD k9 0 := nI_clamp (by omega)
    refine vv_aload_n (pc := 0) x dd_Mo_trim_0 rfl ?_
    refine vv_iload_n (pc := 1) x dd_Mo_trim_1 rfl ?_
    refine lv_Mo_120 (pc := 2) G x dd_Mo_trim_2 (R_place G h hZ.2.2.1 hnm k9 hk9) R.2.2 ⟨by decide, by decide⟩ (by decide) (by decide) (Nat.le_of_ble_eq_true rfl) (fun v2 M2 q2 => ?_)
    obtain ⟨rfl, hm2⟩ := q2
    have hm2 := hm2.symm
    subst hm2
    rw [show (if k9 < Z.1.length then nI (pl.getD k9 0) else (-1 : Int32)) = nI (pl.getD k9 0) from if_pos hk]
    refine vv_istore_n (pc := 5) x dd_Mo_trim_5 (by decide) (ls2 := [_, _, _]) rfl ?_
    refine vv_aload_n (pc := 6) x dd_Mo_trim_6 rfl ?_
    refine vv_iload_n (pc := 7) x dd_Mo_trim_7 rfl ?_
    refine vv_if_ge (pc := 8) x dd_Mo_trim_8 (tgt := 15) (by decide) (fun h8 => ?_) (fun h8 => absurd h8 (fun z => z (nI_pos' (by omega))))
    refine vv_iconst (pc := 15) x dd_Mo_trim_15 (0) (by decide) ?_
    refine lp_Mo_62 (pc := 16) G x dd_Mo_trim_16 R.2.2 ?_
    have F_N0 : rx RI9 RA mo M (mi M mo 0 0) := rx_mi.mono (by decide) (by simp)
    have t_N0 : ri (mi M mo 0 0) mo 0 = 0 := ri_mi
    have h_N0 : MI pw D ow sl (mi M mo 0 0) mo pl Z := MI_scr h (rx_mi.mono (by decide) (by simp))
    rw [show mm_si M 7 0 mo 0 = mi M mo 0 0 from rfl]
    generalize mi M mo 0 0 = N0 at *
    have R_N0 := h_N0.1
    refine vv_aload_n (pc := 19) x dd_Mo_trim_19 rfl ?_
    refine lg_Mo_62 (pc := 20) G x dd_Mo_trim_20 R_N0.2.2 ?_
    rw [show mm_i N0 7 0 mo = 0 from t_N0]
    refine vv_if_eq (pc := 23) x dd_Mo_trim_23 (tgt := 28) (by decide) (fun h23 => ?_) (fun h23 => absurd h23 (fun z => z rfl))
    refine vv_aload_n (pc := 28) x dd_Mo_trim_28 rfl ?_
    refine vv_iload_n (pc := 29) x dd_Mo_trim_29 rfl ?_
    refine lv_Mo_107 (pc := 30) G x dd_Mo_trim_30 (R_gather G h_N0 hZ hp6 hml hk) R_N0.2.2 ⟨by decide, by decide⟩ (by decide) (by decide) (Nat.le_of_ble_eq_true rfl) (fun v30 M30 q30 => ?_)
    obtain ⟨rfl, F2, h2⟩ := q30
    have R_2 := h2.1
    have hk1 : k9 < (zcol Z k9).1.length := by rw [zcol_len]; exact hk
    have hZ1 := zcol_ok hZ hk
    have hcap1 := cap_le hZ1 hk1
    have hus1 := (hZ1.1 _ (zget_mem hk1)).2.2.1
    have g7 : mm_a M30 (mm_f M30 7 7 mo) (pl.getD k9 0) = nI (hsz (zget (zcol Z k9) k9).2.2.2.2) := (h2.2.2.2.1 k9 hk1).1.2.2
    have hfinT := fun (c : Nat) (e : c = lst8 (hsz (zget (zcol Z k9) k9).2.2.2.2)) => MI_cap (c := c) (p' := ((zcol Z k9).2.1.1 + ((zget (zcol Z k9) k9).2.1 - c), (zcol Z k9).2.1.2)) h2 (zho hZ1 (zcol_ml2 hml hk)) hk1 rfl
    refine vv_aload_n (pc := 33) x dd_Mo_trim_33 rfl ?_
    refine lg_Mo_13 (pc := 34) G x dd_Mo_trim_34 R_2.2.2 (R_2.r 6 (by decide)) ?_
    refine vv_iload_n (pc := 37) x dd_Mo_trim_37 rfl ?_
    refine vv_aload_n (pc := 38) x dd_Mo_trim_38 rfl ?_
    refine lg_Mo_16 (pc := 39) G x dd_Mo_trim_39 R_2.2.2 (R_2.r 7 (by decide)) ?_
    refine vv_iload_n (pc := 42) x dd_Mo_trim_42 rfl ?_
    refine vv_iald (pc := 43) x dd_Mo_trim_43 (R_2.t 7 (by decide)) (in_n (N := 8) (by omega) (R_2.n 7 (by decide)) (by decide)) ?_
    rw [hcp, g7]
    refine vv_if_ne (pc := 44) x dd_Mo_trim_44 (tgt := 52) (by decide) (fun h44 => ?_) (fun h44 => ?_)
    · refine vv_aload_n (pc := 52) x dd_Mo_trim_52 rfl ?_
      refine lg_Mo_16 (pc := 53) G x dd_Mo_trim_53 R_2.2.2 (R_2.r 7 (by decide)) ?_
      refine vv_iload_n (pc := 56) x dd_Mo_trim_56 rfl ?_
      refine vv_iald (pc := 57) x dd_Mo_trim_57 (R_2.t 7 (by decide)) (in_n (N := 8) (by omega) (R_2.n 7 (by decide)) (by decide)) ?_
      rw [hcp, g7]
      refine vv_bipush (pc := 58) x dd_Mo_trim_58 (7) (by decide) ?_
      refine vv_iadd (pc := 60) x dd_Mo_trim_60 ?_
      refine vv_bipush (pc := 61) x dd_Mo_trim_61 (8) (by decide) ?_
      refine vv_idiv (pc := 63) x dd_Mo_trim_63 (by decide) ?_
      refine vv_bipush (pc := 64) x dd_Mo_trim_64 (8) (by decide) ?_
      refine vv_imul (pc := 66) x dd_Mo_trim_66 ?_
      rw [stp_is7 (by omega)]
      refine vv_iast (pc := 67) x dd_Mo_trim_67 (R_2.t 6 (by decide)) (in_n (N := 8) (by omega) (R_2.n 6 (by decide)) (by decide)) ?_
      rw [hcp, show mm_sa M30 (mm_f M30 7 6 mo) (upd (mm_a M30 (mm_f M30 7 6 mo)) (pl.getD k9 0) (nI (stp (hsz (zget (zcol Z k9) k9).2.2.2.2)))) = mw M30 mo 6 (upd (ra M30 mo 6) (pl.getD k9 0) (nI (stp (hsz (zget (zcol Z k9) k9).2.2.2.2)))) from rfl]
      have hc9 : (stp (hsz (zget (zcol Z k9) k9).2.2.2.2)) = lst8 (hsz (zget (zcol Z k9) k9).2.2.2.2) := by
        have e0 : hsz (zget (zcol Z k9) k9).2.2.2.2 ≠ 0 := fun z => h44 (by rw [z]; rfl)
        have := stp_ge (n := hsz (zget (zcol Z k9) k9).2.2.2.2)
        have := stp_mod (n := hsz (zget (zcol Z k9) k9).2.2.2.2)
        unfold lst8
        split <;> omega
      have h3 := hfinT (stp (hsz (zget (zcol Z k9) k9).2.2.2.2)) hc9
      have F3 : rx RI9 RA mo M30 (mw M30 mo 6 (upd (ra M30 mo 6) (pl.getD k9 0) (nI (stp (hsz (zget (zcol Z k9) k9).2.2.2.2))))) := rx_mw.mono (by simp) (by decide)
      have c6 : ra (mw M30 mo 6 (upd (ra M30 mo 6) (pl.getD k9 0) (nI (stp (hsz (zget (zcol Z k9) k9).2.2.2.2))))) mo 6 (pl.getD k9 0) = nI (stp (hsz (zget (zcol Z k9) k9).2.2.2.2)) := by rw [ra_mw, upd_eq rfl]
      have t3 : ri (mw M30 mo 6 (upd (ra M30 mo 6) (pl.getD k9 0) (nI (stp (hsz (zget (zcol Z k9) k9).2.2.2.2))))) mo 0 = 0 := (F2.i (by decide)).trans t_N0
      generalize mw M30 mo 6 (upd (ra M30 mo 6) (pl.getD k9 0) (nI (stp (hsz (zget (zcol Z k9) k9).2.2.2.2)))) = N3 at *
      have R_3 := h3.1
      refine vv_aload_n (pc := 68) x dd_Mo_trim_68 rfl ?_
      refine lg_Mo_13 (pc := 69) G x dd_Mo_trim_69 R_3.2.2 (R_3.r 6 (by decide)) ?_
      refine vv_iload_n (pc := 72) x dd_Mo_trim_72 rfl ?_
      refine vv_iald (pc := 73) x dd_Mo_trim_73 (R_3.t 6 (by decide)) (in_n (N := 8) (by omega) (R_3.n 6 (by decide)) (by decide)) ?_
      rw [hcp, show mm_a N3 (mm_f N3 7 6 mo) (pl.getD k9 0) = nI (stp (hsz (zget (zcol Z k9) k9).2.2.2.2)) from c6]
      exact vv_iret (pc := 74) x dd_Mo_trim_74 rfl (by decide) (by decide) ⟨(F_N0.trans (F2.mono (by decide) (by decide))).trans F3, Or.inl ⟨hk, by rw [hc9], t3, by
          unfold ztrim
          rw [← hc9]
          exact h3⟩⟩
    · refine vv_bipush (pc := 47) x dd_Mo_trim_47 (8) (by decide) ?_
      refine vv_goto (pc := 49) x dd_Mo_trim_49 (tgt := 67) (by decide) ?_
      refine vv_iast (pc := 67) x dd_Mo_trim_67 (R_2.t 6 (by decide)) (in_n (N := 8) (by omega) (R_2.n 6 (by decide)) (by decide)) ?_
      rw [hcp, show mm_sa M30 (mm_f M30 7 6 mo) (upd (mm_a M30 (mm_f M30 7 6 mo)) (pl.getD k9 0) 8) = mw M30 mo 6 (upd (ra M30 mo 6) (pl.getD k9 0) (nI 8)) from rfl]
      have hc9 : 8 = lst8 (hsz (zget (zcol Z k9) k9).2.2.2.2) := by
        have e0 : hsz (zget (zcol Z k9) k9).2.2.2.2 = 0 := (nI_eq (b := 0) (by omega) (by decide)).mp h44
        rw [e0]; rfl
      have h3 := hfinT 8 hc9
      have F3 : rx RI9 RA mo M30 (mw M30 mo 6 (upd (ra M30 mo 6) (pl.getD k9 0) (nI 8))) := rx_mw.mono (by simp) (by decide)
      have c6 : ra (mw M30 mo 6 (upd (ra M30 mo 6) (pl.getD k9 0) (nI 8))) mo 6 (pl.getD k9 0) = nI 8 := by rw [ra_mw, upd_eq rfl]
      have t3 : ri (mw M30 mo 6 (upd (ra M30 mo 6) (pl.getD k9 0) (nI 8))) mo 0 = 0 := (F2.i (by decide)).trans t_N0
      generalize mw M30 mo 6 (upd (ra M30 mo 6) (pl.getD k9 0) (nI 8)) = N3 at *
      have R_3 := h3.1
      refine vv_aload_n (pc := 68) x dd_Mo_trim_68 rfl ?_
      refine lg_Mo_13 (pc := 69) G x dd_Mo_trim_69 R_3.2.2 (R_3.r 6 (by decide)) ?_
      refine vv_iload_n (pc := 72) x dd_Mo_trim_72 rfl ?_
      refine vv_iald (pc := 73) x dd_Mo_trim_73 (R_3.t 6 (by decide)) (in_n (N := 8) (by omega) (R_3.n 6 (by decide)) (by decide)) ?_
      rw [hcp, show mm_a N3 (mm_f N3 7 6 mo) (pl.getD k9 0) = nI 8 from c6]
      exact vv_iret (pc := 74) x dd_Mo_trim_74 rfl (by decide) (by decide) ⟨(F_N0.trans (F2.mono (by decide) (by decide))).trans F3, Or.inl ⟨hk, by rw [hc9], t3, by
          unfold ztrim
          rw [← hc9]
          exact h3⟩⟩
  · refine vv_aload_n (pc := 0) x dd_Mo_trim_0 rfl ?_
    refine vv_iload_n (pc := 1) x dd_Mo_trim_1 rfl ?_
    refine lv_Mo_120 (pc := 2) G x dd_Mo_trim_2 (R_place G h hZ.2.2.1 hnm k9 hk9) R.2.2 ⟨by decide, by decide⟩ (by decide) (by decide) (Nat.le_of_ble_eq_true rfl) (fun v2 M2 q2 => ?_)
    obtain ⟨rfl, hm2⟩ := q2
    have hm2 := hm2.symm
    subst hm2
    rw [show (if k9 < Z.1.length then nI (pl.getD k9 0) else (-1 : Int32)) = -1 from if_neg hk]
    refine vv_istore_n (pc := 5) x dd_Mo_trim_5 (by decide) (ls2 := [_, _, _]) rfl ?_
    refine vv_aload_n (pc := 6) x dd_Mo_trim_6 rfl ?_
    refine vv_iload_n (pc := 7) x dd_Mo_trim_7 rfl ?_
    refine vv_if_ge (pc := 8) x dd_Mo_trim_8 (tgt := 15) (by decide) (fun h8 => absurd h8 (by decide)) (fun h8 => ?_)
    refine vv_iconst (pc := 11) x dd_Mo_trim_11 (1) (by decide) ?_
    refine vv_goto (pc := 12) x dd_Mo_trim_12 (tgt := 16) (by decide) ?_
    refine lp_Mo_62 (pc := 16) G x dd_Mo_trim_16 R.2.2 ?_
    have F_N0 : rx RI9 RA mo M (mi M mo 0 1) := rx_mi.mono (by decide) (by simp)
    have t_N0 : ri (mi M mo 0 1) mo 0 = 1 := ri_mi
    have h_N0 : MI pw D ow sl (mi M mo 0 1) mo pl Z := MI_scr h (rx_mi.mono (by decide) (by simp))
    rw [show mm_si M 7 0 mo 1 = mi M mo 0 1 from rfl]
    generalize mi M mo 0 1 = N0 at *
    have R_N0 := h_N0.1
    refine vv_aload_n (pc := 19) x dd_Mo_trim_19 rfl ?_
    refine lg_Mo_62 (pc := 20) G x dd_Mo_trim_20 R_N0.2.2 ?_
    rw [show mm_i N0 7 0 mo = 1 from t_N0]
    refine vv_if_eq (pc := 23) x dd_Mo_trim_23 (tgt := 28) (by decide) (fun h23 => absurd h23 (by decide)) (fun h23 => ?_)
    refine vv_iconst (pc := 26) x dd_Mo_trim_26 (0) (by decide) ?_
    exact vv_iret (pc := 27) x dd_Mo_trim_27 rfl (by decide) (by decide) ⟨F_N0, Or.inr ⟨hk, ⟨_, rfl⟩, t_N0, h_N0⟩⟩
end M56
