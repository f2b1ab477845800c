/-! ===== the constructor ===== -/
section M47
variable {g : gg} {X : State → Prop} {t0 : Nat} {l : Launch} {M : mm} {M1 : mm} {pw : Nat} {o : Nat}
theorem clampE {v : Int32} : (if 40 < (if v < 600 then v else 600) then (if v < 600 then v else 600) else 40) = (if v < 40 then 40 else if 600 < v then 600 else v) := by
  have e40 : (40 : Int32).toInt = 40 := by decide
  have e600 : (600 : Int32).toInt = 600 := by decide
  by_cases h1 : v < 600
  · rw [if_pos h1]
    have n1 : ¬ 600 < v := fun z => by rw [Int32.lt_iff_toInt_lt] at z h1; omega
    by_cases h2 : 40 < v
    · have n2 : ¬ v < 40 := fun z => by rw [Int32.lt_iff_toInt_lt] at z h2; omega
      rw [if_pos h2, if_neg n2, if_neg n1]
    · rw [if_neg h2]
      by_cases h3 : v < 40
      · rw [if_pos h3]
      · rw [if_neg h3, if_neg n1]
        rw [Int32.lt_iff_toInt_lt] at h2 h3
        exact Int32.toInt_inj.mp (by omega)
  · rw [if_neg h1]
    have n2 : ¬ v < 40 := fun z => by rw [Int32.lt_iff_toInt_lt] at z h1; omega
    rw [if_pos (by decide), if_neg n2]
    by_cases h3 : 600 < v
    · rw [if_pos h3]
    · rw [if_neg h3]
      rw [Int32.lt_iff_toInt_lt] at h1 h3
      exact Int32.toInt_inj.mp (by omega)
theorem clampN {v : Int32} : ∃ n : Nat, 40 ≤ n ∧ n ≤ 600 ∧ (if v < 40 then 40 else if 600 < v then 600 else v) = nI n := by
  have e40 : (40 : Int32).toInt = 40 := by decide
  have e600 : (600 : Int32).toInt = 600 := by decide
  by_cases h1 : v < 40
  · rw [if_pos h1]; exact ⟨40, by decide, by decide, rfl⟩
  · rw [if_neg h1]
    by_cases h2 : 600 < v
    · rw [if_pos h2]; exact ⟨600, by decide, by decide, rfl⟩
    · rw [if_neg h2]
      have h0 : ¬ v < 0 := fun z => h1 (Int32.lt_of_lt_of_le z (by decide))
      obtain ⟨n, h3, e⟩ := nI_of h0
      have a1 : ¬ n < 40 := fun z => h1 (by rw [e]; exact (nI_ltI (a := n) (b := 40) h3 (by decide)).mpr z)
      have a2 : ¬ 600 < n := fun z => h2 (by rw [e]; exact (nI_ltI (a := 600) (b := n) (by decide) h3).mpr z)
      exact ⟨n, by omega, by omega, e⟩
set_option maxRecDepth 100000 in
set_option maxHeartbeats 4000000 in
theorem C_init (G : gc g X t0 l) {v9 : Int32} (hpw : (if v9 < 40 then 40 else if 600 < v9 then 600 else v9) = nI pw) (h40 : 40 ≤ pw) (hp6 : pw ≤ 600) (hT : mm_t M o = 7) (h7 : mm_i M 6 7 o = 0) (h8 : mm_i M 6 8 o = 0) : Ok g X l yy_CH_init cc_CH_init 2 none 4 80 13 3083 [.ref o, .int v9] M (fun v M' => v = none ∧ ∃ (D : Nat → Prop) (ow sl : Nat → Nat), CI pw D ow sl M' o [] [] (Z0 pw) ∧ sl 0 = t0 ∧ (∀ a, D a → mm_t M' a ≠ 0) ∧ ∀ a, mm_t M a ≠ 0 → a ≠ o → mm_t M' a = mm_t M a ∧ mm_n M' a = mm_n M a ∧ mm_l M' a = mm_l M a ∧ mm_a M' a = mm_a M a ∧ mm_q M' a = mm_q M a ∧ ∀ c k, mm_i M' c k a = mm_i M c k a ∧ mm_r M' c k a = mm_r M c k a) := by
  refine ok_start (by decide) (Nat.le_of_ble_eq_true rfl) (by simp [Value.category]) ?_
  intro p e s m args below meth c9 x
  refine vv_aload_n (pc := 0) x dd_CH_init_0 rfl ?_
  refine lo_CH_3 (pc := 1) G x dd_CH_init_1 ⟨by decide, by decide⟩ (Nat.le_of_ble_eq_true rfl) ?_
  refine vv_aload_n (pc := 4) x dd_CH_init_4 rfl ?_
  refine vv_bipush (pc := 5) x dd_CH_init_5 (40) (by decide) ?_
  refine vv_sipush (pc := 7) x dd_CH_init_7 (600) (by decide) ?_
  refine vv_iload_n (pc := 10) x dd_CH_init_10 rfl ?_
  refine lm_CH_9 (pc := 11) G x dd_CH_init_11 ⟨by decide, by decide⟩ (Nat.le_of_ble_eq_true rfl) (by decide) (by decide) ?_
  refine lm_CH_15 (pc := 14) G x dd_CH_init_14 ⟨by decide, by decide⟩ (Nat.le_of_ble_eq_true rfl) (by decide) (by decide) ?_
  rw [clampE, hpw]
  refine lp_CH_18 (pc := 17) G x dd_CH_init_17 hT ?_
  have hA0o : mm_t (mm_si M 6 0 o (nI pw)) o = 7 := hT
  generalize hA0 : mm_si M 6 0 o (nI pw) = A0 at *
  have w0 : mm_i A0 6 0 o = nI pw := by rw [← hA0]; exact if_pos ⟨rfl, rfl, rfl⟩
  have i7 : mm_i A0 6 7 o = 0 := by rw [← hA0, mi_si_k (by decide)]; exact h7
  have i8 : mm_i A0 6 8 o = 0 := by rw [← hA0, mi_si_k (by decide)]; exact h8
  refine vv_aload_n (pc := 20) x dd_CH_init_20 rfl ?_
  refine ln_CH_22 (pc := 21) G x dd_CH_init_21 (by decide) (by decide) (fun q1 hq1 => ?_)
  have n1 : o ≠ q1 := fun z => by rw [← z, hA0o] at hq1; exact absurd hq1 (by decide)
  have wn1 : mm_i (mm_nw A0 q1 6 0) 6 0 o = nI pw := (if_neg n1).trans w0
  refine vv_dup (pc := 24) x dd_CH_init_24 rfl ?_
  refine vv_aload_n (pc := 25) x dd_CH_init_25 rfl ?_
  refine lg_CH_18 (pc := 26) G x dd_CH_init_26 ((if_neg n1).trans hA0o) ?_
  rw [wn1]
  refine lv_CH_24 (pc := 29) G x dd_CH_init_29 (k_Po_init (h := q1) G (show mm_t (mm_nw A0 q1 6 0) q1 = 6 from if_pos rfl))  ⟨by decide, by decide⟩ (by decide) (by decide) (Nat.le_of_ble_eq_true rfl) (fun v29 M29 q29 => ?_)
  obtain ⟨rfl, N1, H1, hM29⟩ := q29
  have F1 : fa A0 M29 := by rw [hM29]; exact (fa_new hq1 H1.fb).si hq1
  have t29 : mm_t M29 o = 7 := by rw [(F1 o (by rw [hA0o]; decide)).1]; exact hA0o
  have w29 : mm_i M29 6 0 o = nI pw := by rw [((F1 o (by rw [hA0o]; decide)).2.2.2.2.2 6 0).1]; exact w0
  refine lp_CH_27 (pc := 32) G x dd_CH_init_32 t29 ?_
  generalize hA1 : mm_sr M29 6 1 o q1 = A1 at *
  have t1 : mm_t A1 o = 7 := by rw [← hA1]; exact t29
  have w1 : mm_i A1 6 0 o = nI pw := by rw [← hA1]; exact w29
  refine vv_aload_n (pc := 35) x dd_CH_init_35 rfl ?_
  refine ln_CH_31 (pc := 36) G x dd_CH_init_36 (by decide) (by decide) (fun q2 hq2 => ?_)
  refine vv_dup (pc := 39) x dd_CH_init_39 rfl ?_
  refine lv_CH_33 (pc := 40) G x dd_CH_init_40 (k_AL_init (al := q2) G (show mm_t (mm_nw A1 q2 9 0) q2 = 9 from if_pos rfl))  ⟨by decide, by decide⟩ (by decide) (by decide) (Nat.le_of_ble_eq_true rfl) (fun v40 M40 q40 => ?_)
  obtain ⟨rfl, hM40⟩ := q40
  have F2 : fa A1 M40 := by rw [hM40]; exact ((fa_nw hq2).si hq2).sr hq2
  have t40 : mm_t M40 o = 7 := by rw [(F2 o (by rw [t1]; decide)).1]; exact t1
  have w40 : mm_i M40 6 0 o = nI pw := by rw [((F2 o (by rw [t1]; decide)).2.2.2.2.2 6 0).1]; exact w1
  refine lp_CH_34 (pc := 43) G x dd_CH_init_43 t40 ?_
  generalize hA2 : mm_sr M40 6 2 o q2 = A2 at *
  have t2 : mm_t A2 o = 7 := by rw [← hA2]; exact t40
  have w2 : mm_i A2 6 0 o = nI pw := by rw [← hA2]; exact w40
  refine vv_aload_n (pc := 46) x dd_CH_init_46 rfl ?_
  refine ln_CH_31 (pc := 47) G x dd_CH_init_47 (by decide) (by decide) (fun q3 hq3 => ?_)
  refine vv_dup (pc := 50) x dd_CH_init_50 rfl ?_
  refine lv_CH_33 (pc := 51) G x dd_CH_init_51 (k_AL_init (al := q3) G (show mm_t (mm_nw A2 q3 9 0) q3 = 9 from if_pos rfl))  ⟨by decide, by decide⟩ (by decide) (by decide) (Nat.le_of_ble_eq_true rfl) (fun v51 M51 q51 => ?_)
  obtain ⟨rfl, hM51⟩ := q51
  have F3 : fa A2 M51 := by rw [hM51]; exact ((fa_nw hq3).si hq3).sr hq3
  have t51 : mm_t M51 o = 7 := by rw [(F3 o (by rw [t2]; decide)).1]; exact t2
  have w51 : mm_i M51 6 0 o = nI pw := by rw [((F3 o (by rw [t2]; decide)).2.2.2.2.2 6 0).1]; exact w2
  refine lp_CH_38 (pc := 54) G x dd_CH_init_54 t51 ?_
  generalize hA3 : mm_sr M51 6 3 o q3 = A3 at *
  have t3 : mm_t A3 o = 7 := by rw [← hA3]; exact t51
  have w3 : mm_i A3 6 0 o = nI pw := by rw [← hA3]; exact w51
  refine vv_aload_n (pc := 57) x dd_CH_init_57 rfl ?_
  refine ln_CH_41 (pc := 58) G x dd_CH_init_58 (by decide) (by decide) (fun q4 hq4 => ?_)
  have n4 : o ≠ q4 := fun z => by rw [← z, t3] at hq4; exact absurd hq4 (by decide)
  have wn4 : mm_i (mm_nw A3 q4 1 0) 6 0 o = nI pw := (if_neg n4).trans w3
  refine vv_dup (pc := 61) x dd_CH_init_61 rfl ?_
  refine vv_aload_n (pc := 62) x dd_CH_init_62 rfl ?_
  refine lg_CH_18 (pc := 63) G x dd_CH_init_63 ((if_neg n4).trans t3) ?_
  rw [wn4]
  refine lv_CH_43 (pc := 66) G x dd_CH_init_66 (k_Ca_init (h := q4) (n9 := pw) G (show mm_t (mm_nw A3 q4 1 0) q4 = 1 from if_pos rfl) hp6)  ⟨by decide, by decide⟩ (by decide) (by decide) (Nat.le_of_ble_eq_true rfl) (fun v66 M66 q66 => ?_)
  obtain ⟨rfl, H4⟩ := q66
  have F4 : fa A3 M66 := fa_new hq4 H4.fb
  have t66 : mm_t M66 o = 7 := by rw [(F4 o (by rw [t3]; decide)).1]; exact t3
  have w66 : mm_i M66 6 0 o = nI pw := by rw [((F4 o (by rw [t3]; decide)).2.2.2.2.2 6 0).1]; exact w3
  refine lp_CH_44 (pc := 69) G x dd_CH_init_69 t66 ?_
  generalize hA4 : mm_sr M66 6 4 o q4 = A4 at *
  have t4 : mm_t A4 o = 7 := by rw [← hA4]; exact t66
  have w4 : mm_i A4 6 0 o = nI pw := by rw [← hA4]; exact w66
  refine vv_aload_n (pc := 72) x dd_CH_init_72 rfl ?_
  refine ln_CH_48 (pc := 73) G x dd_CH_init_73 (by decide) (by decide) (fun q5 hq5 => ?_)
  have n5 : o ≠ q5 := fun z => by rw [← z, t4] at hq5; exact absurd hq5 (by decide)
  have wn5 : mm_i (mm_nw A4 q5 2 0) 6 0 o = nI pw := (if_neg n5).trans w4
  refine vv_dup (pc := 76) x dd_CH_init_76 rfl ?_
  refine vv_aload_n (pc := 77) x dd_CH_init_77 rfl ?_
  refine lg_CH_18 (pc := 78) G x dd_CH_init_78 ((if_neg n5).trans t4) ?_
  rw [wn5]
  refine lv_CH_50 (pc := 81) G x dd_CH_init_81 (k_Co_init (h := q5) (n9 := pw) G (show mm_t (mm_nw A4 q5 2 0) q5 = 2 from if_pos rfl) hp6)  ⟨by decide, by decide⟩ (by decide) (by decide) (Nat.le_of_ble_eq_true rfl) (fun v81 M81 q81 => ?_)
  obtain ⟨rfl, H5⟩ := q81
  have F5 : fa A4 M81 := fa_new hq5 H5.fb
  have t81 : mm_t M81 o = 7 := by rw [(F5 o (by rw [t4]; decide)).1]; exact t4
  have w81 : mm_i M81 6 0 o = nI pw := by rw [((F5 o (by rw [t4]; decide)).2.2.2.2.2 6 0).1]; exact w4
  refine lp_CH_51 (pc := 84) G x dd_CH_init_84 t81 ?_
  generalize hA5 : mm_sr M81 6 5 o q5 = A5 at *
  have t5 : mm_t A5 o = 7 := by rw [← hA5]; exact t81
  have w5 : mm_i A5 6 0 o = nI pw := by rw [← hA5]; exact w81
  refine vv_aload_n (pc := 87) x dd_CH_init_87 rfl ?_
  refine ln_CH_55 (pc := 88) G x dd_CH_init_88 (by decide) (by decide) (fun q6 hq6 => ?_)
  have n6 : o ≠ q6 := fun z => by rw [← z, t5] at hq6; exact absurd hq6 (by decide)
  have wn6 : mm_i (mm_nw A5 q6 3 0) 6 0 o = nI pw := (if_neg n6).trans w5
  refine vv_dup (pc := 91) x dd_CH_init_91 rfl ?_
  refine vv_aload_n (pc := 92) x dd_CH_init_92 rfl ?_
  refine lg_CH_18 (pc := 93) G x dd_CH_init_93 ((if_neg n6).trans t5) ?_
  rw [wn6]
  refine lv_CH_57 (pc := 96) G x dd_CH_init_96 (k_He_init (h := q6) (n9 := pw) G (show mm_t (mm_nw A5 q6 3 0) q6 = 3 from if_pos rfl) hp6)  ⟨by decide, by decide⟩ (by decide) (by decide) (Nat.le_of_ble_eq_true rfl) (fun v96 M96 q96 => ?_)
  obtain ⟨rfl, H6⟩ := q96
  have F6 : fa A5 M96 := fa_new hq6 H6.fb
  have t96 : mm_t M96 o = 7 := by rw [(F6 o (by rw [t5]; decide)).1]; exact t5
  have w96 : mm_i M96 6 0 o = nI pw := by rw [((F6 o (by rw [t5]; decide)).2.2.2.2.2 6 0).1]; exact w5
  refine lp_CH_58 (pc := 99) G x dd_CH_init_99 t96 ?_
  generalize hA6 : mm_sr M96 6 6 o q6 = A6 at *
  have t6 : mm_t A6 o = 7 := by rw [← hA6]; exact t96
  have w6 : mm_i A6 6 0 o = nI pw := by rw [← hA6]; exact w96
  refine vv_low G x (fun hlow => ?_)
  exact vv_vret (pc := 102) x dd_CH_init_102 rfl (by decide) (by decide) ⟨rfl, by
    obtain ⟨D, ow, sl, c1, c2, c3, c4⟩ := CH_made (t0 := t0) (o := o) (pw := pw) (by omega) hp6 hA0o w0 i7 i8 hq1 H1 (by rw [← hA1, hM29]) hq2 hM40 hA2.symm hq3 hM51 hA3.symm hq4 H4 hA4.symm hq5 H5 hA5.symm hq6 H6 hA6.symm hlow.1
    exact ⟨D, ow, sl, c1, c2, c3, fun a ha hne => by
      obtain ⟨x1, x2, x3, x4, x5, x6, x7⟩ := c4 a (by rw [← hA0]; exact ha)
      rw [← hA0] at x1 x2 x3 x4 x5 x6 x7
      exact ⟨x1, x2, x3, x4, x5, fun c k => ⟨(x6 c k).trans (if_neg (fun z => hne z.2.2)), x7 hne c k⟩⟩⟩⟩
end M47
