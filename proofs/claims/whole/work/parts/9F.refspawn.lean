/-! ===== the reference: spawn, exit ===== -/
section M62
variable {g : gg} {X : State → Prop} {t0 : Nat} {l : Launch} {M : mm} {M1 M2 : mm} {pw : Nat} {D : Nat → Prop} {ow sl : Nat → Nat} {mo : Nat} {Ki Ka : List Nat} {k : Nat} {pl : List Nat} {Z : zst} {B : List bk} {b : bk}
theorem pl_full (h : pl.Nodup) (h8 : pl.length < 8) (ha : ∀ p, p < 8 → p ∈ pl) : False := by
  have h1 := sum_sub (fun _ => 1) (List.range 8) pl List.nodup_range (fun p hp => ha p (List.mem_range.mp hp))
  rw [sum_one, sum_one, List.length_range] at h1
  omega
theorem MI_sp {p9 : Nat} (h : MI pw D ow sl M mo pl Z) (hZ : ∀ P ∈ Z.1, hok P.2.2.2.2 ∧ P.2.2.2.1.length ≤ 512) (hp8 : p9 < 8) (hn : p9 ∉ pl) (F : rx [0, 2, 3] [5, 6, 7, 8, 9, 12] mo M M1) (h2 : ri M1 mo 2 = nI (Z.2.2.1 + 1)) (h3 : ri M1 mo 3 = nI (Z.1.length + 1)) (e5 : ra M1 mo 5 = upd (ra M mo 5) p9 (nI (Z.2.2.1 + 1))) (e6 : ra M1 mo 6 = upd (ra M mo 6) p9 8) (e7 : ra M1 mo 7 = upd (ra M mo 7) p9 0) (e9 : ra M1 mo 9 = upd (ra M mo 9) p9 0) (h8 : ∀ j, j < 4 → ra M1 mo 8 (4 * p9 + j) = 0) (h8o : ∀ x, ¬ (4 * p9 ≤ x ∧ x < 4 * p9 + 4) → ra M1 mo 8 x = ra M mo 8 x) (h12o : ∀ x, ¬ (600 * p9 ≤ x ∧ x < 600 * p9 + 600) → ra M1 mo 12 x = ra M mo 12 x) : MI pw D ow sl M1 mo (pl ++ [p9]) (zsp Z) := by
  obtain ⟨R, ⟨i1, i2, i3, i4⟩, ⟨l1, l2, l3⟩, hA, hE, q1, q2⟩ := id h
  have e : ∀ k, k ∈ RA → k ∉ [5, 6, 7, 8, 9, 12] → ra M1 mo k = ra M mo k := fun k h1 h2 => F.a R h1 (by decide) h2
  refine ⟨F.to R, ⟨(F.i (by decide)).trans i1, h2, ?_, (F.i (by decide)).trans i4⟩, ⟨?_, ?_, fun p hp => ?_⟩, fun i hi => ?_, fun p hp hnp => ?_, (F.i (by decide)).trans q1, fun w hw => ?_⟩
  · rw [h3]
    show _ = nI (Z.1 ++ [_]).length
    simp
  · show _ = (Z.1 ++ [_]).length
    simp [l1]
  · rw [List.nodup_append]
    exact ⟨l2, by simp, fun a ha b hb z => hn (by rw [← List.mem_singleton.mp hb, ← z]; exact ha)⟩
  · rcases List.mem_append.mp hp with z | z
    · exact l3 p z
    · rw [List.mem_singleton.mp z]; exact hp8
  · have hi2 : i < Z.1.length + 1 := by
      have : i < (Z.1 ++ [nwP (Z.2.2.1 + 1)]).length := hi
      simpa using this
    rw [app_getD, zget_sp]
    by_cases z : i = Z.1.length
    · rw [if_pos (by omega), if_pos z]
      refine ⟨⟨?_, ?_, ?_⟩, fun j hj => ?_, ⟨?_, fun j hj => ?_⟩, fun j hj => ?_, fun j hj => ?_⟩
      · rw [e5, upd_eq rfl]; rfl
      · rw [e6, upd_eq rfl]; rfl
      · rw [e7, upd_eq rfl]; rfl
      · rw [h8 j hj]
        rcases j with _ | _ | _ | _ | j
        · rfl
        · rfl
        · rfl
        · rfl
        · omega
      · rw [e9, upd_eq rfl]; rfl
      · exact absurd hj (Nat.not_lt_zero _)
      · exact absurd hj (Nat.not_lt_zero _)
      · exact absurd hj (Nat.not_lt_zero _)
    · rw [if_neg (by omega), if_neg z]
      have hi3 : i < Z.1.length := by omega
      have hm := zget_mem hi3
      have hpm : pl.getD i 0 ∈ pl := getD_memN (by omega)
      have hne : pl.getD i 0 ≠ p9 := fun y => hn (by rw [← y]; exact hpm)
      have h8' := l3 _ hpm
      refine (hA i hi3).same ⟨?_, ?_, ?_, fun j hj => h8o _ (by omega), ?_, fun j hj => ?_, fun j hj => ?_, fun j hj => h12o _ (by omega)⟩ (hZ _ hm).1 (hZ _ hm).2
      · rw [e5, upd_ne hne]
      · rw [e6, upd_ne hne]
      · rw [e7, upd_ne hne]
      · rw [e9, upd_ne hne]
      · rw [e 10 (by decide) (by decide)]
      · rw [e 11 (by decide) (by decide)]
  · rw [List.mem_append, not_or] at hnp
    rw [e5, upd_ne (fun z => hnp.2 (by rw [z]; simp))]
    exact hE p hp hnp.1
  · rw [e 14 (by decide) (by decide), e 15 (by decide) (by decide)]; exact q2 w hw
theorem MI_ex {i : Nat} (h : MI pw D ow sl M mo pl Z) (hZ : ∀ P ∈ Z.1, hok P.2.2.2.2 ∧ P.2.2.2.1.length ≤ 512) (hi : i < Z.1.length) (F : rx [3, 13] [5, 14, 15] mo M M1) (h3 : ri M1 mo 3 = nI (Z.1.length - 1)) (e5 : ra M1 mo 5 = upd (ra M mo 5) (pl.getD i 0) 0) (hq : RQ M1 mo (pex (zget Z i) Z.2.1)) : MI pw D ow sl M1 mo (pl.eraseIdx i) (zex Z i) := by
  obtain ⟨R, ⟨i1, i2, i3, i4⟩, ⟨l1, l2, l3⟩, hA, hE, -⟩ := id h
  have e : ∀ k, k ∈ RA → k ∉ [5, 14, 15] → ra M1 mo k = ra M mo k := fun k h1 h2 => F.a R h1 (by decide) h2
  have hle : (pl.eraseIdx i).length = pl.length - 1 := List.length_eraseIdx_of_lt (by omega)
  have hlz : (Z.1.eraseIdx i).length = Z.1.length - 1 := List.length_eraseIdx_of_lt hi
  refine ⟨F.to R, ⟨(F.i (by decide)).trans i1, (F.i (by decide)).trans i2, ?_, (F.i (by decide)).trans i4⟩, ⟨?_, ?_, fun p hp => l3 p ((List.eraseIdx_sublist pl i).mem hp)⟩, fun j hj => ?_, fun p hp hnp => ?_, hq⟩
  · rw [h3]
    show _ = nI (Z.1.eraseIdx i).length
    rw [hlz]
  · show _ = (Z.1.eraseIdx i).length
    rw [hle, hlz, l1]
  · exact l2.sublist (List.eraseIdx_sublist pl i)
  · have hj2 : j < Z.1.length - 1 := by rw [← hlz]; exact hj
    have hsame : ∀ j', j' < Z.1.length → j' ≠ i → RP (ra M1 mo) (pl.getD j' 0) (zget Z j') := by
      intro j' h1 h2
      have hm := zget_mem h1
      have hne := pl_ne l2 (i := i) (j := j') (by omega) (by omega) h2
      refine (hA j' h1).same ⟨by rw [e5, upd_ne hne], by rw [e 6 (by decide) (by decide)], by rw [e 7 (by decide) (by decide)], fun _ _ => by rw [e 8 (by decide) (by decide)], by rw [e 9 (by decide) (by decide)], fun _ _ => by rw [e 10 (by decide) (by decide)], fun _ _ => by rw [e 11 (by decide) (by decide)], fun _ _ => by rw [e 12 (by decide) (by decide)]⟩ (hZ _ hm).1 (hZ _ hm).2
    show RP _ _ (zget (Z.1.eraseIdx i, _, _, _) j)
    rw [era_get (by omega) (by omega), zget_era]
    by_cases z : j < i
    · rw [if_pos z, if_pos z]; exact hsame j (by omega) (by omega)
    · rw [if_neg z, if_neg z]; exact hsame (j + 1) (by omega) (by omega)
  · rw [e5]
    by_cases z : p = pl.getD i 0
    · rw [upd_eq z]
    · rw [upd_ne z]
      refine hE p hp (fun y => ?_)
      have h9 := (era_perm (L := pl) (i := i) (by omega)).mem_iff.mpr y
      rcases List.mem_cons.mp h9 with y2 | y2
      · exact z y2
      · exact hnp y2
set_option maxRecDepth 100000 in
set_option maxHeartbeats 1000000 in
theorem R_spawn (G : gc g X t0 l) (h : MI pw D ow sl M mo pl Z) (hZ : zok pw Z) (hp6 : pw ≤ 600) (hlat : Z.2.2.1 < 2 ^ 31) (hml : ∀ P ∈ Z.1, P.2.2.2.1.length ≤ 512) : Ok g X l yy_Mo_spawn cc_Mo_spawn 3 (some .int) 1 22 0 0 [.ref mo] M (fun v M' => rx RI9 RA mo M M' ∧ (((Z.1.length < 8 ∧ 8 ≤ Z.2.1.1) ∧ v = some (.int (nI (Z.2.2.1 + 1))) ∧ ri M' mo 0 = 0 ∧ ∃ pl2, MI pw D ow sl M' mo pl2 (zsp Z)) ∨ (¬ (Z.1.length < 8 ∧ 8 ≤ Z.2.1.1) ∧ (∃ z, v = some (.int z)) ∧ ri M' mo 0 = 1 ∧ MI pw D ow sl M' mo pl Z))) := by
  refine ok_start (by decide) (Nat.le_of_ble_eq_true rfl) (by simp [Value.category]) ?_
  intro p e s m args below meth c9 x
  have R := h.1
  have hnm := znm hZ hlat
  have h8z := hZ.2.1
  have hho := zho hZ hml
  have i3 : mm_i M 7 3 mo = nI Z.1.length := h.2.1.2.2.1
  have hsum := hZ.2.2.2.2.2.2
  have hfr : Z.2.1.1 ≤ pw := by omega
  by_cases h1c : Z.1.length = 8
  · have hc : ¬ (Z.1.length < 8 ∧ 8 ≤ Z.2.1.1) := fun z => by omega
    refine vv_aload_n (pc := 0) x dd_Mo_spawn_0 rfl ?_
    refine vv_aload_n (pc := 1) x dd_Mo_spawn_1 rfl ?_
    refine lg_Mo_114 (pc := 2) G x dd_Mo_spawn_2 R.2.2 ?_
    refine vv_bipush (pc := 5) x dd_Mo_spawn_5 (8) (by decide) ?_
    rw [i3]
    refine vv_icmp_eq (pc := 7) x dd_Mo_spawn_7 (tgt := 19) (by decide) (fun h7 => ?_) (fun h7 => absurd h7 (fun z => z (by rw [h1c]; rfl)))
    refine vv_iconst (pc := 19) x dd_Mo_spawn_19 (1) (by decide) ?_
    refine vv_goto (pc := 20) x dd_Mo_spawn_20 (tgt := 24) (by decide) ?_
    refine lp_Mo_62 (pc := 24) G x dd_Mo_spawn_24 R.2.2 ?_
    have F_N0 : rx RI9 RA mo M (mi M mo 0 1) := rx_mi.mono (by decide) (by simp)
    have t_N0 : ri (mi M mo 0 1) mo 0 = 1 := ri_mi
    have h_N0 : MI pw D ow sl (mi M mo 0 1) mo pl Z := MI_scr h (rx_mi.mono (by decide) (by simp))
    rw [show mm_si M 7 0 mo 1 = mi M mo 0 1 from rfl]
    generalize mi M mo 0 1 = N0 at *
    have R_N0 := h_N0.1
    refine vv_aload_n (pc := 27) x dd_Mo_spawn_27 rfl ?_
    refine lg_Mo_62 (pc := 28) G x dd_Mo_spawn_28 R_N0.2.2 ?_
    rw [show mm_i N0 7 0 mo = 1 from t_N0]
    refine vv_if_eq (pc := 31) x dd_Mo_spawn_31 (tgt := 36) (by decide) (fun h31 => absurd h31 (by decide)) (fun h31 => ?_)
    refine vv_iconst (pc := 34) x dd_Mo_spawn_34 (0) (by decide) ?_
    exact vv_iret (pc := 35) x dd_Mo_spawn_35 rfl (by decide) (by decide) ⟨F_N0, Or.inr ⟨hc, ⟨_, rfl⟩, t_N0, h_N0⟩⟩
  · by_cases h2c : 8 ≤ Z.2.1.1
    · have hc : Z.1.length < 8 ∧ 8 ≤ Z.2.1.1 := ⟨by omega, h2c⟩
      have hl3 : ∀ (n a : Nat) (M5 N6 : mm) (p9 : Nat), p9 < 8 → p9 ∉ pl → (∀ M7 : mm, rx [] [12] mo N6 M7 → (∀ x, ¬ (600 * p9 ≤ x ∧ x < 600 * p9 + 600) → ra M7 mo 12 x = ra N6 mo 12 x) → rx RI9 RA mo M M7 ∧ ri M7 mo 0 = 0 ∧ ri M7 mo 2 = nI (Z.2.2.1 + 1) ∧ MI pw D ow sl M7 mo (pl ++ [p9]) (zsp Z)) → rs pw D ow sl N6 mo → a + n = 600 → rx [] [12] mo N6 M5 → (∀ x, ¬ (600 * p9 ≤ x ∧ x < 600 * p9 + 600) → ra M5 mo 12 x = ra N6 mo 12 x) → vv g 3 p l e (rm 1 22 0 0) s m args below meth c9 (MQ below (ok_Q g (fun v M' => rx RI9 RA mo M M' ∧ (((Z.1.length < 8 ∧ 8 ≤ Z.2.1.1) ∧ v = some (.int (nI (Z.2.2.1 + 1))) ∧ ri M' mo 0 = 0 ∧ ∃ pl2, MI pw D ow sl M' mo pl2 (zsp Z)) ∨ (¬ (Z.1.length < 8 ∧ 8 ≤ Z.2.1.1) ∧ (∃ z, v = some (.int z)) ∧ ri M' mo 0 = 1 ∧ MI pw D ow sl M' mo pl Z)))) args s 0 0 (ok_F g)) 0 0 131 [some (.ref mo), some (.int (nI p9)), some (.int (nI a))] [] (M5) := by
        intro n
        induction n with
        | zero =>
          intro a M5 N6 p9 hp8 hpn hfin RN ha F5 e1
          obtain ⟨FF, tt, i2, hM⟩ := hfin M5 F5 e1
          have R5 := hM.1
          refine vv_iload_n (pc := 131) x dd_Mo_spawn_131 rfl ?_
          refine vv_sipush (pc := 132) x dd_Mo_spawn_132 (600) (by decide) ?_
          refine vv_icmp_ge (pc := 135) x dd_Mo_spawn_135 (tgt := 157) (by decide) (fun h135 => ?_) (fun h135 => absurd h135 (fun z => z (nI_le (a := 600) (b := a) (by omega) (by omega))))
          refine vv_aload_n (pc := 157) x dd_Mo_spawn_157 rfl ?_
          refine lg_Mo_117 (pc := 158) G x dd_Mo_spawn_158 R5.2.2 ?_
          rw [show mm_i M5 7 2 mo = nI (Z.2.2.1 + 1) from i2]
          exact vv_iret (pc := 161) x dd_Mo_spawn_161 rfl (by decide) (by decide) ⟨FF, Or.inl ⟨hc, rfl, tt, _, hM⟩⟩
        | succ n ih =>
          intro a M5 N6 p9 hp8 hpn hfin RN ha F5 e1
          have R5 := F5.to RN
          refine vv_iload_n (pc := 131) x dd_Mo_spawn_131 rfl ?_
          refine vv_sipush (pc := 132) x dd_Mo_spawn_132 (600) (by decide) ?_
          refine vv_icmp_ge (pc := 135) x dd_Mo_spawn_135 (tgt := 157) (by decide) (fun h135 => absurd h135 (nI_ge (a := a) (b := 600) (by omega) (by decide))) (fun h135 => ?_)
          refine vv_aload_n (pc := 138) x dd_Mo_spawn_138 rfl ?_
          refine lg_Mo_31 (pc := 139) G x dd_Mo_spawn_139 R5.2.2 (R5.r 12 (by decide)) ?_
          refine vv_sipush (pc := 142) x dd_Mo_spawn_142 (600) (by decide) ?_
          refine vv_iload_n (pc := 145) x dd_Mo_spawn_145 rfl ?_
          refine vv_imul (pc := 146) x dd_Mo_spawn_146 ?_
          refine vv_iload_n (pc := 147) x dd_Mo_spawn_147 rfl ?_
          refine vv_iadd (pc := 148) x dd_Mo_spawn_148 ?_
          rw [ix600]
          refine vv_iconst (pc := 149) x dd_Mo_spawn_149 (0) (by decide) ?_
          refine vv_iast (pc := 150) x dd_Mo_spawn_150 (R5.t 12 (by decide)) (in_n (N := 4800) (by omega) (R5.n 12 (by decide)) (by decide)) ?_
          rw [nI_clamp (n := 600 * p9 + a) (by omega)]
          refine vv_iinc (pc := 151) x dd_Mo_spawn_151 rfl (nI_1 a) (by decide) (ls2 := [_, _, _]) rfl ?_
          refine vv_goto (pc := 154) x dd_Mo_spawn_154 (tgt := 131) (by decide) ?_
          exact ih (a + 1) (mw M5 mo 12 (upd (ra M5 mo 12) (600 * p9 + a) 0)) N6 p9 hp8 hpn hfin RN (by omega) (F5.trans rx_mw) (fun x hx => by rw [ra_mw, upd_ne (by omega)]; exact e1 x hx)
      have hl2 : ∀ (n a : Nat) (M5 N6 : mm) (p9 : Nat), p9 < 8 → p9 ∉ pl → (∀ M7 : mm, rx [] [8, 12] mo N6 M7 → (∀ j, j < 4 → ra M7 mo 8 (4 * p9 + j) = 0) → (∀ x, ¬ (4 * p9 ≤ x ∧ x < 4 * p9 + 4) → ra M7 mo 8 x = ra N6 mo 8 x) → (∀ x, ¬ (600 * p9 ≤ x ∧ x < 600 * p9 + 600) → ra M7 mo 12 x = ra N6 mo 12 x) → rx RI9 RA mo M M7 ∧ ri M7 mo 0 = 0 ∧ ri M7 mo 2 = nI (Z.2.2.1 + 1) ∧ MI pw D ow sl M7 mo (pl ++ [p9]) (zsp Z)) → rs pw D ow sl N6 mo → a + n = 4 → rx [] [8] mo N6 M5 → (∀ j, j < a → ra M5 mo 8 (4 * p9 + j) = 0) → (∀ x, ¬ (4 * p9 ≤ x ∧ x < 4 * p9 + 4) → ra M5 mo 8 x = ra N6 mo 8 x) → vv g 3 p l e (rm 1 22 0 0) s m args below meth c9 (MQ below (ok_Q g (fun v M' => rx RI9 RA mo M M' ∧ (((Z.1.length < 8 ∧ 8 ≤ Z.2.1.1) ∧ v = some (.int (nI (Z.2.2.1 + 1))) ∧ ri M' mo 0 = 0 ∧ ∃ pl2, MI pw D ow sl M' mo pl2 (zsp Z)) ∨ (¬ (Z.1.length < 8 ∧ 8 ≤ Z.2.1.1) ∧ (∃ z, v = some (.int z)) ∧ ri M' mo 0 = 1 ∧ MI pw D ow sl M' mo pl Z)))) args s 0 0 (ok_F g)) 0 0 107 [some (.ref mo), some (.int (nI p9)), some (.int (nI a))] [] (M5) := by
        intro n
        induction n with
        | zero =>
          intro a M5 N6 p9 hp8 hpn hfin RN ha F5 e0 e1
          have R5 := F5.to RN
          refine vv_iload_n (pc := 107) x dd_Mo_spawn_107 rfl ?_
          refine vv_iconst (pc := 108) x dd_Mo_spawn_108 (4) (by decide) ?_
          refine vv_icmp_ge (pc := 109) x dd_Mo_spawn_109 (tgt := 129) (by decide) (fun h109 => ?_) (fun h109 => absurd h109 (fun z => z (nI_le (a := 4) (b := a) (by omega) (by omega))))
          refine vv_iconst (pc := 129) x dd_Mo_spawn_129 (0) (by decide) ?_
          refine vv_istore_n (pc := 130) x dd_Mo_spawn_130 (by decide) (ls2 := [_, _, _]) rfl ?_
          exact hl3 600 0 M5 M5 p9 hp8 hpn (fun M7 F7 e7 => hfin M7 ((F5.mono (by simp) (by simp)).trans (F7.mono (by simp) (by simp))) (fun j hj => by rw [F7.a R5 (by decide) (by decide) (by decide)]; exact e0 j (by omega)) (fun x hx => by rw [F7.a R5 (by decide) (by decide) (by decide)]; exact e1 x hx) (fun x hx => by rw [e7 x hx, F5.a RN (by decide) (by decide) (by decide)])) R5 (by omega) rx.rf (fun _ _ => rfl)
        | succ n ih =>
          intro a M5 N6 p9 hp8 hpn hfin RN ha F5 e0 e1
          have R5 := F5.to RN
          refine vv_iload_n (pc := 107) x dd_Mo_spawn_107 rfl ?_
          refine vv_iconst (pc := 108) x dd_Mo_spawn_108 (4) (by decide) ?_
          refine vv_icmp_ge (pc := 109) x dd_Mo_spawn_109 (tgt := 129) (by decide) (fun h109 => absurd h109 (nI_ge (a := a) (b := 4) (by omega) (by decide))) (fun h109 => ?_)
          refine vv_aload_n (pc := 112) x dd_Mo_spawn_112 rfl ?_
          refine lg_Mo_19 (pc := 113) G x dd_Mo_spawn_113 R5.2.2 (R5.r 8 (by decide)) ?_
          refine vv_iconst (pc := 116) x dd_Mo_spawn_116 (4) (by decide) ?_
          refine vv_iload_n (pc := 117) x dd_Mo_spawn_117 rfl ?_
          refine vv_imul (pc := 118) x dd_Mo_spawn_118 ?_
          refine vv_iload_n (pc := 119) x dd_Mo_spawn_119 rfl ?_
          refine vv_iadd (pc := 120) x dd_Mo_spawn_120 ?_
          rw [ix4]
          refine vv_iconst (pc := 121) x dd_Mo_spawn_121 (0) (by decide) ?_
          refine vv_iast (pc := 122) x dd_Mo_spawn_122 (R5.t 8 (by decide)) (in_n (N := 32) (by omega) (R5.n 8 (by decide)) (by decide)) ?_
          rw [nI_clamp (n := 4 * p9 + a) (by omega)]
          refine vv_iinc (pc := 123) x dd_Mo_spawn_123 rfl (nI_1 a) (by decide) (ls2 := [_, _, _]) rfl ?_
          refine vv_goto (pc := 126) x dd_Mo_spawn_126 (tgt := 107) (by decide) ?_
          exact ih (a + 1) (mw M5 mo 8 (upd (ra M5 mo 8) (4 * p9 + a) 0)) N6 p9 hp8 hpn hfin RN (by omega) (F5.trans rx_mw) (fun j hj => by
            rw [ra_mw]
            by_cases e9 : j = a
            · rw [upd_eq (by omega)]
            · rw [upd_ne (by omega)]; exact e0 j (by omega)) (fun x hx => by rw [ra_mw, upd_ne (by omega)]; exact e1 x hx)
      have hl1 : ∀ (n p9 : Nat) (N0 : mm), MI pw D ow sl N0 mo pl Z → rx [0] [] mo M N0 → ri N0 mo 0 = 0 → p9 + n = 8 → (∀ x, x < p9 → x ∈ pl) → vv g 3 p l e (rm 1 22 0 0) s m args below meth c9 (MQ below (ok_Q g (fun v M' => rx RI9 RA mo M M' ∧ (((Z.1.length < 8 ∧ 8 ≤ Z.2.1.1) ∧ v = some (.int (nI (Z.2.2.1 + 1))) ∧ ri M' mo 0 = 0 ∧ ∃ pl2, MI pw D ow sl M' mo pl2 (zsp Z)) ∨ (¬ (Z.1.length < 8 ∧ 8 ≤ Z.2.1.1) ∧ (∃ z, v = some (.int z)) ∧ ri M' mo 0 = 1 ∧ MI pw D ow sl M' mo pl Z)))) args s 0 0 (ok_F g)) 0 0 38 [some (.ref mo), some (.int (nI p9)), none] [] (N0) := by
        intro n
        induction n with
        | zero =>
          intro p9 N0 h_N0 F0 t_N0 hp hall
          exact (pl_full h.2.2.1.2.1 (by have := h.2.2.1.1; omega) (fun p hp' => hall p (by omega))).elim
        | succ n ih =>
          intro p9 N0 h_N0 F0 t_N0 hp hall
          have R_N0 := h_N0.1
          have hcp : (nI p9).toNatClampNeg = p9 := nI_clamp (by omega)
          by_cases hin : p9 ∈ pl
          · obtain ⟨x1, x2⟩ := pl_at hin
            have hRP := h_N0.2.2.2.1 (pl.idxOf p9) (by have := h.2.2.1.1; omega)
            rw [x2] at hRP
            have hnum := hnm _ (zget_mem (Z := Z) (i := pl.idxOf p9) (by have := h.2.2.1.1; omega))
            refine vv_aload_n (pc := 38) x dd_Mo_spawn_38 rfl ?_
            refine lg_Mo_7 (pc := 39) G x dd_Mo_spawn_39 R_N0.2.2 (R_N0.r 5 (by decide)) ?_
            refine vv_iload_n (pc := 42) x dd_Mo_spawn_42 rfl ?_
            refine vv_iald (pc := 43) x dd_Mo_spawn_43 (R_N0.t 5 (by decide)) (in_n (N := 8) (by omega) (R_N0.n 5 (by decide)) (by decide)) ?_
            rw [hcp, show mm_a N0 (mm_f N0 7 5 mo) p9 = nI (zget Z (pl.idxOf p9)).1 from hRP.1.1]
            refine vv_if_le (pc := 44) x dd_Mo_spawn_44 (tgt := 53) (by decide) (fun h44 => absurd h44 (fun z => by have := (nI_leI (b := 0) (by omega) (by decide)).mp z; omega)) (fun h44 => ?_)
            refine vv_iinc (pc := 47) x dd_Mo_spawn_47 rfl (nI_1 p9) (by decide) (ls2 := [_, _, none]) rfl ?_
            refine vv_goto (pc := 50) x dd_Mo_spawn_50 (tgt := 38) (by decide) ?_
            exact ih (p9 + 1) N0 h_N0 F0 t_N0 (by omega) (fun x hx => by
              by_cases e9 : x = p9
              · rw [e9]; exact hin
              · exact hall x (by omega))
          · have h50 : mm_a N0 (mm_f N0 7 5 mo) p9 = 0 := h_N0.2.2.2.2.1 p9 (by omega) hin
            refine vv_aload_n (pc := 38) x dd_Mo_spawn_38 rfl ?_
            refine lg_Mo_7 (pc := 39) G x dd_Mo_spawn_39 R_N0.2.2 (R_N0.r 5 (by decide)) ?_
            refine vv_iload_n (pc := 42) x dd_Mo_spawn_42 rfl ?_
            refine vv_iald (pc := 43) x dd_Mo_spawn_43 (R_N0.t 5 (by decide)) (in_n (N := 8) (by omega) (R_N0.n 5 (by decide)) (by decide)) ?_
            rw [hcp, h50]
            refine vv_if_le (pc := 44) x dd_Mo_spawn_44 (tgt := 53) (by decide) (fun h44 => ?_) (fun h44 => absurd h44 (fun z => z (by decide)))
            refine vv_aload_n (pc := 53) x dd_Mo_spawn_53 rfl ?_
            refine vv_dup (pc := 54) x dd_Mo_spawn_54 rfl ?_
            refine lg_Mo_117 (pc := 55) G x dd_Mo_spawn_55 R_N0.2.2 ?_
            rw [show mm_i N0 7 2 mo = nI Z.2.2.1 from h_N0.2.1.2.1]
            refine vv_iconst (pc := 58) x dd_Mo_spawn_58 (1) (by decide) ?_
            refine vv_iadd (pc := 59) x dd_Mo_spawn_59 ?_
            rw [nI_1]
            refine lp_Mo_117 (pc := 60) G x dd_Mo_spawn_60 R_N0.2.2 ?_
            rw [show mm_si N0 7 2 mo (nI (Z.2.2.1 + 1)) = mi N0 mo 2 (nI (Z.2.2.1 + 1)) from rfl]
            have F_1 : rx [2] [] mo N0 (mi N0 mo 2 (nI (Z.2.2.1 + 1))) := rx_mi
            have g2 : ri (mi N0 mo 2 (nI (Z.2.2.1 + 1))) mo 2 = nI (Z.2.2.1 + 1) := ri_mi
            have g3 : ri (mi N0 mo 2 (nI (Z.2.2.1 + 1))) mo 3 = nI Z.1.length := (ri_mi_n (by decide)).trans h_N0.2.1.2.2.1
            generalize mi N0 mo 2 (nI (Z.2.2.1 + 1)) = N1 at *
            have R_1 := F_1.to R_N0
            refine vv_aload_n (pc := 63) x dd_Mo_spawn_63 rfl ?_
            refine vv_dup (pc := 64) x dd_Mo_spawn_64 rfl ?_
            refine lg_Mo_114 (pc := 65) G x dd_Mo_spawn_65 R_1.2.2 ?_
            rw [show mm_i N1 7 3 mo = nI Z.1.length from g3]
            refine vv_iconst (pc := 68) x dd_Mo_spawn_68 (1) (by decide) ?_
            refine vv_iadd (pc := 69) x dd_Mo_spawn_69 ?_
            rw [nI_1]
            refine lp_Mo_114 (pc := 70) G x dd_Mo_spawn_70 R_1.2.2 ?_
            rw [show mm_si N1 7 3 mo (nI (Z.1.length + 1)) = mi N1 mo 3 (nI (Z.1.length + 1)) from rfl]
            have F_2 : rx [2, 3] [] mo N0 (mi N1 mo 3 (nI (Z.1.length + 1))) := (F_1.mono (by simp) (by simp)).trans (rx_mi.mono (by simp) (by simp))
            have g3b : ri (mi N1 mo 3 (nI (Z.1.length + 1))) mo 3 = nI (Z.1.length + 1) := ri_mi
            have g2b : ri (mi N1 mo 3 (nI (Z.1.length + 1))) mo 2 = nI (Z.2.2.1 + 1) := (ri_mi_n (by decide)).trans g2
            generalize mi N1 mo 3 (nI (Z.1.length + 1)) = N2 at *
            have R_2 := F_2.to R_N0
            refine vv_aload_n (pc := 73) x dd_Mo_spawn_73 rfl ?_
            refine lg_Mo_7 (pc := 74) G x dd_Mo_spawn_74 R_2.2.2 (R_2.r 5 (by decide)) ?_
            refine vv_iload_n (pc := 77) x dd_Mo_spawn_77 rfl ?_
            refine vv_aload_n (pc := 78) x dd_Mo_spawn_78 rfl ?_
            refine lg_Mo_117 (pc := 79) G x dd_Mo_spawn_79 R_2.2.2 ?_
            rw [show mm_i N2 7 2 mo = nI (Z.2.2.1 + 1) from g2b]
            refine vv_iast (pc := 82) x dd_Mo_spawn_82 (R_2.t 5 (by decide)) (in_n (N := 8) (by omega) (R_2.n 5 (by decide)) (by decide)) ?_
            rw [nI_clamp (n := p9) (by omega), show mm_sa N2 (mm_f N2 7 5 mo) (upd (mm_a N2 (mm_f N2 7 5 mo)) p9 (nI (Z.2.2.1 + 1))) = mw N2 mo 5 (upd (ra N2 mo 5) p9 (nI (Z.2.2.1 + 1))) from rfl]
            have F_N3 : rx [] [5] mo N2 (mw N2 mo 5 (upd (ra N2 mo 5) p9 (nI (Z.2.2.1 + 1)))) := rx_mw
            have w_N3 : ra (mw N2 mo 5 (upd (ra N2 mo 5) p9 (nI (Z.2.2.1 + 1)))) mo 5 = upd (ra N2 mo 5) p9 (nI (Z.2.2.1 + 1)) := ra_mw
            generalize mw N2 mo 5 (upd (ra N2 mo 5) p9 (nI (Z.2.2.1 + 1))) = N3 at *
            have R_N3 := F_N3.to R_2
            refine vv_aload_n (pc := 83) x dd_Mo_spawn_83 rfl ?_
            refine lg_Mo_13 (pc := 84) G x dd_Mo_spawn_84 R_N3.2.2 (R_N3.r 6 (by decide)) ?_
            refine vv_iload_n (pc := 87) x dd_Mo_spawn_87 rfl ?_
            refine vv_bipush (pc := 88) x dd_Mo_spawn_88 (8) (by decide) ?_
            refine vv_iast (pc := 90) x dd_Mo_spawn_90 (R_N3.t 6 (by decide)) (in_n (N := 8) (by omega) (R_N3.n 6 (by decide)) (by decide)) ?_
            rw [nI_clamp (n := p9) (by omega), show mm_sa N3 (mm_f N3 7 6 mo) (upd (mm_a N3 (mm_f N3 7 6 mo)) p9 8) = mw N3 mo 6 (upd (ra N3 mo 6) p9 8) from rfl]
            have F_N4 : rx [] [6] mo N3 (mw N3 mo 6 (upd (ra N3 mo 6) p9 8)) := rx_mw
            have w_N4 : ra (mw N3 mo 6 (upd (ra N3 mo 6) p9 8)) mo 6 = upd (ra N3 mo 6) p9 8 := ra_mw
            generalize mw N3 mo 6 (upd (ra N3 mo 6) p9 8) = N4 at *
            have R_N4 := F_N4.to R_N3
            refine vv_aload_n (pc := 91) x dd_Mo_spawn_91 rfl ?_
            refine lg_Mo_16 (pc := 92) G x dd_Mo_spawn_92 R_N4.2.2 (R_N4.r 7 (by decide)) ?_
            refine vv_iload_n (pc := 95) x dd_Mo_spawn_95 rfl ?_
            refine vv_iconst (pc := 96) x dd_Mo_spawn_96 (0) (by decide) ?_
            refine vv_iast (pc := 97) x dd_Mo_spawn_97 (R_N4.t 7 (by decide)) (in_n (N := 8) (by omega) (R_N4.n 7 (by decide)) (by decide)) ?_
            rw [nI_clamp (n := p9) (by omega), show mm_sa N4 (mm_f N4 7 7 mo) (upd (mm_a N4 (mm_f N4 7 7 mo)) p9 0) = mw N4 mo 7 (upd (ra N4 mo 7) p9 0) from rfl]
            have F_N5 : rx [] [7] mo N4 (mw N4 mo 7 (upd (ra N4 mo 7) p9 0)) := rx_mw
            have w_N5 : ra (mw N4 mo 7 (upd (ra N4 mo 7) p9 0)) mo 7 = upd (ra N4 mo 7) p9 0 := ra_mw
            generalize mw N4 mo 7 (upd (ra N4 mo 7) p9 0) = N5 at *
            have R_N5 := F_N5.to R_N4
            refine vv_aload_n (pc := 98) x dd_Mo_spawn_98 rfl ?_
            refine lg_Mo_22 (pc := 99) G x dd_Mo_spawn_99 R_N5.2.2 (R_N5.r 9 (by decide)) ?_
            refine vv_iload_n (pc := 102) x dd_Mo_spawn_102 rfl ?_
            refine vv_iconst (pc := 103) x dd_Mo_spawn_103 (0) (by decide) ?_
            refine vv_iast (pc := 104) x dd_Mo_spawn_104 (R_N5.t 9 (by decide)) (in_n (N := 8) (by omega) (R_N5.n 9 (by decide)) (by decide)) ?_
            rw [nI_clamp (n := p9) (by omega), show mm_sa N5 (mm_f N5 7 9 mo) (upd (mm_a N5 (mm_f N5 7 9 mo)) p9 0) = mw N5 mo 9 (upd (ra N5 mo 9) p9 0) from rfl]
            have F_N6 : rx [] [9] mo N5 (mw N5 mo 9 (upd (ra N5 mo 9) p9 0)) := rx_mw
            have w_N6 : ra (mw N5 mo 9 (upd (ra N5 mo 9) p9 0)) mo 9 = upd (ra N5 mo 9) p9 0 := ra_mw
            generalize mw N5 mo 9 (upd (ra N5 mo 9) p9 0) = N6 at *
            have R_N6 := F_N6.to R_N5
            refine vv_iconst (pc := 105) x dd_Mo_spawn_105 (0) (by decide) ?_
            refine vv_istore_n (pc := 106) x dd_Mo_spawn_106 (by decide) (ls2 := [_, _, _]) rfl ?_
            have FX : rx [0, 2, 3] [5, 6, 7, 8, 9, 12] mo M N6 := (((((F0.mono (by simp) (by simp)).trans (F_2.mono (by simp) (by simp))).trans (F_N3.mono (by simp) (by simp))).trans (F_N4.mono (by simp) (by simp))).trans (F_N5.mono (by simp) (by simp))).trans (F_N6.mono (by simp) (by simp))
            have FY : rx [2, 3] [5, 6, 7, 9] mo N0 N6 := ((((F_2.mono (by simp) (by simp)).trans (F_N3.mono (by simp) (by simp))).trans (F_N4.mono (by simp) (by simp))).trans (F_N5.mono (by simp) (by simp))).trans (F_N6.mono (by simp) (by simp))
            have s5 : ra N6 mo 5 = upd (ra N0 mo 5) p9 (nI (Z.2.2.1 + 1)) := by rw [F_N6.a R_N5 (by decide) (by decide) (by decide), F_N5.a R_N4 (by decide) (by decide) (by decide), F_N4.a R_N3 (by decide) (by decide) (by decide), w_N3, F_2.a R_N0 (by decide) (by simp) (by simp)]
            have s6 : ra N6 mo 6 = upd (ra N0 mo 6) p9 8 := by rw [F_N6.a R_N5 (by decide) (by decide) (by decide), F_N5.a R_N4 (by decide) (by decide) (by decide), w_N4, F_N3.a R_2 (by decide) (by decide) (by decide), F_2.a R_N0 (by decide) (by simp) (by simp)]
            have s7 : ra N6 mo 7 = upd (ra N0 mo 7) p9 0 := by rw [F_N6.a R_N5 (by decide) (by decide) (by decide), w_N5, F_N4.a R_N3 (by decide) (by decide) (by decide), F_N3.a R_2 (by decide) (by decide) (by decide), F_2.a R_N0 (by decide) (by simp) (by simp)]
            have s9 : ra N6 mo 9 = upd (ra N0 mo 9) p9 0 := by rw [w_N6, F_N5.a R_N4 (by decide) (by decide) (by decide), F_N4.a R_N3 (by decide) (by decide) (by decide), F_N3.a R_2 (by decide) (by decide) (by decide), F_2.a R_N0 (by decide) (by simp) (by simp)]
            have j2 : ri N6 mo 2 = nI (Z.2.2.1 + 1) := by rw [F_N6.i (by simp), F_N5.i (by simp), F_N4.i (by simp), F_N3.i (by simp)]; exact g2b
            have j3 : ri N6 mo 3 = nI (Z.1.length + 1) := by rw [F_N6.i (by simp), F_N5.i (by simp), F_N4.i (by simp), F_N3.i (by simp)]; exact g3b
            have j0 : ri N6 mo 0 = 0 := (FY.i (by decide)).trans t_N0
            refine hl2 4 0 N6 N6 p9 (by omega) hin (fun M7 F7 c0 c1 c2 => ?_) R_N6 (by omega) rx.rf (fun j hj => by omega) (fun _ _ => rfl)
            have u : ∀ k, k ∈ RA → k ∉ [8, 12] → ra M7 mo k = ra N6 mo k := fun k h1 h2 => F7.a R_N6 h1 (by decide) h2
            have FZ : rx [0, 2, 3] [5, 6, 7, 8, 9, 12] mo N0 M7 := (FY.mono (by simp) (by simp)).trans (F7.mono (by simp) (by simp))
            refine ⟨(FX.mono (by decide) (by decide)).trans (F7.mono (by simp) (by decide)), (F7.i (by simp)).trans j0, (F7.i (by simp)).trans j2, ?_⟩
            exact MI_sp h_N0 hho (by omega) hin FZ ((F7.i (by simp)).trans j2) ((F7.i (by simp)).trans j3) ((u 5 (by decide) (by decide)).trans s5) ((u 6 (by decide) (by decide)).trans s6) ((u 7 (by decide) (by decide)).trans s7) ((u 9 (by decide) (by decide)).trans s9) c0 (fun x hx => (c1 x hx).trans (by rw [FY.a R_N0 (by decide) (by decide) (by decide)])) (fun x hx => (c2 x hx).trans (by rw [FY.a R_N0 (by decide) (by decide) (by decide)]))
      refine vv_aload_n (pc := 0) x dd_Mo_spawn_0 rfl ?_
      refine vv_aload_n (pc := 1) x dd_Mo_spawn_1 rfl ?_
      refine lg_Mo_114 (pc := 2) G x dd_Mo_spawn_2 R.2.2 ?_
      refine vv_bipush (pc := 5) x dd_Mo_spawn_5 (8) (by decide) ?_
      rw [i3]
      refine vv_icmp_eq (pc := 7) x dd_Mo_spawn_7 (tgt := 19) (by decide) (fun h7 => absurd h7 (fun z => h1c ((nI_eq (b := 8) (by omega) (by decide)).mp z))) (fun h7 => ?_)
      refine vv_aload_n (pc := 10) x dd_Mo_spawn_10 rfl ?_
      refine lv_Mo_110 (pc := 11) G x dd_Mo_spawn_11 (R_free G h hsum hnm) R.2.2 ⟨by decide, by decide⟩ (by decide) (by decide) (Nat.le_of_ble_eq_true rfl) (fun v11 M11 q11 => ?_)
      obtain ⟨rfl, hm11⟩ := q11
      have hm11 := hm11.symm
      subst hm11
      refine vv_bipush (pc := 14) x dd_Mo_spawn_14 (8) (by decide) ?_
      refine vv_icmp_ge (pc := 16) x dd_Mo_spawn_16 (tgt := 23) (by decide) (fun h16 => ?_) (fun h16 => absurd h16 (fun z => z (nI_le h2c (by omega))))
      refine vv_iconst (pc := 23) x dd_Mo_spawn_23 (0) (by decide) ?_
      refine lp_Mo_62 (pc := 24) G x dd_Mo_spawn_24 R.2.2 ?_
      have F_N0 : rx [0] [] mo M (mi M mo 0 0) := rx_mi
      have t_N0 : ri (mi M mo 0 0) mo 0 = 0 := ri_mi
      have h_N0 : MI pw D ow sl (mi M mo 0 0) mo pl Z := MI_scr h (rx_mi.mono (by decide) (by simp))
      rw [show mm_si M 7 0 mo 0 = mi M mo 0 0 from rfl]
      generalize mi M mo 0 0 = N0 at *
      have R_N0 := h_N0.1
      refine vv_aload_n (pc := 27) x dd_Mo_spawn_27 rfl ?_
      refine lg_Mo_62 (pc := 28) G x dd_Mo_spawn_28 R_N0.2.2 ?_
      rw [show mm_i N0 7 0 mo = 0 from t_N0]
      refine vv_if_eq (pc := 31) x dd_Mo_spawn_31 (tgt := 36) (by decide) (fun h31 => ?_) (fun h31 => absurd h31 (fun z => z rfl))
      refine vv_iconst (pc := 36) x dd_Mo_spawn_36 (0) (by decide) ?_
      refine vv_istore_n (pc := 37) x dd_Mo_spawn_37 (by decide) (ls2 := [_, _, none]) rfl ?_
      exact hl1 8 0 N0 h_N0 F_N0 t_N0 (by omega) (fun x hx => by omega)
    · have hc : ¬ (Z.1.length < 8 ∧ 8 ≤ Z.2.1.1) := fun z => h2c z.2
      refine vv_aload_n (pc := 0) x dd_Mo_spawn_0 rfl ?_
      refine vv_aload_n (pc := 1) x dd_Mo_spawn_1 rfl ?_
      refine lg_Mo_114 (pc := 2) G x dd_Mo_spawn_2 R.2.2 ?_
      refine vv_bipush (pc := 5) x dd_Mo_spawn_5 (8) (by decide) ?_
      rw [i3]
      refine vv_icmp_eq (pc := 7) x dd_Mo_spawn_7 (tgt := 19) (by decide) (fun h7 => absurd h7 (fun z => h1c ((nI_eq (b := 8) (by omega) (by decide)).mp z))) (fun h7 => ?_)
      refine vv_aload_n (pc := 10) x dd_Mo_spawn_10 rfl ?_
      refine lv_Mo_110 (pc := 11) G x dd_Mo_spawn_11 (R_free G h hsum hnm) R.2.2 ⟨by decide, by decide⟩ (by decide) (by decide) (Nat.le_of_ble_eq_true rfl) (fun v11 M11 q11 => ?_)
      obtain ⟨rfl, hm11⟩ := q11
      have hm11 := hm11.symm
      subst hm11
      refine vv_bipush (pc := 14) x dd_Mo_spawn_14 (8) (by decide) ?_
      refine vv_icmp_ge (pc := 16) x dd_Mo_spawn_16 (tgt := 23) (by decide) (fun h16 => absurd h16 (nI_ge (a := Z.2.1.1) (b := 8) (by omega) (by decide))) (fun h16 => ?_)
      refine vv_iconst (pc := 19) x dd_Mo_spawn_19 (1) (by decide) ?_
      refine vv_goto (pc := 20) x dd_Mo_spawn_20 (tgt := 24) (by decide) ?_
      refine lp_Mo_62 (pc := 24) G x dd_Mo_spawn_24 R.2.2 ?_
      have F_N0 : rx RI9 RA mo M (mi M mo 0 1) := rx_mi.mono (by decide) (by simp)
      have t_N0 : ri (mi M mo 0 1) mo 0 = 1 := ri_mi
      have h_N0 : MI pw D ow sl (mi M mo 0 1) mo pl Z := MI_scr h (rx_mi.mono (by decide) (by simp))
      rw [show mm_si M 7 0 mo 1 = mi M mo 0 1 from rfl]
      generalize mi M mo 0 1 = N0 at *
      have R_N0 := h_N0.1
      refine vv_aload_n (pc := 27) x dd_Mo_spawn_27 rfl ?_
      refine lg_Mo_62 (pc := 28) G x dd_Mo_spawn_28 R_N0.2.2 ?_
      rw [show mm_i N0 7 0 mo = 1 from t_N0]
      refine vv_if_eq (pc := 31) x dd_Mo_spawn_31 (tgt := 36) (by decide) (fun h31 => absurd h31 (by decide)) (fun h31 => ?_)
      refine vv_iconst (pc := 34) x dd_Mo_spawn_34 (0) (by decide) ?_
      exact vv_iret (pc := 35) x dd_Mo_spawn_35 rfl (by decide) (by decide) ⟨F_N0, Or.inr ⟨hc, ⟨_, rfl⟩, t_N0, h_N0⟩⟩
end M62
