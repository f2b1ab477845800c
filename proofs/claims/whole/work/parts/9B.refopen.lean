/-! ===== the reference: a block is added ===== -/
section M58
variable {g : gg} {X : State → Prop} {t0 : Nat} {l : Launch} {M : mm} {M1 M2 : mm} {pw : Nat} {D : Nat → Prop} {ow sl : Nat → Nat} {mo : Nat} {Ki Ka : List Nat} {k : Nat} {pl : List Nat} {Z : zst} {B : List bk} {b : bk}
theorem zroom_ml2 {i n : Nat} (h : ∀ P ∈ Z.1, P.2.2.2.1.length ≤ 512) (hi : i < Z.1.length) : ∀ P ∈ (zroom Z i n).2.1, P.2.2.2.1.length ≤ 512 := by
  unfold zroom
  split
  · exact h
  · have hc := zcol_ml2 h hi
    split
    · intro P hP
      rcases List.mem_or_eq_of_mem_set hP with e | e
      · exact hc P e
      · rw [e]; exact hc (zget (zcol Z i) i) (zget_mem (by rw [zcol_len]; exact hi))
    · exact hc
theorem zroom_lat {i n : Nat} : (zroom Z i n).2.2.2.1 = Z.2.2.1 := by
  unfold zroom
  split
  · rfl
  · split <;> rfl
/-- a block more -/
theorem MI_blk {i : Nat} {p' : pp} (h : MI pw D ow sl M mo pl Z) (hZ : ∀ P ∈ Z.1, hok P.2.2.2.2 ∧ P.2.2.2.1.length ≤ 512) (hi : i < Z.1.length) (hs : hsz (zget Z i).2.2.2.2 + bsz b ≤ 600) (F : rx [13] [7, 11, 12, 14, 15] mo M M1) (h7 : ra M1 mo 7 = upd (ra M mo 7) (pl.getD i 0) (nI (hsz (zget Z i).2.2.2.2 + bsz b))) (h12 : ra M1 mo 12 (600 * pl.getD i 0 + hsz (zget Z i).2.2.2.2) = nI b.1 ∧ ∀ j, 0 < j → j < bsz b → ra M1 mo 12 (600 * pl.getD i 0 + hsz (zget Z i).2.2.2.2 + j) = 0) (h12o : ∀ x, ¬ (600 * pl.getD i 0 + hsz (zget Z i).2.2.2.2 ≤ x ∧ x < 600 * pl.getD i 0 + hsz (zget Z i).2.2.2.2 + bsz b) → ra M1 mo 12 x = ra M mo 12 x) (h11 : ∀ j, j < bsz b → ¬ (b.1 = 5 ∧ j = 1) → ra M1 mo 11 (600 * pl.getD i 0 + hsz (zget Z i).2.2.2.2 + j) = bwd b j) (h11o : ∀ x, ¬ (600 * pl.getD i 0 + hsz (zget Z i).2.2.2.2 ≤ x ∧ x < 600 * pl.getD i 0 + hsz (zget Z i).2.2.2.2 + bsz b) → ra M1 mo 11 x = ra M mo 11 x) (hq : RQ M1 mo p') : MI pw D ow sl M1 mo pl (zbk (Z.1, p', Z.2.2.1, Z.2.2.2) i b) := by
  obtain ⟨R, ⟨i1, i2, i3, i4⟩, ⟨l1, l2, l3⟩, hA, hE, -⟩ := id h
  have e : ∀ k, k ∈ RA → k ∉ [7, 11, 12, 14, 15] → ra M1 mo k = ra M mo k := fun k h1 h2 => F.a R h1 (by decide) h2
  obtain ⟨⟨a1, a2, a3⟩, a4, ⟨a5, a6⟩, a7, a8⟩ := hA i hi
  have bp := bsz_pos b
  refine (MI_step (Z := Z) (P' := ((zget Z i).1, (zget Z i).2.1, (zget Z i).2.2.1, (zget Z i).2.2.2.1, (zget Z i).2.2.2.2 ++ [b])) (p' := p') (x := Z.2.2.1) (y := Z.2.2.2) h hZ F hi (fun p hp hne => ?_) ?_ (F.i (by decide)) ((F.i (by decide)).trans i2) (F.i (by decide)) ((F.i (by decide)).trans i4) hq : _)
  · unfold sameP
    rw [e 5 (by decide) (by decide), e 6 (by decide) (by decide), e 8 (by decide) (by decide), e 9 (by decide) (by decide), e 10 (by decide) (by decide), h7, upd_ne hne]
    exact ⟨rfl, rfl, rfl, fun _ _ => rfl, rfl, fun _ _ => rfl, fun x hx => h11o _ (by omega), fun x hx => h12o _ (by omega)⟩
  · show RP _ _ ((zget Z i).1, (zget Z i).2.1, (zget Z i).2.2.1, (zget Z i).2.2.2.1, (zget Z i).2.2.2.2 ++ [b])
    unfold RP
    rw [e 5 (by decide) (by decide), e 6 (by decide) (by decide), e 8 (by decide) (by decide), e 9 (by decide) (by decide), e 10 (by decide) (by decide), h7, upd_eq rfl]
    refine ⟨⟨a1, a2, by rw [hsz_1]⟩, a4, ⟨a5, a6⟩, ?_, ?_⟩
    · exact wv_app (W := fun a => ra M mo 11 (600 * pl.getD i 0 + a)) a7 (fun x hx => h11o _ (by omega)) (fun j hj h5 => by
        show ra M1 mo 11 (600 * pl.getD i 0 + (hsz (zget Z i).2.2.2.2 + j)) = _
        rw [← Nat.add_assoc]; exact h11 j hj h5)
    · exact kv_app (W := fun a => ra M mo 12 (600 * pl.getD i 0 + a)) a8 (fun x hx => h12o _ (by omega)) h12.1 (fun j h1 h2 => by
        show ra M1 mo 12 (600 * pl.getD i 0 + (hsz (zget Z i).2.2.2.2 + j)) = _
        rw [← Nat.add_assoc]; exact h12.2 j h1 h2)
set_option maxRecDepth 100000 in
set_option maxHeartbeats 1000000 in
theorem R_open (G : gc g X t0 l) (h : MI pw D ow sl M mo pl Z) {i : Nat} (hi : i < Z.1.length) {kn sz : Nat} (hs1 : 1 ≤ sz) (hs : hsz (zget Z i).2.2.2.2 + sz ≤ 600) : Ok g X l yy_Mo_open cc_Mo_open 6 (some .int) 0 0 0 0 [.ref mo, .int (nI (pl.getD i 0)), .int (nI kn), .int (nI sz)] M (fun v M' => v = some (.int (nI (hsz (zget Z i).2.2.2.2))) ∧ rx [] [7, 12] mo M M' ∧ ra M' mo 7 = upd (ra M mo 7) (pl.getD i 0) (nI (hsz (zget Z i).2.2.2.2 + sz)) ∧ (ra M' mo 12 (600 * pl.getD i 0 + hsz (zget Z i).2.2.2.2) = nI kn ∧ ∀ j, 0 < j → j < sz → ra M' mo 12 (600 * pl.getD i 0 + hsz (zget Z i).2.2.2.2 + j) = 0) ∧ ∀ x, ¬ (600 * pl.getD i 0 + hsz (zget Z i).2.2.2.2 ≤ x ∧ x < 600 * pl.getD i 0 + hsz (zget Z i).2.2.2.2 + sz) → ra M' mo 12 x = ra M mo 12 x) := by
  refine ok_start (by decide) (Nat.le_of_ble_eq_true rfl) (by simp [Value.category]) ?_
  intro p e s m args below meth c9 x
  obtain ⟨R, -, ⟨l1, l2, l3⟩, hA, -⟩ := id h
  have hp8 : pl.getD i 0 < 8 := l3 _ (getD_memN (by omega))
  obtain ⟨⟨a1, a2, a3⟩, -⟩ := hA i hi
  have hcp : (nI (pl.getD i 0)).toNatClampNeg = pl.getD i 0 := nI_clamp (by omega)
  have g7 : mm_a M (mm_f M 7 7 mo) (pl.getD i 0) = nI (hsz (zget Z i).2.2.2.2) := a3
  generalize hU : hsz (zget Z i).2.2.2.2 = U at *
  generalize hP : pl.getD i 0 = P at *
  have hloop : ∀ (n j : Nat) (M5 : mm), j + n = sz → 1 ≤ j → rx [] [12] mo M M5 → ra M5 mo 12 (600 * P + U) = nI kn → (∀ x, 0 < x → x < j → ra M5 mo 12 (600 * P + U + x) = 0) → (∀ x, ¬ (600 * P + U ≤ x ∧ x < 600 * P + U + j) → ra M5 mo 12 x = ra M mo 12 x) → vv g 6 p l e (rm 0 0 0 0) s m args below meth c9 (MQ below (ok_Q g (fun v M' => v = some (.int (nI (U))) ∧ rx [] [7, 12] mo M M' ∧ ra M' mo 7 = upd (ra M mo 7) (P) (nI (U + sz)) ∧ (ra M' mo 12 (600 * P + U) = nI kn ∧ ∀ j, 0 < j → j < sz → ra M' mo 12 (600 * P + U + j) = 0) ∧ ∀ x, ¬ (600 * P + U ≤ x ∧ x < 600 * P + U + sz) → ra M' mo 12 x = ra M mo 12 x)) args s 0 0 (ok_F g)) 0 0 25 [some (.ref mo), some (.int (nI P)), some (.int (nI kn)), some (.int (nI sz)), some (.int (nI U)), some (.int (nI j))] [] (M5) := by
    intro n
    induction n with
    | zero =>
      intro j M5 hj h1 F5 e0 e1 e2
      have R5 := F5.to R
      have s7 : mm_a M5 (mm_f M5 7 7 mo) P = nI U := by
        show ra M5 mo 7 P = _
        rw [F5.a R (by decide) (by decide) (by decide)]
        exact g7
      have ej : j = sz := by omega
      subst ej
      refine vv_iload (pc := 25) x dd_Mo_open_25 rfl ?_
      refine vv_iload_n (pc := 27) x dd_Mo_open_27 rfl ?_
      refine vv_icmp_ge (pc := 28) x dd_Mo_open_28 (tgt := 54) (by decide) (fun h28 => ?_) (fun h28 => absurd h28 (fun z => z (nI_le (Nat.le_refl _) (by omega))))
      refine vv_aload_n (pc := 54) x dd_Mo_open_54 rfl ?_
      refine lg_Mo_16 (pc := 55) G x dd_Mo_open_55 R5.2.2 (R5.r 7 (by decide)) ?_
      refine vv_iload_n (pc := 58) x dd_Mo_open_58 rfl ?_
      refine vv_dup2 (pc := 59) x dd_Mo_open_59 rfl rfl ?_
      refine vv_iald (pc := 60) x dd_Mo_open_60 (R5.t 7 (by decide)) (in_n (N := 8) (by omega) (R5.n 7 (by decide)) (by decide)) ?_
      rw [hcp, s7]
      refine vv_iload_n (pc := 61) x dd_Mo_open_61 rfl ?_
      refine vv_iadd (pc := 62) x dd_Mo_open_62 ?_
      rw [nI_add]
      refine vv_iast (pc := 63) x dd_Mo_open_63 (R5.t 7 (by decide)) (in_n (N := 8) (by omega) (R5.n 7 (by decide)) (by decide)) ?_
      rw [hcp]
      refine vv_iload (pc := 64) x dd_Mo_open_64 rfl ?_
      exact vv_iret (pc := 66) x dd_Mo_open_66 rfl (by decide) (by decide) ⟨rfl, (F5.mono (by simp) (by simp)).trans (rx_mw.mono (by simp) (by simp)), by
          show ra (mw M5 mo 7 _) mo 7 = _
          rw [ra_mw]
          show upd (ra M5 mo 7) P _ = _
          rw [F5.a R (by decide) (by decide) (by decide)], ⟨by
          show ra (mw M5 mo 7 _) mo 12 _ = _
          rw [ra_mw_n R5 (by decide) (by decide) (by decide)]; exact e0, fun x h1 h2 => by
          show ra (mw M5 mo 7 _) mo 12 _ = _
          rw [ra_mw_n R5 (by decide) (by decide) (by decide)]; exact e1 x h1 h2⟩, fun x hx => by
          show ra (mw M5 mo 7 _) mo 12 _ = _
          rw [ra_mw_n R5 (by decide) (by decide) (by decide)]; exact e2 x hx⟩
    | succ n ih =>
      intro j M5 hj h1 F5 e0 e1 e2
      have R5 := F5.to R
      refine vv_iload (pc := 25) x dd_Mo_open_25 rfl ?_
      refine vv_iload_n (pc := 27) x dd_Mo_open_27 rfl ?_
      refine vv_icmp_ge (pc := 28) x dd_Mo_open_28 (tgt := 54) (by decide) (fun h28 => absurd h28 (nI_ge (by omega) (by omega))) (fun h28 => ?_)
      refine vv_aload_n (pc := 31) x dd_Mo_open_31 rfl ?_
      refine lg_Mo_31 (pc := 32) G x dd_Mo_open_32 R5.2.2 (R5.r 12 (by decide)) ?_
      refine vv_sipush (pc := 35) x dd_Mo_open_35 (600) (by decide) ?_
      refine vv_iload_n (pc := 38) x dd_Mo_open_38 rfl ?_
      refine vv_imul (pc := 39) x dd_Mo_open_39 ?_
      refine vv_iload (pc := 40) x dd_Mo_open_40 rfl ?_
      refine vv_iadd (pc := 42) x dd_Mo_open_42 ?_
      rw [ix600]
      refine vv_iload (pc := 43) x dd_Mo_open_43 rfl ?_
      refine vv_iadd (pc := 45) x dd_Mo_open_45 ?_
      rw [nI_add]
      refine vv_iconst (pc := 46) x dd_Mo_open_46 (0) (by decide) ?_
      refine vv_iast (pc := 47) x dd_Mo_open_47 (R5.t 12 (by decide)) (in_n (N := 4800) (by omega) (R5.n 12 (by decide)) (by decide)) ?_
      rw [nI_clamp (n := 600 * P + U + j) (by omega)]
      refine vv_iinc (pc := 48) x dd_Mo_open_48 rfl (nI_1 j) (by decide) (ls2 := [_, _, _, _, _, _]) rfl ?_
      refine vv_goto (pc := 51) x dd_Mo_open_51 (tgt := 25) (by decide) ?_
      exact ih (j + 1) (mw M5 mo 12 (upd (ra M5 mo 12) (600 * P + U + j) 0)) (by omega) (by omega) (F5.trans rx_mw) (by rw [ra_mw, upd_ne (by omega)]; exact e0) (fun x h1 h2 => by
        rw [ra_mw]
        by_cases e9 : x = j
        · rw [upd_eq (by omega)]
        · rw [upd_ne (by omega)]; exact e1 x h1 (by omega)) (fun x hx => by
        rw [ra_mw, upd_ne (by omega)]
        exact e2 x (by omega))
  refine vv_aload_n (pc := 0) x dd_Mo_open_0 rfl ?_
  refine lg_Mo_16 (pc := 1) G x dd_Mo_open_1 R.2.2 (R.r 7 (by decide)) ?_
  refine vv_iload_n (pc := 4) x dd_Mo_open_4 rfl ?_
  refine vv_iald (pc := 5) x dd_Mo_open_5 (R.t 7 (by decide)) (in_n (N := 8) (by omega) (R.n 7 (by decide)) (by decide)) ?_
  rw [hcp, g7]
  refine vv_istore (pc := 6) x dd_Mo_open_6 (by decide) (ls2 := [_, _, _, _, _, none]) rfl ?_
  refine vv_aload_n (pc := 8) x dd_Mo_open_8 rfl ?_
  refine lg_Mo_31 (pc := 9) G x dd_Mo_open_9 R.2.2 (R.r 12 (by decide)) ?_
  refine vv_sipush (pc := 12) x dd_Mo_open_12 (600) (by decide) ?_
  refine vv_iload_n (pc := 15) x dd_Mo_open_15 rfl ?_
  refine vv_imul (pc := 16) x dd_Mo_open_16 ?_
  refine vv_iload (pc := 17) x dd_Mo_open_17 rfl ?_
  refine vv_iadd (pc := 19) x dd_Mo_open_19 ?_
  rw [ix600]
  refine vv_iload_n (pc := 20) x dd_Mo_open_20 rfl ?_
  refine vv_iast (pc := 21) x dd_Mo_open_21 (R.t 12 (by decide)) (in_n (N := 4800) (by omega) (R.n 12 (by decide)) (by decide)) ?_
  rw [nI_clamp (n := 600 * P + U) (by omega)]
  refine vv_iconst (pc := 22) x dd_Mo_open_22 (1) (by decide) ?_
  refine vv_istore (pc := 23) x dd_Mo_open_23 (by decide) (ls2 := [_, _, _, _, _, _]) rfl ?_
  exact hloop (sz - 1) 1 (mw M mo 12 (upd (ra M mo 12) (600 * P + U) (nI kn))) (by omega) (by omega) rx_mw (by rw [ra_mw, upd_eq rfl]) (fun x h1 h2 => by omega) (fun x hx => by rw [ra_mw, upd_ne (by omega)])
end M58
