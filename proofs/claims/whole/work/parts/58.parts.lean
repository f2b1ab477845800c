/-! ===== all pairs of terms are looked at ===== -/
section M15
variable {g : gg} {X : State → Prop} {t0 : Nat} {l : Launch} {M : mm} {pw : Nat} {D : Nat → Prop} {ow sl : Nat → Nat} {B C : List bk} {co hl hr : Nat} {sb st : List (Int32 × Int32)} {xt yt : Int32}
theorem fr.cm {M1 M2 : mm} (F1 : fr (cmI co) (cmR co) (cmA M co) M M1) (F2 : fr (cmI co) (cmR co) (cmA M1 co) M1 M2) : fr (cmI co) (cmR co) (cmA M co) M M2 := by
  have e2 : mm_f M1 1 2 co = mm_f M 1 2 co := F1.f (fun z => absurd z.2.1 (by decide))
  have e3 : mm_f M1 1 3 co = mm_f M 1 3 co := F1.f (fun z => absurd z.2.1 (by decide))
  exact F1.trans (F2.mono (fun _ _ _ z => z) (fun _ _ _ z => z) (fun a z => by unfold cmA at *; rw [e2, e3] at z; exact z))
theorem heap_cm {M1 : mm} {h : Nat} (S : sh pw D ow sl M) (hp : pw ≠ 0) (hD : D co) (hT : mm_t M co = 2) (hDh : D h) (hTh : mm_t M h = 3) (F : fr (cmI co) (cmR co) (cmA M co) M M1) (H : HeapIs pw M h B) : HeapIs pw M1 h B := by
  have hne : h ≠ co := ne_tag hTh hT (by decide)
  refine HeapIs.fr F H (fun z => absurd z.1 (by decide)) (fun z => absurd z.1 (by decide)) (fun z => absurd z.1 (by decide)) (fun z => absurd z.1 (by decide)) ?_ ?_
  · rintro (z | z)
    · exact S.ap hDh hTh (k := 2) hp hD hT (k2 := 2) hp (Or.inl hne) z
    · exact S.ap hDh hTh (k := 2) hp hD hT (k2 := 3) hp (Or.inl hne) z
  · rintro (z | z)
    · exact S.ap hDh hTh (k := 3) hp hD hT (k2 := 2) hp (Or.inl hne) z
    · exact S.ap hDh hTh (k := 3) hp hD hT (k2 := 3) hp (Or.inl hne) z
theorem sh.cm {M1 : mm} (F : fr (cmI co) (cmR co) (cmA M co) M M1) (S : sh pw D ow sl M) : sh pw D ow sl M1 := CmpIs.sh F (fun _ _ _ z => ⟨z.1, z.2.1⟩) S
theorem dec_w (k : Nat) : nI (k + 1) - 1 + (-1) = nI k - 1 := by
  rw [nI_pred, Int32.sub_eq_add_neg]
theorem bpt_getD {b : bk} {k : Nat} (h : k < (bpt b).length) : b.2.getD k 0 = (bpt b).getD k 0 := by
  unfold bpt at *
  split at h
  · simp at h
  · rename_i h5
    rw [if_neg h5]
theorem zip_getD {L N : List Int32} {k : Nat} (h1 : k < L.length) (h2 : k < N.length) : (L.zip N).drop k = (L.getD k 0, N.getD k 0) :: (L.zip N).drop (k + 1) := by
  have h : k < (L.zip N).length := by rw [List.length_zip]; omega
  rw [List.drop_eq_getElem_cons h, List.getElem_zip]
  simp only [List.getD_eq_getElem?_getD]
  rw [List.getElem?_eq_getElem h1, List.getElem?_eq_getElem h2]
  rfl
/-- how much may lie below a term -/
def sok (cp : Int32 → Nat) : List (Int32 × Int32) → Prop
  | [] => True
  | p :: s => s.length ≤ cp p.1 ∧ sok cp s
theorem sok_app {cp : Int32 → Nat} (h : sok cp st) : ∀ {L : List (Int32 × Int32)}, (∀ p ∈ L, L.length + st.length ≤ cp p.1) → sok cp (L ++ st)
  | [], _ => h
  | p :: L, hL => by
    refine ⟨?_, sok_app h (fun q hq => ?_)⟩
    · have h9 := hL p (by simp)
      show (L ++ st).length ≤ cp p.1
      rw [List.length_append]
      rw [List.length_cons] at h9
      omega
    · have := hL q (by simp [hq])
      simp only [List.length_cons] at this
      omega
def cpo (B : List bk) (pw : Nat) (cp : Int32 → Nat) : Prop := ∀ i, i < B.length → (∀ t ∈ bpt (hb B i), (bpt (hb B i)).length + cp (htm B i) ≤ cp t) ∧ (bpt (hb B i)).length + cp (htm B i) ≤ pw
def cmpr (B C : List bk) : Nat → List (Int32 × Int32) → Bool × List (Int32 × Int32)
  | 0, st => (true, st)
  | _ + 1, [] => (true, [])
  | n + 1, p :: st => if alk B C p.1 p.2 = true then cmpr B C n ((pts B p.1).zip (pts C p.2) ++ st) else (false, st)
theorem alk_len (h : alk B C xt yt = true) (h3 : 3 ≤ kd xt) (h5 : ¬ kd xt = 5) : (pts B xt).length = (pts C yt).length := by
  unfold alk at h
  by_cases e : kd xt = kd yt
  · rw [if_pos e, if_neg h5, if_pos h3] at h
    exact of_decide_eq_true h
  · rw [if_neg e] at h
    exact absurd h (by decide)
theorem alk_kd (h : alk B C xt yt = true) : kd xt = kd yt := by
  unfold alk at h
  split at h
  · assumption
  · exact absurd h (by decide)
set_option maxRecDepth 100000 in
set_option maxHeartbeats 4000000 in
theorem K_pushParts (G : gc g X t0 l) (S : sh pw D ow sl M) (hp : pw ≠ 0) (hp6 : pw ≤ 600) (K : CmpIs pw D M co hl hr sb) (hDl : D hl) (hTl : mm_t M hl = 3) (hDr : D hr) (hTr : mm_t M hr = 3) (Hl : HeapIs pw M hl B) (Hr : HeapIs pw M hr C) (hx : vt B xt) (hy : vt C yt) (hal : alk B C xt yt = true) (hs : sb.length + (pts B xt).length ≤ pw) : Ok g X l yy_Co_pushParts cc_Co_pushParts 4 none 3 62 0 0 [.ref co, .int xt, .int yt] M (fun v M' => v = none ∧ fr (cmI co) (cmR co) (cmA M co) M M' ∧ CmpIs pw D M' co hl hr (sb ++ ((pts B xt).zip (pts C yt)).reverse)) := by
  refine ok_start (by decide) (Nat.le_of_ble_eq_true rfl) (by simp [Value.category]) ?_
  intro p e s m args below meth c9 x
  have ol := Hl.ok hp6
  have oo := Hr.ok hp6
  have hT := K.1.1
  have hD := K.1.2
  have e0 : nI 0 - 1 < 0 := by decide
  rcases Nat.lt_or_ge 2 (kd xt) with hh | hlo
  · obtain ⟨i, hi1, ex, hbx⟩ := vt_hi Hl.2.2 hp6 hx (by omega)
    obtain ⟨i2, hi2, ey, hby⟩ := vt_hi Hr.2.2 hp6 hy (by have := alk_kd hal; omega)
    have hk := alk_kd hal
    have e1 : pts B xt = bpt (hb B i) := by unfold pts; rw [ex, hbt_at ol hi1]
    have e2 : pts C yt = bpt (hb C i2) := by unfold pts; rw [ey, hbt_at oo hi2]
    have hll : (bpt (hb B i)).length = (bpt (hb C i2)).length := by
      by_cases h5 : kd xt = 5
      · unfold bpt
        rw [if_pos (by omega), if_pos (by omega)]
      · rw [← e1, ← e2]
        exact alk_len hal hh h5
    rw [e1] at hs
    rw [e1, e2]
    have hloop : ∀ (k : Nat) (M1 : mm), k ≤ (bpt (hb B i)).length → fr (cmI co) (cmR co) (cmA M co) M M1 → CmpIs pw D M1 co hl hr (sb ++ (((bpt (hb B i)).zip (bpt (hb C i2))).drop k).reverse) → vv g 4 p l e (rm 3 62 0 0) s m args below meth c9 (MQ below (ok_Q g (fun v M' => v = none ∧ fr (cmI co) (cmR co) (cmA M co) M M' ∧ CmpIs pw D M' co hl hr (sb ++ ((bpt (hb B i)).zip (bpt (hb C i2))).reverse))) args s 0 0 (ok_F g)) 0 0 11 [some (.ref co), some (.int xt), some (.int yt), some (.int (nI k - 1))] [] (M1) := by
      intro k
      induction k with
      | zero =>
        intro M1 hk9 F K1
        refine vv_iload_n (pc := 11) x dd_Co_pushParts_11 rfl ?_
        refine vv_if_lt (pc := 12) x dd_Co_pushParts_12 (tgt := 43) (by decide) (fun h12 => ?_) (fun h12 => absurd h12 (fun z => z e0))
        exact vv_vret (pc := 43) x dd_Co_pushParts_43 rfl (by decide) (by decide) ⟨rfl, F, by rw [List.drop_zero] at K1; exact K1⟩
      | succ k ih =>
        intro M1 hk9 F K1
        have S1 := sh.cm F S
        have Hl1 := heap_cm S hp hD hT hDl hTl F Hl
        have Hr1 := heap_cm S hp hD hT hDr hTr F Hr
        have hTl1 : mm_t M1 hl = 3 := by rw [F.1]; exact hTl
        have hTr1 : mm_t M1 hr = 3 := by rw [F.1]; exact hTr
        obtain ⟨⟨hT1, -⟩, ⟨r0, f0, r1, f1⟩, -⟩ := id K1
        have hrl : (sb ++ (((bpt (hb B i)).zip (bpt (hb C i2))).drop (k + 1)).reverse).length < pw := by
          simp only [List.length_append, List.length_reverse, List.length_drop, List.length_zip]
          omega
        refine vv_iload_n (pc := 11) x dd_Co_pushParts_11 rfl ?_
        rw [nI_pred]
        refine vv_if_lt (pc := 12) x dd_Co_pushParts_12 (tgt := 43) (by decide) (fun h12 => absurd h12 (nI_pos (by omega))) (fun h12 => ?_)
        refine vv_aload_n (pc := 15) x dd_Co_pushParts_15 rfl ?_
        refine vv_aload_n (pc := 16) x dd_Co_pushParts_16 rfl ?_
        refine lg_Co_18 (pc := 17) G x dd_Co_pushParts_17 (by assumption) r0 ?_
        rw [f0]
        refine vv_iload_n (pc := 20) x dd_Co_pushParts_20 rfl ?_
        refine vv_iload_n (pc := 21) x dd_Co_pushParts_21 rfl ?_
        rw [ex]
        refine lv_Co_56 (pc := 22) G x dd_Co_pushParts_22 (K_partOf G S1 hp hp6 hDl hTl1 Hl1 hi1 (k := k) (by omega)) hTl1 ⟨by decide, by decide⟩ (by decide) (by decide) (Nat.le_of_ble_eq_true rfl) (fun v22 M22 q22 => ?_)
        obtain ⟨rfl, hm22⟩ := q22
        have hm22 := hm22.symm
        subst hm22
        rw [← ex, bpt_getD (show k < (bpt (hb B i)).length by omega)]
        refine vv_aload_n (pc := 25) x dd_Co_pushParts_25 rfl ?_
        refine lg_Co_22 (pc := 26) G x dd_Co_pushParts_26 (by assumption) r1 ?_
        rw [f1]
        refine vv_iload_n (pc := 29) x dd_Co_pushParts_29 rfl ?_
        refine vv_iload_n (pc := 30) x dd_Co_pushParts_30 rfl ?_
        rw [ey]
        refine lv_Co_56 (pc := 31) G x dd_Co_pushParts_31 (K_partOf G S1 hp hp6 hDr hTr1 Hr1 hi2 (k := k) (by omega)) hTr1 ⟨by decide, by decide⟩ (by decide) (by decide) (Nat.le_of_ble_eq_true rfl) (fun v31 M31 q31 => ?_)
        obtain ⟨rfl, hm31⟩ := q31
        have hm31 := hm31.symm
        subst hm31
        rw [← ey, bpt_getD (show k < (bpt (hb C i2)).length by omega)]
        refine lv_Co_29 (pc := 34) G x dd_Co_pushParts_34 (K_push G S1 hp hp6 K1 hrl) hT1 ⟨by decide, by decide⟩ (by decide) (by decide) (Nat.le_of_ble_eq_true rfl) (fun v34 M34 q34 => ?_)
        obtain ⟨rfl, F2, K2⟩ := q34
        have hz := zip_getD (L := bpt (hb B i)) (N := bpt (hb C i2)) (k := k) (by omega) (by omega)
        have hst : sb ++ (((bpt (hb B i)).zip (bpt (hb C i2))).drop (k + 1)).reverse ++ [((bpt (hb B i)).getD k 0, (bpt (hb C i2)).getD k 0)] = sb ++ (((bpt (hb B i)).zip (bpt (hb C i2))).drop k).reverse := by
          rw [hz, List.reverse_cons, List.append_assoc]
        rw [hst] at K2
        refine vv_iinc (pc := 37) x dd_Co_pushParts_37 rfl (Int32.sub_eq_add_neg (nI k) 1).symm (by decide) (ls2 := [_, _, _, _]) rfl ?_
        refine vv_goto (pc := 40) x dd_Co_pushParts_40 (tgt := 11) (by decide) ?_
        exact ih M34 (by omega) (F.cm F2) K2
    obtain ⟨-, ⟨r0, f0, r1, f1⟩, -⟩ := id K
    refine vv_aload_n (pc := 0) x dd_Co_pushParts_0 rfl ?_
    refine lg_Co_18 (pc := 1) G x dd_Co_pushParts_1 (by assumption) r0 ?_
    rw [f0]
    refine vv_iload_n (pc := 4) x dd_Co_pushParts_4 rfl ?_
    rw [ex]
    refine lv_Co_53 (pc := 5) G x dd_Co_pushParts_5 (K_partCount G S hp hp6 hDl hTl Hl hi1) hTl ⟨by decide, by decide⟩ (by decide) (by decide) (Nat.le_of_ble_eq_true rfl) (fun v5 M5 q5 => ?_)
    obtain ⟨rfl, hm5⟩ := q5
    have hm5 := hm5.symm
    subst hm5
    rw [← ex]
    refine vv_iconst (pc := 8) x dd_Co_pushParts_8 (1) (by decide) ?_
    refine vv_isub (pc := 9) x dd_Co_pushParts_9 ?_
    refine vv_istore_n (pc := 10) x dd_Co_pushParts_10 (by decide) (ls2 := [_, _, _, _]) rfl ?_
    exact hloop (bpt (hb B i)).length _ (Nat.le_refl _) fr.rf (by
      rw [List.drop_eq_nil_of_le (by rw [List.length_zip]; omega), List.reverse_nil, List.append_nil]
      exact K)
  · have e1 : pts B xt = [] := pts_lo ol hlo
    rw [e1, List.zip_nil_left, List.reverse_nil, List.append_nil]
    obtain ⟨-, ⟨r0, f0, r1, f1⟩, -⟩ := id K
    refine vv_aload_n (pc := 0) x dd_Co_pushParts_0 rfl ?_
    refine lg_Co_18 (pc := 1) G x dd_Co_pushParts_1 (by assumption) r0 ?_
    rw [f0]
    refine vv_iload_n (pc := 4) x dd_Co_pushParts_4 rfl ?_
    refine lv_Co_53 (pc := 5) G x dd_Co_pushParts_5 (K_partCount0 G S hp hp6 hDl hTl Hl hlo) hTl ⟨by decide, by decide⟩ (by decide) (by decide) (Nat.le_of_ble_eq_true rfl) (fun v5 M5 q5 => ?_)
    obtain ⟨rfl, hm5⟩ := q5
    have hm5 := hm5.symm
    subst hm5
    refine vv_iconst (pc := 8) x dd_Co_pushParts_8 (1) (by decide) ?_
    refine vv_isub (pc := 9) x dd_Co_pushParts_9 ?_
    refine vv_istore_n (pc := 10) x dd_Co_pushParts_10 (by decide) (ls2 := [_, _, _, _]) rfl ?_
    refine vv_iload_n (pc := 11) x dd_Co_pushParts_11 rfl ?_
    refine vv_if_lt (pc := 12) x dd_Co_pushParts_12 (tgt := 43) (by decide) (fun h12 => ?_) (fun h12 => absurd h12 (fun z => z e0))
    exact vv_vret (pc := 43) x dd_Co_pushParts_43 rfl (by decide) (by decide) ⟨rfl, fr.rf, K⟩
theorem cmp_pop (K : CmpIs pw D M co hl hr (sb ++ [(xt, yt)])) : CmpIs pw D (mm_si M 1 4 co (nI sb.length)) co hl hr sb ∧ fr (cmI co) (cmR co) (cmA M co) M (mm_si M 1 4 co (nI sb.length)) ∧ mm_a M (mm_f M 1 2 co) sb.length = xt ∧ mm_a M (mm_f M 1 3 co) sb.length = yt := by
  obtain ⟨h1, h2, h3, h4, h5⟩ := K
  have h6 := h5 sb.length (by simp)
  refine ⟨⟨h1, h2, mi_si_s, by simp at h4; omega, fun j hj => ?_⟩, ⟨rfl, rfl, rfl, rfl, fun c' k a z => ?_, fun _ _ _ _ => rfl, fun _ _ => rfl⟩, ?_, ?_⟩
  · have h7 := h5 j (by simp; omega)
    have e9 : (sb ++ [(xt, yt)]).getD j (0, 0) = sb.getD j (0, 0) := by
      simp only [List.getD_eq_getElem?_getD]
      rw [List.getElem?_append_left hj]
    rw [e9] at h7
    exact h7
  · rw [mi_si, if_neg (show ¬ (c' = 1 ∧ k = 4 ∧ a = co) from z)]
  · rw [h6.1]; simp
  · rw [h6.2]; simp
theorem pts_vt (hv0 : hval B) {t : Int32} (h : t ∈ pts B xt) : vt B t := by
  unfold pts hbt at h
  cases e : hix B xt with
  | none => rw [e] at h; simp [bpt] at h
  | some i =>
    rw [e] at h
    exact hv0 i (hix_lt e).1 t h
set_option maxRecDepth 100000 in
set_option maxHeartbeats 4000000 in
theorem K_cstart (G : gc g X t0 l) (S : sh pw D ow sl M) (hp : pw ≠ 0) (hp6 : pw ≤ 600) (hD : D co) (hT : mm_t M co = 2) : Ok g X l yy_Co_start cc_Co_start 5 none 1 22 0 0 [.ref co, .ref hl, .int xt, .ref hr, .int yt] M (fun v M' => v = none ∧ fr (cmI co) (cmR co) (cmA M co) M M' ∧ CmpIs pw D M' co hl hr [(xt, yt)]) := by
  refine ok_start (by decide) (Nat.le_of_ble_eq_true rfl) (by simp [Value.category]) ?_
  intro p e s m args below meth c9 x
  refine vv_aload_n (pc := 0) x dd_Co_start_0 rfl ?_
  refine vv_aload_n (pc := 1) x dd_Co_start_1 rfl ?_
  refine lp_Co_18 (pc := 2) G x dd_Co_start_2 (by assumption) ?_
  refine vv_aload_n (pc := 5) x dd_Co_start_5 rfl ?_
  refine vv_aload_n (pc := 6) x dd_Co_start_6 rfl ?_
  refine lp_Co_22 (pc := 7) G x dd_Co_start_7 (by assumption) ?_
  refine vv_aload_n (pc := 10) x dd_Co_start_10 rfl ?_
  refine vv_iconst (pc := 11) x dd_Co_start_11 (0) (by decide) ?_
  refine lp_Co_25 (pc := 12) G x dd_Co_start_12 (by assumption) ?_
  refine vv_aload_n (pc := 15) x dd_Co_start_15 rfl ?_
  refine vv_iload_n (pc := 16) x dd_Co_start_16 rfl ?_
  refine vv_iload (pc := 17) x dd_Co_start_17 rfl ?_
  have F0 : fr (cmI co) (cmR co) (cmA M co) M (mm_si (mm_sr (mm_sr M 1 0 co hl) 1 1 co hr) 1 4 co 0) := by
    refine ⟨rfl, rfl, rfl, rfl, fun c' k a z => ?_, fun c' k a z => ?_, fun _ _ => rfl⟩
    · rw [mi_si, if_neg (show ¬ (c' = 1 ∧ k = 4 ∧ a = co) from z), mi_sr, mi_sr]
    · rw [mr_si, mr_sr, if_neg (fun y => z ⟨y.1, by omega, y.2.2⟩), mr_sr, if_neg (fun y => z ⟨y.1, by omega, y.2.2⟩)]
  have K0 : CmpIs pw D (mm_si (mm_sr (mm_sr M 1 0 co hl) 1 1 co hr) 1 4 co 0) co hl hr [] := by
    refine ⟨⟨hT, hD⟩, ⟨?_, ?_, ?_, ?_⟩, mi_si_s, Nat.zero_le _, fun j hj => by simp at hj⟩
    · rw [mr_si, mr_sr, if_neg (by simp), mr_sr_s]; omega
    · rw [mf_si, mf_sr, if_neg (by simp), mf_sr_s]
    · rw [mr_si, mr_sr_s]; omega
    · rw [mf_si, mf_sr_s]
  refine lv_Co_29 (pc := 19) G x dd_Co_start_19 (K_push G (sh.cm F0 S) hp hp6 K0 (by show 0 < pw; omega)) (by exact hT) ⟨by decide, by decide⟩ (by decide) (by decide) (Nat.le_of_ble_eq_true rfl) (fun v19 M19 q19 => ?_)
  obtain ⟨rfl, F1, K1⟩ := q19
  exact vv_vret (pc := 22) x dd_Co_start_22 rfl (by decide) (by decide) ⟨rfl, F0.cm F1, K1⟩
set_option maxRecDepth 100000 in
set_option maxHeartbeats 4000000 in
theorem K_finds (G : gc g X t0 l) (S : sh pw D ow sl M) (hp : pw ≠ 0) (hp6 : pw ≤ 600) (K : CmpIs pw D M co hl hr st.reverse) (hDl : D hl) (hTl : mm_t M hl = 3) (hDr : D hr) (hTr : mm_t M hr = 3) (Hl : HeapIs pw M hl B) (Hr : HeapIs pw M hr C) (hvl : hval B) (hvr : hval C) {cp : Int32 → Nat} (hcp : cpo B pw cp) (hso : sok cp st) (hvp : ∀ p ∈ st, vt B p.1 ∧ vt C p.2) (Rs : Bool × List (Int32 × Int32)) (hRs : cmpr B C 2000 st = Rs) : Ok g X l yy_Co_findsAllAlike cc_Co_findsAllAlike 4 (some .boolean) 4 85 0 0 [.ref co] M (fun v M' => v = some (.int (if Rs.1 = true then 1 else 0)) ∧ fr (cmI co) (cmR co) (cmA M co) M M' ∧ CmpIs pw D M' co hl hr Rs.2.reverse) := by
  refine ok_start (by decide) (Nat.le_of_ble_eq_true rfl) (by simp [Value.category]) ?_
  intro p e s m args below meth c9 x
  have ol := Hl.ok hp6
  have oo := Hr.ok hp6
  have hT := K.1.1
  have hD := K.1.2
  have hloop : ∀ (n i : Nat) (M1 : mm) (s1 : List (Int32 × Int32)) (o2 o3 : Option Value), i + n = 2000 → fr (cmI co) (cmR co) (cmA M co) M M1 → CmpIs pw D M1 co hl hr s1.reverse → sok cp s1 → (∀ p ∈ s1, vt B p.1 ∧ vt C p.2) → cmpr B C n s1 = Rs → vv g 4 p l e (rm 4 85 0 0) s m args below meth c9 (MQ below (ok_Q g (fun v M' => v = some (.int (if Rs.1 = true then 1 else 0)) ∧ fr (cmI co) (cmR co) (cmA M co) M M' ∧ CmpIs pw D M' co hl hr Rs.2.reverse)) args s 0 0 (ok_F g)) 0 0 2 [some (.ref co), some (.int (nI i)), o2, o3] [] (M1) := by
    intro n
    induction n with
    | zero =>
      intro i M1 s1 o2 o3 hi F K1 hso hvp hR
      have e2 : nI i = (2000 : Int32) := by rw [show i = 2000 by omega]; rfl
      refine vv_iload_n (pc := 2) x dd_Co_findsAllAlike_2 rfl ?_
      refine vv_sipush (pc := 3) x dd_Co_findsAllAlike_3 (2000) (by decide) ?_
      refine vv_icmp_ge (pc := 6) x dd_Co_findsAllAlike_6 (tgt := 69) (by decide) (fun h6 => ?_) (fun h6 => absurd h6 (fun z => z (by rw [e2]; decide)))
      refine vv_iconst (pc := 69) x dd_Co_findsAllAlike_69 (1) (by decide) ?_
      exact vv_zret (pc := 70) x dd_Co_findsAllAlike_70 rfl (Or.inr rfl) (by decide) (by decide) ⟨by rw [← hR]; rfl, F, by rw [← hR]; exact K1⟩
    | succ n ih =>
      intro i M1 s1 o2 o3 hi F K1 hso hvp hR
      have hT1 := K1.1.1
      have S1 := sh.cm F S
      rcases s1 with _ | ⟨p9, s1⟩
      · have hz : mm_i M1 1 4 co = nI 0 := K1.2.2.1
        refine vv_iload_n (pc := 2) x dd_Co_findsAllAlike_2 rfl ?_
        refine vv_sipush (pc := 3) x dd_Co_findsAllAlike_3 (2000) (by decide) ?_
        refine vv_icmp_ge (pc := 6) x dd_Co_findsAllAlike_6 (tgt := 69) (by decide) (fun h6 => absurd h6 (nI_ge (a := i) (b := 2000) (by omega) (by decide))) (fun h6 => ?_)
        refine vv_aload_n (pc := 9) x dd_Co_findsAllAlike_9 rfl ?_
        refine lg_Co_25 (pc := 10) G x dd_Co_findsAllAlike_10 (by assumption) ?_
        rw [hz]
        refine vv_if_le (pc := 13) x dd_Co_findsAllAlike_13 (tgt := 69) (by decide) (fun h13 => ?_) (fun h13 => absurd h13 (fun z => z (by decide)))
        refine vv_iconst (pc := 69) x dd_Co_findsAllAlike_69 (1) (by decide) ?_
        exact vv_zret (pc := 70) x dd_Co_findsAllAlike_70 rfl (Or.inr rfl) (by decide) (by decide) ⟨by rw [← hR]; rfl, F, by rw [← hR]; exact K1⟩
      · obtain ⟨ax, ay⟩ := p9
        rw [List.reverse_cons] at K1
        have hlen1 : mm_i M1 1 4 co = nI (s1.reverse.length + 1) := by rw [K1.2.2.1]; simp
        have hlp := K1.2.2.2.1
        simp only [List.length_append, List.length_cons, List.length_nil] at hlp
        obtain ⟨K2, F2, ex, ey⟩ := cmp_pop K1
        have r2 := S1.r hD hT1 2 hp
        have t2 := S1.t hD hT1 2 hp
        have n2 : mm_n M1 (mm_f M1 1 2 co) = pw := S1.n hD hT1 2 hp
        have r3 := S1.r hD hT1 3 hp
        have t3 := S1.t hD hT1 3 hp
        have n3 : mm_n M1 (mm_f M1 1 3 co) = pw := S1.n hD hT1 3 hp
        have F3 := F.cm F2
        have S2 := sh.cm F2 S1
        have Hl2 := heap_cm S hp hD hT hDl hTl F3 Hl
        have Hr2 := heap_cm S hp hD hT hDr hTr F3 Hr
        have hTl2 : mm_t (mm_si M1 1 4 co (nI s1.reverse.length)) hl = 3 := by rw [F3.1]; exact hTl
        have hTr2 : mm_t (mm_si M1 1 4 co (nI s1.reverse.length)) hr = 3 := by rw [F3.1]; exact hTr
        obtain ⟨vx, vy⟩ := hvp (ax, ay) (by simp)
        have hcl : (nI s1.reverse.length).toNatClampNeg = s1.reverse.length := nI_clamp (by omega)
        have hR2 : (if alk B C ax ay = true then cmpr B C n ((pts B ax).zip (pts C ay) ++ s1) else (false, s1)) = Rs := hR
        refine vv_iload_n (pc := 2) x dd_Co_findsAllAlike_2 rfl ?_
        refine vv_sipush (pc := 3) x dd_Co_findsAllAlike_3 (2000) (by decide) ?_
        refine vv_icmp_ge (pc := 6) x dd_Co_findsAllAlike_6 (tgt := 69) (by decide) (fun h6 => absurd h6 (nI_ge (a := i) (b := 2000) (by omega) (by decide))) (fun h6 => ?_)
        refine vv_aload_n (pc := 9) x dd_Co_findsAllAlike_9 rfl ?_
        refine lg_Co_25 (pc := 10) G x dd_Co_findsAllAlike_10 (by assumption) ?_
        rw [hlen1]
        refine vv_if_le (pc := 13) x dd_Co_findsAllAlike_13 (tgt := 69) (by decide) (fun h13 => absurd h13 (nI_nle (by omega) (by omega))) (fun h13 => ?_)
        refine vv_aload_n (pc := 16) x dd_Co_findsAllAlike_16 rfl ?_
        refine vv_dup (pc := 17) x dd_Co_findsAllAlike_17 rfl ?_
        refine lg_Co_25 (pc := 18) G x dd_Co_findsAllAlike_18 (by assumption) ?_
        refine vv_iconst (pc := 21) x dd_Co_findsAllAlike_21 (1) (by decide) ?_
        refine vv_isub (pc := 22) x dd_Co_findsAllAlike_22 ?_
        rw [hlen1, nI_pred]
        refine lp_Co_25 (pc := 23) G x dd_Co_findsAllAlike_23 (by assumption) ?_
        refine vv_aload_n (pc := 26) x dd_Co_findsAllAlike_26 rfl ?_
        refine lg_Co_9 (pc := 27) G x dd_Co_findsAllAlike_27 (by assumption) (by exact r2) ?_
        refine vv_aload_n (pc := 30) x dd_Co_findsAllAlike_30 rfl ?_
        refine lg_Co_25 (pc := 31) G x dd_Co_findsAllAlike_31 (by assumption) ?_
        rw [mi_si_s]
        refine vv_iald (pc := 34) x dd_Co_findsAllAlike_34 (by exact t2) (in_n (N := pw) (by omega) (by exact n2) (by omega)) ?_
        rw [hcl, show mm_a (mm_si M1 1 4 co (nI s1.reverse.length)) (mm_f (mm_si M1 1 4 co (nI s1.reverse.length)) 1 2 co) s1.reverse.length = ax from ex]
        refine vv_istore_n (pc := 35) x dd_Co_findsAllAlike_35 (by decide) (ls2 := [_, _, _, _]) rfl ?_
        refine vv_aload_n (pc := 36) x dd_Co_findsAllAlike_36 rfl ?_
        refine lg_Co_15 (pc := 37) G x dd_Co_findsAllAlike_37 (by assumption) (by exact r3) ?_
        refine vv_aload_n (pc := 40) x dd_Co_findsAllAlike_40 rfl ?_
        refine lg_Co_25 (pc := 41) G x dd_Co_findsAllAlike_41 (by assumption) ?_
        rw [mi_si_s]
        refine vv_iald (pc := 44) x dd_Co_findsAllAlike_44 (by exact t3) (in_n (N := pw) (by omega) (by exact n3) (by omega)) ?_
        rw [hcl, show mm_a (mm_si M1 1 4 co (nI s1.reverse.length)) (mm_f (mm_si M1 1 4 co (nI s1.reverse.length)) 1 3 co) s1.reverse.length = ay from ey]
        refine vv_istore_n (pc := 45) x dd_Co_findsAllAlike_45 (by decide) (ls2 := [_, _, _, _]) rfl ?_
        refine vv_aload_n (pc := 46) x dd_Co_findsAllAlike_46 rfl ?_
        refine vv_iload_n (pc := 47) x dd_Co_findsAllAlike_47 rfl ?_
        refine vv_iload_n (pc := 48) x dd_Co_findsAllAlike_48 rfl ?_
        refine lv_Co_33 (pc := 49) G x dd_Co_findsAllAlike_49 (K_alike G S2 hp hp6 K2 hDl hTl2 hDr hTr2 Hl2 Hr2 vx vy) (by exact hT1) ⟨by decide, by decide⟩ (by decide) (by decide) (Nat.le_of_ble_eq_true rfl) (fun v49 M49 q49 => ?_)
        obtain ⟨rfl, hm49⟩ := q49
        have hm49 := hm49.symm
        subst hm49
        refine vv_if_ne (pc := 52) x dd_Co_findsAllAlike_52 (tgt := 57) (by decide) (fun h52 => ?_) (fun h52 => ?_)
        · have ha : alk B C ax ay = true := Classical.byContradiction (fun e9 => by rw [if_neg e9] at h52; exact h52 rfl)
          rw [if_pos ha] at hR2
          have hroom : s1.length + (pts B ax).length ≤ pw ∧ ∀ t ∈ pts B ax, (pts B ax).length + s1.length ≤ cp t := by
            have h8 := hso.1
            unfold pts hbt
            cases e : hix B ax with
            | none => exact ⟨by simp [bpt] at hlp ⊢; omega, fun t ht => by simp [bpt] at ht⟩
            | some j =>
              obtain ⟨j1, j2⟩ := hix_lt e
              obtain ⟨j3, j4⟩ := hcp j j1
              rw [j2] at j3 j4
              have h8' : s1.length ≤ cp ax := h8
              exact ⟨by show s1.length + (bpt (hb B j)).length ≤ pw; omega, fun t ht => by have := j3 t ht; show (bpt (hb B j)).length + s1.length ≤ cp t; omega⟩
          refine vv_aload_n (pc := 57) x dd_Co_findsAllAlike_57 rfl ?_
          refine vv_iload_n (pc := 58) x dd_Co_findsAllAlike_58 rfl ?_
          refine vv_iload_n (pc := 59) x dd_Co_findsAllAlike_59 rfl ?_
          refine lv_Co_37 (pc := 60) G x dd_Co_findsAllAlike_60 (K_pushParts G S2 hp hp6 K2 hDl hTl2 hDr hTr2 Hl2 Hr2 vx vy ha (by rw [List.length_reverse]; exact hroom.1)) (by exact hT1) ⟨by decide, by decide⟩ (by decide) (by decide) (Nat.le_of_ble_eq_true rfl) (fun v60 M60 q60 => ?_)
          obtain ⟨rfl, F4, K4⟩ := q60
          rw [← List.reverse_append] at K4
          refine vv_iinc (pc := 63) x dd_Co_findsAllAlike_63 rfl (nI_1 i) (by decide) (ls2 := [_, _, _, _]) rfl ?_
          refine vv_goto (pc := 66) x dd_Co_findsAllAlike_66 (tgt := 2) (by decide) ?_
          exact ih (i + 1) M60 _ _ _ (by omega) (F3.cm F4) K4 (sok_app hso.2 (fun p hp9 => by
            have h9 := hroom.2 p.1 (List.of_mem_zip (show (p.1, p.2) ∈ _ from hp9)).1
            rw [List.length_zip]
            omega)) (fun p hp9 => by
            rcases List.mem_append.mp hp9 with h9 | h9
            · have h10 := List.of_mem_zip (show (p.1, p.2) ∈ _ from h9)
              exact ⟨pts_vt hvl h10.1, pts_vt hvr h10.2⟩
            · exact hvp p (List.mem_cons_of_mem _ h9)) hR2
        · refine vv_iconst (pc := 55) x dd_Co_findsAllAlike_55 (0) (by decide) ?_
          exact vv_zret (pc := 56) x dd_Co_findsAllAlike_56 rfl (Or.inl rfl) (by decide) (by decide) ⟨by
              have ha : ¬ alk B C ax ay = true := fun e9 => by rw [if_pos e9] at h52; exact absurd h52 (by decide)
              rw [← hR2, if_neg ha]
              rfl, F3, by
              have ha : ¬ alk B C ax ay = true := fun e9 => by rw [if_pos e9] at h52; exact absurd h52 (by decide)
              rw [← hR2, if_neg ha]
              exact K2⟩
  refine vv_iconst (pc := 0) x dd_Co_findsAllAlike_0 (0) (by decide) ?_
  refine vv_istore_n (pc := 1) x dd_Co_findsAllAlike_1 (by decide) (ls2 := [_, _, none, none]) rfl ?_
  exact hloop 2000 0 M st _ _ rfl fr.rf K hso hvp hRs
end M15
