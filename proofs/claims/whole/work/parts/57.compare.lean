/-! ===== terms are compared ===== -/
section M14
variable {g : gg} {X : State → Prop} {t0 : Nat} {l : Launch} {M : mm} {pw : Nat} {D : Nat → Prop} {ow sl : Nat → Nat} {B C : List bk} {co hl hr : Nat} {sb : List (Int32 × Int32)} {xt yt : Int32}
/-- the block of a term -/
def hbt (B : List bk) (t : Int32) : bk := match hix B t with
  | some i => hb B i
  | none => (0, [])
def pts (B : List bk) (t : Int32) : List Int32 := bpt (hbt B t)
theorem hbt_at (H : hok B) {i : Nat} (hi : i < B.length) : hbt B (htm B i) = hb B i := by
  unfold hbt
  rw [hix_at H hi]
theorem hbt_lo (H : hok B) {t : Int32} (ht : kd t ≤ 2) : hbt B t = (0, []) := by
  unfold hbt
  rw [hix_lo H ht]
theorem pts_lo (H : hok B) {t : Int32} (ht : kd t ≤ 2) : pts B t = [] := by
  unfold pts
  rw [hbt_lo H ht]
  rfl
/-- two terms are alike, parts aside -/
def alk (B C : List bk) (xt yt : Int32) : Bool := if kd xt = kd yt then (if kd xt = 5 then decide ((hbt B xt).2.getD 0 0 = (hbt C yt).2.getD 0 0) else if 3 ≤ kd xt then decide ((pts B xt).length = (pts C yt).length) else decide (xt = yt)) else false
theorem vt_hi {Sx W : Nat → Int32} (H : hv pw B Sx W) (hp6 : pw ≤ 600) (hx : vt B xt) (h3 : 3 ≤ kd xt) : ∃ i, i < B.length ∧ xt = htm B i ∧ (hb B i).1 = kd xt := by
  rcases hx with h | ⟨i, hi, e⟩
  · omega
  · refine ⟨i, hi, e, ?_⟩
    rw [e, hv_kd H hp6 hi]
def CmpIs (pw : Nat) (D : Nat → Prop) (M : mm) (co hl hr : Nat) (sb : List (Int32 × Int32)) : Prop := (mm_t M co = 2 ∧ D co) ∧ (mm_r M 1 0 co ≠ 0 ∧ mm_f M 1 0 co = hl ∧ mm_r M 1 1 co ≠ 0 ∧ mm_f M 1 1 co = hr) ∧ mm_i M 1 4 co = nI sb.length ∧ sb.length ≤ pw ∧ ∀ j, j < sb.length → mm_a M (mm_f M 1 2 co) j = (sb.getD j (0, 0)).1 ∧ mm_a M (mm_f M 1 3 co) j = (sb.getD j (0, 0)).2
def cmI (co : Nat) : Nat → Nat → Nat → Prop := fun c' k a => c' = 1 ∧ k = 4 ∧ a = co
def cmR (co : Nat) : Nat → Nat → Nat → Prop := fun c' k a => c' = 1 ∧ k < 2 ∧ a = co
def cmA (M : mm) (co : Nat) : Nat → Prop := fun a => a = mm_f M 1 2 co ∨ a = mm_f M 1 3 co
def cmp (M : mm) (co : Nat) (u : Int32) (xt yt : Int32) : mm := mm_si (mm_sa (mm_sa M (mm_f M 1 2 co) (upd (mm_a M (mm_f M 1 2 co)) u.toNatClampNeg xt)) (mm_f M 1 3 co) (upd (mm_a M (mm_f M 1 3 co)) u.toNatClampNeg yt)) 1 4 co (u + 1)
set_option maxRecDepth 100000 in
set_option maxHeartbeats 4000000 in
theorem k_push (G : gc g X t0 l) (S : sh pw D ow sl M) (hp : pw ≠ 0) (hD : D co) (hT : mm_t M co = 2) (i1 : vp_in (mm_i M 1 4 co) pw) : Ok g X l yy_Co_push cc_Co_push 3 none 0 0 0 0 [.ref co, .int xt, .int yt] M (fun v M' => v = none ∧ M' = cmp M co (mm_i M 1 4 co) xt yt) := by
  refine ok_start (by decide) (Nat.le_of_ble_eq_true rfl) (by simp [Value.category]) ?_
  intro p e s m args below meth c9 x
  have r2 := S.r hD hT 2 hp
  have t2 := S.t hD hT 2 hp
  have n2 : mm_n M (mm_f M 1 2 co) = pw := S.n hD hT 2 hp
  have r3 := S.r hD hT 3 hp
  have t3 := S.t hD hT 3 hp
  have n3 : mm_n M (mm_f M 1 3 co) = pw := S.n hD hT 3 hp
  have a32 := S.ap hD hT (k := 3) hp hD hT (k2 := 2) hp (Or.inr (by decide))
  refine vv_aload_n (pc := 0) x dd_Co_push_0 rfl ?_
  refine lg_Co_9 (pc := 1) G x dd_Co_push_1 (by assumption) r2 ?_
  refine vv_aload_n (pc := 4) x dd_Co_push_4 rfl ?_
  refine lg_Co_25 (pc := 5) G x dd_Co_push_5 (by assumption) ?_
  refine vv_iload_n (pc := 8) x dd_Co_push_8 rfl ?_
  refine vv_iast (pc := 9) x dd_Co_push_9 t2 (by rw [n2]; exact i1) ?_
  refine vv_aload_n (pc := 10) x dd_Co_push_10 rfl ?_
  refine lg_Co_15 (pc := 11) G x dd_Co_push_11 (by assumption) (by exact r3) ?_
  refine vv_aload_n (pc := 14) x dd_Co_push_14 rfl ?_
  refine lg_Co_25 (pc := 15) G x dd_Co_push_15 (by assumption) ?_
  refine vv_iload_n (pc := 18) x dd_Co_push_18 rfl ?_
  refine vv_iast (pc := 19) x dd_Co_push_19 (by exact t3) (by show vp_in (mm_i M 1 4 co) (mm_n M (mm_f M 1 3 co)); rw [n3]; exact i1) ?_
  rw [mf_sa, ma_sa_n a32]
  refine vv_aload_n (pc := 20) x dd_Co_push_20 rfl ?_
  refine vv_dup (pc := 21) x dd_Co_push_21 rfl ?_
  refine lg_Co_25 (pc := 22) G x dd_Co_push_22 (by assumption) ?_
  refine vv_iconst (pc := 25) x dd_Co_push_25 (1) (by decide) ?_
  refine vv_iadd (pc := 26) x dd_Co_push_26 ?_
  refine lp_Co_25 (pc := 27) G x dd_Co_push_27 (by assumption) ?_
  exact vv_vret (pc := 30) x dd_Co_push_30 rfl (by decide) (by decide) ⟨rfl, rfl⟩
theorem K_push (G : gc g X t0 l) (S : sh pw D ow sl M) (hp : pw ≠ 0) (hp6 : pw ≤ 600) (K : CmpIs pw D M co hl hr sb) (hs : sb.length < pw) : Ok g X l yy_Co_push cc_Co_push 3 none 0 0 0 0 [.ref co, .int xt, .int yt] M (fun v M' => v = none ∧ fr (cmI co) (cmR co) (cmA M co) M M' ∧ CmpIs pw D M' co hl hr (sb ++ [(xt, yt)])) := by
  obtain ⟨⟨hT, hD⟩, ⟨r0, f0, r1, f1⟩, hi, hle, ha⟩ := K
  refine (k_push G S hp hD hT (by rw [hi]; exact vp_in_nI hs (by omega))).mono ?_
  rintro v M' ⟨rfl, rfl⟩
  have a23 := S.ap hD hT (k := 2) hp hD hT (k2 := 3) hp (Or.inr (by decide))
  rw [hi]
  refine ⟨rfl, ⟨rfl, rfl, rfl, rfl, fun c' k a z => ?_, fun _ _ _ _ => rfl, fun a z => ?_⟩, ⟨hT, hD⟩, ⟨r0, f0, r1, f1⟩, ?_, ?_, fun j hj => ?_⟩
  · unfold cmp
    rw [mi_si, if_neg (show ¬ (c' = 1 ∧ k = 4 ∧ a = co) from z), mi_sa, mi_sa]
  · unfold cmp
    rw [ma_si, ma_sa_n (fun e => z (Or.inr e)), ma_sa_n (fun e => z (Or.inl e))]
  · unfold cmp
    rw [mi_si_s, nI_1]
    simp
  · simp; omega
  · have e2 : mm_f (cmp M co (nI sb.length) xt yt) 1 2 co = mm_f M 1 2 co := rfl
    have e3 : mm_f (cmp M co (nI sb.length) xt yt) 1 3 co = mm_f M 1 3 co := rfl
    rw [e2, e3]
    unfold cmp
    rw [ma_si, ma_sa_n a23, ma_sa_s, ma_sa_s, nI_clamp (by omega)]
    unfold upd
    simp only [List.length_append, List.length_cons, List.length_nil] at hj
    by_cases ej : j = sb.length
    · subst ej
      rw [if_pos rfl, if_pos rfl]
      simp
    · rw [if_neg ej, if_neg ej]
      have e9 : (sb ++ [(xt, yt)]).getD j (0, 0) = sb.getD j (0, 0) := by
        simp only [List.getD_eq_getElem?_getD]
        rw [List.getElem?_append_left (by omega)]
      rw [e9]
      exact ha j (by omega)
theorem CmpIs.sh {I Rr : Nat → Nat → Nat → Prop} {Aa : Nat → Prop} {M1 : mm} (F : fr I Rr Aa M M1) (hR : ∀ c k a, Rr c k a → c = 1 ∧ k < 2) (S : sh pw D ow sl M) : sh pw D ow sl M1 := by
  refine F.sh (fun c k a z => ?_) S
  obtain ⟨rfl, hk⟩ := hR c k a z
  rcases k with _ | _ | k
  · exact ⟨rfl, rfl⟩
  · exact ⟨rfl, rfl⟩
  · omega
set_option maxRecDepth 100000 in
set_option maxHeartbeats 4000000 in
theorem K_alike (G : gc g X t0 l) (S : sh pw D ow sl M) (hp : pw ≠ 0) (hp6 : pw ≤ 600) (K : CmpIs pw D M co hl hr sb) (hDl : D hl) (hTl : mm_t M hl = 3) (hDr : D hr) (hTr : mm_t M hr = 3) (Hl : HeapIs pw M hl B) (Hr : HeapIs pw M hr C) (hx : vt B xt) (hy : vt C yt) : Ok g X l yy_Co_areAlike cc_Co_areAlike 3 (some .boolean) 2 41 0 0 [.ref co, .int xt, .int yt] M (fun v M' => v = some (.int (if alk B C xt yt = true then 1 else 0)) ∧ M' = M) := by
  refine ok_start (by decide) (Nat.le_of_ble_eq_true rfl) (by simp [Value.category]) ?_
  intro p e s m args below meth c9 x
  obtain ⟨⟨hT, hD⟩, ⟨r0, f0, r1, f1⟩, hi, hle, ha⟩ := K
  have ol := Hl.ok hp6
  have or' := Hr.ok hp6
  have kx := kd_lt xt
  have ky := kd_lt yt
  refine vv_iload_n (pc := 0) x dd_Co_areAlike_0 rfl ?_
  refine lv_Co_40 (pc := 1) G x dd_Co_areAlike_1 (k_kindOf G)  ⟨by decide, by decide⟩ (by decide) (by decide) (Nat.le_of_ble_eq_true rfl) (fun v1 M1 q1 => ?_)
  obtain ⟨rfl, hm1⟩ := q1
  have hm1 := hm1.symm
  subst hm1
  refine vv_iload_n (pc := 4) x dd_Co_areAlike_4 rfl ?_
  refine lv_Co_40 (pc := 5) G x dd_Co_areAlike_5 (k_kindOf G)  ⟨by decide, by decide⟩ (by decide) (by decide) (Nat.le_of_ble_eq_true rfl) (fun v5 M5 q5 => ?_)
  obtain ⟨rfl, hm5⟩ := q5
  have hm5 := hm5.symm
  subst hm5
  rw [and7 xt, and7 yt]
  refine vv_icmp_eq (pc := 8) x dd_Co_areAlike_8 (tgt := 13) (by decide) (fun h8 => ?_) (fun h8 => ?_)
  · have hk8 : kd xt = kd yt := (nI_eq (by omega) (by omega)).mp h8
    refine vv_iload_n (pc := 13) x dd_Co_areAlike_13 rfl ?_
    refine lv_Co_40 (pc := 14) G x dd_Co_areAlike_14 (k_kindOf G)  ⟨by decide, by decide⟩ (by decide) (by decide) (Nat.le_of_ble_eq_true rfl) (fun v14 M14 q14 => ?_)
    obtain ⟨rfl, hm14⟩ := q14
    have hm14 := hm14.symm
    subst hm14
    refine vv_iconst (pc := 17) x dd_Co_areAlike_17 (5) (by decide) ?_
    rw [and7 xt]
    refine vv_icmp_ne (pc := 18) x dd_Co_areAlike_18 (tgt := 46) (by decide) (fun h18 => ?_) (fun h18 => ?_)
    · have h5 : ¬ kd xt = 5 := fun e9 => h18 (by rw [e9]; rfl)
      refine vv_iload_n (pc := 46) x dd_Co_areAlike_46 rfl ?_
      refine lv_Co_49 (pc := 47) G x dd_Co_areAlike_47 (k_liesInHeap G)  ⟨by decide, by decide⟩ (by decide) (by decide) (Nat.le_of_ble_eq_true rfl) (fun v47 M47 q47 => ?_)
      obtain ⟨rfl, hm47⟩ := q47
      have hm47 := hm47.symm
      subst hm47
      refine vv_if_eq (pc := 50) x dd_Co_areAlike_50 (tgt := 80) (by decide) (fun h50 => ?_) (fun h50 => ?_)
      · have hlo : ¬ 3 ≤ kd xt := fun e9 => by
          rw [lie1 e9] at h50
          exact absurd h50 (by decide)
        refine vv_iload_n (pc := 80) x dd_Co_areAlike_80 rfl ?_
        refine vv_iload_n (pc := 81) x dd_Co_areAlike_81 rfl ?_
        refine vv_icmp_ne (pc := 82) x dd_Co_areAlike_82 (tgt := 89) (by decide) (fun h82 => ?_) (fun h82 => ?_)
        · refine vv_iconst (pc := 89) x dd_Co_areAlike_89 (0) (by decide) ?_
          exact vv_zret (pc := 90) x dd_Co_areAlike_90 rfl (Or.inl rfl) (by decide) (by decide) ⟨by
              unfold alk
              rw [if_pos hk8, if_neg h5, if_neg hlo, decide_eq_false h82]
              rfl, rfl⟩
        · refine vv_iconst (pc := 85) x dd_Co_areAlike_85 (1) (by decide) ?_
          refine vv_goto (pc := 86) x dd_Co_areAlike_86 (tgt := 90) (by decide) ?_
          exact vv_zret (pc := 90) x dd_Co_areAlike_90 rfl (Or.inr rfl) (by decide) (by decide) ⟨by
              unfold alk
              rw [if_pos hk8, if_neg h5, if_neg hlo, decide_eq_true h82]
              rfl, rfl⟩
      · have hhi : 3 ≤ kd xt := by
          rcases Nat.lt_or_ge 2 (kd xt) with e9 | e9
          · exact e9
          · rw [lie0 e9] at h50
            exact absurd rfl h50
        obtain ⟨i, hi1, ex, hbx⟩ := vt_hi Hl.2.2 hp6 hx (by omega)
        obtain ⟨i2, hi2, ey, hby⟩ := vt_hi Hr.2.2 hp6 hy (by omega)
        have ebx := hbt_at ol hi1
        have eby := hbt_at or' hi2
        rw [← ex] at ebx
        rw [← ey] at eby
        have l1 : (bpt (hb B i)).length < 2 ^ 31 := by have := bpt_le (Hl.2.2.2.2.2 i hi1); have := (hv_bnd Hl.2.2 hp6 hi1).1; omega
        have l2 : (bpt (hb C i2)).length < 2 ^ 31 := by have := bpt_le (Hr.2.2.2.2.2 i2 hi2); have := (hv_bnd Hr.2.2 hp6 hi2).1; omega
        refine vv_aload_n (pc := 53) x dd_Co_areAlike_53 rfl ?_
        refine lg_Co_18 (pc := 54) G x dd_Co_areAlike_54 (by assumption) r0 ?_
        rw [f0]
        refine vv_iload_n (pc := 57) x dd_Co_areAlike_57 rfl ?_
        rw [ex]
        refine lv_Co_53 (pc := 58) G x dd_Co_areAlike_58 (K_partCount G S hp hp6 hDl hTl Hl hi1) hTl ⟨by decide, by decide⟩ (by decide) (by decide) (Nat.le_of_ble_eq_true rfl) (fun v58 M58 q58 => ?_)
        obtain ⟨rfl, hm58⟩ := q58
        have hm58 := hm58.symm
        subst hm58
        rw [← ex]
        refine vv_aload_n (pc := 61) x dd_Co_areAlike_61 rfl ?_
        refine lg_Co_22 (pc := 62) G x dd_Co_areAlike_62 (by assumption) r1 ?_
        rw [f1]
        refine vv_iload_n (pc := 65) x dd_Co_areAlike_65 rfl ?_
        rw [ey]
        refine lv_Co_53 (pc := 66) G x dd_Co_areAlike_66 (K_partCount G S hp hp6 hDr hTr Hr hi2) hTr ⟨by decide, by decide⟩ (by decide) (by decide) (Nat.le_of_ble_eq_true rfl) (fun v66 M66 q66 => ?_)
        obtain ⟨rfl, hm66⟩ := q66
        have hm66 := hm66.symm
        subst hm66
        rw [← ey]
        refine vv_icmp_ne (pc := 69) x dd_Co_areAlike_69 (tgt := 76) (by decide) (fun h69 => ?_) (fun h69 => ?_)
        · refine vv_iconst (pc := 76) x dd_Co_areAlike_76 (0) (by decide) ?_
          refine vv_goto (pc := 77) x dd_Co_areAlike_77 (tgt := 90) (by decide) ?_
          exact vv_zret (pc := 90) x dd_Co_areAlike_90 rfl (Or.inl rfl) (by decide) (by decide) ⟨by
              unfold alk pts
              rw [if_pos hk8, if_neg h5, if_pos hhi, ebx, eby, decide_eq_false (fun e9 => h69 (by rw [e9]))]
              rfl, rfl⟩
        · refine vv_iconst (pc := 72) x dd_Co_areAlike_72 (1) (by decide) ?_
          refine vv_goto (pc := 73) x dd_Co_areAlike_73 (tgt := 90) (by decide) ?_
          exact vv_zret (pc := 90) x dd_Co_areAlike_90 rfl (Or.inr rfl) (by decide) (by decide) ⟨by
              unfold alk pts
              rw [if_pos hk8, if_neg h5, if_pos hhi, ebx, eby, decide_eq_true ((nI_eq l1 l2).mp h69)]
              rfl, rfl⟩
    · have h5 : kd xt = 5 := (nI_eq (b := 5) (by omega) (by decide)).mp h18
      obtain ⟨i, hi1, ex, hbx⟩ := vt_hi Hl.2.2 hp6 hx (by omega)
      obtain ⟨i2, hi2, ey, hby⟩ := vt_hi Hr.2.2 hp6 hy (by omega)
      have ebx := hbt_at ol hi1
      have eby := hbt_at or' hi2
      rw [← ex] at ebx
      rw [← ey] at eby
      refine vv_aload_n (pc := 21) x dd_Co_areAlike_21 rfl ?_
      refine lg_Co_18 (pc := 22) G x dd_Co_areAlike_22 (by assumption) r0 ?_
      rw [f0]
      refine vv_iload_n (pc := 25) x dd_Co_areAlike_25 rfl ?_
      rw [ex]
      refine lv_Co_44 (pc := 26) G x dd_Co_areAlike_26 (K_blobOf G S hp hp6 hDl hTl Hl hi1 (by omega)) hTl ⟨by decide, by decide⟩ (by decide) (by decide) (Nat.le_of_ble_eq_true rfl) (fun v26 M26 q26 => ?_)
      obtain ⟨rfl, hm26⟩ := q26
      have hm26 := hm26.symm
      subst hm26
      rw [← ex]
      refine vv_aload_n (pc := 29) x dd_Co_areAlike_29 rfl ?_
      refine lg_Co_22 (pc := 30) G x dd_Co_areAlike_30 (by assumption) r1 ?_
      rw [f1]
      refine vv_iload_n (pc := 33) x dd_Co_areAlike_33 rfl ?_
      rw [ey]
      refine lv_Co_44 (pc := 34) G x dd_Co_areAlike_34 (K_blobOf G S hp hp6 hDr hTr Hr hi2 (by omega)) hTr ⟨by decide, by decide⟩ (by decide) (by decide) (Nat.le_of_ble_eq_true rfl) (fun v34 M34 q34 => ?_)
      obtain ⟨rfl, hm34⟩ := q34
      have hm34 := hm34.symm
      subst hm34
      rw [← ey]
      refine vv_icmp_ne (pc := 37) x dd_Co_areAlike_37 (tgt := 44) (by decide) (fun h37 => ?_) (fun h37 => ?_)
      · refine vv_iconst (pc := 44) x dd_Co_areAlike_44 (0) (by decide) ?_
        exact vv_zret (pc := 45) x dd_Co_areAlike_45 rfl (Or.inl rfl) (by decide) (by decide) ⟨by
            unfold alk
            rw [if_pos hk8, if_pos h5, ebx, eby, decide_eq_false h37]
            rfl, rfl⟩
      · refine vv_iconst (pc := 40) x dd_Co_areAlike_40 (1) (by decide) ?_
        refine vv_goto (pc := 41) x dd_Co_areAlike_41 (tgt := 45) (by decide) ?_
        exact vv_zret (pc := 45) x dd_Co_areAlike_45 rfl (Or.inr rfl) (by decide) (by decide) ⟨by
            unfold alk
            rw [if_pos hk8, if_pos h5, ebx, eby, decide_eq_true h37]
            rfl, rfl⟩
  · refine vv_iconst (pc := 11) x dd_Co_areAlike_11 (0) (by decide) ?_
    exact vv_zret (pc := 12) x dd_Co_areAlike_12 rfl (Or.inl rfl) (by decide) (by decide) ⟨by
        have hk8 : ¬ kd xt = kd yt := fun e9 => h8 (by rw [e9])
        unfold alk
        rw [if_neg hk8]
        rfl, rfl⟩
set_option maxRecDepth 100000 in
set_option maxHeartbeats 4000000 in
theorem K_unfinished (G : gc g X t0 l) (K : CmpIs pw D M co hl hr sb) (hp6 : pw ≤ 600) : Ok g X l yy_Co_isUnfinished cc_Co_isUnfinished 1 (some .boolean) 0 0 0 0 [.ref co] M (fun v M' => v = some (.int (if sb = [] then 0 else 1)) ∧ M' = M) := by
  refine ok_start (by decide) (Nat.le_of_ble_eq_true rfl) (by simp [Value.category]) ?_
  intro p e s m args below meth c9 x
  obtain ⟨⟨hT, hD⟩, ⟨r0, f0, r1, f1⟩, hi, hle, ha⟩ := K
  refine vv_aload_n (pc := 0) x dd_Co_isUnfinished_0 rfl ?_
  refine lg_Co_25 (pc := 1) G x dd_Co_isUnfinished_1 (by assumption) ?_
  rw [hi]
  refine vv_if_le (pc := 4) x dd_Co_isUnfinished_4 (tgt := 11) (by decide) (fun h4 => ?_) (fun h4 => ?_)
  · refine vv_iconst (pc := 11) x dd_Co_isUnfinished_11 (0) (by decide) ?_
    exact vv_zret (pc := 12) x dd_Co_isUnfinished_12 rfl (Or.inl rfl) (by decide) (by decide) ⟨by
        have : sb.length ≤ 0 := (nI_leI (b := 0) (by omega) (by decide)).mp h4
        rw [if_pos (List.length_eq_zero_iff.mp (by omega))], rfl⟩
  · refine vv_iconst (pc := 7) x dd_Co_isUnfinished_7 (1) (by decide) ?_
    refine vv_goto (pc := 8) x dd_Co_isUnfinished_8 (tgt := 12) (by decide) ?_
    exact vv_zret (pc := 12) x dd_Co_isUnfinished_12 rfl (Or.inr rfl) (by decide) (by decide) ⟨by
        rw [if_neg (fun e9 => h4 (by rw [e9]; decide))], rfl⟩
end M14
