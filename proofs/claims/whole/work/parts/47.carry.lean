/-! ===== the carrier: one term ===== -/
section M6
variable {g : gg} {X : State → Prop} {t0 : Nat} {l : Launch} {M : mm} {pw : Nat} {D : Nat → Prop} {ow sl : Nat → Nat} {B T : List bk} {c hf ht fr : Nat} {q : List Nat}
theorem HeapIs.ok {h : Nat} (H : HeapIs pw M h B) (hp6 : pw ≤ 600) : hok B := ⟨Nat.le_trans H.2.2.1 hp6, H.2.2.2.2.2⟩
theorem HeapIs.sa {h a : Nat} {F : Nat → Int32} (H : HeapIs pw M h B) (h2 : mm_f M 2 2 h ≠ a) (h3 : mm_f M 2 3 h ≠ a) : HeapIs pw (mm_sa M a F) h B := by
  refine ⟨H.1, H.2.1, ?_⟩
  show hv pw B (mm_a (mm_sa M a F) (mm_f M 2 2 h)) (mm_a (mm_sa M a F) (mm_f M 2 3 h))
  rw [ma_sa_n h2, ma_sa_n h3]
  exact H.2.2
theorem HeapIs.si {h c2 k2 a2 : Nat} {v : Int32} (H : HeapIs pw M h B) (hc : c2 ≠ 2) : HeapIs pw (mm_si M c2 k2 a2 v) h B := by
  refine ⟨?_, ?_, H.2.2⟩
  · rw [mi_si_c (fun e => hc e.symm)]; exact H.1
  · rw [mi_si_c (fun e => hc e.symm)]; exact H.2.1
theorem hput_ao {h a : Nat} {u n : Int32} {S0 W0 : Nat → Int32} (h2 : a ≠ mm_f M 2 2 h) (h3 : a ≠ mm_f M 2 3 h) : mm_a (hput M h u n S0 W0) a = mm_a M a := by
  show mm_a (mm_sa (mm_sa M (mm_f M 2 3 h) W0) (mm_f M 2 2 h) S0) a = _
  rw [ma_sa_n h2, ma_sa_n h3]
abbrev hputA := @hput
theorem HeapIs.put {h h2 : Nat} {u n : Int32} {S0 W0 : Nat → Int32} (S : sh pw D ow sl M) (hp : pw ≠ 0) (hD : D h) (hT : mm_t M h = 3) (hD2 : D h2) (hT2 : mm_t M h2 = 3) (hne : h2 ≠ h) (H : HeapIs pw M h2 B) : HeapIs pw (hput M h u n S0 W0) h2 B := by
  have a1 := S.ap hD2 hT2 (k := 2) hp hD hT (k2 := 2) hp (Or.inl hne)
  have a2 := S.ap hD2 hT2 (k := 2) hp hD hT (k2 := 3) hp (Or.inl hne)
  have a3 := S.ap hD2 hT2 (k := 3) hp hD hT (k2 := 2) hp (Or.inl hne)
  have a4 := S.ap hD2 hT2 (k := 3) hp hD hT (k2 := 3) hp (Or.inl hne)
  refine ⟨?_, ?_, ?_⟩
  · show mm_i (mm_si (mm_si _ 2 1 h n) 2 0 h u) 2 0 h2 = _
    rw [mi_si_a hne, mi_si_k (by decide)]
    exact H.1
  · show mm_i (mm_si (mm_si _ 2 1 h n) 2 0 h u) 2 1 h2 = _
    rw [mi_si_k (by decide), mi_si_a hne]
    exact H.2.1
  · show hv pw B (mm_a (hputA M h u n S0 W0) (mm_f M 2 2 h2)) (mm_a (hputA M h u n S0 W0) (mm_f M 2 3 h2))
    rw [hput_ao a1 a2, hput_ao a3 a4]
    exact H.2.2
/-- the carrier at work: from hf, which holds B, to ht, which holds T; the blocks of q are carried, behind fr words -/
def Cs (pw : Nat) (D : Nat → Prop) (M : mm) (c hf ht : Nat) (B : List bk) (fr : Nat) (q : List Nat) (T : List bk) : Prop :=
  (mm_t M c = 1 ∧ D c ∧ mm_r M 0 0 c ≠ 0 ∧ mm_f M 0 0 c = hf ∧ mm_r M 0 1 c ≠ 0 ∧ mm_f M 0 1 c = ht) ∧ (hf ≠ ht ∧ D hf ∧ mm_t M hf = 3 ∧ D ht ∧ mm_t M ht = 3) ∧ HeapIs pw M hf B ∧ HeapIs pw M ht T ∧ hsz T = fr + hsz (qB B q) ∧ qok B q ∧
  ∀ i, i < B.length → mm_a M (mm_f M 0 3 c) (had B i) = if i ∈ q then tk (hb B i).1 (fr + qof B q i) else 0
/-- only the heap ht and what the carrier has noted have changed -/
def cch (M : mm) (c ht : Nat) (M' : mm) : Prop := ∃ (u n : Int32) (S W F : Nat → Int32), M' = mm_sa (hput M ht u n S W) (mm_f M 0 3 c) F
theorem cch.rf : cch M c ht M := by
  refine ⟨mm_i M 2 0 ht, mm_i M 2 1 ht, mm_a M (mm_f M 2 2 ht), mm_a M (mm_f M 2 3 ht), ?_⟩
  have e : hput M ht (mm_i M 2 0 ht) (mm_i M 2 1 ht) (mm_a M (mm_f M 2 2 ht)) (mm_a M (mm_f M 2 3 ht)) = M := by
    unfold hput
    rw [sa_id (M := M) (a := mm_f M 2 3 ht) rfl, sa_id (M := M) (a := mm_f M 2 2 ht) rfl, si_id (M := M) (c := 2) (k := 1) (a := ht) rfl, si_id (M := M) (c := 2) (k := 0) (a := ht) rfl]
  exact ⟨mm_a M (mm_f M 0 3 c), by rw [e, sa_id (M := M) (a := mm_f M 0 3 c) rfl]⟩
theorem lie1 {t : Int32} (h : 3 ≤ kd t) : (if t &&& 7 < 3 then (0 : Int32) else 1) = 1 := by
  rw [if_neg]
  rw [and7]
  exact nI_nlt (a := kd t) (b := 3) h (by have := kd_lt t; omega)
theorem lie0 {t : Int32} (h : kd t ≤ 2) : (if t &&& 7 < 3 then (0 : Int32) else 1) = 0 := by
  rw [if_pos]
  rw [and7]
  exact nI_lt (a := kd t) (b := 3) (by omega) (by decide)
theorem tk_ne {k a : Nat} (h : 3 ≤ k) (h2 : 8 * a + k < 2 ^ 31) : ¬ tk k a = 0 := nI_ne0 (by omega) h2
set_option maxRecDepth 100000 in
set_option maxHeartbeats 4000000 in
theorem K_carry_lo (G : gc g X t0 l) {t : Int32} (ht0 : kd t ≤ 2) : Ok g X l yy_Ca_carry cc_Ca_carry 3 (some .int) 2 50 0 0 [.ref c, .int t] M (fun v M' => v = some (.int t) ∧ M' = M) := by
  refine ok_start (by decide) (Nat.le_of_ble_eq_true rfl) (by simp [Value.category]) ?_
  intro p e s m args below meth c9 x
  refine vv_iload_n (pc := 0) x dd_Ca_carry_0 rfl ?_
  refine lv_Ca_37 (pc := 1) G x dd_Ca_carry_1 (k_liesInHeap G)  ⟨by decide, by decide⟩ (by decide) (by decide) (Nat.le_of_ble_eq_true rfl) (fun v1 M1 q1 => ?_)
  obtain ⟨rfl, hm1⟩ := q1
  have hm1 := hm1.symm
  subst hm1
  rw [lie0 ht0]
  refine vv_if_ne (pc := 4) x dd_Ca_carry_4 (tgt := 9) (by decide) (fun h4 => absurd h4 (by decide)) (fun h4 => ?_)
  refine vv_iload_n (pc := 7) x dd_Ca_carry_7 rfl ?_
  exact vv_iret (pc := 8) x dd_Ca_carry_8 rfl (by decide) (by decide) ⟨rfl, rfl⟩
set_option maxRecDepth 100000 in
set_option maxHeartbeats 4000000 in
theorem K_carry_in (G : gc g X t0 l) (S : sh pw D ow sl M) (hp : pw ≠ 0) (hp6 : pw ≤ 600) (K : Cs pw D M c hf ht B fr q T) {i : Nat} (hi : i < B.length) (hm : i ∈ q) (hs : fr + hsz (qB B q) ≤ 600) : Ok g X l yy_Ca_carry cc_Ca_carry 3 (some .int) 2 50 0 0 [.ref c, .int (htm B i)] M (fun v M' => v = some (.int (tk (hb B i).1 (fr + qof B q i))) ∧ M' = M) := by
  refine ok_start (by decide) (Nat.le_of_ble_eq_true rfl) (by simp [Value.category]) ?_
  intro p e s m args below meth c9 x
  obtain ⟨⟨hTc, hDc, r0, f0, r1, f1⟩, ⟨hne, hDf, hTf, hDt, hTt⟩, Hf, Ht, hz, hq, hC⟩ := K
  have n0 : mm_n M (mm_f M 0 3 c) = pw := S.n hDc hTc 3 hp
  have rc := S.r hDc hTc 3 hp
  have tc := S.t hDc hTc 3 hp
  have bd := hv_bnd Hf.2.2 hp6 hi
  have bp := bsz_pos (hb B i)
  have bk := bok_k (Hf.2.2.2.2.2 i hi)
  have e1 := hv_shr Hf.2.2 hp6 hi
  have ek := hv_kd Hf.2.2 hp6 hi
  have c1 : (nI (had B i)).toNatClampNeg = had B i := nI_clamp (by omega)
  have hq1 : qof B q i ≤ hsz (qB B q) := had_le
  have e3 : mm_a M (mm_f M 0 3 c) (had B i) = tk (hb B i).1 (fr + qof B q i) := by rw [hC i hi, if_pos hm]
  refine vv_iload_n (pc := 0) x dd_Ca_carry_0 rfl ?_
  refine lv_Ca_37 (pc := 1) G x dd_Ca_carry_1 (k_liesInHeap G)  ⟨by decide, by decide⟩ (by decide) (by decide) (Nat.le_of_ble_eq_true rfl) (fun v1 M1 q1 => ?_)
  obtain ⟨rfl, hm1⟩ := q1
  have hm1 := hm1.symm
  subst hm1
  rw [lie1 (by omega)]
  refine vv_if_ne (pc := 4) x dd_Ca_carry_4 (tgt := 9) (by decide) (fun h4 => ?_) (fun h4 => absurd h4 (by decide))
  refine vv_iload_n (pc := 9) x dd_Ca_carry_9 rfl ?_
  refine lv_Ca_41 (pc := 10) G x dd_Ca_carry_10 (k_contentOf G)  ⟨by decide, by decide⟩ (by decide) (by decide) (Nat.le_of_ble_eq_true rfl) (fun v10 M10 q10 => ?_)
  obtain ⟨rfl, hm10⟩ := q10
  have hm10 := hm10.symm
  subst hm10
  rw [e1]
  refine vv_istore_n (pc := 13) x dd_Ca_carry_13 (by decide) (ls2 := [_, _, _]) rfl ?_
  refine vv_aload_n (pc := 14) x dd_Ca_carry_14 rfl ?_
  refine lg_Ca_9 (pc := 15) G x dd_Ca_carry_15 (by assumption) (by assumption) ?_
  refine vv_iload_n (pc := 18) x dd_Ca_carry_18 rfl ?_
  refine vv_iald (pc := 19) x dd_Ca_carry_19 (by assumption) (in_n (by omega) n0 (by omega)) ?_
  rw [c1, e3]
  refine vv_if_ne (pc := 20) x dd_Ca_carry_20 (tgt := 41) (by decide) (fun h20 => ?_) (fun h20 => absurd h20 (tk_ne bk.1 (by omega)))
  refine vv_aload_n (pc := 41) x dd_Ca_carry_41 rfl ?_
  refine lg_Ca_9 (pc := 42) G x dd_Ca_carry_42 (by assumption) (by assumption) ?_
  refine vv_iload_n (pc := 45) x dd_Ca_carry_45 rfl ?_
  refine vv_iald (pc := 46) x dd_Ca_carry_46 (by assumption) (in_n (by omega) n0 (by omega)) ?_
  rw [c1, e3]
  exact vv_iret (pc := 47) x dd_Ca_carry_47 rfl (by decide) (by decide) ⟨rfl, rfl⟩
set_option maxRecDepth 100000 in
set_option maxHeartbeats 4000000 in
theorem K_carry_new (G : gc g X t0 l) (S : sh pw D ow sl M) (hp : pw ≠ 0) (hp6 : pw ≤ 600) (K : Cs pw D M c hf ht B fr q T) {i : Nat} (hi : i < B.length) (hm : i ∉ q) (hs : hsz T + bsz (hb B i) ≤ pw) : Ok g X l yy_Ca_carry cc_Ca_carry 3 (some .int) 2 50 0 0 [.ref c, .int (htm B i)] M (fun v M' => v = some (.int (tk (hb B i).1 (hsz T))) ∧ cch M c ht M' ∧ Cs pw D M' c hf ht B fr (q ++ [i]) (T ++ [hb B i])) := by
  refine ok_start (by decide) (Nat.le_of_ble_eq_true rfl) (by simp [Value.category]) ?_
  intro p e s m args below meth c9 x
  obtain ⟨⟨hTc, hDc, r0, f0, r1, f1⟩, ⟨hne, hDf, hTf, hDt, hTt⟩, Hf, Ht, hz, hq, hC⟩ := K
  have n0 : mm_n M (mm_f M 0 3 c) = pw := S.n hDc hTc 3 hp
  have rc := S.r hDc hTc 3 hp
  have tc := S.t hDc hTc 3 hp
  have bd := hv_bnd Hf.2.2 hp6 hi
  have bp := bsz_pos (hb B i)
  have bk := bok_k (Hf.2.2.2.2.2 i hi)
  have e1 := hv_shr Hf.2.2 hp6 hi
  have ek := hv_kd Hf.2.2 hp6 hi
  have c1 : (nI (had B i)).toNatClampNeg = had B i := nI_clamp (by omega)
  have Hf0 := Hf
  have Ht0 := Ht
  have e3 : mm_a M (mm_f M 0 3 c) (had B i) = 0 := by rw [hC i hi, if_neg hm]
  have a22 := S.ap hDt hTt (k := 2) hp hDc hTc (k2 := 3) hp (Or.inr (by decide))
  have a23 := S.ap hDt hTt (k := 2) hp hDt hTt (k2 := 3) hp (Or.inr (by decide))
  have hct : c ≠ ht := fun e9 => by rw [e9, hTt] at hTc; exact absurd hTc (by decide)
  have hcf : c ≠ hf := fun e9 => by rw [e9, hTf] at hTc; exact absurd hTc (by decide)
  have b2 := S.ap hDc hTc (k := 3) hp hDt hTt (k2 := 2) hp (Or.inl hct)
  have b3 := S.ap hDc hTc (k := 3) hp hDt hTt (k2 := 3) hp (Or.inl hct)
  have d2 := S.ap hDf hTf (k := 2) hp hDc hTc (k2 := 3) hp (Or.inl (fun e9 => hcf e9.symm))
  have d3 := S.ap hDf hTf (k := 3) hp hDc hTc (k2 := 3) hp (Or.inl (fun e9 => hcf e9.symm))
  refine vv_iload_n (pc := 0) x dd_Ca_carry_0 rfl ?_
  refine lv_Ca_37 (pc := 1) G x dd_Ca_carry_1 (k_liesInHeap G)  ⟨by decide, by decide⟩ (by decide) (by decide) (Nat.le_of_ble_eq_true rfl) (fun v1 M1 q1 => ?_)
  obtain ⟨rfl, hm1⟩ := q1
  have hm1 := hm1.symm
  subst hm1
  rw [lie1 (by omega)]
  refine vv_if_ne (pc := 4) x dd_Ca_carry_4 (tgt := 9) (by decide) (fun h4 => ?_) (fun h4 => absurd h4 (by decide))
  refine vv_iload_n (pc := 9) x dd_Ca_carry_9 rfl ?_
  refine lv_Ca_41 (pc := 10) G x dd_Ca_carry_10 (k_contentOf G)  ⟨by decide, by decide⟩ (by decide) (by decide) (Nat.le_of_ble_eq_true rfl) (fun v10 M10 q10 => ?_)
  obtain ⟨rfl, hm10⟩ := q10
  have hm10 := hm10.symm
  subst hm10
  rw [e1]
  refine vv_istore_n (pc := 13) x dd_Ca_carry_13 (by decide) (ls2 := [_, _, _]) rfl ?_
  refine vv_aload_n (pc := 14) x dd_Ca_carry_14 rfl ?_
  refine lg_Ca_9 (pc := 15) G x dd_Ca_carry_15 (by assumption) (by assumption) ?_
  refine vv_iload_n (pc := 18) x dd_Ca_carry_18 rfl ?_
  refine vv_iald (pc := 19) x dd_Ca_carry_19 (by assumption) (in_n (by omega) n0 (by omega)) ?_
  rw [c1, e3]
  refine vv_if_ne (pc := 20) x dd_Ca_carry_20 (tgt := 41) (by decide) (fun h20 => absurd h20 (by intro z; exact z rfl)) (fun h20 => ?_)
  refine vv_aload_n (pc := 23) x dd_Ca_carry_23 rfl ?_
  refine lg_Ca_9 (pc := 24) G x dd_Ca_carry_24 (by assumption) (by assumption) ?_
  refine vv_iload_n (pc := 27) x dd_Ca_carry_27 rfl ?_
  refine vv_aload_n (pc := 28) x dd_Ca_carry_28 rfl ?_
  refine lg_Ca_19 (pc := 29) G x dd_Ca_carry_29 (by assumption) (by assumption) ?_
  rw [f1]
  refine vv_aload_n (pc := 32) x dd_Ca_carry_32 rfl ?_
  refine lg_Ca_15 (pc := 33) G x dd_Ca_carry_33 (by assumption) (by assumption) ?_
  rw [f0]
  refine vv_iload_n (pc := 36) x dd_Ca_carry_36 rfl ?_
  refine lv_Ca_45 (pc := 37) G x dd_Ca_carry_37 (K_addCopy G S hp hp6 hDt hTt Ht hDf hTf Hf hi hs) (by assumption) ⟨by decide, by decide⟩ (by decide) (by decide) (Nat.le_of_ble_eq_true rfl) (fun v37 M37 q37 => ?_)
  obtain ⟨rfl, S1, W1, hm37, hv1⟩ := q37
  have hm37 := hm37.symm
  subst hm37
  refine vv_iast (pc := 40) x dd_Ca_carry_40 (by assumption) (in_n (by omega) n0 (by omega)) ?_
  refine vv_aload_n (pc := 41) x dd_Ca_carry_41 rfl ?_
  refine lg_Ca_9 (pc := 42) G x dd_Ca_carry_42 (by assumption) (by assumption) ?_
  refine vv_iload_n (pc := 45) x dd_Ca_carry_45 rfl ?_
  refine vv_iald (pc := 46) x dd_Ca_carry_46 (by assumption) (in_n (by omega) n0 (by omega)) ?_
  have e4 : mm_a (mm_sa (hput M ht (nI (hsz (T ++ [hb B i]))) (nI (T ++ [hb B i]).length) S1 W1) (mm_f M 0 3 c) (upd (mm_a (hput M ht (nI (hsz (T ++ [hb B i]))) (nI (T ++ [hb B i]).length) S1 W1) (mm_f M 0 3 c)) (nI (had B i)).toNatClampNeg (tk (hb B i).1 (hsz T)))) (mm_f M 0 3 c) (nI (had B i)).toNatClampNeg = tk (hb B i).1 (hsz T) := by
    rw [ma_sa_s]
    exact if_pos rfl
  exact vv_iret (pc := 47) x dd_Ca_carry_47 rfl (by decide) (by decide) ⟨congrArg (fun z => some (Value.int z)) e4, ⟨_, _, _, _, _, rfl⟩, ⟨hTc, hDc, r0, f0, r1, f1⟩, ⟨hne, hDf, hTf, hDt, hTt⟩, HeapIs.sa (HeapIs.put S hp hDt hTt hDf hTf hne Hf0) d2 d3, HeapIs.sa (hput_is a23 hv1) (fun e9 => b2 e9.symm) (fun e9 => b3 e9.symm), by
      rw [hsz_1, hz, hsz_qB, hsz_qB]
      simp only [List.map_append, List.sum_append, List.map_cons, List.map_nil, List.sum_cons, List.sum_nil]
      omega, by
      have h9 := vis_ok hq (htm B i)
      rw [vis_new (Hf0.ok hp6) hi hm] at h9
      exact h9, fun j hj => by
      show mm_a (mm_sa (hput M ht _ _ S1 W1) (mm_f M 0 3 c) _) (mm_f M 0 3 c) (had B j) = _
      rw [ma_sa_s, hput_ao b2 b3, c1]
      unfold upd
      by_cases ej : j = i
      · subst ej
        rw [if_pos rfl, if_pos (by simp), qof_new hm, hz]
      · rw [if_neg (fun e9 => ej (had_inj hj hi e9)), hC j hj]
        by_cases eq : j ∈ q
        · rw [if_pos eq, if_pos (List.mem_append_left _ eq), qof_app eq]
        · rw [if_neg eq, if_neg (by simp [eq, ej])]⟩
end M6
