/-! ===== the carrier: all parts of what is carried ===== -/
section M7
variable {g : gg} {X : State → Prop} {t0 : Nat} {l : Launch} {M : mm} {pw : Nat} {D : Nat → Prop} {ow sl : Nat → Nat} {B B0 T : List bk} {c hf ht fr : Nat} {q : List Nat}
theorem getD_mem {L : List Int32} {k : Nat} (h : k < L.length) : L.getD k 0 ∈ L := by
  rw [List.getD_eq_getElem?_getD, List.getElem?_eq_getElem h]
  exact List.getElem_mem h
theorem drop_getD {L : List Int32} {k : Nat} (h : k < L.length) : L.drop k = L.getD k 0 :: L.drop (k + 1) := by
  rw [List.getD_eq_getElem?_getD, List.getElem?_eq_getElem h]
  exact List.drop_eq_getElem_cons h
theorem vv_weak {nL : Nat} {p : Program} {e : Env} {R : Room} {s : State} {m : MethodId} {args : Array Value} {below : List Frame} {meth : Method} {c9 : Code} {Q : State → Prop} {cells slots pc : Nat} {ls ls2 : List (Option Value)} {st : List Value} (h : ∀ (i : Nat) (v : Value), ls2[i]? = some (some v) → ls[i]? = some (some v)) (k : vv g nL p l e R s m args below meth c9 Q cells slots pc ls2 st M) : vv g nL p l e R s m args below meth c9 Q cells slots pc ls st M :=
  fun H locs la hR hz hL hl => k H locs la hR hz hL ⟨hl.1, hl.2.1, fun i v hi => hl.2.2 i v (h i v hi)⟩
theorem K_partCount_e (G : gc g X t0 l) (S : sh pw D ow sl M) (hp : pw ≠ 0) (hp6 : pw ≤ 600) {h : Nat} (hD : D h) (hT : mm_t M h = 3) (H : HeapIs pw M h B) {i : Nat} (hi : i < B.length) {t : Int32} (e : t = htm B i) : Ok g X l yy_He_partCount cc_He_partCount 2 (some .int) 1 20 0 0 [.ref h, .int t] M (fun v M' => v = some (.int (nI (bpt (hb B i)).length)) ∧ M' = M) := by
  subst e
  exact K_partCount G S hp hp6 hD hT H hi
theorem K_partOf_e (G : gc g X t0 l) (S : sh pw D ow sl M) (hp : pw ≠ 0) (hp6 : pw ≤ 600) {h : Nat} (hD : D h) (hT : mm_t M h = 3) (H : HeapIs pw M h B) {i : Nat} (hi : i < B.length) {k : Nat} (hk : k < (bpt (hb B i)).length) {t : Int32} (e : t = htm B i) : Ok g X l yy_He_partOf cc_He_partOf 3 (some .int) 2 40 0 0 [.ref h, .int t, .int (nI k)] M (fun v M' => v = some (.int ((hb B i).2.getD k 0)) ∧ M' = M) := by
  subst e
  exact K_partOf G S hp hp6 hD hT H hi hk
theorem K_setPart_e (G : gc g X t0 l) (S : sh pw D ow sl M) (hp : pw ≠ 0) (hp6 : pw ≤ 600) {h : Nat} (hD : D h) (hT : mm_t M h = 3) (H : HeapIs pw M h B) {i : Nat} (hi : i < B.length) {k : Nat} (hk : k < (bpt (hb B i)).length) {w t : Int32} (e : t = htm B i) : Ok g X l yy_He_setPart cc_He_setPart 4 none 2 40 0 0 [.ref h, .int t, .int (nI k), .int w] M (fun v M' => v = none ∧ hto pw M h (B.set i ((hb B i).1, (hb B i).2.set k w)) M') := by
  subst e
  exact K_setPart G S hp hp6 hD hT H hi hk
/-- the heap ht is written, the carrier's state goes on -/
theorem Cs.put {T2 : List bk} {M1 : mm} (S : sh pw D ow sl M) (hp : pw ≠ 0) (K : Cs pw D M c hf ht B fr q T) (h : hto pw M ht T2 M1) (hz : hsz T2 = hsz T) : cch M c ht M1 ∧ Cs pw D M1 c hf ht B fr q T2 := by
  obtain ⟨⟨hTc, hDc, r0, f0, r1, f1⟩, ⟨hne, hDf, hTf, hDt, hTt⟩, Hf, Ht, hz0, hq, hC⟩ := K
  obtain ⟨S1, W1, e, hv1⟩ := h
  have hct : c ≠ ht := fun e9 => by rw [e9, hTt] at hTc; exact absurd hTc (by decide)
  have a23 := S.ap hDt hTt (k := 2) hp hDt hTt (k2 := 3) hp (Or.inr (by decide))
  have b2 := S.ap hDc hTc (k := 3) hp hDt hTt (k2 := 2) hp (Or.inl hct)
  have b3 := S.ap hDc hTc (k := 3) hp hDt hTt (k2 := 3) hp (Or.inl hct)
  have er : mm_r M1 = mm_r M := by rw [e, hput_r]
  have ef : mm_f M1 = mm_f M := mm_f_of er
  have et : mm_t M1 = mm_t M := by rw [e, hput_t]
  refine ⟨⟨_, _, S1, W1, mm_a M1 (mm_f M 0 3 c), by rw [← e]; exact (sa_id rfl).symm⟩, ⟨by rw [et]; exact hTc, hDc, by rw [er]; exact r0, by rw [ef]; exact f0, by rw [er]; exact r1, by rw [ef]; exact f1⟩, ⟨hne, hDf, by rw [et]; exact hTf, hDt, by rw [et]; exact hTt⟩, ?_, ?_, by rw [hz]; exact hz0, hq, fun i hi => ?_⟩
  · rw [e]; exact HeapIs.put S hp hDt hTt hDf hTf hne Hf
  · rw [e]; exact hput_is a23 hv1
  · rw [ef, e, hput_ao b2 b3]; exact hC i hi
set_option maxRecDepth 100000 in
set_option maxHeartbeats 4000000 in
theorem K_parts (G : gc g X t0 l) (S : sh pw D ow sl M) (hp : pw ≠ 0) (hp6 : pw ≤ 600) (K : Cs pw D M c hf ht B (hsz B0) q (B0 ++ qB B q)) (hfc : mm_i M 0 2 c = nI B0.length) (hval : ∀ i, i < B.length → ∀ t ∈ bpt (hb B i), vt B t) (Q9 : List Nat) (hQ9 : bfs B B.length 0 q = Q9) (hs : hsz B0 + hsz (qB B Q9) ≤ pw) : Ok g X l yy_Ca_carryPartsOfCarried cc_Ca_carryPartsOfCarried 4 none 3 72 0 0 [.ref c] M (fun v M' => v = none ∧ cch M c ht M' ∧ Cs pw D M' c hf ht B (hsz B0) Q9 (TT B (hsz B0) B0 Q9.length 0 Q9)) := by
  refine ok_start (by decide) (Nat.le_of_ble_eq_true rfl) (by simp [Value.category]) ?_
  intro p e s m args below meth c9 x
  have hin : ∀ (N n j : Nat) (q1 : List Nat), j < q1.length → B.length ≤ n + (j + 1) → (∀ (M5 : mm) (q5 : List Nat), cch M c ht M5 → Cs pw D M5 c hf ht B (hsz B0) q5 (TT B (hsz B0) B0 (j + 1) 0 q5) → clo B (j + 1) 0 q5 → qok B q5 → j + 1 ≤ q5.length → bfs B n (j + 1) q5 = Q9 → vv g 4 p l e (rm 3 72 0 0) s m args below meth c9 (MQ below (ok_Q g (fun v M' => v = none ∧ cch M c ht M' ∧ Cs pw D M' c hf ht B (hsz B0) Q9 (TT B (hsz B0) B0 Q9.length 0 Q9))) args s 0 0 (ok_F g)) 0 0 5 [some (.ref c), some (.int (nI (B0.length + (j + 1)))), none, none] [] (M5)) → ∀ (k : Nat) (M2 : mm) (q2 : List Nat), (bpt (hb B (q1.getD j 0))).length - k < N → k ≤ (bpt (hb B (q1.getD j 0))).length → cch M c ht M2 → Cs pw D M2 c hf ht B (hsz B0) q2 (TT B (hsz B0) B0 j k q2) → clo B j k q2 → (∃ r, q2 = q1 ++ r) → bfs B n (j + 1) (visL B q2 ((bpt (hb B (q1.getD j 0))).drop k)) = Q9 → vv g 4 p l e (rm 3 72 0 0) s m args below meth c9 (MQ below (ok_Q g (fun v M' => v = none ∧ cch M c ht M' ∧ Cs pw D M' c hf ht B (hsz B0) Q9 (TT B (hsz B0) B0 Q9.length 0 Q9))) args s 0 0 (ok_F g)) 0 0 40 [some (.ref c), some (.int (nI (B0.length + j))), some (.int (tk (hb B (q1.getD j 0)).1 (hsz B0 + had (qB B q1) j))), some (.int (nI k))] [] (M2) := by
    intro N
    induction N with
    | zero => intro n j q1 hj hn hout k M2 q2 h; omega
    | succ N ih =>
      intro n j q1 hj hn hout k M2 q2 hN hk hch K hcl hpre hb9
      have S2 := hch.sh S
      obtain ⟨r, hr⟩ := hpre
      have hj2 : j < q2.length := by rw [hr]; simp; omega
      have hgd : q2.getD j 0 = q1.getD j 0 := by rw [hr, getD_app hj]
      have hqj : q1.getD j 0 < B.length := by
        have h8 : q1.getD j 0 ∈ q2 := by
          rw [hr, List.getD_eq_getElem?_getD, List.getElem?_eq_getElem hj]
          exact List.mem_append_left _ (List.getElem_mem hj)
        exact K.2.2.2.2.2.1.2 _ h8
      have hk9 := K
      obtain ⟨⟨hTc, hDc, r0, f0, r1, f1⟩, ⟨hne, hDf, hTf, hDt, hTt⟩, Hf, Ht, hz, hq, hC⟩ := hk9
      have hTl : B0.length + j < (TT B (hsz B0) B0 j k q2).length := by rw [TT_len]; omega
      have hbt : hb (TT B (hsz B0) B0 j k q2) (B0.length + j) = pb B (hsz B0) q2 k (hb B (q1.getD j 0)) := by rw [TT_hb hj2, if_neg (Nat.lt_irrefl _), if_pos rfl, hgd]
      have est : (tk (hb B (q1.getD j 0)).1 (hsz B0 + had (qB B q1) j)) = htm (TT B (hsz B0) B0 j k q2) (B0.length + j) := by
        rw [TT_tm hj2, hgd]
        have e9 : had (qB B q2) j = had (qB B q1) j := by rw [hr]; unfold qB; rw [List.map_append, had_app (by simp; omega)]
        rw [e9]
      have hbk := K.2.2.1.2.2.2.2.2 _ hqj
      have hp4 : (bpt (hb B (q1.getD j 0))).length ≤ 4 := by
        unfold bpt
        split
        · simp
        · rcases hbk with h | h | h <;> omega
      have hpl : (bpt (hb (TT B (hsz B0) B0 j k q2) (B0.length + j))).length = (bpt (hb B (q1.getD j 0))).length := by rw [hbt, pb_bpt]
      refine vv_iload_n (pc := 40) x dd_Ca_carryPartsOfCarried_40 rfl ?_
      refine vv_aload_n (pc := 41) x dd_Ca_carryPartsOfCarried_41 rfl ?_
      refine lg_Ca_19 (pc := 42) G x dd_Ca_carryPartsOfCarried_42 (by assumption) r1 ?_
      rw [f1]
      refine vv_iload_n (pc := 45) x dd_Ca_carryPartsOfCarried_45 rfl ?_
      refine lv_Ca_52 (pc := 46) G x dd_Ca_carryPartsOfCarried_46 (K_partCount_e G S2 hp hp6 hDt hTt Ht hTl est) hTt ⟨by decide, by decide⟩ (by decide) (by decide) (Nat.le_of_ble_eq_true rfl) (fun v46 M46 q46 => ?_)
      obtain ⟨rfl, hm46⟩ := q46
      have hm46 := hm46.symm
      subst hm46
      rw [hpl]
      refine vv_icmp_ge (pc := 49) x dd_Ca_carryPartsOfCarried_49 (tgt := 80) (by decide) (fun h49 => ?_) (fun h49 => ?_)
      · have hkn : k = (bpt (hb B (q1.getD j 0))).length := by
          have := (nI_leI (by omega) (by omega)).mp h49
          omega
        refine vv_iinc (pc := 80) x dd_Ca_carryPartsOfCarried_80 rfl (w := nI (B0.length + (j + 1))) (by exact nI_1 (B0.length + j)) (by decide) (ls2 := [_, _, _, _]) rfl ?_
        refine vv_goto (pc := 83) x dd_Ca_carryPartsOfCarried_83 (tgt := 5) (by decide) ?_
        refine vv_weak (ls2 := [some (.ref c), some (.int (nI (B0.length + (j + 1)))), none, none]) (fun i v hi => ?_) (hout M2 q2 hch (by rw [← TT_next (kk := k) (by rw [hgd]; omega) (by rw [hgd]; exact hp4)]; exact K) (clo_next hcl (by rw [hgd]; omega)) hq (by omega) (by rw [← hb9, List.drop_eq_nil_of_le (by omega)]; rfl))
        rcases i with _ | _ | _ | _ | i
        · exact hi
        · exact hi
        · simp at hi
        · simp at hi
        · simp at hi
      · have hlt : k < (bpt (hb B (q1.getD j 0))).length := by
          rcases Nat.lt_or_ge k (bpt (hb B (q1.getD j 0))).length with h | h
          · exact h
          · exact absurd (nI_le h (by omega)) h49
        have hvp : vt B ((bpt (hb B (q1.getD j 0))).getD k 0) := hval _ hqj _ (getD_mem hlt)
        have hd9 : (bpt (hb B (q1.getD j 0))).drop k = (bpt (hb B (q1.getD j 0))).getD k 0 :: (bpt (hb B (q1.getD j 0))).drop (k + 1) := drop_getD hlt
        have hb10 : bfs B n (j + 1) (visL B (vis B q2 ((bpt (hb B (q1.getD j 0))).getD k 0)) ((bpt (hb B (q1.getD j 0))).drop (k + 1))) = Q9 := by rw [← hb9, hd9, visL_cons]
        have hroom : hsz B0 + hsz (qB B (vis B q2 ((bpt (hb B (q1.getD j 0))).getD k 0))) ≤ pw := by
          obtain ⟨r2, e2⟩ := visL_pre (B := B) (ts := (bpt (hb B (q1.getD j 0))).drop (k + 1)) (q := vis B q2 ((bpt (hb B (q1.getD j 0))).getD k 0))
          obtain ⟨r3, e3⟩ := bfs_pre (B := B) (n := n) (j := j + 1) (q := visL B (vis B q2 ((bpt (hb B (q1.getD j 0))).getD k 0)) ((bpt (hb B (q1.getD j 0))).drop (k + 1)))
          have e4 : Q9 = (vis B q2 ((bpt (hb B (q1.getD j 0))).getD k 0) ++ r2) ++ r3 := by rw [← hb10, e3, e2]
          have e5 := hs
          rw [e4, qB_app, qB_app] at e5
          omega
        obtain ⟨r4, e4⟩ := vis_pre (B := B) (q := q2) (t := (bpt (hb B (q1.getD j 0))).getD k 0)
        refine vv_aload_n (pc := 52) x dd_Ca_carryPartsOfCarried_52 rfl ?_
        refine lg_Ca_19 (pc := 53) G x dd_Ca_carryPartsOfCarried_53 (by assumption) r1 ?_
        rw [f1]
        refine vv_iload_n (pc := 56) x dd_Ca_carryPartsOfCarried_56 rfl ?_
        refine vv_iload_n (pc := 57) x dd_Ca_carryPartsOfCarried_57 rfl ?_
        refine vv_aload_n (pc := 58) x dd_Ca_carryPartsOfCarried_58 rfl ?_
        refine vv_aload_n (pc := 59) x dd_Ca_carryPartsOfCarried_59 rfl ?_
        refine lg_Ca_19 (pc := 60) G x dd_Ca_carryPartsOfCarried_60 (by assumption) r1 ?_
        rw [f1]
        refine vv_iload_n (pc := 63) x dd_Ca_carryPartsOfCarried_63 rfl ?_
        refine vv_iload_n (pc := 64) x dd_Ca_carryPartsOfCarried_64 rfl ?_
        refine lv_Ca_55 (pc := 65) G x dd_Ca_carryPartsOfCarried_65 (K_partOf_e G S2 hp hp6 hDt hTt Ht hTl (by rw [hpl]; exact hlt) est) hTt ⟨by decide, by decide⟩ (by decide) (by decide) (Nat.le_of_ble_eq_true rfl) (fun v65 M65 q65 => ?_)
        obtain ⟨rfl, hm65⟩ := q65
        have hm65 := hm65.symm
        subst hm65
        rw [hbt, pb_get hlt]
        refine lv_Ca_59 (pc := 68) G x dd_Ca_carryPartsOfCarried_68 (K_carry G S2 hp hp6 K hvp hroom) hTc ⟨by decide, by decide⟩ (by decide) (by decide) (Nat.le_of_ble_eq_true rfl) (fun v68 M68 q68 => ?_)
        obtain ⟨rfl, hch3, K3⟩ := q68
        have hdr : (vis B q2 ((bpt (hb B (q1.getD j 0))).getD k 0)).drop q2.length = r4 := by rw [e4, List.drop_left]
        have hT3 : TT B (hsz B0) B0 j k q2 ++ qB B ((vis B q2 ((bpt (hb B (q1.getD j 0))).getD k 0)).drop q2.length) = TT B (hsz B0) B0 j k (vis B q2 ((bpt (hb B (q1.getD j 0))).getD k 0)) := by rw [hdr, e4, TT_grow hcl hj2]
        rw [hT3] at K3
        have S3 := hch3.sh S2
        have hcl3 : clo B j (k + 1) (vis B q2 ((bpt (hb B (q1.getD j 0))).getD k 0)) := by
          have h7 := clo_step hcl hj2 (by rw [hgd]; exact hlt)
          rw [hgd] at h7
          exact h7
        generalize hq3 : vis B q2 ((bpt (hb B (q1.getD j 0))).getD k 0) = q3 at K3 hcl3 hb10 e4
        have hj3 : j < q3.length := by rw [e4]; simp; omega
        have hgd3 : q3.getD j 0 = q1.getD j 0 := by rw [e4, getD_app hj2, hgd]
        have hTl3 : B0.length + j < (TT B (hsz B0) B0 j k q3).length := by rw [TT_len]; omega
        have hbt3 : hb (TT B (hsz B0) B0 j k q3) (B0.length + j) = pb B (hsz B0) q3 k (hb B (q1.getD j 0)) := by rw [TT_hb hj3, if_neg (Nat.lt_irrefl _), if_pos rfl, hgd3]
        have est3 : (tk (hb B (q1.getD j 0)).1 (hsz B0 + had (qB B q1) j)) = htm (TT B (hsz B0) B0 j k q3) (B0.length + j) := by
          rw [TT_tm hj3, hgd3]
          have e9 : had (qB B q3) j = had (qB B q1) j := by rw [e4, hr, List.append_assoc]; unfold qB; rw [List.map_append, had_app (by simp; omega)]
          rw [e9]
        have hpl3 : k < (bpt (hb (TT B (hsz B0) B0 j k q3) (B0.length + j))).length := by rw [hbt3, pb_bpt]; exact hlt
        refine lv_Ca_62 (pc := 71) G x dd_Ca_carryPartsOfCarried_71 (K_setPart_e G S3 hp hp6 K3.2.1.2.2.2.1 K3.2.1.2.2.2.2 K3.2.2.2.1 hTl3 hpl3 est3) K3.2.1.2.2.2.2 ⟨by decide, by decide⟩ (by decide) (by decide) (Nat.le_of_ble_eq_true rfl) (fun v71 M71 q71 => ?_)
        obtain ⟨rfl, hto4⟩ := q71
        have hs9 : (TT B (hsz B0) B0 j k q3).set (B0.length + j) ((hb (TT B (hsz B0) B0 j k q3) (B0.length + j)).1, (hb (TT B (hsz B0) B0 j k q3) (B0.length + j)).2.set k (rel B (hsz B0) q3 ((bpt (hb B (q1.getD j 0))).getD k 0))) = TT B (hsz B0) B0 j (k + 1) q3 := by
          have h7 := TT_set (B := B) (fr := hsz B0) (B0 := B0) (kk := k) hj3 (by rw [hgd3]; exact hlt)
          rw [hgd3] at h7
          exact h7
        rw [hs9] at hto4
        obtain ⟨hch4, K4⟩ := Cs.put S3 hp K3 hto4 (by rw [TT_sz, TT_sz])
        refine vv_iinc (pc := 74) x dd_Ca_carryPartsOfCarried_74 rfl (nI_1 k) (by decide) (ls2 := [_, _, _, _]) rfl ?_
        refine vv_goto (pc := 77) x dd_Ca_carryPartsOfCarried_77 (tgt := 40) (by decide) ?_
        exact ih n j q1 hj hn hout (k + 1) M71 q3 (by omega) (by omega) ((hch.trans hch3).trans hch4) K4 hcl3 ⟨r ++ r4, by rw [e4, hr, List.append_assoc]⟩ hb10
  have hout : ∀ (N n j : Nat) (M1 : mm) (q1 : List Nat), B.length + 1 - j < N → B.length ≤ n + j → cch M c ht M1 → Cs pw D M1 c hf ht B (hsz B0) q1 (TT B (hsz B0) B0 j 0 q1) → clo B j 0 q1 → qok B q1 → j ≤ q1.length → bfs B n j q1 = Q9 → vv g 4 p l e (rm 3 72 0 0) s m args below meth c9 (MQ below (ok_Q g (fun v M' => v = none ∧ cch M c ht M' ∧ Cs pw D M' c hf ht B (hsz B0) Q9 (TT B (hsz B0) B0 Q9.length 0 Q9))) args s 0 0 (ok_F g)) 0 0 5 [some (.ref c), some (.int (nI (B0.length + j))), none, none] [] (M1) := by
    intro N
    induction N with
    | zero => intro n j M1 q1 h; omega
    | succ N ih =>
      intro n j M1 q1 hN hn hch K hcl hq hj hb9
      have S1 := hch.sh S
      have hql := q_len hq
      obtain ⟨⟨hTc, hDc, r0, f0, r1, f1⟩, ⟨hne, hDf, hTf, hDt, hTt⟩, Hf, Ht, hz, -, hC⟩ := id K
      have rs := S1.r hDt hTt 2 hp
      have ts := S1.t hDt hTt 2 hp
      have ns : mm_n M1 (mm_f M1 2 2 ht) = pw := S1.n hDt hTt 2 hp
      have hcnt := Ht.2.1
      have hlen := len_le_hsz (TT B (hsz B0) B0 j 0 q1)
      have hle := Ht.2.2.1
      rw [TT_len] at hcnt hlen
      refine vv_iload_n (pc := 5) x dd_Ca_carryPartsOfCarried_5 rfl ?_
      refine vv_aload_n (pc := 6) x dd_Ca_carryPartsOfCarried_6 rfl ?_
      refine lg_Ca_19 (pc := 7) G x dd_Ca_carryPartsOfCarried_7 (by assumption) r1 ?_
      rw [f1]
      refine lg_Ca_49 (pc := 10) G x dd_Ca_carryPartsOfCarried_10 hTt rs ?_
      refine vv_alenI (pc := 13) x dd_Ca_carryPartsOfCarried_13 ts ?_
      rw [ns]
      refine vv_icmp_ge (pc := 14) x dd_Ca_carryPartsOfCarried_14 (tgt := 86) (by decide) (fun h14 => ?_) (fun h14 => ?_)
      · exact vv_vret (pc := 86) x dd_Ca_carryPartsOfCarried_86 rfl (by decide) (by decide) ⟨rfl, by
            have h8 := (nI_leI (by omega) (by omega)).mp h14
            have hjq : j = q1.length := by omega
            have hQ : Q9 = q1 := by
              rw [← hb9]
              cases n with
              | zero => rfl
              | succ n => show (if j < q1.length then _ else q1) = q1; rw [if_neg (by omega)]
            rw [hQ, ← hjq]
            exact ⟨hch, K⟩⟩
      · refine vv_iload_n (pc := 17) x dd_Ca_carryPartsOfCarried_17 rfl ?_
        refine vv_aload_n (pc := 18) x dd_Ca_carryPartsOfCarried_18 rfl ?_
        refine lg_Ca_19 (pc := 19) G x dd_Ca_carryPartsOfCarried_19 (by assumption) r1 ?_
        rw [f1]
        refine lg_Ca_22 (pc := 22) G x dd_Ca_carryPartsOfCarried_22 hTt ?_
        rw [hcnt]
        refine vv_icmp_ge (pc := 25) x dd_Ca_carryPartsOfCarried_25 (tgt := 86) (by decide) (fun h25 => ?_) (fun h25 => ?_)
        · exact vv_vret (pc := 86) x dd_Ca_carryPartsOfCarried_86 rfl (by decide) (by decide) ⟨rfl, by
              have h8 := (nI_leI (by omega) (by omega)).mp h25
              have hjq : j = q1.length := by omega
              have hQ : Q9 = q1 := by
                rw [← hb9]
                cases n with
                | zero => rfl
                | succ n => show (if j < q1.length then _ else q1) = q1; rw [if_neg (by omega)]
              rw [hQ, ← hjq]
              exact ⟨hch, K⟩⟩
        · have hlt : j < q1.length := by
            rcases Nat.lt_or_ge j q1.length with h | h
            · exact h
            · exact absurd (nI_le (by omega) (by omega)) h25
          refine vv_aload_n (pc := 28) x dd_Ca_carryPartsOfCarried_28 rfl ?_
          refine lg_Ca_19 (pc := 29) G x dd_Ca_carryPartsOfCarried_29 (by assumption) r1 ?_
          rw [f1]
          refine lg_Ca_49 (pc := 32) G x dd_Ca_carryPartsOfCarried_32 hTt rs ?_
          refine vv_iload_n (pc := 35) x dd_Ca_carryPartsOfCarried_35 rfl ?_
          refine vv_iald (pc := 36) x dd_Ca_carryPartsOfCarried_36 ts (in_n (by omega) ns (by omega)) ?_
          rw [nI_clamp (by omega), Ht.2.2.2.1 (B0.length + j) (by rw [TT_len]; omega), TT_tm hlt]
          refine vv_istore_n (pc := 37) x dd_Ca_carryPartsOfCarried_37 (by decide) (ls2 := [_, _, _, none]) rfl ?_
          refine vv_iconst (pc := 38) x dd_Ca_carryPartsOfCarried_38 (0) (by decide) ?_
          refine vv_istore_n (pc := 39) x dd_Ca_carryPartsOfCarried_39 (by decide) (ls2 := [_, _, _, _]) rfl ?_
          obtain ⟨n, rfl⟩ : ∃ n', n = n' + 1 := ⟨n - 1, by omega⟩
          have hb10 : bfs B n (j + 1) (visL B q1 (bpt (hb B (q1.getD j 0)))) = Q9 := by
            rw [← hb9]
            show _ = (if j < q1.length then _ else q1)
            rw [if_pos hlt]
          exact hin 5 n j q1 hlt (by omega) (fun M5 q5 h5 K5 c5 o5 l5 b5 => ih n (j + 1) M5 q5 (by omega) (by omega) h5 K5 c5 o5 l5 b5) 0 M1 q1 (by
            have hqj : q1.getD j 0 < B.length := hq.2 _ (by rw [List.getD_eq_getElem?_getD, List.getElem?_eq_getElem hlt]; exact List.getElem_mem hlt)
            have hbk := Hf.2.2.2.2.2 _ hqj
            unfold bpt
            split
            · simp
            · rcases hbk with h | h | h <;> omega) (Nat.zero_le _) hch K hcl ⟨[], by simp⟩ hb10
  refine vv_aload_n (pc := 0) x dd_Ca_carryPartsOfCarried_0 rfl ?_
  refine lg_Ca_28 (pc := 1) G x dd_Ca_carryPartsOfCarried_1 K.1.1 ?_
  rw [hfc]
  refine vv_istore_n (pc := 4) x dd_Ca_carryPartsOfCarried_4 (by decide) (ls2 := [_, _, none, none]) rfl ?_
  have h0 := hout (B.length + 2) B.length 0 M q (by omega) (by omega) cch.rf (by rw [TT_0]; exact K) ⟨fun m hm => by omega, fun t ht9 => by simp at ht9⟩ K.2.2.2.2.2.1 (Nat.zero_le _) hQ9
  exact h0
end M7
