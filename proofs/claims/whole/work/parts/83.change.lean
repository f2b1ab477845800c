/-! ===== lists: one more, one less ===== -/
section M40
variable {g : gg} {X : State → Prop} {t0 : Nat} {l : Launch} {M : mm} {pw : Nat} {D : Nat → Prop} {ow sl : Nat → Nat} {al t1 : Nat} {L : List Nat}
/-- nothing that was there has changed -/
def fa (M M' : mm) : Prop := ∀ a, mm_t M a ≠ 0 → mm_t M' a = mm_t M a ∧ mm_n M' a = mm_n M a ∧ mm_l M' a = mm_l M a ∧ mm_a M' a = mm_a M a ∧ mm_q M' a = mm_q M a ∧ ∀ c k, mm_i M' c k a = mm_i M c k a ∧ mm_r M' c k a = mm_r M c k a
/-- only this list has changed, of what was there -/
def fl (al : Nat) (M M' : mm) : Prop := ∀ a, mm_t M a ≠ 0 → mm_t M' a = mm_t M a ∧ mm_n M' a = mm_n M a ∧ mm_l M' a = mm_l M a ∧ mm_a M' a = mm_a M a ∧ (a ≠ mm_f M 8 1 al → mm_q M' a = mm_q M a) ∧ ∀ c k, (c ≠ 8 ∨ a ≠ al) → mm_i M' c k a = mm_i M c k a ∧ mm_r M' c k a = mm_r M c k a
theorem fa.rf : fa M M := fun _ _ => ⟨rfl, rfl, rfl, rfl, rfl, fun _ _ => ⟨rfl, rfl⟩⟩
theorem fa.trans {M1 M2 : mm} (h1 : fa M M1) (h2 : fa M1 M2) : fa M M2 := fun a ha => by
  obtain ⟨x1, x2, x3, x4, x5, x6⟩ := h1 a ha
  obtain ⟨y1, y2, y3, y4, y5, y6⟩ := h2 a (by rw [x1]; exact ha)
  exact ⟨y1.trans x1, y2.trans x2, y3.trans x3, y4.trans x4, y5.trans x5, fun c k => ⟨(y6 c k).1.trans (x6 c k).1, (y6 c k).2.trans (x6 c k).2⟩⟩
theorem fa_nw {q t n : Nat} (h : mm_t M q = 0) : fa M (mm_nw M q t n) := fun a ha => by
  have e : a ≠ q := fun z => ha (by rw [z]; exact h)
  exact ⟨if_neg e, if_neg e, if_neg e, if_neg e, if_neg e, fun c k => ⟨if_neg e, if_neg e⟩⟩
theorem vv_low {own nm : String} {cc : ByteArray} {nL : Nat} {ret : Option FieldType} {d lo mc ms : Nat} {p : Program} {e : Env} {R : Room} {s : State} {m : MethodId} {args : Array Value} {below : List Frame} {meth : Method} {c : Code} {Q : State → Prop} {cells slots pc : Nat} {ls : List (Option Value)} {st : List Value} (G : gc g X t0 l) (x : cx g X own nm cc nL ret d lo mc ms p R s m meth c) (k : mm_t M 0 = 0 ∧ mm_t M t0 = 0 → vv g nL p l e R s m args below meth c Q cells slots pc ls st M) : vv g nL p l e R s m args below meth c Q cells slots pc ls st M := by
  intro H locs la hR hz hL hl
  have h0 : ∀ a, a < (gg_H g).size → mm_t M a = 0 := fun a ha => Classical.byContradiction (fun z => by
    have := ((hR.1 a).2.2.2.2 z).1
    omega)
  have hX := x.2.2.2.2.2.1.2.2.2
  rw [G.2.2.2.1] at hX
  obtain ⟨cell, h1, -⟩ := hX.2.2.2.1
  have ht : t0 < (gg_H g).size := (Array.getElem?_eq_some_iff.mp h1).1
  exact k ⟨h0 0 hR.2.2.1, h0 t0 ht⟩ H locs la hR hz hL hl
theorem vv_aretA {own nm : String} {cc : ByteArray} {nL : Nat} {ret : Option FieldType} {d lo mc ms : Nat} {p : Program} {e : Env} {R : Room} {s : State} {m : MethodId} {args : Array Value} {below : List Frame} {meth : Method} {c : Code} {cells slots pc : Nat} {ls : List (Option Value)} {Qr : Option Value → mm → Prop} (x : cx g X own nm cc nL ret d lo mc ms p R s m meth c) {v : Nat} {n : FieldType} (hd : decode cc pc = .ok (.areturn, 1)) (hr : ret = some (.array n)) (h1 : cells ≤ mc) (h2 : slots ≤ ms) (hq : Qr (some (.ref v)) M) : vv g nL p l e R s m args below meth c (MQ below (ok_Q g Qr) args s mc ms (ok_F g)) cells slots pc ls [.ref v] M :=
  fun H locs la hR hz hL hl => W.widen h1 h2 (W.aret x.1 x.2.1 (x.2.2.2.2.2.2.2.1.trans hr) (Or.inr ⟨n, rfl⟩) (Or.inr ⟨v, rfl⟩) (fun t ht _ => ⟨_, M, rfl, hq, by rw [ht]; exact hR, by rw [ht]; exact hz⟩) hL hd x.2.2.2.2.1)
set_option maxRecDepth 100000 in
set_option maxHeartbeats 4000000 in
theorem k_grow1 (G : gc g X t0 l) (hT : mm_t M al = 9) (hr : mm_r M 8 1 al ≠ 0) (hf : mm_f M 8 1 al = t0) {n : Int32} (hn : ¬ 10 < n) : Ok g X l yy_AL_grow1 cc_AL_grow1 4 (some (.array (.object "java/lang/Object"))) 1 21 1 10 [.ref al, .int n] M (fun v M' => ∃ q, v = some (.ref q) ∧ mm_t M q = 0 ∧ q ≠ t0 ∧ M' = mm_sr (mm_nw M q 102 10) 8 1 al q) := by
  refine ok_start (by decide) (Nat.le_of_ble_eq_true rfl) (by simp [Value.category]) ?_
  intro p e s m args below meth c9 x
  refine vv_aload_n (pc := 0) x dd_AL_grow1_0 rfl ?_
  refine lg_AL_9 (pc := 1) G x dd_AL_grow1_1 hT hr ?_
  rw [hf]
  refine vv_alenS (pc := 4) x dd_AL_grow1_4 (fun U h => by rw [G.2.2.2.1] at h; exact h.2.2.2.1) ?_
  refine vv_istore_n (pc := 5) x dd_AL_grow1_5 (by decide) (ls2 := [_, _, _, none]) rfl ?_
  refine vv_iload_n (pc := 6) x dd_AL_grow1_6 rfl ?_
  refine vv_if_gt (pc := 7) x dd_AL_grow1_7 (tgt := 20) (by decide) (fun h7 => absurd h7 (by decide)) (fun h7 => ?_)
  refine vv_aload_n (pc := 10) x dd_AL_grow1_10 rfl ?_
  refine lg_AL_9 (pc := 11) G x dd_AL_grow1_11 hT hr ?_
  rw [hf]
  refine lt_AL_39 (pc := 14) G x dd_AL_grow1_14 ?_
  refine vv_acmp_eq (pc := 17) x dd_AL_grow1_17 (tgt := 45) (by decide) (fun h17 => ?_) (fun h17 => absurd h17 (fun z => z rfl))
  refine vv_aload_n (pc := 45) x dd_AL_grow1_45 rfl ?_
  refine vv_bipush (pc := 46) x dd_AL_grow1_46 (10) (by decide) ?_
  refine vv_iload_n (pc := 48) x dd_AL_grow1_48 rfl ?_
  refine lm_AL_79 (pc := 49) G x dd_AL_grow1_49 ⟨by decide, by decide⟩ (Nat.le_of_ble_eq_true rfl) (by decide) (by decide) ?_
  rw [show (if (10 : Int32) < n then n else 10) = 10 from if_neg hn]
  refine la_AL_7 (pc := 52) G x dd_AL_grow1_52 (by decide) (by decide) (by decide) (by decide) (fun q hq => ?_)
  have hne : al ≠ q := fun z => by rw [z, hq] at hT; exact absurd hT (by decide)
  refine vv_low G x (fun hlow => ?_)
  have hqt : q ≠ t0 := fun z => by
    have := hlow.2
    rw [mt_nw, if_pos z.symm] at this
    exact absurd this (by decide)
  refine vv_dup_x1 (pc := 55) x dd_AL_grow1_55 rfl rfl ?_
  refine lp_AL_9 (pc := 56) G x dd_AL_grow1_56 (by rw [mt_nw, if_neg hne]; exact hT) ?_
  exact vv_aretA (pc := 59) x dd_AL_grow1_59 rfl (by decide) (by decide) ⟨q, rfl, hq, hqt, rfl⟩
set_option maxRecDepth 100000 in
set_option maxHeartbeats 4000000 in
theorem k_grow0 (G : gc g X t0 l) (hT : mm_t M al = 9) (hr : mm_r M 8 1 al ≠ 0) (hf : mm_f M 8 1 al = t0) (hs : mm_i M 8 2 al = nI 0) : Ok g X l yy_AL_grow0 cc_AL_grow0 1 (some (.array (.object "java/lang/Object"))) 2 44 1 10 [.ref al] M (fun v M' => ∃ q, v = some (.ref q) ∧ mm_t M q = 0 ∧ q ≠ t0 ∧ M' = mm_sr (mm_nw M q 102 10) 8 1 al q) := by
  refine ok_start (by decide) (Nat.le_of_ble_eq_true rfl) (by simp [Value.category]) ?_
  intro p e s m args below meth c9 x
  refine vv_aload_n (pc := 0) x dd_AL_grow0_0 rfl ?_
  refine vv_aload_n (pc := 1) x dd_AL_grow0_1 rfl ?_
  refine lg_AL_48 (pc := 2) G x dd_AL_grow0_2 hT ?_
  refine vv_iconst (pc := 5) x dd_AL_grow0_5 (1) (by decide) ?_
  refine vv_iadd (pc := 6) x dd_AL_grow0_6 ?_
  rw [hs]
  refine lv_AL_69 (pc := 7) G x dd_AL_grow0_7 (k_grow1 G hT hr hf (by decide)) hT ⟨by decide, by decide⟩ (by decide) (by decide) (Nat.le_of_ble_eq_true rfl) (fun v7 M7 q7 => ?_)
  obtain ⟨q, rfl, hq⟩ := q7
  exact vv_aretA (pc := 10) x dd_AL_grow0_10 rfl (by decide) (by decide) ⟨q, rfl, hq⟩
theorem own_add {v : Nat} (hf : mm_f M 8 1 al ≠ t1) (h1 : mm_r M 8 1 al ≠ 0) (h2 : mm_t M (mm_f M 8 1 al) = 102) (h3 : mm_n M (mm_f M 8 1 al) = 10) (h4 : L.length < 10) (h5 : ∀ i, i < L.length → mm_q M (mm_f M 8 1 al) i = L.getD i 0 + 1) : ALIs t1 (mm_si (mm_sq M (mm_f M 8 1 al) (va_up (mm_q M (mm_f M 8 1 al)) L.length (v + 1))) 8 2 al (nI (L.length + 1))) al (L ++ [v]) ∧ fl al M (mm_si (mm_sq M (mm_f M 8 1 al) (va_up (mm_q M (mm_f M 8 1 al)) L.length (v + 1))) 8 2 al (nI (L.length + 1))) := by
  refine ⟨⟨h1, ?_, Or.inr ⟨hf, h2, h3, by simp; omega, fun i hi => ?_⟩⟩, fun a ha => ⟨rfl, rfl, rfl, rfl, fun z => if_neg z, fun c k z => ⟨if_neg (fun y => by omega), rfl⟩⟩⟩
  · rw [mi_si_s]; simp
  · have e : mm_q (mm_si (mm_sq M (mm_f M 8 1 al) (va_up (mm_q M (mm_f M 8 1 al)) L.length (v + 1))) 8 2 al (nI (L.length + 1))) (mm_f M 8 1 al) = va_up (mm_q M (mm_f M 8 1 al)) L.length (v + 1) := mq_sq_s
    show mm_q (mm_si (mm_sq M (mm_f M 8 1 al) (va_up (mm_q M (mm_f M 8 1 al)) L.length (v + 1))) 8 2 al (nI (L.length + 1))) (mm_f M 8 1 al) i = _
    rw [e]
    simp only [List.length_append, List.length_cons, List.length_nil] at hi
    by_cases z : i = L.length
    · rw [z, va_up_self]
      simp
    · rw [va_up_ne _ _ z, h5 i (by omega), List.getD_eq_getElem?_getD, List.getD_eq_getElem?_getD, List.getElem?_append_left (by omega)]
set_option maxRecDepth 100000 in
set_option maxHeartbeats 4000000 in
theorem k_add3 (G : gc g X t0 l) (hT : mm_t M al = 9) (H : ALIs t0 M al L) {w : Nat} (hv : mm_t M w = 4) (hl : L.length < 10) : Ok g X l yy_AL_add3 cc_AL_add3 4 none 3 64 1 10 [.ref al, .ref w, .ref (mm_f M 8 1 al), .int (nI L.length)] M (fun v M' => v = none ∧ ALIs t0 M' al (L ++ [w]) ∧ fl al M M' ∧ (mm_f M' 8 1 al = mm_f M 8 1 al ∨ mm_t M (mm_f M' 8 1 al) = 0)) := by
  refine ok_start (by decide) (Nat.le_of_ble_eq_true rfl) (by simp [Value.category]) ?_
  intro p e s m args below meth c9 x
  obtain ⟨h1, hs, h⟩ := H
  rcases h with ⟨hL, hf⟩ | ⟨hf, g2, g3, g4, g5⟩
  · subst hL
    have hs0 : mm_i M 8 2 al = nI 0 := hs
    refine vv_iload_n (pc := 0) x dd_AL_add3_0 rfl ?_
    refine vv_aload_n (pc := 1) x dd_AL_add3_1 rfl ?_
    rw [hf]
    refine vv_alenS (pc := 2) x dd_AL_add3_2 (fun U h => by rw [G.2.2.2.1] at h; exact h.2.2.2.1) ?_
    refine vv_icmp_ne (pc := 3) x dd_AL_add3_3 (tgt := 11) (by decide) (fun h3 => absurd h3 (fun z => z rfl)) (fun h3 => ?_)
    refine vv_aload_n (pc := 6) x dd_AL_add3_6 rfl ?_
    refine lv_AL_129 (pc := 7) G x dd_AL_add3_7 (k_grow0 G hT h1 hf hs0) hT ⟨by decide, by decide⟩ (by decide) (by decide) (Nat.le_of_ble_eq_true rfl) (fun v7 M7 q7 => ?_)
    obtain ⟨q, rfl, hq, hqt, hM7⟩ := q7
    have hne : al ≠ q := fun z => by rw [z, hq] at hT; exact absurd hT (by decide)
    have hnv : w ≠ q := fun z => by rw [z, hq] at hv; exact absurd hv (by decide)
    have r7 : mm_r M7 8 1 al = q + 1 := by rw [hM7]; exact if_pos ⟨rfl, rfl, rfl⟩
    have f7 : mm_f M7 8 1 al = q := by unfold mm_f; rw [r7]; rfl
    have t7 : mm_t M7 q = 102 := by rw [hM7]; exact if_pos rfl
    have n7 : mm_n M7 q = 10 := by rw [hM7]; exact if_pos rfl
    have tv7 : mm_t M7 w = 4 := by rw [hM7]; exact (if_neg hnv).trans hv
    have ta7 : mm_t M7 al = 9 := by rw [hM7]; exact (if_neg hne).trans hT
    have g7 : ∀ a, mm_t M a ≠ 0 → mm_t M7 a = mm_t M a ∧ mm_n M7 a = mm_n M a ∧ mm_l M7 a = mm_l M a ∧ mm_a M7 a = mm_a M a ∧ mm_q M7 a = mm_q M a ∧ ∀ c k, (c ≠ 8 ∨ a ≠ al) → mm_i M7 c k a = mm_i M c k a ∧ mm_r M7 c k a = mm_r M c k a := by
      intro a ha
      have e : a ≠ q := fun z => ha (by rw [z]; exact hq)
      rw [hM7]
      exact ⟨if_neg e, if_neg e, if_neg e, if_neg e, if_neg e, fun c k z => ⟨if_neg e, (if_neg (fun y => by omega)).trans (if_neg e)⟩⟩
    have ho := own_add (M := M7) (al := al) (t1 := t0) (L := []) (v := w) (by rw [f7]; exact hqt) (by rw [r7]; omega) (by rw [f7]; exact t7) (by rw [f7]; exact n7) (by decide) (fun i hi => absurd hi (by simp))
    rw [f7] at ho
    refine vv_astore_n (pc := 10) x dd_AL_add3_10 (by decide) (ls2 := [_, _, _, _]) rfl ?_
    refine vv_aload_n (pc := 11) x dd_AL_add3_11 rfl ?_
    refine vv_iload_n (pc := 12) x dd_AL_add3_12 rfl ?_
    refine vv_aload_n (pc := 13) x dd_AL_add3_13 rfl ?_
    refine vv_aast (ci := 3) (pc := 14) x dd_AL_add3_14 t7 (by rw [n7]; exact vp_in_nI (by decide) (by decide)) (cf3 G).1 tv7 (G.w tw_1070) ?_
    refine vv_aload_n (pc := 15) x dd_AL_add3_15 rfl ?_
    refine vv_iload_n (pc := 16) x dd_AL_add3_16 rfl ?_
    refine vv_iconst (pc := 17) x dd_AL_add3_17 (1) (by decide) ?_
    refine vv_iadd (pc := 18) x dd_AL_add3_18 ?_
    refine lp_AL_48 (pc := 19) G x dd_AL_add3_19 ta7 ?_
    exact vv_vret (pc := 22) x dd_AL_add3_22 rfl (by decide) (by decide) ⟨rfl, ho.1, fun a ha => by
        obtain ⟨x1, x2, x3, x4, x5, x6⟩ := g7 a ha
        obtain ⟨y1, y2, y3, y4, y5, y6⟩ := ho.2 a (by rw [x1]; exact ha)
        exact ⟨y1.trans x1, y2.trans x2, y3.trans x3, y4.trans x4, fun _ => (y5 (by rw [f7]; exact fun z => ha (by rw [z]; exact hq))).trans x5, fun c k z => ⟨(y6 c k z).1.trans (x6 c k z).1, (y6 c k z).2.trans (x6 c k z).2⟩⟩, Or.inr (by
        show mm_t M (mm_f M7 8 1 al) = 0
        rw [f7]; exact hq)⟩
  · have ho := own_add (M := M) (al := al) (t1 := t0) (L := L) (v := w) hf h1 g2 g3 hl g5
    have hcl : (nI L.length).toNatClampNeg = L.length := nI_clamp (by omega)
    refine vv_iload_n (pc := 0) x dd_AL_add3_0 rfl ?_
    refine vv_aload_n (pc := 1) x dd_AL_add3_1 rfl ?_
    refine vv_alenQ (pc := 2) x dd_AL_add3_2 g2 ?_
    rw [g3]
    refine vv_icmp_ne (pc := 3) x dd_AL_add3_3 (tgt := 11) (by decide) (fun h3 => ?_) (fun h3 => absurd h3 (fun z => by have := (nI_eq (by omega) (by decide)).mp z; omega))
    refine vv_aload_n (pc := 11) x dd_AL_add3_11 rfl ?_
    refine vv_iload_n (pc := 12) x dd_AL_add3_12 rfl ?_
    refine vv_aload_n (pc := 13) x dd_AL_add3_13 rfl ?_
    refine vv_aast (ci := 3) (pc := 14) x dd_AL_add3_14 g2 (by rw [g3]; exact vp_in_nI (by omega) (by decide)) (cf3 G).1 hv (G.w tw_1070) ?_
    rw [hcl]
    refine vv_aload_n (pc := 15) x dd_AL_add3_15 rfl ?_
    refine vv_iload_n (pc := 16) x dd_AL_add3_16 rfl ?_
    refine vv_iconst (pc := 17) x dd_AL_add3_17 (1) (by decide) ?_
    refine vv_iadd (pc := 18) x dd_AL_add3_18 ?_
    rw [nI_1]
    refine lp_AL_48 (pc := 19) G x dd_AL_add3_19 hT ?_
    exact vv_vret (pc := 22) x dd_AL_add3_22 rfl (by decide) (by decide) ⟨rfl, ho.1, ho.2, Or.inl rfl⟩
theorem ALIs.m0 {v : Int32} (H : ALIs t1 M al L) : ALIs t1 (mm_si M 8 0 al v) al L := H
set_option maxRecDepth 100000 in
set_option maxHeartbeats 4000000 in
theorem k_add1 (G : gc g X t0 l) (hT : mm_t M al = 9) (H : ALIs t0 M al L) {w : Nat} (hv : mm_t M w = 4) (hl : L.length < 10) : Ok g X l yy_AL_add1 cc_AL_add1 2 (some .boolean) 4 87 1 10 [.ref al, .ref w] M (fun v M' => v = some (.int 1) ∧ ALIs t0 M' al (L ++ [w]) ∧ fl al M M' ∧ (mm_f M' 8 1 al = mm_f M 8 1 al ∨ mm_t M (mm_f M' 8 1 al) = 0)) := by
  refine ok_start (by decide) (Nat.le_of_ble_eq_true rfl) (by simp [Value.category]) ?_
  intro p e s m args below meth c9 x
  refine vv_aload_n (pc := 0) x dd_AL_add1_0 rfl ?_
  refine vv_dup (pc := 1) x dd_AL_add1_1 rfl ?_
  refine lg_AL_63 (pc := 2) G x dd_AL_add1_2 hT ?_
  refine vv_iconst (pc := 5) x dd_AL_add1_5 (1) (by decide) ?_
  refine vv_iadd (pc := 6) x dd_AL_add1_6 ?_
  refine lp_AL_63 (pc := 7) G x dd_AL_add1_7 hT ?_
  refine vv_aload_n (pc := 10) x dd_AL_add1_10 rfl ?_
  refine vv_aload_n (pc := 11) x dd_AL_add1_11 rfl ?_
  refine vv_aload_n (pc := 12) x dd_AL_add1_12 rfl ?_
  refine lg_AL_9 (pc := 13) G x dd_AL_add1_13 hT H.1 ?_
  refine vv_aload_n (pc := 16) x dd_AL_add1_16 rfl ?_
  refine lg_AL_48 (pc := 17) G x dd_AL_add1_17 hT ?_
  rw [show mm_i (mm_si M 8 0 al (mm_i M 8 0 al + 1)) 8 2 al = nI L.length from H.2.1]
  refine lv_AL_131 (pc := 20) G x dd_AL_add1_20 (k_add3 (M := mm_si M 8 0 al (mm_i M 8 0 al + 1)) G hT H.m0 hv hl) hT ⟨by decide, by decide⟩ (by decide) (by decide) (Nat.le_of_ble_eq_true rfl) (fun v20 M20 q20 => ?_)
  obtain ⟨rfl, h1, h2, h3⟩ := q20
  refine vv_iconst (pc := 23) x dd_AL_add1_23 (1) (by decide) ?_
  exact vv_zret (pc := 24) x dd_AL_add1_24 rfl (Or.inr rfl) (by decide) (by decide) ⟨rfl, h1, fun a ha => by
      obtain ⟨y1, y2, y3, y4, y5, y6⟩ := h2 a ha
      exact ⟨y1, y2, y3, y4, y5, fun c k z => ⟨(y6 c k z).1.trans (if_neg (fun y => by omega)), (y6 c k z).2⟩⟩, h3⟩
theorem era_get {L : List Nat} {i j : Nat} (hj : j < (L.eraseIdx i).length) (hi : i < L.length) : (L.eraseIdx i).getD j 0 = if j < i then L.getD j 0 else L.getD (j + 1) 0 := by
  rw [List.getD_eq_getElem?_getD, List.getElem?_eraseIdx]
  split
  · rw [List.getD_eq_getElem?_getD]
  · rw [List.getD_eq_getElem?_getD]
theorem own_rem {F : Nat → Nat} {M1 : mm} {i : Nat} (hi : i < L.length) (hf : mm_f M 8 1 al ≠ t1) (h1 : mm_r M 8 1 al ≠ 0) (h2 : mm_t M (mm_f M 8 1 al) = 102) (h3 : mm_n M (mm_f M 8 1 al) = 10) (h4 : L.length ≤ 10) (hF : ∀ j, j < L.length - 1 → F j = (if j < i then L.getD j 0 else L.getD (j + 1) 0) + 1) {v : Int32} (e : M1 = mm_sq (mm_si (mm_si M 8 0 al v) 8 2 al (nI (L.length - 1))) (mm_f M 8 1 al) F) : ALIs t1 M1 al (L.eraseIdx i) ∧ fl al M M1 ∧ mm_f M1 8 1 al = mm_f M 8 1 al := by
  subst e
  have hle : (L.eraseIdx i).length = L.length - 1 := List.length_eraseIdx_of_lt hi
  refine ⟨⟨h1, ?_, Or.inr ⟨hf, h2, h3, by omega, fun j hj => ?_⟩⟩, fun a ha => ⟨rfl, rfl, rfl, rfl, fun z => if_neg z, fun c k z => ⟨(if_neg (fun y => by omega)).trans (if_neg (fun y => by omega)), rfl⟩⟩, rfl⟩
  · rw [hle]
    exact if_pos ⟨rfl, rfl, rfl⟩
  · rw [era_get hj hi]
    show (if mm_f M 8 1 al = mm_f M 8 1 al then F else _) j = _
    rw [if_pos rfl]
    exact hF j (by omega)
theorem sq_sq {a : Nat} {c k b : Nat} {v : Int32} {F F2 : Nat → Nat} : mm_sq (mm_si (mm_sq M a F) c k b v) a F2 = mm_sq (mm_si M c k b v) a F2 := by
  refine congrArg (fun z => (mm_t M, mm_i (mm_si M c k b v), mm_r M, mm_n M, mm_a M, mm_l M, z)) ?_
  funext b2
  show (if b2 = a then F2 else if b2 = a then F else mm_q M b2) = (if b2 = a then F2 else mm_q M b2)
  by_cases h : b2 = a
  · rw [if_pos h, if_pos h]
  · rw [if_neg h, if_neg h, if_neg h]
theorem sq_up {a n w : Nat} {c k b : Nat} {v : Int32} {F : Nat → Nat} : mm_sq (mm_si (mm_sq M a F) c k b v) a (va_up (mm_q (mm_si (mm_sq M a F) c k b v) a) n w) = mm_sq (mm_si M c k b v) a (va_up F n w) := by
  rw [show mm_q (mm_si (mm_sq M a F) c k b v) a = F from mq_sq_s]
  exact sq_sq
set_option maxRecDepth 100000 in
set_option maxHeartbeats 4000000 in
theorem k_fastRemove (G : gc g X t0 l) (hT : mm_t M al = 9) (H : ALIs t0 M al L) (hel0 : ∀ a ∈ L, mm_t M a = 4) {i : Nat} (hi : i < L.length) : Ok g X l yy_AL_fastRemove cc_AL_fastRemove 4 none 1 26 0 0 [.ref al, .ref (mm_f M 8 1 al), .int (nI i)] M (fun v M' => v = none ∧ ALIs t0 M' al (L.eraseIdx i) ∧ fl al M M' ∧ mm_f M' 8 1 al = mm_f M 8 1 al) := by
  refine ok_start (by decide) (Nat.le_of_ble_eq_true rfl) (by simp [Value.category]) ?_
  intro p e s m args below meth c9 x
  obtain ⟨hf, h2, h3, h4, h5⟩ := (H.2.2.resolve_left (fun z => by rw [z.1] at hi; simp at hi))
  have h1 := H.1
  have hs := H.2.1
  have hcl : (nI (L.length - 1)).toNatClampNeg = L.length - 1 := nI_clamp (by omega)
  have hin : vp_in (nI (L.length - 1)) (mm_n M (mm_f M 8 1 al)) := by rw [h3]; exact vp_in_nI (by omega) (by decide)
  have hel : ∀ k : Nat, k < (nI (L.length - 1 - i)).toNatClampNeg → mm_q M (mm_f M 8 1 al) ((nI (i + 1)).toNatClampNeg + k) ≠ 0 → mm_t M (mm_e M (mm_f M 8 1 al) ((nI (i + 1)).toNatClampNeg + k)) = 4 := by
    intro k hk _
    rw [nI_clamp (by omega)] at hk ⊢
    unfold mm_e
    rw [h5 _ (by omega)]
    exact hel0 _ (getD_memN (by omega))
  by_cases hc : i < L.length - 1
  · refine vv_aload_n (pc := 0) x dd_AL_fastRemove_0 rfl ?_
    refine vv_dup (pc := 1) x dd_AL_fastRemove_1 rfl ?_
    refine lg_AL_63 (pc := 2) G x dd_AL_fastRemove_2 hT ?_
    refine vv_iconst (pc := 5) x dd_AL_fastRemove_5 (1) (by decide) ?_
    refine vv_iadd (pc := 6) x dd_AL_fastRemove_6 ?_
    refine lp_AL_63 (pc := 7) G x dd_AL_fastRemove_7 hT ?_
    refine vv_aload_n (pc := 10) x dd_AL_fastRemove_10 rfl ?_
    refine lg_AL_48 (pc := 11) G x dd_AL_fastRemove_11 hT ?_
    rw [show mm_i (mm_si M 8 0 al (mm_i M 8 0 al + 1)) 8 2 al = nI L.length from hs]
    refine vv_iconst (pc := 14) x dd_AL_fastRemove_14 (1) (by decide) ?_
    refine vv_isub (pc := 15) x dd_AL_fastRemove_15 ?_
    rw [nI_dec (by omega)]
    refine vv_dup (pc := 16) x dd_AL_fastRemove_16 rfl ?_
    refine vv_istore_n (pc := 17) x dd_AL_fastRemove_17 (by decide) (ls2 := [_, _, _, _]) rfl ?_
    refine vv_iload_n (pc := 18) x dd_AL_fastRemove_18 rfl ?_
    refine vv_icmp_le (pc := 19) x dd_AL_fastRemove_19 (tgt := 34) (by decide) (fun h19 => absurd h19 (fun z => by have := (nI_leI (by omega) (by omega)).mp z; omega)) (fun h19 => ?_)
    refine vv_aload_n (pc := 22) x dd_AL_fastRemove_22 rfl ?_
    refine vv_iload_n (pc := 23) x dd_AL_fastRemove_23 rfl ?_
    refine vv_iconst (pc := 24) x dd_AL_fastRemove_24 (1) (by decide) ?_
    refine vv_iadd (pc := 25) x dd_AL_fastRemove_25 ?_
    refine vv_aload_n (pc := 26) x dd_AL_fastRemove_26 rfl ?_
    refine vv_iload_n (pc := 27) x dd_AL_fastRemove_27 rfl ?_
    refine vv_iload_n (pc := 28) x dd_AL_fastRemove_28 rfl ?_
    refine vv_iload_n (pc := 29) x dd_AL_fastRemove_29 rfl ?_
    refine vv_isub (pc := 30) x dd_AL_fastRemove_30 ?_
    rw [nI_1, pk_sub (by omega)]
    refine lq_AL_112 (pc := 31) G x dd_AL_fastRemove_31 h2 h2 (nI_pos (by omega)) (nI_pos (by omega)) (nI_pos (by omega)) (by rw [nI_clamp (by omega), nI_clamp (by omega)]; show _ ≤ mm_n M (mm_f M 8 1 al); omega) (by rw [nI_clamp (by omega), nI_clamp (by omega)]; show _ ≤ mm_n M (mm_f M 8 1 al); omega) hel ⟨by decide, by decide⟩ (Nat.le_of_ble_eq_true rfl) ?_
    rw [nI_clamp (n := i + 1) (by omega), nI_clamp (n := i) (by omega), nI_clamp (n := L.length - 1 - i) (by omega)]
    refine vv_aload_n (pc := 34) x dd_AL_fastRemove_34 rfl ?_
    refine vv_aload_n (pc := 35) x dd_AL_fastRemove_35 rfl ?_
    refine vv_iload_n (pc := 36) x dd_AL_fastRemove_36 rfl ?_
    refine vv_dup_x1 (pc := 37) x dd_AL_fastRemove_37 rfl rfl ?_
    refine lp_AL_48 (pc := 38) G x dd_AL_fastRemove_38 hT ?_
    refine vv_null (pc := 41) x dd_AL_fastRemove_41 ?_
    refine vv_aastN (pc := 42) x dd_AL_fastRemove_42 h2 hin ?_
    rw [hcl]
    exact vv_vret (pc := 43) x dd_AL_fastRemove_43 rfl (by decide) (by decide) ⟨rfl, own_rem hi hf h1 h2 h3 h4 (F := va_up (va_cpy (mm_q M (mm_f M 8 1 al)) (mm_q M (mm_f M 8 1 al)) (i + 1) i (L.length - 1 - i)) (L.length - 1) 0) (v := mm_i M 8 0 al + 1) (fun j hj => by
        rw [va_up_ne _ _ (by omega)]
        unfold va_cpy
        by_cases z : j < i
        · rw [if_neg (by omega), if_pos z, h5 j (by omega)]
        · rw [if_pos (by omega), if_neg z, show i + 1 + (j - i) = j + 1 by omega, h5 (j + 1) (by omega)]) (by
        exact sq_up)⟩
  · refine vv_aload_n (pc := 0) x dd_AL_fastRemove_0 rfl ?_
    refine vv_dup (pc := 1) x dd_AL_fastRemove_1 rfl ?_
    refine lg_AL_63 (pc := 2) G x dd_AL_fastRemove_2 hT ?_
    refine vv_iconst (pc := 5) x dd_AL_fastRemove_5 (1) (by decide) ?_
    refine vv_iadd (pc := 6) x dd_AL_fastRemove_6 ?_
    refine lp_AL_63 (pc := 7) G x dd_AL_fastRemove_7 hT ?_
    refine vv_aload_n (pc := 10) x dd_AL_fastRemove_10 rfl ?_
    refine lg_AL_48 (pc := 11) G x dd_AL_fastRemove_11 hT ?_
    rw [show mm_i (mm_si M 8 0 al (mm_i M 8 0 al + 1)) 8 2 al = nI L.length from hs]
    refine vv_iconst (pc := 14) x dd_AL_fastRemove_14 (1) (by decide) ?_
    refine vv_isub (pc := 15) x dd_AL_fastRemove_15 ?_
    rw [nI_dec (by omega)]
    refine vv_dup (pc := 16) x dd_AL_fastRemove_16 rfl ?_
    refine vv_istore_n (pc := 17) x dd_AL_fastRemove_17 (by decide) (ls2 := [_, _, _, _]) rfl ?_
    refine vv_iload_n (pc := 18) x dd_AL_fastRemove_18 rfl ?_
    refine vv_icmp_le (pc := 19) x dd_AL_fastRemove_19 (tgt := 34) (by decide) (fun h19 => ?_) (fun h19 => absurd h19 (fun z => z ((nI_leI (by omega) (by omega)).mpr (by omega))))
    refine vv_aload_n (pc := 34) x dd_AL_fastRemove_34 rfl ?_
    refine vv_aload_n (pc := 35) x dd_AL_fastRemove_35 rfl ?_
    refine vv_iload_n (pc := 36) x dd_AL_fastRemove_36 rfl ?_
    refine vv_dup_x1 (pc := 37) x dd_AL_fastRemove_37 rfl rfl ?_
    refine lp_AL_48 (pc := 38) G x dd_AL_fastRemove_38 hT ?_
    refine vv_null (pc := 41) x dd_AL_fastRemove_41 ?_
    refine vv_aastN (pc := 42) x dd_AL_fastRemove_42 h2 hin ?_
    rw [hcl]
    exact vv_vret (pc := 43) x dd_AL_fastRemove_43 rfl (by decide) (by decide) ⟨rfl, own_rem hi hf h1 h2 h3 h4 (F := va_up (mm_q M (mm_f M 8 1 al)) (L.length - 1) 0) (v := mm_i M 8 0 al + 1) (fun j hj => by
        rw [va_up_ne _ _ (by omega), if_pos (by omega), h5 j (by omega)]) rfl⟩
set_option maxRecDepth 100000 in
set_option maxHeartbeats 4000000 in
theorem k_remove (G : gc g X t0 l) (hT : mm_t M al = 9) (H : ALIs t0 M al L) (hel0 : ∀ a ∈ L, mm_t M a = 4) {i : Nat} (hi : i < L.length) : Ok g X l yy_AL_remove1 cc_AL_remove1 4 (some (.object "java/lang/Object")) 2 49 0 0 [.ref al, .int (nI i)] M (fun v M' => v = some (.ref (L.getD i 0)) ∧ ALIs t0 M' al (L.eraseIdx i) ∧ fl al M M' ∧ mm_f M' 8 1 al = mm_f M 8 1 al) := by
  refine ok_start (by decide) (Nat.le_of_ble_eq_true rfl) (by simp [Value.category]) ?_
  intro p e s m args below meth c9 x
  obtain ⟨hf, h2, h3, h4, h5⟩ := (H.2.2.resolve_left (fun z => by rw [z.1] at hi; simp at hi))
  have hc : (nI i).toNatClampNeg = i := nI_clamp (by omega)
  have he : mm_e M (mm_f M 8 1 al) i = L.getD i 0 := by
    unfold mm_e
    rw [h5 i hi]
    rfl
  refine vv_iload_n (pc := 0) x dd_AL_remove1_0 rfl ?_
  refine vv_aload_n (pc := 1) x dd_AL_remove1_1 rfl ?_
  refine lg_AL_48 (pc := 2) G x dd_AL_remove1_2 hT ?_
  rw [H.2.1]
  refine lv_AL_118 (pc := 5) G x dd_AL_remove1_5 (k_ocheck G hi (by omega))  ⟨by decide, by decide⟩ (by decide) (by decide) (Nat.le_of_ble_eq_true rfl) (fun v5 M5 q5 => ?_)
  obtain ⟨rfl, hm5⟩ := q5
  have hm5 := hm5.symm
  subst hm5
  refine vv_pop (pc := 8) x dd_AL_remove1_8 rfl ?_
  refine vv_aload_n (pc := 9) x dd_AL_remove1_9 rfl ?_
  refine lg_AL_9 (pc := 10) G x dd_AL_remove1_10 hT H.1 ?_
  refine vv_astore_n (pc := 13) x dd_AL_remove1_13 (by decide) (ls2 := [_, _, _, none]) rfl ?_
  refine vv_aload_n (pc := 14) x dd_AL_remove1_14 rfl ?_
  refine vv_iload_n (pc := 15) x dd_AL_remove1_15 rfl ?_
  refine vv_aald (pc := 16) x dd_AL_remove1_16 h2 (by rw [h3]; exact vp_in_nI (by omega) (by decide)) (by rw [hc, h5 i hi]; omega) ?_
  rw [hc, he]
  refine vv_astore_n (pc := 17) x dd_AL_remove1_17 (by decide) (ls2 := [_, _, _, _]) rfl ?_
  refine vv_aload_n (pc := 18) x dd_AL_remove1_18 rfl ?_
  refine vv_aload_n (pc := 19) x dd_AL_remove1_19 rfl ?_
  refine vv_iload_n (pc := 20) x dd_AL_remove1_20 rfl ?_
  refine lv_AL_144 (pc := 21) G x dd_AL_remove1_21 (k_fastRemove G hT H hel0 hi) hT ⟨by decide, by decide⟩ (by decide) (by decide) (Nat.le_of_ble_eq_true rfl) (fun v21 M21 q21 => ?_)
  obtain ⟨rfl, hq⟩ := q21
  refine vv_aload_n (pc := 24) x dd_AL_remove1_24 rfl ?_
  exact vv_aret (pc := 25) x dd_AL_remove1_25 rfl (by decide) (by decide) ⟨rfl, hq⟩
end M40
