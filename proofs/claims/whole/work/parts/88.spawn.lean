/-! ===== spawn ===== -/
section M45
variable {g : gg} {X : State → Prop} {t0 : Nat} {l : Launch} {M : mm} {M1 : mm} {pw : Nat} {D : Nat → Prop} {ow sl : Nat → Nat} {o : Nat} {La Le : List Nat} {Z : zst}
set_option maxRecDepth 100000 in
set_option maxHeartbeats 4000000 in
theorem K_begin (G : gc g X t0 l) (S : sh pw D ow sl M) (hp : pw ≠ 0) {p9 : Nat} (hD : D p9) (hT : mm_t M p9 = 4) {n9 : Nat} : Ok g X l yy_Pr_begin cc_Pr_begin 2 none 1 23 0 0 [.ref p9, .int (nI n9)] M (fun v M' => v = none ∧ fr (fun c' k a => c' < 6 ∧ a ∈ [p9, mm_f M 3 2 p9, mm_f M 3 4 p9]) (fun _ _ _ => False) (fun a => a = mm_f M 3 3 p9) M M' ∧ PrIs pw M' p9 (n9, 8, [0, 0, 0, 0], [], [])) := by
  refine ok_start (by decide) (Nat.le_of_ble_eq_true rfl) (by simp [Value.category]) ?_
  intro p e s m args below meth c9 x
  have hD2 := S.od hD hT 2 (by decide)
  have hT2 : mm_t M (mm_f M 3 2 p9) = 3 := S.ot hD hT 2 (by decide)
  have hD4 := S.od hD hT 4 (by decide)
  have hT4 : mm_t M (mm_f M 3 4 p9) = 5 := S.ot hD hT 4 (by decide)
  have r2 := S.or hD hT 2 (by decide)
  have r4 := S.or hD hT 4 (by decide)
  have r3 := S.r hD hT 3 (show (4 : Nat) ≠ 0 by decide)
  have t3 := S.t hD hT 3 (show (4 : Nat) ≠ 0 by decide)
  have n3 : mm_n M (mm_f M 3 3 p9) = 4 := S.n hD hT 3 (show (4 : Nat) ≠ 0 by decide)
  have F1 : fr (fun c' k a => c' < 6 ∧ a ∈ [p9, mm_f M 3 2 p9, mm_f M 3 4 p9]) (fun _ _ _ => False) (fun a => a = mm_f M 3 3 p9) M (mm_si (mm_si M 3 0 p9 (nI n9)) 3 1 p9 8) := (fr_si.mono (fun c' k a z => ⟨by have := z.1; omega, by rw [z.2.2]; simp⟩) (fun _ _ _ z => z) (fun _ z => z.elim)).trans (fr_si.mono (fun c' k a z => ⟨by have := z.1; omega, by rw [z.2.2]; simp⟩) (fun _ _ _ z => z) (fun _ z => z.elim))
  have S1 := F1.sh (fun _ _ _ z => z.elim) S
  refine vv_aload_n (pc := 0) x dd_Pr_begin_0 rfl ?_
  refine vv_iload_n (pc := 1) x dd_Pr_begin_1 rfl ?_
  refine lp_Pr_31 (pc := 2) G x dd_Pr_begin_2 hT ?_
  refine vv_aload_n (pc := 5) x dd_Pr_begin_5 rfl ?_
  refine vv_bipush (pc := 6) x dd_Pr_begin_6 (8) (by decide) ?_
  refine lp_Pr_35 (pc := 8) G x dd_Pr_begin_8 hT ?_
  refine vv_aload_n (pc := 11) x dd_Pr_begin_11 rfl ?_
  refine lg_Pr_27 (pc := 12) G x dd_Pr_begin_12 hT r2 ?_
  refine lv_Pr_38 (pc := 15) G x dd_Pr_begin_15 (K_clear (M := mm_si (mm_si M 3 0 p9 (nI n9)) 3 1 p9 8) G S1 hp hD2 hT2) hT2 ⟨by decide, by decide⟩ (by decide) (by decide) (Nat.le_of_ble_eq_true rfl) (fun v15 M15 q15 => ?_)
  obtain ⟨rfl, F2, hH⟩ := q15
  have f15 : ∀ c k a, mm_f M15 c k a = mm_f M c k a := fun c k a => F2.f (fun z => z)
  have tt : mm_t M15 = mm_t M := F2.1
  have nn : mm_n M15 = mm_n M := F2.2.1
  have rr : ∀ k, mm_r M15 3 k p9 = mm_r M 3 k p9 := fun k => F2.2.2.2.2.2.1 _ _ _ (fun z => z)
  have t15 : mm_t M15 (mm_f M15 3 3 p9) = 100 := by rw [tt, f15]; exact t3
  have n15 : mm_n M15 (mm_f M15 3 3 p9) = 4 := by rw [nn, f15]; exact n3
  refine vv_aload_n (pc := 18) x dd_Pr_begin_18 rfl ?_
  refine lg_Pr_9 (pc := 19) G x dd_Pr_begin_19 (by rw [tt]; exact hT) (by rw [rr]; exact r3) ?_
  refine vv_iconst (pc := 22) x dd_Pr_begin_22 (0) (by decide) ?_
  refine lv_Pr_41 (pc := 23) G x dd_Pr_begin_23 (k_fill G t15 (by rw [n15]; decide))  ⟨by decide, by decide⟩ (by decide) (by decide) (Nat.le_of_ble_eq_true rfl) (fun v23 M23 q23 => ?_)
  obtain ⟨rfl, hM23⟩ := q23
  have f23 : ∀ c k a, mm_f M23 c k a = mm_f M15 c k a := fun c k a => by rw [hM23]; rfl
  have t23 : mm_t M23 = mm_t M15 := by rw [hM23]; rfl
  have hT423 : mm_t M23 (mm_f M23 3 4 p9) = 5 := by rw [t23, tt, f23, f15]; exact hT4
  refine vv_aload_n (pc := 26) x dd_Pr_begin_26 rfl ?_
  refine lg_Pr_18 (pc := 27) G x dd_Pr_begin_27 (by rw [t23, tt]; exact hT) (by rw [hM23]; show mm_r M15 3 4 p9 ≠ 0; rw [rr]; exact r4) ?_
  refine lv_Pr_47 (pc := 30) G x dd_Pr_begin_30 (K_mclear G hT423) hT423 ⟨by decide, by decide⟩ (by decide) (by decide) (Nat.le_of_ble_eq_true rfl) (fun v30 M30 q30 => ?_)
  obtain ⟨rfl, F4, hMl⟩ := q30
  have G3 : fr (fun _ _ _ => False) (fun _ _ _ => False) (fun a => a = mm_f M15 3 3 p9) M15 M23 := by rw [hM23]; exact fr_sa
  have f30 : ∀ c k a, mm_f M30 c k a = mm_f M c k a := fun c k a => ((F4.f (fun z => z)).trans (f23 c k a)).trans (f15 c k a)
  have q1 : mm_i M30 3 0 p9 = nI n9 := by
    rw [F4.2.2.2.2.1 _ _ _ (fun z => absurd z.1 (by decide)), G3.2.2.2.2.1 _ _ _ (fun z => z), F2.2.2.2.2.1 _ _ _ (fun z => absurd z.1 (by decide)), mi_si_k (by decide), mi_si_s]
  have q2 : mm_i M30 3 1 p9 = nI 8 := by
    rw [F4.2.2.2.2.1 _ _ _ (fun z => absurd z.1 (by decide)), G3.2.2.2.2.1 _ _ _ (fun z => z), F2.2.2.2.2.1 _ _ _ (fun z => absurd z.1 (by decide)), mi_si_s]
    rfl
  exact vv_vret (pc := 33) x dd_Pr_begin_33 rfl (by decide) (by decide) (by
    refine ⟨rfl, ?_, q1, q2, ?_, fun j hj => ?_, ?_⟩
    · exact (F1.trans (F2.mono (fun c' k a z => ⟨by have := z.1; omega, by rw [show a = mm_f M 3 2 p9 from z.2.2]; simp⟩) (fun _ _ _ z => z) (fun _ z => z.elim))).trans ((G3.mono (fun _ _ _ z => z.elim) (fun _ _ _ z => z) (fun a z => by rw [z, f15])).trans (F4.mono (fun c' k a z => ⟨by have := z.1; omega, by rw [z.2.2, f23, f15]; simp⟩) (fun _ _ _ z => z) (fun _ z => z.elim)))
    · rw [f30]
      have e9 : ∀ k, mm_f M15 2 k (mm_f M 3 2 p9) = mm_f M 2 k (mm_f M 3 2 p9) := fun k => f15 _ _ _
      have H2 : HeapIs pw M23 (mm_f M 3 2 p9) [] := HeapIs.fr G3 hH (fun z => z) (fun z => z) (fun z => z) (fun z => z) (by rw [e9, f15]; exact S.ap hD2 hT2 (k := 2) hp hD hT (k2 := 3) (show (4 : Nat) ≠ 0 by decide) (Or.inl (ne_tag hT2 hT (by decide)))) (by rw [e9, f15]; exact S.ap hD2 hT2 (k := 3) hp hD hT (k2 := 3) (show (4 : Nat) ≠ 0 by decide) (Or.inl (ne_tag hT2 hT (by decide))))
      exact HeapIs.fr F4 H2 (fun z => absurd z.1 (by decide)) (fun z => absurd z.1 (by decide)) (fun z => z) (fun z => z) (fun z => z) (fun z => z)
    · rw [f30, F4.2.2.2.2.2.2 _ (fun z => z), hM23, f15, ma_sa_s]
      rw [f15] at n15
      rw [n15]
      show (if j < 4 then (0 : Int32) else _) = [0, 0, 0, 0].getD j 0
      rw [if_pos hj]
      rcases j with _ | _ | _ | _ | j
      · rfl
      · rfl
      · rfl
      · rfl
      · omega
    · rw [f30]
      rw [f23, f15] at hMl
      exact hMl)
theorem ALIs.fa {t1 al : Nat} {L : List Nat} (H : ALIs t1 M al L) (F : fa M M1) (ht : mm_t M al ≠ 0) : ALIs t1 M1 al L ∧ mm_f M1 8 1 al = mm_f M 8 1 al := by
  obtain ⟨h1, h2, h3⟩ := H
  obtain ⟨-, -, -, -, -, x6⟩ := F al ht
  have ef : mm_f M1 8 1 al = mm_f M 8 1 al := by unfold mm_f; rw [(x6 8 1).2]
  refine ⟨⟨by rw [(x6 8 1).2]; exact h1, by rw [(x6 8 2).1]; exact h2, ?_⟩, ef⟩
  rw [ef]
  rcases h3 with h | ⟨g1, g2, g3, g4, g5⟩
  · exact Or.inl h
  · obtain ⟨y1, y2, y3, y4, y5, y6⟩ := F (mm_f M 8 1 al) (by rw [g2]; decide)
    rw [y1, y2, y5]
    exact Or.inr ⟨g1, g2, g3, g4, g5⟩
theorem CI_D {D2 : Nat → Prop} {ow2 sl2 : Nat → Nat} (C : CI pw D ow sl M o La Le Z) (S2 : sh pw D2 ow2 sl2 M) (hs : ∀ a, D a → D2 a) (h0 : sl2 0 = sl 0) : CI pw D2 ow2 sl2 M o La Le Z := by
  obtain ⟨S, ⟨hDo, hTo, hp, hp6⟩, ⟨ha1, ha2, ha3, ha4⟩, h4, h5, h6, h7⟩ := C
  exact ⟨S2, ⟨hs o hDo, hTo, hp, hp6⟩, ⟨fun a ha => ⟨hs a (ha1 a ha).1, (ha1 a ha).2⟩, ha2, ha3, ha4⟩, h4, h5, h6, by rw [h0]; exact h7⟩
/-- one process more -/
def nwP (n : Nat) : pcs := (n, 8, [0, 0, 0, 0], [], [])
def zsp (Z : zst) : zst := (Z.1 ++ [nwP (Z.2.2.1 + 1)], (Z.2.1.1 - 8, Z.2.1.2), Z.2.2.1 + 1, Z.2.2.2)
theorem zsp_ok (h : zok pw Z) (h8 : Z.1.length < 8) (hf : 8 ≤ Z.2.1.1) : zok pw (zsp Z) := by
  obtain ⟨m1, m2, m3, m4, m5, m6, m7⟩ := h
  refine ⟨fun P hP => ?_, ?_, ?_, fun P hP => ?_, m5, fun w hw => ?_, ?_⟩
  · rcases List.mem_append.mp hP with e | e
    · exact m1 P e
    · rw [List.mem_singleton.mp e]
      exact ⟨rfl, hok_nil, Nat.zero_le _, fun t ht => Or.inl (by
        have : t = 0 := by simpa [nwP] using ht
        rw [this]; decide), fun t ht => by simp [nwP] at ht, hval_nil, hbl_nil, rkd_nil⟩
  · show (Z.1 ++ [_]).length ≤ 8
    simp; omega
  · show ((Z.1 ++ [nwP (Z.2.2.1 + 1)]).map (fun P => P.1)).Pairwise _
    rw [List.map_append, List.pairwise_append]
    refine ⟨m3, by simp, fun a ha b hb => ?_⟩
    obtain ⟨P, hP, e⟩ := List.mem_map.mp ha
    have e2 : b = Z.2.2.1 + 1 := by simpa [nwP] using hb
    have := (m4 P hP).2
    rw [← e, e2]
    omega
  · show 1 ≤ P.1 ∧ P.1 ≤ Z.2.2.1 + 1
    rcases List.mem_append.mp hP with e | e
    · have := m4 P e
      omega
    · rw [List.mem_singleton.mp e]
      show 1 ≤ Z.2.2.1 + 1 ∧ Z.2.2.1 + 1 ≤ Z.2.2.1 + 1
      omega
  · show Z.2.1.2.2.2 w = zcnt (Z.1 ++ [nwP (Z.2.2.1 + 1)]) w
    rw [m6 w hw]
    unfold zcnt
    rw [List.map_append, List.sum_append]
    simp [nwP, hnd]
  · show Z.2.1.1 - 8 + zcap (Z.1 ++ [nwP (Z.2.2.1 + 1)]) + psum Z.2.1.2.2.1 = pw
    unfold zcap at *
    rw [List.map_append, List.sum_append]
    simp only [List.map_cons, List.map_nil, List.sum_cons, List.sum_nil, nwP]
    omega
theorem z8_sp (h : z8 Z) : z8 (zsp Z) := fun P hP => by
  rcases List.mem_append.mp hP with e | e
  · exact h P e
  · rw [List.mem_singleton.mp e]
    show 8 ≤ 8 ∧ 8 % 8 = 0
    decide
theorem zget_sp {i : Nat} : zget (zsp Z) i = if i = Z.1.length then nwP (Z.2.2.1 + 1) else zget Z i := by
  unfold zget zsp
  show (Z.1 ++ [nwP (Z.2.2.1 + 1)]).getD i _ = _
  rw [List.getD_eq_getElem?_getD, List.getD_eq_getElem?_getD]
  by_cases e : i = Z.1.length
  · rw [if_pos e, e, List.getElem?_append_right (by omega)]
    simp
  · rw [if_neg e]
    rcases Nat.lt_or_ge i Z.1.length with h | h
    · rw [List.getElem?_append_left h]
    · rw [List.getElem?_eq_none (by simp; omega), List.getElem?_eq_none h]
theorem app_getD {L : List Nat} {p i : Nat} : (L ++ [p]).getD i 0 = if i = L.length then p else L.getD i 0 := by
  rw [List.getD_eq_getElem?_getD, List.getD_eq_getElem?_getD]
  by_cases e : i = L.length
  · rw [if_pos e, e, List.getElem?_append_right (by omega)]
    simp
  · rw [if_neg e]
    rcases Nat.lt_or_ge i L.length with h | h
    · rw [List.getElem?_append_left h]
    · rw [List.getElem?_eq_none (by simp; omega), List.getElem?_eq_none h]
set_option maxRecDepth 100000 in
set_option maxHeartbeats 4000000 in
theorem C_spawn (G : gc g X t0 l) (C : CI pw D ow sl M o La Le Z) (hZ : zok pw Z) (hDl : ∀ a, D a → mm_t M a ≠ 0) (hs0 : sl 0 = t0) : OkX g X l yy_CH_spawn cc_CH_spawn 2 (some .int) 6 108 9 1744 [.ref o] M (fun v M' => v = some (.int (nI (Z.2.2.1 + 1))) ∧ (Z.1.length < 8 ∧ 8 ≤ Z.2.1.1) ∧ kp pw D M M' ∧ ∃ (D1 : Nat → Prop) (ow1 sl1 : Nat → Nat) (p9 : Nat) (Le1 : List Nat), (∀ a, D a → D1 a) ∧ (∀ a, D1 a → mm_t M' a ≠ 0) ∧ sl1 0 = t0 ∧ CI pw D1 ow1 sl1 M' o (La ++ [p9]) Le1 (zsp Z)) (fun E M' => E = "java/lang/IllegalStateException" ∧ M' = M ∧ ¬ (Z.1.length < 8 ∧ 8 ≤ Z.2.1.1)) := by
  refine okx_start (by decide) (Nat.le_of_ble_eq_true rfl) (by simp [Value.category]) ?_
  intro p e s m args below meth c9 x ht0
  have C0 := C
  obtain ⟨⟨hDc, hTc⟩, ⟨hDs, hTs⟩, ⟨hDb, hTb⟩, hTa⟩ := CI_tags C
  obtain ⟨S, ⟨hDo, hTo, hp, hp6⟩, ⟨ha1, ha2, ha3, ha4⟩, ⟨hl, hP⟩, ⟨hpo, T0, hT0⟩, ⟨hw, hlt, hcn⟩, hL⟩ := C
  have h80 := hZ.2.1
  have hTl : mm_t M (mm_f M 6 2 o) = 9 := S.ot hDo hTo 2 (by decide)
  have hTe : mm_t M (mm_f M 6 3 o) = 9 := S.ot hDo hTo 3 (by decide)
  have f0 : mm_i M 5 0 (mm_f M 6 1 o) = nI Z.2.1.1 := hpo.1
  have hfr : Z.2.1.1 ≤ pw := by have := hZ.2.2.2.2.2.2; omega
  have htail : ∀ (D1 : Nat → Prop) (ow1 sl1 : Nat → Nat) (M1 : mm) (p9 : Nat) (Le1 : List Nat) (ce s9 : Nat), Z.1.length < 8 → 8 ≤ Z.2.1.1 → (∀ a, D a → D1 a) → (∀ a, D1 a → mm_t M1 a ≠ 0) → sl1 0 = t0 → CI pw D1 ow1 sl1 M1 o La Le1 Z → adr D1 M1 o (p9 :: (La ++ Le1)) → La.length + Le1.length ≤ 7 → kp pw D M M1 → ce ≤ 7 → s9 ≤ 1728 → vv g 2 p l e (rm 6 108 9 1744) s m args below meth c9 (vx_MQ below (ok_Q g (fun v M' => v = some (.int (nI (Z.2.2.1 + 1))) ∧ (Z.1.length < 8 ∧ 8 ≤ Z.2.1.1) ∧ kp pw D M M' ∧ ∃ (D1 : Nat → Prop) (ow1 sl1 : Nat → Nat) (p9 : Nat) (Le1 : List Nat), (∀ a, D a → D1 a) ∧ (∀ a, D1 a → mm_t M' a ≠ 0) ∧ sl1 0 = t0 ∧ CI pw D1 ow1 sl1 M' o (La ++ [p9]) Le1 (zsp Z))) (ox_X g (fun E M' => E = "java/lang/IllegalStateException" ∧ M' = M ∧ ¬ (Z.1.length < 8 ∧ 8 ≤ Z.2.1.1))) args s 9 1744 (ok_F g)) ce s9 75 [some (.ref o), none] [.ref p9] (M1) := by
    intro D1 ow1 sl1 M1 p9 Le1 ce s9 h8 hf9 hs1 hDl1 hs01 C1 A h7 kp1 hce hs9
    obtain ⟨A1, A2, A3, A4⟩ := A
    obtain ⟨hDp, hTp⟩ := A1 p9 (by simp)
    obtain ⟨S1, ⟨-, hTo1, -, -⟩, -, ⟨hl1, -⟩, ⟨hpo1, -⟩, ⟨-, hlt1, -⟩, -⟩ := id C1
    refine vv_astore_n (pc := 75) x dd_CH_spawn_75 (by decide) (ls2 := [_, _]) rfl ?_
    refine vv_aload_n (pc := 76) x dd_CH_spawn_76 rfl ?_
    refine vv_dup (pc := 77) x dd_CH_spawn_77 rfl ?_
    refine lg_CH_83 (pc := 78) G x dd_CH_spawn_78 hTo1 ?_
    rw [hlt1]
    refine vv_iconst (pc := 81) x dd_CH_spawn_81 (1) (by decide) ?_
    refine vv_iadd (pc := 82) x dd_CH_spawn_82 ?_
    rw [nI_1]
    refine lp_CH_83 (pc := 83) G x dd_CH_spawn_83 hTo1 ?_
    have S83 : sh pw D1 ow1 sl1 (mm_si M1 6 7 o (nI (Z.2.2.1 + 1))) := (fr_si (M := M1) (c := 6) (k := 7) (a := o) (v := nI (Z.2.2.1 + 1))).sh (fun _ _ _ z => z.elim) S1
    refine vv_aload_n (pc := 86) x dd_CH_spawn_86 rfl ?_
    refine vv_aload_n (pc := 87) x dd_CH_spawn_87 rfl ?_
    refine lg_CH_83 (pc := 88) G x dd_CH_spawn_88 hTo1 ?_
    rw [mi_si_s]
    refine lv_CH_86 (pc := 91) G x dd_CH_spawn_91 (K_begin (n9 := Z.2.2.1 + 1) G S83 hp hDp hTp) hTp ⟨by decide, by decide⟩ (by omega) (by omega) (Nat.le_of_ble_eq_true rfl) (fun v91 M91 q91 => ?_)
    obtain ⟨rfl, F9, hPr⟩ := q91
    have f91 : ∀ c k a, mm_f M91 c k a = mm_f M1 c k a := fun c k a => F9.f (fun z => z)
    have t91 : mm_t M91 = mm_t M1 := F9.1
    have r91 : ∀ c k a, mm_r M91 c k a = mm_r M1 c k a := fun c k a => F9.2.2.2.2.2.1 _ _ _ (fun z => z)
    have hTb1 : mm_t M1 (mm_f M1 6 1 o) = 6 := S1.ot (hs1 o hDo) hTo1 1 (by decide)
    have hTs1 : mm_t M1 (mm_f M1 6 6 o) = 3 := S1.ot (hs1 o hDo) hTo1 6 (by decide)
    have hDb1 := S1.od (hs1 o hDo) hTo1 1 (by decide)
    have hTf1 : mm_t M1 (mm_f M1 3 2 p9) = 3 := S1.ot hDp hTp 2 (by decide)
    have hTm1 : mm_t M1 (mm_f M1 3 4 p9) = 5 := S1.ot hDp hTp 4 (by decide)
    have nb : mm_f M1 6 1 o ∉ [p9, mm_f M1 3 2 p9, mm_f M1 3 4 p9] := by
      simp only [List.mem_cons, List.not_mem_nil, or_false, not_or]
      exact ⟨ne_tag hTb1 hTp (by decide), ne_tag hTb1 hTf1 (by decide), ne_tag hTb1 hTm1 (by decide)⟩
    have g91 : mm_i M91 5 0 (mm_f M1 6 1 o) = nI Z.2.1.1 := by
      rw [F9.2.2.2.2.1 _ _ _ (fun z => nb z.2), mi_si_c (by decide)]
      exact hpo1.1
    refine vv_aload_n (pc := 94) x dd_CH_spawn_94 rfl ?_
    refine lg_CH_27 (pc := 95) G x dd_CH_spawn_95 (by rw [t91]; exact hTo1) (by rw [r91]; exact S1.or (hs1 o hDo) hTo1 1 (by decide)) ?_
    rw [f91]
    refine vv_dup (pc := 98) x dd_CH_spawn_98 rfl ?_
    refine lg_CH_66 (pc := 99) G x dd_CH_spawn_99 (by rw [t91]; exact hTb1) ?_
    rw [g91]
    refine vv_bipush (pc := 102) x dd_CH_spawn_102 (8) (by decide) ?_
    refine vv_isub (pc := 104) x dd_CH_spawn_104 ?_
    rw [show nI Z.2.1.1 - 8 = nI (Z.2.1.1 - 8) from pk_sub (b := 8) hf9]
    refine lp_CH_66 (pc := 105) G x dd_CH_spawn_105 (by rw [t91]; exact hTb1) ?_
    have F105 : fr (fun c' k a => (c' < 6 ∧ a ∈ [p9, mm_f M1 3 2 p9, mm_f M1 3 4 p9, mm_f M1 6 1 o]) ∨ (c' = 6 ∧ k = 7 ∧ a = o)) (fun _ _ _ => False) (stA pw D1 M1 [p9, mm_f M1 3 2 p9, mm_f M1 3 4 p9, mm_f M1 6 1 o]) M1 (mm_si M91 5 0 (mm_f M1 6 1 o) (nI (Z.2.1.1 - 8))) := (fr_si.mono (fun c' k a z => Or.inr z) (fun _ _ _ z => z) (fun _ z => z.elim)).trans ((F9.mono (fun c' k a z => Or.inl ⟨z.1, by
        have h9 : a ∈ [p9, mm_f M1 3 2 p9, mm_f M1 3 4 p9] := z.2
        simp only [List.mem_cons, List.not_mem_nil, or_false] at h9 ⊢
        rcases h9 with h9 | h9 | h9
        · exact Or.inl h9
        · exact Or.inr (Or.inl h9)
        · exact Or.inr (Or.inr (Or.inl h9))⟩) (fun _ _ _ z => z) (fun a z => by
        have h9 : a = mm_f M1 3 3 p9 := z
        rw [h9]
        exact stA_in hDp hTp (show (4 : Nat) ≠ 0 by decide) (by decide) (by simp))).trans (fr_si.mono (fun c' k a z => Or.inl ⟨by have := z.1; omega, by rw [z.2.2]; simp⟩) (fun _ _ _ z => z) (fun _ z => z.elim)))
    have P105 : PrIs pw (mm_si M91 5 0 (mm_f M1 6 1 o) (nI (Z.2.1.1 - 8))) p9 (nwP (Z.2.2.1 + 1)) := PrIs.fr fr_si hPr (fun z => absurd z.1 (by decide)) (fun z => absurd z.1 (by decide)) (fun z => z) (fun z => z) (fun z => z) (fun z => absurd z.1 (by decide)) (fun z => absurd z.1 (by decide)) (fun z => z) (fun z => z) (fun z => z) (fun z => z) (fun z => z) (fun z => absurd z.1 (by decide)) (fun z => absurd z.1 (by decide)) (fun z => z) (fun z => z)
    have hq105 := CI_out C1 F105 (p' := (Z.2.1.1 - 8, Z.2.1.2)) (n' := Z.2.2.1 + 1) (fun a ha => by
      have ham : a ∈ p9 :: (La ++ Le1) := List.mem_cons_of_mem _ (List.mem_append_left _ ha)
      have hne : a ≠ p9 := fun z => (List.nodup_cons.mp A2).1 (by rw [← z]; exact List.mem_append_left _ ha)
      obtain ⟨⟨-, x1⟩, ⟨-, x2⟩, ⟨-, x3⟩⟩ := (CI_tags C1).2.2.2 a (List.mem_append_left Le1 ha)
      obtain ⟨y1, y2⟩ := A4 a ham p9 (by simp) hne
      simp only [List.mem_cons, List.not_mem_nil, or_false, not_or]
      exact ⟨⟨hne, ne_tag x1 hTf1 (by decide), ne_tag x1 hTm1 (by decide), ne_tag x1 hTb1 (by decide)⟩, ⟨ne_tag x2 hTp (by decide), y1, ne_tag x2 hTm1 (by decide), ne_tag x2 hTb1 (by decide)⟩, ⟨ne_tag x3 hTp (by decide), ne_tag x3 hTf1 (by decide), y2, ne_tag x3 hTb1 (by decide)⟩⟩) (by
      simp only [List.mem_cons, List.not_mem_nil, or_false, not_or]
      exact ⟨ne_tag hTs1 hTp (by decide), fun z => A3 p9 (by simp) z.symm, ne_tag hTs1 hTm1 (by decide), ne_tag hTs1 hTb1 (by decide)⟩) (by
      obtain ⟨w1, w2, w3⟩ := hpo1
      refine ⟨?_, ?_, fun w9 hw9 => ?_⟩
      · show mm_i (mm_si M91 5 0 (mm_f M1 6 1 o) (nI (Z.2.1.1 - 8))) 5 0 (mm_f M1 6 1 o) = _
        rw [mi_si_s]
      · show mm_i (mm_si M91 5 0 (mm_f M1 6 1 o) (nI (Z.2.1.1 - 8))) 5 1 (mm_f M1 6 1 o) = _
        rw [mi_si_k (by decide), F9.2.2.2.2.1 _ _ _ (fun z => nb z.2), mi_si_c (by decide)]
        exact w2
      · have ea : ∀ k, k = 2 ∨ k = 3 → mm_a (mm_si M91 5 0 (mm_f M1 6 1 o) (nI (Z.2.1.1 - 8))) (mm_f (mm_si M91 5 0 (mm_f M1 6 1 o) (nI (Z.2.1.1 - 8))) 5 k (mm_f M1 6 1 o)) = mm_a M1 (mm_f M1 5 k (mm_f M1 6 1 o)) := by
          intro k hk
          show mm_a M91 (mm_f M91 5 k (mm_f M1 6 1 o)) = _
          rw [f91]
          exact F9.2.2.2.2.2.2 _ (fun z => S1.ap hDb1 hTb1 (k := k) (by rcases hk with e | e <;> rw [e] <;> exact (show (30 : Nat) ≠ 0 by decide)) hDp hTp (k2 := 3) (show (4 : Nat) ≠ 0 by decide) (Or.inl (ne_tag hTb1 hTp (by decide))) z)
        show mm_a (mm_si M91 5 0 (mm_f M1 6 1 o) (nI (Z.2.1.1 - 8))) (mm_f (mm_si M91 5 0 (mm_f M1 6 1 o) (nI (Z.2.1.1 - 8))) 5 3 (mm_f M1 6 1 o)) w9 = _ ∧ (_ → mm_a (mm_si M91 5 0 (mm_f M1 6 1 o) (nI (Z.2.1.1 - 8))) (mm_f (mm_si M91 5 0 (mm_f M1 6 1 o) (nI (Z.2.1.1 - 8))) 5 2 (mm_f M1 6 1 o)) w9 = _)
        rw [ea 3 (Or.inr rfl), ea 2 (Or.inl rfl)]
        exact w3 w9 hw9) (by
      rw [mi_si_c (by decide), F9.2.2.2.2.1 _ _ _ (fun z => absurd z.1 (by decide)), mi_si_s])
    have f105 : ∀ c k a, mm_f (mm_si M91 5 0 (mm_f M1 6 1 o) (nI (Z.2.1.1 - 8))) c k a = mm_f M1 c k a := fun c k a => F105.f (fun z => z)
    have t105 : mm_t (mm_si M91 5 0 (mm_f M1 6 1 o) (nI (Z.2.1.1 - 8))) = mm_t M1 := F105.1
    generalize (mm_si M91 5 0 (mm_f M1 6 1 o) (nI (Z.2.1.1 - 8))) = M105 at *
    clear F105
    obtain ⟨C105, kp105⟩ := hq105
    have hD105 : ∀ a, D1 a → mm_t M105 a ≠ 0 := fun a ha => by rw [t105]; exact hDl1 a ha
    have C105' := C105
    obtain ⟨S105, ⟨-, hTo105, -, -⟩, -, ⟨hl105, hP105⟩, -, ⟨-, hlt105, -⟩, hL105⟩ := C105'
    rw [hs01] at hL105
    obtain ⟨LA, LE, lne, lsep, l8⟩ := hL105
    have hTl : mm_t M105 (mm_f M105 6 2 o) = 9 := S105.ot (hs1 o hDo) hTo105 2 (by decide)
    have hTe : mm_t M105 (mm_f M105 6 3 o) = 9 := S105.ot (hs1 o hDo) hTo105 3 (by decide)
    refine vv_aload_n (pc := 108) x dd_CH_spawn_108 rfl ?_
    refine lg_CH_34 (pc := 109) G x dd_CH_spawn_109 hTo105 (S105.or (hs1 o hDo) hTo105 2 (by decide)) ?_
    refine vv_aload_n (pc := 112) x dd_CH_spawn_112 rfl ?_
    refine lv_CH_89 (pc := 113) G x dd_CH_spawn_113 (k_add1 G hTl LA (show mm_t M105 p9 = 4 by rw [t105]; exact hTp) (by omega)) hTl ⟨by decide, by decide⟩ (by omega) (by omega) (Nat.le_of_ble_eq_true rfl) (fun v113 M113 q113 => ?_)
    obtain ⟨rfl, LA2, Fl, hq3⟩ := q113
    have lsep2 : mm_f M105 8 1 (mm_f M105 6 3 o) = mm_f M105 8 1 (mm_f M105 6 2 o) → mm_f M105 8 1 (mm_f M105 6 3 o) = t0 := fun z => z.trans (lsep z.symm)
    have lne2 : mm_f M105 6 3 o ≠ mm_f M105 6 2 o := fun z => lne z.symm
    obtain ⟨LE2, ef2⟩ := LE.fl Fl lne2 (by rw [hTe]; decide) lsep2
    have sep113 := sep_add LE Fl lne2 (by rw [hTe]; decide) lsep2 hq3
    have n105 : mm_t M105 o ≠ 0 := by rw [hTo105]; decide
    have g113 : ∀ k, mm_f M113 6 k o = mm_f M105 6 k o := fun k => Fl.f8.f n105 (by decide)
    have hTo113 : mm_t M113 o = 7 := by rw [(Fl o n105).1]; exact hTo105
    have hlt113 : mm_i M113 6 7 o = nI (Z.2.2.1 + 1) := by rw [((Fl.f8 o n105).2.2.2.2 6 7 (by decide)).1]; exact hlt105
    have hperm : ((La ++ [p9]) ++ Le1).Perm (p9 :: (La ++ Le1)) := by
      rw [List.append_assoc]
      exact List.perm_middle
    have CJ5 : CJ pw D1 ow1 sl1 M105 o (La ++ [p9]) Le1 (zsp Z) := by
      obtain ⟨j1, j2, -, -, j5, j6⟩ := C105.j
      refine ⟨j1, j2, ⟨fun a ha => ?_, hperm.nodup_iff.mpr A2, fun a ha => ?_, fun a ha a2 ha2 hne => ?_⟩, ⟨?_, fun i hi => ?_⟩, j5, j6⟩
      · rw [t105]; exact A1 a (hperm.mem_iff.mp ha)
      · rw [f105, f105]; exact A3 a (hperm.mem_iff.mp ha)
      · rw [f105, f105, f105, f105]; exact A4 a (hperm.mem_iff.mp ha) a2 (hperm.mem_iff.mp ha2) hne
      · show _ = (Z.1 ++ [_]).length
        simp; omega
      · rw [app_getD, zget_sp]
        have hi2 : i < La.length + 1 := by simpa using hi
        by_cases e9 : i = La.length
        · rw [if_pos e9, if_pos (by omega)]; exact P105
        · rw [if_neg e9, if_neg (by omega)]; exact hP105 i (by omega)
    have CF : CI pw D1 ow1 sl1 M113 o (La ++ [p9]) Le1 (zsp Z) := by
      refine (CJ5.f8 hD105 Fl.f8).i ?_
      rw [hs01]
      unfold lst
      rw [g113, g113]
      refine ⟨LA2, LE2, lne, fun z => z.trans (sep113 z.symm), ?_⟩
      simp
      omega
    have kpF : kp pw D M M113 := by
      have kp2 : kp pw D M1 M113 := by
        have k9 := kp105.trans hDl1 (CI_7 C1) (kp_f8 S105 hD105 Fl.f8)
        exact ⟨k9.1, fun m9 hm9 ht9 => k9.2 m9 (hs1 m9 hm9) ht9⟩
      exact kp1.trans hDl (CI_7 C0) kp2
    have hDF : ∀ a, D1 a → mm_t M113 a ≠ 0 := fun a ha => by rw [(Fl a (hD105 a ha)).1]; exact hD105 a ha
    refine vv_pop (pc := 116) x dd_CH_spawn_116 rfl ?_
    refine vv_aload_n (pc := 117) x dd_CH_spawn_117 rfl ?_
    refine lg_CH_83 (pc := 118) G x dd_CH_spawn_118 hTo113 ?_
    rw [hlt113]
    exact vvx_ret (vv_iret (pc := 121) x dd_CH_spawn_121 rfl (by omega) (by omega) ⟨rfl, ⟨h8, hf9⟩, kpF, D1, ow1, sl1, p9, Le1, hs1, hDF, hs01, CF⟩)
  refine vv_aload_n (pc := 0) x dd_CH_spawn_0 rfl ?_
  refine lg_CH_34 (pc := 1) G x dd_CH_spawn_1 hTo (S.or hDo hTo 2 (by decide)) ?_
  refine lv_CH_62 (pc := 4) G x dd_CH_spawn_4 (k_size G hTl hL.1) hTl ⟨by decide, by decide⟩ (by decide) (by decide) (Nat.le_of_ble_eq_true rfl) (fun v4 M4 q4 => ?_)
  obtain ⟨rfl, hm4⟩ := q4
  have hm4 := hm4.symm
  subst hm4
  refine vv_bipush (pc := 7) x dd_CH_spawn_7 (8) (by decide) ?_
  refine vv_icmp_ge (pc := 9) x dd_CH_spawn_9 (tgt := 24) (by decide) (fun h9 => ?_) (fun h9 => ?_)
  · exact lx_CH_69 (pc := 24) G x ht0 dd_CH_spawn_24 dd_CH_spawn_27 dd_CH_spawn_28 dd_CH_spawn_31 ⟨by decide, by decide⟩ (Nat.le_of_ble_eq_true rfl) (by decide) (by decide) ⟨rfl, rfl, fun z => by have := (nI_leI (a := 8) (b := La.length) (by decide) (by omega)).mp h9; omega⟩
  · refine vv_aload_n (pc := 12) x dd_CH_spawn_12 rfl ?_
    refine lg_CH_27 (pc := 13) G x dd_CH_spawn_13 hTo (S.or hDo hTo 1 (by decide)) ?_
    refine lg_CH_66 (pc := 16) G x dd_CH_spawn_16 hTb ?_
    rw [f0]
    refine vv_bipush (pc := 19) x dd_CH_spawn_19 (8) (by decide) ?_
    refine vv_icmp_ge (pc := 21) x dd_CH_spawn_21 (tgt := 32) (by decide) (fun h21 => ?_) (fun h21 => ?_)
    · have hl8 : Z.1.length < 8 := by
        have h7 : ¬ 8 ≤ La.length := fun z => h9 ((nI_leI (a := 8) (b := La.length) (by decide) (by omega)).mpr z)
        omega
      have hf8 : 8 ≤ Z.2.1.1 := (nI_leI (a := 8) (b := Z.2.1.1) (by decide) (by omega)).mp h21
      have hL9 := hL
      rw [hs0] at hL9
      obtain ⟨LA, LE, lne, lsep, l8⟩ := hL9
      rw [List.length_append] at l8
      refine vv_aload_n (pc := 32) x dd_CH_spawn_32 rfl ?_
      refine lg_CH_38 (pc := 33) G x dd_CH_spawn_33 hTo (S.or hDo hTo 3 (by decide)) ?_
      refine lv_CH_72 (pc := 36) G x dd_CH_spawn_36 (k_isEmpty G hTe LE (by omega)) hTe ⟨by decide, by decide⟩ (by decide) (by decide) (Nat.le_of_ble_eq_true rfl) (fun v36 M36 q36 => ?_)
      obtain ⟨rfl, hm36⟩ := q36
      have hm36 := hm36.symm
      subst hm36
      refine vv_if_eq (pc := 39) x dd_CH_spawn_39 (tgt := 56) (by decide) (fun h39 => ?_) (fun h39 => ?_)
      · refine vv_aload_n (pc := 56) x dd_CH_spawn_56 rfl ?_
        refine lg_CH_38 (pc := 57) G x dd_CH_spawn_57 hTo (S.or hDo hTo 3 (by decide)) ?_
        refine vv_aload_n (pc := 60) x dd_CH_spawn_60 rfl ?_
        refine lg_CH_38 (pc := 61) G x dd_CH_spawn_61 hTo (S.or hDo hTo 3 (by decide)) ?_
        refine lv_CH_62 (pc := 64) G x dd_CH_spawn_64 (k_size G hTe LE) hTe ⟨by decide, by decide⟩ (by decide) (by decide) (Nat.le_of_ble_eq_true rfl) (fun v64 M64 q64 => ?_)
        obtain ⟨rfl, hm64⟩ := q64
        have hm64 := hm64.symm
        subst hm64
        have hn0 : Le.length ≠ 0 := fun z => by
          rw [if_pos z] at h39
          exact absurd h39 (by decide)
        refine vv_iconst (pc := 67) x dd_CH_spawn_67 (1) (by decide) ?_
        refine vv_isub (pc := 68) x dd_CH_spawn_68 ?_
        rw [nI_dec (by omega)]
        refine lv_CH_79 (pc := 69) G x dd_CH_spawn_69 (k_remove G hTe LE (fun a ha => (ha1 a (List.mem_append_right La ha)).2) (i := Le.length - 1) (by omega)) hTe ⟨by decide, by decide⟩ (by decide) (by decide) (Nat.le_of_ble_eq_true rfl) (fun v69 M69 q69 => ?_)
        obtain ⟨rfl, LE2, Fl, ef⟩ := q69
        have hmem : Le.getD (Le.length - 1) 0 ∈ La ++ Le := List.mem_append_right La (getD_memN (by omega))
        have hlE : (Le.eraseIdx (Le.length - 1)).length = Le.length - 1 := List.length_eraseIdx_of_lt (by omega)
        generalize hp9 : Le.getD (Le.length - 1) 0 = p9 at *
        have hperm : (p9 :: (La ++ Le.eraseIdx (Le.length - 1))).Perm (La ++ Le) := by
          have h1 := era_perm (L := Le) (i := Le.length - 1) (by omega)
          rw [hp9] at h1
          exact List.perm_middle.symm.trans (h1.append_left La)
        have lsep2 : mm_f M 8 1 (mm_f M 6 2 o) = mm_f M 8 1 (mm_f M 6 3 o) → mm_f M 8 1 (mm_f M 6 2 o) = t0 := lsep
        obtain ⟨LA2, ef2⟩ := LA.fl Fl lne (by rw [hTl]; decide) lsep2
        have no : mm_t M o ≠ 0 := by rw [hTo]; decide
        have g69 : ∀ k, mm_f M69 6 k o = mm_f M 6 k o := fun k => Fl.f8.f no (by decide)
        have hnd9 : (p9 :: (La ++ Le.eraseIdx (Le.length - 1))).Nodup := hperm.nodup_iff.mpr ha2
        have C6 : CI pw D ow sl M69 o La (Le.eraseIdx (Le.length - 1)) Z := by
          refine ((C0.j.less (La2 := La) (Le2 := Le.eraseIdx (Le.length - 1)) (Z2 := Z) (List.nodup_cons.mp hnd9).2 (fun a ha => hperm.mem_iff.mp (List.mem_cons_of_mem _ ha)) hl (fun i9 hi9 => ⟨i9, hi9, rfl, rfl⟩) rfl).f8 hDl Fl.f8).i ?_
          rw [hs0]
          unfold lst
          rw [g69, g69, ef, ef2]
          exact ⟨LA2, LE2, lne, lsep, by rw [List.length_append, hlE]; omega⟩
        have t3 : ∀ a ∈ La ++ Le, mm_t M a ≠ 0 := fun a ha => by rw [(ha1 a ha).2]; decide
        have hA : adr D M69 o (p9 :: (La ++ Le.eraseIdx (Le.length - 1))) := by
          refine ⟨fun a ha => ?_, hnd9, fun a ha => ?_, fun a ha a2 h2 hne => ?_⟩
          · have hm9 := hperm.mem_iff.mp ha
            rw [(Fl a (t3 a hm9)).1]; exact ha1 a hm9
          · have hm9 := hperm.mem_iff.mp ha
            rw [Fl.f8.f (t3 a hm9) (by decide), g69]; exact ha3 a hm9
          · have hm9 := hperm.mem_iff.mp ha
            have hm8 := hperm.mem_iff.mp h2
            rw [Fl.f8.f (t3 a hm9) (by decide), Fl.f8.f (t3 a2 hm8) (by decide), Fl.f8.f (t3 a hm9) (by decide), Fl.f8.f (t3 a2 hm8) (by decide)]
            exact ha4 a hm9 a2 hm8 hne
        have hD69 : ∀ a, D a → mm_t M69 a ≠ 0 := fun a ha => by rw [(Fl a (hDl a ha)).1]; exact hDl a ha
        refine lc_CH_76 (pc := 72) G x dd_CH_spawn_72 (hA.1 p9 (by simp)).2 ?_
        exact htail D ow sl M69 p9 (Le.eraseIdx (Le.length - 1)) _ _ hl8 hf8 (fun _ h => h) hD69 hs0 C6 hA (by rw [hlE]; omega) (kp_f8 S hDl Fl.f8) (by omega) (by omega)
      · have hLe : Le = [] := by
          refine List.eq_nil_of_length_eq_zero (Classical.byContradiction (fun z => h39 (by rw [if_neg z])))
        refine ln_CH_76 (pc := 42) G x dd_CH_spawn_42 (by decide) (by decide) (fun p9 hp9 => ?_)
        have hnp : ¬ D p9 := fun z => hDl p9 z hp9
        have hDn : ∀ a, D a → mm_t (mm_nw M p9 4 0) a ≠ 0 := fun a ha => by rw [(fa_nw hp9 a (hDl a ha)).1]; exact hDl a ha
        have Sn := S.f8 hDl (fa_nw (t := 4) (n := 0) hp9).f8
        have hTon : mm_t (mm_nw M p9 4 0) o = 7 := by rw [(fa_nw hp9 o (by rw [hTo]; decide)).1]; exact hTo
        have hwn : mm_i (mm_nw M p9 4 0) 6 0 o = nI pw := by rw [((fa_nw hp9 o (by rw [hTo]; decide)).2.2.2.2.2 6 0).1]; exact hw
        refine vv_dup (pc := 45) x dd_CH_spawn_45 rfl ?_
        refine vv_aload_n (pc := 46) x dd_CH_spawn_46 rfl ?_
        refine lg_CH_18 (pc := 47) G x dd_CH_spawn_47 hTon ?_
        rw [hwn]
        refine lv_CH_78 (pc := 50) G x dd_CH_spawn_50 (K_Pr_init G Sn hDn hp hp6 (show mm_t (mm_nw M p9 4 0) p9 = 4 from if_pos rfl) hnp)  ⟨by decide, by decide⟩ (by decide) (by decide) (Nat.le_of_ble_eq_true rfl) (fun v50 M50 q50 => ?_)
        obtain ⟨rfl, D1, ow1, sl1, S5, hs1, hsr, hDl5, hDp5, sle, F5, n2, n4⟩ := q50
        have A5 : fa M M50 := fa_new hp9 F5
        have hTp5 : mm_t M50 p9 = 4 := by rw [(F5 p9 (by rw [mt_nw, if_pos rfl]; decide)).1]; exact if_pos rfl
        have z2 : ∀ a, mm_t (mm_nw M p9 4 0) a = 0 → mm_t M a = 0 := fun a z => Classical.byContradiction (fun y => y (by rw [← (fa_nw hp9 a y).1]; exact z))
        refine vv_low G x (fun hlow => ?_)
        have s50 : sl1 0 = sl 0 := sle 0 (by rw [hlow.1]; decide)
        have LA5 := LA.fa A5 (by rw [hTl]; decide)
        have LE5 := LE.fa A5 (by rw [hTe]; decide)
        have g5 : ∀ k, mm_f M50 6 k o = mm_f M 6 k o := fun k => A5.f8.f (by rw [hTo]; decide) (by decide)
        have C5 : CI pw D ow sl M50 o La Le Z := (C0.j.f8 hDl A5.f8).i (by
          rw [hs0]
          unfold lst
          rw [g5, g5, LA5.2, LE5.2]
          exact ⟨LA5.1, LE5.1, lne, lsep, by rw [List.length_append]; exact l8⟩)
        have C6 := CI_D C5 S5 hs1 s50
        obtain ⟨-, -, ⟨B1, B2, B3, B4⟩, -⟩ := id C6
        have np : p9 ∉ La ++ Le := fun z => by
          have h9 := (ha1 p9 z).2
          rw [hp9] at h9
          exact absurd h9 (by decide)
        have old3 : ∀ a ∈ La ++ Le, mm_t M (mm_f M50 3 2 a) ≠ 0 ∧ mm_t M (mm_f M50 3 4 a) ≠ 0 := fun a ha => by
          obtain ⟨⟨hD1, hT1⟩, ⟨-, x2⟩, ⟨-, x3⟩⟩ := hTa a ha
          rw [A5.f8.f (by rw [hT1]; decide) (by decide), A5.f8.f (by rw [hT1]; decide) (by decide), x2, x3]
          exact ⟨by decide, by decide⟩
        have hA : adr D1 M50 o (p9 :: (La ++ Le)) := by
          refine ⟨fun a ha => ?_, List.nodup_cons.mpr ⟨np, B2⟩, fun a ha => ?_, fun a ha a2 ha2 hne => ?_⟩
          · rcases List.mem_cons.mp ha with e9 | e9
            · rw [e9]; exact ⟨hDp5, hTp5⟩
            · exact B1 a e9
          · rcases List.mem_cons.mp ha with e9 | e9
            · rw [e9, g5]
              intro z
              have h9 := z2 _ n2
              rw [z, hTs] at h9
              exact absurd h9 (by decide)
            · exact B3 a e9
          · rcases List.mem_cons.mp ha with e9 | e9
            · rcases List.mem_cons.mp ha2 with e8 | e8
              · exact absurd (e9.trans e8.symm) hne
              · rw [e9]
                exact ⟨fun z => (old3 a2 e8).1 (by rw [← z]; exact z2 _ n2), fun z => (old3 a2 e8).2 (by rw [← z]; exact z2 _ n4)⟩
            · rcases List.mem_cons.mp ha2 with e8 | e8
              · rw [e8]
                exact ⟨fun z => (old3 a e9).1 (by rw [z]; exact z2 _ n2), fun z => (old3 a e9).2 (by rw [z]; exact z2 _ n4)⟩
              · exact B4 a e9 a2 e8 hne
        have kp5 : kp pw D M M50 := kp_f8 S hDl A5.f8
        refine vv_goto (pc := 53) x dd_CH_spawn_53 (tgt := 75) (by decide) ?_
        exact htail D1 ow1 sl1 M50 p9 Le _ _ hl8 hf8 hs1 hDl5 (s50.trans hs0) C6 hA (by rw [hLe]; simp; omega) kp5 (by omega) (by omega)
    · exact lx_CH_69 (pc := 24) G x ht0 dd_CH_spawn_24 dd_CH_spawn_27 dd_CH_spawn_28 dd_CH_spawn_31 ⟨by decide, by decide⟩ (Nat.le_of_ble_eq_true rfl) (by decide) (by decide) ⟨rfl, rfl, fun z => h21 ((nI_leI (a := 8) (b := Z.2.1.1) (by decide) (by omega)).mpr z.2)⟩
end M45
