/-! ===== exit, the walk ===== -/
section M42
variable {g : gg} {X : State → Prop} {t0 : Nat} {l : Launch} {M : mm} {M1 : mm} {pw : Nat} {D : Nat → Prop} {ow sl : Nat → Nat} {o : Nat} {La Le : List Nat} {Z : zst} {L : List Nat} {al t1 : Nat}
theorem fr_si {c k a : Nat} {v : Int32} : fr (fun c' k' a' => c' = c ∧ k' = k ∧ a' = a) (fun _ _ _ => False) (fun _ => False) M (mm_si M c k a v) := ⟨rfl, rfl, rfl, rfl, fun _ _ _ z => if_neg z, fun _ _ _ _ => rfl, fun _ _ => rfl⟩
theorem lf_none {B : List bk} : lf B (fun i => decide (i ∉ ([] : List Nat))) B.length 0 = hnd B := by
  have e : (fun i : Nat => decide (i ∉ ([] : List Nat))) = fun _ => true := by
    funext i
    simp
  rw [e, lf_all (by omega), List.drop_zero]
theorem era_perm : ∀ {L : List Nat} {i : Nat}, i < L.length → (L.getD i 0 :: L.eraseIdx i).Perm L
  | [], i, h => by simp at h
  | a :: L, 0, _ => List.Perm.refl _
  | a :: L, i + 1, h => by
    rw [List.eraseIdx_cons_succ]
    show (L.getD i 0 :: a :: L.eraseIdx i).Perm (a :: L)
    exact (List.Perm.swap a (L.getD i 0) _).trans ((era_perm (L := L) (by simpa using h)).cons a)
theorem era_nodup {i : Nat} (hi : i < La.length) (h : (La ++ Le).Nodup) : (La.eraseIdx i ++ (Le ++ [La.getD i 0])).Nodup ∧ (∀ a ∈ La.eraseIdx i ++ (Le ++ [La.getD i 0]), a ∈ La ++ Le) ∧ (La.eraseIdx i ++ (Le ++ [La.getD i 0])).length = (La ++ Le).length := by
  have hp : (La.eraseIdx i ++ (Le ++ [La.getD i 0])).Perm (La ++ Le) := by
    have h1 := era_perm (L := La) hi
    rw [← List.append_assoc]
    refine List.perm_append_comm.trans ?_
    show ((La.getD i 0 :: La.eraseIdx i) ++ Le).Perm _
    exact h1.append_right Le
  exact ⟨hp.nodup_iff.mpr h, fun a ha => hp.mem_iff.mp ha, hp.length_eq⟩
set_option maxRecDepth 100000 in
set_option maxHeartbeats 4000000 in
theorem C_exit (G : gc g X t0 l) (C : CI pw D ow sl M o La Le Z) (hZ : zok pw Z) (hDl : ∀ a, D a → mm_t M a ≠ 0) (hs0 : sl 0 = t0) {xv : Int32} (k9 : Nat) (hk9 : plc Z xv = k9) : OkX g X l yy_CH_exit cc_CH_exit 4 (some .int) 7 111 2 16 [.ref o, .int xv] M (fun v M' => v = some (.int (nI (zex Z k9).2.1.1 - nI Z.2.1.1)) ∧ k9 < Z.1.length ∧ CI pw D ow sl M' o (La.eraseIdx k9) (Le ++ [La.getD k9 0]) (zex Z k9) ∧ kp pw D M M') (fun E M' => E = "java/lang/IndexOutOfBoundsException" ∧ M' = M ∧ ¬ k9 < Z.1.length) := by
  refine okx_start (by decide) (Nat.le_of_ble_eq_true rfl) (by simp [Value.category]) ?_
  intro p e s m args below meth c9 x ht0
  have C0 := C
  obtain ⟨⟨hDc, hTc⟩, ⟨hDs, hTs⟩, ⟨hDb, hTb⟩, hTa⟩ := CI_tags C
  obtain ⟨S, ⟨hDo, hTo, hp, hp6⟩, ⟨ha1, ha2, ha3, ha4⟩, ⟨hl, hP⟩, ⟨hpo, T0, hT0⟩, ⟨hw, hlt, hcn⟩, hL⟩ := C
  refine vv_aload_n (pc := 0) x dd_CH_exit_0 rfl ?_
  refine vv_iload_n (pc := 1) x dd_CH_exit_1 rfl ?_
  refine lv_CH_93x (pc := 2) G x ht0 dd_CH_exit_2 (C_living1 G C0 hZ k9 hk9) hTo ⟨by decide, by decide⟩ (by decide) (by decide) (Nat.le_of_ble_eq_true rfl) (fun v2 M2 q2 => ?_) (fun E M' q => ⟨q.1, q.2.1, q.2.2⟩)
  obtain ⟨rfl, hm2, hk⟩ := q2
  have hm2 := hm2.symm
  subst hm2
  have hi : k9 < La.length := by omega
  have hmem : La.getD k9 0 ∈ La ++ Le := List.mem_append_left Le (getD_memN hi)
  obtain ⟨⟨hDp, hTp⟩, ⟨hDf, hTf⟩, ⟨hDm, hTm⟩⟩ := hTa _ hmem
  obtain ⟨p1, p2, p3, p4, p5⟩ := hP k9 hi
  have kk := hZ.1 _ (zget_mem hk)
  have f0 : mm_i M 5 0 (mm_f M 6 1 o) = nI Z.2.1.1 := hpo.1
  refine vv_astore_n (pc := 5) x dd_CH_exit_5 (by decide) (ls2 := [_, _, _, none]) rfl ?_
  refine vv_aload_n (pc := 6) x dd_CH_exit_6 rfl ?_
  refine lg_CH_27 (pc := 7) G x dd_CH_exit_7 hTo (S.or hDo hTo 1 (by decide)) ?_
  refine lg_CH_66 (pc := 10) G x dd_CH_exit_10 hTb ?_
  rw [f0]
  refine vv_istore_n (pc := 13) x dd_CH_exit_13 (by decide) (ls2 := [_, _, _, _]) rfl ?_
  refine vv_aload_n (pc := 14) x dd_CH_exit_14 rfl ?_
  refine lg_CH_44 (pc := 15) G x dd_CH_exit_15 hTo (S.or hDo hTo 4 (by decide)) ?_
  refine vv_aload_n (pc := 18) x dd_CH_exit_18 rfl ?_
  refine lg_CH_97 (pc := 19) G x dd_CH_exit_19 hTp (S.or hDp hTp 2 (by decide)) ?_
  refine vv_aload_n (pc := 22) x dd_CH_exit_22 rfl ?_
  refine lg_CH_58 (pc := 23) G x dd_CH_exit_23 hTo (S.or hDo hTo 6 (by decide)) ?_
  refine lv_CH_100 (pc := 26) G x dd_CH_exit_26 (K_start G S hp hp6 hDc hTc (ha3 _ hmem) hDf hTf hDs hTs p3 hT0) hTc ⟨by decide, by decide⟩ (by decide) (by decide) (Nat.le_of_ble_eq_true rfl) (fun v26 M26 q26 => ?_)
  obtain ⟨rfl, F1, K, -⟩ := q26
  obtain ⟨C26, kp26⟩ := CI_scr C0 (F1.mono (fun _ _ _ z => Or.inl z) (fun _ _ _ z => z) (fun _ z => Or.inl z)) ⟨T0, K.2.2.2.1⟩
  have e26 : ∀ k, mm_f M26 6 k o = mm_f M 6 k o := fun k => F1.f (fun z => absurd z.1 (by decide))
  have hTo26 := C26.2.1.2.1
  have S26 := C26.1
  have hTb26 : mm_t M26 (mm_f M 6 1 o) = 6 := by rw [F1.1]; exact hTb
  have hTc26 : mm_t M26 (mm_f M 6 4 o) = 1 := by rw [F1.1]; exact hTc
  refine vv_aload_n (pc := 29) x dd_CH_exit_29 rfl ?_
  refine lg_CH_44 (pc := 30) G x dd_CH_exit_30 hTo26 (S26.or hDo hTo26 4 (by decide)) ?_
  rw [e26 4]
  refine vv_aload_n (pc := 33) x dd_CH_exit_33 rfl ?_
  refine lg_CH_27 (pc := 34) G x dd_CH_exit_34 hTo26 (S26.or hDo hTo26 1 (by decide)) ?_
  rw [e26 1]
  refine lv_CH_104 (pc := 37) G x dd_CH_exit_37 (K_drop G S26 hp hp6 K (by have h9 := K.2.2.2.1.2.2.1; show hsz T0 + 0 ≤ 600; omega) hDb hTb26 kk.2.2.2.2.2.2.1 _ rfl) hTc26 ⟨by decide, by decide⟩ (by decide) (by decide) (Nat.le_of_ble_eq_true rfl) (fun v37 M37 q37 => ?_)
  obtain ⟨rfl, hM37⟩ := q37
  rw [lf_none] at hM37
  have hpo26 := C26.2.2.2.2.1.1
  rw [e26] at hpo26
  have hct : ∀ w, (hnd (zget Z k9).2.2.2.2).count w ≤ Z.2.1.2.2.2 w := by
    intro w
    rcases Nat.lt_or_ge w 30 with hw9 | hw9
    · rw [hZ.2.2.2.2.2.1 w hw9]; exact zcnt_le (zget_mem hk)
    · have : (hnd (zget Z k9).2.2.2.2).count w = 0 := List.count_eq_zero.mpr (fun z => by
        have := hnd_30 kk.2.2.2.2.2.2.1 w z
        omega)
      omega
  have hpf := (pd_fold (ws := hnd (zget Z k9).2.2.2.2) hpo26 hZ.2.2.2.2.1.1 (fun w hw9 => hnd_30 kk.2.2.2.2.2.2.1 w hw9) hct).1
  generalize hPf : List.foldl (pd (mm_a M26 (mm_f M26 5 2 (mm_f M 6 1 o)))) (pget M26 (mm_f M 6 1 o)) (hnd (zget Z k9).2.2.2.2) = Pf at *
  have F37 := pst_fr (M := M26) (b := mm_f M 6 1 o) (P := Pf)
  rw [← hM37] at F37
  have f37 : ∀ c k a, mm_f M37 c k a = mm_f M26 c k a := fun c k a => F37.f (fun z => z)
  have hTo37 : mm_t M37 o = 7 := by rw [F37.1]; exact hTo26
  have hTb37 : mm_t M37 (mm_f M 6 1 o) = 6 := by rw [F37.1]; exact hTb26
  have hTp37 : mm_t M37 (La.getD k9 0) = 4 := by rw [F37.1, F1.1]; exact hTp
  have g37 : mm_i M37 5 0 (mm_f M 6 1 o) = nI ((hnd (zget Z k9).2.2.2.2).foldl pdr Z.2.1).1 := by
    rw [hM37]
    unfold pst
    rw [mi_si_k (by decide), mi_si_s]
    exact hpf.1
  have c37 : mm_i M37 3 1 (La.getD k9 0) = nI (zget Z k9).2.1 := by
    rw [F37.2.2.2.2.1 _ _ _ (fun z => absurd z.1 (by decide)), F1.2.2.2.2.1 _ _ _ (fun z => absurd z.1 (by decide))]
    exact p2
  refine vv_aload_n (pc := 40) x dd_CH_exit_40 rfl ?_
  refine lg_CH_27 (pc := 41) G x dd_CH_exit_41 hTo37 (by rw [F37.2.2.2.2.2.1 _ _ _ (fun z => z)]; exact S26.or hDo hTo26 1 (by decide)) ?_
  rw [f37, e26]
  refine vv_dup (pc := 44) x dd_CH_exit_44 rfl ?_
  refine lg_CH_66 (pc := 45) G x dd_CH_exit_45 hTb37 ?_
  refine vv_aload_n (pc := 48) x dd_CH_exit_48 rfl ?_
  rw [g37]
  refine lg_CH_108 (pc := 49) G x dd_CH_exit_49 hTp37 ?_
  rw [c37]
  refine vv_iadd (pc := 52) x dd_CH_exit_52 ?_
  rw [nI_add]
  refine lp_CH_66 (pc := 53) G x dd_CH_exit_53 hTb37 ?_
  generalize hM53 : mm_si M37 5 0 (mm_f M 6 1 o) (nI (((hnd (zget Z k9).2.2.2.2).foldl pdr Z.2.1).1 + (zget Z k9).2.1)) = M53
  have hD26 : ∀ a, D a → mm_t M26 a ≠ 0 := fun a ha => by rw [(kp26.1 a (hDl a ha)).1]; exact hDl a ha
  have hq : CI pw D ow sl M53 o La Le (Z.1, pex (zget Z k9) Z.2.1, Z.2.2.1, Z.2.2.2) ∧ kp pw D M26 M53 := by
    rw [← hM53]
    have hb6 : mm_f M26 6 1 o = mm_f M 6 1 o := e26 1
    refine CI_out C26 (L := [mm_f M 6 1 o]) (((F37.mono (fun c' k a z => Or.inl ⟨by have := z.1; omega, by rw [z.2.2]; simp⟩) (fun _ _ _ z => z) (fun a z => ?_)).trans (fr_si.mono (fun c' k a z => Or.inl ⟨by have := z.1; omega, by rw [z.2.2]; simp⟩) (fun _ _ _ z => z) (fun _ z => z.elim)))) (fun a ha => ?_) ?_ ?_ ?_
    · rw [z]; exact stA_in hDb hTb26 (show (30 : Nat) ≠ 0 by decide) (by decide) (by simp)
    · obtain ⟨⟨-, x1⟩, ⟨-, x2⟩, ⟨-, x3⟩⟩ := (CI_tags C26).2.2.2 a (List.mem_append_left Le ha)
      simp only [List.mem_cons, List.not_mem_nil, or_false]
      exact ⟨ne_tag x1 hTb26 (by decide), ne_tag x2 hTb26 (by decide), ne_tag x3 hTb26 (by decide)⟩
    · simp only [List.mem_cons, List.not_mem_nil, or_false]
      exact ne_tag (CI_tags C26).2.1.2 hTb26 (by decide)
    · rw [hb6, hM37]
      refine ⟨?_, ?_, fun w9 hw9 => ?_⟩
      · show mm_i (mm_si (pst M26 (mm_f M 6 1 o) Pf) 5 0 (mm_f M 6 1 o) (nI (((hnd (zget Z k9).2.2.2.2).foldl pdr Z.2.1).1 + (zget Z k9).2.1))) 5 0 (mm_f M 6 1 o) = _
        rw [mi_si_s]
        rfl
      · show mm_i (mm_si (pst M26 (mm_f M 6 1 o) Pf) 5 0 (mm_f M 6 1 o) (nI (((hnd (zget Z k9).2.2.2.2).foldl pdr Z.2.1).1 + (zget Z k9).2.1))) 5 1 (mm_f M 6 1 o) = _
        rw [mi_si_k (by decide)]
        unfold pst
        rw [mi_si_s]
        exact hpf.2.1
      · show mm_a (pst M26 (mm_f M 6 1 o) Pf) (mm_f M26 5 3 (mm_f M 6 1 o)) w9 = _ ∧ (_ → mm_a (pst M26 (mm_f M 6 1 o) Pf) (mm_f M26 5 2 (mm_f M 6 1 o)) w9 = _)
        rw [pst_c, pst_fr.2.2.2.2.2.2 _ (S26.ap hDb hTb26 (k := 2) (show (30 : Nat) ≠ 0 by decide) hDb hTb26 (k2 := 3) (show (30 : Nat) ≠ 0 by decide) (Or.inr (by decide)))]
        exact hpf.2.2 w9 hw9
    · rw [mi_si_c (by decide), F37.2.2.2.2.1 _ _ _ (fun z => absurd z.1 (by decide))]
      exact C26.2.2.2.2.2.1.2.1
  clear hM53
  obtain ⟨C53, kp53⟩ := hq
  have hD53 : ∀ a, D a → mm_t M53 a ≠ 0 := fun a ha => by rw [(kp53.1 a (hD26 a ha)).1]; exact hD26 a ha
  have C53' := C53
  obtain ⟨S53, ⟨-, hTo53, -, -⟩, ⟨hb1, hb2, -, -⟩, ⟨hl53, -⟩, ⟨hpo53, -⟩, -, hL53⟩ := C53'
  rw [hs0] at hL53
  obtain ⟨LA, LE, lne, lsep, l8⟩ := hL53
  have hTl : mm_t M53 (mm_f M53 6 2 o) = 9 := S53.ot hDo hTo53 2 (by decide)
  have hTe : mm_t M53 (mm_f M53 6 3 o) = 9 := S53.ot hDo hTo53 3 (by decide)
  have re3 := S53.or hDo hTo53 3 (by decide)
  have re1 := S53.or hDo hTo53 1 (by decide)
  have hTp53 : mm_t M53 (La.getD k9 0) = 4 := (hb1 _ hmem).2
  rw [List.length_append] at l8
  refine vv_aload_n (pc := 56) x dd_CH_exit_56 rfl ?_
  refine lg_CH_34 (pc := 57) G x dd_CH_exit_57 hTo53 (S53.or hDo hTo53 2 (by decide)) ?_
  refine vv_aload_n (pc := 60) x dd_CH_exit_60 rfl ?_
  refine vv_iload_n (pc := 61) x dd_CH_exit_61 rfl ?_
  refine lv_CH_111 (pc := 62) G x dd_CH_exit_62 (C_place8 G C53 hZ.2.1 k9 ((pf_same (Z := Z) (Z2 := (Z.1, pex (zget Z k9) Z.2.1, Z.2.2.1, Z.2.2.2)) rfl (n := Z.1.length) (i := 0)).trans hk9)) hTo53 ⟨by decide, by decide⟩ (by decide) (by decide) (Nat.le_of_ble_eq_true rfl) (fun v62 M62 q62 => ?_)
  obtain ⟨rfl, hm62⟩ := q62
  have hm62 := hm62.symm
  subst hm62
  rw [show (if k9 < ((Z.1, pex (zget Z k9) Z.2.1, Z.2.2.1, Z.2.2.2) : zst).1.length then nI k9 else (-1 : Int32)) = nI k9 from if_pos hk]
  refine lv_CH_79 (pc := 65) G x dd_CH_exit_65 (k_remove G hTl LA (fun a ha => (hb1 a (List.mem_append_left Le ha)).2) hi) hTl ⟨by decide, by decide⟩ (by decide) (by decide) (Nat.le_of_ble_eq_true rfl) (fun v65 M65 q65 => ?_)
  obtain ⟨rfl, LA2, Fl, ef⟩ := q65
  obtain ⟨LE2, ef2⟩ := LE.fl Fl (fun z => lne z.symm) (by rw [hTe]; decide) (fun z => z.trans (lsep z.symm))
  have n53 : mm_t M53 o ≠ 0 := by rw [hTo53]; decide
  have g65 : ∀ k, mm_f M65 6 k o = mm_f M53 6 k o := fun k => Fl.f8.f n53 (by decide)
  have hTo65 : mm_t M65 o = 7 := by rw [(Fl o n53).1]; exact hTo53
  have hTe65 : mm_t M65 (mm_f M53 6 3 o) = 9 := by rw [(Fl _ (by rw [hTe]; decide)).1]; exact hTe
  have hTl65 : mm_t M65 (mm_f M53 6 2 o) = 9 := by rw [(Fl _ (by rw [hTl]; decide)).1]; exact hTl
  have hTp65 : mm_t M65 (La.getD k9 0) = 4 := by rw [(Fl _ (by rw [hTp53]; decide)).1]; exact hTp53
  have rr65 : ∀ k, mm_r M65 6 k o = mm_r M53 6 k o := fun k => ((Fl.f8 o n53).2.2.2.2 6 k (by decide)).2
  refine vv_pop (pc := 68) x dd_CH_exit_68 rfl ?_
  refine vv_aload_n (pc := 69) x dd_CH_exit_69 rfl ?_
  refine lg_CH_38 (pc := 70) G x dd_CH_exit_70 hTo65 (by rw [rr65]; exact re3) ?_
  rw [g65]
  refine vv_aload_n (pc := 73) x dd_CH_exit_73 rfl ?_
  refine lv_CH_89 (pc := 74) G x dd_CH_exit_74 (k_add1 G hTe65 LE2 hTp65 (by omega)) hTe65 ⟨by decide, by decide⟩ (by decide) (by decide) (Nat.le_of_ble_eq_true rfl) (fun v74 M74 q74 => ?_)
  obtain ⟨rfl, LE3, Fm, hq3⟩ := q74
  have sep65 : mm_f M65 8 1 (mm_f M53 6 2 o) = mm_f M65 8 1 (mm_f M53 6 3 o) → mm_f M65 8 1 (mm_f M53 6 2 o) = t0 := by rw [ef, ef2]; exact lsep
  obtain ⟨LA3, ef3⟩ := LA2.fl Fm lne (by rw [hTl65]; decide) sep65
  have sep74 := sep_add LA2 Fm lne (by rw [hTl65]; decide) sep65 hq3
  have n65 : mm_t M65 o ≠ 0 := by rw [hTo65]; decide
  have F8 : f8 M53 M74 := Fl.f8.trans Fm.f8
  have g74 : ∀ k, mm_f M74 6 k o = mm_f M53 6 k o := fun k => F8.f n53 (by decide)
  have hTo74 : mm_t M74 o = 7 := by rw [(F8 o n53).1]; exact hTo53
  have rr74 : mm_r M74 6 1 o ≠ 0 := by rw [((F8 o n53).2.2.2.2 6 1 (by decide)).2]; exact re1
  have hDb53 := S53.od hDo hTo53 1 (by decide)
  have hTb53 : mm_t M53 (mm_f M53 6 1 o) = 6 := S53.ot hDo hTo53 1 (by decide)
  have hTb74 : mm_t M74 (mm_f M53 6 1 o) = 6 := by rw [(F8 _ (hD53 _ hDb53)).1]; exact hTb53
  have fr74 : mm_i M74 5 0 (mm_f M53 6 1 o) = nI (pex (zget Z k9) Z.2.1).1 := by
    rw [((F8 _ (hD53 _ hDb53)).2.2.2.2 5 0 (by decide)).1]
    exact hpo53.1
  obtain ⟨nd9, sb9, ln9⟩ := era_nodup hi hb2
  have hlE : (La.eraseIdx k9).length = La.length - 1 := List.length_eraseIdx_of_lt hi
  have CF : CI pw D ow sl M74 o (La.eraseIdx k9) (Le ++ [La.getD k9 0]) (zex Z k9) := by
    refine ((C53.j.less (La2 := La.eraseIdx k9) (Le2 := Le ++ [La.getD k9 0]) (Z2 := zex Z k9) nd9 sb9 ?_ (fun i9 hi9 => ?_) rfl).f8 hD53 F8).i ?_
    · show _ = (Z.1.eraseIdx k9).length
      rw [List.length_eraseIdx_of_lt hk]; omega
    · show ∃ j, j < La.length ∧ _ ∧ zget (Z.1.eraseIdx k9, _, _, _) i9 = zget (Z.1, _, _, _) j
      rw [era_get hi9 hi, zget_era]
      by_cases z : i9 < k9
      · exact ⟨i9, by omega, by rw [if_pos z], by rw [if_pos z]; rfl⟩
      · exact ⟨i9 + 1, by omega, by rw [if_neg z], by rw [if_neg z]; rfl⟩
    · rw [hs0]
      unfold lst
      rw [g74, g74]
      refine ⟨LA3, LE3, lne, sep74, ?_⟩
      rw [ln9, List.length_append]
      exact l8
  have kpF : kp pw D M M74 := kp26.trans hDl (CI_7 C0) (kp53.trans hD26 (CI_7 C26) (kp_f8 S53 hD53 F8))
  refine vv_pop (pc := 77) x dd_CH_exit_77 rfl ?_
  refine vv_aload_n (pc := 78) x dd_CH_exit_78 rfl ?_
  refine lg_CH_27 (pc := 79) G x dd_CH_exit_79 hTo74 rr74 ?_
  rw [g74]
  refine lg_CH_66 (pc := 82) G x dd_CH_exit_82 hTb74 ?_
  rw [fr74]
  refine vv_iload_n (pc := 85) x dd_CH_exit_85 rfl ?_
  refine vv_isub (pc := 86) x dd_CH_exit_86 ?_
  exact vvx_ret (vv_iret (pc := 87) x dd_CH_exit_87 rfl (by decide) (by decide) ⟨rfl, hk, CF, kpF⟩)
end M42
