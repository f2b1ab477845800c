/-! ===== a block is added; pair ===== -/
section M30
variable {g : gg} {X : State → Prop} {t0 : Nat} {l : Launch} {M : mm} {pw : Nat} {D : Nat → Prop} {ow sl : Nat → Nat} {o : Nat} {La Le : List Nat} {Z : zst} {B : List bk} {b : bk}
theorem add_old {i : Nat} (hi : i < B.length) : hb (B ++ [b]) i = hb B i ∧ htm (B ++ [b]) i = htm B i := by
  have e : hb (B ++ [b]) i = hb B i := hb_app hi
  refine ⟨e, ?_⟩
  unfold htm
  rw [e, had_app (by omega)]
theorem vt_add {t : Int32} (h : vt B t) : vt (B ++ [b]) t := by
  rcases h with h | ⟨i, hi, e⟩
  · exact Or.inl h
  · exact Or.inr ⟨i, by simp; omega, by rw [e, (add_old hi).2]⟩
theorem vt_new : vt (B ++ [b]) (tk b.1 (hsz B)) := Or.inr ⟨B.length, by simp, by unfold htm; rw [hb_last, had_last]⟩
theorem hok_add (h : hok B) (h1 : bok b) (h2 : hsz B + bsz b ≤ 600) : hok (B ++ [b]) := by
  refine ⟨by rw [hsz_1]; exact h2, fun i hi => ?_⟩
  simp only [List.length_append, List.length_cons, List.length_nil] at hi
  by_cases e : i = B.length
  · rw [e, hb_last]; exact h1
  · rw [(add_old (by omega)).1]; exact h.2 i (by omega)
theorem hval_add (h : hval B) (h1 : ∀ t ∈ bpt b, vt B t) : hval (B ++ [b]) := by
  intro i hi t ht
  simp only [List.length_append, List.length_cons, List.length_nil] at hi
  by_cases e : i = B.length
  · rw [e, hb_last] at ht; exact vt_add (h1 t ht)
  · rw [(add_old (by omega)).1] at ht; exact vt_add (h i (by omega) t ht)
theorem hbl_add (h : hbl B) (h1 : b.1 = 5 → b.2.getD 0 0 = nI (b.2.getD 0 0).toNatClampNeg ∧ (b.2.getD 0 0).toNatClampNeg < 30) : hbl (B ++ [b]) := by
  intro i hi h5
  simp only [List.length_append, List.length_cons, List.length_nil] at hi
  unfold bw
  by_cases e : i = B.length
  · rw [e, hb_last] at h5 ⊢; exact h1 h5
  · rw [(add_old (by omega)).1] at h5 ⊢; exact h i (by omega) h5
theorem rkd_add (h : rkd B) (ho : hok (B ++ [b])) (ho0 : hok B) (hv : hval B) (h1 : ∀ t ∈ bpt b, vt B t) : rkd (B ++ [b]) := by
  obtain ⟨rk, hk⟩ := h
  have key : ∀ t, vt B t → ∀ k, hix (B ++ [b]) t = some k → k < B.length ∧ hix B t = some k := by
    intro t ht k hk9
    rcases ht with h2 | ⟨i, hi, e⟩
    · rw [hix_lo ho h2] at hk9; exact absurd hk9 (by simp)
    · rw [e, ← (add_old (b := b) hi).2, hix_at ho (by simp; omega)] at hk9
      have ek : i = k := Option.some.inj hk9
      subst ek
      exact ⟨hi, by rw [e]; exact hix_at ho0 hi⟩
  have hle : ∀ k, k < B.length → rk k ≤ ((List.range B.length).map rk).sum := by
    intro k hk9
    have hm : k ∈ List.range B.length := by simpa using hk9
    generalize List.range B.length = L at hm
    induction L with
    | nil => simp at hm
    | cons a L ih =>
      rw [List.map_cons, List.sum_cons]
      rcases List.mem_cons.mp hm with e | e
      · rw [e]; omega
      · have := ih e
        omega
  refine ⟨fun i => if i < B.length then rk i else ((List.range B.length).map rk).sum + 1, fun i hi t ht k hk9 => ?_⟩
  simp only [List.length_append, List.length_cons, List.length_nil] at hi
  by_cases e : i = B.length
  · rw [e, hb_last] at ht
    obtain ⟨k1, k2⟩ := key t (h1 t ht) k hk9
    have := hle k k1
    show (if k < B.length then _ else _) < (if i < B.length then _ else _)
    rw [if_pos k1, if_neg (by omega)]
    omega
  · have hi2 : i < B.length := by omega
    rw [(add_old hi2).1] at ht
    obtain ⟨k1, k2⟩ := key t (hv i hi2 t ht) k hk9
    show (if k < B.length then _ else _) < (if i < B.length then _ else _)
    rw [if_pos k1, if_pos hi2]
    exact hk i hi2 t ht k k2
def zbk (Z : zst) (i : Nat) (b : bk) : zst := (Z.1.set i ((zget Z i).1, (zget Z i).2.1, (zget Z i).2.2.1, (zget Z i).2.2.2.1, (zget Z i).2.2.2.2 ++ [b]), Z.2.1, Z.2.2.1, Z.2.2.2)
theorem zbk_len {i : Nat} : (zbk Z i b).1.length = Z.1.length := by
  unfold zbk
  rw [List.length_set]
theorem zbk_get {i : Nat} (hi : i < Z.1.length) : zget (zbk Z i b) i = ((zget Z i).1, (zget Z i).2.1, (zget Z i).2.2.1, (zget Z i).2.2.2.1, (zget Z i).2.2.2.2 ++ [b]) := by
  unfold zbk
  rw [zget_set hi, if_pos rfl]
theorem zbk_pok (h : zok pw Z) (hp6 : pw ≤ 600) {i : Nat} (hi : i < Z.1.length) (h1 : bok b) (h2 : ∀ t ∈ bpt b, vt (zget Z i).2.2.2.2 t) (h3 : b.1 = 5 → b.2.getD 0 0 = nI (b.2.getD 0 0).toNatClampNeg ∧ (b.2.getD 0 0).toNatClampNeg < 30) (h4 : hsz (zget Z i).2.2.2.2 + bsz b ≤ (zget Z i).2.1) : pok ((zget Z i).1, (zget Z i).2.1, (zget Z i).2.2.1, (zget Z i).2.2.2.1, (zget Z i).2.2.2.2 ++ [b]) := by
  have hc := cap_le h hi
  obtain ⟨k1, k2, k3, k4, k5, k6, k7, k8⟩ := h.1 _ (zget_mem hi)
  have ho := hok_add (b := b) k2 h1 (by omega)
  exact ⟨k1, ho, by show hsz (_ ++ [b]) ≤ (zget Z i).2.1; rw [hsz_1]; exact h4, fun t ht => vt_add (k4 t ht), fun t ht => vt_add (k5 t ht), hval_add k6 h2, hbl_add k7 h3, rkd_add k8 ho k2 k6 h2⟩
theorem zbk_ok (h : zok pw Z) (hp6 : pw ≤ 600) {i : Nat} (hi : i < Z.1.length) (h1 : bok b) (h2 : ∀ t ∈ bpt b, vt (zget Z i).2.2.2.2 t) (h3 : ¬ b.1 = 5) (h4 : hsz (zget Z i).2.2.2.2 + bsz b ≤ (zget Z i).2.1) : zok pw (zbk Z i b) := by
  have hpk := zbk_pok h hp6 hi h1 h2 (fun z => absurd z h3) h4
  have hm := zget_mem hi
  obtain ⟨m1, m2, m3, m4, m5, m6, m7⟩ := h
  refine ⟨fun P hP2 => ?_, ?_, ?_, fun P hP2 => ?_, m5, fun w hw => ?_, ?_⟩
  · rcases List.mem_or_eq_of_mem_set hP2 with e | e
    · exact m1 P e
    · rw [e]; exact hpk
  · show (Z.1.set i _).length ≤ 8
    rw [List.length_set]; exact m2
  · show ((Z.1.set i _).map (fun P => P.1)).Pairwise _
    rw [map_set_num (by rfl) hi]
    exact m3
  · rcases List.mem_or_eq_of_mem_set hP2 with e | e
    · exact m4 P e
    · rw [e]
      exact m4 (zget Z i) hm
  · show Z.2.1.2.2.2 w = zcnt (Z.1.set i _) w
    rw [m6 w hw]
    have e5 := sum_set (fun P => (hnd P.2.2.2.2).count w) (L := Z.1) (P := ((zget Z i).1, (zget Z i).2.1, (zget Z i).2.2.1, (zget Z i).2.2.2.1, (zget Z i).2.2.2.2 ++ [b])) hi
    have e4 : (hnd (Z.1.getD i (0, 0, [], [], [])).2.2.2.2).count w = (hnd (zget Z i).2.2.2.2).count w := rfl
    have e6 : hnd ((zget Z i).2.2.2.2 ++ [b]) = hnd (zget Z i).2.2.2.2 := by
      rw [hnd_app, hnd_cons, if_neg h3]
      simp [hnd]
    simp only [e4, e6] at e5
    unfold zcnt
    omega
  · show Z.2.1.1 + zcap (Z.1.set i _) + psum Z.2.1.2.2.1 = pw
    have e5 := sum_set (fun P => P.2.1) (L := Z.1) (P := ((zget Z i).1, (zget Z i).2.1, (zget Z i).2.2.1, (zget Z i).2.2.2.1, (zget Z i).2.2.2.2 ++ [b])) hi
    have e6 : (Z.1.getD i (0, 0, [], [], [])).2.1 = (zget Z i).2.1 := rfl
    simp only [e6] at e5
    unfold zcap at *
    omega
theorem hadd_fr {M1 : mm} {h : Nat} (H : hadd pw M h B b M1) : fr (fun c' k a => c' = 2 ∧ k < 2 ∧ a = h) (fun _ _ _ => False) (fun a => a = mm_f M 2 2 h ∨ a = mm_f M 2 3 h) M M1 := by
  obtain ⟨S1, W1, e, -⟩ := H
  rw [e]
  refine ⟨hput_t, hput_nn, hput_l, hput_q, fun c' k a z => ?_, fun _ _ _ _ => by rw [hput_r], fun a z => ?_⟩
  · rw [hput_i, if_neg (fun y => z ⟨y.1, by omega, y.2.2⟩), if_neg (fun y => z ⟨y.1, by omega, y.2.2⟩)]
  · rw [hput_a, if_neg (fun y => z (Or.inl y)), if_neg (fun y => z (Or.inr y))]
theorem CI_add {M1 : mm} (C : CI pw D ow sl M o La Le Z) {i : Nat} (hi : i < La.length) (H : hadd pw M (mm_f M 3 2 (La.getD i 0)) (zget Z i).2.2.2.2 b M1) : CI pw D ow sl M1 o La Le (zbk Z i b) ∧ kp pw D M M1 := by
  have C0 := C
  have F := hadd_fr H
  obtain ⟨⟨hDc, hTc⟩, ⟨hDs, hTs⟩, ⟨hDb, hTb⟩, hTa⟩ := CI_tags C
  obtain ⟨S, ⟨hDo, hTo, hp, hp6⟩, ⟨ha1, ha2, ha3, ha4⟩, ⟨hl, hP⟩, ⟨hpo, T0, hT0⟩, -, -⟩ := C
  have hmem : La.getD i 0 ∈ La ++ Le := List.mem_append_left Le (getD_memN hi)
  obtain ⟨⟨hDp, hTp⟩, ⟨hDf, hTf⟩, ⟨hDm, hTm⟩⟩ := hTa _ hmem
  obtain ⟨p1, p2, p3, p4, p5⟩ := hP i hi
  have ff : ∀ c' k a, mm_f M1 c' k a = mm_f M c' k a := fun c' k a => F.f (fun z => z)
  have NA : ∀ {a1 c1 k2 : Nat}, D a1 → mm_t M a1 = c1 + 1 → aL pw c1 k2 ≠ 0 → a1 ≠ mm_f M 3 2 (La.getD i 0) → ¬ (mm_f M c1 k2 a1 = mm_f M 2 2 (mm_f M 3 2 (La.getD i 0)) ∨ mm_f M c1 k2 a1 = mm_f M 2 3 (mm_f M 3 2 (La.getD i 0))) := by
    rintro a1 c1 k2 h1 h2 h3 h4 (z | z)
    · exact S.ap h1 h2 h3 hDf hTf (k2 := 2) hp (Or.inl h4) z
    · exact S.ap h1 h2 h3 hDf hTf (k2 := 3) hp (Or.inl h4) z
  refine CI_step C0 hi (F.mono (fun c' k a z => ⟨by have := z.1; omega, by rw [z.2.2]; unfold ob; simp⟩) (fun _ _ _ z => z.elim) (fun a z => by
    rcases z with z | z
    · rw [z]; exact stA_in hDf hTf hp (by decide) (by unfold ob; simp)
    · rw [z]; exact stA_in hDf hTf hp (by decide) (by unfold ob; simp))) ⟨?_, ?_, ?_, fun x hx => ?_, ?_⟩ ?_ ⟨T0, ?_⟩
  · rw [F.2.2.2.2.1 _ _ _ (fun z => absurd z.1 (by decide))]; exact p1
  · rw [F.2.2.2.2.1 _ _ _ (fun z => absurd z.1 (by decide))]; exact p2
  · rw [ff]
    obtain ⟨S1, W1, e, hv1⟩ := H
    rw [e]
    exact hput_is (S.ap hDf hTf (k := 2) hp hDf hTf (k2 := 3) hp (Or.inr (by decide))) hv1
  · rw [ff, F.2.2.2.2.2.2 _ (NA (c1 := 3) (k2 := 3) hDp hTp (show (4 : Nat) ≠ 0 by decide) (ne_tag hTp hTf (by decide)))]
    exact p4 x hx
  · rw [ff]
    exact MailIs.fr F p5 (fun z => absurd z.1 (by decide)) (fun z => absurd z.1 (by decide)) (fun z => z) (NA hDm hTm (show (512 : Nat) ≠ 0 by decide) (ne_tag hTm hTf (by decide)))
  · unfold PoolIs pget
    rw [ff, ff, F.2.2.2.2.1 _ _ _ (fun z => absurd z.1 (by decide)), F.2.2.2.2.1 _ _ _ (fun z => absurd z.1 (by decide)), F.2.2.2.2.2.2 _ (NA (c1 := 5) (k2 := 2) hDb hTb (show (30 : Nat) ≠ 0 by decide) (ne_tag hTb hTf (by decide))), F.2.2.2.2.2.2 _ (NA (c1 := 5) (k2 := 3) hDb hTb (show (30 : Nat) ≠ 0 by decide) (ne_tag hTb hTf (by decide)))]
    exact hpo
  · exact HeapIs.fr F hT0 (fun z => ha3 _ hmem z.2.2.symm) (fun z => ha3 _ hmem z.2.2.symm) (fun z => z) (fun z => z) (NA hDs hTs hp (fun z => ha3 _ hmem z.symm)) (NA hDs hTs hp (fun z => ha3 _ hmem z.symm))
set_option maxRecDepth 100000 in
set_option maxHeartbeats 4000000 in
theorem C_pair (G : gc g X t0 l) (C : CI pw D ow sl M o La Le Z) (hZ : zok pw Z) (hDl : ∀ a, D a → mm_t M a ≠ 0) {xv rv : Int32} (k9 : Nat) (hk9 : plc Z xv = k9) {av bv : Int32} : OkX g X l yy_CH_pair cc_CH_pair 6 none 8 163 5 30 [.ref o, .int xv, .int rv, .int av, .int bv] M (fun v M' => v = none ∧ (k9 < Z.1.length ∧ rok rv ∧ rok av ∧ rok bv) ∧ (zroom Z k9 2).1 = true ∧ CI pw D ow sl M' o La Le (zreg (zbk (zroom Z k9 2).2 k9 (3, [zrg (zroom Z k9 2).2 k9 av, zrg (zroom Z k9 2).2 k9 bv])) k9 rv.toNatClampNeg (tk 3 (hsz (zget (zroom Z k9 2).2 k9).2.2.2.2))) ∧ kp pw D M M') (fun E M' => (E = "java/lang/IndexOutOfBoundsException" ∧ M' = M ∧ ¬ (k9 < Z.1.length ∧ rok rv ∧ rok av ∧ rok bv)) ∨ (E = "java/lang/IllegalStateException" ∧ (k9 < Z.1.length ∧ rok rv ∧ rok av ∧ rok bv) ∧ ¬ (zroom Z k9 2).1 = true ∧ CI pw D ow sl M' o La Le ((zroom Z k9 2).2) ∧ kp pw D M M')) := by
  refine okx_start (by decide) (Nat.le_of_ble_eq_true rfl) (by simp [Value.category]) ?_
  intro p e s m args below meth c9 x ht0
  have C0 := C
  obtain ⟨⟨hDc, hTc⟩, ⟨hDs, hTs⟩, ⟨hDb, hTb⟩, hTa⟩ := CI_tags C
  obtain ⟨S, ⟨hDo, hTo, hp, hp6⟩, ⟨ha1, ha2, ha3, ha4⟩, ⟨hl, hP⟩, ⟨hpo, T0, hT0⟩, ⟨hw, hlt, hcn⟩, hL⟩ := C
  refine vv_aload_n (pc := 0) x dd_CH_pair_0 rfl ?_
  refine vv_iload_n (pc := 1) x dd_CH_pair_1 rfl ?_
  refine vv_iload_n (pc := 2) x dd_CH_pair_2 rfl ?_
  refine lv_CH_115x (pc := 3) G x ht0 dd_CH_pair_3 (C_living2 G C0 hZ k9 hk9) hTo ⟨by decide, by decide⟩ (by decide) (by decide) (Nat.le_of_ble_eq_true rfl) (fun v3 M3 q3 => ?_) (fun E M' q => Or.inl ⟨q.1, q.2.1, fun z => q.2.2 ⟨z.1, z.2.1⟩⟩)
  obtain ⟨rfl, hm3, hk, hr⟩ := q3
  have hm3 := hm3.symm
  subst hm3
  have hi : k9 < La.length := by omega
  obtain ⟨⟨hDp, hTp⟩, ⟨hDf, hTf⟩, ⟨hDm, hTm⟩⟩ := hTa _ (List.mem_append_left Le (getD_memN hi))
  obtain ⟨p1, p2, p3, p4, p5⟩ := hP k9 hi
  obtain ⟨hin, hj, ej⟩ := rok_in hr
  have rr := S.r hDp hTp 3 (show (4 : Nat) ≠ 0 by decide)
  have tr := S.t hDp hTp 3 (show (4 : Nat) ≠ 0 by decide)
  have nr : mm_n M (mm_f M 3 3 (La.getD k9 0)) = 4 := S.n hDp hTp 3 (show (4 : Nat) ≠ 0 by decide)
  have eg : mm_a M (mm_f M 3 3 (La.getD k9 0)) rv.toNatClampNeg = zrg Z k9 rv := p4 _ hj
  refine vv_astore (pc := 6) x dd_CH_pair_6 (by decide) (ls2 := [_, _, _, _, _, _]) rfl ?_
  refine vv_iload_n (pc := 8) x dd_CH_pair_8 rfl ?_
  refine lv_CH_130x (pc := 9) G x ht0 dd_CH_pair_9 (C_reg G)  ⟨by decide, by decide⟩ (by decide) (by decide) (Nat.le_of_ble_eq_true rfl) (fun v9 M9 q9 => ?_) (fun E M' q => Or.inl ⟨q.1, q.2.1, fun z => q.2.2 z.2.2.1⟩)
  obtain ⟨rfl, hm9, ha⟩ := q9
  have hm9 := hm9.symm
  subst hm9
  refine vv_iload (pc := 12) x dd_CH_pair_12 rfl ?_
  refine lv_CH_130x (pc := 14) G x ht0 dd_CH_pair_14 (C_reg G)  ⟨by decide, by decide⟩ (by decide) (by decide) (Nat.le_of_ble_eq_true rfl) (fun v14 M14 q14 => ?_) (fun E M' q => Or.inl ⟨q.1, q.2.1, fun z => q.2.2 z.2.2.2⟩)
  obtain ⟨rfl, hm14, hb9⟩ := q14
  have hm14 := hm14.symm
  subst hm14
  refine vv_aload_n (pc := 17) x dd_CH_pair_17 rfl ?_
  refine vv_aload (pc := 18) x dd_CH_pair_18 rfl ?_
  refine vv_iconst (pc := 20) x dd_CH_pair_20 (2) (by decide) ?_
  refine lv_CH_133x (pc := 21) G x ht0 dd_CH_pair_21 (C_need (n := 2) G C0 hZ hDl hi (by decide) _ rfl) hTo ⟨by decide, by decide⟩ (by decide) (by decide) (Nat.le_of_ble_eq_true rfl) (fun v21 M21 q21 => ?_) (fun E M' q => Or.inr ⟨q.1, ⟨hk, hr, ha, hb9⟩, q.2.1, q.2.2⟩)
  obtain ⟨rfl, hR1, C1, kp1⟩ := q21
  have hZ1 := zroom_ok (n := 2) hZ hk
  have hfit := zroom_fit hk hR1
  have hzl := zroom_len (Z := Z) (i := k9) (n := 2)
  generalize zroom Z k9 (2) = RR at *
  obtain ⟨ok2, Z1⟩ := RR
  obtain ⟨-, -, -, hTa1⟩ := CI_tags C1
  have C10 := C1
  obtain ⟨S1, ⟨-, hTo1, -, -⟩, -, ⟨hl1, hP1⟩, -, -, -⟩ := C1
  obtain ⟨⟨-, hTp1⟩, ⟨hDf1, hTf1⟩, ⟨hDm1, hTm1⟩⟩ := hTa1 _ (List.mem_append_left Le (getD_memN hi))
  obtain ⟨u1, u2, u3, u4, u5⟩ := hP1 k9 hi
  have hk1 : k9 < Z1.1.length := by have hzl' : Z1.1.length = Z.1.length := hzl; omega
  have hZ1' : zok pw Z1 := hZ1
  have hfit' : hsz (zget Z1 k9).2.2.2.2 + (2) ≤ (zget Z1 k9).2.1 := hfit
  have hcap1 := cap_le hZ1' hk1
  have rr1 := S1.r hDp hTp1 3 (show (4 : Nat) ≠ 0 by decide)
  have tr1 := S1.t hDp hTp1 3 (show (4 : Nat) ≠ 0 by decide)
  have nr1 : mm_n M21 (mm_f M21 3 3 (La.getD k9 0)) = 4 := S1.n hDp hTp1 3 (show (4 : Nat) ≠ 0 by decide)
  have ga : mm_a M21 (mm_f M21 3 3 (La.getD k9 0)) av.toNatClampNeg = zrg Z1 k9 av := u4 _ (rok_in ha).2.1
  have gb : mm_a M21 (mm_f M21 3 3 (La.getD k9 0)) bv.toNatClampNeg = zrg Z1 k9 bv := u4 _ (rok_in hb9).2.1
  refine vv_aload (pc := 24) x dd_CH_pair_24 rfl ?_
  refine lg_CH_118 (pc := 26) G x dd_CH_pair_26 hTp1 rr1 ?_
  refine vv_iload_n (pc := 29) x dd_CH_pair_29 rfl ?_
  refine vv_aload (pc := 30) x dd_CH_pair_30 rfl ?_
  refine lg_CH_97 (pc := 32) G x dd_CH_pair_32 hTp1 (S1.or hDp hTp1 2 (by decide)) ?_
  refine vv_aload (pc := 35) x dd_CH_pair_35 rfl ?_
  refine lg_CH_118 (pc := 37) G x dd_CH_pair_37 hTp1 rr1 ?_
  refine vv_iload_n (pc := 40) x dd_CH_pair_40 rfl ?_
  refine vv_iald (pc := 41) x dd_CH_pair_41 tr1 (by rw [nr1]; exact (rok_in ha).1) ?_
  rw [ga]
  refine vv_aload (pc := 42) x dd_CH_pair_42 rfl ?_
  refine lg_CH_118 (pc := 44) G x dd_CH_pair_44 hTp1 rr1 ?_
  refine vv_iload (pc := 47) x dd_CH_pair_47 rfl ?_
  refine vv_iald (pc := 49) x dd_CH_pair_49 tr1 (by rw [nr1]; exact (rok_in hb9).1) ?_
  rw [gb]
  refine lv_CH_137 (pc := 50) G x dd_CH_pair_50 (K_addPair (B := (zget Z1 k9).2.2.2.2) G S1 hp hp6 hDf1 hTf1 u3 (by omega)) hTf1 ⟨by decide, by decide⟩ (by decide) (by decide) (Nat.le_of_ble_eq_true rfl) (fun v50 M50 q50 => ?_)
  obtain ⟨rfl, hH⟩ := q50
  have F2 := hadd_fr hH
  have hadd9 := CI_add C10 hi hH
  have hZ2 := zbk_ok (b := (3, [zrg Z1 k9 av, zrg Z1 k9 bv])) hZ1' hp6 hk1 (Or.inl ⟨rfl, rfl⟩) (fun t9 ht9 => by
    have ht8 : t9 ∈ [zrg Z1 k9 av, zrg Z1 k9 bv] := ht9
    simp only [List.mem_cons, List.not_mem_nil, or_false] at ht8
    rcases ht8 with e9 | e9
    · rw [e9]; exact zrg_vt hZ1' hk1 ha
    · rw [e9]; exact zrg_vt hZ1' hk1 hb9) (by show ¬ (3 : Nat) = 5; decide) (by show _ + 2 ≤ _; exact hfit')
  have hrg := CI_reg (t := tk 3 (hsz (zget Z1 k9).2.2.2.2)) hadd9.1 hZ2 hi hj
  have ff : ∀ c' k a, mm_f M50 c' k a = mm_f M21 c' k a := fun c' k a => F2.f (fun z => z)
  rw [ff] at hrg
  refine vv_iast (pc := 53) x dd_CH_pair_53 (by rw [F2.1]; exact tr1) (by rw [F2.2.1, nr1]; exact hin) ?_
  exact vvx_ret (vv_vret (pc := 54) x dd_CH_pair_54 rfl (by decide) (by decide) ⟨rfl, ⟨hk, hr, ha, hb9⟩, hR1, hrg.1, kp1.trans hDl (CI_7 C0) (hadd9.2.trans (fun a9 h9 => by rw [(kp1.1 a9 (hDl a9 h9)).1]; exact hDl a9 h9) (CI_7 C10) hrg.2)⟩)
end M30
