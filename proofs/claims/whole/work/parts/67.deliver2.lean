/-! ===== a message is delivered ===== -/
section M24
variable {g : gg} {X : State → Prop} {t0 : Nat} {l : Launch} {M : mm} {pw : Nat} {D : Nat → Prop} {ow sl : Nat → Nat} {o : Nat} {La Le : List Nat} {Z : zst}
theorem Cs.fg {I : Nat → Nat → Nat → Prop} {Aa : Nat → Prop} {M1 : mm} {c hf ht fw : Nat} {B T : List bk} {q : List Nat} (F : fr I (fun _ _ _ => False) Aa M M1) (K : Cs pw D M c hf ht B fw q T) (hI : ∀ k a, ¬ I 2 k a) (a1 : ¬ Aa (mm_f M 0 3 c)) (a2 : ¬ Aa (mm_f M 2 2 hf)) (a3 : ¬ Aa (mm_f M 2 3 hf)) (a4 : ¬ Aa (mm_f M 2 2 ht)) (a5 : ¬ Aa (mm_f M 2 3 ht)) : Cs pw D M1 c hf ht B fw q T := by
  obtain ⟨⟨hTc, hDc, r0, f0, r1, f1⟩, ⟨hne, hDf, hTf, hDt, hTt⟩, Hf, Ht, hz, hq, hC⟩ := K
  have ff : ∀ c' k a, mm_f M1 c' k a = mm_f M c' k a := fun c' k a => F.f (fun z => z)
  have rr : ∀ c' k a, mm_r M1 c' k a = mm_r M c' k a := fun c' k a => F.2.2.2.2.2.1 _ _ _ (fun z => z)
  refine ⟨⟨by rw [F.1]; exact hTc, hDc, by rw [rr]; exact r0, by rw [ff]; exact f0, by rw [rr]; exact r1, by rw [ff]; exact f1⟩, ⟨hne, hDf, by rw [F.1]; exact hTf, hDt, by rw [F.1]; exact hTt⟩, HeapIs.fr F Hf (hI _ _) (hI _ _) (fun z => z) (fun z => z) a2 a3, HeapIs.fr F Ht (hI _ _) (hI _ _) (fun z => z) (fun z => z) a4 a5, hz, hq, fun i hi => ?_⟩
  rw [ff, F.2.2.2.2.2.2 _ a1]
  exact hC i hi
theorem zcol_mail {i : Nat} (hi : i < Z.1.length) : (zget (zcol Z i) i).2.2.2.1.length = (zget Z i).2.2.2.1.length := by
  unfold zcol
  rw [zget_set hi, if_pos rfl]
  show (List.map _ _).length = _
  rw [List.length_map]
theorem zroom_mail {i n : Nat} (hi : i < Z.1.length) : (zget (zroom Z i n).2 i).2.2.2.1.length = (zget Z i).2.2.2.1.length := by
  unfold zroom
  split
  · rfl
  · split
    · unfold zgrow
      rw [zget_set (by rw [zcol_len]; exact hi), if_pos rfl]
      exact zcol_mail hi
    · exact zcol_mail hi
def nwI (c ht mb : Nat) : Nat → Nat → Nat → Prop := fun c' _ a => (c' = 0 ∧ a = c) ∨ (c' = 2 ∧ a = ht) ∨ (c' = 4 ∧ a = mb)
def nwA (M : mm) (c ht mb b : Nat) : Nat → Prop := fun a => a = mm_f M 0 3 c ∨ a = mm_f M 2 2 ht ∨ a = mm_f M 2 3 ht ∨ a = mm_f M 4 2 mb ∨ a = mm_f M 5 3 b
theorem led_pre {B : List bk} {t : Int32} : ∃ r, led B t = vis B [] t ++ r := bfs_pre
theorem cpd_drop {B B0 : List bk} {Q : List Nat} : hnd ((cpd B B0 Q).drop B0.length) = hnd (qB B Q) := by
  have h := hnd_cpd (B := B) (B0 := B0) (Q := Q)
  unfold cpd TT at *
  rw [hnd_app] at h
  rw [List.drop_left]
  exact List.append_cancel_left h
set_option maxRecDepth 100000 in
set_option maxHeartbeats 4000000 in
theorem C_deliver (G : gc g X t0 l) (C : CI pw D ow sl M o La Le Z) (hZ : zok pw Z) (hDl : ∀ a, D a → mm_t M a ≠ 0) {s1 r : Nat} (hs : s1 < La.length) (hr : r < La.length) (hne : s1 ≠ r) {t : Int32} (ht : vt (zget Z s1).2.2.2.2 t) (hml : (zget Z r).2.2.2.1.length < 512) (Rs : Bool × zst) (hRs : zdel Z s1 r t = Rs) : Ok g X l yy_CH_deliver cc_CH_deliver 4 (some .boolean) 6 141 0 0 [.ref o, .ref (La.getD s1 0), .int t, .ref (La.getD r 0)] M (fun v M' => v = some (.int (if Rs.1 = true then 1 else 0)) ∧ CI pw D ow sl M' o La Le Rs.2 ∧ kp pw D M M') := by
  refine ok_start (by decide) (Nat.le_of_ble_eq_true rfl) (by simp [Value.category]) ?_
  intro p e s m args below meth c9 x
  have C0 := C
  obtain ⟨⟨hDc, hTc⟩, ⟨hDs, hTs⟩, ⟨hDb, hTb⟩, hTa⟩ := CI_tags C
  obtain ⟨S, ⟨hDo, hTo, hp, hp6⟩, ⟨ha1, ha2, ha3, ha4⟩, ⟨hl, hP⟩, ⟨hpo, T0, hT0⟩, ⟨hw, hlt, hcn⟩, hL⟩ := C
  have hmr : La.getD r 0 ∈ La ++ Le := List.mem_append_left _ (getD_memN hr)
  have hmS : La.getD s1 0 ∈ La ++ Le := List.mem_append_left _ (getD_memN hs)
  obtain ⟨⟨hDr, hTr⟩, -, ⟨hDm, hTm⟩⟩ := hTa _ hmr
  obtain ⟨⟨hDn, hTn⟩, -, -⟩ := hTa _ hmS
  have hrn := La_ne ha2 hs hr (fun e9 => hne e9.symm)
  have hrZ : r < Z.1.length := by omega
  have hsZ : s1 < Z.1.length := by omega
  obtain ⟨-, -, -, -, p5⟩ := hP r hr
  obtain ⟨b1, b2, b3, b4, b5, b6, b7, b8⟩ := hZ.1 _ (zget_mem hsZ)
  have hqle := qB_le (led_ok (B := (zget Z s1).2.2.2.2) (t := t))
  have hq6 := b2.1
  refine vv_aload_n (pc := 0) x dd_CH_deliver_0 rfl ?_
  refine lg_CH_169 (pc := 1) G x dd_CH_deliver_1 hTr (S.or hDr hTr 4 (by decide)) ?_
  refine lv_CH_253 (pc := 4) G x dd_CH_deliver_4 (K_isFull G hTm p5 hml) hTm ⟨by decide, by decide⟩ (by decide) (by decide) (Nat.le_of_ble_eq_true rfl) (fun v4 M4 q4 => ?_)
  obtain ⟨rfl, hm4⟩ := q4
  have hm4 := hm4.symm
  subst hm4
  refine vv_if_eq (pc := 7) x dd_CH_deliver_7 (tgt := 12) (by decide) (fun h7 => ?_) (fun h7 => absurd h7 (fun z => z rfl))
  refine vv_aload_n (pc := 12) x dd_CH_deliver_12 rfl ?_
  refine vv_aload_n (pc := 13) x dd_CH_deliver_13 rfl ?_
  refine vv_acmp_ne (pc := 14) x dd_CH_deliver_14 (tgt := 27) (by decide) (fun h14 => ?_) (fun h14 => absurd h14 (fun z => hrn z))
  refine vv_aload_n (pc := 27) x dd_CH_deliver_27 rfl ?_
  refine vv_aload_n (pc := 28) x dd_CH_deliver_28 rfl ?_
  refine vv_aload_n (pc := 29) x dd_CH_deliver_29 rfl ?_
  refine vv_aload_n (pc := 30) x dd_CH_deliver_30 rfl ?_
  refine lg_CH_97 (pc := 31) G x dd_CH_deliver_31 hTn (S.or hDn hTn 2 (by decide)) ?_
  refine vv_iload_n (pc := 34) x dd_CH_deliver_34 rfl ?_
  refine lv_CH_209 (pc := 35) G x dd_CH_deliver_35 (C_words G C0 hZ hs ht) hTo ⟨by decide, by decide⟩ (by decide) (by decide) (Nat.le_of_ble_eq_true rfl) (fun v35 M35 q35 => ?_)
  obtain ⟨rfl, ⟨C1, kp1⟩, -⟩ := q35
  have hDl1 : ∀ a, D a → mm_t M35 a ≠ 0 := fun a ha => by rw [(kp1.1 a (hDl a ha)).1]; exact hDl a ha
  have hTo1 : mm_t M35 o = 7 := C1.2.1.2.1
  refine lv_CH_231 (pc := 38) G x dd_CH_deliver_38 (C_room G C1 hZ hDl1 hr (by omega) _ rfl) hTo1 ⟨by decide, by decide⟩ (by decide) (by decide) (Nat.le_of_ble_eq_true rfl) (fun v38 M38 q38 => ?_)
  obtain ⟨rfl, C2, kp2⟩ := q38
  have C20 := C2
  have hk38 := kp1.trans hDl (CI_7 C0) kp2
  have hZ2 := zroom_ok (n := hsz (qB (zget Z s1).2.2.2.2 (led (zget Z s1).2.2.2.2 t))) hZ hrZ
  have hzs := zroom_ne (n := hsz (qB (zget Z s1).2.2.2.2 (led (zget Z s1).2.2.2.2 t))) hrZ hne
  have hzf := zroom_fit (n := hsz (qB (zget Z s1).2.2.2.2 (led (zget Z s1).2.2.2.2 t))) hrZ
  have hzm := zroom_mail (n := hsz (qB (zget Z s1).2.2.2.2 (led (zget Z s1).2.2.2.2 t))) hrZ
  have hzl := zroom_len (Z := Z) (i := r) (n := hsz (qB (zget Z s1).2.2.2.2 (led (zget Z s1).2.2.2.2 t)))
  unfold zdel at hRs
  generalize zroom Z r (hsz (qB (zget Z s1).2.2.2.2 (led (zget Z s1).2.2.2.2 t))) = RR at *
  obtain ⟨ok2, Z2⟩ := RR
  obtain ⟨⟨hDc2, hTc2⟩, ⟨hDs2, hTs2⟩, ⟨hDb2, hTb2⟩, hTa2⟩ := CI_tags C2
  obtain ⟨S2, ⟨-, hTo2, -, -⟩, ⟨-, -, hb3, hb4⟩, ⟨hl2, hP2⟩, ⟨hpo2, T02, hT02⟩, -, -⟩ := C2
  obtain ⟨⟨-, hTr2⟩, ⟨hDt2, hTt2⟩, ⟨hDm2, hTm2⟩⟩ := hTa2 _ hmr
  obtain ⟨⟨-, hTn2⟩, ⟨hDf2, hTf2⟩, -⟩ := hTa2 _ hmS
  obtain ⟨u1, u2, u3, u4, u5⟩ := hP2 r hr
  obtain ⟨-, -, v3, -, -⟩ := hP2 s1 hs
  have hzs' : zget Z2 s1 = zget Z s1 := hzs
  rw [hzs'] at v3
  have hfh := (hb4 _ hmS _ hmr (fun e9 => hrn e9.symm)).1
  have hZ2' : zok pw Z2 := hZ2
  have hr2 : r < Z2.1.length := by have hzl' : Z2.1.length = Z.1.length := hzl; omega
  have hs2 : s1 < Z2.1.length := by have hzl' : Z2.1.length = Z.1.length := hzl; omega
  have hcap2 := cap_le hZ2' hr2
  refine vv_if_ne (pc := 41) x dd_CH_deliver_41 (tgt := 46) (by decide) (fun h41 => ?_) (fun h41 => ?_)
  · have hok2 : ok2 = true := by
      cases ok2 with
      | true => rfl
      | false => exact absurd rfl h41
    have hfit : hsz (zget Z2 r).2.2.2.2 + hsz (qB (zget Z s1).2.2.2.2 (led (zget Z s1).2.2.2.2 t)) ≤ (zget Z2 r).2.1 := hzf hok2
    have hml2 : (zget Z2 r).2.2.2.1.length < 512 := by
      have hzm' : (zget Z2 r).2.2.2.1.length = (zget Z r).2.2.2.1.length := hzm
      omega
    have hvle : hsz (zget Z2 r).2.2.2.2 + hsz (qB (zget Z s1).2.2.2.2 (vis (zget Z s1).2.2.2.2 [] t)) ≤ pw := by
      obtain ⟨r9, e9⟩ := led_pre (B := (zget Z s1).2.2.2.2) (t := t)
      rw [e9, qB_app] at hfit
      omega
    have a_r3_c3 := S2.ap hDr hTr2 (k := 3) (show (4 : Nat) ≠ 0 by decide) hDc2 hTc2 (k2 := 3) hp (Or.inl (ne_tag hTr2 hTc2 (by decide)))
    have a_r3_t2 := S2.ap hDr hTr2 (k := 3) (show (4 : Nat) ≠ 0 by decide) hDt2 hTt2 (k2 := 2) hp (Or.inl (ne_tag hTr2 hTt2 (by decide)))
    have a_r3_t3 := S2.ap hDr hTr2 (k := 3) (show (4 : Nat) ≠ 0 by decide) hDt2 hTt2 (k2 := 3) hp (Or.inl (ne_tag hTr2 hTt2 (by decide)))
    have a_r3_m2 := S2.ap hDr hTr2 (k := 3) (show (4 : Nat) ≠ 0 by decide) hDm2 hTm2 (k2 := 2) (show (512 : Nat) ≠ 0 by decide) (Or.inl (ne_tag hTr2 hTm2 (by decide)))
    have a_r3_b3 := S2.ap hDr hTr2 (k := 3) (show (4 : Nat) ≠ 0 by decide) hDb2 hTb2 (k2 := 3) (show (30 : Nat) ≠ 0 by decide) (Or.inl (ne_tag hTr2 hTb2 (by decide)))
    have a_b2_c3 := S2.ap hDb2 hTb2 (k := 2) (show (30 : Nat) ≠ 0 by decide) hDc2 hTc2 (k2 := 3) hp (Or.inl (ne_tag hTb2 hTc2 (by decide)))
    have a_b2_t2 := S2.ap hDb2 hTb2 (k := 2) (show (30 : Nat) ≠ 0 by decide) hDt2 hTt2 (k2 := 2) hp (Or.inl (ne_tag hTb2 hTt2 (by decide)))
    have a_b2_t3 := S2.ap hDb2 hTb2 (k := 2) (show (30 : Nat) ≠ 0 by decide) hDt2 hTt2 (k2 := 3) hp (Or.inl (ne_tag hTb2 hTt2 (by decide)))
    have a_b2_m2 := S2.ap hDb2 hTb2 (k := 2) (show (30 : Nat) ≠ 0 by decide) hDm2 hTm2 (k2 := 2) (show (512 : Nat) ≠ 0 by decide) (Or.inl (ne_tag hTb2 hTm2 (by decide)))
    have a_b2_b3 := S2.ap hDb2 hTb2 (k := 2) (show (30 : Nat) ≠ 0 by decide) hDb2 hTb2 (k2 := 3) (show (30 : Nat) ≠ 0 by decide) (Or.inr (by decide))
    have a_s2_c3 := S2.ap hDs2 hTs2 (k := 2) hp hDc2 hTc2 (k2 := 3) hp (Or.inl (ne_tag hTs2 hTc2 (by decide)))
    have a_s2_t2 := S2.ap hDs2 hTs2 (k := 2) hp hDt2 hTt2 (k2 := 2) hp (Or.inl (hb3 _ hmr).symm)
    have a_s2_t3 := S2.ap hDs2 hTs2 (k := 2) hp hDt2 hTt2 (k2 := 3) hp (Or.inl (hb3 _ hmr).symm)
    have a_s2_m2 := S2.ap hDs2 hTs2 (k := 2) hp hDm2 hTm2 (k2 := 2) (show (512 : Nat) ≠ 0 by decide) (Or.inl (ne_tag hTs2 hTm2 (by decide)))
    have a_s2_b3 := S2.ap hDs2 hTs2 (k := 2) hp hDb2 hTb2 (k2 := 3) (show (30 : Nat) ≠ 0 by decide) (Or.inl (ne_tag hTs2 hTb2 (by decide)))
    have a_s3_c3 := S2.ap hDs2 hTs2 (k := 3) hp hDc2 hTc2 (k2 := 3) hp (Or.inl (ne_tag hTs2 hTc2 (by decide)))
    have a_s3_t2 := S2.ap hDs2 hTs2 (k := 3) hp hDt2 hTt2 (k2 := 2) hp (Or.inl (hb3 _ hmr).symm)
    have a_s3_t3 := S2.ap hDs2 hTs2 (k := 3) hp hDt2 hTt2 (k2 := 3) hp (Or.inl (hb3 _ hmr).symm)
    have a_s3_m2 := S2.ap hDs2 hTs2 (k := 3) hp hDm2 hTm2 (k2 := 2) (show (512 : Nat) ≠ 0 by decide) (Or.inl (ne_tag hTs2 hTm2 (by decide)))
    have a_s3_b3 := S2.ap hDs2 hTs2 (k := 3) hp hDb2 hTb2 (k2 := 3) (show (30 : Nat) ≠ 0 by decide) (Or.inl (ne_tag hTs2 hTb2 (by decide)))
    have a_c3_m2 := S2.ap hDc2 hTc2 (k := 3) hp hDm2 hTm2 (k2 := 2) (show (512 : Nat) ≠ 0 by decide) (Or.inl (ne_tag hTc2 hTm2 (by decide)))
    have a_f2_m2 := S2.ap hDf2 hTf2 (k := 2) hp hDm2 hTm2 (k2 := 2) (show (512 : Nat) ≠ 0 by decide) (Or.inl (ne_tag hTf2 hTm2 (by decide)))
    have a_f3_m2 := S2.ap hDf2 hTf2 (k := 3) hp hDm2 hTm2 (k2 := 2) (show (512 : Nat) ≠ 0 by decide) (Or.inl (ne_tag hTf2 hTm2 (by decide)))
    have a_t2_m2 := S2.ap hDt2 hTt2 (k := 2) hp hDm2 hTm2 (k2 := 2) (show (512 : Nat) ≠ 0 by decide) (Or.inl (ne_tag hTt2 hTm2 (by decide)))
    have a_t3_m2 := S2.ap hDt2 hTt2 (k := 3) hp hDm2 hTm2 (k2 := 2) (show (512 : Nat) ≠ 0 by decide) (Or.inl (ne_tag hTt2 hTm2 (by decide)))
    have a_m2_c3 := S2.ap hDm2 hTm2 (k := 2) (show (512 : Nat) ≠ 0 by decide) hDc2 hTc2 (k2 := 3) hp (Or.inl (ne_tag hTm2 hTc2 (by decide)))
    have a_m2_t2 := S2.ap hDm2 hTm2 (k := 2) (show (512 : Nat) ≠ 0 by decide) hDt2 hTt2 (k2 := 2) hp (Or.inl (ne_tag hTm2 hTt2 (by decide)))
    have a_m2_t3 := S2.ap hDm2 hTm2 (k := 2) (show (512 : Nat) ≠ 0 by decide) hDt2 hTt2 (k2 := 3) hp (Or.inl (ne_tag hTm2 hTt2 (by decide)))
    have a_t2_b3 := S2.ap hDt2 hTt2 (k := 2) hp hDb2 hTb2 (k2 := 3) (show (30 : Nat) ≠ 0 by decide) (Or.inl (ne_tag hTt2 hTb2 (by decide)))
    have a_t3_b3 := S2.ap hDt2 hTt2 (k := 3) hp hDb2 hTb2 (k2 := 3) (show (30 : Nat) ≠ 0 by decide) (Or.inl (ne_tag hTt2 hTb2 (by decide)))
    have a_m2_b3 := S2.ap hDm2 hTm2 (k := 2) (show (512 : Nat) ≠ 0 by decide) hDb2 hTb2 (k2 := 3) (show (30 : Nat) ≠ 0 by decide) (Or.inl (ne_tag hTm2 hTb2 (by decide)))
    have a_b3_c3 := S2.ap hDb2 hTb2 (k := 3) (show (30 : Nat) ≠ 0 by decide) hDc2 hTc2 (k2 := 3) hp (Or.inl (ne_tag hTb2 hTc2 (by decide)))
    have a_b3_t2 := S2.ap hDb2 hTb2 (k := 3) (show (30 : Nat) ≠ 0 by decide) hDt2 hTt2 (k2 := 2) hp (Or.inl (ne_tag hTb2 hTt2 (by decide)))
    have a_b3_t3 := S2.ap hDb2 hTb2 (k := 3) (show (30 : Nat) ≠ 0 by decide) hDt2 hTt2 (k2 := 3) hp (Or.inl (ne_tag hTb2 hTt2 (by decide)))
    have a_b3_m2 := S2.ap hDb2 hTb2 (k := 3) (show (30 : Nat) ≠ 0 by decide) hDm2 hTm2 (k2 := 2) (show (512 : Nat) ≠ 0 by decide) (Or.inl (ne_tag hTb2 hTm2 (by decide)))
    refine vv_aload_n (pc := 46) x dd_CH_deliver_46 rfl ?_
    refine lg_CH_44 (pc := 47) G x dd_CH_deliver_47 hTo2 (S2.or hDo hTo2 4 (by decide)) ?_
    refine vv_aload_n (pc := 50) x dd_CH_deliver_50 rfl ?_
    refine lg_CH_97 (pc := 51) G x dd_CH_deliver_51 hTn2 (S2.or hDn hTn2 2 (by decide)) ?_
    refine vv_aload_n (pc := 54) x dd_CH_deliver_54 rfl ?_
    refine lg_CH_97 (pc := 55) G x dd_CH_deliver_55 hTr2 (S2.or hDr hTr2 2 (by decide)) ?_
    refine lv_CH_100 (pc := 58) G x dd_CH_deliver_58 (K_start G S2 hp hp6 hDc2 hTc2 hfh hDf2 hTf2 hDt2 hTt2 v3 u3) hTc2 ⟨by decide, by decide⟩ (by decide) (by decide) (Nat.le_of_ble_eq_true rfl) (fun v58 M58 q58 => ?_)
    obtain ⟨rfl, F3, K3, i3⟩ := q58
    have FA : fr (nwI (mm_f M38 6 4 o) (mm_f M38 3 2 (La.getD r 0)) (mm_f M38 3 4 (La.getD r 0))) (scR (mm_f M38 6 4 o)) (nwA M38 (mm_f M38 6 4 o) (mm_f M38 3 2 (La.getD r 0)) (mm_f M38 3 4 (La.getD r 0)) (mm_f M38 6 1 o)) M38 M58 := F3.mono (fun c' k a z => Or.inl ⟨z.1, z.2.2⟩) (fun _ _ _ z => z) (fun a z => Or.inl z)
    have S3 := FA.sh scR_ok S2
    have t3 : ∀ {a x : Nat}, mm_t M38 a = x → mm_t M58 a = x := fun h => by rw [FA.1]; exact h
    have f3 : ∀ c' k a, c' ≠ 0 ∨ 2 ≤ k → mm_f M58 c' k a = mm_f M38 c' k a := fun c' k a h => FA.f (fun z => by have := z.1; have := z.2.1; omega)
    refine vv_aload_n (pc := 61) x dd_CH_deliver_61 rfl ?_
    refine lg_CH_169 (pc := 62) G x dd_CH_deliver_62 (t3 hTr2) (S3.or hDr (t3 hTr2) 4 (by decide)) ?_
    refine vv_aload_n (pc := 65) x dd_CH_deliver_65 rfl ?_
    refine lg_CH_44 (pc := 66) G x dd_CH_deliver_66 (t3 hTo2) (S3.or hDo (t3 hTo2) 4 (by decide)) ?_
    refine vv_iload_n (pc := 69) x dd_CH_deliver_69 rfl ?_
    rw [f3 3 4 _ (Or.inl (by decide)), f3 6 4 _ (Or.inl (by decide))]
    refine lv_CH_241 (pc := 70) G x dd_CH_deliver_70 (K_carry G S3 hp hp6 K3 ht hvle) K3.1.1 ⟨by decide, by decide⟩ (by decide) (by decide) (Nat.le_of_ble_eq_true rfl) (fun v70 M70 q70 => ?_)
    obtain ⟨rfl, C4, K4⟩ := q70
    have FB : fr (nwI (mm_f M38 6 4 o) (mm_f M38 3 2 (La.getD r 0)) (mm_f M38 3 4 (La.getD r 0))) (scR (mm_f M38 6 4 o)) (nwA M38 (mm_f M38 6 4 o) (mm_f M38 3 2 (La.getD r 0)) (mm_f M38 3 4 (La.getD r 0)) (mm_f M38 6 1 o)) M38 M70 := FA.trans (C4.fr.mono (fun c' k a z => Or.inr (Or.inl ⟨z.1, z.2.2⟩)) (fun _ _ _ z => z.elim) (fun a z => by
      rw [f3 0 3 _ (Or.inr (by decide)), f3 2 2 _ (Or.inl (by decide)), f3 2 3 _ (Or.inl (by decide))] at z
      rcases z with z | z | z
      · exact Or.inl z
      · exact Or.inr (Or.inl z)
      · exact Or.inr (Or.inr (Or.inl z))))
    have S4 := FB.sh scR_ok S2
    have t4 : ∀ {a x : Nat}, mm_t M38 a = x → mm_t M70 a = x := fun h => by rw [FB.1]; exact h
    have f4 : ∀ c' k a, c' ≠ 0 ∨ 2 ≤ k → mm_f M70 c' k a = mm_f M38 c' k a := fun c' k a h => FB.f (fun z => by have := z.1; have := z.2.1; omega)
    have hrl : rel (zget Z s1).2.2.2.2 (hsz (zget Z2 r).2.2.2.2) (vis (zget Z s1).2.2.2.2 [] t) t = rel (zget Z s1).2.2.2.2 (hsz (zget Z2 r).2.2.2.2) (led (zget Z s1).2.2.2.2 t) t := by
      obtain ⟨r9, e9⟩ := led_pre (B := (zget Z s1).2.2.2.2) (t := t)
      rw [e9, rel_vis]
    rw [hrl]
    have hM4 : MailIs M70 (mm_f M38 3 4 (La.getD r 0)) (zget Z2 r).2.2.2.1 := MailIs.fr (C4.fr) (MailIs.fr F3 u5 (fun z => absurd z.1 (by decide)) (fun z => absurd z.1 (by decide)) (fun z => absurd z.1 (by decide)) a_m2_c3) (fun z => absurd z.1 (by decide)) (fun z => absurd z.1 (by decide)) (fun z => z) (by
      rw [f3 4 2 _ (Or.inl (by decide)), f3 0 3 _ (Or.inr (by decide)), f3 2 2 _ (Or.inl (by decide)), f3 2 3 _ (Or.inl (by decide))]
      rintro (z | z | z)
      · exact a_m2_c3 z
      · exact a_m2_t2 z
      · exact a_m2_t3 z)
    refine lv_CH_256 (pc := 73) G x dd_CH_deliver_73 (K_addLast G S4 hDm2 (t4 hTm2) hM4 hml2) (t4 hTm2) ⟨by decide, by decide⟩ (by decide) (by decide) (Nat.le_of_ble_eq_true rfl) (fun v73 M73 q73 => ?_)
    obtain ⟨rfl, F5, hM5⟩ := q73
    have FC : fr (nwI (mm_f M38 6 4 o) (mm_f M38 3 2 (La.getD r 0)) (mm_f M38 3 4 (La.getD r 0))) (scR (mm_f M38 6 4 o)) (nwA M38 (mm_f M38 6 4 o) (mm_f M38 3 2 (La.getD r 0)) (mm_f M38 3 4 (La.getD r 0)) (mm_f M38 6 1 o)) M38 M73 := FB.trans (F5.mono (fun c' k a z => Or.inr (Or.inr ⟨z.1, z.2.2⟩)) (fun _ _ _ z => z.elim) (fun a z => Or.inr (Or.inr (Or.inr (Or.inl (by rw [z, f4 4 2 _ (Or.inl (by decide))]))))))
    have S5 := FC.sh scR_ok S2
    have t5 : ∀ {a x : Nat}, mm_t M38 a = x → mm_t M73 a = x := fun h => by rw [FC.1]; exact h
    have f5 : ∀ c' k a, c' ≠ 0 ∨ 2 ≤ k → mm_f M73 c' k a = mm_f M38 c' k a := fun c' k a h => FC.f (fun z => by have := z.1; have := z.2.1; omega)
    have K5 := Cs.fg F5 K4 (fun k a z => absurd z.1 (by decide)) (by rw [f4 0 3 _ (Or.inr (by decide)), f4 4 2 _ (Or.inl (by decide))]; exact a_c3_m2) (by rw [f4 2 2 _ (Or.inl (by decide)), f4 4 2 _ (Or.inl (by decide))]; exact a_f2_m2) (by rw [f4 2 3 _ (Or.inl (by decide)), f4 4 2 _ (Or.inl (by decide))]; exact a_f3_m2) (by rw [f4 2 2 _ (Or.inl (by decide)), f4 4 2 _ (Or.inl (by decide))]; exact a_t2_m2) (by rw [f4 2 3 _ (Or.inl (by decide)), f4 4 2 _ (Or.inl (by decide))]; exact a_t3_m2)
    have i5 : mm_i M73 0 2 (mm_f M38 6 4 o) = nI (zget Z2 r).2.2.2.2.length := by
      rw [F5.2.2.2.2.1 _ _ _ (fun z => absurd z.1 (by decide)), C4.i (by decide)]
      exact i3
    refine vv_aload_n (pc := 76) x dd_CH_deliver_76 rfl ?_
    refine lg_CH_44 (pc := 77) G x dd_CH_deliver_77 (t5 hTo2) (S5.or hDo (t5 hTo2) 4 (by decide)) ?_
    rw [f5 6 4 _ (Or.inl (by decide))]
    refine lv_CH_250 (pc := 80) G x dd_CH_deliver_80 (K_parts (B0 := (zget Z2 r).2.2.2.2) G S5 hp hp6 (by exact K5) i5 b6 (led (zget Z s1).2.2.2.2 t) rfl (by omega)) K5.1.1 ⟨by decide, by decide⟩ (by decide) (by decide) (Nat.le_of_ble_eq_true rfl) (fun v80 M80 q80 => ?_)
    obtain ⟨rfl, C6, K6⟩ := q80
    have FD : fr (nwI (mm_f M38 6 4 o) (mm_f M38 3 2 (La.getD r 0)) (mm_f M38 3 4 (La.getD r 0))) (scR (mm_f M38 6 4 o)) (nwA M38 (mm_f M38 6 4 o) (mm_f M38 3 2 (La.getD r 0)) (mm_f M38 3 4 (La.getD r 0)) (mm_f M38 6 1 o)) M38 M80 := FC.trans (C6.fr.mono (fun c' k a z => Or.inr (Or.inl ⟨z.1, z.2.2⟩)) (fun _ _ _ z => z.elim) (fun a z => by
      rw [f5 0 3 _ (Or.inr (by decide)), f5 2 2 _ (Or.inl (by decide)), f5 2 3 _ (Or.inl (by decide))] at z
      rcases z with z | z | z
      · exact Or.inl z
      · exact Or.inr (Or.inl z)
      · exact Or.inr (Or.inr (Or.inl z))))
    have S6 := FD.sh scR_ok S2
    have t6 : ∀ {a x : Nat}, mm_t M38 a = x → mm_t M80 a = x := fun h => by rw [FD.1]; exact h
    have f6 : ∀ c' k a, c' ≠ 0 ∨ 2 ≤ k → mm_f M80 c' k a = mm_f M38 c' k a := fun c' k a h => FD.f (fun z => by have := z.1; have := z.2.1; omega)
    have i6 : mm_i M80 0 2 (mm_f M38 6 4 o) = nI (zget Z2 r).2.2.2.2.length := by
      rw [C6.i (by decide)]
      exact i5
    have hbl6 : hbl (cpd (zget Z s1).2.2.2.2 (zget Z2 r).2.2.2.2 (led (zget Z s1).2.2.2.2 t)) := cpd_bl led_ok (hZ2'.1 _ (zget_mem hr2)).2.2.2.2.2.2.1 b7
    have hM6 : MailIs M80 (mm_f M38 3 4 (La.getD r 0)) ((zget Z2 r).2.2.2.1 ++ [rel (zget Z s1).2.2.2.2 (hsz (zget Z2 r).2.2.2.2) (led (zget Z s1).2.2.2.2 t) t]) := MailIs.fr C6.fr hM5 (fun z => absurd z.1 (by decide)) (fun z => absurd z.1 (by decide)) (fun z => z) (by
      rw [f5 4 2 _ (Or.inl (by decide)), f5 0 3 _ (Or.inr (by decide)), f5 2 2 _ (Or.inl (by decide)), f5 2 3 _ (Or.inl (by decide))]
      rintro (z | z | z)
      · exact a_m2_c3 z
      · exact a_m2_t2 z
      · exact a_m2_t3 z)
    refine vv_aload_n (pc := 83) x dd_CH_deliver_83 rfl ?_
    refine lg_CH_44 (pc := 84) G x dd_CH_deliver_84 (t6 hTo2) (S6.or hDo (t6 hTo2) 4 (by decide)) ?_
    refine vv_aload_n (pc := 87) x dd_CH_deliver_87 rfl ?_
    refine lg_CH_27 (pc := 88) G x dd_CH_deliver_88 (t6 hTo2) (S6.or hDo (t6 hTo2) 1 (by decide)) ?_
    rw [f6 6 4 _ (Or.inl (by decide)), f6 6 1 _ (Or.inl (by decide))]
    refine lv_CH_259 (pc := 91) G x dd_CH_deliver_91 (K_count (n0 := (zget Z2 r).2.2.2.2.length) (T := cpd (zget Z s1).2.2.2.2 (zget Z2 r).2.2.2.2 (led (zget Z s1).2.2.2.2 t)) G S6 hp hp6 hDc2 K6.1.1 K6.1.2.2.2.2.1 K6.1.2.2.2.2.2 hDt2 (t6 hTt2) K6.2.2.2.1 (by rw [cpd_len]; omega) i6 hDb2 (t6 hTb2) hbl6 _ rfl) K6.1.1 ⟨by decide, by decide⟩ (by decide) (by decide) (Nat.le_of_ble_eq_true rfl) (fun v91 M91 q91 => ?_)
    obtain ⟨rfl, hm91⟩ := q91
    refine vv_iconst (pc := 94) x dd_CH_deliver_94 (1) (by decide) ?_
    exact vv_zret (pc := 95) x dd_CH_deliver_95 rfl (Or.inr rfl) (by decide) (by decide) ⟨by
        rw [if_pos hok2] at hRs
        rw [← hRs]
        rfl, by
        rw [if_pos hok2] at hRs
        rw [← hRs]
        rw [f6 5 3 _ (Or.inl (by decide))] at hm91
        have FE : fr (nwI (mm_f M38 6 4 o) (mm_f M38 3 2 (La.getD r 0)) (mm_f M38 3 4 (La.getD r 0))) (scR (mm_f M38 6 4 o)) (nwA M38 (mm_f M38 6 4 o) (mm_f M38 3 2 (La.getD r 0)) (mm_f M38 3 4 (La.getD r 0)) (mm_f M38 6 1 o)) M38 M91 := FD.trans (by
          rw [hm91]
          exact fr_sa.mono (fun _ _ _ z => z.elim) (fun _ _ _ z => z.elim) (fun a z => Or.inr (Or.inr (Or.inr (Or.inr z)))))
        have FO : fr (stI (ob M38 o (La.getD r 0))) (scR (mm_f M38 6 4 o)) (stA pw D M38 (ob M38 o (La.getD r 0))) M38 M91 := FE.mono (fun c' k a z => by
          rcases z with z | z | z
          · exact ⟨by omega, by rw [z.2]; unfold ob; simp⟩
          · exact ⟨by omega, by rw [z.2]; unfold ob; simp⟩
          · exact ⟨by omega, by rw [z.2]; unfold ob; simp⟩) (fun _ _ _ z => z) (fun a z => by
          rcases z with z | z | z | z | z
          · rw [z]; exact stA_in hDc2 hTc2 hp (by decide) (by unfold ob; simp)
          · rw [z]; exact stA_in hDt2 hTt2 hp (by decide) (by unfold ob; simp)
          · rw [z]; exact stA_in hDt2 hTt2 hp (by decide) (by unfold ob; simp)
          · rw [z]; exact stA_in hDm2 hTm2 (show (512 : Nat) ≠ 0 by decide) (by decide) (by unfold ob; simp)
          · rw [z]; exact stA_in hDb2 hTb2 (show (30 : Nat) ≠ 0 by decide) (by decide) (by unfold ob; simp))
        have f7 : ∀ c' k a, c' ≠ 0 ∨ 2 ≤ k → mm_f M91 c' k a = mm_f M38 c' k a := fun c' k a h => FE.f (fun z => by have := z.1; have := z.2.1; omega)
        have j7 : ∀ c' k a, c' = 3 ∨ c' = 5 → mm_i M91 c' k a = mm_i M38 c' k a := fun c' k a h => FE.2.2.2.2.1 _ _ _ (fun z => by rcases z with z | z | z <;> (have := z.1; omega))
        have hst := CI_step C20 hr (P' := tak (zget Z2 r) (zget Z s1).2.2.2.2 t) (p' := (hnd (qB (zget Z s1).2.2.2.2 (led (zget Z s1).2.2.2.2 t))).foldl pct Z2.2.1) FO ⟨?_, ?_, ?_, ?_, ?_⟩ ?_ ⟨T02, ?_⟩
        · exact ⟨hst.1, hk38.trans hDl (CI_7 C0) hst.2⟩
        · rw [j7 _ _ _ (Or.inl rfl)]; exact u1
        · rw [j7 _ _ _ (Or.inl rfl)]; exact u2
        · rw [f7 3 2 _ (Or.inl (by decide)), hm91]
          exact HeapIs.sa K6.2.2.2.1 (by rw [f6 2 2 _ (Or.inl (by decide))]; exact a_t2_b3) (by rw [f6 2 3 _ (Or.inl (by decide))]; exact a_t3_b3)
        · intro j hj
          rw [f7 3 3 _ (Or.inl (by decide)), FE.2.2.2.2.2.2 _ (by
            rintro (z | z | z | z | z)
            · exact a_r3_c3 z
            · exact a_r3_t2 z
            · exact a_r3_t3 z
            · exact a_r3_m2 z
            · exact a_r3_b3 z)]
          exact u4 j hj
        · rw [f7 3 4 _ (Or.inl (by decide)), hm91]
          exact MailIs.fr fr_sa hM6 (fun z => z) (fun z => z) (fun z => z) (by rw [f6 4 2 _ (Or.inl (by decide))]; exact a_m2_b3)
        · have ez : mm_a M91 (mm_f M38 5 2 (mm_f M38 6 1 o)) = mm_a M38 (mm_f M38 5 2 (mm_f M38 6 1 o)) := FE.2.2.2.2.2.2 _ (by
            rintro (z | z | z | z | z)
            · exact a_b2_c3 z
            · exact a_b2_t2 z
            · exact a_b2_t3 z
            · exact a_b2_m2 z
            · exact a_b2_b3 z)
          have ec : mm_a M91 (mm_f M38 5 3 (mm_f M38 6 1 o)) = (hnd (qB (zget Z s1).2.2.2.2 (led (zget Z s1).2.2.2.2 t))).foldl cnh (mm_a M38 (mm_f M38 5 3 (mm_f M38 6 1 o))) := by
            rw [hm91, ma_sa_s, lf_all (by rw [cpd_len]; omega), cpd_drop]
            congr 1
            rw [C6.a (by rw [f5 0 3 _ (Or.inr (by decide))]; exact a_b3_c3) (by rw [f5 2 2 _ (Or.inl (by decide))]; exact a_b3_t2) (by rw [f5 2 3 _ (Or.inl (by decide))]; exact a_b3_t3), F5.2.2.2.2.2.2 _ (by rw [f4 4 2 _ (Or.inl (by decide))]; exact a_b3_m2), C4.a (by rw [f3 0 3 _ (Or.inr (by decide))]; exact a_b3_c3) (by rw [f3 2 2 _ (Or.inl (by decide))]; exact a_b3_t2) (by rw [f3 2 3 _ (Or.inl (by decide))]; exact a_b3_t3), F3.2.2.2.2.2.2 _ a_b3_c3]
          unfold PoolIs pget
          rw [f7 5 2 _ (Or.inl (by decide)), f7 5 3 _ (Or.inl (by decide)), ez, ec, j7 _ _ _ (Or.inr rfl), j7 _ _ _ (Or.inr rfl)]
          refine pct_fold hpo2 (fun w hw9 => ?_)
          have hin := hnd_sub led_ok hw9
          have hw30 := hnd_30 b7 w hin
          refine ⟨hw30, ?_⟩
          rw [hZ2'.2.2.2.2.2.1 w hw30]
          have h8 := zcnt_le (w := w) (zget_mem (Z := Z2) (i := s1) hs2)
          rw [hzs'] at h8
          have := List.count_pos_iff.mpr hin
          omega
        · exact HeapIs.fr FE hT02 (fun z => by
            rcases z with z | z | z
            · exact absurd z.1 (by decide)
            · exact hb3 _ hmr z.2.symm
            · exact absurd z.1 (by decide)) (fun z => by
            rcases z with z | z | z
            · exact absurd z.1 (by decide)
            · exact hb3 _ hmr z.2.symm
            · exact absurd z.1 (by decide)) (fun z => absurd z.1 (by decide)) (fun z => absurd z.1 (by decide)) (by
            rintro (z | z | z | z | z)
            · exact a_s2_c3 z
            · exact a_s2_t2 z
            · exact a_s2_t3 z
            · exact a_s2_m2 z
            · exact a_s2_b3 z) (by
            rintro (z | z | z | z | z)
            · exact a_s3_c3 z
            · exact a_s3_t2 z
            · exact a_s3_t3 z
            · exact a_s3_m2 z
            · exact a_s3_b3 z)⟩
  · refine vv_iconst (pc := 44) x dd_CH_deliver_44 (0) (by decide) ?_
    exact vv_zret (pc := 45) x dd_CH_deliver_45 rfl (Or.inl rfl) (by decide) (by decide) ⟨by
        have hok2 : ¬ ok2 = true := fun e9 => by rw [e9] at h41; exact absurd (show (1 : Int32) = 0 from h41) (by decide)
        rw [if_neg hok2] at hRs
        rw [← hRs]
        rfl, by
        have hok2 : ¬ ok2 = true := fun e9 => by rw [e9] at h41; exact absurd (show (1 : Int32) = 0 from h41) (by decide)
        rw [if_neg hok2] at hRs
        rw [← hRs]
        exact ⟨C20, hk38⟩⟩
end M24
