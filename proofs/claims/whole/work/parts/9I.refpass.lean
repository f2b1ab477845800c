/-! ===== the reference: pass ===== -/
section M65
variable {g : gg} {X : State → Prop} {t0 : Nat} {l : Launch} {M : mm} {M1 M2 : mm} {pw : Nat} {D : Nat → Prop} {ow sl : Nat → Nat} {mo : Nat} {Ki Ka : List Nat} {k : Nat} {pl : List Nat} {Z : zst} {B B0 : List bk} {b : bk}
set_option maxRecDepth 100000 in
set_option maxHeartbeats 1000000 in
theorem R_pass (G : gc g X t0 l) (h : MI pw D ow sl M mo pl Z) (hZ : zok pw Z) (hp6 : pw ≤ 600) (hlat : Z.2.2.1 < 2 ^ 31) (hml : ∀ P ∈ Z.1, P.2.2.2.1.length ≤ 512) {s1 r1 : Nat} (hs : s1 < Z.1.length) (hr : r1 < Z.1.length) (hne : s1 ≠ r1) {tv : Int32} (htv : vt (zget Z s1).2.2.2.2 tv) (hmr : (zget Z r1).2.2.2.1.length < 512) (Rs : Bool × zst) (hRs : zdel Z s1 r1 tv = Rs) : Ok g X l yy_Mo_pass cc_Mo_pass 7 (some .boolean) 7 162 0 0 [.ref mo, .int (nI (pl.getD s1 0)), .int tv, .int (nI (pl.getD r1 0))] M (fun v M' => v = some (.int (if Rs.1 = true then 1 else 0)) ∧ rx [4, 13, 16] [6, 7, 8, 9, 10, 11, 12, 14, 15, 17, 18, 19] mo M M' ∧ MI pw D ow sl M' mo pl Rs.2) := by
  refine ok_start (by decide) (Nat.le_of_ble_eq_true rfl) (by simp [Value.category]) ?_
  intro p e s m args below meth c9 x
  have R := h.1
  have hnm := znm hZ hlat
  have hl1 := h.2.2.1.1
  have hps : pl.getD s1 0 < 8 := h.2.2.1.2.2 _ (getD_memN (by omega))
  have hpr : pl.getD r1 0 < 8 := h.2.2.1.2.2 _ (getD_memN (by omega))
  have ks := hZ.1 _ (zget_mem hs)
  have hA5 := (h.2.2.2.1 s1 hs).2.2.2.1
  have h600 := ks.2.1.1
  have hcp : (nI (pl.getD r1 0)).toNatClampNeg = pl.getD r1 0 := nI_clamp (by omega)
  unfold zdel at hRs
  generalize hB : (zget Z s1).2.2.2.2 = B at *
  have ks2 : hok B := by rw [← hB]; exact ks.2.1
  have ks7 : hbl B := by rw [← hB]; exact ks.2.2.2.2.2.2.1
  have ks6 : hval B := by rw [← hB]; exact ks.2.2.2.2.2.1
  have hQok : qok B (led B tv) := bfs_ok (vis_ok qok_nil tv)
  have hql := qB_le hQok
  have hZ1 := zroom_ok (n := hsz (qB B (led B tv))) hZ hr
  have hfit0 := zroom_fit (Z := Z) (i := r1) (n := hsz (qB B (led B tv))) hr
  have hzl := zroom_len (Z := Z) (i := r1) (n := hsz (qB B (led B tv)))
  have hml1 := zroom_ml2 (n := hsz (qB B (led B tv))) hml hr
  have hne1 := zroom_ne (Z := Z) (i := r1) (j := s1) (n := hsz (qB B (led B tv))) hr hne
  have hmr1 := zroom_mlen (Z := Z) (i := r1) (n := hsz (qB B (led B tv))) hr
  generalize hRR : zroom Z r1 (hsz (qB B (led B tv))) = RR at *
  obtain ⟨ok2, Z1⟩ := RR
  have hZ1' : zok pw Z1 := hZ1
  have hs1 : s1 < Z1.1.length := by have hzl' : Z1.1.length = Z.1.length := hzl; omega
  have hr1 : r1 < Z1.1.length := by have hzl' : Z1.1.length = Z.1.length := hzl; omega
  have hho1 := zho hZ1' hml1
  have hne1' : zget Z1 s1 = zget Z s1 := hne1
  have hmr1' : (zget Z1 r1).2.2.2.1.length < 512 := by have : (zget Z1 r1).2.2.2.1.length = (zget Z r1).2.2.2.1.length := hmr1; omega
  have kr1 := hZ1'.1 _ (zget_mem hr1)
  have hcap1 := cap_le hZ1' hr1
  by_cases hc : (ok2, Z1).1 = true
  · rw [if_pos hc] at hRs
    have hfit : hsz (zget Z1 r1).2.2.2.2 + hsz (qB B (led B tv)) ≤ (zget Z1 r1).2.1 := hfit0 hc
    generalize hU9 : hsz (zget Z1 r1).2.2.2.2 = U at *
    subst hRs
    have hlp : ∀ (M4 : mm), MI pw D ow sl M4 mo pl Z1 → rx [4, 13, 16] [6, 7, 8, 9, 10, 11, 12, 14, 15, 17, 18, 19] mo M M4 → Rc M4 mo B (led B tv) (TT B U [] (led B tv).length 0 (led B tv)) → ∀ (n jb : Nat) (M5 : mm) (pc : pp), jb + n = (led B tv).length → rx [] [11, 12, 15] mo M4 M5 → RQ M5 mo pc → (hnd ((qB B (led B tv)).drop jb)).foldl pct pc = (hnd (qB B (led B tv))).foldl pct Z1.2.1 → (∀ x, x < (had (qB B (led B tv)) jb) → ra M5 mo 11 (600 * pl.getD r1 0 + U + x) = ra M4 mo 17 x ∧ ra M5 mo 12 (600 * pl.getD r1 0 + U + x) = ra M4 mo 18 x) → (∀ x, ¬ (600 * pl.getD r1 0 + U ≤ x ∧ x < 600 * pl.getD r1 0 + U + (had (qB B (led B tv)) jb)) → ra M5 mo 11 x = ra M4 mo 11 x ∧ ra M5 mo 12 x = ra M4 mo 12 x) → vv g 7 p l e (rm 7 162 0 0) s m args below meth c9 (MQ below (ok_Q g (fun v M' => v = some (.int (if (true, ztak Z1 r1 B tv).1 = true then 1 else 0)) ∧ rx [4, 13, 16] [6, 7, 8, 9, 10, 11, 12, 14, 15, 17, 18, 19] mo M M' ∧ MI pw D ow sl M' mo pl (true, ztak Z1 r1 B tv).2)) args s 0 0 (ok_F g)) 0 0 48 [some (.ref mo), some (.int (nI (pl.getD s1 0))), some (.int tv), some (.int (nI (pl.getD r1 0))), some (.int (nI U)), some (.int (rel B U (led B tv) tv)), some (.int (nI (had (qB B (led B tv)) jb)))] [] (M5) := by
      intro M4 h4 F4 K4 n
      have R4 := h4.1
      induction n with
      | zero =>
        intro jb M5 pc hjb F5 hRQ hfo hin5 hout5
        have R5 := F5.to R4
        have ejb : jb = (led B tv).length := by omega
        have hend : (had (qB B (led B tv)) jb) = hsz (qB B (led B tv)) := by rw [ejb, ← qB_len (B := B), had_len]
        rw [hend] at hin5 hout5 ⊢
        rw [List.drop_eq_nil_of_le (by rw [qB_len]; omega)] at hfo
        have hfo2 : pc = (hnd (qB B (led B tv))).foldl pct Z1.2.1 := hfo
        obtain ⟨⟨d1, d2, d3⟩, d4, ⟨d5, d6⟩, d7, d8⟩ := h4.2.2.2.1 r1 hr1
        rw [hU9] at d3
        have g7 : mm_a M5 (mm_f M5 7 7 mo) (pl.getD r1 0) = nI U := by show ra M5 mo 7 _ = _; rw [F5.a R4 (by decide) (by decide) (by decide)]; exact d3
        refine vv_iload (pc := 48) x dd_Mo_pass_48 rfl ?_
        refine vv_aload_n (pc := 50) x dd_Mo_pass_50 rfl ?_
        refine lg_Mo_79 (pc := 51) G x dd_Mo_pass_51 R5.2.2 ?_
        rw [show mm_i M5 7 16 mo = nI (hsz (qB B (led B tv))) from (F5.i (by simp)).trans K4.1]
        refine vv_icmp_ge (pc := 54) x dd_Mo_pass_54 (tgt := 136) (by decide) (fun h54 => ?_) (fun h54 => absurd h54 (fun z => z (nI_le (Nat.le_refl _) (by omega))))
        refine vv_aload_n (pc := 136) x dd_Mo_pass_136 rfl ?_
        refine lg_Mo_16 (pc := 137) G x dd_Mo_pass_137 R5.2.2 (R5.r 7 (by decide)) ?_
        refine vv_iload_n (pc := 140) x dd_Mo_pass_140 rfl ?_
        refine vv_dup2 (pc := 141) x dd_Mo_pass_141 rfl rfl ?_
        refine vv_iald (pc := 142) x dd_Mo_pass_142 (R5.t 7 (by decide)) (in_n (N := 8) (by omega) (R5.n 7 (by decide)) (by decide)) ?_
        rw [hcp, g7]
        refine vv_aload_n (pc := 143) x dd_Mo_pass_143 rfl ?_
        refine lg_Mo_79 (pc := 144) G x dd_Mo_pass_144 R5.2.2 ?_
        rw [show mm_i M5 7 16 mo = nI (hsz (qB B (led B tv))) from (F5.i (by simp)).trans K4.1]
        refine vv_iadd (pc := 147) x dd_Mo_pass_147 ?_
        rw [nI_add]
        refine vv_iast (pc := 148) x dd_Mo_pass_148 (R5.t 7 (by decide)) (in_n (N := 8) (by omega) (R5.n 7 (by decide)) (by decide)) ?_
        rw [hcp, show mm_sa M5 (mm_f M5 7 7 mo) (upd (mm_a M5 (mm_f M5 7 7 mo)) (pl.getD r1 0) (nI (U + hsz (qB B (led B tv))))) = mw M5 mo 7 (upd (ra M5 mo 7) (pl.getD r1 0) (nI (U + hsz (qB B (led B tv))))) from rfl]
        have FA : rx [] [7] mo M5 (mw M5 mo 7 (upd (ra M5 mo 7) (pl.getD r1 0) (nI (U + hsz (qB B (led B tv)))))) := rx_mw
        have wA : ra (mw M5 mo 7 (upd (ra M5 mo 7) (pl.getD r1 0) (nI (U + hsz (qB B (led B tv)))))) mo 7 = upd (ra M4 mo 7) (pl.getD r1 0) (nI (U + hsz (qB B (led B tv)))) := by rw [ra_mw, F5.a R4 (by decide) (by decide) (by decide)]
        generalize mw M5 mo 7 (upd (ra M5 mo 7) (pl.getD r1 0) (nI (U + hsz (qB B (led B tv))))) = N1 at *
        have R_1 := FA.to R5
        have g9 : mm_a N1 (mm_f N1 7 9 mo) (pl.getD r1 0) = nI (zget Z1 r1).2.2.2.1.length := by show ra N1 mo 9 _ = _; rw [FA.a R5 (by decide) (by decide) (by decide), F5.a R4 (by decide) (by decide) (by decide)]; exact d5
        refine vv_aload_n (pc := 149) x dd_Mo_pass_149 rfl ?_
        refine lg_Mo_25 (pc := 150) G x dd_Mo_pass_150 R_1.2.2 (R_1.r 10 (by decide)) ?_
        refine vv_sipush (pc := 153) x dd_Mo_pass_153 (520) (by decide) ?_
        refine vv_iload_n (pc := 156) x dd_Mo_pass_156 rfl ?_
        refine vv_imul (pc := 157) x dd_Mo_pass_157 ?_
        refine vv_aload_n (pc := 158) x dd_Mo_pass_158 rfl ?_
        refine lg_Mo_22 (pc := 159) G x dd_Mo_pass_159 R_1.2.2 (R_1.r 9 (by decide)) ?_
        refine vv_iload_n (pc := 162) x dd_Mo_pass_162 rfl ?_
        refine vv_iald (pc := 163) x dd_Mo_pass_163 (R_1.t 9 (by decide)) (in_n (N := 8) (by omega) (R_1.n 9 (by decide)) (by decide)) ?_
        rw [hcp, g9]
        refine vv_iadd (pc := 164) x dd_Mo_pass_164 ?_
        rw [ix520]
        refine vv_iload (pc := 165) x dd_Mo_pass_165 rfl ?_
        refine vv_iast (pc := 167) x dd_Mo_pass_167 (R_1.t 10 (by decide)) (in_n (N := 4160) (by omega) (R_1.n 10 (by decide)) (by decide)) ?_
        rw [nI_clamp (n := 520 * pl.getD r1 0 + (zget Z1 r1).2.2.2.1.length) (by omega), show mm_sa N1 (mm_f N1 7 10 mo) (upd (mm_a N1 (mm_f N1 7 10 mo)) (520 * pl.getD r1 0 + (zget Z1 r1).2.2.2.1.length) (rel B U (led B tv) tv)) = mw N1 mo 10 (upd (ra N1 mo 10) (520 * pl.getD r1 0 + (zget Z1 r1).2.2.2.1.length) (rel B U (led B tv) tv)) from rfl]
        have FB : rx [] [10] mo N1 (mw N1 mo 10 (upd (ra N1 mo 10) (520 * pl.getD r1 0 + (zget Z1 r1).2.2.2.1.length) (rel B U (led B tv) tv))) := rx_mw
        have wB : ra (mw N1 mo 10 (upd (ra N1 mo 10) (520 * pl.getD r1 0 + (zget Z1 r1).2.2.2.1.length) (rel B U (led B tv) tv))) mo 10 = upd (ra M4 mo 10) (520 * pl.getD r1 0 + (zget Z1 r1).2.2.2.1.length) (rel B U (led B tv) tv) := by rw [ra_mw, FA.a R5 (by decide) (by decide) (by decide), F5.a R4 (by decide) (by decide) (by decide)]
        generalize mw N1 mo 10 (upd (ra N1 mo 10) (520 * pl.getD r1 0 + (zget Z1 r1).2.2.2.1.length) (rel B U (led B tv) tv)) = N2 at *
        have R_2 := FB.to R_1
        have g9b : mm_a N2 (mm_f N2 7 9 mo) (pl.getD r1 0) = nI (zget Z1 r1).2.2.2.1.length := by show ra N2 mo 9 _ = _; rw [FB.a R_1 (by decide) (by decide) (by decide)]; exact g9
        refine vv_aload_n (pc := 168) x dd_Mo_pass_168 rfl ?_
        refine lg_Mo_22 (pc := 169) G x dd_Mo_pass_169 R_2.2.2 (R_2.r 9 (by decide)) ?_
        refine vv_iload_n (pc := 172) x dd_Mo_pass_172 rfl ?_
        refine vv_dup2 (pc := 173) x dd_Mo_pass_173 rfl rfl ?_
        refine vv_iald (pc := 174) x dd_Mo_pass_174 (R_2.t 9 (by decide)) (in_n (N := 8) (by omega) (R_2.n 9 (by decide)) (by decide)) ?_
        rw [hcp, g9b]
        refine vv_iconst (pc := 175) x dd_Mo_pass_175 (1) (by decide) ?_
        refine vv_iadd (pc := 176) x dd_Mo_pass_176 ?_
        rw [nI_1]
        refine vv_iast (pc := 177) x dd_Mo_pass_177 (R_2.t 9 (by decide)) (in_n (N := 8) (by omega) (R_2.n 9 (by decide)) (by decide)) ?_
        rw [hcp, show mm_sa N2 (mm_f N2 7 9 mo) (upd (mm_a N2 (mm_f N2 7 9 mo)) (pl.getD r1 0) (nI ((zget Z1 r1).2.2.2.1.length + 1))) = mw N2 mo 9 (upd (ra N2 mo 9) (pl.getD r1 0) (nI ((zget Z1 r1).2.2.2.1.length + 1))) from rfl]
        have FC : rx [] [9] mo N2 (mw N2 mo 9 (upd (ra N2 mo 9) (pl.getD r1 0) (nI ((zget Z1 r1).2.2.2.1.length + 1)))) := rx_mw
        have wC : ra (mw N2 mo 9 (upd (ra N2 mo 9) (pl.getD r1 0) (nI ((zget Z1 r1).2.2.2.1.length + 1)))) mo 9 = upd (ra M4 mo 9) (pl.getD r1 0) (nI ((zget Z1 r1).2.2.2.1.length + 1)) := by rw [ra_mw, FB.a R_1 (by decide) (by decide) (by decide), FA.a R5 (by decide) (by decide) (by decide), F5.a R4 (by decide) (by decide) (by decide)]
        generalize mw N2 mo 9 (upd (ra N2 mo 9) (pl.getD r1 0) (nI ((zget Z1 r1).2.2.2.1.length + 1))) = N3 at *
        have v3 : ∀ k, k ∈ RA → k ∉ [7, 9, 10] → ra N3 mo k = ra M5 mo k := fun k h1 h2 => by
          simp only [List.mem_cons, List.not_mem_nil, or_false, not_or] at h2
          rw [FC.a R_2 h1 (by decide) (by simpa using h2.2.1), FB.a R_1 h1 (by decide) (by simpa using h2.2.2), FA.a R5 h1 (by decide) (by simpa using h2.1)]
        have F43 : rx [16] [7, 9, 10, 11, 12, 15, 17, 18, 19] mo M4 N3 := (((F5.mono (by simp) (by decide)).trans (FA.mono (by simp) (by decide))).trans (FB.mono (by simp) (by decide))).trans (FC.mono (by simp) (by decide))
        have hfinal := MI_tak (i := r1) (B := B) (t := tv) h4 hho1 hr1 (by rw [hU9]; omega) hmr1' F43 (by rw [FC.a R_2 (by decide) (by decide) (by decide), FB.a R_1 (by decide) (by decide) (by decide), wA, hU9]) wC (by rw [FC.a R_2 (by decide) (by decide) (by decide), wB, hU9]) (W := ra M4 mo 17) (K := ra M4 mo 18) (by rw [hU9]; exact K4.2.2.1.1) (by rw [hU9]; exact K4.2.2.1.2.1) (fun x hx => by rw [v3 11 (by decide) (by decide), v3 12 (by decide) (by decide), hU9]; exact hin5 x hx) (fun x hx => by rw [v3 11 (by decide) (by decide), v3 12 (by decide) (by decide)]; rw [hU9] at hx; exact hout5 x hx) (by
          rw [← hfo2]
          exact ⟨((FC.i (by simp)).trans ((FB.i (by simp)).trans (FA.i (by simp)))).trans hRQ.1, fun w hw => by rw [v3 14 (by decide) (by decide), v3 15 (by decide) (by decide)]; exact hRQ.2 w hw⟩)
        refine vv_iconst (pc := 178) x dd_Mo_pass_178 (1) (by decide) ?_
        exact vv_zret (pc := 179) x dd_Mo_pass_179 rfl (Or.inr rfl) (by decide) (by decide) ⟨rfl, F4.trans (F43.mono (by decide) (by decide)), hfinal⟩
      | succ n ih =>
        intro jb M5 pc hjb F5 hRQ hfo hin5 hout5
        have hjl : jb < (led B tv).length := by omega
        have hqj : (led B tv).getD jb 0 < B.length := hQok.2 _ (getD_memN hjl)
        have hbk := ks2.2 _ hqj
        have hkb := bok_k hbk
        have hh1 := qB_had1 (B := B) hjl
        have hh2 : had (qB B (led B tv)) (jb + 1) ≤ hsz (qB B (led B tv)) := had_le
        have bp := bsz_pos (hb B ((led B tv).getD jb 0))
        have hTl : jb < (TT B U [] (led B tv).length 0 (led B tv)).length := by rw [T0_len]; exact hjl
        have hkd := K4.2.2.1.2.1 jb hTl
        rw [T0_had, T0_hb hjl, pb_1, pb_sz] at hkd
        have hskip : ∀ (pc : pp) (n2 jo : Nat) (M5 : mm), jo + n2 = bsz (hb B ((led B tv).getD jb 0)) → 1 ≤ jo → rx [] [11, 12, 15] mo M4 M5 → RQ M5 mo pc → (∀ x, x < ((had (qB B (led B tv)) jb) + jo) → ra M5 mo 11 (600 * pl.getD r1 0 + U + x) = ra M4 mo 17 x ∧ ra M5 mo 12 (600 * pl.getD r1 0 + U + x) = ra M4 mo 18 x) → (∀ x, ¬ (600 * pl.getD r1 0 + U ≤ x ∧ x < 600 * pl.getD r1 0 + U + ((had (qB B (led B tv)) jb) + jo)) → ra M5 mo 11 x = ra M4 mo 11 x ∧ ra M5 mo 12 x = ra M4 mo 12 x) → (∀ M5 : mm, rx [] [11, 12, 15] mo M4 M5 → RQ M5 mo pc → (∀ x, x < (had (qB B (led B tv)) (jb + 1)) → ra M5 mo 11 (600 * pl.getD r1 0 + U + x) = ra M4 mo 17 x ∧ ra M5 mo 12 (600 * pl.getD r1 0 + U + x) = ra M4 mo 18 x) → (∀ x, ¬ (600 * pl.getD r1 0 + U ≤ x ∧ x < 600 * pl.getD r1 0 + U + (had (qB B (led B tv)) (jb + 1))) → ra M5 mo 11 x = ra M4 mo 11 x ∧ ra M5 mo 12 x = ra M4 mo 12 x) → vv g 7 p l e (rm 7 162 0 0) s m args below meth c9 (MQ below (ok_Q g (fun v M' => v = some (.int (if (true, ztak Z1 r1 B tv).1 = true then 1 else 0)) ∧ rx [4, 13, 16] [6, 7, 8, 9, 10, 11, 12, 14, 15, 17, 18, 19] mo M M' ∧ MI pw D ow sl M' mo pl (true, ztak Z1 r1 B tv).2)) args s 0 0 (ok_F g)) 0 0 48 [some (.ref mo), some (.int (nI (pl.getD s1 0))), some (.int tv), some (.int (nI (pl.getD r1 0))), some (.int (nI U)), some (.int (rel B U (led B tv) tv)), some (.int (nI (had (qB B (led B tv)) (jb + 1))))] [] (M5)) → vv g 7 p l e (rm 7 162 0 0) s m args below meth c9 (MQ below (ok_Q g (fun v M' => v = some (.int (if (true, ztak Z1 r1 B tv).1 = true then 1 else 0)) ∧ rx [4, 13, 16] [6, 7, 8, 9, 10, 11, 12, 14, 15, 17, 18, 19] mo M M' ∧ MI pw D ow sl M' mo pl (true, ztak Z1 r1 B tv).2)) args s 0 0 (ok_F g)) 0 0 48 [some (.ref mo), some (.int (nI (pl.getD s1 0))), some (.int tv), some (.int (nI (pl.getD r1 0))), some (.int (nI U)), some (.int (rel B U (led B tv) tv)), some (.int (nI ((had (qB B (led B tv)) jb) + jo)))] [] (M5) := by
          intro pc n2
          induction n2 with
          | zero =>
            intro jo M5 hjo h1 F5 hRQ hin5 hout5 hk9
            rw [show (had (qB B (led B tv)) jb) + jo = had (qB B (led B tv)) (jb + 1) by omega] at hin5 hout5 ⊢
            exact hk9 M5 F5 hRQ hin5 hout5
          | succ n2 ih2 =>
            intro jo M5 hjo h1 F5 hRQ hin5 hout5 hk9
            have R5 := F5.to R4
            have hca : (nI ((had (qB B (led B tv)) jb) + jo)).toNatClampNeg = (had (qB B (led B tv)) jb) + jo := nI_clamp (by omega)
            have hcx : (nI (600 * pl.getD r1 0 + U + ((had (qB B (led B tv)) jb) + jo))).toNatClampNeg = 600 * pl.getD r1 0 + U + ((had (qB B (led B tv)) jb) + jo) := nI_clamp (by omega)
            have e17 : ra M5 mo 17 = ra M4 mo 17 := F5.a R4 (by decide) (by decide) (by decide)
            have e18 : ra M5 mo 18 = ra M4 mo 18 := F5.a R4 (by decide) (by decide) (by decide)
            have hz : ra M4 mo 18 ((had (qB B (led B tv)) jb) + jo) = 0 := hkd.2 jo (by omega) (by omega)
            refine vv_iload (pc := 48) x dd_Mo_pass_48 rfl ?_
            refine vv_aload_n (pc := 50) x dd_Mo_pass_50 rfl ?_
            refine lg_Mo_79 (pc := 51) G x dd_Mo_pass_51 R5.2.2 ?_
            rw [show mm_i M5 7 16 mo = nI (hsz (qB B (led B tv))) from (F5.i (by simp)).trans K4.1]
            refine vv_icmp_ge (pc := 54) x dd_Mo_pass_54 (tgt := 136) (by decide) (fun h54 => absurd h54 (nI_ge (by omega) (by omega))) (fun h54 => ?_)
            refine vv_aload_n (pc := 57) x dd_Mo_pass_57 rfl ?_
            refine lg_Mo_28 (pc := 58) G x dd_Mo_pass_58 R5.2.2 (R5.r 11 (by decide)) ?_
            refine vv_sipush (pc := 61) x dd_Mo_pass_61 (600) (by decide) ?_
            refine vv_iload_n (pc := 64) x dd_Mo_pass_64 rfl ?_
            refine vv_imul (pc := 65) x dd_Mo_pass_65 ?_
            refine vv_iload (pc := 66) x dd_Mo_pass_66 rfl ?_
            refine vv_iadd (pc := 68) x dd_Mo_pass_68 ?_
            rw [ix600]
            refine vv_iload (pc := 69) x dd_Mo_pass_69 rfl ?_
            refine vv_iadd (pc := 71) x dd_Mo_pass_71 ?_
            rw [nI_add]
            refine vv_aload_n (pc := 72) x dd_Mo_pass_72 rfl ?_
            refine lg_Mo_40 (pc := 73) G x dd_Mo_pass_73 R5.2.2 (R5.r 17 (by decide)) ?_
            refine vv_iload (pc := 76) x dd_Mo_pass_76 rfl ?_
            refine vv_iald (pc := 78) x dd_Mo_pass_78 (R5.t 17 (by decide)) (in_n (N := 600) (by omega) (R5.n 17 (by decide)) (by decide)) ?_
            rw [hca, show mm_a M5 (mm_f M5 7 17 mo) ((had (qB B (led B tv)) jb) + jo) = ra M4 mo 17 ((had (qB B (led B tv)) jb) + jo) from congrFun e17 _]
            refine vv_iast (pc := 79) x dd_Mo_pass_79 (R5.t 11 (by decide)) (in_n (N := 4800) (by omega) (R5.n 11 (by decide)) (by decide)) ?_
            rw [hcx, show mm_sa M5 (mm_f M5 7 11 mo) (upd (mm_a M5 (mm_f M5 7 11 mo)) (600 * pl.getD r1 0 + U + ((had (qB B (led B tv)) jb) + jo)) (ra M4 mo 17 ((had (qB B (led B tv)) jb) + jo))) = mw M5 mo 11 (upd (ra M5 mo 11) (600 * pl.getD r1 0 + U + ((had (qB B (led B tv)) jb) + jo)) (ra M4 mo 17 ((had (qB B (led B tv)) jb) + jo))) from rfl]
            have F6 : rx [] [11, 12, 15] mo M5 (mw M5 mo 11 (upd (ra M5 mo 11) (600 * pl.getD r1 0 + U + ((had (qB B (led B tv)) jb) + jo)) (ra M4 mo 17 ((had (qB B (led B tv)) jb) + jo)))) := rx_mw.mono (by simp) (by simp)
            have b11 : ra (mw M5 mo 11 (upd (ra M5 mo 11) (600 * pl.getD r1 0 + U + ((had (qB B (led B tv)) jb) + jo)) (ra M4 mo 17 ((had (qB B (led B tv)) jb) + jo)))) mo 11 = upd (ra M5 mo 11) (600 * pl.getD r1 0 + U + ((had (qB B (led B tv)) jb) + jo)) (ra M4 mo 17 ((had (qB B (led B tv)) jb) + jo)) := ra_mw
            have b12 : ra (mw M5 mo 11 (upd (ra M5 mo 11) (600 * pl.getD r1 0 + U + ((had (qB B (led B tv)) jb) + jo)) (ra M4 mo 17 ((had (qB B (led B tv)) jb) + jo)))) mo 12 = ra M5 mo 12 := ra_mw_n R5 (by decide) (by decide) (by decide)
            have b15 : ra (mw M5 mo 11 (upd (ra M5 mo 11) (600 * pl.getD r1 0 + U + ((had (qB B (led B tv)) jb) + jo)) (ra M4 mo 17 ((had (qB B (led B tv)) jb) + jo)))) mo 15 = ra M5 mo 15 := ra_mw_n R5 (by decide) (by decide) (by decide)
            generalize mw M5 mo 11 (upd (ra M5 mo 11) (600 * pl.getD r1 0 + U + ((had (qB B (led B tv)) jb) + jo)) (ra M4 mo 17 ((had (qB B (led B tv)) jb) + jo))) = M6 at *
            have R6 := F6.to R5
            have F46 := F5.trans F6
            have f17 : ra M6 mo 17 = ra M4 mo 17 := F46.a R4 (by decide) (by decide) (by decide)
            have f18 : ra M6 mo 18 = ra M4 mo 18 := F46.a R4 (by decide) (by decide) (by decide)
            refine vv_aload_n (pc := 80) x dd_Mo_pass_80 rfl ?_
            refine lg_Mo_31 (pc := 81) G x dd_Mo_pass_81 R6.2.2 (R6.r 12 (by decide)) ?_
            refine vv_sipush (pc := 84) x dd_Mo_pass_84 (600) (by decide) ?_
            refine vv_iload_n (pc := 87) x dd_Mo_pass_87 rfl ?_
            refine vv_imul (pc := 88) x dd_Mo_pass_88 ?_
            refine vv_iload (pc := 89) x dd_Mo_pass_89 rfl ?_
            refine vv_iadd (pc := 91) x dd_Mo_pass_91 ?_
            rw [ix600]
            refine vv_iload (pc := 92) x dd_Mo_pass_92 rfl ?_
            refine vv_iadd (pc := 94) x dd_Mo_pass_94 ?_
            rw [nI_add]
            refine vv_aload_n (pc := 95) x dd_Mo_pass_95 rfl ?_
            refine lg_Mo_43 (pc := 96) G x dd_Mo_pass_96 R6.2.2 (R6.r 18 (by decide)) ?_
            refine vv_iload (pc := 99) x dd_Mo_pass_99 rfl ?_
            refine vv_iald (pc := 101) x dd_Mo_pass_101 (R6.t 18 (by decide)) (in_n (N := 600) (by omega) (R6.n 18 (by decide)) (by decide)) ?_
            rw [hca, show mm_a M6 (mm_f M6 7 18 mo) ((had (qB B (led B tv)) jb) + jo) = ra M4 mo 18 ((had (qB B (led B tv)) jb) + jo) from congrFun f18 _]
            refine vv_iast (pc := 102) x dd_Mo_pass_102 (R6.t 12 (by decide)) (in_n (N := 4800) (by omega) (R6.n 12 (by decide)) (by decide)) ?_
            rw [hcx, show mm_sa M6 (mm_f M6 7 12 mo) (upd (mm_a M6 (mm_f M6 7 12 mo)) (600 * pl.getD r1 0 + U + ((had (qB B (led B tv)) jb) + jo)) (ra M4 mo 18 ((had (qB B (led B tv)) jb) + jo))) = mw M6 mo 12 (upd (ra M6 mo 12) (600 * pl.getD r1 0 + U + ((had (qB B (led B tv)) jb) + jo)) (ra M4 mo 18 ((had (qB B (led B tv)) jb) + jo))) from rfl]
            have F7 : rx [] [11, 12, 15] mo M4 (mw M6 mo 12 (upd (ra M6 mo 12) (600 * pl.getD r1 0 + U + ((had (qB B (led B tv)) jb) + jo)) (ra M4 mo 18 ((had (qB B (led B tv)) jb) + jo)))) := F46.trans (rx_mw.mono (by simp) (by simp))
            have c12 : ra (mw M6 mo 12 (upd (ra M6 mo 12) (600 * pl.getD r1 0 + U + ((had (qB B (led B tv)) jb) + jo)) (ra M4 mo 18 ((had (qB B (led B tv)) jb) + jo)))) mo 12 = upd (ra M5 mo 12) (600 * pl.getD r1 0 + U + ((had (qB B (led B tv)) jb) + jo)) (ra M4 mo 18 ((had (qB B (led B tv)) jb) + jo)) := by rw [ra_mw, b12]
            have c11 : ra (mw M6 mo 12 (upd (ra M6 mo 12) (600 * pl.getD r1 0 + U + ((had (qB B (led B tv)) jb) + jo)) (ra M4 mo 18 ((had (qB B (led B tv)) jb) + jo)))) mo 11 = upd (ra M5 mo 11) (600 * pl.getD r1 0 + U + ((had (qB B (led B tv)) jb) + jo)) (ra M4 mo 17 ((had (qB B (led B tv)) jb) + jo)) := by rw [ra_mw_n R6 (by decide) (by decide) (by decide), b11]
            have c15 : ra (mw M6 mo 12 (upd (ra M6 mo 12) (600 * pl.getD r1 0 + U + ((had (qB B (led B tv)) jb) + jo)) (ra M4 mo 18 ((had (qB B (led B tv)) jb) + jo)))) mo 15 = ra M5 mo 15 := by rw [ra_mw_n R6 (by decide) (by decide) (by decide), b15]
            generalize mw M6 mo 12 (upd (ra M6 mo 12) (600 * pl.getD r1 0 + U + ((had (qB B (led B tv)) jb) + jo)) (ra M4 mo 18 ((had (qB B (led B tv)) jb) + jo))) = M7 at *
            have R7 := F7.to R4
            have g17 : ra M7 mo 17 = ra M4 mo 17 := F7.a R4 (by decide) (by decide) (by decide)
            have g18 : ra M7 mo 18 = ra M4 mo 18 := F7.a R4 (by decide) (by decide) (by decide)
            have hin7 : ∀ x, x < (had (qB B (led B tv)) jb) + jo + 1 → ra M7 mo 11 (600 * pl.getD r1 0 + U + x) = ra M4 mo 17 x ∧ ra M7 mo 12 (600 * pl.getD r1 0 + U + x) = ra M4 mo 18 x := fun x hx => by
              rw [c11, c12]
              by_cases e9 : x = (had (qB B (led B tv)) jb) + jo
              · rw [upd_eq (by omega), upd_eq (by omega), e9]; exact ⟨rfl, rfl⟩
              · rw [upd_ne (by omega), upd_ne (by omega)]; exact hin5 x (by omega)
            have hout7 : ∀ x, ¬ (600 * pl.getD r1 0 + U ≤ x ∧ x < 600 * pl.getD r1 0 + U + ((had (qB B (led B tv)) jb) + jo + 1)) → ra M7 mo 11 x = ra M4 mo 11 x ∧ ra M7 mo 12 x = ra M4 mo 12 x := fun x hx => by
              rw [c11, c12, upd_ne (by omega), upd_ne (by omega)]; exact hout5 x (by omega)
            have hq7 : RQ M7 mo pc := ⟨((F7.i (by simp)).trans (F5.i (by simp)).symm).trans hRQ.1, fun w hw => by
              rw [c15, F7.a R4 (by decide) (by decide) (by decide), ← F5.a R4 (k := 14) (by decide) (by decide) (by decide)]; exact hRQ.2 w hw⟩
            refine vv_aload_n (pc := 103) x dd_Mo_pass_103 rfl ?_
            refine lg_Mo_43 (pc := 104) G x dd_Mo_pass_104 R7.2.2 (R7.r 18 (by decide)) ?_
            refine vv_iload (pc := 107) x dd_Mo_pass_107 rfl ?_
            refine vv_iald (pc := 109) x dd_Mo_pass_109 (R7.t 18 (by decide)) (in_n (N := 600) (by omega) (R7.n 18 (by decide)) (by decide)) ?_
            rw [hca, show mm_a M7 (mm_f M7 7 18 mo) ((had (qB B (led B tv)) jb) + jo) = ra M4 mo 18 ((had (qB B (led B tv)) jb) + jo) from congrFun g18 _]
            rw [hz]
            refine vv_iconst (pc := 110) x dd_Mo_pass_110 (5) (by decide) ?_
            refine vv_icmp_ne (pc := 111) x dd_Mo_pass_111 (tgt := 130) (by decide) (fun h111 => ?_) (fun h111 => absurd h111 (by decide))
            refine vv_iinc (pc := 130) x dd_Mo_pass_130 rfl (nI_1 ((had (qB B (led B tv)) jb) + jo)) (by decide) (ls2 := [_, _, _, _, _, _, _]) rfl ?_
            refine vv_goto (pc := 133) x dd_Mo_pass_133 (tgt := 48) (by decide) ?_
            exact ih2 (jo + 1) M7 (by omega) (by omega) F7 hq7 hin7 hout7 hk9
        have R5 := F5.to R4
        have hca : (nI ((had (qB B (led B tv)) jb))).toNatClampNeg = (had (qB B (led B tv)) jb) := nI_clamp (by omega)
        have hcx : (nI (600 * pl.getD r1 0 + U + ((had (qB B (led B tv)) jb)))).toNatClampNeg = 600 * pl.getD r1 0 + U + ((had (qB B (led B tv)) jb)) := nI_clamp (by omega)
        have e17 : ra M5 mo 17 = ra M4 mo 17 := F5.a R4 (by decide) (by decide) (by decide)
        have e18 : ra M5 mo 18 = ra M4 mo 18 := F5.a R4 (by decide) (by decide) (by decide)
        have hnd1 := hnd_drop (B := B) hjl
        by_cases h5 : (hb B ((led B tv).getD jb 0)).1 = 5
        · rw [if_pos h5] at hnd1
          rw [hnd1] at hfo
          have hfo2 : (hnd ((qB B (led B tv)).drop (jb + 1))).foldl pct (pct pc (bw B ((led B tv).getD jb 0))) = (hnd (qB B (led B tv))).foldl pct Z1.2.1 := hfo
          obtain ⟨hw1, hw2⟩ := ks7 _ hqj h5
          have hwd : ra M4 mo 17 (had (qB B (led B tv)) jb) = nI (bw B ((led B tv).getD jb 0)) := by
            have h9 := K4.2.2.1.1 jb hTl 0 (by rw [T0_hb hjl, pb_sz]; exact bp) (fun z => absurd z.2 (by decide))
            rw [T0_had, T0_hb hjl] at h9
            refine h9.trans ?_
            unfold bwd pb
            rw [if_pos h5, if_neg (by omega)]
            exact hw1
          have hcw : (nI (bw B ((led B tv).getD jb 0))).toNatClampNeg = bw B ((led B tv).getD jb 0) := nI_clamp (by omega)
          refine vv_iload (pc := 48) x dd_Mo_pass_48 rfl ?_
          refine vv_aload_n (pc := 50) x dd_Mo_pass_50 rfl ?_
          refine lg_Mo_79 (pc := 51) G x dd_Mo_pass_51 R5.2.2 ?_
          rw [show mm_i M5 7 16 mo = nI (hsz (qB B (led B tv))) from (F5.i (by simp)).trans K4.1]
          refine vv_icmp_ge (pc := 54) x dd_Mo_pass_54 (tgt := 136) (by decide) (fun h54 => absurd h54 (nI_ge (by omega) (by omega))) (fun h54 => ?_)
          refine vv_aload_n (pc := 57) x dd_Mo_pass_57 rfl ?_
          refine lg_Mo_28 (pc := 58) G x dd_Mo_pass_58 R5.2.2 (R5.r 11 (by decide)) ?_
          refine vv_sipush (pc := 61) x dd_Mo_pass_61 (600) (by decide) ?_
          refine vv_iload_n (pc := 64) x dd_Mo_pass_64 rfl ?_
          refine vv_imul (pc := 65) x dd_Mo_pass_65 ?_
          refine vv_iload (pc := 66) x dd_Mo_pass_66 rfl ?_
          refine vv_iadd (pc := 68) x dd_Mo_pass_68 ?_
          rw [ix600]
          refine vv_iload (pc := 69) x dd_Mo_pass_69 rfl ?_
          refine vv_iadd (pc := 71) x dd_Mo_pass_71 ?_
          rw [nI_add]
          refine vv_aload_n (pc := 72) x dd_Mo_pass_72 rfl ?_
          refine lg_Mo_40 (pc := 73) G x dd_Mo_pass_73 R5.2.2 (R5.r 17 (by decide)) ?_
          refine vv_iload (pc := 76) x dd_Mo_pass_76 rfl ?_
          refine vv_iald (pc := 78) x dd_Mo_pass_78 (R5.t 17 (by decide)) (in_n (N := 600) (by omega) (R5.n 17 (by decide)) (by decide)) ?_
          rw [hca, show mm_a M5 (mm_f M5 7 17 mo) ((had (qB B (led B tv)) jb)) = ra M4 mo 17 ((had (qB B (led B tv)) jb)) from congrFun e17 _]
          refine vv_iast (pc := 79) x dd_Mo_pass_79 (R5.t 11 (by decide)) (in_n (N := 4800) (by omega) (R5.n 11 (by decide)) (by decide)) ?_
          rw [hcx, show mm_sa M5 (mm_f M5 7 11 mo) (upd (mm_a M5 (mm_f M5 7 11 mo)) (600 * pl.getD r1 0 + U + ((had (qB B (led B tv)) jb))) (ra M4 mo 17 ((had (qB B (led B tv)) jb)))) = mw M5 mo 11 (upd (ra M5 mo 11) (600 * pl.getD r1 0 + U + ((had (qB B (led B tv)) jb))) (ra M4 mo 17 ((had (qB B (led B tv)) jb)))) from rfl]
          have F6 : rx [] [11, 12, 15] mo M5 (mw M5 mo 11 (upd (ra M5 mo 11) (600 * pl.getD r1 0 + U + ((had (qB B (led B tv)) jb))) (ra M4 mo 17 ((had (qB B (led B tv)) jb))))) := rx_mw.mono (by simp) (by simp)
          have b11 : ra (mw M5 mo 11 (upd (ra M5 mo 11) (600 * pl.getD r1 0 + U + ((had (qB B (led B tv)) jb))) (ra M4 mo 17 ((had (qB B (led B tv)) jb))))) mo 11 = upd (ra M5 mo 11) (600 * pl.getD r1 0 + U + ((had (qB B (led B tv)) jb))) (ra M4 mo 17 ((had (qB B (led B tv)) jb))) := ra_mw
          have b12 : ra (mw M5 mo 11 (upd (ra M5 mo 11) (600 * pl.getD r1 0 + U + ((had (qB B (led B tv)) jb))) (ra M4 mo 17 ((had (qB B (led B tv)) jb))))) mo 12 = ra M5 mo 12 := ra_mw_n R5 (by decide) (by decide) (by decide)
          have b15 : ra (mw M5 mo 11 (upd (ra M5 mo 11) (600 * pl.getD r1 0 + U + ((had (qB B (led B tv)) jb))) (ra M4 mo 17 ((had (qB B (led B tv)) jb))))) mo 15 = ra M5 mo 15 := ra_mw_n R5 (by decide) (by decide) (by decide)
          generalize mw M5 mo 11 (upd (ra M5 mo 11) (600 * pl.getD r1 0 + U + ((had (qB B (led B tv)) jb))) (ra M4 mo 17 ((had (qB B (led B tv)) jb)))) = M6 at *
          have R6 := F6.to R5
          have F46 := F5.trans F6
          have f17 : ra M6 mo 17 = ra M4 mo 17 := F46.a R4 (by decide) (by decide) (by decide)
          have f18 : ra M6 mo 18 = ra M4 mo 18 := F46.a R4 (by decide) (by decide) (by decide)
          refine vv_aload_n (pc := 80) x dd_Mo_pass_80 rfl ?_
          refine lg_Mo_31 (pc := 81) G x dd_Mo_pass_81 R6.2.2 (R6.r 12 (by decide)) ?_
          refine vv_sipush (pc := 84) x dd_Mo_pass_84 (600) (by decide) ?_
          refine vv_iload_n (pc := 87) x dd_Mo_pass_87 rfl ?_
          refine vv_imul (pc := 88) x dd_Mo_pass_88 ?_
          refine vv_iload (pc := 89) x dd_Mo_pass_89 rfl ?_
          refine vv_iadd (pc := 91) x dd_Mo_pass_91 ?_
          rw [ix600]
          refine vv_iload (pc := 92) x dd_Mo_pass_92 rfl ?_
          refine vv_iadd (pc := 94) x dd_Mo_pass_94 ?_
          rw [nI_add]
          refine vv_aload_n (pc := 95) x dd_Mo_pass_95 rfl ?_
          refine lg_Mo_43 (pc := 96) G x dd_Mo_pass_96 R6.2.2 (R6.r 18 (by decide)) ?_
          refine vv_iload (pc := 99) x dd_Mo_pass_99 rfl ?_
          refine vv_iald (pc := 101) x dd_Mo_pass_101 (R6.t 18 (by decide)) (in_n (N := 600) (by omega) (R6.n 18 (by decide)) (by decide)) ?_
          rw [hca, show mm_a M6 (mm_f M6 7 18 mo) ((had (qB B (led B tv)) jb)) = ra M4 mo 18 ((had (qB B (led B tv)) jb)) from congrFun f18 _]
          refine vv_iast (pc := 102) x dd_Mo_pass_102 (R6.t 12 (by decide)) (in_n (N := 4800) (by omega) (R6.n 12 (by decide)) (by decide)) ?_
          rw [hcx, show mm_sa M6 (mm_f M6 7 12 mo) (upd (mm_a M6 (mm_f M6 7 12 mo)) (600 * pl.getD r1 0 + U + ((had (qB B (led B tv)) jb))) (ra M4 mo 18 ((had (qB B (led B tv)) jb)))) = mw M6 mo 12 (upd (ra M6 mo 12) (600 * pl.getD r1 0 + U + ((had (qB B (led B tv)) jb))) (ra M4 mo 18 ((had (qB B (led B tv)) jb)))) from rfl]
          have F7 : rx [] [11, 12, 15] mo M4 (mw M6 mo 12 (upd (ra M6 mo 12) (600 * pl.getD r1 0 + U + ((had (qB B (led B tv)) jb))) (ra M4 mo 18 ((had (qB B (led B tv)) jb))))) := F46.trans (rx_mw.mono (by simp) (by simp))
          have c12 : ra (mw M6 mo 12 (upd (ra M6 mo 12) (600 * pl.getD r1 0 + U + ((had (qB B (led B tv)) jb))) (ra M4 mo 18 ((had (qB B (led B tv)) jb))))) mo 12 = upd (ra M5 mo 12) (600 * pl.getD r1 0 + U + ((had (qB B (led B tv)) jb))) (ra M4 mo 18 ((had (qB B (led B tv)) jb))) := by rw [ra_mw, b12]
          have c11 : ra (mw M6 mo 12 (upd (ra M6 mo 12) (600 * pl.getD r1 0 + U + ((had (qB B (led B tv)) jb))) (ra M4 mo 18 ((had (qB B (led B tv)) jb))))) mo 11 = upd (ra M5 mo 11) (600 * pl.getD r1 0 + U + ((had (qB B (led B tv)) jb))) (ra M4 mo 17 ((had (qB B (led B tv)) jb))) := by rw [ra_mw_n R6 (by decide) (by decide) (by decide), b11]
          have c15 : ra (mw M6 mo 12 (upd (ra M6 mo 12) (600 * pl.getD r1 0 + U + ((had (qB B (led B tv)) jb))) (ra M4 mo 18 ((had (qB B (led B tv)) jb))))) mo 15 = ra M5 mo 15 := by rw [ra_mw_n R6 (by decide) (by decide) (by decide), b15]
          generalize mw M6 mo 12 (upd (ra M6 mo 12) (600 * pl.getD r1 0 + U + ((had (qB B (led B tv)) jb))) (ra M4 mo 18 ((had (qB B (led B tv)) jb)))) = M7 at *
          have R7 := F7.to R4
          have g17 : ra M7 mo 17 = ra M4 mo 17 := F7.a R4 (by decide) (by decide) (by decide)
          have g18 : ra M7 mo 18 = ra M4 mo 18 := F7.a R4 (by decide) (by decide) (by decide)
          have hin7 : ∀ x, x < (had (qB B (led B tv)) jb) + 1 → ra M7 mo 11 (600 * pl.getD r1 0 + U + x) = ra M4 mo 17 x ∧ ra M7 mo 12 (600 * pl.getD r1 0 + U + x) = ra M4 mo 18 x := fun x hx => by
            rw [c11, c12]
            by_cases e9 : x = (had (qB B (led B tv)) jb)
            · rw [upd_eq (by omega), upd_eq (by omega), e9]; exact ⟨rfl, rfl⟩
            · rw [upd_ne (by omega), upd_ne (by omega)]; exact hin5 x (by omega)
          have hout7 : ∀ x, ¬ (600 * pl.getD r1 0 + U ≤ x ∧ x < 600 * pl.getD r1 0 + U + ((had (qB B (led B tv)) jb) + 1)) → ra M7 mo 11 x = ra M4 mo 11 x ∧ ra M7 mo 12 x = ra M4 mo 12 x := fun x hx => by
            rw [c11, c12, upd_ne (by omega), upd_ne (by omega)]; exact hout5 x (by omega)
          have hq7 : RQ M7 mo pc := ⟨((F7.i (by simp)).trans (F5.i (by simp)).symm).trans hRQ.1, fun w hw => by
            rw [c15, F7.a R4 (by decide) (by decide) (by decide), ← F5.a R4 (k := 14) (by decide) (by decide) (by decide)]; exact hRQ.2 w hw⟩
          refine vv_aload_n (pc := 103) x dd_Mo_pass_103 rfl ?_
          refine lg_Mo_43 (pc := 104) G x dd_Mo_pass_104 R7.2.2 (R7.r 18 (by decide)) ?_
          refine vv_iload (pc := 107) x dd_Mo_pass_107 rfl ?_
          refine vv_iald (pc := 109) x dd_Mo_pass_109 (R7.t 18 (by decide)) (in_n (N := 600) (by omega) (R7.n 18 (by decide)) (by decide)) ?_
          rw [hca, show mm_a M7 (mm_f M7 7 18 mo) ((had (qB B (led B tv)) jb)) = ra M4 mo 18 ((had (qB B (led B tv)) jb)) from congrFun g18 _]
          rw [hkd.1, show nI (hb B ((led B tv).getD jb 0)).1 = nI 5 from by rw [h5]]
          refine vv_iconst (pc := 110) x dd_Mo_pass_110 (5) (by decide) ?_
          refine vv_icmp_ne (pc := 111) x dd_Mo_pass_111 (tgt := 130) (by decide) (fun h111 => absurd h111 (fun z => z rfl)) (fun h111 => ?_)
          refine vv_aload_n (pc := 114) x dd_Mo_pass_114 rfl ?_
          refine lg_Mo_37 (pc := 115) G x dd_Mo_pass_115 R7.2.2 (R7.r 15 (by decide)) ?_
          refine vv_aload_n (pc := 118) x dd_Mo_pass_118 rfl ?_
          refine lg_Mo_40 (pc := 119) G x dd_Mo_pass_119 R7.2.2 (R7.r 17 (by decide)) ?_
          refine vv_iload (pc := 122) x dd_Mo_pass_122 rfl ?_
          refine vv_iald (pc := 124) x dd_Mo_pass_124 (R7.t 17 (by decide)) (in_n (N := 600) (by omega) (R7.n 17 (by decide)) (by decide)) ?_
          rw [hca, show mm_a M7 (mm_f M7 7 17 mo) (had (qB B (led B tv)) jb) = nI (bw B ((led B tv).getD jb 0)) from (congrFun g17 _).trans hwd]
          refine vv_dup2 (pc := 125) x dd_Mo_pass_125 rfl rfl ?_
          refine vv_iald (pc := 126) x dd_Mo_pass_126 (R7.t 15 (by decide)) (in_n (N := 30) (by omega) (R7.n 15 (by decide)) (by decide)) ?_
          rw [hcw, show mm_a M7 (mm_f M7 7 15 mo) (bw B ((led B tv).getD jb 0)) = nI (pc.2.2.2 (bw B ((led B tv).getD jb 0))) from (hq7.2 _ hw2).2]
          refine vv_iconst (pc := 127) x dd_Mo_pass_127 (1) (by decide) ?_
          refine vv_iadd (pc := 128) x dd_Mo_pass_128 ?_
          rw [nI_1]
          refine vv_iast (pc := 129) x dd_Mo_pass_129 (R7.t 15 (by decide)) (in_n (N := 30) (by omega) (R7.n 15 (by decide)) (by decide)) ?_
          rw [hcw, show mm_sa M7 (mm_f M7 7 15 mo) (upd (mm_a M7 (mm_f M7 7 15 mo)) (bw B ((led B tv).getD jb 0)) (nI (pc.2.2.2 (bw B ((led B tv).getD jb 0)) + 1))) = mw M7 mo 15 (upd (ra M7 mo 15) (bw B ((led B tv).getD jb 0)) (nI (pc.2.2.2 (bw B ((led B tv).getD jb 0)) + 1))) from rfl]
          have F8 : rx [] [11, 12, 15] mo M4 (mw M7 mo 15 (upd (ra M7 mo 15) (bw B ((led B tv).getD jb 0)) (nI (pc.2.2.2 (bw B ((led B tv).getD jb 0)) + 1)))) := F7.trans (rx_mw.mono (by simp) (by simp))
          have x15 : ra (mw M7 mo 15 (upd (ra M7 mo 15) (bw B ((led B tv).getD jb 0)) (nI (pc.2.2.2 (bw B ((led B tv).getD jb 0)) + 1)))) mo 15 = upd (ra M7 mo 15) (bw B ((led B tv).getD jb 0)) (nI (pc.2.2.2 (bw B ((led B tv).getD jb 0)) + 1)) := ra_mw
          have x11 : ra (mw M7 mo 15 (upd (ra M7 mo 15) (bw B ((led B tv).getD jb 0)) (nI (pc.2.2.2 (bw B ((led B tv).getD jb 0)) + 1)))) mo 11 = ra M7 mo 11 := ra_mw_n R7 (by decide) (by decide) (by decide)
          have x12 : ra (mw M7 mo 15 (upd (ra M7 mo 15) (bw B ((led B tv).getD jb 0)) (nI (pc.2.2.2 (bw B ((led B tv).getD jb 0)) + 1)))) mo 12 = ra M7 mo 12 := ra_mw_n R7 (by decide) (by decide) (by decide)
          generalize mw M7 mo 15 (upd (ra M7 mo 15) (bw B ((led B tv).getD jb 0)) (nI (pc.2.2.2 (bw B ((led B tv).getD jb 0)) + 1))) = M8 at *
          have hq8 : RQ M8 mo (pct pc (bw B ((led B tv).getD jb 0))) := ⟨((F8.i (by simp)).trans (F7.i (by simp)).symm).trans hq7.1, fun w hw => by
            rw [x15, F8.a R4 (by decide) (by decide) (by decide), ← F7.a R4 (k := 14) (by decide) (by decide) (by decide)]
            refine ⟨(hq7.2 w hw).1, ?_⟩
            show _ = nI (un pc.2.2.2 (bw B ((led B tv).getD jb 0)) (pc.2.2.2 (bw B ((led B tv).getD jb 0)) + 1) w)
            by_cases e9 : w = bw B ((led B tv).getD jb 0)
            · rw [upd_eq e9, e9, un_s]
            · rw [upd_ne e9, un_n e9]; exact (hq7.2 w hw).2⟩
          refine vv_iinc (pc := 130) x dd_Mo_pass_130 rfl (nI_1 (had (qB B (led B tv)) jb)) (by decide) (ls2 := [_, _, _, _, _, _, _]) rfl ?_
          refine vv_goto (pc := 133) x dd_Mo_pass_133 (tgt := 48) (by decide) ?_
          exact hskip (pct pc (bw B ((led B tv).getD jb 0))) (bsz (hb B ((led B tv).getD jb 0)) - 1) 1 M8 (by omega) (by omega) F8 hq8 (by rw [x11, x12]; exact hin7) (by rw [x11, x12]; exact hout7) (fun M9 F9 q9 i9 o9 => ih (jb + 1) M9 (pct pc (bw B ((led B tv).getD jb 0))) (by omega) F9 q9 hfo2 i9 o9)
        · rw [if_neg h5, List.nil_append] at hnd1
          rw [hnd1] at hfo
          refine vv_iload (pc := 48) x dd_Mo_pass_48 rfl ?_
          refine vv_aload_n (pc := 50) x dd_Mo_pass_50 rfl ?_
          refine lg_Mo_79 (pc := 51) G x dd_Mo_pass_51 R5.2.2 ?_
          rw [show mm_i M5 7 16 mo = nI (hsz (qB B (led B tv))) from (F5.i (by simp)).trans K4.1]
          refine vv_icmp_ge (pc := 54) x dd_Mo_pass_54 (tgt := 136) (by decide) (fun h54 => absurd h54 (nI_ge (by omega) (by omega))) (fun h54 => ?_)
          refine vv_aload_n (pc := 57) x dd_Mo_pass_57 rfl ?_
          refine lg_Mo_28 (pc := 58) G x dd_Mo_pass_58 R5.2.2 (R5.r 11 (by decide)) ?_
          refine vv_sipush (pc := 61) x dd_Mo_pass_61 (600) (by decide) ?_
          refine vv_iload_n (pc := 64) x dd_Mo_pass_64 rfl ?_
          refine vv_imul (pc := 65) x dd_Mo_pass_65 ?_
          refine vv_iload (pc := 66) x dd_Mo_pass_66 rfl ?_
          refine vv_iadd (pc := 68) x dd_Mo_pass_68 ?_
          rw [ix600]
          refine vv_iload (pc := 69) x dd_Mo_pass_69 rfl ?_
          refine vv_iadd (pc := 71) x dd_Mo_pass_71 ?_
          rw [nI_add]
          refine vv_aload_n (pc := 72) x dd_Mo_pass_72 rfl ?_
          refine lg_Mo_40 (pc := 73) G x dd_Mo_pass_73 R5.2.2 (R5.r 17 (by decide)) ?_
          refine vv_iload (pc := 76) x dd_Mo_pass_76 rfl ?_
          refine vv_iald (pc := 78) x dd_Mo_pass_78 (R5.t 17 (by decide)) (in_n (N := 600) (by omega) (R5.n 17 (by decide)) (by decide)) ?_
          rw [hca, show mm_a M5 (mm_f M5 7 17 mo) ((had (qB B (led B tv)) jb)) = ra M4 mo 17 ((had (qB B (led B tv)) jb)) from congrFun e17 _]
          refine vv_iast (pc := 79) x dd_Mo_pass_79 (R5.t 11 (by decide)) (in_n (N := 4800) (by omega) (R5.n 11 (by decide)) (by decide)) ?_
          rw [hcx, show mm_sa M5 (mm_f M5 7 11 mo) (upd (mm_a M5 (mm_f M5 7 11 mo)) (600 * pl.getD r1 0 + U + ((had (qB B (led B tv)) jb))) (ra M4 mo 17 ((had (qB B (led B tv)) jb)))) = mw M5 mo 11 (upd (ra M5 mo 11) (600 * pl.getD r1 0 + U + ((had (qB B (led B tv)) jb))) (ra M4 mo 17 ((had (qB B (led B tv)) jb)))) from rfl]
          have F6 : rx [] [11, 12, 15] mo M5 (mw M5 mo 11 (upd (ra M5 mo 11) (600 * pl.getD r1 0 + U + ((had (qB B (led B tv)) jb))) (ra M4 mo 17 ((had (qB B (led B tv)) jb))))) := rx_mw.mono (by simp) (by simp)
          have b11 : ra (mw M5 mo 11 (upd (ra M5 mo 11) (600 * pl.getD r1 0 + U + ((had (qB B (led B tv)) jb))) (ra M4 mo 17 ((had (qB B (led B tv)) jb))))) mo 11 = upd (ra M5 mo 11) (600 * pl.getD r1 0 + U + ((had (qB B (led B tv)) jb))) (ra M4 mo 17 ((had (qB B (led B tv)) jb))) := ra_mw
          have b12 : ra (mw M5 mo 11 (upd (ra M5 mo 11) (600 * pl.getD r1 0 + U + ((had (qB B (led B tv)) jb))) (ra M4 mo 17 ((had (qB B (led B tv)) jb))))) mo 12 = ra M5 mo 12 := ra_mw_n R5 (by decide) (by decide) (by decide)
          have b15 : ra (mw M5 mo 11 (upd (ra M5 mo 11) (600 * pl.getD r1 0 + U + ((had (qB B (led B tv)) jb))) (ra M4 mo 17 ((had (qB B (led B tv)) jb))))) mo 15 = ra M5 mo 15 := ra_mw_n R5 (by decide) (by decide) (by decide)
          generalize mw M5 mo 11 (upd (ra M5 mo 11) (600 * pl.getD r1 0 + U + ((had (qB B (led B tv)) jb))) (ra M4 mo 17 ((had (qB B (led B tv)) jb)))) = M6 at *
          have R6 := F6.to R5
          have F46 := F5.trans F6
          have f17 : ra M6 mo 17 = ra M4 mo 17 := F46.a R4 (by decide) (by decide) (by decide)
          have f18 : ra M6 mo 18 = ra M4 mo 18 := F46.a R4 (by decide) (by decide) (by decide)
          refine vv_aload_n (pc := 80) x dd_Mo_pass_80 rfl ?_
          refine lg_Mo_31 (pc := 81) G x dd_Mo_pass_81 R6.2.2 (R6.r 12 (by decide)) ?_
          refine vv_sipush (pc := 84) x dd_Mo_pass_84 (600) (by decide) ?_
          refine vv_iload_n (pc := 87) x dd_Mo_pass_87 rfl ?_
          refine vv_imul (pc := 88) x dd_Mo_pass_88 ?_
          refine vv_iload (pc := 89) x dd_Mo_pass_89 rfl ?_
          refine vv_iadd (pc := 91) x dd_Mo_pass_91 ?_
          rw [ix600]
          refine vv_iload (pc := 92) x dd_Mo_pass_92 rfl ?_
          refine vv_iadd (pc := 94) x dd_Mo_pass_94 ?_
          rw [nI_add]
          refine vv_aload_n (pc := 95) x dd_Mo_pass_95 rfl ?_
          refine lg_Mo_43 (pc := 96) G x dd_Mo_pass_96 R6.2.2 (R6.r 18 (by decide)) ?_
          refine vv_iload (pc := 99) x dd_Mo_pass_99 rfl ?_
          refine vv_iald (pc := 101) x dd_Mo_pass_101 (R6.t 18 (by decide)) (in_n (N := 600) (by omega) (R6.n 18 (by decide)) (by decide)) ?_
          rw [hca, show mm_a M6 (mm_f M6 7 18 mo) ((had (qB B (led B tv)) jb)) = ra M4 mo 18 ((had (qB B (led B tv)) jb)) from congrFun f18 _]
          refine vv_iast (pc := 102) x dd_Mo_pass_102 (R6.t 12 (by decide)) (in_n (N := 4800) (by omega) (R6.n 12 (by decide)) (by decide)) ?_
          rw [hcx, show mm_sa M6 (mm_f M6 7 12 mo) (upd (mm_a M6 (mm_f M6 7 12 mo)) (600 * pl.getD r1 0 + U + ((had (qB B (led B tv)) jb))) (ra M4 mo 18 ((had (qB B (led B tv)) jb)))) = mw M6 mo 12 (upd (ra M6 mo 12) (600 * pl.getD r1 0 + U + ((had (qB B (led B tv)) jb))) (ra M4 mo 18 ((had (qB B (led B tv)) jb)))) from rfl]
          have F7 : rx [] [11, 12, 15] mo M4 (mw M6 mo 12 (upd (ra M6 mo 12) (600 * pl.getD r1 0 + U + ((had (qB B (led B tv)) jb))) (ra M4 mo 18 ((had (qB B (led B tv)) jb))))) := F46.trans (rx_mw.mono (by simp) (by simp))
          have c12 : ra (mw M6 mo 12 (upd (ra M6 mo 12) (600 * pl.getD r1 0 + U + ((had (qB B (led B tv)) jb))) (ra M4 mo 18 ((had (qB B (led B tv)) jb))))) mo 12 = upd (ra M5 mo 12) (600 * pl.getD r1 0 + U + ((had (qB B (led B tv)) jb))) (ra M4 mo 18 ((had (qB B (led B tv)) jb))) := by rw [ra_mw, b12]
          have c11 : ra (mw M6 mo 12 (upd (ra M6 mo 12) (600 * pl.getD r1 0 + U + ((had (qB B (led B tv)) jb))) (ra M4 mo 18 ((had (qB B (led B tv)) jb))))) mo 11 = upd (ra M5 mo 11) (600 * pl.getD r1 0 + U + ((had (qB B (led B tv)) jb))) (ra M4 mo 17 ((had (qB B (led B tv)) jb))) := by rw [ra_mw_n R6 (by decide) (by decide) (by decide), b11]
          have c15 : ra (mw M6 mo 12 (upd (ra M6 mo 12) (600 * pl.getD r1 0 + U + ((had (qB B (led B tv)) jb))) (ra M4 mo 18 ((had (qB B (led B tv)) jb))))) mo 15 = ra M5 mo 15 := by rw [ra_mw_n R6 (by decide) (by decide) (by decide), b15]
          generalize mw M6 mo 12 (upd (ra M6 mo 12) (600 * pl.getD r1 0 + U + ((had (qB B (led B tv)) jb))) (ra M4 mo 18 ((had (qB B (led B tv)) jb)))) = M7 at *
          have R7 := F7.to R4
          have g17 : ra M7 mo 17 = ra M4 mo 17 := F7.a R4 (by decide) (by decide) (by decide)
          have g18 : ra M7 mo 18 = ra M4 mo 18 := F7.a R4 (by decide) (by decide) (by decide)
          have hin7 : ∀ x, x < (had (qB B (led B tv)) jb) + 1 → ra M7 mo 11 (600 * pl.getD r1 0 + U + x) = ra M4 mo 17 x ∧ ra M7 mo 12 (600 * pl.getD r1 0 + U + x) = ra M4 mo 18 x := fun x hx => by
            rw [c11, c12]
            by_cases e9 : x = (had (qB B (led B tv)) jb)
            · rw [upd_eq (by omega), upd_eq (by omega), e9]; exact ⟨rfl, rfl⟩
            · rw [upd_ne (by omega), upd_ne (by omega)]; exact hin5 x (by omega)
          have hout7 : ∀ x, ¬ (600 * pl.getD r1 0 + U ≤ x ∧ x < 600 * pl.getD r1 0 + U + ((had (qB B (led B tv)) jb) + 1)) → ra M7 mo 11 x = ra M4 mo 11 x ∧ ra M7 mo 12 x = ra M4 mo 12 x := fun x hx => by
            rw [c11, c12, upd_ne (by omega), upd_ne (by omega)]; exact hout5 x (by omega)
          have hq7 : RQ M7 mo pc := ⟨((F7.i (by simp)).trans (F5.i (by simp)).symm).trans hRQ.1, fun w hw => by
            rw [c15, F7.a R4 (by decide) (by decide) (by decide), ← F5.a R4 (k := 14) (by decide) (by decide) (by decide)]; exact hRQ.2 w hw⟩
          refine vv_aload_n (pc := 103) x dd_Mo_pass_103 rfl ?_
          refine lg_Mo_43 (pc := 104) G x dd_Mo_pass_104 R7.2.2 (R7.r 18 (by decide)) ?_
          refine vv_iload (pc := 107) x dd_Mo_pass_107 rfl ?_
          refine vv_iald (pc := 109) x dd_Mo_pass_109 (R7.t 18 (by decide)) (in_n (N := 600) (by omega) (R7.n 18 (by decide)) (by decide)) ?_
          rw [hca, show mm_a M7 (mm_f M7 7 18 mo) ((had (qB B (led B tv)) jb)) = ra M4 mo 18 ((had (qB B (led B tv)) jb)) from congrFun g18 _]
          rw [hkd.1]
          refine vv_iconst (pc := 110) x dd_Mo_pass_110 (5) (by decide) ?_
          refine vv_icmp_ne (pc := 111) x dd_Mo_pass_111 (tgt := 130) (by decide) (fun h111 => ?_) (fun h111 => absurd h111 (fun z => h5 ((nI_eq (b := 5) (by omega) (by decide)).mp z)))
          refine vv_iinc (pc := 130) x dd_Mo_pass_130 rfl (nI_1 (had (qB B (led B tv)) jb)) (by decide) (ls2 := [_, _, _, _, _, _, _]) rfl ?_
          refine vv_goto (pc := 133) x dd_Mo_pass_133 (tgt := 48) (by decide) ?_
          exact hskip pc (bsz (hb B ((led B tv).getD jb 0)) - 1) 1 M7 (by omega) (by omega) F7 hq7 hin7 hout7 (fun M9 F9 q9 i9 o9 => ih (jb + 1) M9 pc (by omega) F9 q9 hfo i9 o9)
    refine vv_aload_n (pc := 0) x dd_Mo_pass_0 rfl ?_
    refine vv_iload_n (pc := 1) x dd_Mo_pass_1 rfl ?_
    refine vv_aload_n (pc := 2) x dd_Mo_pass_2 rfl ?_
    refine vv_iload_n (pc := 3) x dd_Mo_pass_3 rfl ?_
    refine vv_iload_n (pc := 4) x dd_Mo_pass_4 rfl ?_
    refine lv_Mo_138 (pc := 5) G x dd_Mo_pass_5 (R_reach G R ks2 hps hA5 ks6 htv) R.2.2 ⟨by decide, by decide⟩ (by decide) (by decide) (Nat.le_of_ble_eq_true rfl) (fun v5 M5 q5 => ?_)
    obtain ⟨rfl, F5⟩ := q5
    have h5 := MI_scr h (F5.mono (by decide) (by decide))
    have R5 := h5.1
    refine lv_Mo_128 (pc := 8) G x dd_Mo_pass_8 (R_room (n := hsz (qB B (led B tv))) G h5 hZ hp6 hlat hml hr (by omega) (ok2, Z1) hRR) R5.2.2 ⟨by decide, by decide⟩ (by decide) (by decide) (Nat.le_of_ble_eq_true rfl) (fun v8 M8 q8 => ?_)
    obtain ⟨rfl, F8, h8⟩ := q8
    have R8 := h8.1
    have F58 : rx [4, 13, 16] [6, 7, 8, 9, 10, 11, 12, 14, 15, 17, 18, 19] mo M M8 := (F5.mono (by decide) (by decide)).trans (F8.mono (by decide) (by decide))
    rw [show (if (ok2, Z1).1 = true then (1 : Int32) else 0) = 1 from if_pos hc]
    refine vv_if_ne (pc := 11) x dd_Mo_pass_11 (tgt := 16) (by decide) (fun h11 => ?_) (fun h11 => absurd h11 (by decide))
    refine vv_aload_n (pc := 16) x dd_Mo_pass_16 rfl ?_
    refine lv_Mo_96 (pc := 17) G x dd_Mo_pass_17 (k_rbegin G R8) R8.2.2 ⟨by decide, by decide⟩ (by decide) (by decide) (Nat.le_of_ble_eq_true rfl) (fun v17 M17 q17 => ?_)
    obtain ⟨rfl, F17, h16, hA17⟩ := q17
    have h17 := MI_scr h8 (F17.mono (by decide) (by decide))
    have R17 := h17.1
    have K0 := Rc_nil h16 hA17 ks2
    have gU : mm_a M17 (mm_f M17 7 7 mo) (pl.getD r1 0) = nI U := by rw [← hU9]; exact (h17.2.2.2.1 r1 hr1).1.2.2
    have hws : wv B (fun a => ra M17 mo 11 (600 * pl.getD s1 0 + a)) := by rw [← hB, ← hne1']; exact (h17.2.2.2.1 s1 hs1).2.2.2.1
    refine vv_aload_n (pc := 20) x dd_Mo_pass_20 rfl ?_
    refine lg_Mo_16 (pc := 21) G x dd_Mo_pass_21 R17.2.2 (R17.r 7 (by decide)) ?_
    refine vv_iload_n (pc := 24) x dd_Mo_pass_24 rfl ?_
    refine vv_iald (pc := 25) x dd_Mo_pass_25 (R17.t 7 (by decide)) (in_n (N := 8) (by omega) (R17.n 7 (by decide)) (by decide)) ?_
    rw [hcp, gU]
    refine vv_istore (pc := 26) x dd_Mo_pass_26 (by decide) (ls2 := [_, _, _, _, _, none, none]) rfl ?_
    refine vv_aload_n (pc := 28) x dd_Mo_pass_28 rfl ?_
    refine vv_iload_n (pc := 29) x dd_Mo_pass_29 rfl ?_
    refine vv_iload_n (pc := 30) x dd_Mo_pass_30 rfl ?_
    refine vv_iload (pc := 31) x dd_Mo_pass_31 rfl ?_
    refine lv_Mo_89 (pc := 33) G x dd_Mo_pass_33 (R_put (fw := U) G R17 ks2 hps hws K0 htv) R17.2.2 ⟨by decide, by decide⟩ (by decide) (by decide) (Nat.le_of_ble_eq_true rfl) (fun v33 M33 q33 => ?_)
    obtain ⟨rfl, F33, K33⟩ := q33
    have h33 := MI_scr h17 (F33.mono (by decide) (by decide))
    have R33 := h33.1
    have K33' : Rc M33 mo B (vis B [] tv) (qB B (vis B [] tv)) := K33
    have hws2 : wv B (fun a => ra M33 mo 11 (600 * pl.getD s1 0 + a)) := by rw [F33.a R17 (by decide) (by decide) (by decide)]; exact hws
    rw [show rel B U (vis B [] tv) tv = rel B U (led B tv) tv from rel_pre (by
      obtain ⟨r9, e9⟩ := bfs_pre (B := B) (n := B.length) (j := 0) (q := vis B [] tv)
      exact ⟨r9, e9⟩)]
    refine vv_istore (pc := 36) x dd_Mo_pass_36 (by decide) (ls2 := [_, _, _, _, _, _, none]) rfl ?_
    refine vv_aload_n (pc := 38) x dd_Mo_pass_38 rfl ?_
    refine vv_iload_n (pc := 39) x dd_Mo_pass_39 rfl ?_
    refine vv_iload (pc := 40) x dd_Mo_pass_40 rfl ?_
    refine lv_Mo_99 (pc := 42) G x dd_Mo_pass_42 (R_follow (fw := U) G R33 ks2 hps hws2 K33' ks6 (led B tv) rfl) R33.2.2 ⟨by decide, by decide⟩ (by decide) (by decide) (Nat.le_of_ble_eq_true rfl) (fun v42 M42 q42 => ?_)
    obtain ⟨rfl, F42, K42⟩ := q42
    have h42 := MI_scr h33 (F42.mono (by decide) (by decide))
    have FF : rx [4, 13, 16] [6, 7, 8, 9, 10, 11, 12, 14, 15, 17, 18, 19] mo M M42 := ((F58.trans (F17.mono (by decide) (by decide))).trans (F33.mono (by decide) (by decide))).trans (F42.mono (by decide) (by decide))
    refine vv_iconst (pc := 45) x dd_Mo_pass_45 (0) (by decide) ?_
    refine vv_istore (pc := 46) x dd_Mo_pass_46 (by decide) (ls2 := [_, _, _, _, _, _, _]) rfl ?_
    have h0 := hlp M42 h42 FF K42 (led B tv).length 0 M42 Z1.2.1 (by omega) rx.rf h42.2.2.2.2.2 (by rw [List.drop_zero]) (fun x hx => by rw [had_0] at hx; omega) (fun _ _ => ⟨rfl, rfl⟩)
    rw [had_0] at h0
    exact h0
  · rw [if_neg hc] at hRs
    subst hRs
    refine vv_aload_n (pc := 0) x dd_Mo_pass_0 rfl ?_
    refine vv_iload_n (pc := 1) x dd_Mo_pass_1 rfl ?_
    refine vv_aload_n (pc := 2) x dd_Mo_pass_2 rfl ?_
    refine vv_iload_n (pc := 3) x dd_Mo_pass_3 rfl ?_
    refine vv_iload_n (pc := 4) x dd_Mo_pass_4 rfl ?_
    refine lv_Mo_138 (pc := 5) G x dd_Mo_pass_5 (R_reach G R ks2 hps hA5 ks6 htv) R.2.2 ⟨by decide, by decide⟩ (by decide) (by decide) (Nat.le_of_ble_eq_true rfl) (fun v5 M5 q5 => ?_)
    obtain ⟨rfl, F5⟩ := q5
    have h5 := MI_scr h (F5.mono (by decide) (by decide))
    have R5 := h5.1
    refine lv_Mo_128 (pc := 8) G x dd_Mo_pass_8 (R_room (n := hsz (qB B (led B tv))) G h5 hZ hp6 hlat hml hr (by omega) (ok2, Z1) hRR) R5.2.2 ⟨by decide, by decide⟩ (by decide) (by decide) (Nat.le_of_ble_eq_true rfl) (fun v8 M8 q8 => ?_)
    obtain ⟨rfl, F8, h8⟩ := q8
    have R8 := h8.1
    have F58 : rx [4, 13, 16] [6, 7, 8, 9, 10, 11, 12, 14, 15, 17, 18, 19] mo M M8 := (F5.mono (by decide) (by decide)).trans (F8.mono (by decide) (by decide))
    rw [show (if (ok2, Z1).1 = true then (1 : Int32) else 0) = 0 from if_neg hc]
    refine vv_if_ne (pc := 11) x dd_Mo_pass_11 (tgt := 16) (by decide) (fun h11 => absurd h11 (fun z => z rfl)) (fun h11 => ?_)
    refine vv_iconst (pc := 14) x dd_Mo_pass_14 (0) (by decide) ?_
    exact vv_zret (pc := 15) x dd_Mo_pass_15 rfl (Or.inl rfl) (by decide) (by decide) ⟨rfl, F58, h8⟩
end M65
