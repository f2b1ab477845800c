/-! ===== the reference: one term is put ===== -/
section M49
variable {g : gg} {X : State → Prop} {t0 : Nat} {l : Launch} {M : mm} {M1 M2 : mm} {pw : Nat} {D : Nat → Prop} {ow sl : Nat → Nat} {mo : Nat} {Ki Ka : List Nat} {k : Nat} {B T : List bk} {q : List Nat} {fw : Nat}
set_option maxRecDepth 100000 in
set_option maxHeartbeats 4000000 in
theorem k_rbegin (G : gc g X t0 l) (R : rs pw D ow sl M mo) : Ok g X l yy_Mo_begin cc_Mo_begin 2 none 0 0 0 0 [.ref mo] M (fun v M' => v = none ∧ rx [16] [18, 19] mo M M' ∧ ri M' mo 16 = 0 ∧ ∀ a, a < 600 → ra M' mo 19 a = -1 ∧ ra M' mo 18 a = 0) := by
  refine ok_start (by decide) (Nat.le_of_ble_eq_true rfl) (by simp [Value.category]) ?_
  intro p e s m args below meth c9 x
  have hloop : ∀ (n i : Nat) (M2 : mm), i + n = 600 → rx [16] [18, 19] mo M M2 → ri M2 mo 16 = 0 → (∀ a, a < i → ra M2 mo 19 a = -1 ∧ ra M2 mo 18 a = 0) → vv g 2 p l e (rm 0 0 0 0) s m args below meth c9 (MQ below (ok_Q g (fun v M' => v = none ∧ rx [16] [18, 19] mo M M' ∧ ri M' mo 16 = 0 ∧ ∀ a, a < 600 → ra M' mo 19 a = -1 ∧ ra M' mo 18 a = 0)) args s 0 0 (ok_F g)) 0 0 7 [some (.ref mo), some (.int (nI i))] [] (M2) := by
    intro n
    induction n with
    | zero =>
      intro i M2 hi F h16 hA
      refine vv_iload_n (pc := 7) x dd_Mo_begin_7 rfl ?_
      refine vv_sipush (pc := 8) x dd_Mo_begin_8 (600) (by decide) ?_
      refine vv_icmp_ge (pc := 11) x dd_Mo_begin_11 (tgt := 34) (by decide) (fun h11 => ?_) (fun h11 => absurd h11 (fun z => z (nI_le (a := 600) (b := i) (by omega) (by omega))))
      exact vv_vret (pc := 34) x dd_Mo_begin_34 rfl (by decide) (by decide) ⟨rfl, F, h16, fun a ha => hA a (by omega)⟩
    | succ n ih =>
      intro i M2 hi F h16 hA
      have R2 := F.to R
      have n19 : mm_n M2 (mm_f M2 7 19 mo) = 600 := R2.n 19 (by decide)
      have n18 : mm_n M2 (mm_f M2 7 18 mo) = 600 := R2.n 18 (by decide)
      have F1 : rx [16] [18, 19] mo M2 (mw M2 mo 19 (upd (ra M2 mo 19) i (-1))) := rx_mw.mono (by simp) (by simp)
      have R3 := F1.to R2
      have hi2 : (nI i).toNatClampNeg = i := nI_clamp (by omega)
      refine vv_iload_n (pc := 7) x dd_Mo_begin_7 rfl ?_
      refine vv_sipush (pc := 8) x dd_Mo_begin_8 (600) (by decide) ?_
      refine vv_icmp_ge (pc := 11) x dd_Mo_begin_11 (tgt := 34) (by decide) (fun h11 => absurd h11 (nI_ge (a := i) (b := 600) (by omega) (by decide))) (fun h11 => ?_)
      refine vv_aload_n (pc := 14) x dd_Mo_begin_14 rfl ?_
      refine lg_Mo_46 (pc := 15) G x dd_Mo_begin_15 R2.2.2 (R2.r 19 (by decide)) ?_
      refine vv_iload_n (pc := 18) x dd_Mo_begin_18 rfl ?_
      refine vv_iconst (pc := 19) x dd_Mo_begin_19 (-1) (by decide) ?_
      refine vv_iast (pc := 20) x dd_Mo_begin_20 (R2.t 19 (by decide)) (in_n (by omega) n19 (by decide)) ?_
      rw [hi2]
      refine vv_aload_n (pc := 21) x dd_Mo_begin_21 rfl ?_
      refine lg_Mo_43 (pc := 22) G x dd_Mo_begin_22 R3.2.2 (R3.r 18 (by decide)) ?_
      refine vv_iload_n (pc := 25) x dd_Mo_begin_25 rfl ?_
      refine vv_iconst (pc := 26) x dd_Mo_begin_26 (0) (by decide) ?_
      refine vv_iast (pc := 27) x dd_Mo_begin_27 (R3.t 18 (by decide)) (in_n (N := 600) (by omega) (R3.n 18 (by decide)) (by decide)) ?_
      rw [hi2]
      have F2 : rx [16] [18, 19] mo M2 (mw (mw M2 mo 19 (upd (ra M2 mo 19) i (-1))) mo 18 (upd (ra (mw M2 mo 19 (upd (ra M2 mo 19) i (-1))) mo 18) i 0)) := F1.trans (rx_mw.mono (by simp) (by simp))
      refine vv_iinc (pc := 28) x dd_Mo_begin_28 rfl (nI_1 i) (by decide) (ls2 := [_, _]) rfl ?_
      refine vv_goto (pc := 31) x dd_Mo_begin_31 (tgt := 7) (by decide) ?_
      exact ih (i + 1) (mw (mw M2 mo 19 (upd (ra M2 mo 19) i (-1))) mo 18 (upd (ra (mw M2 mo 19 (upd (ra M2 mo 19) i (-1))) mo 18) i 0)) (by omega) (F.trans F2) h16 (fun a ha => by
        rw [ra_mw_n R3 (by decide) (by decide) (by decide), ra_mw, ra_mw, ra_mw_n R2 (by decide) (by decide) (by decide)]
        unfold upd
        by_cases e9 : a = i
        · rw [if_pos e9, if_pos e9]; exact ⟨rfl, rfl⟩
        · rw [if_neg e9, if_neg e9]; exact hA a (by omega))
  refine vv_aload_n (pc := 0) x dd_Mo_begin_0 rfl ?_
  refine vv_iconst (pc := 1) x dd_Mo_begin_1 (0) (by decide) ?_
  refine lp_Mo_79 (pc := 2) G x dd_Mo_begin_2 R.2.2 ?_
  refine vv_iconst (pc := 5) x dd_Mo_begin_5 (0) (by decide) ?_
  refine vv_istore_n (pc := 6) x dd_Mo_begin_6 (by decide) (ls2 := [_, _]) rfl ?_
  exact hloop 600 0 (mi M mo 16 0) (by omega) (rx_mi.mono (by simp) (by simp)) ri_mi (fun a ha => by omega)
/-- what is put so far: the blocks of q, from the heap B; T lies there, its terms as behind fw words -/
def Rc (M : mm) (mo : Nat) (B : List bk) (q : List Nat) (T : List bk) : Prop := ri M mo 16 = nI (hsz (qB B q)) ∧ (∀ i, i < B.length → ra M mo 19 (had B i) = if i ∈ q then nI (qof B q i) else -1) ∧ (wv T (ra M mo 17) ∧ kv T (ra M mo 18) ∧ ∀ a, hsz T ≤ a → a < 600 → ra M mo 18 a = 0) ∧ hsz T = hsz (qB B q) ∧ qok B q
theorem Rc_nil (h1 : ri M mo 16 = 0) (h2 : ∀ a, a < 600 → ra M mo 19 a = -1 ∧ ra M mo 18 a = 0) (H : hok B) : Rc M mo B [] [] := by
  refine ⟨h1, fun i hi => ?_, ⟨fun i hi => by simp at hi, fun i hi => by simp at hi, fun a _ ha => (h2 a ha).2⟩, rfl, qok_nil⟩
  rw [if_neg (by simp)]
  have h9 := hok_bnd H hi
  have := bsz_pos (hb B i)
  exact (h2 _ (by omega)).1
theorem wv_app {b : bk} {W W2 : Nat → Int32} (h : wv T W) (e : ∀ x, x < hsz T → W2 x = W x) (hn : ∀ j, j < bsz b → ¬ (b.1 = 5 ∧ j = 1) → W2 (hsz T + j) = bwd b j) : wv (T ++ [b]) W2 := by
  intro i hi j hj h5
  simp only [List.length_append, List.length_cons, List.length_nil] at hi
  by_cases z : i = T.length
  · subst z
    rw [hb_last] at hj h5 ⊢
    rw [had_last]
    exact hn j hj h5
  · have hi2 : i < T.length := by omega
    rw [(add_old hi2).1] at hj h5 ⊢
    rw [had_app (by omega)]
    have := had_blk hi2
    rw [e _ (by omega)]
    exact h i hi2 j hj h5
theorem kv_app {b : bk} {W W2 : Nat → Int32} (h : kv T W) (e : ∀ x, x < hsz T → W2 x = W x) (h0 : W2 (hsz T) = nI b.1) (hn : ∀ j, 0 < j → j < bsz b → W2 (hsz T + j) = 0) : kv (T ++ [b]) W2 := by
  intro i hi
  simp only [List.length_append, List.length_cons, List.length_nil] at hi
  by_cases z : i = T.length
  · subst z
    rw [hb_last, had_last]
    exact ⟨h0, hn⟩
  · have hi2 : i < T.length := by omega
    rw [(add_old hi2).1, had_app (by omega)]
    have h9 := had_blk hi2
    have hp := bsz_pos (hb T i)
    refine ⟨by rw [e _ (by omega)]; exact (h i hi2).1, fun j h1 h2 => ?_⟩
    rw [e _ (by omega)]
    exact (h i hi2).2 j h1 h2
theorem Rc_new {i : Nat} (H : hok B) (K : Rc M mo B q T) (hi : i < B.length) (hm : i ∉ q) {W : Nat → Int32} (hw : wv B W) (h16 : ri M1 mo 16 = nI (hsz (qB B q) + bsz (hb B i))) (h19 : ra M1 mo 19 = upd (ra M mo 19) (had B i) (nI (hsz (qB B q)))) (h18 : ra M1 mo 18 = upd (ra M mo 18) (hsz (qB B q)) (nI (hb B i).1)) (h17 : ∀ x, x < hsz (qB B q) → ra M1 mo 17 x = ra M mo 17 x) (h17n : ∀ j, j < bsz (hb B i) → ra M1 mo 17 (hsz (qB B q) + j) = W (had B i + j)) (hs : hsz (qB B q) + bsz (hb B i) ≤ 600) : Rc M1 mo B (q ++ [i]) (T ++ [hb B i]) := by
  obtain ⟨k1, k2, ⟨k3, k4, k5⟩, k6, k7⟩ := K
  have eq : hsz (qB B (q ++ [i])) = hsz (qB B q) + bsz (hb B i) := by
    rw [hsz_qB, hsz_qB]
    simp
  have bp := bsz_pos (hb B i)
  refine ⟨by rw [eq]; exact h16, fun j hj => ?_, ⟨?_, ?_, fun a h1 h2 => ?_⟩, by rw [hsz_1, eq, k6], ?_⟩
  · rw [h19]
    unfold upd
    by_cases ej : j = i
    · subst ej
      rw [if_pos rfl, if_pos (by simp), qof_new hm]
    · rw [if_neg (fun e9 => ej (had_inj hj hi e9)), k2 j hj]
      by_cases e9 : j ∈ q
      · rw [if_pos e9, if_pos (List.mem_append_left _ e9), qof_app e9]
      · rw [if_neg e9, if_neg (by simp [e9, ej])]
  · refine wv_app k3 (fun x hx => h17 x (by omega)) (fun j hj h5 => ?_)
    rw [k6, h17n j hj]
    exact hw i hi j hj h5
  · refine kv_app k4 (fun x hx => ?_) ?_ (fun j h1 h2 => ?_)
    · rw [h18]; unfold upd; rw [if_neg (by omega)]
    · rw [h18, k6]; unfold upd; rw [if_pos rfl]
    · rw [h18, k6]; unfold upd; rw [if_neg (by omega)]
      exact k5 _ (by omega) (by omega)
  · rw [hsz_1, k6] at h1
    rw [h18]; unfold upd; rw [if_neg (by omega)]
    exact k5 a (by omega) h2
  · have h9 := vis_ok k7 (htm B i)
    rw [vis_new H hi hm] at h9
    exact h9
set_option maxRecDepth 100000 in
set_option maxHeartbeats 4000000 in
theorem k_rput_lo (G : gc g X t0 l) {p9 : Nat} {t : Int32} (hl : kd t ≤ 2) (hT : mm_t M mo = 8) : Ok g X l yy_Mo_put cc_Mo_put 6 (some .int) 3 65 0 0 [.ref mo, .int (nI p9), .int t, .int (nI fw)] M (fun v M' => v = some (.int t) ∧ M' = M) := by
  refine ok_start (by decide) (Nat.le_of_ble_eq_true rfl) (by simp [Value.category]) ?_
  intro p e s m args below meth c9 x
  refine vv_aload_n (pc := 0) x dd_Mo_put_0 rfl ?_
  refine vv_iload_n (pc := 1) x dd_Mo_put_1 rfl ?_
  refine lv_Mo_82 (pc := 2) G x dd_Mo_put_2 (k_risHeaped G) hT ⟨by decide, by decide⟩ (by decide) (by decide) (Nat.le_of_ble_eq_true rfl) (fun v2 M2 q2 => ?_)
  obtain ⟨rfl, hm2⟩ := q2
  have hm2 := hm2.symm
  subst hm2
  rw [show (if kd t ≤ 2 then (0 : Int32) else 1) = 0 from if_pos hl]
  refine vv_if_ne (pc := 5) x dd_Mo_put_5 (tgt := 10) (by decide) (fun h5 => absurd h5 (fun z => z rfl)) (fun h5 => ?_)
  refine vv_iload_n (pc := 8) x dd_Mo_put_8 rfl ?_
  exact vv_iret (pc := 9) x dd_Mo_put_9 rfl (by decide) (by decide) ⟨rfl, rfl⟩
set_option maxRecDepth 100000 in
set_option maxHeartbeats 4000000 in
theorem k_rput_in (G : gc g X t0 l) (R : rs pw D ow sl M mo) (H : hok B) {p9 : Nat} (hp9 : p9 < 8) (hw : wv B (fun a => ra M mo 11 (600 * p9 + a))) (K : Rc M mo B q T) {i : Nat} (hi : i < B.length) (hm : i ∈ q) : Ok g X l yy_Mo_put cc_Mo_put 6 (some .int) 3 65 0 0 [.ref mo, .int (nI p9), .int (htm B i), .int (nI fw)] M (fun v M' => v = some (.int (tk (hb B i).1 (fw + qof B q i))) ∧ M' = M) := by
  refine ok_start (by decide) (Nat.le_of_ble_eq_true rfl) (by simp [Value.category]) ?_
  intro p e s m args below meth c9 x
  have bd := hok_bnd H hi
  have ek := hok_kd H hi
  have es := hok_shr H hi
  have bp := bsz_pos (hb B i)
  have n11 : mm_n M (mm_f M 7 11 mo) = 4800 := R.n 11 (by decide)
  have n19 : mm_n M (mm_f M 7 19 mo) = 600 := R.n 19 (by decide)
  have n18 : mm_n M (mm_f M 7 18 mo) = 600 := R.n 18 (by decide)
  have n17 : mm_n M (mm_f M 7 17 mo) = 600 := R.n 17 (by decide)
  have hca : (nI (had B i)).toNatClampNeg = had B i := nI_clamp (by omega)
  have hmv : mm_a M (mm_f M 7 19 mo) (had B i) = if i ∈ q then nI (qof B q i) else -1 := K.2.1 i hi
  have hq9 : qof B q i ≤ hsz (qB B q) := had_le
  have hql := qB_le K.2.2.2.2
  have h600 := H.1
  rw [if_pos hm] at hmv
  refine vv_aload_n (pc := 0) x dd_Mo_put_0 rfl ?_
  refine vv_iload_n (pc := 1) x dd_Mo_put_1 rfl ?_
  refine lv_Mo_82 (pc := 2) G x dd_Mo_put_2 (k_risHeaped G) R.2.2 ⟨by decide, by decide⟩ (by decide) (by decide) (Nat.le_of_ble_eq_true rfl) (fun v2 M2 q2 => ?_)
  obtain ⟨rfl, hm2⟩ := q2
  have hm2 := hm2.symm
  subst hm2
  rw [show (if kd (htm B i) ≤ 2 then (0 : Int32) else 1) = 1 from if_neg (by rw [ek]; omega)]
  refine vv_if_ne (pc := 5) x dd_Mo_put_5 (tgt := 10) (by decide) (fun h5 => ?_) (fun h5 => absurd h5 (by decide))
  refine vv_aload_n (pc := 10) x dd_Mo_put_10 rfl ?_
  refine vv_iload_n (pc := 11) x dd_Mo_put_11 rfl ?_
  refine lv_Mo_72 (pc := 12) G x dd_Mo_put_12 (k_rat G) R.2.2 ⟨by decide, by decide⟩ (by decide) (by decide) (Nat.le_of_ble_eq_true rfl) (fun v12 M12 q12 => ?_)
  obtain ⟨rfl, hm12⟩ := q12
  have hm12 := hm12.symm
  subst hm12
  rw [es]
  refine vv_istore (pc := 15) x dd_Mo_put_15 (by decide) (ls2 := [_, _, _, _, _, none]) rfl ?_
  refine vv_aload_n (pc := 17) x dd_Mo_put_17 rfl ?_
  refine lg_Mo_46 (pc := 18) G x dd_Mo_put_18 R.2.2 (R.r 19 (by decide)) ?_
  refine vv_iload (pc := 21) x dd_Mo_put_21 rfl ?_
  refine vv_iald (pc := 23) x dd_Mo_put_23 (R.t 19 (by decide)) (in_n (by omega) n19 (by decide)) ?_
  rw [hca, hmv]
  refine vv_if_ge (pc := 24) x dd_Mo_put_24 (tgt := 115) (by decide) (fun h24 => ?_) (fun h24 => absurd h24 (fun z => z (nI_pos' (by omega))))
  refine vv_bipush (pc := 115) x dd_Mo_put_115 (8) (by decide) ?_
  refine vv_iload_n (pc := 117) x dd_Mo_put_117 rfl ?_
  refine vv_aload_n (pc := 118) x dd_Mo_put_118 rfl ?_
  refine lg_Mo_46 (pc := 119) G x dd_Mo_put_119 R.2.2 (R.r 19 (by decide)) ?_
  refine vv_iload (pc := 122) x dd_Mo_put_122 rfl ?_
  refine vv_iald (pc := 124) x dd_Mo_put_124 (R.t 19 (by decide)) (in_n (by omega) n19 (by decide)) ?_
  rw [hca, hmv]
  refine vv_iadd (pc := 125) x dd_Mo_put_125 ?_
  rw [nI_add]
  refine vv_imul (pc := 126) x dd_Mo_put_126 ?_
  refine vv_aload_n (pc := 127) x dd_Mo_put_127 rfl ?_
  refine vv_iload_n (pc := 128) x dd_Mo_put_128 rfl ?_
  refine lv_Mo_68 (pc := 129) G x dd_Mo_put_129 (k_rkind G) R.2.2 ⟨by decide, by decide⟩ (by decide) (by decide) (Nat.le_of_ble_eq_true rfl) (fun v129 M129 q129 => ?_)
  obtain ⟨rfl, hm129⟩ := q129
  have hm129 := hm129.symm
  subst hm129
  rw [and7, ek]
  refine vv_iadd (pc := 132) x dd_Mo_put_132 ?_
  rw [show (8 : Int32) * nI (fw + qof B q i) + nI (hb B i).1 = tk (hb B i).1 (fw + qof B q i) from tk_eq]
  exact vv_iret (pc := 133) x dd_Mo_put_133 rfl (by decide) (by decide) ⟨rfl, rfl⟩
set_option maxRecDepth 100000 in
set_option maxHeartbeats 4000000 in
theorem k_rput_new (G : gc g X t0 l) (R : rs pw D ow sl M mo) (H : hok B) {p9 : Nat} (hp9 : p9 < 8) (hw : wv B (fun a => ra M mo 11 (600 * p9 + a))) (K : Rc M mo B q T) {i : Nat} (hi : i < B.length) (hm : i ∉ q) (hs : hsz (qB B q) + bsz (hb B i) ≤ 600) : Ok g X l yy_Mo_put cc_Mo_put 6 (some .int) 3 65 0 0 [.ref mo, .int (nI p9), .int (htm B i), .int (nI fw)] M (fun v M' => v = some (.int (tk (hb B i).1 (fw + hsz (qB B q)))) ∧ rx [16] [17, 18, 19] mo M M' ∧ Rc M' mo B (q ++ [i]) (T ++ [hb B i])) := by
  refine ok_start (by decide) (Nat.le_of_ble_eq_true rfl) (by simp [Value.category]) ?_
  intro p e s m args below meth c9 x
  have bd := hok_bnd H hi
  have ek := hok_kd H hi
  have es := hok_shr H hi
  have bp := bsz_pos (hb B i)
  have n11 : mm_n M (mm_f M 7 11 mo) = 4800 := R.n 11 (by decide)
  have n19 : mm_n M (mm_f M 7 19 mo) = 600 := R.n 19 (by decide)
  have n18 : mm_n M (mm_f M 7 18 mo) = 600 := R.n 18 (by decide)
  have n17 : mm_n M (mm_f M 7 17 mo) = 600 := R.n 17 (by decide)
  have hca : (nI (had B i)).toNatClampNeg = had B i := nI_clamp (by omega)
  have hmv : mm_a M (mm_f M 7 19 mo) (had B i) = if i ∈ q then nI (qof B q i) else -1 := K.2.1 i hi
  have hq9 : qof B q i ≤ hsz (qB B q) := had_le
  have hql := qB_le K.2.2.2.2
  have h600 := H.1
  rw [if_neg hm] at hmv
  have h16 : mm_i M 7 16 mo = nI (hsz (qB B q)) := K.1
  generalize hE : hsz (qB B q) = E at *
  have hcE : (nI E).toNatClampNeg = E := nI_clamp (by omega)
  have F1 : rx [16] [17, 18, 19] mo M (mw M mo 19 (upd (ra M mo 19) (had B i) (nI E))) := rx_mw.mono (by simp) (by simp)
  have R1 := F1.to R
  have F2 : rx [16] [17, 18, 19] mo (mw M mo 19 (upd (ra M mo 19) (had B i) (nI E))) (mw (mw M mo 19 (upd (ra M mo 19) (had B i) (nI E))) mo 18 (upd (ra (mw M mo 19 (upd (ra M mo 19) (had B i) (nI E))) mo 18) E (nI (hb B i).1))) := rx_mw.mono (by simp) (by simp)
  have R2 := F2.to R1
  generalize hN2 : mw (mw M mo 19 (upd (ra M mo 19) (had B i) (nI E))) mo 18 (upd (ra (mw M mo 19 (upd (ra M mo 19) (had B i) (nI E))) mo 18) E (nI (hb B i).1)) = N2 at *
  have a19 : ra N2 mo 19 = upd (ra M mo 19) (had B i) (nI E) := by rw [← hN2, ra_mw_n R1 (by decide) (by decide) (by decide), ra_mw]
  have a18 : ra N2 mo 18 = upd (ra M mo 18) E (nI (hb B i).1) := by rw [← hN2, ra_mw, ra_mw_n R (by decide) (by decide) (by decide)]
  have a17 : ra N2 mo 17 = ra M mo 17 := by rw [← hN2, ra_mw_n R1 (by decide) (by decide) (by decide), ra_mw_n R (by decide) (by decide) (by decide)]
  have a11 : ra N2 mo 11 = ra M mo 11 := by rw [← hN2, ra_mw_n R1 (by decide) (by decide) (by decide), ra_mw_n R (by decide) (by decide) (by decide)]
  have i16 : ri N2 mo 16 = nI E := by rw [← hN2]; exact h16
  have F02 := F1.trans F2
  have hloop : ∀ (n k9 : Nat) (M3 : mm), k9 + n = bsz (hb B i) → rx [] [17] mo N2 M3 → (∀ x, x < E → ra M3 mo 17 x = ra N2 mo 17 x) → (∀ j, j < k9 → ra M3 mo 17 (E + j) = ra M mo 11 (600 * p9 + (had B i + j))) → vv g 6 p l e (rm 3 65 0 0) s m args below meth c9 (MQ below (ok_Q g (fun v M' => v = some (.int (tk (hb B i).1 (fw + E))) ∧ rx [16] [17, 18, 19] mo M M' ∧ Rc M' mo B (q ++ [i]) (T ++ [hb B i]))) args s 0 0 (ok_F g)) 0 0 55 [some (.ref mo), some (.int (nI p9)), some (.int (htm B i)), some (.int (nI fw)), some (.int (nI (had B i))), some (.int (nI k9))] [] (M3) := by
    intro n
    induction n with
    | zero =>
      intro k9 M3 hn F3 h3 h4
      have R3 := F3.to R2
      have b11 : ra M3 mo 11 = ra M mo 11 := by rw [F3.a R2 (by decide) (by decide) (by decide), a11]
      have hw3 : wv B (fun a => ra M3 mo 11 (600 * p9 + a)) := by rw [b11]; exact hw
      have i163 : mm_i M3 7 16 mo = nI E := by rw [show mm_i M3 7 16 mo = ri M3 mo 16 from rfl, F3.i (by decide)]; exact i16
      have F4 : rx [16] [17, 18, 19] mo M3 (mi M3 mo 16 (nI (E + bsz (hb B i)))) := rx_mi.mono (by simp) (by simp)
      have R4 := F4.to R3
      have c19 : mm_a (mi M3 mo 16 (nI (E + bsz (hb B i)))) (mm_f (mi M3 mo 16 (nI (E + bsz (hb B i)))) 7 19 mo) (had B i) = nI E := by
        show ra (mi M3 mo 16 (nI (E + bsz (hb B i)))) mo 19 (had B i) = _
        rw [ra_mi, F3.a R2 (by decide) (by decide) (by decide), a19]
        unfold upd
        rw [if_pos rfl]
      refine vv_iload (pc := 55) x dd_Mo_put_55 rfl ?_
      refine vv_aload_n (pc := 57) x dd_Mo_put_57 rfl ?_
      refine vv_iload_n (pc := 58) x dd_Mo_put_58 rfl ?_
      refine vv_iload_n (pc := 59) x dd_Mo_put_59 rfl ?_
      refine lv_Mo_86 (pc := 60) G x dd_Mo_put_60 (k_rsize G R3 H hp9 hw3 hi) R3.2.2 ⟨by decide, by decide⟩ (by decide) (by decide) (Nat.le_of_ble_eq_true rfl) (fun v60 M60 q60 => ?_)
      obtain ⟨rfl, hm60⟩ := q60
      have hm60 := hm60.symm
      subst hm60
      refine vv_icmp_ge (pc := 63) x dd_Mo_put_63 (tgt := 100) (by decide) (fun h63 => ?_) (fun h63 => absurd h63 (fun z => z (nI_le (by omega) (by omega))))
      refine vv_aload_n (pc := 100) x dd_Mo_put_100 rfl ?_
      refine vv_dup (pc := 101) x dd_Mo_put_101 rfl ?_
      refine lg_Mo_79 (pc := 102) G x dd_Mo_put_102 R3.2.2 ?_
      rw [i163]
      refine vv_aload_n (pc := 105) x dd_Mo_put_105 rfl ?_
      refine vv_iload_n (pc := 106) x dd_Mo_put_106 rfl ?_
      refine vv_iload_n (pc := 107) x dd_Mo_put_107 rfl ?_
      refine lv_Mo_86 (pc := 108) G x dd_Mo_put_108 (k_rsize G R3 H hp9 hw3 hi) R3.2.2 ⟨by decide, by decide⟩ (by decide) (by decide) (Nat.le_of_ble_eq_true rfl) (fun v108 M108 q108 => ?_)
      obtain ⟨rfl, hm108⟩ := q108
      have hm108 := hm108.symm
      subst hm108
      refine vv_iadd (pc := 111) x dd_Mo_put_111 ?_
      rw [nI_add]
      refine lp_Mo_79 (pc := 112) G x dd_Mo_put_112 R3.2.2 ?_
      refine vv_bipush (pc := 115) x dd_Mo_put_115 (8) (by decide) ?_
      refine vv_iload_n (pc := 117) x dd_Mo_put_117 rfl ?_
      refine vv_aload_n (pc := 118) x dd_Mo_put_118 rfl ?_
      refine lg_Mo_46 (pc := 119) G x dd_Mo_put_119 R4.2.2 (R4.r 19 (by decide)) ?_
      refine vv_iload (pc := 122) x dd_Mo_put_122 rfl ?_
      refine vv_iald (pc := 124) x dd_Mo_put_124 (R4.t 19 (by decide)) (in_n (N := 600) (by omega) (R4.n 19 (by decide)) (by decide)) ?_
      rw [hca]
      rw [show mm_a (mm_si M3 7 16 mo (nI (E + bsz (hb B i)))) (mm_f (mm_si M3 7 16 mo (nI (E + bsz (hb B i)))) 7 19 mo) (had B i) = nI E from c19]
      refine vv_iadd (pc := 125) x dd_Mo_put_125 ?_
      rw [nI_add]
      refine vv_imul (pc := 126) x dd_Mo_put_126 ?_
      refine vv_aload_n (pc := 127) x dd_Mo_put_127 rfl ?_
      refine vv_iload_n (pc := 128) x dd_Mo_put_128 rfl ?_
      refine lv_Mo_68 (pc := 129) G x dd_Mo_put_129 (k_rkind G) R4.2.2 ⟨by decide, by decide⟩ (by decide) (by decide) (Nat.le_of_ble_eq_true rfl) (fun v129 M129 q129 => ?_)
      obtain ⟨rfl, hm129⟩ := q129
      have hm129 := hm129.symm
      subst hm129
      rw [and7, ek]
      refine vv_iadd (pc := 132) x dd_Mo_put_132 ?_
      rw [show (8 : Int32) * nI (fw + E) + nI (hb B i).1 = tk (hb B i).1 (fw + E) from tk_eq]
      exact vv_iret (pc := 133) x dd_Mo_put_133 rfl (by decide) (by decide) ⟨rfl, (F02.trans (F3.mono (by simp) (by simp))).trans F4, by
          refine Rc_new (W := fun a => ra M mo 11 (600 * p9 + a)) H K hi hm hw ?_ ?_ ?_ ?_ ?_ (by omega)
          · rw [hE]; exact ri_mi
          · rw [hE]
            show ra (mi M3 mo 16 _) mo 19 = _
            rw [ra_mi, F3.a R2 (by decide) (by decide) (by decide), a19]
          · rw [hE]
            show ra (mi M3 mo 16 _) mo 18 = _
            rw [ra_mi, F3.a R2 (by decide) (by decide) (by decide), a18]
          · rw [hE]
            intro x hx
            show ra (mi M3 mo 16 _) mo 17 x = _
            rw [ra_mi, h3 x hx, a17]
          · rw [hE]
            intro j hj
            show ra (mi M3 mo 16 _) mo 17 _ = _
            rw [ra_mi]
            exact h4 j (by omega)⟩
    | succ n ih =>
      intro k9 M3 hn F3 h3 h4
      have R3 := F3.to R2
      have b11 : ra M3 mo 11 = ra M mo 11 := by rw [F3.a R2 (by decide) (by decide) (by decide), a11]
      have hw3 : wv B (fun a => ra M3 mo 11 (600 * p9 + a)) := by rw [b11]; exact hw
      have i163 : mm_i M3 7 16 mo = nI E := by rw [show mm_i M3 7 16 mo = ri M3 mo 16 from rfl, F3.i (by decide)]; exact i16
      have m11 : mm_n M3 (mm_f M3 7 11 mo) = 4800 := R3.n 11 (by decide)
      have m17 : mm_n M3 (mm_f M3 7 17 mo) = 600 := R3.n 17 (by decide)
      refine vv_iload (pc := 55) x dd_Mo_put_55 rfl ?_
      refine vv_aload_n (pc := 57) x dd_Mo_put_57 rfl ?_
      refine vv_iload_n (pc := 58) x dd_Mo_put_58 rfl ?_
      refine vv_iload_n (pc := 59) x dd_Mo_put_59 rfl ?_
      refine lv_Mo_86 (pc := 60) G x dd_Mo_put_60 (k_rsize G R3 H hp9 hw3 hi) R3.2.2 ⟨by decide, by decide⟩ (by decide) (by decide) (Nat.le_of_ble_eq_true rfl) (fun v60 M60 q60 => ?_)
      obtain ⟨rfl, hm60⟩ := q60
      have hm60 := hm60.symm
      subst hm60
      refine vv_icmp_ge (pc := 63) x dd_Mo_put_63 (tgt := 100) (by decide) (fun h63 => absurd h63 (nI_ge (by omega) (by omega))) (fun h63 => ?_)
      refine vv_aload_n (pc := 66) x dd_Mo_put_66 rfl ?_
      refine lg_Mo_40 (pc := 67) G x dd_Mo_put_67 R3.2.2 (R3.r 17 (by decide)) ?_
      refine vv_aload_n (pc := 70) x dd_Mo_put_70 rfl ?_
      refine lg_Mo_79 (pc := 71) G x dd_Mo_put_71 R3.2.2 ?_
      rw [i163]
      refine vv_iload (pc := 74) x dd_Mo_put_74 rfl ?_
      refine vv_iadd (pc := 76) x dd_Mo_put_76 ?_
      rw [nI_add]
      refine vv_aload_n (pc := 77) x dd_Mo_put_77 rfl ?_
      refine lg_Mo_28 (pc := 78) G x dd_Mo_put_78 R3.2.2 (R3.r 11 (by decide)) ?_
      refine vv_sipush (pc := 81) x dd_Mo_put_81 (600) (by decide) ?_
      refine vv_iload_n (pc := 84) x dd_Mo_put_84 rfl ?_
      refine vv_imul (pc := 85) x dd_Mo_put_85 ?_
      refine vv_iload (pc := 86) x dd_Mo_put_86 rfl ?_
      refine vv_iadd (pc := 88) x dd_Mo_put_88 ?_
      rw [ix600]
      refine vv_iload (pc := 89) x dd_Mo_put_89 rfl ?_
      refine vv_iadd (pc := 91) x dd_Mo_put_91 ?_
      rw [nI_add]
      refine vv_iald (pc := 92) x dd_Mo_put_92 (R3.t 11 (by decide)) (in_n (by omega) m11 (by decide)) ?_
      rw [nI_clamp (n := 600 * p9 + had B i + k9) (by omega)]
      refine vv_iast (pc := 93) x dd_Mo_put_93 (R3.t 17 (by decide)) (in_n (by omega) m17 (by decide)) ?_
      rw [nI_clamp (n := E + k9) (by omega)]
      refine vv_iinc (pc := 94) x dd_Mo_put_94 rfl (nI_1 k9) (by decide) (ls2 := [_, _, _, _, _, _]) rfl ?_
      refine vv_goto (pc := 97) x dd_Mo_put_97 (tgt := 55) (by decide) ?_
      exact ih (k9 + 1) (mw M3 mo 17 (upd (ra M3 mo 17) (E + k9) (ra M3 mo 11 (600 * p9 + had B i + k9)))) (by omega) (F3.trans rx_mw) (fun x hx => by
        rw [ra_mw]
        unfold upd
        rw [if_neg (by omega)]
        exact h3 x hx) (fun j hj => by
        rw [ra_mw]
        unfold upd
        by_cases e9 : j = k9
        · rw [if_pos (by omega), e9, b11, Nat.add_assoc]
        · rw [if_neg (by omega)]
          exact h4 j (by omega))
  refine vv_aload_n (pc := 0) x dd_Mo_put_0 rfl ?_
  refine vv_iload_n (pc := 1) x dd_Mo_put_1 rfl ?_
  refine lv_Mo_82 (pc := 2) G x dd_Mo_put_2 (k_risHeaped G) R.2.2 ⟨by decide, by decide⟩ (by decide) (by decide) (Nat.le_of_ble_eq_true rfl) (fun v2 M2 q2 => ?_)
  obtain ⟨rfl, hm2⟩ := q2
  have hm2 := hm2.symm
  subst hm2
  rw [show (if kd (htm B i) ≤ 2 then (0 : Int32) else 1) = 1 from if_neg (by rw [ek]; omega)]
  refine vv_if_ne (pc := 5) x dd_Mo_put_5 (tgt := 10) (by decide) (fun h5 => ?_) (fun h5 => absurd h5 (by decide))
  refine vv_aload_n (pc := 10) x dd_Mo_put_10 rfl ?_
  refine vv_iload_n (pc := 11) x dd_Mo_put_11 rfl ?_
  refine lv_Mo_72 (pc := 12) G x dd_Mo_put_12 (k_rat G) R.2.2 ⟨by decide, by decide⟩ (by decide) (by decide) (Nat.le_of_ble_eq_true rfl) (fun v12 M12 q12 => ?_)
  obtain ⟨rfl, hm12⟩ := q12
  have hm12 := hm12.symm
  subst hm12
  rw [es]
  refine vv_istore (pc := 15) x dd_Mo_put_15 (by decide) (ls2 := [_, _, _, _, _, none]) rfl ?_
  refine vv_aload_n (pc := 17) x dd_Mo_put_17 rfl ?_
  refine lg_Mo_46 (pc := 18) G x dd_Mo_put_18 R.2.2 (R.r 19 (by decide)) ?_
  refine vv_iload (pc := 21) x dd_Mo_put_21 rfl ?_
  refine vv_iald (pc := 23) x dd_Mo_put_23 (R.t 19 (by decide)) (in_n (by omega) n19 (by decide)) ?_
  rw [hca, hmv]
  refine vv_if_ge (pc := 24) x dd_Mo_put_24 (tgt := 115) (by decide) (fun h24 => absurd h24 (by decide)) (fun h24 => ?_)
  refine vv_aload_n (pc := 27) x dd_Mo_put_27 rfl ?_
  refine lg_Mo_46 (pc := 28) G x dd_Mo_put_28 R.2.2 (R.r 19 (by decide)) ?_
  refine vv_iload (pc := 31) x dd_Mo_put_31 rfl ?_
  refine vv_aload_n (pc := 33) x dd_Mo_put_33 rfl ?_
  refine lg_Mo_79 (pc := 34) G x dd_Mo_put_34 R.2.2 ?_
  rw [h16]
  refine vv_iast (pc := 37) x dd_Mo_put_37 (R.t 19 (by decide)) (in_n (by omega) n19 (by decide)) ?_
  rw [hca]
  refine vv_aload_n (pc := 38) x dd_Mo_put_38 rfl ?_
  refine lg_Mo_43 (pc := 39) G x dd_Mo_put_39 R1.2.2 (R1.r 18 (by decide)) ?_
  refine vv_aload_n (pc := 42) x dd_Mo_put_42 rfl ?_
  refine lg_Mo_79 (pc := 43) G x dd_Mo_put_43 R1.2.2 ?_
  rw [show mm_i (mm_sa M (mm_f M 7 19 mo) (upd (mm_a M (mm_f M 7 19 mo)) (had B i) (nI E))) 7 16 mo = nI E from h16]
  refine vv_aload_n (pc := 46) x dd_Mo_put_46 rfl ?_
  refine vv_iload_n (pc := 47) x dd_Mo_put_47 rfl ?_
  refine lv_Mo_68 (pc := 48) G x dd_Mo_put_48 (k_rkind G) R1.2.2 ⟨by decide, by decide⟩ (by decide) (by decide) (Nat.le_of_ble_eq_true rfl) (fun v48 M48 q48 => ?_)
  obtain ⟨rfl, hm48⟩ := q48
  have hm48 := hm48.symm
  subst hm48
  rw [and7, ek]
  refine vv_iast (pc := 51) x dd_Mo_put_51 (R1.t 18 (by decide)) (in_n (N := 600) (by omega) (R1.n 18 (by decide)) (by decide)) ?_
  rw [hcE]
  rw [show mm_sa (mm_sa M (mm_f M 7 19 mo) (upd (mm_a M (mm_f M 7 19 mo)) (had B i) (nI E))) (mm_f (mm_sa M (mm_f M 7 19 mo) (upd (mm_a M (mm_f M 7 19 mo)) (had B i) (nI E))) 7 18 mo) (upd (mm_a (mm_sa M (mm_f M 7 19 mo) (upd (mm_a M (mm_f M 7 19 mo)) (had B i) (nI E))) (mm_f (mm_sa M (mm_f M 7 19 mo) (upd (mm_a M (mm_f M 7 19 mo)) (had B i) (nI E))) 7 18 mo)) E (nI (hb B i).1)) = N2 from hN2]
  refine vv_iconst (pc := 52) x dd_Mo_put_52 (0) (by decide) ?_
  refine vv_istore (pc := 53) x dd_Mo_put_53 (by decide) (ls2 := [_, _, _, _, _, _]) rfl ?_
  exact hloop (bsz (hb B i)) 0 N2 (by omega) rx.rf (fun _ _ => rfl) (fun j hj => by omega)
theorem R_put (G : gc g X t0 l) (R : rs pw D ow sl M mo) (H : hok B) {p9 : Nat} (hp9 : p9 < 8) (hw : wv B (fun a => ra M mo 11 (600 * p9 + a))) (K : Rc M mo B q T) {t : Int32} (hv : vt B t) : Ok g X l yy_Mo_put cc_Mo_put 6 (some .int) 3 65 0 0 [.ref mo, .int (nI p9), .int t, .int (nI fw)] M (fun v M' => v = some (.int (rel B fw (vis B q t) t)) ∧ rx [16] [17, 18, 19] mo M M' ∧ Rc M' mo B (vis B q t) (T ++ qB B ((vis B q t).drop q.length))) := by
  rcases hv with h1 | ⟨i, hi, rfl⟩
  · refine (k_rput_lo G h1 R.2.2).mono ?_
    rintro v M' ⟨rfl, rfl⟩
    rw [vis_lo H h1, rel_lo H h1, List.drop_length]
    refine ⟨rfl, rx.rf, ?_⟩
    show Rc M' mo B q (T ++ [])
    rw [List.append_nil]
    exact K
  · by_cases hm : i ∈ q
    · refine (k_rput_in G R H hp9 hw K hi hm).mono ?_
      rintro v M' ⟨rfl, rfl⟩
      rw [vis_in H hi hm, rel_at H hi, List.drop_length]
      refine ⟨rfl, rx.rf, ?_⟩
      show Rc M' mo B q (T ++ [])
      rw [List.append_nil]
      exact K
    · have hok9 : qok B (q ++ [i]) := by
        have h9 := vis_ok K.2.2.2.2 (htm B i)
        rw [vis_new H hi hm] at h9
        exact h9
      have e1 : hsz (qB B (q ++ [i])) = hsz (qB B q) + bsz (hb B i) := by
        rw [hsz_qB, hsz_qB]
        simp
      have h8 := qB_le hok9
      have h600 := H.1
      refine (k_rput_new G R H hp9 hw K hi hm (by omega)).mono ?_
      rintro v M' ⟨rfl, h2, h3⟩
      rw [vis_new H hi hm, rel_at H hi, qof_new hm, List.drop_left]
      exact ⟨rfl, h2, h3⟩
end M49
