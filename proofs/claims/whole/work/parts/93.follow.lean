/-! ===== the reference: all parts are put ===== -/
section M50
variable {g : gg} {X : State → Prop} {t0 : Nat} {l : Launch} {M : mm} {M1 M2 : mm} {pw : Nat} {D : Nat → Prop} {ow sl : Nat → Nat} {mo : Nat} {Ki Ka : List Nat} {k : Nat} {B T : List bk} {q : List Nat} {fw : Nat}
theorem wv_set {W : Nat → Int32} (h : wv T W) (hb9 : ∀ i, i < T.length → bok (hb T i)) {i k : Nat} (hi : i < T.length) (hk : k < (bpt (hb T i)).length) (v : Int32) : wv (T.set i ((hb T i).1, (hb T i).2.set k v)) (upd W (had T i + (if (hb T i).1 = 4 then 1 else 0) + k) v) := by
  have hv0 : hv (hsz T) T (htm T) W := ⟨Nat.le_refl _, fun _ _ => rfl, h, hb9⟩
  exact (hv_set hv0 hi hk v).2.2.1
theorem kv_set {K : Nat → Int32} (h : kv T K) {i k : Nat} (hi : i < T.length) (v : Int32) : kv (T.set i ((hb T i).1, (hb T i).2.set k v)) K := by
  have he : bsz ((hb T i).1, (hb T i).2.set k v) = bsz (hb T i) := by
    unfold bsz
    simp
  intro j hj
  rw [List.length_set] at hj
  rw [had_set hi he, hb_set hi]
  by_cases e : j = i
  · rw [if_pos e, he, e]
    exact h i hi
  · rw [if_neg e]
    exact h j hj
theorem Rc_set (R : rs pw D ow sl M mo) (K : Rc M mo B q T) (hb9 : ∀ i, i < T.length → bok (hb T i)) {i k : Nat} (hi : i < T.length) (hk : k < (bpt (hb T i)).length) (v : Int32) : Rc (mw M mo 17 (upd (ra M mo 17) (had T i + (if (hb T i).1 = 4 then 1 else 0) + k) v)) mo B q (T.set i ((hb T i).1, (hb T i).2.set k v)) := by
  obtain ⟨k1, k2, ⟨k3, k4, k5⟩, k6, k7⟩ := K
  have he : bsz ((hb T i).1, (hb T i).2.set k v) = bsz (hb T i) := by
    unfold bsz
    simp
  refine ⟨k1, fun j hj => by rw [ra_mw_n R (by decide) (by decide) (by decide)]; exact k2 j hj, ⟨?_, ?_, fun a h1 h2 => ?_⟩, by rw [hsz_set hi he]; exact k6, k7⟩
  · rw [ra_mw]; exact wv_set k3 hb9 hi hk v
  · rw [ra_mw_n R (by decide) (by decide) (by decide)]; exact kv_set k4 hi v
  · rw [ra_mw_n R (by decide) (by decide) (by decide)]
    rw [hsz_set hi he] at h1
    exact k5 a h1 h2
theorem T0_len {j kk : Nat} : (TT B fw [] j kk q).length = q.length := by rw [TT_len]; simp
theorem T0_hb {j kk i : Nat} (hi : i < q.length) : hb (TT B fw [] j kk q) i = pb B fw q (if i < j then 4 else if i = j then kk else 0) (hb B (q.getD i 0)) := by
  have h := TT_hb (B := B) (fr := fw) (B0 := []) (j := j) (kk := kk) hi
  simpa using h
theorem T0_had {j kk i : Nat} : had (TT B fw [] j kk q) i = had (qB B q) i := by
  have h := TT_had (B := B) (fr := fw) (B0 := []) (j := j) (kk := kk) (q := q) (m := i)
  simpa [hsz] using h
theorem T0_sz {j kk : Nat} : hsz (TT B fw [] j kk q) = hsz (qB B q) := by
  have h := TT_sz (B := B) (fr := fw) (B0 := []) (j := j) (kk := kk) (q := q)
  simpa [hsz] using h
theorem T0_bok {j kk : Nat} (H : hok B) (hq : qok B q) : ∀ i, i < (TT B fw [] j kk q).length → bok (hb (TT B fw [] j kk q) i) := fun i hi => by
  rw [T0_len] at hi
  rw [T0_hb hi]
  exact pb_ok (H.2 _ (hq.2 _ (getD_memN hi)))
theorem T0_set {j kk : Nat} (hj : j < q.length) (hk : kk < (bpt (hb B (q.getD j 0))).length) : (TT B fw [] j kk q).set j ((hb (TT B fw [] j kk q) j).1, (hb (TT B fw [] j kk q) j).2.set kk (rel B fw q ((bpt (hb B (q.getD j 0))).getD kk 0))) = TT B fw [] j (kk + 1) q := by
  have h := TT_set (B := B) (fr := fw) (B0 := []) (kk := kk) hj hk
  simpa using h
theorem qB_len : (qB B q).length = q.length := by unfold qB; simp
theorem qB_hb {i : Nat} (hi : i < q.length) : hb (qB B q) i = hb B (q.getD i 0) := by
  unfold qB hb
  rw [List.getD_eq_getElem?_getD, List.getElem?_map, List.getElem?_eq_getElem hi, List.getD_eq_getElem?_getD, List.getD_eq_getElem?_getD, List.getElem?_eq_getElem hi]
  rfl
theorem qB_had1 {i : Nat} (hi : i < q.length) : had (qB B q) (i + 1) = had (qB B q) i + bsz (hb B (q.getD i 0)) := by
  rw [had_succ (by rw [qB_len]; exact hi), qB_hb hi]
theorem had_qapp {r : List Nat} {i : Nat} (hi : i ≤ q.length) : had (qB B (q ++ r)) i = had (qB B q) i := by
  unfold qB
  rw [List.map_append, had_app (by simpa using hi)]
set_option maxRecDepth 100000 in
set_option maxHeartbeats 4000000 in
theorem R_follow (G : gc g X t0 l) (R : rs pw D ow sl M mo) (H : hok B) {p9 : Nat} (hp9 : p9 < 8) (hw : wv B (fun a => ra M mo 11 (600 * p9 + a))) (K : Rc M mo B q (qB B q)) (hval : hval B) (Q9 : List Nat) (hQ9 : bfs B B.length 0 q = Q9) : Ok g X l yy_Mo_follow cc_Mo_follow 8 none 4 90 0 0 [.ref mo, .int (nI p9), .int (nI fw)] M (fun v M' => v = none ∧ rx [16] [17, 18, 19] mo M M' ∧ Rc M' mo B Q9 (TT B fw [] Q9.length 0 Q9)) := by
  refine ok_start (by decide) (Nat.le_of_ble_eq_true rfl) (by simp [Value.category]) ?_
  intro p e s m args below meth c9 x
  have hin : ∀ (N n j : Nat) (q1 : List Nat) (ha off np nx : Nat), j < q1.length → qok B q1 → B.length ≤ n + (j + 1) → ha = had (qB B q1) j → off = (if (hb B (q1.getD j 0)).1 = 4 then 1 else 0) → np = (bpt (hb B (q1.getD j 0))).length → nx = had (qB B q1) (j + 1) → (∀ (M5 : mm) (q5 : List Nat), rx [16] [17, 18, 19] mo M M5 → Rc M5 mo B q5 (TT B fw [] (j + 1) 0 q5) → clo B (j + 1) 0 q5 → j + 1 ≤ q5.length → bfs B n (j + 1) q5 = Q9 → vv g 8 p l e (rm 4 90 0 0) s m args below meth c9 (MQ below (ok_Q g (fun v M' => v = none ∧ rx [16] [17, 18, 19] mo M M' ∧ Rc M' mo B Q9 (TT B fw [] Q9.length 0 Q9))) args s 0 0 (ok_F g)) 0 0 2 [some (.ref mo), some (.int (nI p9)), some (.int (nI fw)), some (.int (nI (had (qB B q5) (j + 1)))), none, none, none, none] [] (M5)) → ∀ (kk : Nat) (M2 : mm) (q2 : List Nat), np + 1 - kk ≤ N → kk ≤ np → rx [16] [17, 18, 19] mo M M2 → Rc M2 mo B q2 (TT B fw [] j kk q2) → clo B j kk q2 → (∃ r, q2 = q1 ++ r) → bfs B n (j + 1) (visL B q2 ((bpt (hb B (q1.getD j 0))).drop kk)) = Q9 → vv g 8 p l e (rm 4 90 0 0) s m args below meth c9 (MQ below (ok_Q g (fun v M' => v = none ∧ rx [16] [17, 18, 19] mo M M' ∧ Rc M' mo B Q9 (TT B fw [] Q9.length 0 Q9))) args s 0 0 (ok_F g)) 0 0 93 [some (.ref mo), some (.int (nI p9)), some (.int (nI fw)), some (.int (nI ha)), some (.int (nI (ha + off))), some (.int (nI np)), some (.int (nI nx)), some (.int (nI (ha + off + kk)))] [] (M2) := by
    intro N
    induction N with
    | zero => intro n j q1 ha off np nx hj hq1 hn eha eof enp enx hout kk M2 q2 h1 h2; omega
    | succ N ih =>
      intro n j q1 ha off np nx hj hq1 hn eha eof enp enx hout kk M2 q2 hN hk F K hcl hpre hb9
      obtain ⟨r, hr⟩ := hpre
      have R2 := F.to R
      have hj2 : j < q2.length := by rw [hr]; simp; omega
      have hgd : q2.getD j 0 = q1.getD j 0 := by rw [hr, getD_app hj]
      have hqj : q1.getD j 0 < B.length := hq1.2 _ (getD_memN hj)
      have hbk := H.2 _ hqj
      have hq2 := K.2.2.2.2
      have hql := qB_le hq2
      have h600 := H.1
      have ha2 : had (qB B q2) j = ha := by rw [hr, had_qapp (by omega), eha]
      have ha1 : had (qB B q2) (j + 1) = nx := by rw [hr, had_qapp (by omega), enx]
      have hnx : nx = ha + bsz (hb B (q1.getD j 0)) := by rw [enx, eha, qB_had1 hj]
      have hbd : nx ≤ 600 := by rw [← ha1]; exact Nat.le_trans had_le (by omega)
      have hnp4 : np ≤ 4 := by rw [enp]; exact bpt_le4 hbk
      have hoff : off + np ≤ bsz (hb B (q1.getD j 0)) := by
        rw [eof, enp]
        unfold bsz bpt
        rcases hbk with h | h | h
        · rw [if_neg (by omega), if_neg (by omega), if_neg (by omega)]; omega
        · rw [if_pos h.1, if_neg (by omega), if_pos h.1]; omega
        · rw [if_neg (by omega), if_pos h.1, if_neg (by omega)]; simp
      by_cases hkn : kk < np
      · have hlt : kk < (bpt (hb B (q1.getD j 0))).length := by omega
        have hvp : vt B ((bpt (hb B (q1.getD j 0))).getD kk 0) := hval _ hqj _ (getD_mem hlt)
        have h5 : (hb B (q1.getD j 0)).1 ≠ 5 := fun z => by
          unfold bpt at hlt
          rw [if_pos z] at hlt
          simp at hlt
        have hrd : mm_a M2 (mm_f M2 7 17 mo) (ha + off + kk) = (bpt (hb B (q1.getD j 0))).getD kk 0 := by
          have h9 := K.2.2.1.1 j (by rw [T0_len]; exact hj2) (off + kk) (by rw [T0_hb hj2, pb_sz, hgd]; omega) (fun z => h5 (by rw [← hgd, ← pb_1 (B := B) (fr := fw) (q := q2), ← T0_hb hj2]; exact z.1))
          rw [T0_had, ha2] at h9
          rw [show ha + off + kk = ha + (off + kk) by omega]
          refine h9.trans ?_
          rw [T0_hb hj2, if_neg (Nat.lt_irrefl _), if_pos rfl, hgd]
          rw [← pb_get (B := B) (fr := fw) (q := q2) hlt]
          unfold bwd
          rw [pb_1]
          by_cases h4 : (hb B (q1.getD j 0)).1 = 4
          · rw [if_pos h4] at eof
            rw [if_pos h4, if_neg (by omega), show off + kk - 1 = kk by omega]
          · rw [if_neg h4] at eof
            rw [if_neg h4, show off + kk = kk by omega]
        have hw2 : wv B (fun a => ra M2 mo 11 (600 * p9 + a)) := by rw [F.a R (by decide) (by decide) (by decide)]; exact hw
        have hd9 : (bpt (hb B (q1.getD j 0))).drop kk = (bpt (hb B (q1.getD j 0))).getD kk 0 :: (bpt (hb B (q1.getD j 0))).drop (kk + 1) := drop_getD hlt
        obtain ⟨r4, e4⟩ := vis_pre (B := B) (q := q2) (t := (bpt (hb B (q1.getD j 0))).getD kk 0)
        have n17 : mm_n M2 (mm_f M2 7 17 mo) = 600 := R2.n 17 (by decide)
        refine vv_iload (pc := 93) x dd_Mo_follow_93 rfl ?_
        refine vv_iload (pc := 95) x dd_Mo_follow_95 rfl ?_
        refine vv_iload (pc := 97) x dd_Mo_follow_97 rfl ?_
        refine vv_iadd (pc := 99) x dd_Mo_follow_99 ?_
        rw [nI_add]
        refine vv_icmp_ge (pc := 100) x dd_Mo_follow_100 (tgt := 129) (by decide) (fun h100 => absurd h100 (nI_ge (by omega) (by omega))) (fun h100 => ?_)
        refine vv_aload_n (pc := 103) x dd_Mo_follow_103 rfl ?_
        refine lg_Mo_40 (pc := 104) G x dd_Mo_follow_104 R2.2.2 (R2.r 17 (by decide)) ?_
        refine vv_iload (pc := 107) x dd_Mo_follow_107 rfl ?_
        refine vv_aload_n (pc := 109) x dd_Mo_follow_109 rfl ?_
        refine vv_iload_n (pc := 110) x dd_Mo_follow_110 rfl ?_
        refine vv_aload_n (pc := 111) x dd_Mo_follow_111 rfl ?_
        refine lg_Mo_40 (pc := 112) G x dd_Mo_follow_112 R2.2.2 (R2.r 17 (by decide)) ?_
        refine vv_iload (pc := 115) x dd_Mo_follow_115 rfl ?_
        refine vv_iald (pc := 117) x dd_Mo_follow_117 (R2.t 17 (by decide)) (in_n (by omega) n17 (by decide)) ?_
        rw [nI_clamp (n := ha + off + kk) (by omega), hrd]
        refine vv_iload_n (pc := 118) x dd_Mo_follow_118 rfl ?_
        refine lv_Mo_89 (pc := 119) G x dd_Mo_follow_119 (R_put (fw := fw) G R2 H hp9 hw2 K hvp) R2.2.2 ⟨by decide, by decide⟩ (by decide) (by decide) (Nat.le_of_ble_eq_true rfl) (fun v119 M119 q119 => ?_)
        obtain ⟨rfl, F3, K3⟩ := q119
        have R3 := F3.to R2
        have f3 : mm_f M119 7 17 mo = mm_f M2 7 17 mo := F3.f
        have hdr : (vis B q2 ((bpt (hb B (q1.getD j 0))).getD kk 0)).drop q2.length = r4 := by rw [e4, List.drop_left]
        have hT3 : TT B fw [] j kk q2 ++ qB B ((vis B q2 ((bpt (hb B (q1.getD j 0))).getD kk 0)).drop q2.length) = TT B fw [] j kk (vis B q2 ((bpt (hb B (q1.getD j 0))).getD kk 0)) := by rw [hdr, e4, TT_grow hcl hj2]
        rw [hT3] at K3
        have hcl3 : clo B j (kk + 1) (vis B q2 ((bpt (hb B (q1.getD j 0))).getD kk 0)) := by
          have h7 := clo_step hcl hj2 (by rw [hgd]; exact hlt)
          rw [hgd] at h7
          exact h7
        have hb10 : bfs B n (j + 1) (visL B (vis B q2 ((bpt (hb B (q1.getD j 0))).getD kk 0)) ((bpt (hb B (q1.getD j 0))).drop (kk + 1))) = Q9 := by rw [← hb9, hd9, visL_cons]
        generalize hq3 : vis B q2 ((bpt (hb B (q1.getD j 0))).getD kk 0) = q3 at *
        have hj3 : j < q3.length := by rw [e4]; simp; omega
        have hgd3 : q3.getD j 0 = q1.getD j 0 := by rw [e4, getD_app hj2, hgd]
        have hb3 : hb (TT B fw [] j kk q3) j = pb B fw q3 kk (hb B (q1.getD j 0)) := by rw [T0_hb hj3, if_neg (Nat.lt_irrefl _), if_pos rfl, hgd3]
        have K4 := Rc_set R3 K3 (T0_bok H K3.2.2.2.2) (i := j) (k := kk) (by rw [T0_len]; exact hj3) (by rw [hb3, pb_bpt]; exact hlt) (rel B fw q3 ((bpt (hb B (q1.getD j 0))).getD kk 0))
        have hs4 := T0_set (B := B) (fw := fw) (q := q3) (kk := kk) hj3 (by rw [hgd3]; exact hlt)
        rw [hgd3] at hs4
        rw [hs4, T0_had, show had (qB B q3) j = ha by rw [e4, had_qapp (by omega), ha2], hb3, pb_1, ← eof] at K4
        refine vv_iast (pc := 122) x dd_Mo_follow_122 (by rw [← f3]; exact R3.t 17 (by decide)) (by rw [← f3]; exact in_n (N := 600) (by omega) (R3.n 17 (by decide)) (by decide)) ?_
        rw [nI_clamp (n := ha + off + kk) (by omega), ← f3]
        refine vv_iinc (pc := 123) x dd_Mo_follow_123 rfl (nI_1 (ha + off + kk)) (by decide) (ls2 := [_, _, _, _, _, _, _, _]) rfl ?_
        refine vv_goto (pc := 126) x dd_Mo_follow_126 (tgt := 93) (by decide) ?_
        exact ih n j q1 ha off np nx hj hq1 hn eha eof enp enx hout (kk + 1) (mw M119 mo 17 (upd (ra M119 mo 17) (ha + off + kk) (rel B fw q3 ((bpt (hb B (q1.getD j 0))).getD kk 0)))) q3 (by omega) (by omega) ((F.trans F3).trans (rx_mw.mono (by simp) (by simp))) K4 hcl3 ⟨r ++ r4, by rw [e4, hr, List.append_assoc]⟩ hb10
      · have hkn2 : kk = np := by omega
        have hK5 : Rc M2 mo B q2 (TT B fw [] (j + 1) 0 q2) := by rw [← TT_next (kk := kk) (by rw [hgd]; omega) (by rw [hgd]; omega)]; exact K
        have hb5 : bfs B n (j + 1) q2 = Q9 := by rw [← hb9, List.drop_eq_nil_of_le (by omega)]; rfl
        have h5 := hout M2 q2 F hK5 (clo_next hcl (by rw [hgd]; omega)) (by omega) hb5
        rw [ha1] at h5
        refine vv_iload (pc := 93) x dd_Mo_follow_93 rfl ?_
        refine vv_iload (pc := 95) x dd_Mo_follow_95 rfl ?_
        refine vv_iload (pc := 97) x dd_Mo_follow_97 rfl ?_
        refine vv_iadd (pc := 99) x dd_Mo_follow_99 ?_
        rw [nI_add]
        refine vv_icmp_ge (pc := 100) x dd_Mo_follow_100 (tgt := 129) (by decide) (fun h100 => ?_) (fun h100 => absurd h100 (fun z => z (nI_le (by omega) (by omega))))
        refine vv_iload (pc := 129) x dd_Mo_follow_129 rfl ?_
        refine vv_istore_n (pc := 131) x dd_Mo_follow_131 (by decide) (ls2 := [_, _, _, _, _, _, _, _]) rfl ?_
        refine vv_goto (pc := 132) x dd_Mo_follow_132 (tgt := 2) (by decide) ?_
        refine vv_weak (fun i9 v9 hi9 => ?_) h5
        rcases i9 with _ | _ | _ | _ | _ | _ | _ | _ | i9
        · exact hi9
        · exact hi9
        · exact hi9
        · exact hi9
        · simp at hi9
        · simp at hi9
        · simp at hi9
        · simp at hi9
        · simp at hi9
  have hout : ∀ (N n j : Nat) (M1 : mm) (q1 : List Nat), B.length + 1 - j < N → B.length ≤ n + j → rx [16] [17, 18, 19] mo M M1 → Rc M1 mo B q1 (TT B fw [] j 0 q1) → clo B j 0 q1 → j ≤ q1.length → bfs B n j q1 = Q9 → vv g 8 p l e (rm 4 90 0 0) s m args below meth c9 (MQ below (ok_Q g (fun v M' => v = none ∧ rx [16] [17, 18, 19] mo M M' ∧ Rc M' mo B Q9 (TT B fw [] Q9.length 0 Q9))) args s 0 0 (ok_F g)) 0 0 2 [some (.ref mo), some (.int (nI p9)), some (.int (nI fw)), some (.int (nI (had (qB B q1) j))), none, none, none, none] [] (M1) := by
    intro N
    induction N with
    | zero => intro n j M1 q1 h; omega
    | succ N ih =>
      intro n j M1 q1 hN hn F K hcl hj hb9
      have R1 := F.to R
      have hq1 := K.2.2.2.2
      have hql := q_len hq1
      have hqb := qB_le hq1
      have h600 := H.1
      have h16 : mm_i M1 7 16 mo = nI (hsz (qB B q1)) := K.1
      have n18 : mm_n M1 (mm_f M1 7 18 mo) = 600 := R1.n 18 (by decide)
      have n17 : mm_n M1 (mm_f M1 7 17 mo) = 600 := R1.n 17 (by decide)
      by_cases hlt : j < q1.length
      · have hqj : q1.getD j 0 < B.length := hq1.2 _ (getD_memN hlt)
        have hbk := H.2 _ hqj
        have hkb := bok_k hbk
        have hh1 := qB_had1 (B := B) hlt
        have hh2 : had (qB B q1) (j + 1) ≤ hsz (qB B q1) := had_le
        have bp := bsz_pos (hb B (q1.getD j 0))
        have hcl9 : (nI (had (qB B q1) j)).toNatClampNeg = had (qB B q1) j := nI_clamp (by omega)
        have hkd : mm_a M1 (mm_f M1 7 18 mo) (had (qB B q1) j) = nI (hb B (q1.getD j 0)).1 := by
          have h9 := (K.2.2.1.2.1 j (by rw [T0_len]; exact hlt)).1
          rw [T0_had, T0_hb hlt, pb_1] at h9
          exact h9
        obtain ⟨n, rfl⟩ : ∃ n', n = n' + 1 := ⟨n - 1, by omega⟩
        have hb10 : bfs B n (j + 1) (visL B q1 (bpt (hb B (q1.getD j 0)))) = Q9 := by
          rw [← hb9]
          show _ = (if j < q1.length then _ else q1)
          rw [if_pos hlt]
        rcases hbk with ⟨h3, hl9⟩ | ⟨h3, hl9⟩ | ⟨h3, hl9⟩
        · rw [h3] at hkd
          refine vv_iload_n (pc := 2) x dd_Mo_follow_2 rfl ?_
          refine vv_aload_n (pc := 3) x dd_Mo_follow_3 rfl ?_
          refine lg_Mo_79 (pc := 4) G x dd_Mo_follow_4 R1.2.2 ?_
          rw [h16]
          refine vv_icmp_ge (pc := 7) x dd_Mo_follow_7 (tgt := 135) (by decide) (fun h7 => absurd h7 (nI_ge (by omega) (by omega))) (fun h7 => ?_)
          refine vv_aload_n (pc := 10) x dd_Mo_follow_10 rfl ?_
          refine lg_Mo_43 (pc := 11) G x dd_Mo_follow_11 R1.2.2 (R1.r 18 (by decide)) ?_
          refine vv_iload_n (pc := 14) x dd_Mo_follow_14 rfl ?_
          refine vv_iald (pc := 15) x dd_Mo_follow_15 (R1.t 18 (by decide)) (in_n (by omega) n18 (by decide)) ?_
          rw [hcl9, hkd]
          refine vv_iconst (pc := 16) x dd_Mo_follow_16 (4) (by decide) ?_
          refine vv_icmp_ne (pc := 17) x dd_Mo_follow_17 (tgt := 26) (by decide) (fun h17 => ?_) (fun h17 => absurd h17 (by decide))
          refine vv_iload_n (pc := 26) x dd_Mo_follow_26 rfl ?_
          refine vv_istore (pc := 27) x dd_Mo_follow_27 (by decide) (ls2 := [_, _, _, _, _, none, none, none]) rfl ?_
          refine vv_aload_n (pc := 29) x dd_Mo_follow_29 rfl ?_
          refine lg_Mo_43 (pc := 30) G x dd_Mo_follow_30 R1.2.2 (R1.r 18 (by decide)) ?_
          refine vv_iload_n (pc := 33) x dd_Mo_follow_33 rfl ?_
          refine vv_iald (pc := 34) x dd_Mo_follow_34 (R1.t 18 (by decide)) (in_n (by omega) n18 (by decide)) ?_
          rw [hcl9, hkd]
          refine vv_iconst (pc := 35) x dd_Mo_follow_35 (3) (by decide) ?_
          refine vv_icmp_ne (pc := 36) x dd_Mo_follow_36 (tgt := 43) (by decide) (fun h36 => absurd h36 (fun z => z rfl)) (fun h36 => ?_)
          refine vv_iconst (pc := 39) x dd_Mo_follow_39 (2) (by decide) ?_
          refine vv_goto (pc := 40) x dd_Mo_follow_40 (tgt := 63) (by decide) ?_
          refine vv_istore (pc := 63) x dd_Mo_follow_63 (by decide) (ls2 := [_, _, _, _, _, _, none, none]) rfl ?_
          refine vv_aload_n (pc := 65) x dd_Mo_follow_65 rfl ?_
          refine lg_Mo_43 (pc := 66) G x dd_Mo_follow_66 R1.2.2 (R1.r 18 (by decide)) ?_
          refine vv_iload_n (pc := 69) x dd_Mo_follow_69 rfl ?_
          refine vv_iald (pc := 70) x dd_Mo_follow_70 (R1.t 18 (by decide)) (in_n (by omega) n18 (by decide)) ?_
          rw [hcl9, hkd]
          refine vv_iconst (pc := 71) x dd_Mo_follow_71 (4) (by decide) ?_
          refine vv_icmp_ne (pc := 72) x dd_Mo_follow_72 (tgt := 84) (by decide) (fun h72 => ?_) (fun h72 => absurd h72 (by decide))
          refine vv_iload_n (pc := 84) x dd_Mo_follow_84 rfl ?_
          refine vv_iconst (pc := 85) x dd_Mo_follow_85 (2) (by decide) ?_
          refine vv_iadd (pc := 86) x dd_Mo_follow_86 ?_
          rw [show nI (had (qB B q1) j) + 2 = nI (had (qB B q1) j + 2) from nI_add _ 2]
          refine vv_istore (pc := 87) x dd_Mo_follow_87 (by decide) (ls2 := [_, _, _, _, _, _, _, none]) rfl ?_
          refine vv_iload (pc := 89) x dd_Mo_follow_89 rfl ?_
          refine vv_istore (pc := 91) x dd_Mo_follow_91 (by decide) (ls2 := [_, _, _, _, _, _, _, _]) rfl ?_
          have h0 := hin 6 n j q1 (had (qB B q1) j) 0 2 (had (qB B q1) j + 2) hlt hq1 (by omega) rfl (by rw [if_neg (by omega)]) (by unfold bpt; rw [if_neg (by omega), hl9]) (by rw [qB_had1 hlt]; unfold bsz; rw [if_neg (by omega)]) (fun M5 q5 F5 K5 c5 l5 b5 => ih n (j + 1) M5 q5 (by omega) (by omega) F5 K5 c5 l5 b5) 0 M1 q1 (by omega) (by omega) F K hcl ⟨[], by simp⟩ hb10
          exact h0
        · rw [h3] at hkd
          have hf0 : mm_a M1 (mm_f M1 7 17 mo) (had (qB B q1) j) = nI (hb B (q1.getD j 0)).2.length := by
            have h9 := wv_0 (B := TT B fw [] j 0 q1) ⟨by rw [T0_sz]; omega, T0_bok H hq1⟩ K.2.2.1.1 (i := j) (by rw [T0_len]; exact hlt) (by rw [T0_hb hlt, pb_1]; exact h3)
            rw [T0_had, T0_hb hlt, pb_len] at h9
            exact h9
          refine vv_iload_n (pc := 2) x dd_Mo_follow_2 rfl ?_
          refine vv_aload_n (pc := 3) x dd_Mo_follow_3 rfl ?_
          refine lg_Mo_79 (pc := 4) G x dd_Mo_follow_4 R1.2.2 ?_
          rw [h16]
          refine vv_icmp_ge (pc := 7) x dd_Mo_follow_7 (tgt := 135) (by decide) (fun h7 => absurd h7 (nI_ge (by omega) (by omega))) (fun h7 => ?_)
          refine vv_aload_n (pc := 10) x dd_Mo_follow_10 rfl ?_
          refine lg_Mo_43 (pc := 11) G x dd_Mo_follow_11 R1.2.2 (R1.r 18 (by decide)) ?_
          refine vv_iload_n (pc := 14) x dd_Mo_follow_14 rfl ?_
          refine vv_iald (pc := 15) x dd_Mo_follow_15 (R1.t 18 (by decide)) (in_n (by omega) n18 (by decide)) ?_
          rw [hcl9, hkd]
          refine vv_iconst (pc := 16) x dd_Mo_follow_16 (4) (by decide) ?_
          refine vv_icmp_ne (pc := 17) x dd_Mo_follow_17 (tgt := 26) (by decide) (fun h17 => absurd h17 (fun z => z rfl)) (fun h17 => ?_)
          refine vv_iload_n (pc := 20) x dd_Mo_follow_20 rfl ?_
          refine vv_iconst (pc := 21) x dd_Mo_follow_21 (1) (by decide) ?_
          refine vv_iadd (pc := 22) x dd_Mo_follow_22 ?_
          rw [nI_1]
          refine vv_goto (pc := 23) x dd_Mo_follow_23 (tgt := 27) (by decide) ?_
          refine vv_istore (pc := 27) x dd_Mo_follow_27 (by decide) (ls2 := [_, _, _, _, _, none, none, none]) rfl ?_
          refine vv_aload_n (pc := 29) x dd_Mo_follow_29 rfl ?_
          refine lg_Mo_43 (pc := 30) G x dd_Mo_follow_30 R1.2.2 (R1.r 18 (by decide)) ?_
          refine vv_iload_n (pc := 33) x dd_Mo_follow_33 rfl ?_
          refine vv_iald (pc := 34) x dd_Mo_follow_34 (R1.t 18 (by decide)) (in_n (by omega) n18 (by decide)) ?_
          rw [hcl9, hkd]
          refine vv_iconst (pc := 35) x dd_Mo_follow_35 (3) (by decide) ?_
          refine vv_icmp_ne (pc := 36) x dd_Mo_follow_36 (tgt := 43) (by decide) (fun h36 => ?_) (fun h36 => absurd h36 (by decide))
          refine vv_aload_n (pc := 43) x dd_Mo_follow_43 rfl ?_
          refine lg_Mo_43 (pc := 44) G x dd_Mo_follow_44 R1.2.2 (R1.r 18 (by decide)) ?_
          refine vv_iload_n (pc := 47) x dd_Mo_follow_47 rfl ?_
          refine vv_iald (pc := 48) x dd_Mo_follow_48 (R1.t 18 (by decide)) (in_n (by omega) n18 (by decide)) ?_
          rw [hcl9, hkd]
          refine vv_iconst (pc := 49) x dd_Mo_follow_49 (4) (by decide) ?_
          refine vv_icmp_ne (pc := 50) x dd_Mo_follow_50 (tgt := 62) (by decide) (fun h50 => absurd h50 (fun z => z rfl)) (fun h50 => ?_)
          refine vv_aload_n (pc := 53) x dd_Mo_follow_53 rfl ?_
          refine lg_Mo_40 (pc := 54) G x dd_Mo_follow_54 R1.2.2 (R1.r 17 (by decide)) ?_
          refine vv_iload_n (pc := 57) x dd_Mo_follow_57 rfl ?_
          refine vv_iald (pc := 58) x dd_Mo_follow_58 (R1.t 17 (by decide)) (in_n (by omega) n17 (by decide)) ?_
          rw [hcl9, hf0]
          refine vv_goto (pc := 59) x dd_Mo_follow_59 (tgt := 63) (by decide) ?_
          refine vv_istore (pc := 63) x dd_Mo_follow_63 (by decide) (ls2 := [_, _, _, _, _, _, none, none]) rfl ?_
          refine vv_aload_n (pc := 65) x dd_Mo_follow_65 rfl ?_
          refine lg_Mo_43 (pc := 66) G x dd_Mo_follow_66 R1.2.2 (R1.r 18 (by decide)) ?_
          refine vv_iload_n (pc := 69) x dd_Mo_follow_69 rfl ?_
          refine vv_iald (pc := 70) x dd_Mo_follow_70 (R1.t 18 (by decide)) (in_n (by omega) n18 (by decide)) ?_
          rw [hcl9, hkd]
          refine vv_iconst (pc := 71) x dd_Mo_follow_71 (4) (by decide) ?_
          refine vv_icmp_ne (pc := 72) x dd_Mo_follow_72 (tgt := 84) (by decide) (fun h72 => absurd h72 (fun z => z rfl)) (fun h72 => ?_)
          refine vv_iload_n (pc := 75) x dd_Mo_follow_75 rfl ?_
          refine vv_iconst (pc := 76) x dd_Mo_follow_76 (1) (by decide) ?_
          refine vv_iadd (pc := 77) x dd_Mo_follow_77 ?_
          rw [nI_1]
          refine vv_iload (pc := 78) x dd_Mo_follow_78 rfl ?_
          refine vv_iadd (pc := 80) x dd_Mo_follow_80 ?_
          rw [nI_add]
          refine vv_goto (pc := 81) x dd_Mo_follow_81 (tgt := 87) (by decide) ?_
          refine vv_istore (pc := 87) x dd_Mo_follow_87 (by decide) (ls2 := [_, _, _, _, _, _, _, none]) rfl ?_
          refine vv_iload (pc := 89) x dd_Mo_follow_89 rfl ?_
          refine vv_istore (pc := 91) x dd_Mo_follow_91 (by decide) (ls2 := [_, _, _, _, _, _, _, _]) rfl ?_
          have h0 := hin 6 n j q1 (had (qB B q1) j) 1 (hb B (q1.getD j 0)).2.length (had (qB B q1) j + 1 + (hb B (q1.getD j 0)).2.length) hlt hq1 (by omega) rfl (by rw [if_pos (by omega)]) (by unfold bpt; rw [if_neg (by omega)]) (by rw [qB_had1 hlt]; unfold bsz; rw [if_pos (by omega)]; omega) (fun M5 q5 F5 K5 c5 l5 b5 => ih n (j + 1) M5 q5 (by omega) (by omega) F5 K5 c5 l5 b5) 0 M1 q1 (by omega) (by omega) F K hcl ⟨[], by simp⟩ hb10
          exact h0
        · rw [h3] at hkd
          refine vv_iload_n (pc := 2) x dd_Mo_follow_2 rfl ?_
          refine vv_aload_n (pc := 3) x dd_Mo_follow_3 rfl ?_
          refine lg_Mo_79 (pc := 4) G x dd_Mo_follow_4 R1.2.2 ?_
          rw [h16]
          refine vv_icmp_ge (pc := 7) x dd_Mo_follow_7 (tgt := 135) (by decide) (fun h7 => absurd h7 (nI_ge (by omega) (by omega))) (fun h7 => ?_)
          refine vv_aload_n (pc := 10) x dd_Mo_follow_10 rfl ?_
          refine lg_Mo_43 (pc := 11) G x dd_Mo_follow_11 R1.2.2 (R1.r 18 (by decide)) ?_
          refine vv_iload_n (pc := 14) x dd_Mo_follow_14 rfl ?_
          refine vv_iald (pc := 15) x dd_Mo_follow_15 (R1.t 18 (by decide)) (in_n (by omega) n18 (by decide)) ?_
          rw [hcl9, hkd]
          refine vv_iconst (pc := 16) x dd_Mo_follow_16 (4) (by decide) ?_
          refine vv_icmp_ne (pc := 17) x dd_Mo_follow_17 (tgt := 26) (by decide) (fun h17 => ?_) (fun h17 => absurd h17 (by decide))
          refine vv_iload_n (pc := 26) x dd_Mo_follow_26 rfl ?_
          refine vv_istore (pc := 27) x dd_Mo_follow_27 (by decide) (ls2 := [_, _, _, _, _, none, none, none]) rfl ?_
          refine vv_aload_n (pc := 29) x dd_Mo_follow_29 rfl ?_
          refine lg_Mo_43 (pc := 30) G x dd_Mo_follow_30 R1.2.2 (R1.r 18 (by decide)) ?_
          refine vv_iload_n (pc := 33) x dd_Mo_follow_33 rfl ?_
          refine vv_iald (pc := 34) x dd_Mo_follow_34 (R1.t 18 (by decide)) (in_n (by omega) n18 (by decide)) ?_
          rw [hcl9, hkd]
          refine vv_iconst (pc := 35) x dd_Mo_follow_35 (3) (by decide) ?_
          refine vv_icmp_ne (pc := 36) x dd_Mo_follow_36 (tgt := 43) (by decide) (fun h36 => ?_) (fun h36 => absurd h36 (by decide))
          refine vv_aload_n (pc := 43) x dd_Mo_follow_43 rfl ?_
          refine lg_Mo_43 (pc := 44) G x dd_Mo_follow_44 R1.2.2 (R1.r 18 (by decide)) ?_
          refine vv_iload_n (pc := 47) x dd_Mo_follow_47 rfl ?_
          refine vv_iald (pc := 48) x dd_Mo_follow_48 (R1.t 18 (by decide)) (in_n (by omega) n18 (by decide)) ?_
          rw [hcl9, hkd]
          refine vv_iconst (pc := 49) x dd_Mo_follow_49 (4) (by decide) ?_
          refine vv_icmp_ne (pc := 50) x dd_Mo_follow_50 (tgt := 62) (by decide) (fun h50 => ?_) (fun h50 => absurd h50 (by decide))
          refine vv_iconst (pc := 62) x dd_Mo_follow_62 (0) (by decide) ?_
          refine vv_istore (pc := 63) x dd_Mo_follow_63 (by decide) (ls2 := [_, _, _, _, _, _, none, none]) rfl ?_
          refine vv_aload_n (pc := 65) x dd_Mo_follow_65 rfl ?_
          refine lg_Mo_43 (pc := 66) G x dd_Mo_follow_66 R1.2.2 (R1.r 18 (by decide)) ?_
          refine vv_iload_n (pc := 69) x dd_Mo_follow_69 rfl ?_
          refine vv_iald (pc := 70) x dd_Mo_follow_70 (R1.t 18 (by decide)) (in_n (by omega) n18 (by decide)) ?_
          rw [hcl9, hkd]
          refine vv_iconst (pc := 71) x dd_Mo_follow_71 (4) (by decide) ?_
          refine vv_icmp_ne (pc := 72) x dd_Mo_follow_72 (tgt := 84) (by decide) (fun h72 => ?_) (fun h72 => absurd h72 (by decide))
          refine vv_iload_n (pc := 84) x dd_Mo_follow_84 rfl ?_
          refine vv_iconst (pc := 85) x dd_Mo_follow_85 (2) (by decide) ?_
          refine vv_iadd (pc := 86) x dd_Mo_follow_86 ?_
          rw [show nI (had (qB B q1) j) + 2 = nI (had (qB B q1) j + 2) from nI_add _ 2]
          refine vv_istore (pc := 87) x dd_Mo_follow_87 (by decide) (ls2 := [_, _, _, _, _, _, _, none]) rfl ?_
          refine vv_iload (pc := 89) x dd_Mo_follow_89 rfl ?_
          refine vv_istore (pc := 91) x dd_Mo_follow_91 (by decide) (ls2 := [_, _, _, _, _, _, _, _]) rfl ?_
          have h0 := hin 6 n j q1 (had (qB B q1) j) 0 0 (had (qB B q1) j + 2) hlt hq1 (by omega) rfl (by rw [if_neg (by omega)]) (by unfold bpt; rw [if_pos h3]; rfl) (by rw [qB_had1 hlt]; unfold bsz; rw [if_neg (by omega)]) (fun M5 q5 F5 K5 c5 l5 b5 => ih n (j + 1) M5 q5 (by omega) (by omega) F5 K5 c5 l5 b5) 0 M1 q1 (by omega) (by omega) F K hcl ⟨[], by simp⟩ hb10
          exact h0
      · have hjq : j = q1.length := by omega
        have hQ : Q9 = q1 := by
          rw [← hb9]
          cases n with
          | zero => rfl
          | succ n => show (if j < q1.length then _ else q1) = q1; rw [if_neg hlt]
        have hjh : had (qB B q1) j = hsz (qB B q1) := by rw [hjq, ← qB_len (B := B), had_len]
        refine vv_iload_n (pc := 2) x dd_Mo_follow_2 rfl ?_
        refine vv_aload_n (pc := 3) x dd_Mo_follow_3 rfl ?_
        refine lg_Mo_79 (pc := 4) G x dd_Mo_follow_4 R1.2.2 ?_
        rw [h16, hjh]
        refine vv_icmp_ge (pc := 7) x dd_Mo_follow_7 (tgt := 135) (by decide) (fun h7 => ?_) (fun h7 => absurd h7 (fun z => z (nI_le (Nat.le_refl _) (by omega))))
        exact vv_vret (pc := 135) x dd_Mo_follow_135 rfl (by decide) (by decide) ⟨rfl, F, by rw [hQ, ← hjq]; exact K⟩
  refine vv_iconst (pc := 0) x dd_Mo_follow_0 (0) (by decide) ?_
  refine vv_istore_n (pc := 1) x dd_Mo_follow_1 (by decide) (ls2 := [_, _, _, _, none, none, none, none]) rfl ?_
  have h0 := hout (B.length + 2) B.length 0 M q (by omega) (by omega) rx.rf (by rw [TT_0]; exact K) ⟨fun m9 hm9 => by omega, fun t9 ht9 => by simp at ht9⟩ (Nat.zero_le _) hQ9
  rw [had_0] at h0
  exact h0
set_option maxRecDepth 100000 in
set_option maxHeartbeats 4000000 in
theorem R_reach (G : gc g X t0 l) (R : rs pw D ow sl M mo) (H : hok B) {p9 : Nat} (hp9 : p9 < 8) (hw : wv B (fun a => ra M mo 11 (600 * p9 + a))) (hval : hval B) {t : Int32} (hv : vt B t) : Ok g X l yy_Mo_reach cc_Mo_reach 4 (some .int) 5 117 0 0 [.ref mo, .int (nI p9), .int t] M (fun v M' => v = some (.int (nI (hsz (qB B (led B t))))) ∧ rx [16] [17, 18, 19] mo M M') := by
  refine ok_start (by decide) (Nat.le_of_ble_eq_true rfl) (by simp [Value.category]) ?_
  intro p e s m args below meth c9 x
  refine vv_aload_n (pc := 0) x dd_Mo_reach_0 rfl ?_
  refine lv_Mo_96 (pc := 1) G x dd_Mo_reach_1 (k_rbegin G R) R.2.2 ⟨by decide, by decide⟩ (by decide) (by decide) (Nat.le_of_ble_eq_true rfl) (fun v1 M1 q1 => ?_)
  obtain ⟨rfl, F1, h16, hA⟩ := q1
  have R1 := F1.to R
  have K1 := Rc_nil h16 hA H
  have hw1 : wv B (fun a => ra M1 mo 11 (600 * p9 + a)) := by rw [F1.a R (by decide) (by decide) (by decide)]; exact hw
  refine vv_aload_n (pc := 4) x dd_Mo_reach_4 rfl ?_
  refine vv_iload_n (pc := 5) x dd_Mo_reach_5 rfl ?_
  refine vv_iload_n (pc := 6) x dd_Mo_reach_6 rfl ?_
  refine vv_iconst (pc := 7) x dd_Mo_reach_7 (0) (by decide) ?_
  refine lv_Mo_89 (pc := 8) G x dd_Mo_reach_8 (R_put (fw := 0) G R1 H hp9 hw1 K1 hv) R1.2.2 ⟨by decide, by decide⟩ (by decide) (by decide) (Nat.le_of_ble_eq_true rfl) (fun v8 M8 q8 => ?_)
  obtain ⟨rfl, F2, K2⟩ := q8
  have R2 := F2.to R1
  have hw2 : wv B (fun a => ra M8 mo 11 (600 * p9 + a)) := by rw [F2.a R1 (by decide) (by decide) (by decide)]; exact hw1
  have K2' : Rc M8 mo B (vis B [] t) (qB B (vis B [] t)) := K2
  refine vv_istore_n (pc := 11) x dd_Mo_reach_11 (by decide) (ls2 := [_, _, _, _]) rfl ?_
  refine vv_aload_n (pc := 12) x dd_Mo_reach_12 rfl ?_
  refine vv_iload_n (pc := 13) x dd_Mo_reach_13 rfl ?_
  refine vv_iconst (pc := 14) x dd_Mo_reach_14 (0) (by decide) ?_
  refine lv_Mo_99 (pc := 15) G x dd_Mo_reach_15 (R_follow (fw := 0) G R2 H hp9 hw2 K2' hval (led B t) rfl) R2.2.2 ⟨by decide, by decide⟩ (by decide) (by decide) (Nat.le_of_ble_eq_true rfl) (fun v15 M15 q15 => ?_)
  obtain ⟨rfl, F3, K3⟩ := q15
  have R3 := F3.to R2
  refine vv_aload_n (pc := 18) x dd_Mo_reach_18 rfl ?_
  refine lg_Mo_79 (pc := 19) G x dd_Mo_reach_19 R3.2.2 ?_
  rw [show mm_i M15 7 16 mo = nI (hsz (qB B (led B t))) from K3.1]
  exact vv_iret (pc := 22) x dd_Mo_reach_22 rfl (by decide) (by decide) ⟨rfl, ((F1.mono (by simp) (by simp)).trans F2).trans F3⟩
end M50
