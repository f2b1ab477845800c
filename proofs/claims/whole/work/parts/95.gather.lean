/-! ===== the reference: a heap is gathered ===== -/
section M52
variable {g : gg} {X : State → Prop} {t0 : Nat} {l : Launch} {M : mm} {M1 M2 : mm} {pw : Nat} {D : Nat → Prop} {ow sl : Nat → Nat} {mo : Nat} {Ki Ka : List Nat} {k : Nat} {pl : List Nat} {Z : zst} {B : List bk} {q : List Nat}
theorem upd_eq {f : Nat → Int32} {i j : Nat} {v : Int32} (h : j = i) : upd f i v j = v := if_pos h
theorem upd_ne {f : Nat → Int32} {i j : Nat} {v : Int32} (h : j ≠ i) : upd f i v j = f j := if_neg h
theorem pdr_rem {ws : List Nat} {p : pp} {a : Nat} (hc : ∀ w, (a :: ws).count w ≤ p.2.2.2 w) : ∀ v, ws.count v ≤ (pdr p a).2.2.2 v := by
  intro v
  have hcv := hc v
  have e := pdr_cnt (ws := [a]) (p := p) (w := v) (fun x => by
    have := hc x
    rw [List.count_cons] at this ⊢
    simp only [List.count_nil]
    omega)
  have e1 : ([a].foldl pdr p).2.2.2 v = (pdr p a).2.2.2 v := rfl
  rw [← e1, e]
  rw [List.count_cons] at hcv ⊢
  simp only [List.count_nil]
  omega
theorem pgd_b {p : pp} {w : Nat} (h : pgd p) (hw : w < 30) (hc : 1 ≤ p.2.2.2 w) : 1 ≤ p.2.1 := by
  rw [h.1.1, nz_zero (w := w) List.nodup_range (by simpa using hw) (by omega)]
  omega
theorem qB_cat {r : List Nat} : qB B q ++ qB B r = qB B (q ++ r) := by unfold qB; rw [List.map_append]
theorem put_qB {t : Int32} : qB B q ++ qB B ((vis B q t).drop q.length) = qB B (vis B q t) := by
  obtain ⟨r, e⟩ := vis_pre (B := B) (q := q) (t := t)
  rw [e, List.drop_left, qB_cat]
theorem take_1 {L : List Int32} {j : Nat} (h : j < L.length) : L.take (j + 1) = L.take j ++ [L.getD j 0] := by
  rw [List.take_add_one, List.getElem?_eq_getElem h, List.getD_eq_getElem?_getD, List.getElem?_eq_getElem h]
  rfl
/-- registers and messages, put so far -/
def GA (M M1 : mm) (mo p9 : Nat) (P : pcs) (nr nm : Nat) : Prop := ((∀ j, j < nr → ra M1 mo 8 (4 * p9 + j) = rel P.2.2.2.2 0 (rts P) (P.2.2.1.getD j 0)) ∧ ∀ x, ¬ (4 * p9 ≤ x ∧ x < 4 * p9 + nr) → ra M1 mo 8 x = ra M mo 8 x) ∧ (∀ j, j < nm → ra M1 mo 10 (520 * p9 + j) = rel P.2.2.2.2 0 (rts P) (P.2.2.2.1.getD j 0)) ∧ ∀ x, ¬ (520 * p9 ≤ x ∧ x < 520 * p9 + nm) → ra M1 mo 10 x = ra M mo 10 x
theorem GA.same {M3 : mm} {p9 nr nm : Nat} {P : pcs} (h : GA M M1 mo p9 P nr nm) (e8 : ra M3 mo 8 = ra M1 mo 8) (e10 : ra M3 mo 10 = ra M1 mo 10) : GA M M3 mo p9 P nr nm := by
  unfold GA at h ⊢
  rw [e8, e10]
  exact h
theorem Rc.same {M3 : mm} {T : List bk} (h : Rc M1 mo B q T) (e16 : ri M3 mo 16 = ri M1 mo 16) (e19 : ra M3 mo 19 = ra M1 mo 19) (e17 : ra M3 mo 17 = ra M1 mo 17) (e18 : ra M3 mo 18 = ra M1 mo 18) : Rc M3 mo B q T := by
  unfold Rc at h ⊢
  rw [e16, e19, e17, e18]
  exact h
theorem rel_pre {fw : Nat} {t : Int32} {Q : List Nat} (h : ∃ r, Q = vis B q t ++ r) : rel B fw (vis B q t) t = rel B fw Q t := by
  obtain ⟨r, e⟩ := h
  rw [e, rel_app (fun i hi => vis_mem hi)]
theorem gather_fin {i : Nat} {MF : mm} (h : MI pw D ow sl M mo pl Z) (hZ : zok pw Z) (hp6 : pw ≤ 600) (hml : ∀ P ∈ Z.1, P.2.2.2.1.length ≤ 512) (hi : i < Z.1.length) (F : rx [4, 13, 16] [7, 8, 10, 11, 12, 14, 15, 17, 18, 19] mo M MF) (hG : GA M MF mo (pl.getD i 0) (zget Z i) 4 (zget Z i).2.2.2.1.length) (h4 : ri MF mo 4 = nI (Z.2.2.2 + 1)) (hq : RQ MF mo ((lft (zget Z i)).foldl pdr Z.2.1)) (hK : Rc MF mo (zget Z i).2.2.2.2 (rts (zget Z i)) (TT (zget Z i).2.2.2.2 0 [] (rts (zget Z i)).length 0 (rts (zget Z i)))) (h7 : ra MF mo 7 (pl.getD i 0) = nI (hsz (qB (zget Z i).2.2.2.2 (rts (zget Z i))))) (h7o : ∀ x, x ≠ pl.getD i 0 → ra MF mo 7 x = ra M mo 7 x) (h11 : ∀ a, a < 600 → ra MF mo 11 (600 * pl.getD i 0 + a) = (if a < hsz (qB (zget Z i).2.2.2.2 (rts (zget Z i))) then ra MF mo 17 a else 0) ∧ ra MF mo 12 (600 * pl.getD i 0 + a) = ra MF mo 18 a) (h11o : ∀ x, ¬ (600 * pl.getD i 0 ≤ x ∧ x < 600 * pl.getD i 0 + 600) → ra MF mo 11 x = ra M mo 11 x ∧ ra MF mo 12 x = ra M mo 12 x) : MI pw D ow sl MF mo pl (zcol Z i) := by
  have hm := zget_mem hi
  have hk := hZ.1 _ hm
  obtain ⟨R, ⟨i1, i2, i3, i4⟩, ⟨l1, l2, l3⟩, hA, hE, -⟩ := id h
  have e5 : ra MF mo 5 = ra M mo 5 := F.a R (by decide) (by decide) (by decide)
  have e6 : ra MF mo 6 = ra M mo 6 := F.a R (by decide) (by decide) (by decide)
  have e9 : ra MF mo 9 = ra M mo 9 := F.a R (by decide) (by decide) (by decide)
  obtain ⟨⟨a1, a2, a3⟩, a4, ⟨a5, a6⟩, a7, a8⟩ := hA i hi
  obtain ⟨⟨g1, g2⟩, g3, g4⟩ := hG
  obtain ⟨k1, k2, ⟨k3, k4, k5⟩, k6, k7⟩ := hK
  have hql := qB_le k7
  have h600 := hk.2.1.1
  have hml9 := hml _ hm
  have hTo : hok (TT (zget Z i).2.2.2.2 0 [] (rts (zget Z i)).length 0 (rts (zget Z i))) := ⟨by rw [T0_sz]; omega, T0_bok hk.2.1 k7⟩
  refine MI_step h (fun P hP => ⟨(hZ.1 P hP).2.1, hml P hP⟩) F hi (fun p hp hne => ?_) ?_ (F.i (by decide)) ((F.i (by decide)).trans i2) (F.i (by decide)) h4 hq
  · refine ⟨by rw [e5], by rw [e6], h7o p hne, fun j hj => g2 _ (by omega), by rw [e9], fun j hj => g4 _ (by omega), fun a ha => (h11o _ (by omega)).1, fun a ha => (h11o _ (by omega)).2⟩
  · refine ⟨⟨by rw [e5]; exact a1, by rw [e6]; exact a2, ?_⟩, fun j hj => ?_, ⟨?_, fun j hj => ?_⟩, ?_, ?_⟩
    · rw [h7, col_used]
    · rw [g1 j hj]
      show _ = (List.map _ _).getD j 0
      rw [map_getD (by rw [hk.1]; exact hj)]
    · rw [e9, a5]
      show _ = nI (List.map _ _).length
      rw [List.length_map]
    · have hj2 : j < (zget Z i).2.2.2.1.length := by
        have : j < (List.map (rel (zget Z i).2.2.2.2 0 (rts (zget Z i))) (zget Z i).2.2.2.1).length := hj
        rw [List.length_map] at this
        exact this
      rw [g3 j hj2]
      show _ = (List.map _ _).getD j 0
      rw [map_getD hj2]
    · show wv (TT (zget Z i).2.2.2.2 0 [] (rts (zget Z i)).length 0 (rts (zget Z i))) _
      intro x hx j hj h5
      have hb9 := hok_bnd hTo hx
      have hb8 := had_blk hx
      rw [T0_sz] at hb8
      show ra MF mo 11 (600 * pl.getD i 0 + (had _ x + j)) = _
      rw [(h11 _ (by omega)).1, if_pos (by omega)]
      exact k3 x hx j hj h5
    · show kv (TT (zget Z i).2.2.2.2 0 [] (rts (zget Z i)).length 0 (rts (zget Z i))) _
      intro x hx
      have hb9 := hok_bnd hTo hx
      have bp := bsz_pos (hb (TT (zget Z i).2.2.2.2 0 [] (rts (zget Z i)).length 0 (rts (zget Z i))) x)
      refine ⟨?_, fun j h1 h2 => ?_⟩
      · show ra MF mo 12 (600 * pl.getD i 0 + had _ x) = _
        rw [(h11 _ (by omega)).2]
        exact (k4 x hx).1
      · show ra MF mo 12 (600 * pl.getD i 0 + (had _ x + j)) = _
        rw [(h11 _ (by omega)).2]
        exact (k4 x hx).2 j h1 h2
set_option maxRecDepth 100000 in
set_option maxHeartbeats 1000000 in
theorem R_gather (G : gc g X t0 l) (h : MI pw D ow sl M mo pl Z) (hZ : zok pw Z) (hp6 : pw ≤ 600) (hml : ∀ P ∈ Z.1, P.2.2.2.1.length ≤ 512) {i : Nat} (hi : i < Z.1.length) : Ok g X l yy_Mo_gather cc_Mo_gather 3 none 5 117 0 0 [.ref mo, .int (nI (pl.getD i 0))] M (fun v M' => v = none ∧ rx [4, 13, 16] [7, 8, 10, 11, 12, 14, 15, 17, 18, 19] mo M M' ∧ MI pw D ow sl M' mo pl (zcol Z i)) := by
  refine ok_start (by decide) (Nat.le_of_ble_eq_true rfl) (by simp [Value.category]) ?_
  intro p e s m args below meth c9 x
  have hm := zget_mem hi
  have hk := hZ.1 _ hm
  obtain ⟨R, ⟨i1, i2, i3, i4⟩, ⟨l1, l2, l3⟩, hA, hE, hq0⟩ := id h
  obtain ⟨⟨a1, a2, a3⟩, a4, ⟨a5, a6⟩, a7, a8⟩ := hA i hi
  have hp8 : pl.getD i 0 < 8 := l3 _ (getD_memN (by omega))
  have hcnt := lft_cnt hZ hi
  have hml9 := hml _ hm
  have hfin := fun (MF : mm) => gather_fin (MF := MF) h hZ hp6 hml hi
  have hpg := hZ.2.2.2.2.1
  obtain ⟨k1, k2, k3, k4, k5, k6, k7, k8⟩ := hk
  have h600 := k2.1
  have hrp : ∀ n : Nat, ∃ r, rts (zget Z i) = visL (zget Z i).2.2.2.2 [] ((zget Z i).2.2.1 ++ (zget Z i).2.2.2.1.take n) ++ r := by
    intro n
    obtain ⟨r1, e1⟩ := bfs_pre (B := (zget Z i).2.2.2.2) (n := (zget Z i).2.2.2.2.length) (j := 0) (q := visL (zget Z i).2.2.2.2 [] ((zget Z i).2.2.1 ++ (zget Z i).2.2.2.1))
    obtain ⟨r2, e2⟩ := visL_pre (B := (zget Z i).2.2.2.2) (ts := (zget Z i).2.2.2.1.drop n) (q := visL (zget Z i).2.2.2.2 [] ((zget Z i).2.2.1 ++ (zget Z i).2.2.2.1.take n))
    rw [← visL_app, List.append_assoc, List.take_append_drop] at e2
    exact ⟨r2 ++ r1, by unfold rts; rw [e1, e2, List.append_assoc]⟩
  have hrr : ∀ n : Nat, ∃ r, rts (zget Z i) = visL (zget Z i).2.2.2.2 [] ((zget Z i).2.2.1.take n) ++ r := by
    intro n
    obtain ⟨r1, e1⟩ := hrp 0
    rw [List.take_zero, List.append_nil] at e1
    obtain ⟨r2, e2⟩ := visL_pre (B := (zget Z i).2.2.2.2) (ts := (zget Z i).2.2.1.drop n) (q := visL (zget Z i).2.2.2.2 [] ((zget Z i).2.2.1.take n))
    rw [← visL_app, List.take_append_drop] at e2
    exact ⟨r2 ++ r1, by rw [e1, e2, List.append_assoc]⟩
  have hQok : qok (zget Z i).2.2.2.2 (rts (zget Z i)) := rts_ok
  have hlft : lft (zget Z i) = lf (zget Z i).2.2.2.2 (fun x => decide (x ∉ rts (zget Z i))) (zget Z i).2.2.2.2.length 0 := rfl
  have hbf : bfs (zget Z i).2.2.2.2 (zget Z i).2.2.2.2.length 0 (visL (zget Z i).2.2.2.2 [] ((zget Z i).2.2.1 ++ (zget Z i).2.2.2.1)) = rts (zget Z i) := rfl
  generalize hP9 : zget Z i = P at *
  generalize hp9 : pl.getD i 0 = p9 at *
  generalize hQ9 : rts P = Q at *
  have hqs := qB_le hQok
  have hl5 : ∀ (M4 : mm), rx [4, 13, 16] [8, 10, 14, 15, 17, 18, 19] mo M M4 → GA M M4 mo p9 P 4 P.2.2.2.1.length → ri M4 mo 4 = nI (Z.2.2.2 + 1) → RQ M4 mo ((lft P).foldl pdr Z.2.1) → Rc M4 mo P.2.2.2.2 Q (TT P.2.2.2.2 0 [] Q.length 0 Q) → ∀ (n a : Nat) (M5 : mm), a + n = 600 → rx [] [11, 12] mo M4 M5 → (∀ b, b < a → ra M5 mo 11 (600 * p9 + b) = (if b < hsz (qB P.2.2.2.2 Q) then ra M4 mo 17 b else 0) ∧ ra M5 mo 12 (600 * p9 + b) = ra M4 mo 18 b) → (∀ x, ¬ (600 * p9 ≤ x ∧ x < 600 * p9 + 600) → ra M5 mo 11 x = ra M4 mo 11 x ∧ ra M5 mo 12 x = ra M4 mo 12 x) → vv g 3 p l e (rm 5 117 0 0) s m args below meth c9 (MQ below (ok_Q g (fun v M' => v = none ∧ rx [4, 13, 16] [7, 8, 10, 11, 12, 14, 15, 17, 18, 19] mo M M' ∧ MI pw D ow sl M' mo pl (zcol Z i))) args s 0 0 (ok_F g)) 0 0 164 [some (.ref mo), some (.int (nI p9)), some (.int (nI a))] [] (M5) := by
    intro M4 F4 hG h4 hRQ hK n
    have R4 := F4.to R
    induction n with
    | zero =>
      intro a M5 ha F5 hin9 hout9
      have R5 := F5.to R4
      have n7 : mm_n M5 (mm_f M5 7 7 mo) = 8 := R5.n 7 (by decide)
      have e16 : mm_i M5 7 16 mo = nI (hsz (qB P.2.2.2.2 Q)) := (F5.i (by decide)).trans hK.1
      have F6 : rx [4, 13, 16] [7, 8, 10, 11, 12, 14, 15, 17, 18, 19] mo M5 (mw M5 mo 7 (upd (ra M5 mo 7) p9 (nI (hsz (qB P.2.2.2.2 Q))))) := rx_mw.mono (by simp) (by simp)
      have F56 : rx [4, 13, 16] [7, 8, 10, 11, 12, 14, 15, 17, 18, 19] mo M (mw M5 mo 7 (upd (ra M5 mo 7) p9 (nI (hsz (qB P.2.2.2.2 Q))))) := ((F4.mono (by decide) (by decide)).trans (F5.mono (by simp) (by simp))).trans F6
      have g : ∀ k, k ∈ RA → k ≠ 7 → k ∉ [11, 12] → ra (mw M5 mo 7 (upd (ra M5 mo 7) p9 (nI (hsz (qB P.2.2.2.2 Q))))) mo k = ra M4 mo k := fun k h1 h2 h3 => (ra_mw_n R5 (by decide) h1 h2).trans (F5.a R4 h1 (by decide) h3)
      have g2 : ∀ k, k ∈ RA → k ≠ 7 → ra (mw M5 mo 7 (upd (ra M5 mo 7) p9 (nI (hsz (qB P.2.2.2.2 Q))))) mo k = ra M5 mo k := fun k h1 h2 => ra_mw_n R5 (by decide) h1 h2
      have e7 : ra M5 mo 7 = ra M mo 7 := (F5.a R4 (by decide) (by decide) (by decide)).trans (F4.a R (by decide) (by decide) (by decide))
      refine vv_iload_n (pc := 164) x dd_Mo_gather_164 rfl ?_
      refine vv_sipush (pc := 165) x dd_Mo_gather_165 (600) (by decide) ?_
      refine vv_icmp_ge (pc := 168) x dd_Mo_gather_168 (tgt := 225) (by decide) (fun h168 => ?_) (fun h168 => absurd h168 (fun z => z (nI_le (a := 600) (b := a) (by omega) (by omega))))
      refine vv_aload_n (pc := 225) x dd_Mo_gather_225 rfl ?_
      refine lg_Mo_16 (pc := 226) G x dd_Mo_gather_226 R5.2.2 (R5.r 7 (by decide)) ?_
      refine vv_iload_n (pc := 229) x dd_Mo_gather_229 rfl ?_
      refine vv_aload_n (pc := 230) x dd_Mo_gather_230 rfl ?_
      refine lg_Mo_79 (pc := 231) G x dd_Mo_gather_231 R5.2.2 ?_
      rw [e16]
      refine vv_iast (pc := 234) x dd_Mo_gather_234 (R5.t 7 (by decide)) (in_n (by omega) n7 (by decide)) ?_
      rw [nI_clamp (n := p9) (by omega)]
      exact vv_vret (pc := 235) x dd_Mo_gather_235 rfl (by decide) (by decide) ⟨rfl, F56, by
          refine hfin (mw M5 mo 7 (upd (ra M5 mo 7) p9 (nI (hsz (qB P.2.2.2.2 Q))))) F56 (hG.same (g 8 (by decide) (by decide) (by decide)) (g 10 (by decide) (by decide) (by decide))) ?_ ?_ ?_ ?_ ?_ ?_ ?_
          · exact (show ri M5 mo 4 = _ from (F5.i (by decide)).trans h4)
          · exact ⟨(show ri M5 mo 13 = _ from (F5.i (by decide)).trans hRQ.1), fun w hw => by rw [g 14 (by decide) (by decide) (by decide), g 15 (by decide) (by decide) (by decide)]; exact hRQ.2 w hw⟩
          · exact hK.same (F5.i (by decide)) (g 19 (by decide) (by decide) (by decide)) (g 17 (by decide) (by decide) (by decide)) (g 18 (by decide) (by decide) (by decide))
          · rw [ra_mw]; unfold upd; rw [if_pos rfl]
          · intro x hx
            rw [ra_mw, e7]; unfold upd; rw [if_neg hx]
          · intro b hb9
            rw [g2 11 (by decide) (by decide), g2 12 (by decide) (by decide), g 17 (by decide) (by decide) (by decide), g 18 (by decide) (by decide) (by decide)]
            exact hin9 b (by omega)
          · intro x hx
            rw [g2 11 (by decide) (by decide), g2 12 (by decide) (by decide)]
            have h9 := hout9 x hx
            rw [h9.1, h9.2, F4.a R (by decide) (by decide) (by decide), F4.a R (by decide) (by decide) (by decide)]
            exact ⟨rfl, rfl⟩⟩
    | succ n ih =>
      intro a M5 ha F5 hin9 hout9
      have R5 := F5.to R4
      have hca : (nI a).toNatClampNeg = a := nI_clamp (by omega)
      have hcx : (nI (600 * p9 + a)).toNatClampNeg = 600 * p9 + a := nI_clamp (by omega)
      have n11 : mm_n M5 (mm_f M5 7 11 mo) = 4800 := R5.n 11 (by decide)
      have e16 : mm_i M5 7 16 mo = nI (hsz (qB P.2.2.2.2 Q)) := (F5.i (by decide)).trans hK.1
      have e17 : ra M5 mo 17 = ra M4 mo 17 := F5.a R4 (by decide) (by decide) (by decide)
      have e18 : ra M5 mo 18 = ra M4 mo 18 := F5.a R4 (by decide) (by decide) (by decide)
      have hst : ∀ (v : Int32), v = (if a < hsz (qB P.2.2.2.2 Q) then ra M4 mo 17 a else 0) → vv g 3 p l e (rm 5 117 0 0) s m args below meth c9 (MQ below (ok_Q g (fun v M' => v = none ∧ rx [4, 13, 16] [7, 8, 10, 11, 12, 14, 15, 17, 18, 19] mo M M' ∧ MI pw D ow sl M' mo pl (zcol Z i))) args s 0 0 (ok_F g)) 0 0 201 [some (.ref mo), some (.int (nI p9)), some (.int (nI a))] [] ((mw M5 mo 11 (upd (ra M5 mo 11) (600 * p9 + a) v))) := by
        intro v hv
        have F6 : rx [] [11, 12] mo M5 (mw M5 mo 11 (upd (ra M5 mo 11) (600 * p9 + a) v)) := rx_mw.mono (by simp) (by simp)
        have R6 := F6.to R5
        have b11 : ra (mw M5 mo 11 (upd (ra M5 mo 11) (600 * p9 + a) v)) mo 11 = upd (ra M5 mo 11) (600 * p9 + a) v := ra_mw
        have b12 : ra (mw M5 mo 11 (upd (ra M5 mo 11) (600 * p9 + a) v)) mo 12 = ra M5 mo 12 := ra_mw_n R5 (by decide) (by decide) (by decide)
        have b18 : ra (mw M5 mo 11 (upd (ra M5 mo 11) (600 * p9 + a) v)) mo 18 = ra M4 mo 18 := (ra_mw_n R5 (by decide) (by decide) (by decide)).trans e18
        generalize mw M5 mo 11 (upd (ra M5 mo 11) (600 * p9 + a) v) = M6 at *
        have n12 : mm_n M6 (mm_f M6 7 12 mo) = 4800 := R6.n 12 (by decide)
        have n18 : mm_n M6 (mm_f M6 7 18 mo) = 600 := R6.n 18 (by decide)
        refine vv_aload_n (pc := 201) x dd_Mo_gather_201 rfl ?_
        refine lg_Mo_31 (pc := 202) G x dd_Mo_gather_202 R6.2.2 (R6.r 12 (by decide)) ?_
        refine vv_sipush (pc := 205) x dd_Mo_gather_205 (600) (by decide) ?_
        refine vv_iload_n (pc := 208) x dd_Mo_gather_208 rfl ?_
        refine vv_imul (pc := 209) x dd_Mo_gather_209 ?_
        refine vv_iload_n (pc := 210) x dd_Mo_gather_210 rfl ?_
        refine vv_iadd (pc := 211) x dd_Mo_gather_211 ?_
        rw [ix600]
        refine vv_aload_n (pc := 212) x dd_Mo_gather_212 rfl ?_
        refine lg_Mo_43 (pc := 213) G x dd_Mo_gather_213 R6.2.2 (R6.r 18 (by decide)) ?_
        refine vv_iload_n (pc := 216) x dd_Mo_gather_216 rfl ?_
        refine vv_iald (pc := 217) x dd_Mo_gather_217 (R6.t 18 (by decide)) (in_n (by omega) n18 (by decide)) ?_
        rw [hca]
        refine vv_iast (pc := 218) x dd_Mo_gather_218 (R6.t 12 (by decide)) (in_n (by omega) n12 (by decide)) ?_
        rw [hcx]
        refine vv_iinc (pc := 219) x dd_Mo_gather_219 rfl (nI_1 a) (by decide) (ls2 := [_, _, _]) rfl ?_
        refine vv_goto (pc := 222) x dd_Mo_gather_222 (tgt := 164) (by decide) ?_
        exact ih (a + 1) (mw M6 mo 12 (upd (ra M6 mo 12) (600 * p9 + a) (ra M6 mo 18 a))) (by omega) ((F5.trans F6).trans (rx_mw.mono (by simp) (by simp))) (fun b hb9 => by
          rw [ra_mw, ra_mw_n R6 (by decide) (by decide) (by decide), b11, b12, b18]
          by_cases e9 : b = a
          · rw [upd_eq (by omega), upd_eq (by omega), e9]; exact ⟨hv, rfl⟩
          · rw [upd_ne (by omega), upd_ne (by omega)]; exact hin9 b (by omega)) (fun x hx => by
          rw [ra_mw, ra_mw_n R6 (by decide) (by decide) (by decide), b11, b12]
          unfold upd
          rw [if_neg (by omega), if_neg (by omega)]
          exact hout9 x hx)
      by_cases hlt : a < hsz (qB P.2.2.2.2 Q)
      · have h9 := hst (ra M4 mo 17 a) (by rw [if_pos hlt])
        have n17 : mm_n M5 (mm_f M5 7 17 mo) = 600 := R5.n 17 (by decide)
        refine vv_iload_n (pc := 164) x dd_Mo_gather_164 rfl ?_
        refine vv_sipush (pc := 165) x dd_Mo_gather_165 (600) (by decide) ?_
        refine vv_icmp_ge (pc := 168) x dd_Mo_gather_168 (tgt := 225) (by decide) (fun h168 => absurd h168 (nI_ge (a := a) (b := 600) (by omega) (by decide))) (fun h168 => ?_)
        refine vv_aload_n (pc := 171) x dd_Mo_gather_171 rfl ?_
        refine lg_Mo_28 (pc := 172) G x dd_Mo_gather_172 R5.2.2 (R5.r 11 (by decide)) ?_
        refine vv_sipush (pc := 175) x dd_Mo_gather_175 (600) (by decide) ?_
        refine vv_iload_n (pc := 178) x dd_Mo_gather_178 rfl ?_
        refine vv_imul (pc := 179) x dd_Mo_gather_179 ?_
        refine vv_iload_n (pc := 180) x dd_Mo_gather_180 rfl ?_
        refine vv_iadd (pc := 181) x dd_Mo_gather_181 ?_
        rw [ix600]
        refine vv_iload_n (pc := 182) x dd_Mo_gather_182 rfl ?_
        refine vv_aload_n (pc := 183) x dd_Mo_gather_183 rfl ?_
        refine lg_Mo_79 (pc := 184) G x dd_Mo_gather_184 R5.2.2 ?_
        rw [e16]
        refine vv_icmp_ge (pc := 187) x dd_Mo_gather_187 (tgt := 199) (by decide) (fun h187 => absurd h187 (nI_ge (by omega) (by omega))) (fun h187 => ?_)
        refine vv_aload_n (pc := 190) x dd_Mo_gather_190 rfl ?_
        refine lg_Mo_40 (pc := 191) G x dd_Mo_gather_191 R5.2.2 (R5.r 17 (by decide)) ?_
        refine vv_iload_n (pc := 194) x dd_Mo_gather_194 rfl ?_
        refine vv_iald (pc := 195) x dd_Mo_gather_195 (R5.t 17 (by decide)) (in_n (by omega) n17 (by decide)) ?_
        rw [hca, show mm_a M5 (mm_f M5 7 17 mo) a = ra M4 mo 17 a from congrFun e17 a]
        refine vv_goto (pc := 196) x dd_Mo_gather_196 (tgt := 200) (by decide) ?_
        refine vv_iast (pc := 200) x dd_Mo_gather_200 (R5.t 11 (by decide)) (in_n (by omega) n11 (by decide)) ?_
        rw [hcx]
        exact h9
      · have h9 := hst 0 (by rw [if_neg hlt])
        refine vv_iload_n (pc := 164) x dd_Mo_gather_164 rfl ?_
        refine vv_sipush (pc := 165) x dd_Mo_gather_165 (600) (by decide) ?_
        refine vv_icmp_ge (pc := 168) x dd_Mo_gather_168 (tgt := 225) (by decide) (fun h168 => absurd h168 (nI_ge (a := a) (b := 600) (by omega) (by decide))) (fun h168 => ?_)
        refine vv_aload_n (pc := 171) x dd_Mo_gather_171 rfl ?_
        refine lg_Mo_28 (pc := 172) G x dd_Mo_gather_172 R5.2.2 (R5.r 11 (by decide)) ?_
        refine vv_sipush (pc := 175) x dd_Mo_gather_175 (600) (by decide) ?_
        refine vv_iload_n (pc := 178) x dd_Mo_gather_178 rfl ?_
        refine vv_imul (pc := 179) x dd_Mo_gather_179 ?_
        refine vv_iload_n (pc := 180) x dd_Mo_gather_180 rfl ?_
        refine vv_iadd (pc := 181) x dd_Mo_gather_181 ?_
        rw [ix600]
        refine vv_iload_n (pc := 182) x dd_Mo_gather_182 rfl ?_
        refine vv_aload_n (pc := 183) x dd_Mo_gather_183 rfl ?_
        refine lg_Mo_79 (pc := 184) G x dd_Mo_gather_184 R5.2.2 ?_
        rw [e16]
        refine vv_icmp_ge (pc := 187) x dd_Mo_gather_187 (tgt := 199) (by decide) (fun h187 => ?_) (fun h187 => absurd h187 (fun z => z (nI_le (by omega) (by omega))))
        refine vv_iconst (pc := 199) x dd_Mo_gather_199 (0) (by decide) ?_
        refine vv_iast (pc := 200) x dd_Mo_gather_200 (R5.t 11 (by decide)) (in_n (by omega) n11 (by decide)) ?_
        rw [hcx]
        exact h9
  have hcp : (nI p9).toNatClampNeg = p9 := nI_clamp (by omega)
  have hl4 : ∀ (n ib : Nat) (M4 : mm) (pc : pp), ib + n = P.2.2.2.2.length → rx [4, 13, 16] [8, 10, 14, 15, 17, 18, 19] mo M M4 → GA M M4 mo p9 P 4 P.2.2.2.1.length → ri M4 mo 4 = nI (Z.2.2.2 + 1) → Rc M4 mo P.2.2.2.2 Q (TT P.2.2.2.2 0 [] Q.length 0 Q) → RQ M4 mo pc → pgd pc → (∀ w, (lf P.2.2.2.2 (fun x => decide (x ∉ Q)) n ib).count w ≤ pc.2.2.2 w) → (lf P.2.2.2.2 (fun x => decide (x ∉ Q)) n ib).foldl pdr pc = (lft P).foldl pdr Z.2.1 → vv g 3 p l e (rm 5 117 0 0) s m args below meth c9 (MQ below (ok_Q g (fun v M' => v = none ∧ rx [4, 13, 16] [7, 8, 10, 11, 12, 14, 15, 17, 18, 19] mo M M' ∧ MI pw D ow sl M' mo pl (zcol Z i))) args s 0 0 (ok_F g)) 0 0 105 [some (.ref mo), some (.int (nI p9)), some (.int (nI (had P.2.2.2.2 ib)))] [] (M4) := by
    intro n
    induction n with
    | zero =>
      intro ib M4 pc hib F4 hG h4 hK hRQ hpc hct hfo
      have R4 := F4.to R
      have hend : had P.2.2.2.2 ib = hsz P.2.2.2.2 := by rw [show ib = P.2.2.2.2.length by omega, had_len]
      have hfo2 : pc = (lft P).foldl pdr Z.2.1 := hfo
      have e7 : ra M4 mo 7 p9 = nI (hsz P.2.2.2.2) := by rw [F4.a R (by decide) (by decide) (by decide)]; exact a3
      refine vv_iload_n (pc := 105) x dd_Mo_gather_105 rfl ?_
      refine vv_aload_n (pc := 106) x dd_Mo_gather_106 rfl ?_
      refine lg_Mo_16 (pc := 107) G x dd_Mo_gather_107 R4.2.2 (R4.r 7 (by decide)) ?_
      refine vv_iload_n (pc := 110) x dd_Mo_gather_110 rfl ?_
      refine vv_iald (pc := 111) x dd_Mo_gather_111 (R4.t 7 (by decide)) (in_n (N := 8) (by omega) (R4.n 7 (by decide)) (by decide)) ?_
      rw [hcp, show mm_a M4 (mm_f M4 7 7 mo) p9 = nI (hsz P.2.2.2.2) from e7]
      rw [hend]
      refine vv_icmp_ge (pc := 112) x dd_Mo_gather_112 (tgt := 162) (by decide) (fun h112 => ?_) (fun h112 => absurd h112 (fun z => z (nI_le (Nat.le_refl _) (by omega))))
      refine vv_iconst (pc := 162) x dd_Mo_gather_162 (0) (by decide) ?_
      refine vv_istore_n (pc := 163) x dd_Mo_gather_163 (by decide) (ls2 := [_, _, _]) rfl ?_
      exact hl5 M4 F4 hG h4 (by rw [← hfo2]; exact hRQ) hK 600 0 M4 (by omega) rx.rf (fun b hb9 => by omega) (fun _ _ => ⟨rfl, rfl⟩)
    | succ n ih =>
      intro ib M4 pc hib F4 hG h4 hK hRQ hpc hct hfo
      have hbl9 := had_blk (B := P.2.2.2.2) (i := ib) (by omega)
      have bp := bsz_pos (hb P.2.2.2.2 ib)
      have hkb := bok_k (k2.2 ib (by omega))
      have hskip : ∀ (M4 : mm), rx [4, 13, 16] [8, 10, 14, 15, 17, 18, 19] mo M M4 → ∀ (n2 jo : Nat), jo + n2 = bsz (hb P.2.2.2.2 ib) → 1 ≤ jo → vv g 3 p l e (rm 5 117 0 0) s m args below meth c9 (MQ below (ok_Q g (fun v M' => v = none ∧ rx [4, 13, 16] [7, 8, 10, 11, 12, 14, 15, 17, 18, 19] mo M M' ∧ MI pw D ow sl M' mo pl (zcol Z i))) args s 0 0 (ok_F g)) 0 0 105 [some (.ref mo), some (.int (nI p9)), some (.int (nI (had P.2.2.2.2 (ib + 1))))] [] (M4) → vv g 3 p l e (rm 5 117 0 0) s m args below meth c9 (MQ below (ok_Q g (fun v M' => v = none ∧ rx [4, 13, 16] [7, 8, 10, 11, 12, 14, 15, 17, 18, 19] mo M M' ∧ MI pw D ow sl M' mo pl (zcol Z i))) args s 0 0 (ok_F g)) 0 0 105 [some (.ref mo), some (.int (nI p9)), some (.int (nI (had P.2.2.2.2 ib + jo)))] [] (M4) := by
        intro M4 F4 n2
        have R4 := F4.to R
        have e7 : ra M4 mo 7 p9 = nI (hsz P.2.2.2.2) := by rw [F4.a R (by decide) (by decide) (by decide)]; exact a3
        have e12 : ra M4 mo 12 = ra M mo 12 := F4.a R (by decide) (by decide) (by decide)
        induction n2 with
        | zero =>
          intro jo hjo h1 hc9
          rw [show had P.2.2.2.2 ib + jo = had P.2.2.2.2 (ib + 1) by rw [had_succ (by omega)]; omega]
          exact hc9
        | succ n2 ih2 =>
          intro jo hjo h1 hc9
          have hz : mm_a M4 (mm_f M4 7 12 mo) (600 * p9 + (had P.2.2.2.2 ib + jo)) = 0 := by
            show ra M4 mo 12 _ = 0
            rw [e12]
            exact (a8 ib (by omega)).2 jo (by omega) (by omega)
          refine vv_iload_n (pc := 105) x dd_Mo_gather_105 rfl ?_
          refine vv_aload_n (pc := 106) x dd_Mo_gather_106 rfl ?_
          refine lg_Mo_16 (pc := 107) G x dd_Mo_gather_107 R4.2.2 (R4.r 7 (by decide)) ?_
          refine vv_iload_n (pc := 110) x dd_Mo_gather_110 rfl ?_
          refine vv_iald (pc := 111) x dd_Mo_gather_111 (R4.t 7 (by decide)) (in_n (N := 8) (by omega) (R4.n 7 (by decide)) (by decide)) ?_
          rw [hcp, show mm_a M4 (mm_f M4 7 7 mo) p9 = nI (hsz P.2.2.2.2) from e7]
          refine vv_icmp_ge (pc := 112) x dd_Mo_gather_112 (tgt := 162) (by decide) (fun h112 => absurd h112 (nI_ge (by omega) (by omega))) (fun h112 => ?_)
          refine vv_aload_n (pc := 115) x dd_Mo_gather_115 rfl ?_
          refine lg_Mo_31 (pc := 116) G x dd_Mo_gather_116 R4.2.2 (R4.r 12 (by decide)) ?_
          refine vv_sipush (pc := 119) x dd_Mo_gather_119 (600) (by decide) ?_
          refine vv_iload_n (pc := 122) x dd_Mo_gather_122 rfl ?_
          refine vv_imul (pc := 123) x dd_Mo_gather_123 ?_
          refine vv_iload_n (pc := 124) x dd_Mo_gather_124 rfl ?_
          refine vv_iadd (pc := 125) x dd_Mo_gather_125 ?_
          rw [ix600]
          refine vv_iald (pc := 126) x dd_Mo_gather_126 (R4.t 12 (by decide)) (in_n (N := 4800) (by omega) (R4.n 12 (by decide)) (by decide)) ?_
          rw [nI_clamp (n := 600 * p9 + (had P.2.2.2.2 ib + jo)) (by omega), hz]
          refine vv_iconst (pc := 127) x dd_Mo_gather_127 (5) (by decide) ?_
          refine vv_icmp_ne (pc := 128) x dd_Mo_gather_128 (tgt := 156) (by decide) (fun h128 => ?_) (fun h128 => absurd h128 (by decide))
          refine vv_iinc (pc := 156) x dd_Mo_gather_156 rfl (nI_1 (had P.2.2.2.2 ib + jo)) (by decide) (ls2 := [_, _, _]) rfl ?_
          refine vv_goto (pc := 159) x dd_Mo_gather_159 (tgt := 105) (by decide) ?_
          exact ih2 (jo + 1) (by omega) (by omega) hc9
      have R4 := F4.to R
      have e7 : ra M4 mo 7 p9 = nI (hsz P.2.2.2.2) := by rw [F4.a R (by decide) (by decide) (by decide)]; exact a3
      have e12 : ra M4 mo 12 = ra M mo 12 := F4.a R (by decide) (by decide) (by decide)
      have e11 : ra M4 mo 11 = ra M mo 11 := F4.a R (by decide) (by decide) (by decide)
      have hkd : mm_a M4 (mm_f M4 7 12 mo) (600 * p9 + had P.2.2.2.2 ib) = nI (hb P.2.2.2.2 ib).1 := by
        show ra M4 mo 12 _ = _
        rw [e12]
        exact (a8 ib (by omega)).1
      have hmv : mm_a M4 (mm_f M4 7 19 mo) (had P.2.2.2.2 ib) = if ib ∈ Q then nI (qof P.2.2.2.2 Q ib) else -1 := hK.2.1 ib (by omega)
      have hqo : qof P.2.2.2.2 Q ib ≤ hsz (qB P.2.2.2.2 Q) := had_le
      have hca : (nI (had P.2.2.2.2 ib)).toNatClampNeg = had P.2.2.2.2 ib := nI_clamp (by omega)
      have hlf : lf P.2.2.2.2 (fun x => decide (x ∉ Q)) (n + 1) ib = if (hb P.2.2.2.2 ib).1 = 5 ∧ decide (ib ∉ Q) = true then bw P.2.2.2.2 ib :: lf P.2.2.2.2 (fun x => decide (x ∉ Q)) n (ib + 1) else lf P.2.2.2.2 (fun x => decide (x ∉ Q)) n (ib + 1) := rfl
      have n19 : mm_n M4 (mm_f M4 7 19 mo) = 600 := R4.n 19 (by decide)
      by_cases h5 : (hb P.2.2.2.2 ib).1 = 5
      · by_cases hin : ib ∈ Q
        · rw [if_neg (fun z => (of_decide_eq_true z.2) hin)] at hlf
          rw [hlf] at hct hfo
          rw [if_pos hin] at hmv
          have hnx := hskip M4 F4 (bsz (hb P.2.2.2.2 ib) - 1) 1 (by omega) (by omega) (ih (ib + 1) M4 pc (by omega) F4 hG h4 hK hRQ hpc hct hfo)
          refine vv_iload_n (pc := 105) x dd_Mo_gather_105 rfl ?_
          refine vv_aload_n (pc := 106) x dd_Mo_gather_106 rfl ?_
          refine lg_Mo_16 (pc := 107) G x dd_Mo_gather_107 R4.2.2 (R4.r 7 (by decide)) ?_
          refine vv_iload_n (pc := 110) x dd_Mo_gather_110 rfl ?_
          refine vv_iald (pc := 111) x dd_Mo_gather_111 (R4.t 7 (by decide)) (in_n (N := 8) (by omega) (R4.n 7 (by decide)) (by decide)) ?_
          rw [hcp, show mm_a M4 (mm_f M4 7 7 mo) p9 = nI (hsz P.2.2.2.2) from e7]
          refine vv_icmp_ge (pc := 112) x dd_Mo_gather_112 (tgt := 162) (by decide) (fun h112 => absurd h112 (nI_ge (by omega) (by omega))) (fun h112 => ?_)
          refine vv_aload_n (pc := 115) x dd_Mo_gather_115 rfl ?_
          refine lg_Mo_31 (pc := 116) G x dd_Mo_gather_116 R4.2.2 (R4.r 12 (by decide)) ?_
          refine vv_sipush (pc := 119) x dd_Mo_gather_119 (600) (by decide) ?_
          refine vv_iload_n (pc := 122) x dd_Mo_gather_122 rfl ?_
          refine vv_imul (pc := 123) x dd_Mo_gather_123 ?_
          refine vv_iload_n (pc := 124) x dd_Mo_gather_124 rfl ?_
          refine vv_iadd (pc := 125) x dd_Mo_gather_125 ?_
          rw [ix600]
          refine vv_iald (pc := 126) x dd_Mo_gather_126 (R4.t 12 (by decide)) (in_n (N := 4800) (by omega) (R4.n 12 (by decide)) (by decide)) ?_
          rw [nI_clamp (n := 600 * p9 + had P.2.2.2.2 ib) (by omega), hkd, h5]
          refine vv_iconst (pc := 127) x dd_Mo_gather_127 (5) (by decide) ?_
          refine vv_icmp_ne (pc := 128) x dd_Mo_gather_128 (tgt := 156) (by decide) (fun h128 => absurd h128 (fun z => z rfl)) (fun h128 => ?_)
          refine vv_aload_n (pc := 131) x dd_Mo_gather_131 rfl ?_
          refine lg_Mo_46 (pc := 132) G x dd_Mo_gather_132 R4.2.2 (R4.r 19 (by decide)) ?_
          refine vv_iload_n (pc := 135) x dd_Mo_gather_135 rfl ?_
          refine vv_iald (pc := 136) x dd_Mo_gather_136 (R4.t 19 (by decide)) (in_n (by omega) n19 (by decide)) ?_
          rw [hca, hmv]
          refine vv_if_ge (pc := 137) x dd_Mo_gather_137 (tgt := 156) (by decide) (fun h137 => ?_) (fun h137 => absurd h137 (fun z => z (nI_pos' (by omega))))
          refine vv_iinc (pc := 156) x dd_Mo_gather_156 rfl (nI_1 (had P.2.2.2.2 ib)) (by decide) (ls2 := [_, _, _]) rfl ?_
          refine vv_goto (pc := 159) x dd_Mo_gather_159 (tgt := 105) (by decide) ?_
          exact hnx
        · rw [if_pos ⟨h5, decide_eq_true hin⟩] at hlf
          rw [hlf] at hct hfo
          rw [if_neg hin] at hmv
          obtain ⟨hw1, hw2⟩ := k7 ib (by omega) h5
          have hc1 : 1 ≤ pc.2.2.2 (bw P.2.2.2.2 ib) := by
            have := hct (bw P.2.2.2.2 ib)
            rw [List.count_cons_self] at this
            omega
          have hwd : mm_a M4 (mm_f M4 7 11 mo) (600 * p9 + had P.2.2.2.2 ib) = nI (bw P.2.2.2.2 ib) := by
            show ra M4 mo 11 _ = _
            rw [e11]
            have h9 := a7 ib (by omega) 0 bp (fun z => absurd z.2 (by decide))
            refine h9.trans ?_
            unfold bwd
            rw [if_neg (by omega)]
            exact hw1
          refine vv_iload_n (pc := 105) x dd_Mo_gather_105 rfl ?_
          refine vv_aload_n (pc := 106) x dd_Mo_gather_106 rfl ?_
          refine lg_Mo_16 (pc := 107) G x dd_Mo_gather_107 R4.2.2 (R4.r 7 (by decide)) ?_
          refine vv_iload_n (pc := 110) x dd_Mo_gather_110 rfl ?_
          refine vv_iald (pc := 111) x dd_Mo_gather_111 (R4.t 7 (by decide)) (in_n (N := 8) (by omega) (R4.n 7 (by decide)) (by decide)) ?_
          rw [hcp, show mm_a M4 (mm_f M4 7 7 mo) p9 = nI (hsz P.2.2.2.2) from e7]
          refine vv_icmp_ge (pc := 112) x dd_Mo_gather_112 (tgt := 162) (by decide) (fun h112 => absurd h112 (nI_ge (by omega) (by omega))) (fun h112 => ?_)
          refine vv_aload_n (pc := 115) x dd_Mo_gather_115 rfl ?_
          refine lg_Mo_31 (pc := 116) G x dd_Mo_gather_116 R4.2.2 (R4.r 12 (by decide)) ?_
          refine vv_sipush (pc := 119) x dd_Mo_gather_119 (600) (by decide) ?_
          refine vv_iload_n (pc := 122) x dd_Mo_gather_122 rfl ?_
          refine vv_imul (pc := 123) x dd_Mo_gather_123 ?_
          refine vv_iload_n (pc := 124) x dd_Mo_gather_124 rfl ?_
          refine vv_iadd (pc := 125) x dd_Mo_gather_125 ?_
          rw [ix600]
          refine vv_iald (pc := 126) x dd_Mo_gather_126 (R4.t 12 (by decide)) (in_n (N := 4800) (by omega) (R4.n 12 (by decide)) (by decide)) ?_
          rw [nI_clamp (n := 600 * p9 + had P.2.2.2.2 ib) (by omega), hkd, h5]
          refine vv_iconst (pc := 127) x dd_Mo_gather_127 (5) (by decide) ?_
          refine vv_icmp_ne (pc := 128) x dd_Mo_gather_128 (tgt := 156) (by decide) (fun h128 => absurd h128 (fun z => z rfl)) (fun h128 => ?_)
          refine vv_aload_n (pc := 131) x dd_Mo_gather_131 rfl ?_
          refine lg_Mo_46 (pc := 132) G x dd_Mo_gather_132 R4.2.2 (R4.r 19 (by decide)) ?_
          refine vv_iload_n (pc := 135) x dd_Mo_gather_135 rfl ?_
          refine vv_iald (pc := 136) x dd_Mo_gather_136 (R4.t 19 (by decide)) (in_n (by omega) n19 (by decide)) ?_
          rw [hca, hmv]
          refine vv_if_ge (pc := 137) x dd_Mo_gather_137 (tgt := 156) (by decide) (fun h137 => absurd h137 (by decide)) (fun h137 => ?_)
          refine vv_aload_n (pc := 140) x dd_Mo_gather_140 rfl ?_
          refine vv_aload_n (pc := 141) x dd_Mo_gather_141 rfl ?_
          refine lg_Mo_28 (pc := 142) G x dd_Mo_gather_142 R4.2.2 (R4.r 11 (by decide)) ?_
          refine vv_sipush (pc := 145) x dd_Mo_gather_145 (600) (by decide) ?_
          refine vv_iload_n (pc := 148) x dd_Mo_gather_148 rfl ?_
          refine vv_imul (pc := 149) x dd_Mo_gather_149 ?_
          refine vv_iload_n (pc := 150) x dd_Mo_gather_150 rfl ?_
          refine vv_iadd (pc := 151) x dd_Mo_gather_151 ?_
          rw [ix600]
          refine vv_iald (pc := 152) x dd_Mo_gather_152 (R4.t 11 (by decide)) (in_n (N := 4800) (by omega) (R4.n 11 (by decide)) (by decide)) ?_
          rw [nI_clamp (n := 600 * p9 + had P.2.2.2.2 ib) (by omega), hwd]
          refine lv_Mo_103 (pc := 153) G x dd_Mo_gather_153 (R_release G R4 hRQ hw2 hc1 (hpc.1.2 _) (pgd_b hpc hw2 hc1)) R4.2.2 ⟨by decide, by decide⟩ (by decide) (by decide) (Nat.le_of_ble_eq_true rfl) (fun v153 M153 q153 => ?_)
          obtain ⟨rfl, F7, hRQ7⟩ := q153
          have F47 : rx [4, 13, 16] [8, 10, 14, 15, 17, 18, 19] mo M M153 := F4.trans (F7.mono (by decide) (by decide))
          have s7 : ∀ k, k ∈ RA → k ∉ [14, 15] → ra M153 mo k = ra M4 mo k := fun k h1 h2 => F7.a R4 h1 (by decide) h2
          have hnx := hskip M153 F47 (bsz (hb P.2.2.2.2 ib) - 1) 1 (by omega) (by omega) (ih (ib + 1) M153 (pdr pc (bw P.2.2.2.2 ib)) (by omega) F47 (hG.same (s7 8 (by decide) (by decide)) (s7 10 (by decide) (by decide))) ((F7.i (by decide)).trans h4) (hK.same (F7.i (by decide)) (s7 19 (by decide) (by decide)) (s7 17 (by decide) (by decide)) (s7 18 (by decide) (by decide))) hRQ7 (pdr_gd hpc hw2 hc1).1 (pdr_rem hct) hfo)
          refine vv_iinc (pc := 156) x dd_Mo_gather_156 rfl (nI_1 (had P.2.2.2.2 ib)) (by decide) (ls2 := [_, _, _]) rfl ?_
          refine vv_goto (pc := 159) x dd_Mo_gather_159 (tgt := 105) (by decide) ?_
          exact hnx
      · rw [if_neg (fun z => h5 z.1)] at hlf
        rw [hlf] at hct hfo
        have hnx := hskip M4 F4 (bsz (hb P.2.2.2.2 ib) - 1) 1 (by omega) (by omega) (ih (ib + 1) M4 pc (by omega) F4 hG h4 hK hRQ hpc hct hfo)
        refine vv_iload_n (pc := 105) x dd_Mo_gather_105 rfl ?_
        refine vv_aload_n (pc := 106) x dd_Mo_gather_106 rfl ?_
        refine lg_Mo_16 (pc := 107) G x dd_Mo_gather_107 R4.2.2 (R4.r 7 (by decide)) ?_
        refine vv_iload_n (pc := 110) x dd_Mo_gather_110 rfl ?_
        refine vv_iald (pc := 111) x dd_Mo_gather_111 (R4.t 7 (by decide)) (in_n (N := 8) (by omega) (R4.n 7 (by decide)) (by decide)) ?_
        rw [hcp, show mm_a M4 (mm_f M4 7 7 mo) p9 = nI (hsz P.2.2.2.2) from e7]
        refine vv_icmp_ge (pc := 112) x dd_Mo_gather_112 (tgt := 162) (by decide) (fun h112 => absurd h112 (nI_ge (by omega) (by omega))) (fun h112 => ?_)
        refine vv_aload_n (pc := 115) x dd_Mo_gather_115 rfl ?_
        refine lg_Mo_31 (pc := 116) G x dd_Mo_gather_116 R4.2.2 (R4.r 12 (by decide)) ?_
        refine vv_sipush (pc := 119) x dd_Mo_gather_119 (600) (by decide) ?_
        refine vv_iload_n (pc := 122) x dd_Mo_gather_122 rfl ?_
        refine vv_imul (pc := 123) x dd_Mo_gather_123 ?_
        refine vv_iload_n (pc := 124) x dd_Mo_gather_124 rfl ?_
        refine vv_iadd (pc := 125) x dd_Mo_gather_125 ?_
        rw [ix600]
        refine vv_iald (pc := 126) x dd_Mo_gather_126 (R4.t 12 (by decide)) (in_n (N := 4800) (by omega) (R4.n 12 (by decide)) (by decide)) ?_
        rw [nI_clamp (n := 600 * p9 + had P.2.2.2.2 ib) (by omega), hkd]
        refine vv_iconst (pc := 127) x dd_Mo_gather_127 (5) (by decide) ?_
        refine vv_icmp_ne (pc := 128) x dd_Mo_gather_128 (tgt := 156) (by decide) (fun h128 => ?_) (fun h128 => absurd h128 (fun z => by have := (nI_eq (b := 5) (by omega) (by decide)).mp z; omega))
        refine vv_iinc (pc := 156) x dd_Mo_gather_156 rfl (nI_1 (had P.2.2.2.2 ib)) (by decide) (ls2 := [_, _, _]) rfl ?_
        refine vv_goto (pc := 159) x dd_Mo_gather_159 (tgt := 105) (by decide) ?_
        exact hnx
  have hl3 : ∀ (n j : Nat) (M3 : mm), j + n = P.2.2.2.1.length → rx [4, 16] [8, 10, 17, 18, 19] mo M M3 → GA M M3 mo p9 P 4 j → ri M3 mo 4 = nI (Z.2.2.2 + 1) → Rc M3 mo P.2.2.2.2 (visL P.2.2.2.2 [] (P.2.2.1 ++ P.2.2.2.1.take j)) (qB P.2.2.2.2 (visL P.2.2.2.2 [] (P.2.2.1 ++ P.2.2.2.1.take j))) → vv g 3 p l e (rm 5 117 0 0) s m args below meth c9 (MQ below (ok_Q g (fun v M' => v = none ∧ rx [4, 13, 16] [7, 8, 10, 11, 12, 14, 15, 17, 18, 19] mo M M' ∧ MI pw D ow sl M' mo pl (zcol Z i))) args s 0 0 (ok_F g)) 0 0 57 [some (.ref mo), some (.int (nI p9)), some (.int (nI (520 * p9 + j)))] [] (M3) := by
    intro n
    induction n with
    | zero =>
      intro j M3 hj F3 hG h4 hK
      have R3 := F3.to R
      have ej : j = P.2.2.2.1.length := by omega
      subst ej
      rw [List.take_length] at hK
      have e9 : ra M3 mo 9 p9 = nI P.2.2.2.1.length := by rw [F3.a R (by decide) (by decide) (by decide)]; exact a5
      have hw3 : wv P.2.2.2.2 (fun a => ra M3 mo 11 (600 * p9 + a)) := by rw [F3.a R (by decide) (by decide) (by decide)]; exact a7
      refine vv_iload_n (pc := 57) x dd_Mo_gather_57 rfl ?_
      refine vv_sipush (pc := 58) x dd_Mo_gather_58 (520) (by decide) ?_
      refine vv_iload_n (pc := 61) x dd_Mo_gather_61 rfl ?_
      refine vv_imul (pc := 62) x dd_Mo_gather_62 ?_
      refine vv_aload_n (pc := 63) x dd_Mo_gather_63 rfl ?_
      refine lg_Mo_22 (pc := 64) G x dd_Mo_gather_64 R3.2.2 (R3.r 9 (by decide)) ?_
      refine vv_iload_n (pc := 67) x dd_Mo_gather_67 rfl ?_
      refine vv_iald (pc := 68) x dd_Mo_gather_68 (R3.t 9 (by decide)) (in_n (N := 8) (by omega) (R3.n 9 (by decide)) (by decide)) ?_
      rw [hcp, show mm_a M3 (mm_f M3 7 9 mo) p9 = nI P.2.2.2.1.length from e9]
      refine vv_iadd (pc := 69) x dd_Mo_gather_69 ?_
      rw [ix520]
      refine vv_icmp_ge (pc := 70) x dd_Mo_gather_70 (tgt := 97) (by decide) (fun h70 => ?_) (fun h70 => absurd h70 (fun z => z (nI_le (Nat.le_refl _) (by omega))))
      refine vv_aload_n (pc := 97) x dd_Mo_gather_97 rfl ?_
      refine vv_iload_n (pc := 98) x dd_Mo_gather_98 rfl ?_
      refine vv_iconst (pc := 99) x dd_Mo_gather_99 (0) (by decide) ?_
      refine lv_Mo_99 (pc := 100) G x dd_Mo_gather_100 (R_follow (fw := 0) G R3 k2 hp8 hw3 hK k6 Q hbf) R3.2.2 ⟨by decide, by decide⟩ (by decide) (by decide) (Nat.le_of_ble_eq_true rfl) (fun v100 M100 q100 => ?_)
      obtain ⟨rfl, F7, hK7⟩ := q100
      have F37 : rx [4, 13, 16] [8, 10, 14, 15, 17, 18, 19] mo M M100 := (F3.mono (by decide) (by decide)).trans (F7.mono (by decide) (by decide))
      have s7 : ∀ k, k ∈ RA → k ∉ [17, 18, 19] → ra M100 mo k = ra M3 mo k := fun k h1 h2 => F7.a R3 h1 (by decide) h2
      have s14 : ∀ k, k ∈ RA → k ∉ [8, 10, 17, 18, 19] → ra M100 mo k = ra M mo k := fun k h1 h2 => (s7 k h1 (fun z => h2 (by simp only [List.mem_cons, List.not_mem_nil, or_false] at z ⊢; omega))).trans (F3.a R h1 (by decide) h2)
      have hRQ7 : RQ M100 mo Z.2.1 := ⟨((F7.i (by decide)).trans (F3.i (by decide))).trans hq0.1, fun w hw => by rw [s14 14 (by decide) (by decide), s14 15 (by decide) (by decide)]; exact hq0.2 w hw⟩
      refine vv_iconst (pc := 103) x dd_Mo_gather_103 (0) (by decide) ?_
      refine vv_istore_n (pc := 104) x dd_Mo_gather_104 (by decide) (ls2 := [_, _, _]) rfl ?_
      have h0 := hl4 P.2.2.2.2.length 0 M100 Z.2.1 (by omega) F37 (hG.same (s7 8 (by decide) (by decide)) (s7 10 (by decide) (by decide))) ((F7.i (by decide)).trans h4) hK7 hRQ7 hpg (by rw [← hlft]; exact hcnt) (by rw [← hlft])
      rw [had_0] at h0
      exact h0
    | succ n ih =>
      intro j M3 hj F3 hG h4 hK
      have R3 := F3.to R
      have hjl : j < P.2.2.2.1.length := by omega
      have e9 : ra M3 mo 9 p9 = nI P.2.2.2.1.length := by rw [F3.a R (by decide) (by decide) (by decide)]; exact a5
      have hw3 : wv P.2.2.2.2 (fun a => ra M3 mo 11 (600 * p9 + a)) := by rw [F3.a R (by decide) (by decide) (by decide)]; exact a7
      have hrd : mm_a M3 (mm_f M3 7 10 mo) (520 * p9 + j) = P.2.2.2.1.getD j 0 := (hG.2.2 _ (by omega)).trans (a6 j hjl)
      have hvt : vt P.2.2.2.2 (P.2.2.2.1.getD j 0) := k5 _ (getD_mem hjl)
      have hcx : (nI (520 * p9 + j)).toNatClampNeg = 520 * p9 + j := nI_clamp (by omega)
      have n10 : mm_n M3 (mm_f M3 7 10 mo) = 4160 := R3.n 10 (by decide)
      have evis : vis P.2.2.2.2 (visL P.2.2.2.2 [] (P.2.2.1 ++ P.2.2.2.1.take j)) (P.2.2.2.1.getD j 0) = visL P.2.2.2.2 [] (P.2.2.1 ++ P.2.2.2.1.take (j + 1)) := by
        rw [take_1 hjl, ← List.append_assoc, visL_app (us := [P.2.2.2.1.getD j 0])]
        rfl
      have erel : rel P.2.2.2.2 0 (vis P.2.2.2.2 (visL P.2.2.2.2 [] (P.2.2.1 ++ P.2.2.2.1.take j)) (P.2.2.2.1.getD j 0)) (P.2.2.2.1.getD j 0) = rel P.2.2.2.2 0 Q (P.2.2.2.1.getD j 0) := rel_pre (by rw [evis]; exact hrp (j + 1))
      refine vv_iload_n (pc := 57) x dd_Mo_gather_57 rfl ?_
      refine vv_sipush (pc := 58) x dd_Mo_gather_58 (520) (by decide) ?_
      refine vv_iload_n (pc := 61) x dd_Mo_gather_61 rfl ?_
      refine vv_imul (pc := 62) x dd_Mo_gather_62 ?_
      refine vv_aload_n (pc := 63) x dd_Mo_gather_63 rfl ?_
      refine lg_Mo_22 (pc := 64) G x dd_Mo_gather_64 R3.2.2 (R3.r 9 (by decide)) ?_
      refine vv_iload_n (pc := 67) x dd_Mo_gather_67 rfl ?_
      refine vv_iald (pc := 68) x dd_Mo_gather_68 (R3.t 9 (by decide)) (in_n (N := 8) (by omega) (R3.n 9 (by decide)) (by decide)) ?_
      rw [hcp, show mm_a M3 (mm_f M3 7 9 mo) p9 = nI P.2.2.2.1.length from e9]
      refine vv_iadd (pc := 69) x dd_Mo_gather_69 ?_
      rw [ix520]
      refine vv_icmp_ge (pc := 70) x dd_Mo_gather_70 (tgt := 97) (by decide) (fun h70 => absurd h70 (nI_ge (by omega) (by omega))) (fun h70 => ?_)
      refine vv_aload_n (pc := 73) x dd_Mo_gather_73 rfl ?_
      refine lg_Mo_25 (pc := 74) G x dd_Mo_gather_74 R3.2.2 (R3.r 10 (by decide)) ?_
      refine vv_iload_n (pc := 77) x dd_Mo_gather_77 rfl ?_
      refine vv_aload_n (pc := 78) x dd_Mo_gather_78 rfl ?_
      refine vv_iload_n (pc := 79) x dd_Mo_gather_79 rfl ?_
      refine vv_aload_n (pc := 80) x dd_Mo_gather_80 rfl ?_
      refine lg_Mo_25 (pc := 81) G x dd_Mo_gather_81 R3.2.2 (R3.r 10 (by decide)) ?_
      refine vv_iload_n (pc := 84) x dd_Mo_gather_84 rfl ?_
      refine vv_iald (pc := 85) x dd_Mo_gather_85 (R3.t 10 (by decide)) (in_n (by omega) n10 (by decide)) ?_
      rw [hcx, hrd]
      refine vv_iconst (pc := 86) x dd_Mo_gather_86 (0) (by decide) ?_
      refine lv_Mo_89 (pc := 87) G x dd_Mo_gather_87 (R_put (fw := 0) G R3 k2 hp8 hw3 hK hvt) R3.2.2 ⟨by decide, by decide⟩ (by decide) (by decide) (Nat.le_of_ble_eq_true rfl) (fun v87 M87 q87 => ?_)
      obtain ⟨rfl, F7, hK7⟩ := q87
      have R7 := F7.to R3
      have f7 : mm_f M87 7 10 mo = mm_f M3 7 10 mo := F7.f
      rw [put_qB, evis] at hK7
      rw [erel]
      have s7 : ∀ k, k ∈ RA → k ∉ [17, 18, 19] → ra M87 mo k = ra M3 mo k := fun k h1 h2 => F7.a R3 h1 (by decide) h2
      refine vv_iast (pc := 90) x dd_Mo_gather_90 (by rw [← f7]; exact R7.t 10 (by decide)) (by rw [← f7]; exact in_n (N := 4160) (by omega) (R7.n 10 (by decide)) (by decide)) ?_
      rw [hcx, ← f7]
      refine vv_iinc (pc := 91) x dd_Mo_gather_91 rfl (nI_1 (520 * p9 + j)) (by decide) (ls2 := [_, _, _]) rfl ?_
      refine vv_goto (pc := 94) x dd_Mo_gather_94 (tgt := 57) (by decide) ?_
      exact ih (j + 1) (mw M87 mo 10 (upd (ra M87 mo 10) (520 * p9 + j) (rel P.2.2.2.2 0 Q (P.2.2.2.1.getD j 0)))) (by omega) ((F3.trans (F7.mono (by decide) (by decide))).trans (rx_mw.mono (by simp) (by simp))) (by
        refine ⟨?_, fun b hb9 => ?_, fun x hx => ?_⟩
        · rw [ra_mw_n R7 (by decide) (by decide) (by decide), s7 8 (by decide) (by decide)]; exact hG.1
        · rw [ra_mw, hQ9]
          unfold upd
          by_cases e8 : b = j
          · rw [if_pos (by omega), e8]
          · rw [if_neg (by omega), s7 10 (by decide) (by decide), ← hQ9]; exact hG.2.1 b (by omega)
        · rw [ra_mw]
          unfold upd
          rw [if_neg (by omega), s7 10 (by decide) (by decide)]
          exact hG.2.2 x (by omega)) ((F7.i (by decide)).trans h4) (hK7.same rfl (ra_mw_n R7 (by decide) (by decide) (by decide)) (ra_mw_n R7 (by decide) (by decide) (by decide)) (ra_mw_n R7 (by decide) (by decide) (by decide)))
  have hl2 : ∀ (n j : Nat) (M3 : mm), j + n = 4 → rx [4, 16] [8, 10, 17, 18, 19] mo M M3 → GA M M3 mo p9 P j 0 → ri M3 mo 4 = nI (Z.2.2.2 + 1) → Rc M3 mo P.2.2.2.2 (visL P.2.2.2.2 [] (P.2.2.1.take j)) (qB P.2.2.2.2 (visL P.2.2.2.2 [] (P.2.2.1.take j))) → vv g 3 p l e (rm 5 117 0 0) s m args below meth c9 (MQ below (ok_Q g (fun v M' => v = none ∧ rx [4, 13, 16] [7, 8, 10, 11, 12, 14, 15, 17, 18, 19] mo M M' ∧ MI pw D ow sl M' mo pl (zcol Z i))) args s 0 0 (ok_F g)) 0 0 18 [some (.ref mo), some (.int (nI p9)), some (.int (nI (4 * p9 + j)))] [] (M3) := by
    intro n
    induction n with
    | zero =>
      intro j M3 hj F3 hG h4 hK
      have ej : j = 4 := by omega
      subst ej
      rw [List.take_of_length_le (by omega)] at hK
      refine vv_iload_n (pc := 18) x dd_Mo_gather_18 rfl ?_
      refine vv_iconst (pc := 19) x dd_Mo_gather_19 (4) (by decide) ?_
      refine vv_iload_n (pc := 20) x dd_Mo_gather_20 rfl ?_
      refine vv_imul (pc := 21) x dd_Mo_gather_21 ?_
      refine vv_iconst (pc := 22) x dd_Mo_gather_22 (4) (by decide) ?_
      refine vv_iadd (pc := 23) x dd_Mo_gather_23 ?_
      rw [show (4 : Int32) * nI p9 + 4 = nI (4 * p9 + 4) from ix4 (a := 4)]
      refine vv_icmp_ge (pc := 24) x dd_Mo_gather_24 (tgt := 51) (by decide) (fun h24 => ?_) (fun h24 => absurd h24 (fun z => z (nI_le (Nat.le_refl _) (by omega))))
      refine vv_sipush (pc := 51) x dd_Mo_gather_51 (520) (by decide) ?_
      refine vv_iload_n (pc := 54) x dd_Mo_gather_54 rfl ?_
      refine vv_imul (pc := 55) x dd_Mo_gather_55 ?_
      rw [show (520 : Int32) * nI p9 = nI (520 * p9 + 0) from pk_mul 520 p9]
      refine vv_istore_n (pc := 56) x dd_Mo_gather_56 (by decide) (ls2 := [_, _, _]) rfl ?_
      exact hl3 P.2.2.2.1.length 0 M3 (by omega) F3 hG h4 (by rw [List.take_zero, List.append_nil]; exact hK)
    | succ n ih =>
      intro j M3 hj F3 hG h4 hK
      have R3 := F3.to R
      have hjl : j < P.2.2.1.length := by omega
      have hw3 : wv P.2.2.2.2 (fun a => ra M3 mo 11 (600 * p9 + a)) := by rw [F3.a R (by decide) (by decide) (by decide)]; exact a7
      have hrd : mm_a M3 (mm_f M3 7 8 mo) (4 * p9 + j) = P.2.2.1.getD j 0 := (hG.1.2 _ (by omega)).trans (a4 j (by omega))
      have hvt : vt P.2.2.2.2 (P.2.2.1.getD j 0) := k4 _ (getD_mem hjl)
      have hcx : (nI (4 * p9 + j)).toNatClampNeg = 4 * p9 + j := nI_clamp (by omega)
      have n8 : mm_n M3 (mm_f M3 7 8 mo) = 32 := R3.n 8 (by decide)
      have evis : vis P.2.2.2.2 (visL P.2.2.2.2 [] (P.2.2.1.take j)) (P.2.2.1.getD j 0) = visL P.2.2.2.2 [] (P.2.2.1.take (j + 1)) := by
        rw [take_1 hjl, visL_app (us := [P.2.2.1.getD j 0])]
        rfl
      have erel : rel P.2.2.2.2 0 (vis P.2.2.2.2 (visL P.2.2.2.2 [] (P.2.2.1.take j)) (P.2.2.1.getD j 0)) (P.2.2.1.getD j 0) = rel P.2.2.2.2 0 Q (P.2.2.1.getD j 0) := rel_pre (by rw [evis]; exact hrr (j + 1))
      refine vv_iload_n (pc := 18) x dd_Mo_gather_18 rfl ?_
      refine vv_iconst (pc := 19) x dd_Mo_gather_19 (4) (by decide) ?_
      refine vv_iload_n (pc := 20) x dd_Mo_gather_20 rfl ?_
      refine vv_imul (pc := 21) x dd_Mo_gather_21 ?_
      refine vv_iconst (pc := 22) x dd_Mo_gather_22 (4) (by decide) ?_
      refine vv_iadd (pc := 23) x dd_Mo_gather_23 ?_
      rw [show (4 : Int32) * nI p9 + 4 = nI (4 * p9 + 4) from ix4 (a := 4)]
      refine vv_icmp_ge (pc := 24) x dd_Mo_gather_24 (tgt := 51) (by decide) (fun h24 => absurd h24 (nI_ge (by omega) (by omega))) (fun h24 => ?_)
      refine vv_aload_n (pc := 27) x dd_Mo_gather_27 rfl ?_
      refine lg_Mo_19 (pc := 28) G x dd_Mo_gather_28 R3.2.2 (R3.r 8 (by decide)) ?_
      refine vv_iload_n (pc := 31) x dd_Mo_gather_31 rfl ?_
      refine vv_aload_n (pc := 32) x dd_Mo_gather_32 rfl ?_
      refine vv_iload_n (pc := 33) x dd_Mo_gather_33 rfl ?_
      refine vv_aload_n (pc := 34) x dd_Mo_gather_34 rfl ?_
      refine lg_Mo_19 (pc := 35) G x dd_Mo_gather_35 R3.2.2 (R3.r 8 (by decide)) ?_
      refine vv_iload_n (pc := 38) x dd_Mo_gather_38 rfl ?_
      refine vv_iald (pc := 39) x dd_Mo_gather_39 (R3.t 8 (by decide)) (in_n (by omega) n8 (by decide)) ?_
      rw [hcx, hrd]
      refine vv_iconst (pc := 40) x dd_Mo_gather_40 (0) (by decide) ?_
      refine lv_Mo_89 (pc := 41) G x dd_Mo_gather_41 (R_put (fw := 0) G R3 k2 hp8 hw3 hK hvt) R3.2.2 ⟨by decide, by decide⟩ (by decide) (by decide) (Nat.le_of_ble_eq_true rfl) (fun v41 M41 q41 => ?_)
      obtain ⟨rfl, F7, hK7⟩ := q41
      have R7 := F7.to R3
      have f7 : mm_f M41 7 8 mo = mm_f M3 7 8 mo := F7.f
      rw [put_qB, evis] at hK7
      rw [erel]
      have s7 : ∀ k, k ∈ RA → k ∉ [17, 18, 19] → ra M41 mo k = ra M3 mo k := fun k h1 h2 => F7.a R3 h1 (by decide) h2
      refine vv_iast (pc := 44) x dd_Mo_gather_44 (by rw [← f7]; exact R7.t 8 (by decide)) (by rw [← f7]; exact in_n (N := 32) (by omega) (R7.n 8 (by decide)) (by decide)) ?_
      rw [hcx, ← f7]
      refine vv_iinc (pc := 45) x dd_Mo_gather_45 rfl (nI_1 (4 * p9 + j)) (by decide) (ls2 := [_, _, _]) rfl ?_
      refine vv_goto (pc := 48) x dd_Mo_gather_48 (tgt := 18) (by decide) ?_
      exact ih (j + 1) (mw M41 mo 8 (upd (ra M41 mo 8) (4 * p9 + j) (rel P.2.2.2.2 0 Q (P.2.2.1.getD j 0)))) (by omega) ((F3.trans (F7.mono (by decide) (by decide))).trans (rx_mw.mono (by simp) (by simp))) (by
        refine ⟨⟨fun b hb9 => ?_, fun x hx => ?_⟩, ?_⟩
        · rw [ra_mw, hQ9]
          unfold upd
          by_cases e8 : b = j
          · rw [if_pos (by omega), e8]
          · rw [if_neg (by omega), s7 8 (by decide) (by decide), ← hQ9]; exact hG.1.1 b (by omega)
        · rw [ra_mw]
          unfold upd
          rw [if_neg (by omega), s7 8 (by decide) (by decide)]
          exact hG.1.2 x (by omega)
        · rw [ra_mw_n R7 (by decide) (by decide) (by decide), s7 10 (by decide) (by decide)]; exact hG.2) ((F7.i (by decide)).trans h4) (hK7.same rfl (ra_mw_n R7 (by decide) (by decide) (by decide)) (ra_mw_n R7 (by decide) (by decide) (by decide)) (ra_mw_n R7 (by decide) (by decide) (by decide)))
  refine vv_aload_n (pc := 0) x dd_Mo_gather_0 rfl ?_
  refine vv_dup (pc := 1) x dd_Mo_gather_1 rfl ?_
  refine lg_Mo_93 (pc := 2) G x dd_Mo_gather_2 R.2.2 ?_
  rw [show mm_i M 7 4 mo = nI Z.2.2.2 from i4]
  refine vv_iconst (pc := 5) x dd_Mo_gather_5 (1) (by decide) ?_
  refine vv_iadd (pc := 6) x dd_Mo_gather_6 ?_
  rw [nI_1]
  refine lp_Mo_93 (pc := 7) G x dd_Mo_gather_7 R.2.2 ?_
  have F0 : rx [4, 16] [8, 10, 17, 18, 19] mo M (mi M mo 4 (nI (Z.2.2.2 + 1))) := rx_mi.mono (by simp) (by simp)
  have R0 := F0.to R
  refine vv_aload_n (pc := 10) x dd_Mo_gather_10 rfl ?_
  refine lv_Mo_96 (pc := 11) G x dd_Mo_gather_11 (k_rbegin (M := mi M mo 4 (nI (Z.2.2.2 + 1))) G R0) R0.2.2 ⟨by decide, by decide⟩ (by decide) (by decide) (Nat.le_of_ble_eq_true rfl) (fun v11 M11 q11 => ?_)
  obtain ⟨rfl, F1, h16, hA1⟩ := q11
  have s1 : ∀ k, k ∈ RA → k ∉ [18, 19] → ra M11 mo k = ra M mo k := fun k h1 h2 => F1.a R0 h1 (by decide) h2
  refine vv_iconst (pc := 14) x dd_Mo_gather_14 (4) (by decide) ?_
  refine vv_iload_n (pc := 15) x dd_Mo_gather_15 rfl ?_
  refine vv_imul (pc := 16) x dd_Mo_gather_16 ?_
  rw [show (4 : Int32) * nI p9 = nI (4 * p9 + 0) from pk_mul 4 p9]
  refine vv_istore_n (pc := 17) x dd_Mo_gather_17 (by decide) (ls2 := [_, _, _]) rfl ?_
  exact hl2 4 0 M11 (by omega) (F0.trans (F1.mono (by decide) (by decide))) (by
    refine ⟨⟨fun b hb9 => by omega, fun x hx => ?_⟩, fun b hb9 => by omega, fun x hx => ?_⟩
    · rw [s1 8 (by decide) (by decide)]
    · rw [s1 10 (by decide) (by decide)]) ((F1.i (by decide)).trans ri_mi) (Rc_nil h16 hA1 k2)
end M52
