/-! ===== handles counted, handles dropped ===== -/
section M10
variable {g : gg} {X : State → Prop} {t0 : Nat} {l : Launch} {M : mm} {pw : Nat} {D : Nat → Prop} {ow sl : Nat → Nat} {B B0 T : List bk} {c hf ht b fw : Nat} {q : List Nat}
/-- which blob a handle has -/
def bw (B : List bk) (i : Nat) : Nat := ((hb B i).2.getD 0 0).toNatClampNeg
def hbl (B : List bk) : Prop := ∀ i, i < B.length → (hb B i).1 = 5 → (hb B i).2.getD 0 0 = nI (bw B i) ∧ bw B i < 30
/-- the blobs of n blocks from i on, those that P takes -/
def lf (B : List bk) (P : Nat → Bool) : Nat → Nat → List Nat
  | 0, _ => []
  | n + 1, i => if (hb B i).1 = 5 ∧ P i = true then bw B i :: lf B P n (i + 1) else lf B P n (i + 1)
def cnh (C : Nat → Int32) (w : Nat) : Nat → Int32 := upd C w (C w + 1)
abbrev PL : Type := Int32 × Int32 × (Nat → Int32)
def pd (z : Nat → Int32) (P : PL) (w : Nat) : PL := if P.2.2 w - 1 = 0 then (P.1 + z w, P.2.1 - 1, upd P.2.2 w (P.2.2 w - 1)) else (P.1, P.2.1, upd P.2.2 w (P.2.2 w - 1))
def pst (M : mm) (b : Nat) (P : PL) : mm := mm_si (mm_si (mm_sa M (mm_f M 5 3 b) P.2.2) 5 0 b P.1) 5 1 b P.2.1
def pget (M : mm) (b : Nat) : PL := (mm_i M 5 0 b, mm_i M 5 1 b, mm_a M (mm_f M 5 3 b))
theorem pst_id : pst M b (pget M b) = M := by
  unfold pst pget
  rw [sa_id rfl, si_id rfl, si_id rfl]
theorem pst_fr {P : PL} : fr (fun c' k a => c' = 5 ∧ k < 2 ∧ a = b) (fun _ _ _ => False) (fun a => a = mm_f M 5 3 b) M (pst M b P) := by
  refine ⟨rfl, rfl, rfl, rfl, fun c' k a z => ?_, fun _ _ _ _ => rfl, fun a z => ?_⟩
  · unfold pst
    rw [mi_si, if_neg (fun y => z ⟨y.1, by omega, y.2.2⟩), mi_si, if_neg (fun y => z ⟨y.1, by omega, y.2.2⟩), mi_sa]
  · unfold pst
    rw [ma_si, ma_si, ma_sa_n z]
theorem pst_c {P : PL} : mm_a (pst M b P) (mm_f M 5 3 b) = P.2.2 := by
  unfold pst
  rw [ma_si, ma_si, ma_sa_s]
theorem pst_p {P Q : PL} : pst (pst M b P) b Q = pst M b Q := by
  unfold pst
  rw [mf_si, mf_si, mf_sa]
  refine mm_ext rfl ?_ rfl rfl ?_ rfl rfl
  · funext c' k a
    simp only [mi_si, mi_sa]
    repeat' split
    all_goals first | rfl | (exfalso; simp_all)
  · funext a
    simp only [ma_si, ma_sa]
    repeat' split
    all_goals first | rfl | (exfalso; simp_all)
theorem pdrop_pst {P : PL} {w : Nat} (hw : w < 2 ^ 31) (hne : mm_f M 5 2 b ≠ mm_f M 5 3 b) : pdrop (pst M b P) b (nI w) = pst M b (pd (mm_a M (mm_f M 5 2 b)) P w) := by
  have e1 : mm_f (pst M b P) = mm_f M := rfl
  have e2 : mm_a (pst M b P) (mm_f M 5 2 b) = mm_a M (mm_f M 5 2 b) := pst_fr.2.2.2.2.2.2 _ hne
  have e3 : mm_i (pst M b P) 5 0 b = P.1 := by
    unfold pst
    rw [mi_si_k (by decide), mi_si_s]
  have e4 : mm_i (pst M b P) 5 1 b = P.2.1 := by
    unfold pst
    rw [mi_si_s]
  unfold pdrop pdec pd
  rw [e1, pst_c, e2, e3, e4, nI_clamp hw]
  split
  · rw [← pst_p (P := P) (Q := (P.1 + mm_a M (mm_f M 5 2 b) w, P.2.1 - 1, upd P.2.2 w (P.2.2 w - 1)))]
    rfl
  · have e5 : pst (pst M b P) b (P.1, P.2.1, upd P.2.2 w (P.2.2 w - 1)) = mm_sa (pst M b P) (mm_f M 5 3 b) (upd P.2.2 w (P.2.2 w - 1)) := by
      show mm_si (mm_si (mm_sa (pst M b P) (mm_f M 5 3 b) (upd P.2.2 w (P.2.2 w - 1))) 5 0 b P.1) 5 1 b P.2.1 = _
      rw [si_id (M := mm_sa (pst M b P) (mm_f M 5 3 b) (upd P.2.2 w (P.2.2 w - 1))) (c := 5) (k := 0) (a := b) (by rw [mi_sa]; exact e3), si_id (by rw [mi_sa]; exact e4)]
    rw [← pst_p (P := P) (Q := (P.1, P.2.1, upd P.2.2 w (P.2.2 w - 1))), e5]
set_option maxRecDepth 100000 in
set_option maxHeartbeats 4000000 in
theorem K_count (G : gc g X t0 l) (S : sh pw D ow sl M) (hp : pw ≠ 0) (hp6 : pw ≤ 600) (hDc : D c) (hTc : mm_t M c = 1) (r1 : mm_r M 0 1 c ≠ 0) (f1 : mm_f M 0 1 c = ht) (hDt : D ht) (hTt : mm_t M ht = 3) (Ht : HeapIs pw M ht T) {n0 : Nat} (hn0 : n0 ≤ T.length) (fc : mm_i M 0 2 c = nI n0) (hDb : D b) (hTb : mm_t M b = 6) (hB : hbl T) (Cf : Nat → Int32) (hCf : (lf T (fun _ => true) (T.length - n0) n0).foldl cnh (mm_a M (mm_f M 5 3 b)) = Cf) : Ok g X l yy_Ca_countHandlesCarried cc_Ca_countHandlesCarried 3 none 2 41 0 0 [.ref c, .ref b] M (fun v M' => v = none ∧ M' = mm_sa M (mm_f M 5 3 b) Cf) := by
  refine ok_start (by decide) (Nat.le_of_ble_eq_true rfl) (by simp [Value.category]) ?_
  intro p e s m args below meth c9 x
  have rs := S.r hDt hTt 2 hp
  have ts := S.t hDt hTt 2 hp
  have ns : mm_n M (mm_f M 2 2 ht) = pw := S.n hDt hTt 2 hp
  have nb : mm_n M (mm_f M 5 3 b) = 30 := S.n hDb hTb 3 (show (30 : Nat) ≠ 0 by decide)
  have hbt : b ≠ ht := fun e9 => by rw [e9, hTt] at hTb; exact absurd hTb (by decide)
  have b2 := S.ap hDt hTt (k := 2) hp hDb hTb (k2 := 3) (show (30 : Nat) ≠ 0 by decide) (Or.inl hbt.symm)
  have b3 := S.ap hDt hTt (k := 3) hp hDb hTb (k2 := 3) (show (30 : Nat) ≠ 0 by decide) (Or.inl hbt.symm)
  have hlen := len_le_hsz T
  have hle := Ht.2.2.1
  have hloop : ∀ (n i : Nat) (C : Nat → Int32) (M1 : mm), i + n = T.length → M1 = mm_sa M (mm_f M 5 3 b) C → (lf T (fun _ => true) n i).foldl cnh C = Cf → vv g 3 p l e (rm 2 41 0 0) s m args below meth c9 (MQ below (ok_Q g (fun v M' => v = none ∧ M' = mm_sa M (mm_f M 5 3 b) Cf)) args s 0 0 (ok_F g)) 0 0 5 [some (.ref c), some (.ref b), some (.int (nI i))] [] (M1) := by
    intro n
    induction n with
    | zero =>
      intro i C M1 hi hM1 hC
      have H1 : HeapIs pw M1 ht T := by rw [hM1]; exact HeapIs.sa Ht b2 b3
      have hT1 : mm_t M1 c = 1 := by rw [hM1, mt_sa]; exact hTc
      have hT2 : mm_t M1 ht = 3 := by rw [hM1, mt_sa]; exact hTt
      have g1 : mm_r M1 0 1 c ≠ 0 := by rw [hM1, mr_sa]; exact r1
      have g2 : mm_f M1 0 1 c = ht := by rw [hM1, mf_sa]; exact f1
      refine vv_iload_n (pc := 5) x dd_Ca_countHandlesCarried_5 rfl ?_
      refine vv_aload_n (pc := 6) x dd_Ca_countHandlesCarried_6 rfl ?_
      refine lg_Ca_19 (pc := 7) G x dd_Ca_countHandlesCarried_7 (by assumption) (by assumption) ?_
      rw [g2]
      refine lg_Ca_22 (pc := 10) G x dd_Ca_countHandlesCarried_10 (by assumption) ?_
      rw [H1.2.1]
      refine vv_icmp_ge (pc := 13) x dd_Ca_countHandlesCarried_13 (tgt := 58) (by decide) (fun h13 => ?_) (fun h13 => absurd h13 (fun z => z (nI_le (by omega) (by omega))))
      exact vv_vret (pc := 58) x dd_Ca_countHandlesCarried_58 rfl (by decide) (by decide) ⟨rfl, by rw [hM1, ← hC]; rfl⟩
    | succ n ih =>
      intro i C M1 hi hM1 hC
      have H1 : HeapIs pw M1 ht T := by rw [hM1]; exact HeapIs.sa Ht b2 b3
      have S1 : sh pw D ow sl M1 := by rw [hM1]; exact (fr.sh (M := M) (I := fun _ _ _ => False) (Rr := fun _ _ _ => False) (Aa := fun a => a = mm_f M 5 3 b) ⟨rfl, rfl, rfl, rfl, fun _ _ _ _ => rfl, fun _ _ _ _ => rfl, fun a z => ma_sa_n z⟩ (fun c' k a z => z.elim) S)
      have hT1 : mm_t M1 c = 1 := by rw [hM1, mt_sa]; exact hTc
      have hT2 : mm_t M1 ht = 3 := by rw [hM1, mt_sa]; exact hTt
      have hT3 : mm_t M1 b = 6 := by rw [hM1, mt_sa]; exact hTb
      have g1 : mm_r M1 0 1 c ≠ 0 := by rw [hM1, mr_sa]; exact r1
      have g2 : mm_f M1 0 1 c = ht := by rw [hM1, mf_sa]; exact f1
      have g3 : mm_r M1 2 2 ht ≠ 0 := by rw [hM1, mr_sa]; exact rs
      have g4 : mm_t M1 (mm_f M1 2 2 ht) = 100 := by rw [hM1, mt_sa, mf_sa]; exact ts
      have g5 : mm_n M1 (mm_f M1 2 2 ht) = pw := by rw [hM1, mn_sa, mf_sa]; exact ns
      have g6 : mm_n M1 (mm_f M1 5 3 b) = 30 := by rw [hM1, mn_sa, mf_sa]; exact nb
      have g7 : mm_f M1 5 3 b = mm_f M 5 3 b := by rw [hM1, mf_sa]
      have g8 : mm_a M1 (mm_f M 5 3 b) = C := by rw [hM1, ma_sa_s]
      have hi1 : i < T.length := by omega
      have hst : mm_a M1 (mm_f M1 2 2 ht) (nI i).toNatClampNeg = htm T i := by rw [nI_clamp (by omega)]; exact H1.2.2.2.1 i hi1
      have hcx : (nI i).toNatClampNeg = i := nI_clamp (by omega)
      have hlf : lf T (fun _ => true) (n + 1) i = if (hb T i).1 = 5 ∧ (true : Bool) = true then bw T i :: lf T (fun _ => true) n (i + 1) else lf T (fun _ => true) n (i + 1) := rfl
      refine vv_iload_n (pc := 5) x dd_Ca_countHandlesCarried_5 rfl ?_
      refine vv_aload_n (pc := 6) x dd_Ca_countHandlesCarried_6 rfl ?_
      refine lg_Ca_19 (pc := 7) G x dd_Ca_countHandlesCarried_7 (by assumption) (by assumption) ?_
      rw [g2]
      refine lg_Ca_22 (pc := 10) G x dd_Ca_countHandlesCarried_10 (by assumption) ?_
      rw [H1.2.1]
      refine vv_icmp_ge (pc := 13) x dd_Ca_countHandlesCarried_13 (tgt := 58) (by decide) (fun h13 => absurd h13 (nI_ge (by omega) (by omega))) (fun h13 => ?_)
      refine vv_aload_n (pc := 16) x dd_Ca_countHandlesCarried_16 rfl ?_
      refine lg_Ca_19 (pc := 17) G x dd_Ca_countHandlesCarried_17 (by assumption) (by assumption) ?_
      rw [g2]
      refine lg_Ca_49 (pc := 20) G x dd_Ca_countHandlesCarried_20 (by assumption) (by assumption) ?_
      refine vv_iload_n (pc := 23) x dd_Ca_countHandlesCarried_23 rfl ?_
      refine vv_iald (pc := 24) x dd_Ca_countHandlesCarried_24 (by assumption) (in_n (by omega) g5 (by omega)) ?_
      rw [hst]
      refine lv_Ca_66 (pc := 25) G x dd_Ca_countHandlesCarried_25 (k_kindOf G)  ⟨by decide, by decide⟩ (by decide) (by decide) (Nat.le_of_ble_eq_true rfl) (fun v25 M25 q25 => ?_)
      obtain ⟨rfl, hm25⟩ := q25
      have hm25 := hm25.symm
      subst hm25
      rw [hv_and H1.2.2 hp6 hi1]
      refine vv_iconst (pc := 28) x dd_Ca_countHandlesCarried_28 (5) (by decide) ?_
      refine vv_icmp_ne (pc := 29) x dd_Ca_countHandlesCarried_29 (tgt := 52) (by decide) (fun h29 => ?_) (fun h29 => ?_)
      · have hk : ¬ ((hb T i).1 = 5 ∧ (true : Bool) = true) := fun z => h29 (by rw [z.1]; rfl)
        rw [hlf, if_neg hk] at hC
        refine vv_iinc (pc := 52) x dd_Ca_countHandlesCarried_52 rfl (nI_1 i) (by decide) (ls2 := [_, _, _]) rfl ?_
        refine vv_goto (pc := 55) x dd_Ca_countHandlesCarried_55 (tgt := 5) (by decide) ?_
        exact ih (i + 1) C _ (by omega) hM1 hC
      · have hk : (hb T i).1 = 5 := by
          have hbk := bok_k (H1.2.2.2.2.2 i hi1)
          exact (nI_eq (b := 5) (by omega) (by decide)).mp h29
        rw [hlf, if_pos ⟨hk, rfl⟩] at hC
        obtain ⟨w1, w2⟩ := hB i hi1 hk
        refine vv_aload_n (pc := 32) x dd_Ca_countHandlesCarried_32 rfl ?_
        refine vv_aload_n (pc := 33) x dd_Ca_countHandlesCarried_33 rfl ?_
        refine lg_Ca_19 (pc := 34) G x dd_Ca_countHandlesCarried_34 (by assumption) (by assumption) ?_
        rw [g2]
        refine vv_aload_n (pc := 37) x dd_Ca_countHandlesCarried_37 rfl ?_
        refine lg_Ca_19 (pc := 38) G x dd_Ca_countHandlesCarried_38 (by assumption) (by assumption) ?_
        rw [g2]
        refine lg_Ca_49 (pc := 41) G x dd_Ca_countHandlesCarried_41 (by assumption) (by assumption) ?_
        refine vv_iload_n (pc := 44) x dd_Ca_countHandlesCarried_44 rfl ?_
        refine vv_iald (pc := 45) x dd_Ca_countHandlesCarried_45 (by assumption) (in_n (by omega) g5 (by omega)) ?_
        rw [hst]
        refine lv_Ca_69 (pc := 46) G x dd_Ca_countHandlesCarried_46 (K_blobOf G S1 hp hp6 hDt hT2 H1 hi1 hk) hT2 ⟨by decide, by decide⟩ (by decide) (by decide) (Nat.le_of_ble_eq_true rfl) (fun v46 M46 q46 => ?_)
        obtain ⟨rfl, hm46⟩ := q46
        have hm46 := hm46.symm
        subst hm46
        rw [w1]
        refine lv_Ca_72 (pc := 49) G x dd_Ca_countHandlesCarried_49 (k_countHandle G S1 hDb hT3 (in_n w2 g6 (by omega))) hT3 ⟨by decide, by decide⟩ (by decide) (by decide) (Nat.le_of_ble_eq_true rfl) (fun v49 M49 q49 => ?_)
        obtain ⟨rfl, hm49⟩ := q49
        rw [g7, g8, hM1, sa_sa, nI_clamp (by omega)] at hm49
        refine vv_iinc (pc := 52) x dd_Ca_countHandlesCarried_52 rfl (nI_1 i) (by decide) (ls2 := [_, _, _]) rfl ?_
        refine vv_goto (pc := 55) x dd_Ca_countHandlesCarried_55 (tgt := 5) (by decide) ?_
        exact ih (i + 1) (cnh C (bw T i)) _ (by omega) hm49 hC
  refine vv_aload_n (pc := 0) x dd_Ca_countHandlesCarried_0 rfl ?_
  refine lg_Ca_28 (pc := 1) G x dd_Ca_countHandlesCarried_1 (by assumption) ?_
  rw [fc]
  refine vv_istore_n (pc := 4) x dd_Ca_countHandlesCarried_4 (by decide) (ls2 := [_, _, _]) rfl ?_
  exact hloop (T.length - n0) n0 _ M (by omega) (sa_id rfl).symm hCf
set_option maxRecDepth 100000 in
set_option maxHeartbeats 4000000 in
theorem K_drop (G : gc g X t0 l) (S : sh pw D ow sl M) (hp : pw ≠ 0) (hp6 : pw ≤ 600) (K : Cs pw D M c hf ht B fw q T) (hs : fw + hsz (qB B q) ≤ 600) (hDb : D b) (hTb : mm_t M b = 6) (hB : hbl B) (Pf : PL) (hPf : (lf B (fun i => decide (i ∉ q)) B.length 0).foldl (pd (mm_a M (mm_f M 5 2 b))) (pget M b) = Pf) : Ok g X l yy_Ca_dropHandlesLeftBehind cc_Ca_dropHandlesLeftBehind 4 none 2 41 0 0 [.ref c, .ref b] M (fun v M' => v = none ∧ M' = pst M b Pf) := by
  refine ok_start (by decide) (Nat.le_of_ble_eq_true rfl) (by simp [Value.category]) ?_
  intro p e s m args below meth c9 x
  obtain ⟨⟨hTc, hDc, r0, f0, r1, f1⟩, ⟨hne, hDf, hTf, hDt, hTt⟩, Hf, Ht, hz, hq, hC⟩ := K
  have rs := S.r hDf hTf 2 hp
  have ts := S.t hDf hTf 2 hp
  have ns : mm_n M (mm_f M 2 2 hf) = pw := S.n hDf hTf 2 hp
  have rc := S.r hDc hTc 3 hp
  have tc := S.t hDc hTc 3 hp
  have nc : mm_n M (mm_f M 0 3 c) = pw := S.n hDc hTc 3 hp
  have nb : mm_n M (mm_f M 5 3 b) = 30 := S.n hDb hTb 3 (show (30 : Nat) ≠ 0 by decide)
  have nb2 : mm_n M (mm_f M 5 2 b) = 30 := S.n hDb hTb 2 (show (30 : Nat) ≠ 0 by decide)
  have hbf : b ≠ hf := fun e9 => by rw [e9, hTf] at hTb; exact absurd hTb (by decide)
  have hbc : b ≠ c := fun e9 => by rw [e9, hTc] at hTb; exact absurd hTb (by decide)
  have b2 := S.ap hDf hTf (k := 2) hp hDb hTb (k2 := 3) (show (30 : Nat) ≠ 0 by decide) (Or.inl hbf.symm)
  have b3 := S.ap hDf hTf (k := 3) hp hDb hTb (k2 := 3) (show (30 : Nat) ≠ 0 by decide) (Or.inl hbf.symm)
  have bc := S.ap hDc hTc (k := 3) hp hDb hTb (k2 := 3) (show (30 : Nat) ≠ 0 by decide) (Or.inl hbc.symm)
  have bb := S.ap hDb hTb (k := 2) (show (30 : Nat) ≠ 0 by decide) hDb hTb (k2 := 3) (show (30 : Nat) ≠ 0 by decide) (Or.inr (by decide))
  have hlen := len_le_hsz B
  have hle := Hf.2.2.1
  have hloop : ∀ (n i : Nat) (P : PL) (M1 : mm) (o3 : Option Value), i + n = B.length → M1 = pst M b P → (lf B (fun i => decide (i ∉ q)) n i).foldl (pd (mm_a M (mm_f M 5 2 b))) P = Pf → vv g 4 p l e (rm 2 41 0 0) s m args below meth c9 (MQ below (ok_Q g (fun v M' => v = none ∧ M' = pst M b Pf)) args s 0 0 (ok_F g)) 0 0 2 [some (.ref c), some (.ref b), some (.int (nI i)), o3] [] (M1) := by
    intro n
    induction n with
    | zero =>
      intro i P M1 o3 hi hM1 hP
      have F1 : fr (fun c' k a => c' = 5 ∧ k < 2 ∧ a = b) (fun _ _ _ => False) (fun a => a = mm_f M 5 3 b) M M1 := by rw [hM1]; exact pst_fr
      have H1 : HeapIs pw M1 hf B := HeapIs.fr F1 Hf (fun z => absurd z.1 (by decide)) (fun z => absurd z.1 (by decide)) (fun z => z) (fun z => z) b2 b3
      have hT1 : mm_t M1 c = 1 := by rw [F1.1]; exact hTc
      have hT2 : mm_t M1 hf = 3 := by rw [F1.1]; exact hTf
      have g1 : mm_r M1 0 0 c ≠ 0 := by rw [F1.2.2.2.2.2.1 _ _ _ (fun z => z)]; exact r0
      have g2 : mm_f M1 0 0 c = hf := by rw [F1.f (fun z => z)]; exact f0
      refine vv_iload_n (pc := 2) x dd_Ca_dropHandlesLeftBehind_2 rfl ?_
      refine vv_aload_n (pc := 3) x dd_Ca_dropHandlesLeftBehind_3 rfl ?_
      refine lg_Ca_15 (pc := 4) G x dd_Ca_dropHandlesLeftBehind_4 (by assumption) (by assumption) ?_
      rw [g2]
      refine lg_Ca_22 (pc := 7) G x dd_Ca_dropHandlesLeftBehind_7 (by assumption) ?_
      rw [H1.2.1]
      refine vv_icmp_ge (pc := 10) x dd_Ca_dropHandlesLeftBehind_10 (tgt := 61) (by decide) (fun h10 => ?_) (fun h10 => absurd h10 (fun z => z (nI_le (by omega) (by omega))))
      exact vv_vret (pc := 61) x dd_Ca_dropHandlesLeftBehind_61 rfl (by decide) (by decide) ⟨rfl, by rw [hM1, ← hP]; rfl⟩
    | succ n ih =>
      intro i P M1 o3 hi hM1 hP
      have F1 : fr (fun c' k a => c' = 5 ∧ k < 2 ∧ a = b) (fun _ _ _ => False) (fun a => a = mm_f M 5 3 b) M M1 := by rw [hM1]; exact pst_fr
      have H1 : HeapIs pw M1 hf B := HeapIs.fr F1 Hf (fun z => absurd z.1 (by decide)) (fun z => absurd z.1 (by decide)) (fun z => z) (fun z => z) b2 b3
      have hT1 : mm_t M1 c = 1 := by rw [F1.1]; exact hTc
      have hT2 : mm_t M1 hf = 3 := by rw [F1.1]; exact hTf
      have g1 : mm_r M1 0 0 c ≠ 0 := by rw [F1.2.2.2.2.2.1 _ _ _ (fun z => z)]; exact r0
      have g2 : mm_f M1 0 0 c = hf := by rw [F1.f (fun z => z)]; exact f0
      have S1 : sh pw D ow sl M1 := F1.sh (fun c' k a z => z.elim) S
      have hT3 : mm_t M1 b = 6 := by rw [F1.1]; exact hTb
      have ff : ∀ c' k a, mm_f M1 c' k a = mm_f M c' k a := fun c' k a => F1.f (fun z => z)
      have g3 : mm_r M1 2 2 hf ≠ 0 := by rw [F1.2.2.2.2.2.1 _ _ _ (fun z => z)]; exact rs
      have g4 : mm_t M1 (mm_f M1 2 2 hf) = 100 := by rw [F1.1, ff]; exact ts
      have g5 : mm_n M1 (mm_f M1 2 2 hf) = pw := by rw [F1.2.1, ff]; exact ns
      have g6 : mm_n M1 (mm_f M1 5 3 b) = 30 := by rw [F1.2.1, ff]; exact nb
      have g7 : mm_n M1 (mm_f M1 5 2 b) = 30 := by rw [F1.2.1, ff]; exact nb2
      have g8 : mm_r M1 0 3 c ≠ 0 := by rw [F1.2.2.2.2.2.1 _ _ _ (fun z => z)]; exact rc
      have g9 : mm_t M1 (mm_f M1 0 3 c) = 100 := by rw [F1.1, ff]; exact tc
      have g10 : mm_n M1 (mm_f M1 0 3 c) = pw := by rw [F1.2.1, ff]; exact nc
      have hi1 : i < B.length := by omega
      have hst : mm_a M1 (mm_f M1 2 2 hf) (nI i).toNatClampNeg = htm B i := by rw [nI_clamp (by omega)]; exact H1.2.2.2.1 i hi1
      have bd := hv_bnd Hf.2.2 hp6 hi1
      have bp := bsz_pos (hb B i)
      have hbk := bok_k (Hf.2.2.2.2.2 i hi1)
      have hca : mm_a M1 (mm_f M1 0 3 c) (nI (had B i)).toNatClampNeg = if i ∈ q then tk (hb B i).1 (fw + qof B q i) else 0 := by rw [nI_clamp (by omega), ff, F1.2.2.2.2.2.2 _ bc]; exact hC i hi1
      have hlf : lf B (fun i => decide (i ∉ q)) (n + 1) i = if (hb B i).1 = 5 ∧ decide (i ∉ q) = true then bw B i :: lf B (fun i => decide (i ∉ q)) n (i + 1) else lf B (fun i => decide (i ∉ q)) n (i + 1) := rfl
      refine vv_iload_n (pc := 2) x dd_Ca_dropHandlesLeftBehind_2 rfl ?_
      refine vv_aload_n (pc := 3) x dd_Ca_dropHandlesLeftBehind_3 rfl ?_
      refine lg_Ca_15 (pc := 4) G x dd_Ca_dropHandlesLeftBehind_4 (by assumption) (by assumption) ?_
      rw [g2]
      refine lg_Ca_22 (pc := 7) G x dd_Ca_dropHandlesLeftBehind_7 (by assumption) ?_
      rw [H1.2.1]
      refine vv_icmp_ge (pc := 10) x dd_Ca_dropHandlesLeftBehind_10 (tgt := 61) (by decide) (fun h10 => absurd h10 (nI_ge (by omega) (by omega))) (fun h10 => ?_)
      refine vv_aload_n (pc := 13) x dd_Ca_dropHandlesLeftBehind_13 rfl ?_
      refine lg_Ca_15 (pc := 14) G x dd_Ca_dropHandlesLeftBehind_14 (by assumption) (by assumption) ?_
      rw [g2]
      refine lg_Ca_49 (pc := 17) G x dd_Ca_dropHandlesLeftBehind_17 (by assumption) (by assumption) ?_
      refine vv_iload_n (pc := 20) x dd_Ca_dropHandlesLeftBehind_20 rfl ?_
      refine vv_iald (pc := 21) x dd_Ca_dropHandlesLeftBehind_21 (by assumption) (in_n (by omega) g5 (by omega)) ?_
      rw [hst]
      refine vv_istore_n (pc := 22) x dd_Ca_dropHandlesLeftBehind_22 (by decide) (ls2 := [_, _, _, _]) rfl ?_
      refine vv_iload_n (pc := 23) x dd_Ca_dropHandlesLeftBehind_23 rfl ?_
      refine lv_Ca_66 (pc := 24) G x dd_Ca_dropHandlesLeftBehind_24 (k_kindOf G)  ⟨by decide, by decide⟩ (by decide) (by decide) (Nat.le_of_ble_eq_true rfl) (fun v24 M24 q24 => ?_)
      obtain ⟨rfl, hm24⟩ := q24
      have hm24 := hm24.symm
      subst hm24
      rw [hv_and H1.2.2 hp6 hi1]
      refine vv_iconst (pc := 27) x dd_Ca_dropHandlesLeftBehind_27 (5) (by decide) ?_
      refine vv_icmp_ne (pc := 28) x dd_Ca_dropHandlesLeftBehind_28 (tgt := 55) (by decide) (fun h28 => ?_) (fun h28 => ?_)
      · have hk : ¬ ((hb B i).1 = 5 ∧ decide (i ∉ q) = true) := fun z => h28 (by rw [z.1]; rfl)
        rw [hlf, if_neg hk] at hP
        refine vv_iinc (pc := 55) x dd_Ca_dropHandlesLeftBehind_55 rfl (nI_1 i) (by decide) (ls2 := [_, _, _, _]) rfl ?_
        refine vv_goto (pc := 58) x dd_Ca_dropHandlesLeftBehind_58 (tgt := 2) (by decide) ?_
        exact ih (i + 1) P _ _ (by omega) hM1 hP
      · have hk : (hb B i).1 = 5 := (nI_eq (b := 5) (by omega) (by decide)).mp h28
        refine vv_aload_n (pc := 31) x dd_Ca_dropHandlesLeftBehind_31 rfl ?_
        refine lg_Ca_9 (pc := 32) G x dd_Ca_dropHandlesLeftBehind_32 (by assumption) (by assumption) ?_
        refine vv_iload_n (pc := 35) x dd_Ca_dropHandlesLeftBehind_35 rfl ?_
        refine lv_Ca_41 (pc := 36) G x dd_Ca_dropHandlesLeftBehind_36 (k_contentOf G)  ⟨by decide, by decide⟩ (by decide) (by decide) (Nat.le_of_ble_eq_true rfl) (fun v36 M36 q36 => ?_)
        obtain ⟨rfl, hm36⟩ := q36
        have hm36 := hm36.symm
        subst hm36
        rw [hv_shr H1.2.2 hp6 hi1]
        refine vv_iald (pc := 39) x dd_Ca_dropHandlesLeftBehind_39 (by assumption) (in_n (by omega) g10 (by omega)) ?_
        rw [hca]
        refine vv_if_ne (pc := 40) x dd_Ca_dropHandlesLeftBehind_40 (tgt := 55) (by decide) (fun h40 => ?_) (fun h40 => ?_)
        · have hm : i ∈ q := Classical.byContradiction (fun z => h40 (if_neg z))
          rw [hlf, if_neg (fun z => (of_decide_eq_true z.2) hm)] at hP
          refine vv_iinc (pc := 55) x dd_Ca_dropHandlesLeftBehind_55 rfl (nI_1 i) (by decide) (ls2 := [_, _, _, _]) rfl ?_
          refine vv_goto (pc := 58) x dd_Ca_dropHandlesLeftBehind_58 (tgt := 2) (by decide) ?_
          exact ih (i + 1) P _ _ (by omega) hM1 hP
        · have hm : i ∉ q := fun z => by
            rw [if_pos z] at h40
            have h41 : (qof B q i : Nat) ≤ hsz (qB B q) := had_le
            exact tk_ne hbk.1 (by omega) h40
          rw [hlf, if_pos ⟨hk, decide_eq_true hm⟩] at hP
          obtain ⟨w1, w2⟩ := hB i hi1 hk
          refine vv_aload_n (pc := 43) x dd_Ca_dropHandlesLeftBehind_43 rfl ?_
          refine vv_aload_n (pc := 44) x dd_Ca_dropHandlesLeftBehind_44 rfl ?_
          refine lg_Ca_15 (pc := 45) G x dd_Ca_dropHandlesLeftBehind_45 (by assumption) (by assumption) ?_
          rw [g2]
          refine vv_iload_n (pc := 48) x dd_Ca_dropHandlesLeftBehind_48 rfl ?_
          refine lv_Ca_69 (pc := 49) G x dd_Ca_dropHandlesLeftBehind_49 (K_blobOf G S1 hp hp6 hDf hT2 H1 hi1 hk) hT2 ⟨by decide, by decide⟩ (by decide) (by decide) (Nat.le_of_ble_eq_true rfl) (fun v49 M49 q49 => ?_)
          obtain ⟨rfl, hm49⟩ := q49
          have hm49 := hm49.symm
          subst hm49
          rw [w1]
          refine lv_Ca_78 (pc := 52) G x dd_Ca_dropHandlesLeftBehind_52 (k_dropHandle G S1 hDb hT3 (in_n w2 g6 (by omega)) (in_n w2 g7 (by omega))) hT3 ⟨by decide, by decide⟩ (by decide) (by decide) (Nat.le_of_ble_eq_true rfl) (fun v52 M52 q52 => ?_)
          obtain ⟨rfl, hm52⟩ := q52
          rw [hM1, pdrop_pst (by omega) bb] at hm52
          refine vv_iinc (pc := 55) x dd_Ca_dropHandlesLeftBehind_55 rfl (nI_1 i) (by decide) (ls2 := [_, _, _, _]) rfl ?_
          refine vv_goto (pc := 58) x dd_Ca_dropHandlesLeftBehind_58 (tgt := 2) (by decide) ?_
          exact ih (i + 1) _ _ _ (by omega) hm52 hP
  refine vv_iconst (pc := 0) x dd_Ca_dropHandlesLeftBehind_0 (0) (by decide) ?_
  refine vv_istore_n (pc := 1) x dd_Ca_dropHandlesLeftBehind_1 (by decide) (ls2 := [_, _, _, none]) rfl ?_
  exact hloop B.length 0 _ M _ (by omega) pst_id.symm hPf
end M10
