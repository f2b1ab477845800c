/-! ===== blob ===== -/
section M39
variable {g : gg} {X : State → Prop} {t0 : Nat} {l : Launch} {M : mm} {pw : Nat} {D : Nat → Prop} {ow sl : Nat → Nat} {o : Nat} {La Le : List Nat} {Z : zst} {B : List bk} {b : bk}
/-- the first place without handles -/
def ffn (c : Nat → Nat) : Nat → Nat → Nat
  | 0, i => i
  | n + 1, i => if 0 < c i then ffn c n (i + 1) else i
theorem ffn_le {c : Nat → Nat} : ∀ {n i : Nat}, ffn c n i ≤ i + n
  | 0, i => Nat.le_refl _
  | n + 1, i => by
    show (if 0 < c i then ffn c n (i + 1) else i) ≤ _
    have := ffn_le (c := c) (n := n) (i := i + 1)
    split <;> omega
theorem ffn_z {c : Nat → Nat} : ∀ {n i w : Nat}, i ≤ w → w ≤ i + n → c w = 0 → c (ffn c n i) = 0
  | 0, i, w, h1, h2, h3 => by
    have e : w = i := by omega
    rw [← e]; exact h3
  | n + 1, i, w, h1, h2, h3 => by
    show c (if 0 < c i then ffn c n (i + 1) else i) = 0
    by_cases e : 0 < c i
    · rw [if_pos e]
      refine ffn_z (w := w) ?_ (by omega) h3
      have : w ≠ i := fun z => by rw [z] at h3; omega
      omega
    · rw [if_neg e]; omega
theorem ffr_ffn {C : Nat → Int32} {c : Nat → Nat} (h : ∀ w, w < 30 → C w = nI (c w)) (hc : ∀ w, c w < 2 ^ 31) : ∀ {n i : Nat}, i + n ≤ 30 → ffr C n i = ffn c n i
  | 0, i, _ => rfl
  | n + 1, i, hn => by
    show (if C i ≤ 0 then i else ffr C n (i + 1)) = (if 0 < c i then ffn c n (i + 1) else i)
    rw [ffr_ffn h hc (n := n) (i := i + 1) (by omega), h i (by omega)]
    have e : nI (c i) ≤ 0 ↔ c i ≤ 0 := nI_leI (a := c i) (b := 0) (hc i) (by decide)
    by_cases z : 0 < c i
    · rw [if_pos z, if_neg (fun y => by have := e.mp y; omega)]
    · rw [if_neg z, if_pos (e.mpr (by omega))]
theorem nz_full {f : Nat → Nat} : ∀ {l : List Nat}, nz f l < l.length → ∃ w ∈ l, f w = 0
  | [], h => by simp [nz] at h
  | a :: l, h => by
    rw [nz_cons, List.length_cons] at h
    by_cases e : 0 < f a
    · rw [if_pos e] at h
      obtain ⟨w, h1, h2⟩ := nz_full (f := f) (l := l) (by omega)
      exact ⟨w, List.mem_cons_of_mem _ h1, h2⟩
    · exact ⟨a, by simp, by omega⟩
/-- a blob of z words is made at w -/
def pmb (p : pp) (w z : Nat) : pp := (p.1 - z, p.2.1 + 1, un p.2.2.1 w z, un p.2.2.2 w 1)
def zfw (Z : zst) : Nat := ffn Z.2.1.2.2.2 29 0
def zblob (Z : zst) (i z : Nat) : zst := zbk (Z.1, pmb Z.2.1 (zfw Z) z, Z.2.2.1, Z.2.2.2) i (5, [nI (zfw Z)])
theorem zfw_30 : zfw Z < 30 := by
  have := ffn_le (c := Z.2.1.2.2.2) (n := 29) (i := 0)
  unfold zfw
  omega
theorem zfw_0 (h : zok pw Z) (hb : Z.2.1.2.1 < 30) : Z.2.1.2.2.2 (zfw Z) = 0 := by
  have h1 := h.2.2.2.2.1.1.1
  obtain ⟨w, h2, h3⟩ := nz_full (f := Z.2.1.2.2.2) (l := List.range 30) (by rw [← h1]; simpa using hb)
  have : w < 30 := by simpa using h2
  exact ffn_z (w := w) (by omega) (by omega) h3
theorem un_s {f : Nat → Nat} {w v : Nat} : un f w v w = v := if_pos rfl
theorem un_n {f : Nat → Nat} {w v j : Nat} (h : j ≠ w) : un f w v j = f j := if_neg h
theorem pmb_gd {p : pp} {w z : Nat} (h : pgd p) (hw : w < 30) (h0 : p.2.2.2 w = 0) (hz : 1 ≤ z) : pgd (pmb p w z) := by
  obtain ⟨⟨h1, h2⟩, h3, h4⟩ := h
  refine ⟨⟨?_, fun v => ?_⟩, fun v hv => ?_, fun v hv => ?_⟩
  · show p.2.1 + 1 = nz (un p.2.2.2 w 1) _
    rw [nz_zero (f := un p.2.2.2 w 1) (w := w) List.nodup_range (by simpa using hw) (by rw [un_s]; omega), h1]
    rw [nz_same (f := p.2.2.2) (f2 := un (un p.2.2.2 w 1) w 0) (fun v _ => by
      by_cases e : v = w
      · rw [e, un_s, h0]
      · rw [un_n e, un_n e])]
  · show un p.2.2.2 w 1 v < _
    by_cases e : v = w
    · rw [e, un_s]; omega
    · rw [un_n e]; exact h2 v
  · show 0 < un p.2.2.2 w 1 v ↔ 0 < un p.2.2.1 w z v
    by_cases e : v = w
    · rw [e, un_s, un_s]; omega
    · rw [un_n e, un_n e]; exact h3 v hv
  · show un p.2.2.2 w 1 v = 0
    rw [un_n (by omega)]; exact h4 v hv
theorem zblob_ok (h : zok pw Z) (hp6 : pw ≤ 600) {i z : Nat} (hi : i < Z.1.length) (hz : 1 ≤ z) (hf : z ≤ Z.2.1.1) (hb : Z.2.1.2.1 < 30) (h4 : hsz (zget Z i).2.2.2.2 + 2 ≤ (zget Z i).2.1) : zok pw (zblob Z i z) := by
  have hw := zfw_30 (Z := Z)
  have h0 := zfw_0 h hb
  have hcl : (nI (zfw Z)).toNatClampNeg = zfw Z := nI_clamp (by omega)
  have hpk := zbk_pok (b := (5, [nI (zfw Z)])) h hp6 hi (Or.inr (Or.inr ⟨rfl, rfl⟩)) (fun t ht => by simp [bpt] at ht) (fun _ => by
    show nI (zfw Z) = nI (nI (zfw Z)).toNatClampNeg ∧ (nI (zfw Z)).toNatClampNeg < 30
    rw [hcl]
    exact ⟨rfl, hw⟩) h4
  have hm := zget_mem hi
  have hg := pmb_gd (z := z) h.2.2.2.2.1 hw h0 hz
  obtain ⟨m1, m2, m3, m4, m5, m6, m7⟩ := h
  have hs0 : Z.2.1.2.2.1 (zfw Z) = 0 := by
    have := m5.2.1 _ hw
    omega
  refine ⟨fun P hP2 => ?_, ?_, ?_, fun P hP2 => ?_, hg, fun w hw2 => ?_, ?_⟩
  · rcases List.mem_or_eq_of_mem_set hP2 with e | e
    · exact m1 P e
    · rw [e]; exact hpk
  · show (Z.1.set i _).length ≤ 8
    rw [List.length_set]; exact m2
  · show ((Z.1.set i _).map (fun P => P.1)).Pairwise _
    rw [map_set_num (by rfl) hi]
    exact m3
  · rcases List.mem_or_eq_of_mem_set hP2 with e | e
    · exact m4 P e
    · rw [e]
      exact m4 (zget Z i) hm
  · show un Z.2.1.2.2.2 (zfw Z) 1 w = zcnt (Z.1.set i ((zget Z i).1, (zget Z i).2.1, (zget Z i).2.2.1, (zget Z i).2.2.2.1, (zget Z i).2.2.2.2 ++ [(5, [nI (zfw Z)])])) w
    have e5 := sum_set (fun P => (hnd P.2.2.2.2).count w) (L := Z.1) (P := ((zget Z i).1, (zget Z i).2.1, (zget Z i).2.2.1, (zget Z i).2.2.2.1, (zget Z i).2.2.2.2 ++ [((5 : Nat), [nI (zfw Z)])])) hi
    have e4 : (hnd (Z.1.getD i (0, 0, [], [], [])).2.2.2.2).count w = (hnd (zget Z i).2.2.2.2).count w := rfl
    have e6 : hnd ((zget Z i).2.2.2.2 ++ [((5 : Nat), [nI (zfw Z)])]) = hnd (zget Z i).2.2.2.2 ++ [zfw Z] := by
      rw [hnd_app, hnd_cons, if_pos rfl]
      show _ ++ ([(nI (zfw Z)).toNatClampNeg] ++ []) = _
      rw [hcl]
      rfl
    simp only [e4, e6, List.count_append] at e5
    have e7 := m6 w hw2
    unfold zcnt at *
    by_cases e : w = zfw Z
    · rw [e] at e5 e7 ⊢
      rw [un_s]
      rw [h0] at e7
      have e8 : List.count (zfw Z) [zfw Z] = 1 := by simp
      rw [e8] at e5
      omega
    · rw [un_n e, e7]
      have e8 : List.count w [zfw Z] = 0 := List.count_eq_zero.mpr (by simpa using e)
      rw [e8] at e5
      omega
  · show Z.2.1.1 - z + zcap (Z.1.set i ((zget Z i).1, (zget Z i).2.1, (zget Z i).2.2.1, (zget Z i).2.2.2.1, (zget Z i).2.2.2.2 ++ [(5, [nI (zfw Z)])])) + psum (un Z.2.1.2.2.1 (zfw Z) z) = pw
    have e5 := sum_set (fun P => P.2.1) (L := Z.1) (P := ((zget Z i).1, (zget Z i).2.1, (zget Z i).2.2.1, (zget Z i).2.2.2.1, (zget Z i).2.2.2.2 ++ [((5 : Nat), [nI (zfw Z)])])) hi
    have e6 : (Z.1.getD i (0, 0, [], [], [])).2.1 = (zget Z i).2.1 := rfl
    simp only [e6] at e5
    have e7 := sum_un (f := Z.2.1.2.2.1) (w := zfw Z) (v := z) (l := List.range 30) List.nodup_range (by simpa using hw)
    rw [hs0] at e7
    unfold zcap psum at *
    omega
theorem set_same {i : Nat} (hi : i < Z.1.length) : Z.1.set i (zget Z i) = Z.1 := by
  unfold zget
  rw [List.getD_eq_getElem?_getD, List.getElem?_eq_getElem hi]
  exact List.set_getElem_self hi
theorem pmk_fr {bb w : Nat} {z : Int32} : fr (fun c' k a => c' = 5 ∧ k < 2 ∧ a = bb) (fun _ _ _ => False) (fun a => a = mm_f M 5 2 bb ∨ a = mm_f M 5 3 bb) M (pmk M bb w z) := by
  refine ⟨rfl, rfl, rfl, rfl, fun c' k a y => ?_, fun _ _ _ _ => rfl, fun a y => ?_⟩
  · unfold pmk
    rw [mi_si, if_neg (fun q => y ⟨q.1, by omega, q.2.2⟩), mi_si, if_neg (fun q => y ⟨q.1, by omega, q.2.2⟩)]
    rfl
  · unfold pmk
    rw [ma_si, ma_si, ma_sa_n (fun q => y (Or.inr q)), ma_sa_n (fun q => y (Or.inl q))]
theorem CI_mk (C : CI pw D ow sl M o La Le Z) (hZ : zok pw Z) {i : Nat} (hi : i < La.length) {z : Nat} (hz : 1 ≤ z) (hf : z ≤ Z.2.1.1) (hb : Z.2.1.2.1 < 30) : CI pw D ow sl (pmk M (mm_f M 6 1 o) (zfw Z) (nI z)) o La Le (Z.1, pmb Z.2.1 (zfw Z) z, Z.2.2.1, Z.2.2.2) ∧ kp pw D M (pmk M (mm_f M 6 1 o) (zfw Z) (nI z)) := by
  have C0 := C
  have F := pmk_fr (M := M) (bb := mm_f M 6 1 o) (w := zfw Z) (z := nI z)
  have hw := zfw_30 (Z := Z)
  have h0 := zfw_0 hZ hb
  obtain ⟨⟨hDc, hTc⟩, ⟨hDs, hTs⟩, ⟨hDb, hTb⟩, hTa⟩ := CI_tags C
  obtain ⟨S, ⟨hDo, hTo, hp, hp6⟩, ⟨ha1, ha2, ha3, ha4⟩, ⟨hl, hP⟩, ⟨hpo, T0, hT0⟩, -, -⟩ := C
  have hmem : La.getD i 0 ∈ La ++ Le := List.mem_append_left Le (getD_memN hi)
  obtain ⟨⟨hDp, hTp⟩, ⟨hDf, hTf⟩, ⟨hDm, hTm⟩⟩ := hTa _ hmem
  obtain ⟨p1, p2, p3, p4, p5⟩ := hP i hi
  have ff : ∀ c' k a, mm_f (pmk M (mm_f M 6 1 o) (zfw Z) (nI z)) c' k a = mm_f M c' k a := fun c' k a => rfl
  have NA : ∀ {a1 c1 k2 : Nat}, D a1 → mm_t M a1 = c1 + 1 → aL pw c1 k2 ≠ 0 → a1 ≠ mm_f M 6 1 o → ¬ (mm_f M c1 k2 a1 = mm_f M 5 2 (mm_f M 6 1 o) ∨ mm_f M c1 k2 a1 = mm_f M 5 3 (mm_f M 6 1 o)) := by
    rintro a1 c1 k2 h1 h2 h3 h4 (y | y)
    · exact S.ap h1 h2 h3 hDb hTb (k2 := 2) (show (30 : Nat) ≠ 0 by decide) (Or.inl h4) y
    · exact S.ap h1 h2 h3 hDb hTb (k2 := 3) (show (30 : Nat) ≠ 0 by decide) (Or.inl h4) y
  have H := CI_step C0 hi (P' := zget Z i) (p' := pmb Z.2.1 (zfw Z) z) (F.mono (fun c' k a y => ⟨by have := y.1; omega, by rw [y.2.2]; unfold ob; simp⟩) (fun _ _ _ y => y.elim) (fun a y => by
    rcases y with y | y
    · rw [y]; exact stA_in hDb hTb (show (30 : Nat) ≠ 0 by decide) (by decide) (by unfold ob; simp)
    · rw [y]; exact stA_in hDb hTb (show (30 : Nat) ≠ 0 by decide) (by decide) (by unfold ob; simp))) ⟨?_, ?_, ?_, fun x hx => ?_, ?_⟩ ?_ ⟨T0, ?_⟩
  · rw [set_same (by omega)] at H
    exact H
  · rw [F.2.2.2.2.1 _ _ _ (fun y => absurd y.1 (by decide))]; exact p1
  · rw [F.2.2.2.2.1 _ _ _ (fun y => absurd y.1 (by decide))]; exact p2
  · rw [ff]
    exact HeapIs.fr F p3 (fun y => absurd y.1 (by decide)) (fun y => absurd y.1 (by decide)) (fun y => y) (fun y => y) (NA hDf hTf hp (ne_tag hTf hTb (by decide))) (NA hDf hTf hp (ne_tag hTf hTb (by decide)))
  · rw [ff, F.2.2.2.2.2.2 _ (NA (c1 := 3) (k2 := 3) hDp hTp (show (4 : Nat) ≠ 0 by decide) (ne_tag hTp hTb (by decide)))]
    exact p4 x hx
  · rw [ff]
    exact MailIs.fr F p5 (fun y => absurd y.1 (by decide)) (fun y => absurd y.1 (by decide)) (fun y => y) (NA hDm hTm (show (512 : Nat) ≠ 0 by decide) (ne_tag hTm hTb (by decide)))
  · obtain ⟨q1, q2, q3⟩ := hpo
    have n23 : mm_f M 5 2 (mm_f M 6 1 o) ≠ mm_f M 5 3 (mm_f M 6 1 o) := S.ap hDb hTb (k := 2) (show (30 : Nat) ≠ 0 by decide) hDb hTb (k2 := 3) (show (30 : Nat) ≠ 0 by decide) (Or.inr (by decide))
    have q1' : mm_i M 5 0 (mm_f M 6 1 o) = nI Z.2.1.1 := q1
    have q2' : mm_i M 5 1 (mm_f M 6 1 o) = nI Z.2.1.2.1 := q2
    refine ⟨?_, ?_, fun w9 hw9 => ?_⟩
    · show mm_i (pmk M (mm_f M 6 1 o) (zfw Z) (nI z)) 5 0 (mm_f M 6 1 o) = nI (Z.2.1.1 - z)
      unfold pmk
      rw [mi_si_k (by decide), mi_si_s, q1', pk_sub hf]
    · show mm_i (pmk M (mm_f M 6 1 o) (zfw Z) (nI z)) 5 1 (mm_f M 6 1 o) = nI (Z.2.1.2.1 + 1)
      unfold pmk
      rw [mi_si_s, q2', nI_1]
    · obtain ⟨q4, q5⟩ := q3 w9 hw9
      have q4' : mm_a M (mm_f M 5 3 (mm_f M 6 1 o)) w9 = nI (Z.2.1.2.2.2 w9) := q4
      show mm_a (pmk M (mm_f M 6 1 o) (zfw Z) (nI z)) (mm_f M 5 3 (mm_f M 6 1 o)) w9 = nI (un Z.2.1.2.2.2 (zfw Z) 1 w9) ∧ (0 < un Z.2.1.2.2.2 (zfw Z) 1 w9 → mm_a (pmk M (mm_f M 6 1 o) (zfw Z) (nI z)) (mm_f M 5 2 (mm_f M 6 1 o)) w9 = nI (un Z.2.1.2.2.1 (zfw Z) z w9))
      unfold pmk
      rw [ma_si, ma_si, ma_sa_s, ma_sa_n n23, ma_sa_s]
      unfold upd
      by_cases e : w9 = zfw Z
      · rw [if_pos e, if_pos e, e, un_s, un_s]
        exact ⟨rfl, fun _ => rfl⟩
      · rw [if_neg e, if_neg e, un_n e, un_n e]
        exact ⟨q4', q5⟩
  · exact HeapIs.fr F hT0 (fun y => absurd y.1 (by decide)) (fun y => absurd y.1 (by decide)) (fun y => y) (fun y => y) (NA hDs hTs hp (ne_tag hTs hTb (by decide))) (NA hDs hTs hp (ne_tag hTs hTb (by decide)))
set_option maxRecDepth 100000 in
set_option maxHeartbeats 4000000 in
theorem C_blob (G : gc g X t0 l) (C : CI pw D ow sl M o La Le Z) (hZ : zok pw Z) (hDl : ∀ a, D a → mm_t M a ≠ 0) {xv rv : Int32} (k9 : Nat) (hk9 : plc Z xv = k9) {nv : Int32} : OkX g X l yy_CH_blob cc_CH_blob 5 none 8 163 4 24 [.ref o, .int xv, .int rv, .int nv] M (fun v M' => v = none ∧ (k9 < Z.1.length ∧ rok rv) ∧ (¬ nv < 1 ∧ nv ≤ 100) ∧ (zroom Z k9 2).1 = true ∧ (¬ nI (zroom Z k9 2).2.2.1.1 < nv ∧ (zroom Z k9 2).2.2.1.2.1 < 30) ∧ CI pw D ow sl M' o La Le (zreg (zblob (zroom Z k9 2).2 k9 nv.toNatClampNeg) k9 rv.toNatClampNeg (tk 5 (hsz (zget (zroom Z k9 2).2 k9).2.2.2.2))) ∧ kp pw D M M') (fun E M' => (E = "java/lang/IndexOutOfBoundsException" ∧ M' = M ∧ ¬ (k9 < Z.1.length ∧ rok rv)) ∨ (E = "java/lang/IllegalArgumentException" ∧ M' = M ∧ (k9 < Z.1.length ∧ rok rv) ∧ ¬ (¬ nv < 1 ∧ nv ≤ 100)) ∨ (E = "java/lang/IllegalStateException" ∧ (k9 < Z.1.length ∧ rok rv) ∧ (¬ nv < 1 ∧ nv ≤ 100) ∧ ¬ (zroom Z k9 2).1 = true ∧ CI pw D ow sl M' o La Le ((zroom Z k9 2).2) ∧ kp pw D M M') ∨ (E = "java/lang/UnsupportedOperationException" ∧ (k9 < Z.1.length ∧ rok rv) ∧ (¬ nv < 1 ∧ nv ≤ 100) ∧ (zroom Z k9 2).1 = true ∧ ¬ (¬ nI (zroom Z k9 2).2.2.1.1 < nv ∧ (zroom Z k9 2).2.2.1.2.1 < 30) ∧ CI pw D ow sl M' o La Le ((zroom Z k9 2).2) ∧ kp pw D M M')) := by
  refine okx_start (by decide) (Nat.le_of_ble_eq_true rfl) (by simp [Value.category]) ?_
  intro p e s m args below meth c9 x ht0
  have C0 := C
  obtain ⟨⟨hDc, hTc⟩, ⟨hDs, hTs⟩, ⟨hDb, hTb⟩, hTa⟩ := CI_tags C
  obtain ⟨S, ⟨hDo, hTo, hp, hp6⟩, ⟨ha1, ha2, ha3, ha4⟩, ⟨hl, hP⟩, ⟨hpo, T0, hT0⟩, ⟨hw, hlt, hcn⟩, hL⟩ := C
  refine vv_aload_n (pc := 0) x dd_CH_blob_0 rfl ?_
  refine vv_iload_n (pc := 1) x dd_CH_blob_1 rfl ?_
  refine vv_iload_n (pc := 2) x dd_CH_blob_2 rfl ?_
  refine lv_CH_115x (pc := 3) G x ht0 dd_CH_blob_3 (C_living2 G C0 hZ k9 hk9) hTo ⟨by decide, by decide⟩ (by decide) (by decide) (Nat.le_of_ble_eq_true rfl) (fun v3 M3 q3 => ?_) (fun E M' q => Or.inl ⟨q.1, q.2.1, q.2.2⟩)
  obtain ⟨rfl, hm3, hk, hr⟩ := q3
  have hm3 := hm3.symm
  subst hm3
  have hi : k9 < La.length := by omega
  obtain ⟨⟨hDp, hTp⟩, ⟨hDf, hTf⟩, ⟨hDm, hTm⟩⟩ := hTa _ (List.mem_append_left Le (getD_memN hi))
  obtain ⟨p1, p2, p3, p4, p5⟩ := hP k9 hi
  obtain ⟨hin, hj, ej⟩ := rok_in hr
  have rr := S.r hDp hTp 3 (show (4 : Nat) ≠ 0 by decide)
  have tr := S.t hDp hTp 3 (show (4 : Nat) ≠ 0 by decide)
  have nr : mm_n M (mm_f M 3 3 (La.getD k9 0)) = 4 := S.n hDp hTp 3 (show (4 : Nat) ≠ 0 by decide)
  have eg : mm_a M (mm_f M 3 3 (La.getD k9 0)) rv.toNatClampNeg = zrg Z k9 rv := p4 _ hj
  refine vv_astore (pc := 6) x dd_CH_blob_6 (by decide) (ls2 := [_, _, _, _, _]) rfl ?_
  refine vv_iload_n (pc := 8) x dd_CH_blob_8 rfl ?_
  refine vv_iconst (pc := 9) x dd_CH_blob_9 (1) (by decide) ?_
  refine vv_icmp_lt (pc := 10) x dd_CH_blob_10 (tgt := 19) (by decide) (fun h10 => ?_) (fun h10 => ?_)
  · exact lx_CH_124 (pc := 19) G x ht0 dd_CH_blob_19 dd_CH_blob_22 dd_CH_blob_23 dd_CH_blob_26 ⟨by decide, by decide⟩ (Nat.le_of_ble_eq_true rfl) (by decide) (by decide) (Or.inr (Or.inl ⟨rfl, rfl, ⟨hk, hr⟩, fun z => z.1 h10⟩))
  · refine vv_iload_n (pc := 13) x dd_CH_blob_13 rfl ?_
    refine vv_bipush (pc := 14) x dd_CH_blob_14 (100) (by decide) ?_
    refine vv_icmp_le (pc := 16) x dd_CH_blob_16 (tgt := 27) (by decide) (fun h16 => ?_) (fun h16 => ?_)
    · have hn0 : ¬ nv < 0 := fun z => h10 (Int32.lt_of_lt_of_le z (by decide))
      obtain ⟨n9, n91, n92⟩ := nI_of hn0
      have n94 : n9 ≤ 100 := (nI_leI (b := 100) n91 (by decide)).mp (by rw [← n92]; exact h16)
      have n95 : 1 ≤ n9 := by
        have := nI_ltI (a := n9) (b := 1) n91 (by decide)
        rw [← n92] at this
        have h7 : ¬ n9 < 1 := fun z => h10 (this.mpr z)
        omega
      have n93 : nv.toNatClampNeg = n9 := by rw [n92, nI_clamp n91]
      rw [n93]
      refine vv_aload_n (pc := 27) x dd_CH_blob_27 rfl ?_
      refine vv_aload (pc := 28) x dd_CH_blob_28 rfl ?_
      refine vv_iconst (pc := 30) x dd_CH_blob_30 (2) (by decide) ?_
      refine lv_CH_133x (pc := 31) G x ht0 dd_CH_blob_31 (C_need (n := 2) G C0 hZ hDl hi (by decide) _ rfl) hTo ⟨by decide, by decide⟩ (by decide) (by decide) (Nat.le_of_ble_eq_true rfl) (fun v31 M31 q31 => ?_) (fun E M' q => Or.inr (Or.inr (Or.inl ⟨q.1, ⟨hk, hr⟩, ⟨h10, h16⟩, q.2.1, q.2.2⟩)))
      obtain ⟨rfl, hR1, C1, kp1⟩ := q31
      have hZ1 := zroom_ok (n := 2) hZ hk
      have hfit := zroom_fit hk hR1
      have hzl := zroom_len (Z := Z) (i := k9) (n := 2)
      generalize zroom Z k9 (2) = RR at *
      obtain ⟨ok2, Z1⟩ := RR
      obtain ⟨-, -, -, hTa1⟩ := CI_tags C1
      have C10 := C1
      obtain ⟨S1, ⟨-, hTo1, -, -⟩, -, ⟨hl1, hP1⟩, -, -, -⟩ := C1
      obtain ⟨⟨-, hTp1⟩, ⟨hDf1, hTf1⟩, ⟨hDm1, hTm1⟩⟩ := hTa1 _ (List.mem_append_left Le (getD_memN hi))
      obtain ⟨u1, u2, u3, u4, u5⟩ := hP1 k9 hi
      have hk1 : k9 < Z1.1.length := by have hzl' : Z1.1.length = Z.1.length := hzl; omega
      have hZ1' : zok pw Z1 := hZ1
      have hfit' : hsz (zget Z1 k9).2.2.2.2 + (2) ≤ (zget Z1 k9).2.1 := hfit
      have hcap1 := cap_le hZ1' hk1
      have rr1 := S1.r hDp hTp1 3 (show (4 : Nat) ≠ 0 by decide)
      have tr1 := S1.t hDp hTp1 3 (show (4 : Nat) ≠ 0 by decide)
      have nr1 : mm_n M31 (mm_f M31 3 3 (La.getD k9 0)) = 4 := S1.n hDp hTp1 3 (show (4 : Nat) ≠ 0 by decide)
      obtain ⟨-, -, ⟨hDb1, hTb1⟩, -⟩ := CI_tags C10
      obtain ⟨-, -, -, -, ⟨⟨q1, q2, q3⟩, -⟩, -, -⟩ := id C10
      have q1' : mm_i M31 5 0 (mm_f M31 6 1 o) = nI Z1.2.1.1 := q1
      have q2' : mm_i M31 5 1 (mm_f M31 6 1 o) = nI Z1.2.1.2.1 := q2
      have hb31 : Z1.2.1.2.1 < 2 ^ 31 := by
        have e9 := hZ1'.2.2.2.2.1.1.1
        have e8 : nz Z1.2.1.2.2.2 (List.range 30) ≤ (List.range 30).length := List.length_filter_le _ _
        rw [List.length_range] at e8
        omega
      refine vv_aload_n (pc := 34) x dd_CH_blob_34 rfl ?_
      refine lg_CH_27 (pc := 35) G x dd_CH_blob_35 hTo1 (S1.or hDo hTo1 1 (by decide)) ?_
      refine lg_CH_66 (pc := 38) G x dd_CH_blob_38 hTb1 ?_
      rw [q1']
      refine vv_iload_n (pc := 41) x dd_CH_blob_41 rfl ?_
      refine vv_icmp_lt (pc := 42) x dd_CH_blob_42 (tgt := 57) (by decide) (fun h42 => ?_) (fun h42 => ?_)
      · exact lx_CH_147 (pc := 57) G x ht0 dd_CH_blob_57 dd_CH_blob_60 dd_CH_blob_61 dd_CH_blob_64 ⟨by decide, by decide⟩ (Nat.le_of_ble_eq_true rfl) (by decide) (by decide) (Or.inr (Or.inr (Or.inr ⟨rfl, ⟨hk, hr⟩, ⟨h10, h16⟩, hR1, fun z => z.1 h42, C10, kp1⟩)))
      · refine vv_aload_n (pc := 45) x dd_CH_blob_45 rfl ?_
        refine lg_CH_27 (pc := 46) G x dd_CH_blob_46 hTo1 (S1.or hDo hTo1 1 (by decide)) ?_
        refine lg_CH_144 (pc := 49) G x dd_CH_blob_49 hTb1 ?_
        rw [q2']
        refine vv_bipush (pc := 52) x dd_CH_blob_52 (30) (by decide) ?_
        refine vv_icmp_lt (pc := 54) x dd_CH_blob_54 (tgt := 65) (by decide) (fun h54 => ?_) (fun h54 => ?_)
        · have hb9 : Z1.2.1.2.1 < 30 := (nI_ltI (b := 30) hb31 (by decide)).mp h54
          have hf9 : n9 ≤ Z1.2.1.1 := by
            have h7 := nI_ltI (a := Z1.2.1.1) (b := n9) (by omega) n91
            rw [← n92] at h7
            have h6 : ¬ Z1.2.1.1 < n9 := fun z => h42 (h7.mpr z)
            omega
          have hq := CI_mk (Z := Z1) C10 hZ1' hi n95 hf9 hb9
          refine vv_aload (pc := 65) x dd_CH_blob_65 rfl ?_
          refine lg_CH_118 (pc := 67) G x dd_CH_blob_67 hTp1 rr1 ?_
          refine vv_iload_n (pc := 70) x dd_CH_blob_70 rfl ?_
          refine vv_aload (pc := 71) x dd_CH_blob_71 rfl ?_
          refine lg_CH_97 (pc := 73) G x dd_CH_blob_73 hTp1 (S1.or hDp hTp1 2 (by decide)) ?_
          refine vv_aload_n (pc := 76) x dd_CH_blob_76 rfl ?_
          refine lg_CH_27 (pc := 77) G x dd_CH_blob_77 hTo1 (S1.or hDo hTo1 1 (by decide)) ?_
          refine vv_iload_n (pc := 80) x dd_CH_blob_80 rfl ?_
          refine lv_CH_150 (pc := 81) G x dd_CH_blob_81 (K_makeBlob G S1 hDb1 hTb1 (zfw Z1) (ffr_ffn (fun w9 hw9 => (q3 w9 hw9).1) hZ1'.2.2.2.2.1.1.2 (by decide))) hTb1 ⟨by decide, by decide⟩ (by decide) (by decide) (Nat.le_of_ble_eq_true rfl) (fun v81 M81 q81 => ?_)
          obtain ⟨rfl, hM81⟩ := q81
          rw [← n92, ← hM81] at hq
          have Fm := pmk_fr (M := M31) (bb := mm_f M31 6 1 o) (w := zfw Z1) (z := nv)
          rw [← hM81] at Fm
          have fm : ∀ c' k a, mm_f M81 c' k a = mm_f M31 c' k a := fun c' k a => Fm.f (fun z => z)
          obtain ⟨C2, kp2⟩ := hq
          have hP2 := C2.2.2.2.1.2 k9 hi
          have S2 := C2.1
          have hTf2 : mm_t M81 (mm_f M31 3 2 (La.getD k9 0)) = 3 := by rw [Fm.1]; exact hTf1
          have hH2 : HeapIs pw M81 (mm_f M31 3 2 (La.getD k9 0)) (zget Z1 k9).2.2.2.2 := by
            have := hP2.2.2.1
            rw [fm] at this
            exact this
          refine lv_CH_153 (pc := 84) G x dd_CH_blob_84 (K_addHandle (B := (zget Z1 k9).2.2.2.2) G S2 hp hp6 hDf1 hTf2 hH2 (by omega)) hTf2 ⟨by decide, by decide⟩ (by decide) (by decide) (Nat.le_of_ble_eq_true rfl) (fun v84 M84 q84 => ?_)
          obtain ⟨rfl, hH⟩ := q84
          have F2 := hadd_fr hH
          rw [← fm] at hH
          have hadd9 := CI_add C2 hi hH
          have hZ2 := zblob_ok hZ1' hp6 hk1 n95 hf9 hb9 hfit'
          have hrg := CI_reg (t := tk 5 (hsz (zget Z1 k9).2.2.2.2)) hadd9.1 hZ2 hi hj
          have ff : ∀ c' k a, mm_f M84 c' k a = mm_f M31 c' k a := fun c' k a => (F2.f (fun z => z)).trans (fm c' k a)
          rw [ff] at hrg
          refine vv_iast (pc := 87) x dd_CH_blob_87 (by rw [F2.1, Fm.1]; exact tr1) (by rw [F2.2.1, Fm.2.1, nr1]; exact hin) ?_
          exact vvx_ret (vv_vret (pc := 88) x dd_CH_blob_88 rfl (by decide) (by decide) ⟨rfl, ⟨hk, hr⟩, ⟨h10, h16⟩, hR1, ⟨h42, hb9⟩, hrg.1, kp1.trans hDl (CI_7 C0) (kp2.trans (fun a9 h9 => by rw [(kp1.1 a9 (hDl a9 h9)).1]; exact hDl a9 h9) (CI_7 C10) (hadd9.2.trans (fun a9 h9 => by rw [Fm.1, (kp1.1 a9 (hDl a9 h9)).1]; exact hDl a9 h9) (CI_7 C2) hrg.2))⟩)
        · exact lx_CH_147 (pc := 57) G x ht0 dd_CH_blob_57 dd_CH_blob_60 dd_CH_blob_61 dd_CH_blob_64 ⟨by decide, by decide⟩ (Nat.le_of_ble_eq_true rfl) (by decide) (by decide) (Or.inr (Or.inr (Or.inr ⟨rfl, ⟨hk, hr⟩, ⟨h10, h16⟩, hR1, fun z => h54 ((nI_ltI (b := 30) hb31 (by decide)).mpr z.2), C10, kp1⟩)))
    · exact lx_CH_124 (pc := 19) G x ht0 dd_CH_blob_19 dd_CH_blob_22 dd_CH_blob_23 dd_CH_blob_26 ⟨by decide, by decide⟩ (Nat.le_of_ble_eq_true rfl) (by decide) (by decide) (Or.inr (Or.inl ⟨rfl, rfl, ⟨hk, hr⟩, fun z => h16 z.2⟩))
end M39
