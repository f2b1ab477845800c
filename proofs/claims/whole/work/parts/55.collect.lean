/-! ===== a heap is collected ===== -/
section M12
variable {g : gg} {X : State → Prop} {t0 : Nat} {l : Launch} {M : mm} {pw : Nat} {D : Nat → Prop} {ow sl : Nat → Nat} {B T : List bk} {c hf ht hs o pr mb b ra fw : Nat} {q : List Nat}
theorem ne_tag {x y a a2 : Nat} (h1 : mm_t M a = x) (h2 : mm_t M a2 = y) (h : x ≠ y) : a ≠ a2 := fun e => h (by rw [← h1, e, h2])
theorem fr.cch {Aa : Nat → Prop} {M1 M2 : mm} (F : fr (scI c hs) (scR c) Aa M M1) (hA : ∀ a, scA M c hs a → Aa a) (C : cch M1 c hs M2) : fr (scI c hs) (scR c) Aa M M2 := by
  have g2 := fun k => F.f (c := 2) (k := k) (a := hs) (fun z => absurd z.1 (by decide))
  have g3 : mm_f M1 0 3 c = mm_f M 0 3 c := F.f (fun z => absurd z.2.1 (by decide))
  exact F.trans (C.fr.mono (fun c' k a z => Or.inr z) (fun c' k a z => z.elim) (fun a z => by rw [g2 2, g2 3, g3] at z; exact hA a z))
theorem Cs.fa {Aa : Nat → Prop} {M1 : mm} (F : fr (fun _ _ _ => False) (fun _ _ _ => False) Aa M M1) (K : Cs pw D M c hf ht B fw q T) (a1 : ¬ Aa (mm_f M 0 3 c)) (a2 : ¬ Aa (mm_f M 2 2 hf)) (a3 : ¬ Aa (mm_f M 2 3 hf)) (a4 : ¬ Aa (mm_f M 2 2 ht)) (a5 : ¬ Aa (mm_f M 2 3 ht)) : Cs pw D M1 c hf ht B fw q T := by
  obtain ⟨⟨hTc, hDc, r0, f0, r1, f1⟩, ⟨hne, hDf, hTf, hDt, hTt⟩, Hf, Ht, hz, hq, hC⟩ := K
  have ff : ∀ c' k a, mm_f M1 c' k a = mm_f M c' k a := fun c' k a => F.f (fun z => z)
  have rr : ∀ c' k a, mm_r M1 c' k a = mm_r M c' k a := fun c' k a => F.2.2.2.2.2.1 _ _ _ (fun z => z)
  refine ⟨⟨by rw [F.1]; exact hTc, hDc, by rw [rr]; exact r0, by rw [ff]; exact f0, by rw [rr]; exact r1, by rw [ff]; exact f1⟩, ⟨hne, hDf, by rw [F.1]; exact hTf, hDt, by rw [F.1]; exact hTt⟩, HeapIs.fr F Hf (fun z => z) (fun z => z) (fun z => z) (fun z => z) a2 a3, HeapIs.fr F Ht (fun z => z) (fun z => z) (fun z => z) (fun z => z) a4 a5, hz, hq, fun i hi => ?_⟩
  rw [ff, F.2.2.2.2.2.2 _ a1]
  exact hC i hi
def coI (c hs b o : Nat) : Nat → Nat → Nat → Prop := fun c' k a => scI c hs c' k a ∨ (c' = 5 ∧ k < 2 ∧ a = b) ∨ (c' = 6 ∧ k = 8 ∧ a = o)
def coR (c pr o : Nat) : Nat → Nat → Nat → Prop := fun c' k a => scR c c' k a ∨ (c' = 3 ∧ k = 2 ∧ a = pr) ∨ (c' = 6 ∧ k = 6 ∧ a = o)
def lpA (M : mm) (c hs pr mb : Nat) : Nat → Prop := fun a => scA M c hs a ∨ a = mm_f M 3 3 pr ∨ a = mm_f M 4 2 mb
def coA (M : mm) (c hs pr mb b : Nat) : Nat → Prop := fun a => lpA M c hs pr mb a ∨ a = mm_f M 5 3 b
theorem fr_sa {a : Nat} {F : Nat → Int32} : fr (fun _ _ _ => False) (fun _ _ _ => False) (fun a2 => a2 = a) M (mm_sa M a F) := ⟨rfl, rfl, rfl, rfl, fun _ _ _ _ => rfl, fun _ _ _ _ => rfl, fun a2 z => ma_sa_n z⟩
theorem take_succ_getD {L : List Int32} {k : Nat} (h : k < L.length) : L.take (k + 1) = L.take k ++ [L.getD k 0] := by
  rw [List.getD_eq_getElem?_getD, List.getElem?_eq_getElem h, List.take_add_one, List.getElem?_eq_getElem h]
  rfl
/-- the first i ones changed -/
def mpp (F : Int32 → Int32) (i : Nat) (L : List Int32) : List Int32 := (L.take i).map F ++ L.drop i
theorem mpp_len {F : Int32 → Int32} {i : Nat} {L : List Int32} : (mpp F i L).length = L.length := by
  simp [mpp]
  omega
theorem mpp_0 {F : Int32 → Int32} {L : List Int32} : mpp F 0 L = L := by simp [mpp]
theorem mpp_all {F : Int32 → Int32} {L : List Int32} : mpp F L.length L = L.map F := by simp [mpp]
theorem mpp_get {F : Int32 → Int32} {i : Nat} {L : List Int32} (h : i < L.length) : (mpp F i L).getD i 0 = L.getD i 0 := by
  have e : ((L.take i).map F).length = i := by simp; omega
  unfold mpp
  rw [List.getD_eq_getElem?_getD, List.getElem?_append_right (by omega), e]
  simp [List.getD_eq_getElem?_getD]
theorem mpp_set {F : Int32 → Int32} {i : Nat} {L : List Int32} (h : i < L.length) : (mpp F i L).set i (F (L.getD i 0)) = mpp F (i + 1) L := by
  have e : ((L.take i).map F).length = i := by simp; omega
  unfold mpp
  rw [List.set_append, if_neg (by omega), e, Nat.sub_self, drop_getD h, List.set_cons_zero, take_succ_getD h, List.map_append]
  simp
theorem rel_vis {fw : Nat} {t : Int32} {r : List Nat} : rel B fw (vis B q t ++ r) t = rel B fw (vis B q t) t := rel_app (fun i hi => vis_mem hi)
set_option maxRecDepth 100000 in
set_option maxHeartbeats 4000000 in
theorem K_collect (G : gc g X t0 l) (S : sh pw D ow sl M) (hp : pw ≠ 0) (hp6 : pw ≤ 600) (hDo : D o) (hTo : mm_t M o = 7) (hDp : D pr) (hTp : mm_t M pr = 4) (ec : mm_f M 6 4 o = c) (es : mm_f M 6 6 o = hs) (eb : mm_f M 6 1 o = b) (eh : mm_f M 3 2 pr = hf) (em : mm_f M 3 4 pr = mb) (era : mm_f M 3 3 pr = ra) (hne : hf ≠ hs) (Hf : HeapIs pw M hf B) {Rg ms : List Int32} (hRl : Rg.length = 4) (hRg : ∀ j, j < 4 → mm_a M ra j = Rg.getD j 0) (hMa : MailIs M mb ms) (hvR : ∀ t ∈ Rg, vt B t) (hvm : ∀ t ∈ ms, vt B t) (hv0 : hval B) (hB : hbl B) (Q9 : List Nat) (hQ9 : bfs B B.length 0 (visL B [] (Rg ++ ms)) = Q9) (Pf : PL) (hPf : (lf B (fun i => decide (i ∉ Q9)) B.length 0).foldl (pd (mm_a M (mm_f M 5 2 b))) (pget M b) = Pf) : Ok g X l yy_CH_collectHeap cc_CH_collectHeap 4 none 4 95 0 0 [.ref o, .ref pr] M (fun v M' => v = none ∧ fr (coI c hs b o) (coR c pr o) (coA M c hs pr mb b) M M' ∧ sh pw D ow sl M' ∧ mm_f M' 3 2 pr = hs ∧ mm_f M' 6 6 o = hf ∧ HeapIs pw M' hs (TT B 0 [] Q9.length 0 Q9) ∧ HeapIs pw M' hf B ∧ (∀ j, j < 4 → mm_a M' ra j = rel B 0 Q9 (Rg.getD j 0)) ∧ MailIs M' mb (ms.map (rel B 0 Q9)) ∧ pget M' b = Pf ∧ mm_i M' 6 8 o = mm_i M 6 8 o + 1) := by
  refine ok_start (by decide) (Nat.le_of_ble_eq_true rfl) (by simp [Value.category]) ?_
  intro p e s m args below meth c9 x
  have hDc : D c := by rw [← ec]; exact S.od hDo hTo 4 (by decide)
  have hTc : mm_t M c = 1 := by rw [← ec]; exact S.ot hDo hTo 4 (by decide)
  have hDs : D hs := by rw [← es]; exact S.od hDo hTo 6 (by decide)
  have hTs : mm_t M hs = 3 := by rw [← es]; exact S.ot hDo hTo 6 (by decide)
  have hDb : D b := by rw [← eb]; exact S.od hDo hTo 1 (by decide)
  have hTb : mm_t M b = 6 := by rw [← eb]; exact S.ot hDo hTo 1 (by decide)
  have hDf : D hf := by rw [← eh]; exact S.od hDp hTp 2 (by decide)
  have hTf : mm_t M hf = 3 := by rw [← eh]; exact S.ot hDp hTp 2 (by decide)
  have hDm : D mb := by rw [← em]; exact S.od hDp hTp 4 (by decide)
  have hTm : mm_t M mb = 5 := by rw [← em]; exact S.ot hDp hTp 4 (by decide)
  have tra : mm_t M ra = 100 := by rw [← era]; exact S.t hDp hTp 3 (show (4 : Nat) ≠ 0 by decide)
  have nra : mm_n M ra = 4 := by rw [← era]; exact S.n hDp hTp 3 (show (4 : Nat) ≠ 0 by decide)
  have a_ca_r := S.ap hDc hTc (k := 3) hp hDp hTp (k2 := 3) (show (4 : Nat) ≠ 0 by decide) (Or.inl (ne_tag hTc hTp (by decide)))
  have a_ca_m := S.ap hDc hTc (k := 3) hp hDm hTm (k2 := 2) (show (512 : Nat) ≠ 0 by decide) (Or.inl (ne_tag hTc hTm (by decide)))
  have a_ca_b := S.ap hDc hTc (k := 3) hp hDb hTb (k2 := 3) (show (30 : Nat) ≠ 0 by decide) (Or.inl (ne_tag hTc hTb (by decide)))
  have a_b_ca := S.ap hDb hTb (k := 3) (show (30 : Nat) ≠ 0 by decide) hDc hTc (k2 := 3) hp (Or.inl (ne_tag hTb hTc (by decide)))
  have a_z_ca := S.ap hDb hTb (k := 2) (show (30 : Nat) ≠ 0 by decide) hDc hTc (k2 := 3) hp (Or.inl (ne_tag hTb hTc (by decide)))
  have a_r_ca := S.ap hDp hTp (k := 3) (show (4 : Nat) ≠ 0 by decide) hDc hTc (k2 := 3) hp (Or.inl (ne_tag hTp hTc (by decide)))
  have a_m_ca := S.ap hDm hTm (k := 2) (show (512 : Nat) ≠ 0 by decide) hDc hTc (k2 := 3) hp (Or.inl (ne_tag hTm hTc (by decide)))
  have a_f2_r := S.ap hDf hTf (k := 2) hp hDp hTp (k2 := 3) (show (4 : Nat) ≠ 0 by decide) (Or.inl (ne_tag hTf hTp (by decide)))
  have a_f2_m := S.ap hDf hTf (k := 2) hp hDm hTm (k2 := 2) (show (512 : Nat) ≠ 0 by decide) (Or.inl (ne_tag hTf hTm (by decide)))
  have a_f2_b := S.ap hDf hTf (k := 2) hp hDb hTb (k2 := 3) (show (30 : Nat) ≠ 0 by decide) (Or.inl (ne_tag hTf hTb (by decide)))
  have a_b_f2 := S.ap hDb hTb (k := 3) (show (30 : Nat) ≠ 0 by decide) hDf hTf (k2 := 2) hp (Or.inl (ne_tag hTb hTf (by decide)))
  have a_z_f2 := S.ap hDb hTb (k := 2) (show (30 : Nat) ≠ 0 by decide) hDf hTf (k2 := 2) hp (Or.inl (ne_tag hTb hTf (by decide)))
  have a_r_f2 := S.ap hDp hTp (k := 3) (show (4 : Nat) ≠ 0 by decide) hDf hTf (k2 := 2) hp (Or.inl (ne_tag hTp hTf (by decide)))
  have a_m_f2 := S.ap hDm hTm (k := 2) (show (512 : Nat) ≠ 0 by decide) hDf hTf (k2 := 2) hp (Or.inl (ne_tag hTm hTf (by decide)))
  have a_f3_r := S.ap hDf hTf (k := 3) hp hDp hTp (k2 := 3) (show (4 : Nat) ≠ 0 by decide) (Or.inl (ne_tag hTf hTp (by decide)))
  have a_f3_m := S.ap hDf hTf (k := 3) hp hDm hTm (k2 := 2) (show (512 : Nat) ≠ 0 by decide) (Or.inl (ne_tag hTf hTm (by decide)))
  have a_f3_b := S.ap hDf hTf (k := 3) hp hDb hTb (k2 := 3) (show (30 : Nat) ≠ 0 by decide) (Or.inl (ne_tag hTf hTb (by decide)))
  have a_b_f3 := S.ap hDb hTb (k := 3) (show (30 : Nat) ≠ 0 by decide) hDf hTf (k2 := 3) hp (Or.inl (ne_tag hTb hTf (by decide)))
  have a_z_f3 := S.ap hDb hTb (k := 2) (show (30 : Nat) ≠ 0 by decide) hDf hTf (k2 := 3) hp (Or.inl (ne_tag hTb hTf (by decide)))
  have a_r_f3 := S.ap hDp hTp (k := 3) (show (4 : Nat) ≠ 0 by decide) hDf hTf (k2 := 3) hp (Or.inl (ne_tag hTp hTf (by decide)))
  have a_m_f3 := S.ap hDm hTm (k := 2) (show (512 : Nat) ≠ 0 by decide) hDf hTf (k2 := 3) hp (Or.inl (ne_tag hTm hTf (by decide)))
  have a_s2_r := S.ap hDs hTs (k := 2) hp hDp hTp (k2 := 3) (show (4 : Nat) ≠ 0 by decide) (Or.inl (ne_tag hTs hTp (by decide)))
  have a_s2_m := S.ap hDs hTs (k := 2) hp hDm hTm (k2 := 2) (show (512 : Nat) ≠ 0 by decide) (Or.inl (ne_tag hTs hTm (by decide)))
  have a_s2_b := S.ap hDs hTs (k := 2) hp hDb hTb (k2 := 3) (show (30 : Nat) ≠ 0 by decide) (Or.inl (ne_tag hTs hTb (by decide)))
  have a_b_s2 := S.ap hDb hTb (k := 3) (show (30 : Nat) ≠ 0 by decide) hDs hTs (k2 := 2) hp (Or.inl (ne_tag hTb hTs (by decide)))
  have a_z_s2 := S.ap hDb hTb (k := 2) (show (30 : Nat) ≠ 0 by decide) hDs hTs (k2 := 2) hp (Or.inl (ne_tag hTb hTs (by decide)))
  have a_r_s2 := S.ap hDp hTp (k := 3) (show (4 : Nat) ≠ 0 by decide) hDs hTs (k2 := 2) hp (Or.inl (ne_tag hTp hTs (by decide)))
  have a_m_s2 := S.ap hDm hTm (k := 2) (show (512 : Nat) ≠ 0 by decide) hDs hTs (k2 := 2) hp (Or.inl (ne_tag hTm hTs (by decide)))
  have a_s3_r := S.ap hDs hTs (k := 3) hp hDp hTp (k2 := 3) (show (4 : Nat) ≠ 0 by decide) (Or.inl (ne_tag hTs hTp (by decide)))
  have a_s3_m := S.ap hDs hTs (k := 3) hp hDm hTm (k2 := 2) (show (512 : Nat) ≠ 0 by decide) (Or.inl (ne_tag hTs hTm (by decide)))
  have a_s3_b := S.ap hDs hTs (k := 3) hp hDb hTb (k2 := 3) (show (30 : Nat) ≠ 0 by decide) (Or.inl (ne_tag hTs hTb (by decide)))
  have a_b_s3 := S.ap hDb hTb (k := 3) (show (30 : Nat) ≠ 0 by decide) hDs hTs (k2 := 3) hp (Or.inl (ne_tag hTb hTs (by decide)))
  have a_z_s3 := S.ap hDb hTb (k := 2) (show (30 : Nat) ≠ 0 by decide) hDs hTs (k2 := 3) hp (Or.inl (ne_tag hTb hTs (by decide)))
  have a_r_s3 := S.ap hDp hTp (k := 3) (show (4 : Nat) ≠ 0 by decide) hDs hTs (k2 := 3) hp (Or.inl (ne_tag hTp hTs (by decide)))
  have a_m_s3 := S.ap hDm hTm (k := 2) (show (512 : Nat) ≠ 0 by decide) hDs hTs (k2 := 3) hp (Or.inl (ne_tag hTm hTs (by decide)))
  have a_r_m := S.ap hDp hTp (k := 3) (show (4 : Nat) ≠ 0 by decide) hDm hTm (k2 := 2) (show (512 : Nat) ≠ 0 by decide) (Or.inl (ne_tag hTp hTm (by decide)))
  have a_m_r := S.ap hDm hTm (k := 2) (show (512 : Nat) ≠ 0 by decide) hDp hTp (k2 := 3) (show (4 : Nat) ≠ 0 by decide) (Or.inl (ne_tag hTm hTp (by decide)))
  have a_r_b := S.ap hDp hTp (k := 3) (show (4 : Nat) ≠ 0 by decide) hDb hTb (k2 := 3) (show (30 : Nat) ≠ 0 by decide) (Or.inl (ne_tag hTp hTb (by decide)))
  have a_m_b := S.ap hDm hTm (k := 2) (show (512 : Nat) ≠ 0 by decide) hDb hTb (k2 := 3) (show (30 : Nat) ≠ 0 by decide) (Or.inl (ne_tag hTm hTb (by decide)))
  have a_b_r := S.ap hDb hTb (k := 3) (show (30 : Nat) ≠ 0 by decide) hDp hTp (k2 := 3) (show (4 : Nat) ≠ 0 by decide) (Or.inl (ne_tag hTb hTp (by decide)))
  have a_b_m := S.ap hDb hTb (k := 3) (show (30 : Nat) ≠ 0 by decide) hDm hTm (k2 := 2) (show (512 : Nat) ≠ 0 by decide) (Or.inl (ne_tag hTb hTm (by decide)))
  have a_z_r := S.ap hDb hTb (k := 2) (show (30 : Nat) ≠ 0 by decide) hDp hTp (k2 := 3) (show (4 : Nat) ≠ 0 by decide) (Or.inl (ne_tag hTb hTp (by decide)))
  have a_z_m := S.ap hDb hTb (k := 2) (show (30 : Nat) ≠ 0 by decide) hDm hTm (k2 := 2) (show (512 : Nat) ≠ 0 by decide) (Or.inl (ne_tag hTb hTm (by decide)))
  have hle := Hf.2.2.1
  have hqp : ∀ (q1 r1 : List Nat), Q9 = q1 ++ r1 → qok B q1 → 0 + hsz (qB B q1) ≤ pw := fun q1 r1 _ h => by have := qB_le h; omega
  have htail : ∀ (M1 : mm) (q1 : List Nat) (o3 : Option Value), fr (scI c hs) (scR c) (lpA M c hs pr mb) M M1 → Cs pw D M1 c hf hs B 0 q1 (qB B q1) → mm_i M1 0 2 c = nI 0 → (∀ j, j < 4 → mm_a M1 ra j = rel B 0 Q9 (Rg.getD j 0)) → MailIs M1 mb (ms.map (rel B 0 Q9)) → bfs B B.length 0 q1 = Q9 → vv g 4 p l e (rm 4 95 0 0) s m args below meth c9 (MQ below (ok_Q g (fun v M' => v = none ∧ fr (coI c hs b o) (coR c pr o) (coA M c hs pr mb b) M M' ∧ sh pw D ow sl M' ∧ mm_f M' 3 2 pr = hs ∧ mm_f M' 6 6 o = hf ∧ HeapIs pw M' hs (TT B 0 [] Q9.length 0 Q9) ∧ HeapIs pw M' hf B ∧ (∀ j, j < 4 → mm_a M' ra j = rel B 0 Q9 (Rg.getD j 0)) ∧ MailIs M' mb (ms.map (rel B 0 Q9)) ∧ pget M' b = Pf ∧ mm_i M' 6 8 o = mm_i M 6 8 o + 1)) args s 0 0 (ok_F g)) 0 0 98 [some (.ref o), some (.ref pr), some (.ref hf), o3] [] (M1) := by
      intro M1 q1 o3 F K hi0 hRR hMM hb9
      have S1 := F.sh scR_ok S
      have tt : ∀ {a x : Nat}, mm_t M a = x → mm_t M1 a = x := fun h => by rw [F.1]; exact h
      have g6 := fun k => F.f (c := 6) (k := k) (a := o) (fun z => absurd z.1 (by decide))
      have g3 := fun k => F.f (c := 3) (k := k) (a := pr) (fun z => absurd z.1 (by decide))
      have g4 := fun k => F.f (c := 4) (k := k) (a := mb) (fun z => absurd z.1 (by decide))
      have g2 := fun k a => F.f (c := 2) (k := k) (a := a) (fun z => absurd z.1 (by decide))
      have g0 : mm_f M1 0 3 c = mm_f M 0 3 c := F.f (fun z => absurd z.2.1 (by decide))
      have g5 := fun k => F.f (c := 5) (k := k) (a := b) (fun z => absurd z.1 (by decide))
      refine vv_aload_n (pc := 98) x dd_CH_collectHeap_98 rfl ?_
      refine lg_CH_44 (pc := 99) G x dd_CH_collectHeap_99 (tt hTo) (S1.or hDo (tt hTo) 4 (by decide)) ?_
      rw [g6 4, ec]
      refine lv_CH_250 (pc := 102) G x dd_CH_collectHeap_102 (K_parts (B0 := []) G S1 hp hp6 (by exact K) (by exact hi0) hv0 Q9 hb9 (by show 0 + _ ≤ pw; exact hqp Q9 [] (by simp) (by rw [← hb9]; exact bfs_ok K.2.2.2.2.2.1))) K.1.1 ⟨by decide, by decide⟩ (by decide) (by decide) (Nat.le_of_ble_eq_true rfl) (fun v102 M102 q102 => ?_)
      obtain ⟨rfl, C4, K4⟩ := q102
      have F4 := F.cch (fun a z => Or.inl z) C4
      have S4 := C4.sh S1
      have t4 : ∀ {a x : Nat}, mm_t M a = x → mm_t M102 a = x := fun h => by rw [F4.1]; exact h
      have e6 := fun k => F4.f (c := 6) (k := k) (a := o) (fun z => absurd z.1 (by decide))
      have e5 := fun k => F4.f (c := 5) (k := k) (a := b) (fun z => absurd z.1 (by decide))
      have hz4 : mm_a M102 (mm_f M102 5 2 b) = mm_a M (mm_f M 5 2 b) := by
        rw [e5 2]
        exact F4.2.2.2.2.2.2 _ (fun z => by
          rcases z with (z | z | z) | z | z
          · exact a_z_ca z
          · exact a_z_s2 z
          · exact a_z_s3 z
          · exact a_z_r z
          · rw [← em] at z; exact a_z_m (by rw [← em]; exact z))
      have hp4 : pget M102 b = pget M b := by
        unfold pget
        rw [e5 3, F4.2.2.2.2.1 5 0 b (fun z => by rcases z with z | z <;> exact absurd z.1 (by decide)), F4.2.2.2.2.1 5 1 b (fun z => by rcases z with z | z <;> exact absurd z.1 (by decide)), F4.2.2.2.2.2.2 (mm_f M 5 3 b) (fun z => by
          rcases z with (z | z | z) | z | z
          · exact a_b_ca z
          · exact a_b_s2 z
          · exact a_b_s3 z
          · exact a_b_r z
          · exact a_b_m z)]
      refine vv_aload_n (pc := 105) x dd_CH_collectHeap_105 rfl ?_
      refine lg_CH_44 (pc := 106) G x dd_CH_collectHeap_106 (t4 hTo) (S4.or hDo (t4 hTo) 4 (by decide)) ?_
      refine vv_aload_n (pc := 109) x dd_CH_collectHeap_109 rfl ?_
      refine lg_CH_27 (pc := 110) G x dd_CH_collectHeap_110 (t4 hTo) (S4.or hDo (t4 hTo) 1 (by decide)) ?_
      rw [e6 4, ec, e6 1, eb]
      refine lv_CH_104 (pc := 113) G x dd_CH_collectHeap_113 (K_drop G S4 hp hp6 K4 (by have := hqp Q9 [] (by simp) K4.2.2.2.2.2.1; show 0 + _ ≤ 600; omega) hDb (t4 hTb) hB Pf (by rw [hz4, hp4]; exact hPf)) K4.1.1 ⟨by decide, by decide⟩ (by decide) (by decide) (Nat.le_of_ble_eq_true rfl) (fun v113 M113 q113 => ?_)
      obtain ⟨rfl, hm113⟩ := q113
      have F5 : fr (fun c' k a => c' = 5 ∧ k < 2 ∧ a = b) (fun _ _ _ => False) (fun a => a = mm_f M102 5 3 b) M102 M113 := by rw [hm113]; exact pst_fr
      have S5 := F5.sh (fun c' k a z => z.elim) S4
      have t5 : ∀ {a x : Nat}, mm_t M a = x → mm_t M113 a = x := fun h => by rw [F5.1]; exact t4 h
      have d6 : ∀ k, mm_f M113 6 k o = mm_f M 6 k o := fun k => by rw [F5.f (fun z => z)]; exact e6 k
      refine vv_aload_n (pc := 116) x dd_CH_collectHeap_116 rfl ?_
      refine vv_aload_n (pc := 117) x dd_CH_collectHeap_117 rfl ?_
      refine lg_CH_58 (pc := 118) G x dd_CH_collectHeap_118 (t5 hTo) (S5.or hDo (t5 hTo) 6 (by decide)) ?_
      rw [d6 6, es]
      refine lp_CH_97 (pc := 121) G x dd_CH_collectHeap_121 (t5 hTp) ?_
      refine vv_aload_n (pc := 124) x dd_CH_collectHeap_124 rfl ?_
      refine vv_aload_n (pc := 125) x dd_CH_collectHeap_125 rfl ?_
      refine lp_CH_58 (pc := 126) G x dd_CH_collectHeap_126 (t5 hTo) ?_
      refine vv_aload_n (pc := 129) x dd_CH_collectHeap_129 rfl ?_
      refine vv_dup (pc := 130) x dd_CH_collectHeap_130 rfl ?_
      refine lg_CH_190 (pc := 131) G x dd_CH_collectHeap_131 (t5 hTo) ?_
      refine vv_iconst (pc := 134) x dd_CH_collectHeap_134 (1) (by decide) ?_
      refine vv_iadd (pc := 135) x dd_CH_collectHeap_135 ?_
      refine lp_CH_190 (pc := 136) G x dd_CH_collectHeap_136 (t5 hTo) ?_
      exact vv_vret (pc := 139) x dd_CH_collectHeap_139 rfl (by decide) (by decide) ⟨rfl, by
          have S6 : sh pw D ow sl (mm_sr (mm_sr M113 3 2 pr hs) 6 6 o hf) := sh.sr (sh.sr S5 rfl (fun _ => ⟨t5 hTs, hDs⟩)) rfl (fun _ => ⟨t5 hTf, hDf⟩)
          have S7 : sh pw D ow sl (mm_si (mm_sr (mm_sr M113 3 2 pr hs) 6 6 o hf) 6 8 o (mm_i (mm_sr (mm_sr M113 3 2 pr hs) 6 6 o hf) 6 8 o + 1)) := S6
          have F6 : fr (fun c' k a => c' = 6 ∧ k = 8 ∧ a = o) (fun c' k a => (c' = 3 ∧ k = 2 ∧ a = pr) ∨ (c' = 6 ∧ k = 6 ∧ a = o)) (fun _ => False) M113 (mm_si (mm_sr (mm_sr M113 3 2 pr hs) 6 6 o hf) 6 8 o (mm_i (mm_sr (mm_sr M113 3 2 pr hs) 6 6 o hf) 6 8 o + 1)) := by
            refine ⟨rfl, rfl, rfl, rfl, fun c' k a z => ?_, fun c' k a z => ?_, fun a z => rfl⟩
            · rw [mi_si, if_neg z, mi_sr, mi_sr]
            · rw [mr_si, mr_sr, if_neg (fun y => z (Or.inr y)), mr_sr, if_neg (fun y => z (Or.inl y))]
          have i8 : mm_i M113 6 8 o = mm_i M 6 8 o := by
            rw [F5.2.2.2.2.1 6 8 o (fun z => absurd z.1 (by decide)), F4.2.2.2.2.1 6 8 o (fun z => by rcases z with z | z <;> exact absurd z.1 (by decide))]
          have q5 : pget M113 b = Pf := by
            rw [hm113]
            unfold pget
            have h3 : mm_f (pst M102 b Pf) 5 3 b = mm_f M102 5 3 b := rfl
            rw [h3, pst_c]
            unfold pst
            rw [mi_si_s, mi_si_k (by decide), mi_si_s]
          have q6 : pget (mm_si (mm_sr (mm_sr M113 3 2 pr hs) 6 6 o hf) 6 8 o (mm_i (mm_sr (mm_sr M113 3 2 pr hs) 6 6 o hf) 6 8 o + 1)) b = pget M113 b := by
            unfold pget
            rw [F6.f (fun z => by rcases z with z | z <;> exact absurd z.1 (by decide)), F6.2.2.2.2.1 5 0 b (fun z => absurd z.1 (by decide)), F6.2.2.2.2.1 5 1 b (fun z => absurd z.1 (by decide)), F6.2.2.2.2.2.2 _ (fun z => z)]
          have hsb : ∀ k, mm_f M102 2 k hs = mm_f M 2 k hs := fun k => F4.f (fun z => absurd z.1 (by decide))
          have hfb : ∀ k, mm_f M102 2 k hf = mm_f M 2 k hf := fun k => F4.f (fun z => absurd z.1 (by decide))
          have hs5 : HeapIs pw M113 hs (TT B 0 [] Q9.length 0 Q9) := HeapIs.fr F5 K4.2.2.2.1 (fun z => absurd z.1 (by decide)) (fun z => absurd z.1 (by decide)) (fun z => z) (fun z => z) (by rw [hsb 2, e5 3]; exact a_s2_b) (by rw [hsb 3, e5 3]; exact a_s3_b)
          have hf5 : HeapIs pw M113 hf B := HeapIs.fr F5 K4.2.2.1 (fun z => absurd z.1 (by decide)) (fun z => absurd z.1 (by decide)) (fun z => z) (fun z => z) (by rw [hfb 2, e5 3]; exact a_f2_b) (by rw [hfb 3, e5 3]; exact a_f3_b)
          have ca2 : mm_a M102 ra = mm_a M1 ra := C4.a (by rw [g0, ← era]; exact a_r_ca) (by rw [g2 2 hs, ← era]; exact a_r_s2) (by rw [g2 3 hs, ← era]; exact a_r_s3)
          have hm2 : MailIs M102 mb (ms.map (rel B 0 Q9)) := MailIs.fr C4.fr hMM (fun z => absurd z.1 (by decide)) (fun z => absurd z.1 (by decide)) (fun z => z) (by
            rw [g4 2, g0, g2 2 hs, g2 3 hs]
            rintro (z | z | z)
            · exact a_m_ca z
            · exact a_m_s2 z
            · exact a_m_s3 z)
          have mb4 : mm_f M102 4 2 mb = mm_f M 4 2 mb := F4.f (fun z => absurd z.1 (by decide))
          have hm5 : MailIs M113 mb (ms.map (rel B 0 Q9)) := MailIs.fr F5 hm2 (fun z => absurd z.1 (by decide)) (fun z => absurd z.1 (by decide)) (fun z => z) (by rw [mb4, e5 3]; exact a_m_b)
          refine ⟨?_, S7, ?_, ?_, HeapIs.fr F6 hs5 (fun z => absurd z.1 (by decide)) (fun z => absurd z.1 (by decide)) (fun z => by rcases z with z | z <;> exact absurd z.1 (by decide)) (fun z => by rcases z with z | z <;> exact absurd z.1 (by decide)) (fun z => z) (fun z => z), HeapIs.fr F6 hf5 (fun z => absurd z.1 (by decide)) (fun z => absurd z.1 (by decide)) (fun z => by rcases z with z | z <;> exact absurd z.1 (by decide)) (fun z => by rcases z with z | z <;> exact absurd z.1 (by decide)) (fun z => z) (fun z => z), ?_, MailIs.fr F6 hm5 (fun z => absurd z.1 (by decide)) (fun z => absurd z.1 (by decide)) (fun z => by rcases z with z | z <;> exact absurd z.1 (by decide)) (fun z => z), ?_, ?_⟩
          · refine ((F4.mono (fun c' k a z => Or.inl z) (fun c' k a z => Or.inl z) (fun a z => Or.inl z)).trans (F5.mono (fun c' k a z => Or.inr (Or.inl z)) (fun c' k a z => z.elim) (fun a z => Or.inr (by rw [z, e5 3])))).trans (F6.mono (fun c' k a z => Or.inr (Or.inr z)) (fun c' k a z => Or.inr z) (fun a z => z.elim))
          · rw [mf_si, mf_sr, if_neg (by simp), mf_sr_s]
          · rw [mf_si, mf_sr_s]
          · intro j hj
            rw [F6.2.2.2.2.2.2 _ (fun z => z), F5.2.2.2.2.2.2 _ (by rw [e5 3, ← era]; exact a_r_b), ca2]
            exact hRR j hj
          · rw [q6, q5]
          · rw [mi_si_s, mi_sr, mi_sr, i8]⟩
  obtain ⟨fm, hm1, hm2, hm3, hm4, hm5⟩ := id hMa
  have hml : ∀ (N i : Nat) (M1 : mm) (q1 : List Nat), ms.length - i < N → i ≤ ms.length → fr (scI c hs) (scR c) (lpA M c hs pr mb) M M1 → Cs pw D M1 c hf hs B 0 q1 (qB B q1) → mm_i M1 0 2 c = nI 0 → (∀ j, j < 4 → mm_a M1 ra j = rel B 0 Q9 (Rg.getD j 0)) → MailIs M1 mb (mpp (rel B 0 Q9) i ms) → bfs B B.length 0 (visL B q1 (ms.drop i)) = Q9 → vv g 4 p l e (rm 4 95 0 0) s m args below meth c9 (MQ below (ok_Q g (fun v M' => v = none ∧ fr (coI c hs b o) (coR c pr o) (coA M c hs pr mb b) M M' ∧ sh pw D ow sl M' ∧ mm_f M' 3 2 pr = hs ∧ mm_f M' 6 6 o = hf ∧ HeapIs pw M' hs (TT B 0 [] Q9.length 0 Q9) ∧ HeapIs pw M' hf B ∧ (∀ j, j < 4 → mm_a M' ra j = rel B 0 Q9 (Rg.getD j 0)) ∧ MailIs M' mb (ms.map (rel B 0 Q9)) ∧ pget M' b = Pf ∧ mm_i M' 6 8 o = mm_i M 6 8 o + 1)) args s 0 0 (ok_F g)) 0 0 58 [some (.ref o), some (.ref pr), some (.ref hf), some (.int (nI i))] [] (M1) := by
    intro N
    induction N with
    | zero => intro i M1 q1 h; omega
    | succ N ih =>
      intro i M1 q1 hN hi F K hi0 hRR hMM hb9
      have S1 := F.sh scR_ok S
      have tt : ∀ {a x : Nat}, mm_t M a = x → mm_t M1 a = x := fun h => by rw [F.1]; exact h
      have g6 := fun k => F.f (c := 6) (k := k) (a := o) (fun z => absurd z.1 (by decide))
      have g3 := fun k => F.f (c := 3) (k := k) (a := pr) (fun z => absurd z.1 (by decide))
      have g4 := fun k => F.f (c := 4) (k := k) (a := mb) (fun z => absurd z.1 (by decide))
      have g2 := fun k a => F.f (c := 2) (k := k) (a := a) (fun z => absurd z.1 (by decide))
      have g0 : mm_f M1 0 3 c = mm_f M 0 3 c := F.f (fun z => absurd z.2.1 (by decide))
      have g5 := fun k => F.f (c := 5) (k := k) (a := b) (fun z => absurd z.1 (by decide))
      have hsz1 : mm_i M1 4 0 mb = nI ms.length := by
        obtain ⟨f, h1, h2, h3, h4, h5⟩ := hMM
        rw [h2, mpp_len]
      refine vv_iload_n (pc := 58) x dd_CH_collectHeap_58 rfl ?_
      refine vv_aload_n (pc := 59) x dd_CH_collectHeap_59 rfl ?_
      refine lg_CH_169 (pc := 60) G x dd_CH_collectHeap_60 (tt hTp) (S1.or hDp (tt hTp) 4 (by decide)) ?_
      rw [g3 4, em]
      refine lg_CH_173 (pc := 63) G x dd_CH_collectHeap_63 (tt hTm) ?_
      rw [hsz1]
      refine vv_icmp_ge (pc := 66) x dd_CH_collectHeap_66 (tgt := 98) (by decide) (fun h66 => ?_) (fun h66 => ?_)
      · have hin : i = ms.length := by
          have := (nI_leI (by omega) (by omega)).mp h66
          omega
        subst hin
        exact htail M1 q1 _ F K hi0 hRR (by rw [mpp_all] at hMM; exact hMM) (by rw [← hb9, List.drop_eq_nil_of_le (Nat.le_refl _)]; rfl)
      · have hlt : i < ms.length := by
          rcases Nat.lt_or_ge i ms.length with h | h
          · exact h
          · exact absurd (nI_le h (by omega)) h66
        have hb10 : bfs B B.length 0 (visL B (vis B q1 (ms.getD i 0)) (ms.drop (i + 1))) = Q9 := by rw [← hb9, drop_getD hlt, visL_cons]
        obtain ⟨r2, e2⟩ := visL_pre (B := B) (ts := ms.drop (i + 1)) (q := vis B q1 (ms.getD i 0))
        obtain ⟨r3, e3⟩ := bfs_pre (B := B) (n := B.length) (j := 0) (q := visL B (vis B q1 (ms.getD i 0)) (ms.drop (i + 1)))
        have eQ : Q9 = vis B q1 (ms.getD i 0) ++ (r2 ++ r3) := by rw [← hb10, e3, e2, List.append_assoc]
        have hok3 : qok B (vis B q1 (ms.getD i 0)) := vis_ok K.2.2.2.2.2.1 _
        obtain ⟨r4, e4⟩ := vis_pre (B := B) (q := q1) (t := ms.getD i 0)
        refine vv_aload_n (pc := 69) x dd_CH_collectHeap_69 rfl ?_
        refine lg_CH_169 (pc := 70) G x dd_CH_collectHeap_70 (tt hTp) (S1.or hDp (tt hTp) 4 (by decide)) ?_
        refine vv_iload_n (pc := 73) x dd_CH_collectHeap_73 rfl ?_
        refine vv_aload_n (pc := 74) x dd_CH_collectHeap_74 rfl ?_
        refine lg_CH_44 (pc := 75) G x dd_CH_collectHeap_75 (tt hTo) (S1.or hDo (tt hTo) 4 (by decide)) ?_
        refine vv_aload_n (pc := 78) x dd_CH_collectHeap_78 rfl ?_
        refine lg_CH_169 (pc := 79) G x dd_CH_collectHeap_79 (tt hTp) (S1.or hDp (tt hTp) 4 (by decide)) ?_
        refine vv_iload_n (pc := 82) x dd_CH_collectHeap_82 rfl ?_
        rw [g3 4, em, g6 4, ec]
        refine lv_CH_244 (pc := 83) G x dd_CH_collectHeap_83 (K_mget G S1 hDm (tt hTm) hMM (i := i) (by rw [mpp_len]; exact hlt)) (tt hTm) ⟨by decide, by decide⟩ (by decide) (by decide) (Nat.le_of_ble_eq_true rfl) (fun v83 M83 q83 => ?_)
        obtain ⟨rfl, hm83⟩ := q83
        have hm83 := hm83.symm
        subst hm83
        rw [mpp_get hlt]
        refine lv_CH_241 (pc := 86) G x dd_CH_collectHeap_86 (K_carry G S1 hp hp6 K (hvm _ (getD_mem hlt)) (hqp _ _ eQ hok3)) K.1.1 ⟨by decide, by decide⟩ (by decide) (by decide) (Nat.le_of_ble_eq_true rfl) (fun v86 M86 q86 => ?_)
        obtain ⟨rfl, C3, K3⟩ := q86
        have F3 := F.cch (fun a z => Or.inl z) C3
        have S3 := C3.sh S1
        have t3 : ∀ {a x : Nat}, mm_t M a = x → mm_t M86 a = x := fun h => by rw [F3.1]; exact h
        have hT3 : qB B q1 ++ qB B ((vis B q1 (ms.getD i 0)).drop q1.length) = qB B (vis B q1 (ms.getD i 0)) := by
          rw [e4, List.drop_left]
          unfold qB
          rw [List.map_append]
        rw [hT3] at K3
        have hrl : rel B 0 (vis B q1 (ms.getD i 0)) (ms.getD i 0) = rel B 0 Q9 (ms.getD i 0) := by rw [eQ, rel_vis]
        rw [hrl]
        have hMM3 : MailIs M86 mb (mpp (rel B 0 Q9) i ms) := MailIs.fr C3.fr hMM (fun z => absurd z.1 (by decide)) (fun z => absurd z.1 (by decide)) (fun z => z) (by
          rw [g4 2, g0, g2 2 hs, g2 3 hs]
          rintro (z | z | z)
          · exact a_m_ca z
          · exact a_m_s2 z
          · exact a_m_s3 z)
        have ca2 : mm_a M86 ra = mm_a M1 ra := C3.a (by rw [g0, ← era]; exact a_r_ca) (by rw [g2 2 hs, ← era]; exact a_r_s2) (by rw [g2 3 hs, ← era]; exact a_r_s3)
        have k0 : mm_f M86 0 3 c = mm_f M 0 3 c := F3.f (fun z => absurd z.2.1 (by decide))
        have k2 := fun k a => F3.f (c := 2) (k := k) (a := a) (fun z => absurd z.1 (by decide))
        have k4 : mm_f M86 4 2 mb = mm_f M 4 2 mb := F3.f (fun z => absurd z.1 (by decide))
        refine lv_CH_246 (pc := 89) G x dd_CH_collectHeap_89 (K_mset G S3 hDm (t3 hTm) hMM3 (i := i) (by rw [mpp_len]; exact hlt)) (t3 hTm) ⟨by decide, by decide⟩ (by decide) (by decide) (Nat.le_of_ble_eq_true rfl) (fun v89 M89 q89 => ?_)
        obtain ⟨rfl, F5, hM5⟩ := q89
        rw [mpp_set hlt] at hM5
        have K5 := Cs.fa F5 K3 (by rw [k0, k4]; exact a_ca_m) (by rw [k2 2 hf, k4]; exact a_f2_m) (by rw [k2 3 hf, k4]; exact a_f3_m) (by rw [k2 2 hs, k4]; exact a_s2_m) (by rw [k2 3 hs, k4]; exact a_s3_m)
        have F6 : fr (scI c hs) (scR c) (lpA M c hs pr mb) M M89 := F3.trans (F5.mono (fun c' k a z => z.elim) (fun c' k a z => z.elim) (fun a z => Or.inr (Or.inr (by rw [z, k4]))))
        refine vv_iinc (pc := 92) x dd_CH_collectHeap_92 rfl (nI_1 i) (by decide) (ls2 := [_, _, _, _]) rfl ?_
        refine vv_goto (pc := 95) x dd_CH_collectHeap_95 (tgt := 58) (by decide) ?_
        exact ih (i + 1) M89 (vis B q1 (ms.getD i 0)) (by omega) (by omega) F6 K5 (by rw [F5.2.2.2.2.1 _ _ _ (fun z => z), C3.i (by decide)]; exact hi0) (fun j hj => by rw [F5.2.2.2.2.2.2 _ (by rw [k4, ← era]; exact a_r_m), ca2]; exact hRR j hj) hM5 hb10
  have hrl0 : ∀ (N r : Nat) (M1 : mm) (q1 : List Nat), 4 - r < N → r ≤ 4 → fr (scI c hs) (scR c) (lpA M c hs pr mb) M M1 → Cs pw D M1 c hf hs B 0 q1 (qB B q1) → mm_i M1 0 2 c = nI 0 → (∀ j, j < 4 → mm_a M1 ra j = if j < r then rel B 0 Q9 (Rg.getD j 0) else Rg.getD j 0) → MailIs M1 mb ms → bfs B B.length 0 (visL B q1 (Rg.drop r ++ ms)) = Q9 → vv g 4 p l e (rm 4 95 0 0) s m args below meth c9 (MQ below (ok_Q g (fun v M' => v = none ∧ fr (coI c hs b o) (coR c pr o) (coA M c hs pr mb b) M M' ∧ sh pw D ow sl M' ∧ mm_f M' 3 2 pr = hs ∧ mm_f M' 6 6 o = hf ∧ HeapIs pw M' hs (TT B 0 [] Q9.length 0 Q9) ∧ HeapIs pw M' hf B ∧ (∀ j, j < 4 → mm_a M' ra j = rel B 0 Q9 (Rg.getD j 0)) ∧ MailIs M' mb (ms.map (rel B 0 Q9)) ∧ pget M' b = Pf ∧ mm_i M' 6 8 o = mm_i M 6 8 o + 1)) args s 0 0 (ok_F g)) 0 0 26 [some (.ref o), some (.ref pr), some (.ref hf), some (.int (nI r))] [] (M1) := by
    intro N
    induction N with
    | zero => intro r M1 q1 h; omega
    | succ N ih =>
      intro r M1 q1 hN hr F K hi0 hRR hMM hb9
      have S1 := F.sh scR_ok S
      have tt : ∀ {a x : Nat}, mm_t M a = x → mm_t M1 a = x := fun h => by rw [F.1]; exact h
      have g6 := fun k => F.f (c := 6) (k := k) (a := o) (fun z => absurd z.1 (by decide))
      have g3 := fun k => F.f (c := 3) (k := k) (a := pr) (fun z => absurd z.1 (by decide))
      have g4 := fun k => F.f (c := 4) (k := k) (a := mb) (fun z => absurd z.1 (by decide))
      have g2 := fun k a => F.f (c := 2) (k := k) (a := a) (fun z => absurd z.1 (by decide))
      have g0 : mm_f M1 0 3 c = mm_f M 0 3 c := F.f (fun z => absurd z.2.1 (by decide))
      have g5 := fun k => F.f (c := 5) (k := k) (a := b) (fun z => absurd z.1 (by decide))
      refine vv_iload_n (pc := 26) x dd_CH_collectHeap_26 rfl ?_
      refine vv_iconst (pc := 27) x dd_CH_collectHeap_27 (4) (by decide) ?_
      refine vv_icmp_ge (pc := 28) x dd_CH_collectHeap_28 (tgt := 56) (by decide) (fun h28 => ?_) (fun h28 => ?_)
      · refine vv_iconst (pc := 56) x dd_CH_collectHeap_56 (0) (by decide) ?_
        refine vv_istore_n (pc := 57) x dd_CH_collectHeap_57 (by decide) (ls2 := [_, _, _, _]) rfl ?_
        have hr4 : r = 4 := by
          have := (nI_leI (a := 4) (by omega) (by omega)).mp h28
          omega
        subst hr4
        exact hml (ms.length + 1) 0 M1 q1 (by omega) (Nat.zero_le _) F K hi0 (fun j hj => by rw [hRR j hj, if_pos hj]) (by rw [mpp_0]; exact hMM) (by rw [← hb9, List.drop_eq_nil_of_le (as := Rg) (by omega)]; rfl)
      · have hlt : r < 4 := by
          rcases Nat.lt_or_ge r 4 with h | h
          · exact h
          · exact absurd (nI_le (a := 4) h (by omega)) h28
        have hlt2 : r < Rg.length := by omega
        have hb10 : bfs B B.length 0 (visL B (vis B q1 (Rg.getD r 0)) (Rg.drop (r + 1) ++ ms)) = Q9 := by rw [← hb9, drop_getD hlt2, List.cons_append, visL_cons]
        obtain ⟨r2, e2⟩ := visL_pre (B := B) (ts := Rg.drop (r + 1) ++ ms) (q := vis B q1 (Rg.getD r 0))
        obtain ⟨r3, e3⟩ := bfs_pre (B := B) (n := B.length) (j := 0) (q := visL B (vis B q1 (Rg.getD r 0)) (Rg.drop (r + 1) ++ ms))
        have eQ : Q9 = vis B q1 (Rg.getD r 0) ++ (r2 ++ r3) := by rw [← hb10, e3, e2, List.append_assoc]
        have hok3 : qok B (vis B q1 (Rg.getD r 0)) := vis_ok K.2.2.2.2.2.1 _
        obtain ⟨r4, e4⟩ := vis_pre (B := B) (q := q1) (t := Rg.getD r 0)
        have hrr : mm_r M1 3 3 pr ≠ 0 := S1.r hDp (tt hTp) 3 (show (4 : Nat) ≠ 0 by decide)
        have hn1 : mm_n M1 ra = 4 := by rw [F.2.1]; exact nra
        refine vv_aload_n (pc := 31) x dd_CH_collectHeap_31 rfl ?_
        refine lg_CH_118 (pc := 32) G x dd_CH_collectHeap_32 (tt hTp) (by assumption) ?_
        refine vv_iload_n (pc := 35) x dd_CH_collectHeap_35 rfl ?_
        refine vv_aload_n (pc := 36) x dd_CH_collectHeap_36 rfl ?_
        refine lg_CH_44 (pc := 37) G x dd_CH_collectHeap_37 (tt hTo) (S1.or hDo (tt hTo) 4 (by decide)) ?_
        refine vv_aload_n (pc := 40) x dd_CH_collectHeap_40 rfl ?_
        refine lg_CH_118 (pc := 41) G x dd_CH_collectHeap_41 (tt hTp) (by assumption) ?_
        refine vv_iload_n (pc := 44) x dd_CH_collectHeap_44 rfl ?_
        rw [g3 3, era, g6 4, ec]
        refine vv_iald (pc := 45) x dd_CH_collectHeap_45 (tt tra) (in_n hlt hn1 (by decide)) ?_
        rw [nI_clamp (show r < 2 ^ 31 by omega), hRR r hlt, if_neg (Nat.lt_irrefl r)]
        refine lv_CH_241 (pc := 46) G x dd_CH_collectHeap_46 (K_carry G S1 hp hp6 K (hvR _ (getD_mem hlt2)) (hqp _ _ eQ hok3)) K.1.1 ⟨by decide, by decide⟩ (by decide) (by decide) (Nat.le_of_ble_eq_true rfl) (fun v46 M46 q46 => ?_)
        obtain ⟨rfl, C3, K3⟩ := q46
        have F3 := F.cch (fun a z => Or.inl z) C3
        have S3 := C3.sh S1
        have t3 : ∀ {a x : Nat}, mm_t M a = x → mm_t M46 a = x := fun h => by rw [F3.1]; exact h
        have hT3 : qB B q1 ++ qB B ((vis B q1 (Rg.getD r 0)).drop q1.length) = qB B (vis B q1 (Rg.getD r 0)) := by
          rw [e4, List.drop_left]
          unfold qB
          rw [List.map_append]
        rw [hT3] at K3
        have hrl : rel B 0 (vis B q1 (Rg.getD r 0)) (Rg.getD r 0) = rel B 0 Q9 (Rg.getD r 0) := by rw [eQ, rel_vis]
        rw [hrl]
        have hMM3 : MailIs M46 mb ms := MailIs.fr C3.fr hMM (fun z => absurd z.1 (by decide)) (fun z => absurd z.1 (by decide)) (fun z => z) (by
          rw [g4 2, g0, g2 2 hs, g2 3 hs]
          rintro (z | z | z)
          · exact a_m_ca z
          · exact a_m_s2 z
          · exact a_m_s3 z)
        have ca2 : mm_a M46 ra = mm_a M1 ra := C3.a (by rw [g0, ← era]; exact a_r_ca) (by rw [g2 2 hs, ← era]; exact a_r_s2) (by rw [g2 3 hs, ← era]; exact a_r_s3)
        have k0 : mm_f M46 0 3 c = mm_f M 0 3 c := F3.f (fun z => absurd z.2.1 (by decide))
        have k2 := fun k a => F3.f (c := 2) (k := k) (a := a) (fun z => absurd z.1 (by decide))
        have k4 : mm_f M46 4 2 mb = mm_f M 4 2 mb := F3.f (fun z => absurd z.1 (by decide))
        have hn3 : mm_n M46 ra = 4 := by rw [F3.2.1]; exact nra
        refine vv_iast (pc := 49) x dd_CH_collectHeap_49 (t3 tra) (in_n hlt hn3 (by decide)) ?_
        rw [nI_clamp (show r < 2 ^ 31 by omega), ca2]
        refine vv_iinc (pc := 50) x dd_CH_collectHeap_50 rfl (nI_1 r) (by decide) (ls2 := [_, _, _, _]) rfl ?_
        refine vv_goto (pc := 53) x dd_CH_collectHeap_53 (tgt := 26) (by decide) ?_
        have F5 : fr (fun _ _ _ => False) (fun _ _ _ => False) (fun a2 => a2 = ra) M46 (mm_sa M46 ra (upd (mm_a M1 ra) r (rel B 0 Q9 (Rg.getD r 0)))) := fr_sa
        have K5 := Cs.fa F5 K3 (by rw [k0, ← era]; exact a_ca_r) (by rw [k2 2 hf, ← era]; exact a_f2_r) (by rw [k2 3 hf, ← era]; exact a_f3_r) (by rw [k2 2 hs, ← era]; exact a_s2_r) (by rw [k2 3 hs, ← era]; exact a_s3_r)
        have F6 : fr (scI c hs) (scR c) (lpA M c hs pr mb) M (mm_sa M46 ra (upd (mm_a M1 ra) r (rel B 0 Q9 (Rg.getD r 0)))) := F3.trans (F5.mono (fun c' k a z => z.elim) (fun c' k a z => z.elim) (fun a z => Or.inr (Or.inl (by rw [z, era]))))
        exact ih (r + 1) _ (vis B q1 (Rg.getD r 0)) (by omega) (by omega) F6 K5 (by rw [F5.2.2.2.2.1 _ _ _ (fun z => z), C3.i (by decide)]; exact hi0) (fun j hj => by
          rw [ma_sa_s]
          unfold upd
          by_cases ej : j = r
          · subst ej
            rw [if_pos rfl, if_pos (by omega)]
          · rw [if_neg ej, hRR j hj]
            by_cases e9 : j < r
            · rw [if_pos e9, if_pos (by omega)]
            · rw [if_neg e9, if_neg (by omega)]) (MailIs.fr F5 hMM3 (fun z => z) (fun z => z) (fun z => z) (by rw [k4, ← era]; exact a_m_r)) hb10
  refine vv_aload_n (pc := 0) x dd_CH_collectHeap_0 rfl ?_
  refine lg_CH_97 (pc := 1) G x dd_CH_collectHeap_1 (by assumption) (S.or hDp hTp 2 (by decide)) ?_
  rw [eh]
  refine vv_astore_n (pc := 4) x dd_CH_collectHeap_4 (by decide) (ls2 := [_, _, _, none]) rfl ?_
  refine vv_aload_n (pc := 5) x dd_CH_collectHeap_5 rfl ?_
  refine lg_CH_58 (pc := 6) G x dd_CH_collectHeap_6 (by assumption) (S.or hDo hTo 6 (by decide)) ?_
  rw [es]
  refine lv_CH_238 (pc := 9) G x dd_CH_collectHeap_9 (K_clear G S hp hDs hTs) hTs ⟨by decide, by decide⟩ (by decide) (by decide) (Nat.le_of_ble_eq_true rfl) (fun v9 M9 q9 => ?_)
  obtain ⟨rfl, F1, Hs1⟩ := q9
  have S1 := F1.sh (fun c' k a z => z.elim) S
  have F1' : fr (scI c hs) (scR c) (lpA M c hs pr mb) M M9 := F1.mono (fun c' k a z => Or.inr z) (fun c' k a z => z.elim) (fun a z => z.elim)
  have e1 := fun k => F1.f (c := 6) (k := k) (a := o) (fun z => z)
  have Hf1 : HeapIs pw M9 hf B := HeapIs.fr F1 Hf (fun z => hne z.2.2) (fun z => hne z.2.2) (fun z => z) (fun z => z) (fun z => z) (fun z => z)
  refine vv_aload_n (pc := 12) x dd_CH_collectHeap_12 rfl ?_
  refine lg_CH_44 (pc := 13) G x dd_CH_collectHeap_13 (by rw [F1.1]; exact hTo) (S1.or hDo (by rw [F1.1]; exact hTo) 4 (by decide)) ?_
  refine vv_aload_n (pc := 16) x dd_CH_collectHeap_16 rfl ?_
  refine vv_aload_n (pc := 17) x dd_CH_collectHeap_17 rfl ?_
  refine lg_CH_58 (pc := 18) G x dd_CH_collectHeap_18 (by rw [F1.1]; exact hTo) (S1.or hDo (by rw [F1.1]; exact hTo) 6 (by decide)) ?_
  rw [e1 4, ec, e1 6, es]
  refine lv_CH_100 (pc := 21) G x dd_CH_collectHeap_21 (K_start G S1 hp hp6 hDc (by rw [F1.1]; exact hTc) hne hDf (by rw [F1.1]; exact hTf) hDs (by rw [F1.1]; exact hTs) Hf1 Hs1) (by rw [F1.1]; exact hTc) ⟨by decide, by decide⟩ (by decide) (by decide) (Nat.le_of_ble_eq_true rfl) (fun v21 M21 q21 => ?_)
  obtain ⟨rfl, F2, K2, i2⟩ := q21
  have g1 : mm_f M9 0 3 c = mm_f M 0 3 c := F1.f (fun z => z)
  have F2' : fr (scI c hs) (scR c) (lpA M c hs pr mb) M M21 := F1'.trans (F2.mono (fun c' k a z => Or.inl z) (fun c' k a z => z) (fun a z => Or.inl (Or.inl (by rw [z, g1]))))
  have F2a : fr (scI c hs) (scR c) (scA M c hs) M M21 := (F1.mono (fun c' k a z => Or.inr z) (fun c' k a z => z.elim) (fun a z => z.elim)).trans (F2.mono (fun c' k a z => Or.inl z) (fun c' k a z => z) (fun a z => Or.inl (by rw [z, g1])))
  refine vv_iconst (pc := 24) x dd_CH_collectHeap_24 (0) (by decide) ?_
  refine vv_istore_n (pc := 25) x dd_CH_collectHeap_25 (by decide) (ls2 := [_, _, _, _]) rfl ?_
  exact hrl0 5 0 M21 [] (by omega) (by omega) F2' (by exact K2) (by exact i2) (fun j hj => by
    rw [if_neg (Nat.not_lt_zero j), F2a.2.2.2.2.2.2 _ (by
      rw [← era]
      rintro (z | z | z)
      · exact a_r_ca z
      · exact a_r_s2 z
      · exact a_r_s3 z)]
    exact hRg j hj) (MailIs.fr F2a hMa (fun z => by rcases z with z | z <;> exact absurd z.1 (by decide)) (fun z => by rcases z with z | z <;> exact absurd z.1 (by decide)) (fun z => absurd z.1 (by decide)) (by
      rintro (z | z | z)
      · exact a_m_ca z
      · exact a_m_s2 z
      · exact a_m_s3 z)) hQ9
end M12
