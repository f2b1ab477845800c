/-! ===== exit ===== -/
section M41
variable {g : gg} {X : State → Prop} {t0 : Nat} {l : Launch} {M : mm} {M1 : mm} {pw : Nat} {D : Nat → Prop} {ow sl : Nat → Nat} {o : Nat} {La Le : List Nat} {Z : zst} {L : List Nat} {al t1 : Nat}
/-- only lists have changed, of what was there -/
def f8 (M M1 : mm) : Prop := ∀ a, mm_t M a ≠ 0 → mm_t M1 a = mm_t M a ∧ mm_n M1 a = mm_n M a ∧ mm_l M1 a = mm_l M a ∧ mm_a M1 a = mm_a M a ∧ ∀ c k, c ≠ 8 → mm_i M1 c k a = mm_i M c k a ∧ mm_r M1 c k a = mm_r M c k a
theorem fl.f8 (h : fl al M M1) : f8 M M1 := fun a ha => ⟨(h a ha).1, (h a ha).2.1, (h a ha).2.2.1, (h a ha).2.2.2.1, fun c k z => (h a ha).2.2.2.2.2 c k (Or.inl z)⟩
theorem fa.f8 (h : fa M M1) : f8 M M1 := fun a ha => ⟨(h a ha).1, (h a ha).2.1, (h a ha).2.2.1, (h a ha).2.2.2.1, fun c k _ => (h a ha).2.2.2.2.2 c k⟩
theorem f8.rf : f8 M M := fun _ _ => ⟨rfl, rfl, rfl, rfl, fun _ _ _ => ⟨rfl, rfl⟩⟩
theorem f8.trans {M2 : mm} (h1 : f8 M M1) (h2 : f8 M1 M2) : f8 M M2 := fun a ha => by
  obtain ⟨x1, x2, x3, x4, x6⟩ := h1 a ha
  obtain ⟨y1, y2, y3, y4, y6⟩ := h2 a (by rw [x1]; exact ha)
  exact ⟨y1.trans x1, y2.trans x2, y3.trans x3, y4.trans x4, fun c k z => ⟨(y6 c k z).1.trans (x6 c k z).1, (y6 c k z).2.trans (x6 c k z).2⟩⟩
theorem f8.f {a c k : Nat} (h : f8 M M1) (ha : mm_t M a ≠ 0) (hc : c ≠ 8) : mm_f M1 c k a = mm_f M c k a := by
  unfold mm_f
  rw [((h a ha).2.2.2.2 c k hc).2]
theorem aL_8 {k : Nat} : aL pw 8 k = 0 := by unfold aL; split <;> first | rfl | omega
theorem rT_8 {k : Nat} : rT 8 k = 0 := by unfold rT; split <;> first | rfl | omega
theorem sh.f8 (S : sh pw D ow sl M) (hDl : ∀ a, D a → mm_t M a ≠ 0) (h : f8 M M1) : sh pw D ow sl M1 := by
  intro a c k hD hT
  have ha := hDl a hD
  rw [(h a ha).1] at hT
  obtain ⟨s1, s2⟩ := S a c k hD hT
  refine ⟨fun hk => ?_, fun hk => ?_⟩
  · have hc : c ≠ 8 := fun z => by rw [z] at hk; exact hk aL_8
    obtain ⟨x1, x2, x3, x4, x5⟩ := s1 hk
    rw [((h a ha).2.2.2.2 c k hc).2, h.f ha hc, (h _ (by rw [x2]; decide)).1, (h _ (by rw [x2]; decide)).2.1]
    exact ⟨x1, x2, x3, x4, x5⟩
  · have hc : c ≠ 8 := fun z => by rw [z] at hk; exact hk rT_8
    obtain ⟨x1, x2, x3⟩ := s2 hk
    rw [((h a ha).2.2.2.2 c k hc).2, h.f ha hc, (h _ (by rw [x2]; exact hk)).1]
    exact ⟨x1, x2, x3⟩
theorem HeapIs.f8 {hh : Nat} {B : List bk} (h : f8 M M1) (t : mm_t M hh ≠ 0) (t2 : mm_t M (mm_f M 2 2 hh) ≠ 0) (t3 : mm_t M (mm_f M 2 3 hh) ≠ 0) (H : HeapIs pw M hh B) : HeapIs pw M1 hh B := by
  unfold HeapIs
  rw [((h hh t).2.2.2.2 2 0 (by decide)).1, ((h hh t).2.2.2.2 2 1 (by decide)).1, h.f t (by decide), h.f t (by decide), (h _ t2).2.2.2.1, (h _ t3).2.2.2.1]
  exact H
theorem MailIs.f8 {b : Nat} {ms : List Int32} (h : f8 M M1) (t : mm_t M b ≠ 0) (t2 : mm_t M (mm_f M 4 2 b) ≠ 0) (H : MailIs M b ms) : MailIs M1 b ms := by
  unfold MailIs
  rw [((h b t).2.2.2.2 4 0 (by decide)).1, ((h b t).2.2.2.2 4 1 (by decide)).1, h.f t (by decide), (h _ t2).2.2.2.1]
  exact H
theorem PrIs.f8 {pr : Nat} {P : pcs} (h : f8 M M1) (S : sh pw D ow sl M) (hp : pw ≠ 0) (hD : D pr) (hT : mm_t M pr = 4) (H : PrIs pw M pr P) : PrIs pw M1 pr P := by
  have n1 : mm_t M pr ≠ 0 := by rw [hT]; decide
  have hD2 := S.od hD hT 2 (by decide)
  have hT2 : mm_t M (mm_f M 3 2 pr) = 3 := S.ot hD hT 2 (by decide)
  have hD4 := S.od hD hT 4 (by decide)
  have hT4 : mm_t M (mm_f M 3 4 pr) = 5 := S.ot hD hT 4 (by decide)
  obtain ⟨h1, h2, h3, h4, h5⟩ := H
  refine ⟨by rw [((h pr n1).2.2.2.2 3 0 (by decide)).1]; exact h1, by rw [((h pr n1).2.2.2.2 3 1 (by decide)).1]; exact h2, ?_, fun j hj => ?_, ?_⟩
  · rw [h.f n1 (by decide)]
    exact h3.f8 h (by rw [hT2]; decide) (by rw [S.t hD2 hT2 2 hp]; decide) (by rw [S.t hD2 hT2 3 hp]; decide)
  · rw [h.f n1 (by decide), (h _ (by rw [S.t hD hT 3 (show (4 : Nat) ≠ 0 by decide)]; decide)).2.2.2.1]
    exact h4 j hj
  · rw [h.f n1 (by decide)]
    exact h5.f8 h (by rw [hT4]; decide) (by rw [S.t hD4 hT4 2 (show (512 : Nat) ≠ 0 by decide)]; decide)
/-- all of it but the lists -/
def CJ (pw : Nat) (D : Nat → Prop) (ow sl : Nat → Nat) (M : mm) (o : Nat) (La Le : List Nat) (Z : zst) : Prop :=
  sh pw D ow sl M ∧ (D o ∧ mm_t M o = 7 ∧ pw ≠ 0 ∧ pw ≤ 600) ∧ adr D M o (La ++ Le) ∧ (La.length = Z.1.length ∧ ∀ i, i < La.length → PrIs pw M (La.getD i 0) (zget Z i)) ∧ (PoolIs M (mm_f M 6 1 o) Z.2.1 ∧ ∃ T, HeapIs pw M (mm_f M 6 6 o) T) ∧ (mm_i M 6 0 o = nI pw ∧ mm_i M 6 7 o = nI Z.2.2.1 ∧ mm_i M 6 8 o = nI Z.2.2.2)
theorem CI.j (C : CI pw D ow sl M o La Le Z) : CJ pw D ow sl M o La Le Z := ⟨C.1, C.2.1, C.2.2.1, C.2.2.2.1, C.2.2.2.2.1, C.2.2.2.2.2.1⟩
theorem CJ.i (C : CJ pw D ow sl M o La Le Z) (h : lst (sl 0) M o La Le) : CI pw D ow sl M o La Le Z := ⟨C.1, C.2.1, C.2.2.1, C.2.2.2.1, C.2.2.2.2.1, C.2.2.2.2.2, h⟩
theorem CJ.f8 (C : CJ pw D ow sl M o La Le Z) (hDl : ∀ a, D a → mm_t M a ≠ 0) (h : f8 M M1) : CJ pw D ow sl M1 o La Le Z := by
  obtain ⟨S, ⟨hDo, hTo, hp, hp6⟩, ⟨ha1, ha2, ha3, ha4⟩, ⟨hl, hP⟩, ⟨hpo, T0, hT0⟩, ⟨hw, hlt, hcn⟩⟩ := C
  have n0 := hDl o hDo
  have hDb := S.od hDo hTo 1 (by decide)
  have hTb : mm_t M (mm_f M 6 1 o) = 6 := S.ot hDo hTo 1 (by decide)
  have hDs := S.od hDo hTo 6 (by decide)
  have hTs : mm_t M (mm_f M 6 6 o) = 3 := S.ot hDo hTo 6 (by decide)
  have e3 : ∀ a ∈ La ++ Le, ∀ k, mm_f M1 3 k a = mm_f M 3 k a := fun a ha k => h.f (hDl a (ha1 a ha).1) (by decide)
  refine ⟨S.f8 hDl h, ⟨hDo, by rw [(h o n0).1]; exact hTo, hp, hp6⟩, ⟨fun a ha => ⟨(ha1 a ha).1, by rw [(h a (hDl a (ha1 a ha).1)).1]; exact (ha1 a ha).2⟩, ha2, fun a ha => ?_, fun a ha a2 h2 hne => ?_⟩, ⟨hl, fun i hi => ?_⟩, ⟨?_, T0, ?_⟩, ?_, ?_, ?_⟩
  · rw [e3 a ha, h.f n0 (by decide)]; exact ha3 a ha
  · rw [e3 a ha, e3 a2 h2, e3 a ha, e3 a2 h2]; exact ha4 a ha a2 h2 hne
  · have hm := ha1 _ (List.mem_append_left Le (getD_memN hi))
    exact PrIs.f8 h S hp hm.1 hm.2 (hP i hi)
  · rw [h.f n0 (by decide)]
    have nb : mm_t M (mm_f M 6 1 o) ≠ 0 := hDl _ hDb
    unfold PoolIs pget
    rw [((h _ nb).2.2.2.2 5 0 (by decide)).1, ((h _ nb).2.2.2.2 5 1 (by decide)).1, h.f nb (by decide), h.f nb (by decide), (h _ (by rw [S.t hDb hTb 2 (show (30 : Nat) ≠ 0 by decide)]; decide)).2.2.2.1, (h _ (by rw [S.t hDb hTb 3 (show (30 : Nat) ≠ 0 by decide)]; decide)).2.2.2.1]
    exact hpo
  · rw [h.f n0 (by decide)]
    exact hT0.f8 h (hDl _ hDs) (by rw [S.t hDs hTs 2 hp]; decide) (by rw [S.t hDs hTs 3 hp]; decide)
  · rw [((h o n0).2.2.2.2 6 0 (by decide)).1]; exact hw
  · rw [((h o n0).2.2.2.2 6 7 (by decide)).1]; exact hlt
  · rw [((h o n0).2.2.2.2 6 8 (by decide)).1]; exact hcn
theorem kp_f8 (S : sh pw D ow sl M) (hDl : ∀ a, D a → mm_t M a ≠ 0) (h : f8 M M1) : kp pw D M M1 :=
  ⟨fun a ha => ⟨(h a ha).1, (h a ha).2.1, (h a ha).2.2.1⟩, fun m hD hT => ⟨fun k => ((h m (hDl m hD)).2.2.2.2 7 k (by decide)).1, fun k => ((h m (hDl m hD)).2.2.2.2 7 k (by decide)).2, fun k hk => (h _ (by rw [S.t hD hT k hk]; decide)).2.2.2.1⟩⟩
/-- other processes, the same memory -/
theorem CJ.less {La2 Le2 : List Nat} {Z2 : zst} (C : CJ pw D ow sl M o La Le Z) (hn : (La2 ++ Le2).Nodup) (hs : ∀ a ∈ La2 ++ Le2, a ∈ La ++ Le) (hl : La2.length = Z2.1.length) (hP : ∀ i, i < La2.length → ∃ j, j < La.length ∧ La2.getD i 0 = La.getD j 0 ∧ zget Z2 i = zget Z j) (h2 : Z2.2 = Z.2) : CJ pw D ow sl M o La2 Le2 Z2 := by
  obtain ⟨S, h0, ⟨ha1, ha2, ha3, ha4⟩, ⟨hl0, hP0⟩, hpo, hI⟩ := C
  refine ⟨S, h0, ⟨fun a ha => ha1 a (hs a ha), hn, fun a ha => ha3 a (hs a ha), fun a ha a2 ha2' => ha4 a (hs a ha) a2 (hs a2 ha2')⟩, ⟨hl, fun i hi => ?_⟩, by rw [h2]; exact hpo, by rw [h2]; exact hI⟩
  obtain ⟨j, hj, e1, e2⟩ := hP i hi
  rw [e1, e2]
  exact hP0 j hj
/-- things beside the processes alive have changed -/
theorem CI_out (C : CI pw D ow sl M o La Le Z) {p' : pp} {n' : Nat} (F : fr (fun c' k a => (c' < 6 ∧ a ∈ L) ∨ (c' = 6 ∧ k = 7 ∧ a = o)) (fun _ _ _ => False) (stA pw D M L) M M1) (hn : ∀ a ∈ La, a ∉ L ∧ mm_f M 3 2 a ∉ L ∧ mm_f M 3 4 a ∉ L) (hs : mm_f M 6 6 o ∉ L) (hp' : PoolIs M1 (mm_f M 6 1 o) p') (hl' : mm_i M1 6 7 o = nI n') : CI pw D ow sl M1 o La Le (Z.1, p', n', Z.2.2.2) ∧ kp pw D M M1 := by
  obtain ⟨⟨hDc, hTc⟩, ⟨hDs, hTs⟩, ⟨hDb, hTb⟩, hTa⟩ := CI_tags C
  obtain ⟨S, ⟨hDo, hTo, hp, hp6⟩, ⟨ha1, ha2, ha3, ha4⟩, ⟨hl, hP⟩, ⟨hpo, T0, hT0⟩, ⟨hw, hlt, hcn⟩, hL⟩ := C
  have ff : ∀ c' k a, mm_f M1 c' k a = mm_f M c' k a := fun c' k a => F.f (fun z => z)
  have i6 : ∀ k, k ≠ 7 → mm_i M1 6 k o = mm_i M 6 k o := fun k hk => F.2.2.2.2.1 _ _ _ (fun z => by omega)
  refine ⟨⟨F.sh (fun _ _ _ z => z.elim) S, ⟨hDo, by rw [F.1]; exact hTo, hp, hp6⟩, ⟨fun a ha => by rw [F.1]; exact ha1 a ha, ha2, fun a ha => by rw [ff, ff]; exact ha3 a ha, fun a ha a2 h2 hne => by rw [ff, ff, ff, ff]; exact ha4 a ha a2 h2 hne⟩, ⟨hl, fun j hj => ?_⟩, ⟨by rw [ff]; exact hp', T0, ?_⟩, ⟨by rw [i6 0 (by decide)]; exact hw, hl', by rw [i6 8 (by decide)]; exact hcn⟩, lst.fr F hL (fun a z => by omega) (fun a z => z) (fun z => z) (fun z => z)⟩, kp_fr S F (fun k a z => by omega) (fun k a z => z) (fun a ha => by
    obtain ⟨a0, c0, k0, h1, h2, h3, h4, h5, h6⟩ := ha
    exact ⟨a0, c0, k0, h1, h2, h3, h4, h5⟩)⟩
  · obtain ⟨n1, n2, n3⟩ := hn _ (getD_memN hj)
    obtain ⟨⟨hD2, hT2⟩, ⟨hDf2, hTf2⟩, ⟨hDm2, hTm2⟩⟩ := hTa _ (List.mem_append_left Le (getD_memN hj))
    have nI2 : ∀ {c' k a : Nat}, c' < 6 → a ∉ L → ¬ ((c' < 6 ∧ a ∈ L) ∨ (c' = 6 ∧ k = 7 ∧ a = o)) := fun h1 h2 z => by
      rcases z with z | z
      · exact h2 z.2
      · omega
    exact PrIs.fr F (hP j hj) (nI2 (by decide) n1) (nI2 (by decide) n1) (fun z => z) (fun z => z) (fun z => z) (nI2 (by decide) n2) (nI2 (by decide) n2) (fun z => z) (fun z => z) (stA_no S hDf2 hTf2 hp n2) (stA_no S hDf2 hTf2 hp n2) (stA_no S hD2 hT2 (show (4 : Nat) ≠ 0 by decide) n1) (nI2 (by decide) n3) (nI2 (by decide) n3) (fun z => z) (stA_no S hDm2 hTm2 (show (512 : Nat) ≠ 0 by decide) n3)
  · rw [ff]
    exact HeapIs.fr F hT0 (fun z => by rcases z with z | z; exact hs z.2; omega) (fun z => by rcases z with z | z; exact hs z.2; omega) (fun z => z) (fun z => z) (stA_no S hDs hTs hp hs) (stA_no S hDs hTs hp hs)
theorem ALIs.fl {a2 : Nat} (H : ALIs t1 M al L) (F : fl a2 M M1) (hne : al ≠ a2) (ht : mm_t M al ≠ 0) (hs : mm_f M 8 1 al = mm_f M 8 1 a2 → mm_f M 8 1 al = t1) : ALIs t1 M1 al L ∧ mm_f M1 8 1 al = mm_f M 8 1 al := by
  obtain ⟨h1, h2, h3⟩ := H
  have e := F al ht
  have er : mm_r M1 8 1 al = mm_r M 8 1 al := (e.2.2.2.2.2 8 1 (Or.inr hne)).2
  have ef : mm_f M1 8 1 al = mm_f M 8 1 al := by unfold mm_f; rw [er]
  refine ⟨⟨by rw [er]; exact h1, by rw [(e.2.2.2.2.2 8 2 (Or.inr hne)).1]; exact h2, ?_⟩, ef⟩
  rw [ef]
  rcases h3 with h | ⟨g1, g2, g3, g4, g5⟩
  · exact Or.inl h
  · obtain ⟨x1, x2, x3, x4, x5, x6⟩ := F (mm_f M 8 1 al) (by rw [g2]; decide)
    rw [x1, x2, x5 (fun z => g1 (hs z))]
    exact Or.inr ⟨g1, g2, g3, g4, g5⟩
theorem sep_add {a2 : Nat} (H : ALIs t1 M al L) (F : fl a2 M M1) (hne : al ≠ a2) (ht : mm_t M al ≠ 0) (hs : mm_f M 8 1 al = mm_f M 8 1 a2 → mm_f M 8 1 al = t1) (hq : mm_f M1 8 1 a2 = mm_f M 8 1 a2 ∨ mm_t M (mm_f M1 8 1 a2) = 0) (h : mm_f M1 8 1 al = mm_f M1 8 1 a2) : mm_f M1 8 1 al = t1 := by
  rw [(H.fl F hne ht hs).2] at h ⊢
  rcases hq with q | q
  · exact hs (h.trans q)
  · rcases H.2.2 with g | g
    · exact g.2
    · rw [← h, g.2.1] at q
      exact absurd q (by decide)
theorem sum_era (f : pcs → Nat) : ∀ {L : List pcs} {i : Nat}, i < L.length → ((L.eraseIdx i).map f).sum + f (L.getD i (0, 0, [], [], [])) = (L.map f).sum
  | [], i, h => by simp at h
  | a :: L, 0, _ => by
    rw [List.eraseIdx_cons_zero, List.map_cons, List.sum_cons]
    show _ + f a = _
    omega
  | a :: L, i + 1, h => by
    rw [List.eraseIdx_cons_succ, List.map_cons, List.map_cons, List.sum_cons, List.sum_cons]
    have := sum_era f (L := L) (i := i) (by simpa using h)
    show _ + _ + f (L.getD i (0, 0, [], [], [])) = _
    omega
/-- a process ends -/
def pex (P : pcs) (p : pp) : pp := (((hnd P.2.2.2.2).foldl pdr p).1 + P.2.1, ((hnd P.2.2.2.2).foldl pdr p).2)
def zex (Z : zst) (i : Nat) : zst := (Z.1.eraseIdx i, pex (zget Z i) Z.2.1, Z.2.2.1, Z.2.2.2)
theorem zex_ok (h : zok pw Z) {i : Nat} (hi : i < Z.1.length) : zok pw (zex Z i) := by
  have hm := zget_mem hi
  have hk := h.1 _ hm
  obtain ⟨h1, h2, h3, h4, h5, h6, h7⟩ := h
  have hc : ∀ w, (hnd (zget Z i).2.2.2.2).count w ≤ Z.2.1.2.2.2 w := by
    intro w
    rcases Nat.lt_or_ge w 30 with hw | hw
    · rw [h6 w hw]; exact zcnt_le hm
    · have : (hnd (zget Z i).2.2.2.2).count w = 0 := List.count_eq_zero.mpr (fun z => by
        have := hnd_30 hk.2.2.2.2.2.2.1 w z
        omega)
      omega
  have hg := pdr_gds (ws := hnd (zget Z i).2.2.2.2) (p := Z.2.1) h5 (fun w hw => hnd_30 hk.2.2.2.2.2.2.1 w hw) hc
  have hsub : ∀ P ∈ Z.1.eraseIdx i, P ∈ Z.1 := fun P hP => (List.eraseIdx_sublist Z.1 i).mem hP
  refine ⟨fun P hP => h1 P (hsub P hP), ?_, ?_, fun P hP => h4 P (hsub P hP), ?_, fun w hw => ?_, ?_⟩
  · show (Z.1.eraseIdx i).length ≤ 8
    rw [List.length_eraseIdx_of_lt hi]; omega
  · exact List.Pairwise.sublist ((List.eraseIdx_sublist Z.1 i).map _) h3
  · exact hg.1
  · show ((hnd (zget Z i).2.2.2.2).foldl pdr Z.2.1).2.2.2 w = zcnt (Z.1.eraseIdx i) w
    rw [pdr_cnt hc, h6 w hw]
    have e5 := sum_era (fun P => (hnd P.2.2.2.2).count w) (L := Z.1) hi
    have e4 : (hnd (Z.1.getD i (0, 0, [], [], [])).2.2.2.2).count w = (hnd (zget Z i).2.2.2.2).count w := rfl
    simp only [e4] at e5
    unfold zcnt
    omega
  · show ((hnd (zget Z i).2.2.2.2).foldl pdr Z.2.1).1 + (zget Z i).2.1 + zcap (Z.1.eraseIdx i) + psum ((hnd (zget Z i).2.2.2.2).foldl pdr Z.2.1).2.2.1 = pw
    have e5 := sum_era (fun P => P.2.1) (L := Z.1) hi
    have e6 : (Z.1.getD i (0, 0, [], [], [])).2.1 = (zget Z i).2.1 := rfl
    simp only [e6] at e5
    have := hg.2
    unfold zcap at *
    omega
theorem z8_ex (h : z8 Z) {i : Nat} : z8 (zex Z i) := fun P hP => h P ((List.eraseIdx_sublist Z.1 i).mem hP)
theorem pf_same {Z2 : zst} (h : Z2.1 = Z.1) {xv : Int32} : ∀ {n i : Nat}, pf Z2 xv n i = pf Z xv n i
  | 0, i => rfl
  | n + 1, i => by
    show (if nI (zget Z2 i).1 = xv then i else pf Z2 xv n (i + 1)) = (if nI (zget Z i).1 = xv then i else pf Z xv n (i + 1))
    rw [pf_same h (n := n) (i := i + 1)]
    unfold zget
    rw [h]
theorem zget_era {p : pp} {x y i j : Nat} : zget (Z.1.eraseIdx i, p, x, y) j = if j < i then zget Z j else zget Z (j + 1) := by
  unfold zget
  show (Z.1.eraseIdx i).getD j _ = _
  rw [List.getD_eq_getElem?_getD, List.getElem?_eraseIdx]
  split <;> rw [List.getD_eq_getElem?_getD]
end M41
