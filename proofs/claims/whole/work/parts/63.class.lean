/-! ===== the object and the state ===== -/
section M20
variable {g : gg} {X : State → Prop} {t0 : Nat} {l : Launch} {M M1 : mm} {pw : Nat} {D : Nat → Prop} {ow sl : Nat → Nat} {o : Nat} {La Le : List Nat} {Z : zst}
def PrIs (pw : Nat) (M : mm) (pr : Nat) (P : pcs) : Prop := mm_i M 3 0 pr = nI P.1 ∧ mm_i M 3 1 pr = nI P.2.1 ∧ HeapIs pw M (mm_f M 3 2 pr) P.2.2.2.2 ∧ (∀ j, j < 4 → mm_a M (mm_f M 3 3 pr) j = P.2.2.1.getD j 0) ∧ MailIs M (mm_f M 3 4 pr) P.2.2.2.1
def ALIs (t0 : Nat) (M : mm) (al : Nat) (L : List Nat) : Prop := mm_r M 8 1 al ≠ 0 ∧ mm_i M 8 2 al = nI L.length ∧ ((L = [] ∧ mm_f M 8 1 al = t0) ∨ (mm_f M 8 1 al ≠ t0 ∧ mm_t M (mm_f M 8 1 al) = 102 ∧ mm_n M (mm_f M 8 1 al) = 10 ∧ L.length ≤ 10 ∧ ∀ i, i < L.length → mm_q M (mm_f M 8 1 al) i = L.getD i 0 + 1))
/-- the addresses: whole, none twice, no heap and no mailbox shared -/
def adr (D : Nat → Prop) (M : mm) (o : Nat) (A : List Nat) : Prop := (∀ a ∈ A, D a ∧ mm_t M a = 4) ∧ A.Nodup ∧ (∀ a ∈ A, mm_f M 3 2 a ≠ mm_f M 6 6 o) ∧ ∀ a ∈ A, ∀ a2 ∈ A, a ≠ a2 → mm_f M 3 2 a ≠ mm_f M 3 2 a2 ∧ mm_f M 3 4 a ≠ mm_f M 3 4 a2
def lst (t0 : Nat) (M : mm) (o : Nat) (La Le : List Nat) : Prop := ALIs t0 M (mm_f M 6 2 o) La ∧ ALIs t0 M (mm_f M 6 3 o) Le ∧ mm_f M 6 2 o ≠ mm_f M 6 3 o ∧ (mm_f M 8 1 (mm_f M 6 2 o) = mm_f M 8 1 (mm_f M 6 3 o) → mm_f M 8 1 (mm_f M 6 2 o) = t0) ∧ (La ++ Le).length ≤ 8
def CI (pw : Nat) (D : Nat → Prop) (ow sl : Nat → Nat) (M : mm) (o : Nat) (La Le : List Nat) (Z : zst) : Prop :=
  sh pw D ow sl M ∧ (D o ∧ mm_t M o = 7 ∧ pw ≠ 0 ∧ pw ≤ 600) ∧ adr D M o (La ++ Le) ∧ (La.length = Z.1.length ∧ ∀ i, i < La.length → PrIs pw M (La.getD i 0) (zget Z i)) ∧ (PoolIs M (mm_f M 6 1 o) Z.2.1 ∧ ∃ T, HeapIs pw M (mm_f M 6 6 o) T) ∧ (mm_i M 6 0 o = nI pw ∧ mm_i M 6 7 o = nI Z.2.2.1 ∧ mm_i M 6 8 o = nI Z.2.2.2) ∧ lst (sl 0) M o La Le
/-- arrays of the class's objects -/
def owA (pw : Nat) (D : Nat → Prop) (M : mm) (a : Nat) : Prop := ∃ a0 c0 k0, D a0 ∧ mm_t M a0 = c0 + 1 ∧ aL pw c0 k0 ≠ 0 ∧ c0 ≠ 7 ∧ a = mm_f M c0 k0 a0
/-- the reference's object is as it was -/
def kp (pw : Nat) (D : Nat → Prop) (M M' : mm) : Prop := (∀ a, mm_t M a ≠ 0 → mm_t M' a = mm_t M a ∧ mm_n M' a = mm_n M a ∧ mm_l M' a = mm_l M a) ∧ ∀ m, D m → mm_t M m = 8 → (∀ k, mm_i M' 7 k m = mm_i M 7 k m) ∧ (∀ k, mm_r M' 7 k m = mm_r M 7 k m) ∧ ∀ k, aL pw 7 k ≠ 0 → mm_a M' (mm_f M 7 k m) = mm_a M (mm_f M 7 k m)
theorem kp_fr {I Rr : Nat → Nat → Nat → Prop} {Aa : Nat → Prop} (S : sh pw D ow sl M) (F : fr I Rr Aa M M1) (hI : ∀ k a, ¬ I 7 k a) (hR : ∀ k a, ¬ Rr 7 k a) (hA : ∀ a, Aa a → owA pw D M a) : kp pw D M M1 := by
  refine ⟨fun a _ => ⟨by rw [F.1], by rw [F.2.1], by rw [F.2.2.1]⟩, fun m hD hT => ⟨fun k => F.2.2.2.2.1 _ _ _ (hI k m), fun k => F.2.2.2.2.2.1 _ _ _ (hR k m), fun k hk => F.2.2.2.2.2.2 _ (fun z => ?_)⟩⟩
  obtain ⟨a0, c0, k0, h1, h2, h3, h4, h5⟩ := hA _ z
  exact S.ap hD hT hk h1 h2 h3 (Or.inl (ne_tag hT h2 (by omega))) h5
theorem ALIs.fr {I Rr : Nat → Nat → Nat → Prop} {Aa : Nat → Prop} {t0 al : Nat} {L : List Nat} (F : fr I Rr Aa M M1) (H : ALIs t0 M al L) (i2 : ¬ I 8 2 al) (r1 : ¬ Rr 8 1 al) : ALIs t0 M1 al L := by
  have e := F.f r1
  unfold ALIs
  rw [F.2.2.2.2.2.1 _ _ _ r1, e, F.2.2.2.2.1 _ _ _ i2, F.1, F.2.1, F.2.2.2.1]
  exact H
theorem lst.fr {I Rr : Nat → Nat → Nat → Prop} {Aa : Nat → Prop} {t0 : Nat} (F : fr I Rr Aa M M1) (H : lst t0 M o La Le) (hI : ∀ a, ¬ I 8 2 a) (hR : ∀ a, ¬ Rr 8 1 a) (h2 : ¬ Rr 6 2 o) (h3 : ¬ Rr 6 3 o) : lst t0 M1 o La Le := by
  obtain ⟨h1, h4, h5, h6, h7⟩ := H
  unfold lst
  rw [F.f h2, F.f h3, F.f (hR _), F.f (hR _)]
  exact ⟨h1.fr F (hI _) (hR _), h4.fr F (hI _) (hR _), h5, h6, h7⟩
theorem PrIs.fr {I Rr : Nat → Nat → Nat → Prop} {Aa : Nat → Prop} {pr : Nat} {P : pcs} (F : fr I Rr Aa M M1) (H : PrIs pw M pr P) (i0 : ¬ I 3 0 pr) (i1 : ¬ I 3 1 pr) (r2 : ¬ Rr 3 2 pr) (r3 : ¬ Rr 3 3 pr) (r4 : ¬ Rr 3 4 pr) (j0 : ¬ I 2 0 (mm_f M 3 2 pr)) (j1 : ¬ I 2 1 (mm_f M 3 2 pr)) (s2 : ¬ Rr 2 2 (mm_f M 3 2 pr)) (s3 : ¬ Rr 2 3 (mm_f M 3 2 pr)) (a2 : ¬ Aa (mm_f M 2 2 (mm_f M 3 2 pr))) (a3 : ¬ Aa (mm_f M 2 3 (mm_f M 3 2 pr))) (a4 : ¬ Aa (mm_f M 3 3 pr)) (k0 : ¬ I 4 0 (mm_f M 3 4 pr)) (k1 : ¬ I 4 1 (mm_f M 3 4 pr)) (u2 : ¬ Rr 4 2 (mm_f M 3 4 pr)) (a5 : ¬ Aa (mm_f M 4 2 (mm_f M 3 4 pr))) : PrIs pw M1 pr P := by
  obtain ⟨h1, h2, h3, h4, h5⟩ := H
  refine ⟨by rw [F.2.2.2.2.1 _ _ _ i0]; exact h1, by rw [F.2.2.2.2.1 _ _ _ i1]; exact h2, ?_, fun j hj => ?_, ?_⟩
  · rw [F.f r2]
    exact HeapIs.fr F h3 j0 j1 s2 s3 a2 a3
  · rw [F.f r3, F.2.2.2.2.2.2 _ a4]
    exact h4 j hj
  · rw [F.f r4]
    exact MailIs.fr F h5 k0 k1 u2 a5
theorem kp.rf : kp pw D M M := ⟨fun _ _ => ⟨rfl, rfl, rfl⟩, fun _ _ _ => ⟨fun _ => rfl, fun _ => rfl, fun _ _ => rfl⟩⟩
theorem notA {c hs pr mb b a1 c1 k1 : Nat} (S : sh pw D ow sl M) (hp : pw ≠ 0) (hDc : D c) (hTc : mm_t M c = 1) (hDs : D hs) (hTs : mm_t M hs = 3) (hDp : D pr) (hTp : mm_t M pr = 4) (hDm : D mb) (hTm : mm_t M mb = 5) (hDb : D b) (hTb : mm_t M b = 6) (hD1 : D a1) (hT1 : mm_t M a1 = c1 + 1) (hk : aL pw c1 k1 ≠ 0) (n1 : a1 ≠ c) (n2 : a1 ≠ hs) (n3 : a1 ≠ pr) (n4 : a1 ≠ mb) (n5 : a1 ≠ b ∨ k1 ≠ 3) : ¬ coA M c hs pr mb b (mm_f M c1 k1 a1) := by
  rintro (((z | z | z) | z | z) | z)
  · exact S.ap hD1 hT1 hk hDc hTc (k2 := 3) hp (Or.inl n1) z
  · exact S.ap hD1 hT1 hk hDs hTs (k2 := 2) hp (Or.inl n2) z
  · exact S.ap hD1 hT1 hk hDs hTs (k2 := 3) hp (Or.inl n2) z
  · exact S.ap hD1 hT1 hk hDp hTp (k2 := 3) (show (4 : Nat) ≠ 0 by decide) (Or.inl n3) z
  · exact S.ap hD1 hT1 hk hDm hTm (k2 := 2) (show (512 : Nat) ≠ 0 by decide) (Or.inl n4) z
  · exact S.ap hD1 hT1 hk hDb hTb (k2 := 3) (show (30 : Nat) ≠ 0 by decide) n5 z
theorem coA_ow {c hs pr mb b a : Nat} (hp : pw ≠ 0) (hDc : D c) (hTc : mm_t M c = 1) (hDs : D hs) (hTs : mm_t M hs = 3) (hDp : D pr) (hTp : mm_t M pr = 4) (hDm : D mb) (hTm : mm_t M mb = 5) (hDb : D b) (hTb : mm_t M b = 6) (h : coA M c hs pr mb b a) : owA pw D M a := by
  rcases h with ((z | z | z) | z | z) | z
  · exact ⟨c, 0, 3, hDc, hTc, hp, by decide, z⟩
  · exact ⟨hs, 2, 2, hDs, hTs, hp, by decide, z⟩
  · exact ⟨hs, 2, 3, hDs, hTs, hp, by decide, z⟩
  · exact ⟨pr, 3, 3, hDp, hTp, show (4 : Nat) ≠ 0 by decide, by decide, z⟩
  · exact ⟨mb, 4, 2, hDm, hTm, show (512 : Nat) ≠ 0 by decide, by decide, z⟩
  · exact ⟨b, 5, 3, hDb, hTb, show (30 : Nat) ≠ 0 by decide, by decide, z⟩
theorem map_getD {L : List Int32} {F : Int32 → Int32} {j : Nat} (h : j < L.length) : (L.map F).getD j 0 = F (L.getD j 0) := by
  simp only [List.getD_eq_getElem?_getD]
  rw [List.getElem?_map, List.getElem?_eq_getElem h]
  rfl
theorem zget_set {L : List pcs} {p : pp} {x y i j : Nat} {P : pcs} (hi : i < L.length) : zget (L.set i P, p, x, y) j = if j = i then P else L.getD j (0, 0, [], [], []) := by
  unfold zget
  show (L.set i P).getD j _ = _
  simp only [List.getD_eq_getElem?_getD]
  by_cases e : j = i
  · subst e
    rw [if_pos rfl, List.getElem?_set_self hi]
    rfl
  · rw [if_neg e, List.getElem?_set_ne (fun z => e z.symm)]
/-- a process is collected -/
theorem C_collect (G : gc g X t0 l) (C : CI pw D ow sl M o La Le Z) (hZ : zok pw Z) {i : Nat} (hi : i < La.length) : Ok g X l yy_CH_collectHeap cc_CH_collectHeap 4 none 4 95 0 0 [.ref o, .ref (La.getD i 0)] M (fun v M' => v = none ∧ CI pw D ow sl M' o La Le (zcol Z i) ∧ kp pw D M M') := by
  obtain ⟨S, ⟨hDo, hTo, hp, hp6⟩, ⟨ha1, ha2, ha3, ha4⟩, ⟨hl, hP⟩, ⟨hpo, T0, hT0⟩, ⟨hw, hlt, hcn⟩, hL⟩ := C
  have hiZ : i < Z.1.length := by omega
  have hk := hZ.1 _ (zget_mem hiZ)
  have hmem : La.getD i 0 ∈ La ++ Le := List.mem_append_left _ (getD_memN hi)
  obtain ⟨hDp, hTp⟩ := ha1 _ hmem
  obtain ⟨p1, p2, p3, p4, p5⟩ := hP i hi
  have hcnt := lft_cnt hZ hiZ
  generalize hpr : La.getD i 0 = pr at *
  generalize hPP : zget Z i = P at *
  have hDc : D (mm_f M 6 4 o) := S.od hDo hTo 4 (by decide)
  have hTc : mm_t M (mm_f M 6 4 o) = 1 := S.ot hDo hTo 4 (by decide)
  have hDs : D (mm_f M 6 6 o) := S.od hDo hTo 6 (by decide)
  have hTs : mm_t M (mm_f M 6 6 o) = 3 := S.ot hDo hTo 6 (by decide)
  have hDb : D (mm_f M 6 1 o) := S.od hDo hTo 1 (by decide)
  have hTb : mm_t M (mm_f M 6 1 o) = 6 := S.ot hDo hTo 1 (by decide)
  have hDf : D (mm_f M 3 2 pr) := S.od hDp hTp 2 (by decide)
  have hTf : mm_t M (mm_f M 3 2 pr) = 3 := S.ot hDp hTp 2 (by decide)
  have hDm : D (mm_f M 3 4 pr) := S.od hDp hTp 4 (by decide)
  have hTm : mm_t M (mm_f M 3 4 pr) = 5 := S.ot hDp hTp 4 (by decide)
  obtain ⟨k1, k2, k3, k4, k5, k6, k7, k8⟩ := id hk
  refine (K_collect (B := P.2.2.2.2) (Rg := P.2.2.1) (ms := P.2.2.2.1) G S hp hp6 hDo hTo hDp hTp rfl rfl rfl rfl rfl rfl (ha3 pr hmem) p3 k1 p4 p5 k4 k5 k6 k7 (rts P) rfl _ rfl).mono ?_
  rintro v M' ⟨rfl, F, S', e32, e66, Hs, Hf, hR, hM, hPl, hC⟩
  have NA := fun {a1 c1 k1 : Nat} => notA (a1 := a1) (c1 := c1) (k1 := k1) S hp hDc hTc hDs hTs hDp hTp hDm hTm hDb hTb
  have r6 : ∀ k, k ≠ 6 → mm_f M' 6 k o = mm_f M 6 k o := fun k hk6 => F.f (by
    rintro (z | z | z)
    · exact absurd z.1 (by decide)
    · exact absurd z.1 (by decide)
    · exact hk6 z.2.1)
  have r3 : ∀ k a, k ≠ 2 ∨ a ≠ pr → mm_f M' 3 k a = mm_f M 3 k a := fun k a h => F.f (by
    rintro (z | z | z)
    · exact absurd z.1 (by decide)
    · omega
    · exact absurd z.1 (by decide))
  have hres : ∀ c' k a, c' = 3 ∨ c' = 4 → ¬ coI (mm_f M 6 4 o) (mm_f M 6 6 o) (mm_f M 6 1 o) o c' k a := by
    rintro c' k a hc ((z | z) | z | z) <;> have := z.1 <;> omega
  refine ⟨rfl, ⟨S', ⟨hDo, by rw [F.1]; exact hTo, hp, hp6⟩, ⟨fun a ha => ?_, ha2, fun a ha => ?_, fun a ha a2 h2 hne => ?_⟩, ⟨?_, fun j hj => ?_⟩, ⟨?_, P.2.2.2.2, by rw [e66]; exact Hf⟩, ⟨?_, ?_, ?_⟩, ?_⟩, ?_⟩
  · rw [F.1]; exact ha1 a ha
  · rw [e66]
    by_cases e : a = pr
    · rw [e, e32]; exact fun z => ha3 pr hmem z.symm
    · rw [r3 2 a (Or.inr e)]
      exact (ha4 a ha pr hmem e).1
  · refine ⟨?_, ?_⟩
    · by_cases e : a = pr
      · rw [e, e32, r3 2 a2 (Or.inr (fun z => hne (by rw [e, z])))]
        exact fun z => ha3 a2 h2 z.symm
      · rw [r3 2 a (Or.inr e)]
        by_cases e2 : a2 = pr
        · rw [e2, e32]; exact ha3 a ha
        · rw [r3 2 a2 (Or.inr e2)]
          exact (ha4 a ha a2 h2 hne).1
    · rw [r3 4 a (Or.inl (by decide)), r3 4 a2 (Or.inl (by decide))]
      exact (ha4 a ha a2 h2 hne).2
  · show La.length = (Z.1.set i _).length
    rw [List.length_set]; exact hl
  · have ez : zget (zcol Z i) j = if j = i then colP P else zget Z j := by
      unfold zcol
      rw [zget_set hiZ, hPP]
      rfl
    rw [ez]
    by_cases e : j = i
    · rw [if_pos e, e, hpr]
      refine ⟨?_, ?_, ?_, fun x hx => ?_, ?_⟩
      · rw [F.2.2.2.2.1 _ _ _ (hres _ _ _ (Or.inl rfl))]; exact p1
      · rw [F.2.2.2.2.1 _ _ _ (hres _ _ _ (Or.inl rfl))]; exact p2
      · rw [e32]; exact Hs
      · rw [r3 3 pr (Or.inl (by decide)), hR x hx]
        show _ = (List.map _ _).getD x 0
        rw [map_getD (by omega)]
      · rw [r3 4 pr (Or.inl (by decide))]; exact hM
    · rw [if_neg e]
      have hm2 : La.getD j 0 ∈ La ++ Le := List.mem_append_left _ (getD_memN hj)
      have hne : La.getD j 0 ≠ pr := by
        rw [← hpr]
        intro z
        have hnd : La.Nodup := (List.nodup_append.mp ha2).1
        simp only [List.getD_eq_getElem?_getD, List.getElem?_eq_getElem hi, List.getElem?_eq_getElem hj] at z
        exact e ((List.getElem_inj hnd).mp z)
      obtain ⟨hD2, hT2⟩ := ha1 _ hm2
      obtain ⟨n1, n2⟩ := ha4 _ hm2 pr hmem hne
      have n3 := ha3 _ hm2
      have hDf2 := S.od hD2 hT2 2 (by decide)
      have hTf2 : mm_t M (mm_f M 3 2 (La.getD j 0)) = 3 := S.ot hD2 hT2 2 (by decide)
      have hDm2 := S.od hD2 hT2 4 (by decide)
      have hTm2 : mm_t M (mm_f M 3 4 (La.getD j 0)) = 5 := S.ot hD2 hT2 4 (by decide)
      have hrr : ∀ c' k, c' = 2 ∨ c' = 4 → ∀ a, ¬ coR (mm_f M 6 4 o) pr o c' k a := by
        rintro c' k hc a (z | z | z) <;> have := z.1 <;> omega
      have hr3 : ∀ k, ¬ coR (mm_f M 6 4 o) pr o 3 k (La.getD j 0) := by
        rintro k (z | z | z)
        · exact absurd z.1 (by decide)
        · exact hne z.2.2
        · exact absurd z.1 (by decide)
      have hi2 : ∀ k, ¬ coI (mm_f M 6 4 o) (mm_f M 6 6 o) (mm_f M 6 1 o) o 2 k (mm_f M 3 2 (La.getD j 0)) := by
        rintro k ((z | z) | z | z)
        · exact absurd z.1 (by decide)
        · exact n3 z.2.2
        · exact absurd z.1 (by decide)
        · exact absurd z.1 (by decide)
      exact PrIs.fr F (hP j hj) (hres _ _ _ (Or.inl rfl)) (hres _ _ _ (Or.inl rfl)) (hr3 2) (hr3 3) (hr3 4) (hi2 0) (hi2 1) (hrr _ _ (Or.inl rfl) _) (hrr _ _ (Or.inl rfl) _)
        (NA hDf2 hTf2 hp (ne_tag hTf2 hTc (by decide)) n3 (ne_tag hTf2 hTp (by decide)) (ne_tag hTf2 hTm (by decide)) (Or.inl (ne_tag hTf2 hTb (by decide))))
        (NA hDf2 hTf2 hp (ne_tag hTf2 hTc (by decide)) n3 (ne_tag hTf2 hTp (by decide)) (ne_tag hTf2 hTm (by decide)) (Or.inl (ne_tag hTf2 hTb (by decide))))
        (NA hD2 hT2 (show (4 : Nat) ≠ 0 by decide) (ne_tag hT2 hTc (by decide)) (ne_tag hT2 hTs (by decide)) hne (ne_tag hT2 hTm (by decide)) (Or.inl (ne_tag hT2 hTb (by decide))))
        (hres _ _ _ (Or.inr rfl)) (hres _ _ _ (Or.inr rfl)) (hrr _ _ (Or.inr rfl) _)
        (NA hDm2 hTm2 (show (512 : Nat) ≠ 0 by decide) (ne_tag hTm2 hTc (by decide)) (ne_tag hTm2 hTs (by decide)) (ne_tag hTm2 hTp (by decide)) n2 (Or.inl (ne_tag hTm2 hTb (by decide))))
  · have e5 : ∀ k, mm_f M' 5 k (mm_f M 6 1 o) = mm_f M 5 k (mm_f M 6 1 o) := fun k => F.f (by
      rintro (z | z | z) <;> exact absurd z.1 (by decide))
    rw [r6 1 (by decide)]
    unfold PoolIs
    rw [hPl, e5 2, F.2.2.2.2.2.2 _ (NA (c1 := 5) (k1 := 2) hDb hTb (show (30 : Nat) ≠ 0 by decide) (ne_tag hTb hTc (by decide)) (ne_tag hTb hTs (by decide)) (ne_tag hTb hTp (by decide)) (ne_tag hTb hTm (by decide)) (Or.inr (by decide)))]
    have hf := pd_fold (ws := lft P) hpo hZ.2.2.2.2.1.1 (fun w hw9 => lf_30 k7 (n := P.2.2.2.2.length) (i := 0) (by omega) w hw9) hcnt
    have ez : (zcol Z i).2.1 = (lft P).foldl pdr Z.2.1 := by unfold zcol; rw [hPP]
    rw [ez]
    exact hf.1
  · rw [F.2.2.2.2.1 6 0 o (by rintro ((z | z) | z | z) <;> first | exact absurd z.1 (by decide) | exact absurd z.2.1 (by decide))]
    exact hw
  · rw [F.2.2.2.2.1 6 7 o (by rintro ((z | z) | z | z) <;> first | exact absurd z.1 (by decide) | exact absurd z.2.1 (by decide))]
    exact hlt
  · rw [hC, hcn, nI_1]
    rfl
  · refine lst.fr F hL (fun a => ?_) (fun a => ?_) ?_ ?_
    · rintro ((z | z) | z | z) <;> exact absurd z.1 (by decide)
    · rintro (z | z | z) <;> exact absurd z.1 (by decide)
    · rintro (z | z | z) <;> first | exact absurd z.1 (by decide) | exact absurd z.2.1 (by decide)
    · rintro (z | z | z) <;> first | exact absurd z.1 (by decide) | exact absurd z.2.1 (by decide)
  · refine kp_fr S F (fun k a => ?_) (fun k a => ?_) (fun a ha => coA_ow hp hDc hTc hDs hTs hDp hTp hDm hTm hDb hTb ha)
    · rintro ((z | z) | z | z) <;> exact absurd z.1 (by decide)
    · rintro (z | z | z) <;> exact absurd z.1 (by decide)
end M20
