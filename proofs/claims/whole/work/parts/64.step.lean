/-! ===== one process and the pool change, all else stays ===== -/
section M21
variable {g : gg} {X : State → Prop} {t0 : Nat} {l : Launch} {M M1 : mm} {pw : Nat} {D : Nat → Prop} {ow sl : Nat → Nat} {o : Nat} {La Le : List Nat} {Z : zst} {c : Nat} {L : List Nat}
def stI (L : List Nat) : Nat → Nat → Nat → Prop := fun c' _ a => c' < 6 ∧ a ∈ L
def stA (pw : Nat) (D : Nat → Prop) (M : mm) (L : List Nat) : Nat → Prop := fun a => ∃ a0 c0 k0, D a0 ∧ mm_t M a0 = c0 + 1 ∧ aL pw c0 k0 ≠ 0 ∧ c0 ≠ 7 ∧ a = mm_f M c0 k0 a0 ∧ a0 ∈ L
theorem stA_no (S : sh pw D ow sl M) {a1 c1 k1 : Nat} (hD : D a1) (hT : mm_t M a1 = c1 + 1) (hk : aL pw c1 k1 ≠ 0) (hn : a1 ∉ L) : ¬ stA pw D M L (mm_f M c1 k1 a1) := by
  rintro ⟨a0, c0, k0, h1, h2, h3, -, h5, h6⟩
  exact S.ap hD hT hk h1 h2 h3 (Or.inl (fun z => hn (by rw [z]; exact h6))) h5
theorem stA_in {a0 c0 k0 : Nat} (h1 : D a0) (h2 : mm_t M a0 = c0 + 1) (h3 : aL pw c0 k0 ≠ 0) (h4 : c0 ≠ 7) (h6 : a0 ∈ L) : stA pw D M L (mm_f M c0 k0 a0) := ⟨a0, c0, k0, h1, h2, h3, h4, rfl, h6⟩
theorem PrIs_out (S : sh pw D ow sl M) (hp : pw ≠ 0) (F : fr (stI L) (scR c) (stA pw D M L) M M1) {a2 : Nat} {P : pcs} (hD : D a2) (hT : mm_t M a2 = 4) (n1 : a2 ∉ L) (n2 : mm_f M 3 2 a2 ∉ L) (n3 : mm_f M 3 4 a2 ∉ L) (H : PrIs pw M a2 P) : PrIs pw M1 a2 P := by
  have hD2 := S.od hD hT 2 (by decide)
  have hT2 : mm_t M (mm_f M 3 2 a2) = 3 := S.ot hD hT 2 (by decide)
  have hD4 := S.od hD hT 4 (by decide)
  have hT4 : mm_t M (mm_f M 3 4 a2) = 5 := S.ot hD hT 4 (by decide)
  exact PrIs.fr F H (fun z => n1 z.2) (fun z => n1 z.2) (fun z => absurd z.1 (by decide)) (fun z => absurd z.1 (by decide)) (fun z => absurd z.1 (by decide)) (fun z => n2 z.2) (fun z => n2 z.2) (fun z => absurd z.1 (by decide)) (fun z => absurd z.1 (by decide)) (stA_no S hD2 hT2 hp n2) (stA_no S hD2 hT2 hp n2) (stA_no S hD hT (show (4 : Nat) ≠ 0 by decide) n1) (fun z => n3 z.2) (fun z => n3 z.2) (fun z => absurd z.1 (by decide)) (stA_no S hD4 hT4 (show (512 : Nat) ≠ 0 by decide) n3)
/-- carrier, spare heap, the process with its heap and its mailbox, the pool -/
def ob (M : mm) (o pr : Nat) : List Nat := [mm_f M 6 4 o, mm_f M 6 6 o, mm_f M 3 2 pr, pr, mm_f M 3 4 pr, mm_f M 6 1 o]
theorem CI_tags (C : CI pw D ow sl M o La Le Z) : (D (mm_f M 6 4 o) ∧ mm_t M (mm_f M 6 4 o) = 1) ∧ (D (mm_f M 6 6 o) ∧ mm_t M (mm_f M 6 6 o) = 3) ∧ (D (mm_f M 6 1 o) ∧ mm_t M (mm_f M 6 1 o) = 6) ∧ ∀ a ∈ La ++ Le, (D a ∧ mm_t M a = 4) ∧ (D (mm_f M 3 2 a) ∧ mm_t M (mm_f M 3 2 a) = 3) ∧ (D (mm_f M 3 4 a) ∧ mm_t M (mm_f M 3 4 a) = 5) := by
  obtain ⟨S, ⟨hDo, hTo, hp, hp6⟩, ⟨ha1, ha2, ha3, ha4⟩, -⟩ := C
  refine ⟨⟨S.od hDo hTo 4 (by decide), S.ot hDo hTo 4 (by decide)⟩, ⟨S.od hDo hTo 6 (by decide), S.ot hDo hTo 6 (by decide)⟩, ⟨S.od hDo hTo 1 (by decide), S.ot hDo hTo 1 (by decide)⟩, fun a ha => ?_⟩
  obtain ⟨hD, hT⟩ := ha1 a ha
  exact ⟨⟨hD, hT⟩, ⟨S.od hD hT 2 (by decide), S.ot hD hT 2 (by decide)⟩, ⟨S.od hD hT 4 (by decide), S.ot hD hT 4 (by decide)⟩⟩
theorem ob_no {a1 x pr : Nat} (hT : mm_t M a1 = x) (t1 : mm_t M (mm_f M 6 4 o) = 1) (t2 : mm_t M (mm_f M 6 6 o) = 3) (t3 : mm_t M (mm_f M 3 2 pr) = 3) (t4 : mm_t M pr = 4) (t5 : mm_t M (mm_f M 3 4 pr) = 5) (t6 : mm_t M (mm_f M 6 1 o) = 6) (x1 : x ≠ 1) (x2 : x ≠ 3 ∨ (a1 ≠ mm_f M 6 6 o ∧ a1 ≠ mm_f M 3 2 pr)) (x4 : x ≠ 4 ∨ a1 ≠ pr) (x5 : x ≠ 5 ∨ a1 ≠ mm_f M 3 4 pr) (x6 : x ≠ 6) : a1 ∉ ob M o pr := by
  intro h
  unfold ob at h
  simp only [List.mem_cons, List.not_mem_nil, or_false] at h
  rcases h with h | h | h | h | h | h
  · rw [h, t1] at hT; omega
  · rcases x2 with y | y
    · rw [h, t2] at hT; omega
    · exact y.1 h
  · rcases x2 with y | y
    · rw [h, t3] at hT; omega
    · exact y.2 h
  · rcases x4 with y | y
    · rw [h, t4] at hT; omega
    · exact y h
  · rcases x5 with y | y
    · rw [h, t5] at hT; omega
    · exact y h
  · rw [h, t6] at hT; omega
theorem La_ne (h : (La ++ Le).Nodup) {i j : Nat} (hi : i < La.length) (hj : j < La.length) (e : j ≠ i) : La.getD j 0 ≠ La.getD i 0 := by
  intro z
  have hnd : La.Nodup := (List.nodup_append.mp h).1
  simp only [List.getD_eq_getElem?_getD, List.getElem?_eq_getElem hi, List.getElem?_eq_getElem hj] at z
  exact e ((List.getElem_inj hnd).mp z)
theorem CI_step (C : CI pw D ow sl M o La Le Z) {i : Nat} (hi : i < La.length) {P' : pcs} {p' : pp} (F : fr (stI (ob M o (La.getD i 0))) (scR (mm_f M 6 4 o)) (stA pw D M (ob M o (La.getD i 0))) M M1) (hP' : PrIs pw M1 (La.getD i 0) P') (hp' : PoolIs M1 (mm_f M 6 1 o) p') (hs' : ∃ T, HeapIs pw M1 (mm_f M 6 6 o) T) : CI pw D ow sl M1 o La Le (Z.1.set i P', p', Z.2.2.1, Z.2.2.2) ∧ kp pw D M M1 := by
  obtain ⟨⟨hDc, hTc⟩, ⟨hDs, hTs⟩, ⟨hDb, hTb⟩, hTa⟩ := CI_tags C
  obtain ⟨S, ⟨hDo, hTo, hp, hp6⟩, ⟨ha1, ha2, ha3, ha4⟩, ⟨hl, hP⟩, ⟨hpo, T0, hT0⟩, ⟨hw, hlt, hcn⟩, hL⟩ := C
  have hmem : La.getD i 0 ∈ La ++ Le := List.mem_append_left _ (getD_memN hi)
  obtain ⟨⟨hDp, hTp⟩, ⟨hDf, hTf⟩, ⟨hDm, hTm⟩⟩ := hTa _ hmem
  have e6 : ∀ k, mm_f M1 6 k o = mm_f M 6 k o := fun k => F.f (fun z => absurd z.1 (by decide))
  have e3 : ∀ k a, mm_f M1 3 k a = mm_f M 3 k a := fun k a => F.f (fun z => absurd z.1 (by decide))
  have i6 : ∀ k, mm_i M1 6 k o = mm_i M 6 k o := fun k => F.2.2.2.2.1 _ _ _ (fun z => absurd z.1 (by decide))
  refine ⟨⟨F.sh scR_ok S, ⟨hDo, by rw [F.1]; exact hTo, hp, hp6⟩, ⟨fun a ha => by rw [F.1]; exact ha1 a ha, ha2, fun a ha => by rw [e3, e6]; exact ha3 a ha, fun a ha a2 h2 hne => by rw [e3, e3, e3, e3]; exact ha4 a ha a2 h2 hne⟩, ⟨by show _ = (Z.1.set i P').length; rw [List.length_set]; exact hl, fun j hj => ?_⟩, ⟨by rw [e6]; exact hp', by rw [e6]; exact hs'⟩, ⟨by rw [i6]; exact hw, by rw [i6]; exact hlt, by rw [i6]; exact hcn⟩, lst.fr F hL (fun a z => absurd z.1 (by decide)) (fun a z => absurd z.1 (by decide)) (fun z => absurd z.1 (by decide)) (fun z => absurd z.1 (by decide))⟩, kp_fr S F (fun k a z => absurd z.1 (by decide)) (fun k a z => absurd z.1 (by decide)) (fun a ha => by
    obtain ⟨a0, c0, k0, h1, h2, h3, h4, h5, h6⟩ := ha
    exact ⟨a0, c0, k0, h1, h2, h3, h4, h5⟩)⟩
  rw [zget_set (by omega)]
  by_cases e : j = i
  · rw [if_pos e, e]
    exact hP'
  · rw [if_neg e]
    have hm2 : La.getD j 0 ∈ La ++ Le := List.mem_append_left _ (getD_memN hj)
    obtain ⟨⟨hD2, hT2⟩, ⟨hDf2, hTf2⟩, ⟨hDm2, hTm2⟩⟩ := hTa _ hm2
    have hne := La_ne ha2 hi hj e
    obtain ⟨n1, n2⟩ := ha4 _ hm2 _ hmem hne
    exact PrIs_out S hp F hD2 hT2 (ob_no hT2 hTc hTs hTf hTp hTm hTb (by decide) (Or.inl (by decide)) (Or.inr hne) (Or.inl (by decide)) (by decide)) (ob_no hTf2 hTc hTs hTf hTp hTm hTb (by decide) (Or.inr ⟨ha3 _ hm2, n1⟩) (Or.inl (by decide)) (Or.inl (by decide)) (by decide)) (ob_no hTm2 hTc hTs hTf hTp hTm hTb (by decide) (Or.inl (by decide)) (Or.inl (by decide)) (Or.inr n2) (by decide)) (hP j hj)
/-- only the carrier and the spare heap have changed -/
theorem CI_scr (C : CI pw D ow sl M o La Le Z) (F : fr (scI (mm_f M 6 4 o) (mm_f M 6 6 o)) (scR (mm_f M 6 4 o)) (scA M (mm_f M 6 4 o) (mm_f M 6 6 o)) M M1) (hs' : ∃ T, HeapIs pw M1 (mm_f M 6 6 o) T) : CI pw D ow sl M1 o La Le Z ∧ kp pw D M M1 := by
  obtain ⟨⟨hDc, hTc⟩, ⟨hDs, hTs⟩, ⟨hDb, hTb⟩, hTa⟩ := CI_tags C
  obtain ⟨S, ⟨hDo, hTo, hp, hp6⟩, ⟨ha1, ha2, ha3, ha4⟩, ⟨hl, hP⟩, ⟨hpo, T0, hT0⟩, ⟨hw, hlt, hcn⟩, hL⟩ := C
  have F2 : fr (stI [mm_f M 6 4 o, mm_f M 6 6 o]) (scR (mm_f M 6 4 o)) (stA pw D M [mm_f M 6 4 o, mm_f M 6 6 o]) M M1 := by
    refine F.mono (fun c' k a z => ?_) (fun _ _ _ z => z) (fun a z => ?_)
    · rcases z with z | z
      · exact ⟨by have := z.1; omega, by rw [z.2.2]; simp⟩
      · exact ⟨by have := z.1; omega, by rw [z.2.2]; simp⟩
    · rcases z with z | z | z
      · rw [z]; exact stA_in hDc hTc hp (by decide) (by simp)
      · rw [z]; exact stA_in hDs hTs hp (by decide) (by simp)
      · rw [z]; exact stA_in hDs hTs hp (by decide) (by simp)
  have e6 : ∀ k, mm_f M1 6 k o = mm_f M 6 k o := fun k => F.f (fun z => absurd z.1 (by decide))
  have e3 : ∀ k a, mm_f M1 3 k a = mm_f M 3 k a := fun k a => F.f (fun z => absurd z.1 (by decide))
  have e5 : ∀ k a, mm_f M1 5 k a = mm_f M 5 k a := fun k a => F.f (fun z => absurd z.1 (by decide))
  have i6 : ∀ k, mm_i M1 6 k o = mm_i M 6 k o := fun k => F2.2.2.2.2.1 _ _ _ (fun z => absurd z.1 (by decide))
  have nL : ∀ {a1 x : Nat}, mm_t M a1 = x → x ≠ 1 → (x ≠ 3 ∨ a1 ≠ mm_f M 6 6 o) → a1 ∉ [mm_f M 6 4 o, mm_f M 6 6 o] := by
    intro a1 x hT x1 x2 h
    simp only [List.mem_cons, List.not_mem_nil, or_false] at h
    rcases h with h | h
    · rw [h, hTc] at hT; omega
    · rcases x2 with y | y
      · rw [h, hTs] at hT; omega
      · exact y h
  refine ⟨⟨F.sh scR_ok S, ⟨hDo, by rw [F.1]; exact hTo, hp, hp6⟩, ⟨fun a ha => by rw [F.1]; exact ha1 a ha, ha2, fun a ha => by rw [e3, e6]; exact ha3 a ha, fun a ha a2 h2 hne => by rw [e3, e3, e3, e3]; exact ha4 a ha a2 h2 hne⟩, ⟨hl, fun j hj => ?_⟩, ⟨?_, by rw [e6]; exact hs'⟩, ⟨by rw [i6]; exact hw, by rw [i6]; exact hlt, by rw [i6]; exact hcn⟩, lst.fr F2 hL (fun a z => absurd z.1 (by decide)) (fun a z => absurd z.1 (by decide)) (fun z => absurd z.1 (by decide)) (fun z => absurd z.1 (by decide))⟩, kp_fr S F2 (fun k a z => absurd z.1 (by decide)) (fun k a z => absurd z.1 (by decide)) (fun a ha => by
    obtain ⟨a0, c0, k0, h1, h2, h3, h4, h5, h6⟩ := ha
    exact ⟨a0, c0, k0, h1, h2, h3, h4, h5⟩)⟩
  · have hm2 : La.getD j 0 ∈ La ++ Le := List.mem_append_left _ (getD_memN hj)
    obtain ⟨⟨hD2, hT2⟩, ⟨hDf2, hTf2⟩, ⟨hDm2, hTm2⟩⟩ := hTa _ hm2
    exact PrIs_out S hp F2 hD2 hT2 (nL hT2 (by decide) (Or.inl (by decide))) (nL hTf2 (by decide) (Or.inr (ha3 _ hm2))) (nL hTm2 (by decide) (Or.inl (by decide))) (hP j hj)
  · rw [e6]
    unfold PoolIs pget
    have nb := nL hTb (by decide) (Or.inl (by decide))
    rw [e5, e5, F2.2.2.2.2.1 5 0 _ (fun z => nb z.2), F2.2.2.2.2.1 5 1 _ (fun z => nb z.2), F2.2.2.2.2.2.2 _ (stA_no (c1 := 5) (k1 := 2) S hDb hTb (show (30 : Nat) ≠ 0 by decide) nb), F2.2.2.2.2.2.2 _ (stA_no (c1 := 5) (k1 := 3) S hDb hTb (show (30 : Nat) ≠ 0 by decide) nb)]
    exact hpo
theorem kp.trans {M2 : mm} (h1 : kp pw D M M1) (hD : ∀ a, D a → mm_t M a ≠ 0) (hA : ∀ m k, D m → mm_t M m = 8 → aL pw 7 k ≠ 0 → mm_t M (mm_f M 7 k m) ≠ 0) (h2 : kp pw D M1 M2) : kp pw D M M2 := by
  refine ⟨fun a ha => ?_, fun m hm hT => ?_⟩
  · obtain ⟨x1, x2, x3⟩ := h1.1 a ha
    obtain ⟨y1, y2, y3⟩ := h2.1 a (by rw [x1]; exact ha)
    exact ⟨y1.trans x1, y2.trans x2, y3.trans x3⟩
  · obtain ⟨x1, x2, x3⟩ := h1.2 m hm hT
    obtain ⟨y1, y2, y3⟩ := h2.2 m hm (by rw [(h1.1 m (hD m hm)).1]; exact hT)
    have ef : ∀ k, mm_f M1 7 k m = mm_f M 7 k m := fun k => by unfold mm_f; rw [x2 k]
    exact ⟨fun k => (y1 k).trans (x1 k), fun k => (y2 k).trans (x2 k), fun k hk => by
      have := y3 k hk
      rw [ef k] at this
      exact this.trans (x3 k hk)⟩
/-- words led to, on the state -/
theorem C_words (G : gc g X t0 l) (C : CI pw D ow sl M o La Le Z) (hZ : zok pw Z) {i : Nat} (hi : i < La.length) {t : Int32} (ht : vt (zget Z i).2.2.2.2 t) : Ok g X l yy_CH_wordsLedTo cc_CH_wordsLedTo 3 (some .int) 4 95 0 0 [.ref o, .ref (mm_f M 3 2 (La.getD i 0)), .int t] M (fun v M' => v = some (.int (nI (hsz (qB (zget Z i).2.2.2.2 (led (zget Z i).2.2.2.2 t))))) ∧ (CI pw D ow sl M' o La Le Z ∧ kp pw D M M') ∧ ∀ k, mm_f M' 3 k = mm_f M 3 k) := by
  obtain ⟨⟨hDc, hTc⟩, ⟨hDs, hTs⟩, ⟨hDb, hTb⟩, hTa⟩ := CI_tags C
  have C0 := C
  obtain ⟨S, ⟨hDo, hTo, hp, hp6⟩, ⟨ha1, ha2, ha3, ha4⟩, ⟨hl, hP⟩, ⟨hpo, T0, hT0⟩, ⟨hw, hlt, hcn⟩, hL⟩ := C
  have hmem : La.getD i 0 ∈ La ++ Le := List.mem_append_left _ (getD_memN hi)
  obtain ⟨⟨hDp, hTp⟩, ⟨hDf, hTf⟩, ⟨hDm, hTm⟩⟩ := hTa _ hmem
  have hk := hZ.1 _ (zget_mem (Z := Z) (i := i) (by omega))
  refine (K_words G S hp hp6 hDo hTo hDf hTf rfl rfl (ha3 _ hmem) (hP i hi).2.2.1 ht hk.2.2.2.2.2.1).mono ?_
  rintro v M' ⟨rfl, F, hT⟩
  exact ⟨rfl, CI_scr C0 F hT, fun k => by funext a; exact F.f (fun z => absurd z.1 (by decide))⟩
end M21
