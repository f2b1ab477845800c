/-! ===== what is made ===== -/
section M43
variable {g : gg} {X : State → Prop} {t0 : Nat} {l : Launch} {M : mm} {M1 : mm} {pw : Nat} {D : Nat → Prop} {ow sl : Nat → Nat} {c h : Nat} {L : List (Nat × Nat)}
set_option maxRecDepth 100000 in
theorem tw_62 : Cond.arrayClass .int ∈ WS := List.mem_filter.mpr ⟨List.mem_append_right _ (List.mem_of_getElem? (i := 62) rfl), rfl⟩
set_option maxRecDepth 100000 in
theorem tw_1058 : Cond.arrayClass .long ∈ WS := List.mem_filter.mpr ⟨List.mem_append_right _ (List.mem_of_getElem? (i := 1058) rfl), rfl⟩
theorem sh_one (S : sh pw D ow sl M) {a : Nat} (hT : mm_t M a = c + 1) (hA : ∀ k, aL pw c k ≠ 0 → mm_r M c k a ≠ 0 ∧ mm_t M (mm_f M c k a) = 100 ∧ mm_n M (mm_f M c k a) = aL pw c k) (hi : ∀ k k2, aL pw c k ≠ 0 → aL pw c k2 ≠ 0 → k ≠ k2 → mm_f M c k a ≠ mm_f M c k2 a) (hf : ∀ k, aL pw c k ≠ 0 → ∀ a2 c2 k2, D a2 → mm_t M a2 = c2 + 1 → aL pw c2 k2 ≠ 0 → mm_f M c2 k2 a2 ≠ mm_f M c k a) (hO : ∀ k, rT c k ≠ 0 → mm_r M c k a ≠ 0 ∧ mm_t M (mm_f M c k a) = rT c k ∧ D (mm_f M c k a)) : ∃ ow' sl' : Nat → Nat, sh pw (fun x => D x ∨ x = a) ow' sl' M ∧ ∀ y, mm_t M y ≠ 100 → sl' y = sl y := by
  classical
  refine ⟨fun y => if (∃ k, aL pw c k ≠ 0 ∧ y = mm_f M c k a) then a else ow y, fun y => if hy : (∃ k, aL pw c k ≠ 0 ∧ y = mm_f M c k a) then Classical.choose hy else sl y, ?_, ?_⟩
  · intro b c1 k hD hTb
    rcases hD with hD | e
    · obtain ⟨s1, s2⟩ := S b c1 k hD hTb
      refine ⟨fun hk => ?_, fun hk => ?_⟩
      · obtain ⟨x1, x2, x3, x4, x5⟩ := s1 hk
        have hn : ¬ ∃ k2, aL pw c k2 ≠ 0 ∧ mm_f M c1 k b = mm_f M c k2 a := fun ⟨k2, h1, h2⟩ => hf k2 h1 b c1 k hD hTb hk h2
        refine ⟨x1, x2, x3, ?_, ?_⟩
        · show (if _ then a else _) = b
          rw [if_neg hn]; exact x4
        · show (if hy : _ then Classical.choose hy else _) = k
          rw [dif_neg hn]; exact x5
      · obtain ⟨x1, x2, x3⟩ := s2 hk
        exact ⟨x1, x2, Or.inl x3⟩
    · subst e
      have ec : c1 = c := by omega
      subst ec
      refine ⟨fun hk => ?_, fun hk => ?_⟩
      · obtain ⟨x1, x2, x3⟩ := hA k hk
        have hy : ∃ k2, aL pw c1 k2 ≠ 0 ∧ mm_f M c1 k b = mm_f M c1 k2 b := ⟨k, hk, rfl⟩
        refine ⟨x1, x2, x3, ?_, ?_⟩
        · show (if _ then b else _) = b
          rw [if_pos hy]
        · show (if hy : _ then Classical.choose hy else _) = k
          rw [dif_pos hy]
          have hs := Classical.choose_spec hy
          refine Classical.byContradiction (fun z => hi k (Classical.choose hy) hk hs.1 (fun y => z y.symm) hs.2)
      · obtain ⟨x1, x2, x3⟩ := hO k hk
        exact ⟨x1, x2, Or.inl x3⟩
  · intro y hy
    show (if hy : _ then Classical.choose hy else _) = sl y
    rw [dif_neg]
    rintro ⟨k, h1, h2⟩
    rw [h2] at hy
    exact hy (hA k h1).2.1
/-- an int array, made since -/
def mka (M M1 : mm) (q n : Nat) : Prop := mm_t M q = 0 ∧ mm_t M1 q = 100 ∧ mm_n M1 q = n ∧ mm_a M1 q = fun _ => 0
/-- the object h has got int arrays, nothing else that was there has changed -/
def mk (c h : Nat) (M : mm) (L : List (Nat × Nat)) (M1 : mm) : Prop :=
  (∀ a, mm_t M a ≠ 0 → mm_t M1 a = mm_t M a ∧ mm_n M1 a = mm_n M a ∧ mm_l M1 a = mm_l M a ∧ mm_a M1 a = mm_a M a ∧ mm_q M1 a = mm_q M a ∧ (∀ c' k, mm_i M1 c' k a = mm_i M c' k a) ∧ ∀ c' k, (a ≠ h ∨ c' ≠ c ∨ k ∉ L.map (fun x => x.1)) → mm_r M1 c' k a = mm_r M c' k a) ∧
  (∀ x ∈ L, mm_r M1 c x.1 h ≠ 0 ∧ mka M M1 (mm_f M1 c x.1 h) x.2) ∧ ∀ x ∈ L, ∀ y ∈ L, x.1 ≠ y.1 → mm_f M1 c x.1 h ≠ mm_f M1 c y.1 h
theorem mk.nil : mk c h M [] M := ⟨fun a ha => ⟨rfl, rfl, rfl, rfl, rfl, fun _ _ => rfl, fun _ _ _ => rfl⟩, fun x hx => by simp at hx, fun x hx => by simp at hx⟩
theorem mk.tn {q t n : Nat} (H : mk c h M L M1) (hh : mm_t M h ≠ 0) (hq : mm_t M1 q = 0) : mm_t (mm_nw M1 q t n) h = mm_t M h := by
  rw [mt_nw, if_neg (fun z => hh (by rw [← (H.1 h hh).1, z]; exact hq))]
  exact (H.1 h hh).1
theorem mk.step {q k n : Nat} (H : mk c h M L M1) (hh : mm_t M h ≠ 0) (hq : mm_t M1 q = 0) (hk : k ∉ L.map (fun x => x.1)) : mk c h M ((k, n) :: L) (mm_sr (mm_nw M1 q 100 n) c k h q) := by
  obtain ⟨h1, h2, h3⟩ := H
  have hhq : h ≠ q := fun z => hh (by rw [← (h1 h hh).1, z]; exact hq)
  have hq0 : mm_t M q = 0 := Classical.byContradiction (fun z => z (by rw [← (h1 q z).1]; exact hq))
  have ek : mm_r (mm_sr (mm_nw M1 q 100 n) c k h q) c k h = q + 1 := if_pos ⟨rfl, rfl, rfl⟩
  have ekf : mm_f (mm_sr (mm_nw M1 q 100 n) c k h q) c k h = q := by unfold mm_f; rw [ek]; rfl
  have eo : ∀ x ∈ L, mm_r (mm_sr (mm_nw M1 q 100 n) c k h q) c x.1 h = mm_r M1 c x.1 h := fun x hx =>
    (if_neg (fun z => hk (by rw [← z.2.1]; exact List.mem_map_of_mem hx))).trans (if_neg hhq)
  have eof : ∀ x ∈ L, mm_f (mm_sr (mm_nw M1 q 100 n) c k h q) c x.1 h = mm_f M1 c x.1 h := fun x hx => by unfold mm_f; rw [eo x hx]
  have nq : ∀ x ∈ L, mm_f M1 c x.1 h ≠ q := fun x hx z => by
    have := (h2 x hx).2.2.1
    rw [z, hq] at this
    exact absurd this (by decide)
  refine ⟨fun a ha => ?_, fun x hx => ?_, fun x hx y hy hne => ?_⟩
  · obtain ⟨x1, x2, x3, x4, x5, x6, x7⟩ := h1 a ha
    have e : a ≠ q := fun z => ha (by rw [z]; exact hq0)
    refine ⟨(if_neg e).trans x1, (if_neg e).trans x2, (if_neg e).trans x3, (if_neg e).trans x4, (if_neg e).trans x5, fun c' k' => (if_neg e).trans (x6 c' k'), fun c' k' z => ?_⟩
    rw [List.map_cons, List.mem_cons, not_or] at z
    refine (if_neg (fun y => ?_)).trans ((if_neg e).trans (x7 c' k' ?_))
    · rcases z with z | z | z
      · exact z y.2.2
      · exact z y.1
      · exact z.1 y.2.1
    · rcases z with z | z | z
      · exact Or.inl z
      · exact Or.inr (Or.inl z)
      · exact Or.inr (Or.inr z.2)
  · rcases List.mem_cons.mp hx with e | e
    · subst e
      refine ⟨by rw [ek]; omega, ?_⟩
      rw [ekf]
      exact ⟨hq0, if_pos rfl, if_pos rfl, if_pos rfl⟩
    · rw [eo x e, eof x e]
      obtain ⟨y1, y2, y3, y4, y5⟩ := h2 x e
      exact ⟨y1, y2, (if_neg (nq x e)).trans y3, (if_neg (nq x e)).trans y4, (if_neg (nq x e)).trans y5⟩
  · rcases List.mem_cons.mp hx with e | e
    · rcases List.mem_cons.mp hy with e2 | e2
      · subst e; subst e2
        exact absurd rfl hne
      · subst e
        rw [ekf, eof y e2]
        exact fun z => nq y e2 z.symm
    · rcases List.mem_cons.mp hy with e2 | e2
      · subst e2
        rw [ekf, eof x e]
        exact nq x e
      · rw [eof x e, eof y e2]
        exact h3 x e y e2 hne
theorem mk.shp (H : mk c h M L M1) (S : sh pw D ow sl M) (hDl : ∀ a, D a → mm_t M a ≠ 0) (hT : mm_t M h = c + 1) (hn : ¬ D h) (hL : ∀ k, aL pw c k ≠ 0 → (k, aL pw c k) ∈ L) (hr : ∀ k, rT c k = 0) : (∃ ow' sl' : Nat → Nat, sh pw (fun x => D x ∨ x = h) ow' sl' M1 ∧ ∀ y, mm_t M1 y ≠ 100 → sl' y = sl y) := by
  obtain ⟨h1, h2, h3⟩ := H
  have hh : mm_t M h ≠ 0 := by rw [hT]; omega
  have S1 : sh pw D ow sl M1 := by
    intro a c1 k hD hTa
    have ha := hDl a hD
    have hne : a ≠ h := fun z => hn (by rw [← z]; exact hD)
    rw [(h1 a ha).1] at hTa
    obtain ⟨s1, s2⟩ := S a c1 k hD hTa
    have er : mm_r M1 c1 k a = mm_r M c1 k a := (h1 a ha).2.2.2.2.2.2 c1 k (Or.inl hne)
    have ef : mm_f M1 c1 k a = mm_f M c1 k a := by unfold mm_f; rw [er]
    rw [er, ef]
    refine ⟨fun hk => ?_, fun hk => ?_⟩
    · obtain ⟨x1, x2, x3, x4, x5⟩ := s1 hk
      have h9 := h1 _ (show mm_t M (mm_f M c1 k a) ≠ 0 by rw [x2]; decide)
      rw [h9.1, h9.2.1]
      exact ⟨x1, x2, x3, x4, x5⟩
    · obtain ⟨x1, x2, x3⟩ := s2 hk
      rw [(h1 _ (show mm_t M (mm_f M c1 k a) ≠ 0 by rw [x2]; exact hk)).1]
      exact ⟨x1, x2, x3⟩
  refine sh_one S1 (by rw [(h1 h hh).1]; exact hT) (fun k hk => ?_) (fun k k2 hk hk2 hne => h3 _ (hL k hk) _ (hL k2 hk2) hne) (fun k hk a2 c2 k2 hD hT2 hk2 => ?_) (fun k hk => absurd (hr k) hk)
  · obtain ⟨y1, y2, y3, y4, y5⟩ := h2 _ (hL k hk)
    exact ⟨y1, y3, y4⟩
  · intro z
    have hne : a2 ≠ h := fun z => hn (by rw [← z]; exact hD)
    have ha := hDl a2 hD
    rw [(h1 a2 ha).1] at hT2
    have er : mm_r M1 c2 k2 a2 = mm_r M c2 k2 a2 := (h1 a2 ha).2.2.2.2.2.2 c2 k2 (Or.inl hne)
    have ef : mm_f M1 c2 k2 a2 = mm_f M c2 k2 a2 := by unfold mm_f; rw [er]
    rw [ef] at z
    have h9 := (h2 _ (hL k hk)).2.1
    rw [← z, S.t hD hT2 k2 hk2] at h9
    exact absurd h9 (by decide)
theorem mk.arr (H : mk c h M L M1) (hL : ∀ k, aL pw c k ≠ 0 → (k, aL pw c k) ∈ L) {k : Nat} (hk : aL pw c k ≠ 0) : mka M M1 (mm_f M1 c k h) (aL pw c k) := (H.2.1 _ (hL k hk)).2
theorem mk.toFa (H : mk c h M L M1) (hq : mm_t M h = 0) : fa M M1 := fun a ha => by
  obtain ⟨x1, x2, x3, x4, x5, x6, x7⟩ := H.1 a ha
  exact ⟨x1, x2, x3, x4, x5, fun c' k => ⟨x6 c' k, x7 c' k (Or.inl (fun z => ha (by rw [z]; exact hq)))⟩⟩
set_option maxRecDepth 100000 in
set_option maxHeartbeats 4000000 in
theorem k_He_init (G : gc g X t0 l) (hT : mm_t M h = 3) {n9 : Nat} (hn : n9 ≤ 600) : Ok g X l yy_He_init cc_He_init 2 none 1 20 2 1200 [.ref h, .int (nI n9)] M (fun v M' => v = none ∧ mk 2 h M ((3, n9) :: ((2, n9) :: [])) M') := by
  refine ok_start (by decide) (Nat.le_of_ble_eq_true rfl) (by simp [Value.category]) ?_
  intro p e s m args below meth c9 x
  have hh : mm_t M h ≠ 0 := by rw [hT]; decide
  refine vv_aload_n (pc := 0) x dd_He_init_0 rfl ?_
  refine lo_He_3 (pc := 1) G x dd_He_init_1 ⟨by decide, by decide⟩ (Nat.le_of_ble_eq_true rfl) ?_
  refine vv_aload_n (pc := 4) x dd_He_init_4 rfl ?_
  refine vv_iload_n (pc := 5) x dd_He_init_5 rfl ?_
  refine vv_newI (pc := 6) x dd_He_init_6 (G.w tw_62) (nI_pos (by omega)) (by rw [nI_clamp (by omega)]; omega) (by decide) (by rw [nI_clamp (by omega)]; omega) (fun q6 hq6 => ?_)
  rw [nI_clamp (n := n9) (by omega)]
  refine lp_He_9 (pc := 8) G x dd_He_init_8 (by rw [(mk.nil (c := 2) (h := h) (M := M)).tn hh hq6]; exact hT) ?_
  have H1 : mk 2 h M ((2, n9) :: []) (mm_sr (mm_nw M q6 100 n9) 2 2 h q6) := (mk.nil (c := 2) (h := h) (M := M)).step hh hq6 (by simp)
  generalize (mm_sr (mm_nw M q6 100 n9) 2 2 h q6) = N1 at *
  refine vv_aload_n (pc := 11) x dd_He_init_11 rfl ?_
  refine vv_iload_n (pc := 12) x dd_He_init_12 rfl ?_
  refine vv_newI (pc := 13) x dd_He_init_13 (G.w tw_62) (nI_pos (by omega)) (by rw [nI_clamp (by omega)]; omega) (by decide) (by rw [nI_clamp (by omega)]; omega) (fun q13 hq13 => ?_)
  rw [nI_clamp (n := n9) (by omega)]
  refine lp_He_15 (pc := 15) G x dd_He_init_15 (by rw [H1.tn hh hq13]; exact hT) ?_
  have H2 : mk 2 h M ((3, n9) :: ((2, n9) :: [])) (mm_sr (mm_nw N1 q13 100 n9) 2 3 h q13) := H1.step hh hq13 (by simp)
  generalize (mm_sr (mm_nw N1 q13 100 n9) 2 3 h q13) = N2 at *
  exact vv_vret (pc := 18) x dd_He_init_18 rfl (by decide) (by omega) ⟨rfl, H2⟩
set_option maxRecDepth 100000 in
set_option maxHeartbeats 4000000 in
theorem k_Ma_init (G : gc g X t0 l) (hT : mm_t M h = 5) : Ok g X l yy_Ma_init cc_Ma_init 1 none 1 20 1 512 [.ref h] M (fun v M' => v = none ∧ mk 4 h M ((2, 512) :: []) M') := by
  refine ok_start (by decide) (Nat.le_of_ble_eq_true rfl) (by simp [Value.category]) ?_
  intro p e s m args below meth c9 x
  have hh : mm_t M h ≠ 0 := by rw [hT]; decide
  refine vv_aload_n (pc := 0) x dd_Ma_init_0 rfl ?_
  refine lo_Ma_3 (pc := 1) G x dd_Ma_init_1 ⟨by decide, by decide⟩ (Nat.le_of_ble_eq_true rfl) ?_
  refine vv_aload_n (pc := 4) x dd_Ma_init_4 rfl ?_
  refine vv_sipush (pc := 5) x dd_Ma_init_5 (512) (by decide) ?_
  refine vv_newI (pc := 8) x dd_Ma_init_8 (G.w tw_62) (by decide) (by decide) (by decide) (by decide) (fun q8 hq8 => ?_)
  refine lp_Ma_9 (pc := 10) G x dd_Ma_init_10 (by rw [(mk.nil (c := 4) (h := h) (M := M)).tn hh hq8]; exact hT) ?_
  rw [show Int32.toNatClampNeg 512 = 512 from by decide]
  have H1 : mk 4 h M ((2, 512) :: []) (mm_sr (mm_nw M q8 100 512) 4 2 h q8) := (mk.nil (c := 4) (h := h) (M := M)).step hh hq8 (by simp)
  generalize (mm_sr (mm_nw M q8 100 512) 4 2 h q8) = N1 at *
  exact vv_vret (pc := 13) x dd_Ma_init_13 rfl (by decide) (by decide) ⟨rfl, H1⟩
set_option maxRecDepth 100000 in
set_option maxHeartbeats 4000000 in
theorem k_Ca_init (G : gc g X t0 l) (hT : mm_t M h = 1) {n9 : Nat} (hn : n9 ≤ 600) : Ok g X l yy_Ca_init cc_Ca_init 2 none 1 20 1 600 [.ref h, .int (nI n9)] M (fun v M' => v = none ∧ mk 0 h M ((3, n9) :: []) M') := by
  refine ok_start (by decide) (Nat.le_of_ble_eq_true rfl) (by simp [Value.category]) ?_
  intro p e s m args below meth c9 x
  have hh : mm_t M h ≠ 0 := by rw [hT]; decide
  refine vv_aload_n (pc := 0) x dd_Ca_init_0 rfl ?_
  refine lo_Ca_3 (pc := 1) G x dd_Ca_init_1 ⟨by decide, by decide⟩ (Nat.le_of_ble_eq_true rfl) ?_
  refine vv_aload_n (pc := 4) x dd_Ca_init_4 rfl ?_
  refine vv_iload_n (pc := 5) x dd_Ca_init_5 rfl ?_
  refine vv_newI (pc := 6) x dd_Ca_init_6 (G.w tw_62) (nI_pos (by omega)) (by rw [nI_clamp (by omega)]; omega) (by decide) (by rw [nI_clamp (by omega)]; omega) (fun q6 hq6 => ?_)
  rw [nI_clamp (n := n9) (by omega)]
  refine lp_Ca_9 (pc := 8) G x dd_Ca_init_8 (by rw [(mk.nil (c := 0) (h := h) (M := M)).tn hh hq6]; exact hT) ?_
  have H1 : mk 0 h M ((3, n9) :: []) (mm_sr (mm_nw M q6 100 n9) 0 3 h q6) := (mk.nil (c := 0) (h := h) (M := M)).step hh hq6 (by simp)
  generalize (mm_sr (mm_nw M q6 100 n9) 0 3 h q6) = N1 at *
  exact vv_vret (pc := 11) x dd_Ca_init_11 rfl (by decide) (by omega) ⟨rfl, H1⟩
set_option maxRecDepth 100000 in
set_option maxHeartbeats 4000000 in
theorem k_Co_init (G : gc g X t0 l) (hT : mm_t M h = 2) {n9 : Nat} (hn : n9 ≤ 600) : Ok g X l yy_Co_init cc_Co_init 2 none 1 20 2 1200 [.ref h, .int (nI n9)] M (fun v M' => v = none ∧ mk 1 h M ((3, n9) :: ((2, n9) :: [])) M') := by
  refine ok_start (by decide) (Nat.le_of_ble_eq_true rfl) (by simp [Value.category]) ?_
  intro p e s m args below meth c9 x
  have hh : mm_t M h ≠ 0 := by rw [hT]; decide
  refine vv_aload_n (pc := 0) x dd_Co_init_0 rfl ?_
  refine lo_Co_3 (pc := 1) G x dd_Co_init_1 ⟨by decide, by decide⟩ (Nat.le_of_ble_eq_true rfl) ?_
  refine vv_aload_n (pc := 4) x dd_Co_init_4 rfl ?_
  refine vv_iload_n (pc := 5) x dd_Co_init_5 rfl ?_
  refine vv_newI (pc := 6) x dd_Co_init_6 (G.w tw_62) (nI_pos (by omega)) (by rw [nI_clamp (by omega)]; omega) (by decide) (by rw [nI_clamp (by omega)]; omega) (fun q6 hq6 => ?_)
  rw [nI_clamp (n := n9) (by omega)]
  refine lp_Co_9 (pc := 8) G x dd_Co_init_8 (by rw [(mk.nil (c := 1) (h := h) (M := M)).tn hh hq6]; exact hT) ?_
  have H1 : mk 1 h M ((2, n9) :: []) (mm_sr (mm_nw M q6 100 n9) 1 2 h q6) := (mk.nil (c := 1) (h := h) (M := M)).step hh hq6 (by simp)
  generalize (mm_sr (mm_nw M q6 100 n9) 1 2 h q6) = N1 at *
  refine vv_aload_n (pc := 11) x dd_Co_init_11 rfl ?_
  refine vv_iload_n (pc := 12) x dd_Co_init_12 rfl ?_
  refine vv_newI (pc := 13) x dd_Co_init_13 (G.w tw_62) (nI_pos (by omega)) (by rw [nI_clamp (by omega)]; omega) (by decide) (by rw [nI_clamp (by omega)]; omega) (fun q13 hq13 => ?_)
  rw [nI_clamp (n := n9) (by omega)]
  refine lp_Co_15 (pc := 15) G x dd_Co_init_15 (by rw [H1.tn hh hq13]; exact hT) ?_
  have H2 : mk 1 h M ((3, n9) :: ((2, n9) :: [])) (mm_sr (mm_nw N1 q13 100 n9) 1 3 h q13) := H1.step hh hq13 (by simp)
  generalize (mm_sr (mm_nw N1 q13 100 n9) 1 3 h q13) = N2 at *
  exact vv_vret (pc := 18) x dd_Co_init_18 rfl (by decide) (by omega) ⟨rfl, H2⟩
set_option maxRecDepth 100000 in
set_option maxHeartbeats 4000000 in
theorem k_Po_init (G : gc g X t0 l) (hT : mm_t M h = 6) {v9 : Int32} : Ok g X l yy_Po_init cc_Po_init 2 none 1 20 2 60 [.ref h, .int v9] M (fun v M' => v = none ∧ ∃ N, mk 5 h M ((3, 30) :: ((2, 30) :: [])) N ∧ M' = mm_si N 5 0 h v9) := by
  refine ok_start (by decide) (Nat.le_of_ble_eq_true rfl) (by simp [Value.category]) ?_
  intro p e s m args below meth c9 x
  have hh : mm_t M h ≠ 0 := by rw [hT]; decide
  refine vv_aload_n (pc := 0) x dd_Po_init_0 rfl ?_
  refine lo_Po_3 (pc := 1) G x dd_Po_init_1 ⟨by decide, by decide⟩ (Nat.le_of_ble_eq_true rfl) ?_
  refine vv_aload_n (pc := 4) x dd_Po_init_4 rfl ?_
  refine vv_bipush (pc := 5) x dd_Po_init_5 (30) (by decide) ?_
  refine vv_newI (pc := 7) x dd_Po_init_7 (G.w tw_62) (by decide) (by decide) (by decide) (by decide) (fun q7 hq7 => ?_)
  refine lp_Po_9 (pc := 9) G x dd_Po_init_9 (by rw [(mk.nil (c := 5) (h := h) (M := M)).tn hh hq7]; exact hT) ?_
  rw [show Int32.toNatClampNeg 30 = 30 from by decide]
  have H1 : mk 5 h M ((2, 30) :: []) (mm_sr (mm_nw M q7 100 30) 5 2 h q7) := (mk.nil (c := 5) (h := h) (M := M)).step hh hq7 (by simp)
  generalize (mm_sr (mm_nw M q7 100 30) 5 2 h q7) = N1 at *
  refine vv_aload_n (pc := 12) x dd_Po_init_12 rfl ?_
  refine vv_bipush (pc := 13) x dd_Po_init_13 (30) (by decide) ?_
  refine vv_newI (pc := 15) x dd_Po_init_15 (G.w tw_62) (by decide) (by decide) (by decide) (by decide) (fun q15 hq15 => ?_)
  refine lp_Po_15 (pc := 17) G x dd_Po_init_17 (by rw [H1.tn hh hq15]; exact hT) ?_
  rw [show Int32.toNatClampNeg 30 = 30 from by decide]
  have H2 : mk 5 h M ((3, 30) :: ((2, 30) :: [])) (mm_sr (mm_nw N1 q15 100 30) 5 3 h q15) := H1.step hh hq15 (by simp)
  generalize (mm_sr (mm_nw N1 q15 100 30) 5 3 h q15) = N2 at *
  refine vv_aload_n (pc := 20) x dd_Po_init_20 rfl ?_
  refine vv_iload_n (pc := 21) x dd_Po_init_21 rfl ?_
  refine lp_Po_18 (pc := 22) G x dd_Po_init_22 (by rw [(H2.1 h hh).1]; exact hT) ?_
  exact vv_vret (pc := 25) x dd_Po_init_25 rfl (by decide) (by decide) ⟨rfl, N2, H2, rfl⟩
set_option maxRecDepth 100000 in
set_option maxHeartbeats 4000000 in
theorem k_Mo_init (G : gc g X t0 l) (hT : mm_t M h = 8) {v9 : Int32} : Ok g X l yy_Mo_init cc_Mo_init 2 none 1 20 16 17174 [.ref h, .int v9] M (fun v M' => v = none ∧ ∃ N, mk 7 h M ((22, 320) :: ((21, 320) :: ((20, 320) :: ((19, 600) :: ((18, 600) :: ((17, 600) :: ((15, 30) :: ((14, 30) :: ((12, 4800) :: ((11, 4800) :: ((10, 4160) :: ((9, 8) :: ((8, 32) :: ((7, 8) :: ((6, 8) :: ((5, 8) :: [])))))))))))))))) N ∧ M' = mm_si N 7 1 h (if v9 < 40 then 40 else if 600 < v9 then 600 else v9)) := by
  refine ok_start (by decide) (Nat.le_of_ble_eq_true rfl) (by simp [Value.category]) ?_
  intro p e s m args below meth c9 x
  have hh : mm_t M h ≠ 0 := by rw [hT]; decide
  refine vv_aload_n (pc := 0) x dd_Mo_init_0 rfl ?_
  refine lo_Mo_1 (pc := 1) G x dd_Mo_init_1 ⟨by decide, by decide⟩ (Nat.le_of_ble_eq_true rfl) ?_
  refine vv_aload_n (pc := 4) x dd_Mo_init_4 rfl ?_
  refine vv_bipush (pc := 5) x dd_Mo_init_5 (8) (by decide) ?_
  refine vv_newI (pc := 7) x dd_Mo_init_7 (G.w tw_62) (by decide) (by decide) (by decide) (by decide) (fun q7 hq7 => ?_)
  refine lp_Mo_7 (pc := 9) G x dd_Mo_init_9 (by rw [(mk.nil (c := 7) (h := h) (M := M)).tn hh hq7]; exact hT) ?_
  rw [show Int32.toNatClampNeg 8 = 8 from by decide]
  have H1 : mk 7 h M ((5, 8) :: []) (mm_sr (mm_nw M q7 100 8) 7 5 h q7) := (mk.nil (c := 7) (h := h) (M := M)).step hh hq7 (by simp)
  generalize (mm_sr (mm_nw M q7 100 8) 7 5 h q7) = N1 at *
  refine vv_aload_n (pc := 12) x dd_Mo_init_12 rfl ?_
  refine vv_bipush (pc := 13) x dd_Mo_init_13 (8) (by decide) ?_
  refine vv_newI (pc := 15) x dd_Mo_init_15 (G.w tw_62) (by decide) (by decide) (by decide) (by decide) (fun q15 hq15 => ?_)
  refine lp_Mo_13 (pc := 17) G x dd_Mo_init_17 (by rw [H1.tn hh hq15]; exact hT) ?_
  rw [show Int32.toNatClampNeg 8 = 8 from by decide]
  have H2 : mk 7 h M ((6, 8) :: ((5, 8) :: [])) (mm_sr (mm_nw N1 q15 100 8) 7 6 h q15) := H1.step hh hq15 (by simp)
  generalize (mm_sr (mm_nw N1 q15 100 8) 7 6 h q15) = N2 at *
  refine vv_aload_n (pc := 20) x dd_Mo_init_20 rfl ?_
  refine vv_bipush (pc := 21) x dd_Mo_init_21 (8) (by decide) ?_
  refine vv_newI (pc := 23) x dd_Mo_init_23 (G.w tw_62) (by decide) (by decide) (by decide) (by decide) (fun q23 hq23 => ?_)
  refine lp_Mo_16 (pc := 25) G x dd_Mo_init_25 (by rw [H2.tn hh hq23]; exact hT) ?_
  rw [show Int32.toNatClampNeg 8 = 8 from by decide]
  have H3 : mk 7 h M ((7, 8) :: ((6, 8) :: ((5, 8) :: []))) (mm_sr (mm_nw N2 q23 100 8) 7 7 h q23) := H2.step hh hq23 (by simp)
  generalize (mm_sr (mm_nw N2 q23 100 8) 7 7 h q23) = N3 at *
  refine vv_aload_n (pc := 28) x dd_Mo_init_28 rfl ?_
  refine vv_bipush (pc := 29) x dd_Mo_init_29 (32) (by decide) ?_
  refine vv_newI (pc := 31) x dd_Mo_init_31 (G.w tw_62) (by decide) (by decide) (by decide) (by decide) (fun q31 hq31 => ?_)
  refine lp_Mo_19 (pc := 33) G x dd_Mo_init_33 (by rw [H3.tn hh hq31]; exact hT) ?_
  rw [show Int32.toNatClampNeg 32 = 32 from by decide]
  have H4 : mk 7 h M ((8, 32) :: ((7, 8) :: ((6, 8) :: ((5, 8) :: [])))) (mm_sr (mm_nw N3 q31 100 32) 7 8 h q31) := H3.step hh hq31 (by simp)
  generalize (mm_sr (mm_nw N3 q31 100 32) 7 8 h q31) = N4 at *
  refine vv_aload_n (pc := 36) x dd_Mo_init_36 rfl ?_
  refine vv_bipush (pc := 37) x dd_Mo_init_37 (8) (by decide) ?_
  refine vv_newI (pc := 39) x dd_Mo_init_39 (G.w tw_62) (by decide) (by decide) (by decide) (by decide) (fun q39 hq39 => ?_)
  refine lp_Mo_22 (pc := 41) G x dd_Mo_init_41 (by rw [H4.tn hh hq39]; exact hT) ?_
  rw [show Int32.toNatClampNeg 8 = 8 from by decide]
  have H5 : mk 7 h M ((9, 8) :: ((8, 32) :: ((7, 8) :: ((6, 8) :: ((5, 8) :: []))))) (mm_sr (mm_nw N4 q39 100 8) 7 9 h q39) := H4.step hh hq39 (by simp)
  generalize (mm_sr (mm_nw N4 q39 100 8) 7 9 h q39) = N5 at *
  refine vv_aload_n (pc := 44) x dd_Mo_init_44 rfl ?_
  refine vv_sipush (pc := 45) x dd_Mo_init_45 (4160) (by decide) ?_
  refine vv_newI (pc := 48) x dd_Mo_init_48 (G.w tw_62) (by decide) (by decide) (by decide) (by decide) (fun q48 hq48 => ?_)
  refine lp_Mo_25 (pc := 50) G x dd_Mo_init_50 (by rw [H5.tn hh hq48]; exact hT) ?_
  rw [show Int32.toNatClampNeg 4160 = 4160 from by decide]
  have H6 : mk 7 h M ((10, 4160) :: ((9, 8) :: ((8, 32) :: ((7, 8) :: ((6, 8) :: ((5, 8) :: [])))))) (mm_sr (mm_nw N5 q48 100 4160) 7 10 h q48) := H5.step hh hq48 (by simp)
  generalize (mm_sr (mm_nw N5 q48 100 4160) 7 10 h q48) = N6 at *
  refine vv_aload_n (pc := 53) x dd_Mo_init_53 rfl ?_
  refine vv_sipush (pc := 54) x dd_Mo_init_54 (4800) (by decide) ?_
  refine vv_newI (pc := 57) x dd_Mo_init_57 (G.w tw_62) (by decide) (by decide) (by decide) (by decide) (fun q57 hq57 => ?_)
  refine lp_Mo_28 (pc := 59) G x dd_Mo_init_59 (by rw [H6.tn hh hq57]; exact hT) ?_
  rw [show Int32.toNatClampNeg 4800 = 4800 from by decide]
  have H7 : mk 7 h M ((11, 4800) :: ((10, 4160) :: ((9, 8) :: ((8, 32) :: ((7, 8) :: ((6, 8) :: ((5, 8) :: []))))))) (mm_sr (mm_nw N6 q57 100 4800) 7 11 h q57) := H6.step hh hq57 (by simp)
  generalize (mm_sr (mm_nw N6 q57 100 4800) 7 11 h q57) = N7 at *
  refine vv_aload_n (pc := 62) x dd_Mo_init_62 rfl ?_
  refine vv_sipush (pc := 63) x dd_Mo_init_63 (4800) (by decide) ?_
  refine vv_newI (pc := 66) x dd_Mo_init_66 (G.w tw_62) (by decide) (by decide) (by decide) (by decide) (fun q66 hq66 => ?_)
  refine lp_Mo_31 (pc := 68) G x dd_Mo_init_68 (by rw [H7.tn hh hq66]; exact hT) ?_
  rw [show Int32.toNatClampNeg 4800 = 4800 from by decide]
  have H8 : mk 7 h M ((12, 4800) :: ((11, 4800) :: ((10, 4160) :: ((9, 8) :: ((8, 32) :: ((7, 8) :: ((6, 8) :: ((5, 8) :: [])))))))) (mm_sr (mm_nw N7 q66 100 4800) 7 12 h q66) := H7.step hh hq66 (by simp)
  generalize (mm_sr (mm_nw N7 q66 100 4800) 7 12 h q66) = N8 at *
  refine vv_aload_n (pc := 71) x dd_Mo_init_71 rfl ?_
  refine vv_bipush (pc := 72) x dd_Mo_init_72 (30) (by decide) ?_
  refine vv_newI (pc := 74) x dd_Mo_init_74 (G.w tw_62) (by decide) (by decide) (by decide) (by decide) (fun q74 hq74 => ?_)
  refine lp_Mo_34 (pc := 76) G x dd_Mo_init_76 (by rw [H8.tn hh hq74]; exact hT) ?_
  rw [show Int32.toNatClampNeg 30 = 30 from by decide]
  have H9 : mk 7 h M ((14, 30) :: ((12, 4800) :: ((11, 4800) :: ((10, 4160) :: ((9, 8) :: ((8, 32) :: ((7, 8) :: ((6, 8) :: ((5, 8) :: []))))))))) (mm_sr (mm_nw N8 q74 100 30) 7 14 h q74) := H8.step hh hq74 (by simp)
  generalize (mm_sr (mm_nw N8 q74 100 30) 7 14 h q74) = N9 at *
  refine vv_aload_n (pc := 79) x dd_Mo_init_79 rfl ?_
  refine vv_bipush (pc := 80) x dd_Mo_init_80 (30) (by decide) ?_
  refine vv_newI (pc := 82) x dd_Mo_init_82 (G.w tw_62) (by decide) (by decide) (by decide) (by decide) (fun q82 hq82 => ?_)
  refine lp_Mo_37 (pc := 84) G x dd_Mo_init_84 (by rw [H9.tn hh hq82]; exact hT) ?_
  rw [show Int32.toNatClampNeg 30 = 30 from by decide]
  have H10 : mk 7 h M ((15, 30) :: ((14, 30) :: ((12, 4800) :: ((11, 4800) :: ((10, 4160) :: ((9, 8) :: ((8, 32) :: ((7, 8) :: ((6, 8) :: ((5, 8) :: [])))))))))) (mm_sr (mm_nw N9 q82 100 30) 7 15 h q82) := H9.step hh hq82 (by simp)
  generalize (mm_sr (mm_nw N9 q82 100 30) 7 15 h q82) = N10 at *
  refine vv_aload_n (pc := 87) x dd_Mo_init_87 rfl ?_
  refine vv_sipush (pc := 88) x dd_Mo_init_88 (600) (by decide) ?_
  refine vv_newI (pc := 91) x dd_Mo_init_91 (G.w tw_62) (by decide) (by decide) (by decide) (by decide) (fun q91 hq91 => ?_)
  refine lp_Mo_40 (pc := 93) G x dd_Mo_init_93 (by rw [H10.tn hh hq91]; exact hT) ?_
  rw [show Int32.toNatClampNeg 600 = 600 from by decide]
  have H11 : mk 7 h M ((17, 600) :: ((15, 30) :: ((14, 30) :: ((12, 4800) :: ((11, 4800) :: ((10, 4160) :: ((9, 8) :: ((8, 32) :: ((7, 8) :: ((6, 8) :: ((5, 8) :: []))))))))))) (mm_sr (mm_nw N10 q91 100 600) 7 17 h q91) := H10.step hh hq91 (by simp)
  generalize (mm_sr (mm_nw N10 q91 100 600) 7 17 h q91) = N11 at *
  refine vv_aload_n (pc := 96) x dd_Mo_init_96 rfl ?_
  refine vv_sipush (pc := 97) x dd_Mo_init_97 (600) (by decide) ?_
  refine vv_newI (pc := 100) x dd_Mo_init_100 (G.w tw_62) (by decide) (by decide) (by decide) (by decide) (fun q100 hq100 => ?_)
  refine lp_Mo_43 (pc := 102) G x dd_Mo_init_102 (by rw [H11.tn hh hq100]; exact hT) ?_
  rw [show Int32.toNatClampNeg 600 = 600 from by decide]
  have H12 : mk 7 h M ((18, 600) :: ((17, 600) :: ((15, 30) :: ((14, 30) :: ((12, 4800) :: ((11, 4800) :: ((10, 4160) :: ((9, 8) :: ((8, 32) :: ((7, 8) :: ((6, 8) :: ((5, 8) :: [])))))))))))) (mm_sr (mm_nw N11 q100 100 600) 7 18 h q100) := H11.step hh hq100 (by simp)
  generalize (mm_sr (mm_nw N11 q100 100 600) 7 18 h q100) = N12 at *
  refine vv_aload_n (pc := 105) x dd_Mo_init_105 rfl ?_
  refine vv_sipush (pc := 106) x dd_Mo_init_106 (600) (by decide) ?_
  refine vv_newI (pc := 109) x dd_Mo_init_109 (G.w tw_62) (by decide) (by decide) (by decide) (by decide) (fun q109 hq109 => ?_)
  refine lp_Mo_46 (pc := 111) G x dd_Mo_init_111 (by rw [H12.tn hh hq109]; exact hT) ?_
  rw [show Int32.toNatClampNeg 600 = 600 from by decide]
  have H13 : mk 7 h M ((19, 600) :: ((18, 600) :: ((17, 600) :: ((15, 30) :: ((14, 30) :: ((12, 4800) :: ((11, 4800) :: ((10, 4160) :: ((9, 8) :: ((8, 32) :: ((7, 8) :: ((6, 8) :: ((5, 8) :: []))))))))))))) (mm_sr (mm_nw N12 q109 100 600) 7 19 h q109) := H12.step hh hq109 (by simp)
  generalize (mm_sr (mm_nw N12 q109 100 600) 7 19 h q109) = N13 at *
  refine vv_aload_n (pc := 114) x dd_Mo_init_114 rfl ?_
  refine vv_sipush (pc := 115) x dd_Mo_init_115 (320) (by decide) ?_
  refine vv_newI (pc := 118) x dd_Mo_init_118 (G.w tw_62) (by decide) (by decide) (by decide) (by decide) (fun q118 hq118 => ?_)
  refine lp_Mo_49 (pc := 120) G x dd_Mo_init_120 (by rw [H13.tn hh hq118]; exact hT) ?_
  rw [show Int32.toNatClampNeg 320 = 320 from by decide]
  have H14 : mk 7 h M ((20, 320) :: ((19, 600) :: ((18, 600) :: ((17, 600) :: ((15, 30) :: ((14, 30) :: ((12, 4800) :: ((11, 4800) :: ((10, 4160) :: ((9, 8) :: ((8, 32) :: ((7, 8) :: ((6, 8) :: ((5, 8) :: [])))))))))))))) (mm_sr (mm_nw N13 q118 100 320) 7 20 h q118) := H13.step hh hq118 (by simp)
  generalize (mm_sr (mm_nw N13 q118 100 320) 7 20 h q118) = N14 at *
  refine vv_aload_n (pc := 123) x dd_Mo_init_123 rfl ?_
  refine vv_sipush (pc := 124) x dd_Mo_init_124 (320) (by decide) ?_
  refine vv_newI (pc := 127) x dd_Mo_init_127 (G.w tw_62) (by decide) (by decide) (by decide) (by decide) (fun q127 hq127 => ?_)
  refine lp_Mo_52 (pc := 129) G x dd_Mo_init_129 (by rw [H14.tn hh hq127]; exact hT) ?_
  rw [show Int32.toNatClampNeg 320 = 320 from by decide]
  have H15 : mk 7 h M ((21, 320) :: ((20, 320) :: ((19, 600) :: ((18, 600) :: ((17, 600) :: ((15, 30) :: ((14, 30) :: ((12, 4800) :: ((11, 4800) :: ((10, 4160) :: ((9, 8) :: ((8, 32) :: ((7, 8) :: ((6, 8) :: ((5, 8) :: []))))))))))))))) (mm_sr (mm_nw N14 q127 100 320) 7 21 h q127) := H14.step hh hq127 (by simp)
  generalize (mm_sr (mm_nw N14 q127 100 320) 7 21 h q127) = N15 at *
  refine vv_aload_n (pc := 132) x dd_Mo_init_132 rfl ?_
  refine vv_sipush (pc := 133) x dd_Mo_init_133 (320) (by decide) ?_
  refine vv_newI (pc := 136) x dd_Mo_init_136 (G.w tw_62) (by decide) (by decide) (by decide) (by decide) (fun q136 hq136 => ?_)
  refine lp_Mo_55 (pc := 138) G x dd_Mo_init_138 (by rw [H15.tn hh hq136]; exact hT) ?_
  rw [show Int32.toNatClampNeg 320 = 320 from by decide]
  have H16 : mk 7 h M ((22, 320) :: ((21, 320) :: ((20, 320) :: ((19, 600) :: ((18, 600) :: ((17, 600) :: ((15, 30) :: ((14, 30) :: ((12, 4800) :: ((11, 4800) :: ((10, 4160) :: ((9, 8) :: ((8, 32) :: ((7, 8) :: ((6, 8) :: ((5, 8) :: [])))))))))))))))) (mm_sr (mm_nw N15 q136 100 320) 7 22 h q136) := H15.step hh hq136 (by simp)
  generalize (mm_sr (mm_nw N15 q136 100 320) 7 22 h q136) = N16 at *
  refine vv_aload_n (pc := 141) x dd_Mo_init_141 rfl ?_
  refine vv_iload_n (pc := 142) x dd_Mo_init_142 rfl ?_
  refine vv_bipush (pc := 143) x dd_Mo_init_143 (40) (by decide) ?_
  refine vv_icmp_ge (pc := 145) x dd_Mo_init_145 (tgt := 153) (by decide) (fun h145 => ?_) (fun h145 => ?_)
  · refine vv_iload_n (pc := 153) x dd_Mo_init_153 rfl ?_
    refine vv_sipush (pc := 154) x dd_Mo_init_154 (600) (by decide) ?_
    refine vv_icmp_le (pc := 157) x dd_Mo_init_157 (tgt := 166) (by decide) (fun h157 => ?_) (fun h157 => ?_)
    · refine vv_iload_n (pc := 166) x dd_Mo_init_166 rfl ?_
      refine lp_Mo_58 (pc := 167) G x dd_Mo_init_167 (by rw [(H16.1 h hh).1]; exact hT) ?_
      exact vv_vret (pc := 170) x dd_Mo_init_170 rfl (by decide) (by decide) ⟨rfl, N16, H16, by rw [if_neg (fun z => (Int32.not_le.mpr z) h145), if_neg (fun z => (Int32.not_le.mpr z) h157)]⟩
    · refine vv_sipush (pc := 160) x dd_Mo_init_160 (600) (by decide) ?_
      refine vv_goto (pc := 163) x dd_Mo_init_163 (tgt := 167) (by decide) ?_
      refine lp_Mo_58 (pc := 167) G x dd_Mo_init_167 (by rw [(H16.1 h hh).1]; exact hT) ?_
      exact vv_vret (pc := 170) x dd_Mo_init_170 rfl (by decide) (by decide) ⟨rfl, N16, H16, by rw [if_neg (fun z => (Int32.not_le.mpr z) h145), if_pos (Int32.not_le.mp h157)]⟩
  · refine vv_bipush (pc := 148) x dd_Mo_init_148 (40) (by decide) ?_
    refine vv_goto (pc := 150) x dd_Mo_init_150 (tgt := 167) (by decide) ?_
    refine lp_Mo_58 (pc := 167) G x dd_Mo_init_167 (by rw [(H16.1 h hh).1]; exact hT) ?_
    exact vv_vret (pc := 170) x dd_Mo_init_170 rfl (by decide) (by decide) ⟨rfl, N16, H16, by rw [if_pos (Int32.not_le.mp h145)]⟩
end M43
