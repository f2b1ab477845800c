/-! ===== a process is made, a process begins ===== -/
section M44
variable {g : gg} {X : State → Prop} {t0 : Nat} {l : Launch} {M : mm} {M1 : mm} {pw : Nat} {D : Nat → Prop} {ow sl : Nat → Nat} {c h : Nat} {L : List (Nat × Nat)}
set_option maxRecDepth 100000 in
set_option maxHeartbeats 4000000 in
theorem k_Ac_init (G : gc g X t0 l) {al : Nat} : Ok g X l yy_Ac_init cc_Ac_init 1 none 1 20 0 0 [.ref al] M (fun v M' => v = none ∧ M' = M) := by
  refine ok_start (by decide) (Nat.le_of_ble_eq_true rfl) (by simp [Value.category]) ?_
  intro p e s m args below meth c9 x
  refine vv_aload_n (pc := 0) x dd_Ac_init_0 rfl ?_
  refine lo_Ac_1 (pc := 1) G x dd_Ac_init_1 ⟨by decide, by decide⟩ (Nat.le_of_ble_eq_true rfl) ?_
  exact vv_vret (pc := 4) x dd_Ac_init_4 rfl (by decide) (by decide) ⟨rfl, rfl⟩
set_option maxRecDepth 100000 in
set_option maxHeartbeats 4000000 in
theorem k_Ab_init (G : gc g X t0 l) {al : Nat} (hT : mm_t M al = 9) : Ok g X l yy_Ab_init cc_Ab_init 1 none 2 40 0 0 [.ref al] M (fun v M' => v = none ∧ M' = mm_si M 8 0 al 0) := by
  refine ok_start (by decide) (Nat.le_of_ble_eq_true rfl) (by simp [Value.category]) ?_
  intro p e s m args below meth c9 x
  refine vv_aload_n (pc := 0) x dd_Ab_init_0 rfl ?_
  refine lv_Ab_1 (pc := 1) G x dd_Ab_init_1 (k_Ac_init G)  ⟨by decide, by decide⟩ (by decide) (by decide) (Nat.le_of_ble_eq_true rfl) (fun v1 M1 q1 => ?_)
  obtain ⟨rfl, hm1⟩ := q1
  have hm1 := hm1.symm
  subst hm1
  refine vv_aload_n (pc := 4) x dd_Ab_init_4 rfl ?_
  refine vv_iconst (pc := 5) x dd_Ab_init_5 (0) (by decide) ?_
  refine lp_Ab_7 (pc := 6) G x dd_Ab_init_6 hT ?_
  exact vv_vret (pc := 9) x dd_Ab_init_9 rfl (by decide) (by decide) ⟨rfl, rfl⟩
set_option maxRecDepth 100000 in
set_option maxHeartbeats 4000000 in
theorem k_AL_init (G : gc g X t0 l) {al : Nat} (hT : mm_t M al = 9) : Ok g X l yy_AL_init cc_AL_init 1 none 3 60 0 0 [.ref al] M (fun v M' => v = none ∧ M' = mm_sr (mm_si M 8 0 al 0) 8 1 al t0) := by
  refine ok_start (by decide) (Nat.le_of_ble_eq_true rfl) (by simp [Value.category]) ?_
  intro p e s m args below meth c9 x
  refine vv_aload_n (pc := 0) x dd_AL_init_0 rfl ?_
  refine lv_AL_1 (pc := 1) G x dd_AL_init_1 (k_Ab_init G hT)  ⟨by decide, by decide⟩ (by decide) (by decide) (Nat.le_of_ble_eq_true rfl) (fun v1 M1 q1 => ?_)
  obtain ⟨rfl, hm1⟩ := q1
  subst hm1
  refine vv_aload_n (pc := 4) x dd_AL_init_4 rfl ?_
  refine lt_AL_39 (pc := 5) G x dd_AL_init_5 ?_
  refine lp_AL_9 (pc := 8) G x dd_AL_init_8 hT ?_
  exact vv_vret (pc := 11) x dd_AL_init_11 rfl (by decide) (by decide) ⟨rfl, rfl⟩
/-- only reference fields of p have changed, of what was there -/
def fb (p : Nat) (M M1 : mm) : Prop := ∀ a, mm_t M a ≠ 0 → mm_t M1 a = mm_t M a ∧ mm_n M1 a = mm_n M a ∧ mm_l M1 a = mm_l M a ∧ mm_a M1 a = mm_a M a ∧ mm_q M1 a = mm_q M a ∧ (∀ c k, mm_i M1 c k a = mm_i M c k a) ∧ (a ≠ p → ∀ c k, mm_r M1 c k a = mm_r M c k a)
theorem fb.trans {p : Nat} {M2 : mm} (h1 : fb p M M1) (h2 : fb p M1 M2) : fb p M M2 := fun a ha => by
  obtain ⟨x1, x2, x3, x4, x5, x6, x7⟩ := h1 a ha
  obtain ⟨y1, y2, y3, y4, y5, y6, y7⟩ := h2 a (by rw [x1]; exact ha)
  exact ⟨y1.trans x1, y2.trans x2, y3.trans x3, y4.trans x4, y5.trans x5, fun c k => (y6 c k).trans (x6 c k), fun z c k => (y7 z c k).trans (x7 z c k)⟩
theorem fa.fb {p : Nat} (h : fa M M1) : fb p M M1 := fun a ha => by
  obtain ⟨x1, x2, x3, x4, x5, x6⟩ := h a ha
  exact ⟨x1, x2, x3, x4, x5, fun c k => (x6 c k).1, fun _ c k => (x6 c k).2⟩
theorem mk.fb (H : mk c h M L M1) : fb h M M1 := fun a ha => by
  obtain ⟨x1, x2, x3, x4, x5, x6, x7⟩ := H.1 a ha
  exact ⟨x1, x2, x3, x4, x5, x6, fun z c' k => x7 c' k (Or.inl z)⟩
theorem fb_sr {p k v : Nat} : fb p M (mm_sr M c k p v) := fun a ha => ⟨rfl, rfl, rfl, rfl, rfl, fun _ _ => rfl, fun z c' k' => if_neg (fun y => z y.2.2)⟩
theorem fa_new {q t n : Nat} (hq : mm_t M q = 0) (h : fb q (mm_nw M q t n) M1) : fa M M1 := fun a ha => by
  have e : a ≠ q := fun z => ha (by rw [z]; exact hq)
  have ht : mm_t (mm_nw M q t n) a = mm_t M a := if_neg e
  obtain ⟨x1, x2, x3, x4, x5, x6, x7⟩ := h a (by rw [ht]; exact ha)
  exact ⟨x1.trans ht, x2.trans (if_neg e), x3.trans (if_neg e), x4.trans (if_neg e), x5.trans (if_neg e), fun c k => ⟨(x6 c k).trans (if_neg e), (x7 e c k).trans (if_neg e)⟩⟩
theorem sh.fb {p : Nat} (S : sh pw D ow sl M) (hDl : ∀ a, D a → mm_t M a ≠ 0) (F : fb p M M1) (hn : ¬ D p) : sh pw D ow sl M1 := by
  intro a c1 k hD hTa
  have ha := hDl a hD
  have hne : a ≠ p := fun z => hn (by rw [← z]; exact hD)
  rw [(F a ha).1] at hTa
  obtain ⟨s1, s2⟩ := S a c1 k hD hTa
  have er : mm_r M1 c1 k a = mm_r M c1 k a := (F a ha).2.2.2.2.2.2 hne c1 k
  have ef : mm_f M1 c1 k a = mm_f M c1 k a := by unfold mm_f; rw [er]
  rw [er, ef]
  refine ⟨fun hk => ?_, fun hk => ?_⟩
  · obtain ⟨x1, x2, x3, x4, x5⟩ := s1 hk
    have h9 := F _ (show mm_t M (mm_f M c1 k a) ≠ 0 by rw [x2]; decide)
    rw [h9.1, h9.2.1]
    exact ⟨x1, x2, x3, x4, x5⟩
  · obtain ⟨x1, x2, x3⟩ := s2 hk
    rw [(F _ (show mm_t M (mm_f M c1 k a) ≠ 0 by rw [x2]; exact hk)).1]
    exact ⟨x1, x2, x3⟩
theorem aL2 {k : Nat} (h : aL pw 2 k ≠ 0) : k = 2 ∨ k = 3 := by
  unfold aL at h
  split at h <;> first | omega | exact absurd rfl h
theorem aL3 {k : Nat} (h : aL pw 3 k ≠ 0) : k = 3 := by
  unfold aL at h
  split at h <;> first | omega | exact absurd rfl h
theorem aL4 {k : Nat} (h : aL pw 4 k ≠ 0) : k = 2 := by
  unfold aL at h
  split at h <;> first | omega | exact absurd rfl h
theorem rT3 {k : Nat} (h : rT 3 k ≠ 0) : k = 2 ∨ k = 4 := by
  unfold rT at h
  split at h <;> first | omega | exact absurd rfl h
theorem rT_2 {k : Nat} : rT 2 k = 0 := by unfold rT; split <;> first | rfl | omega
theorem rT_4 {k : Nat} : rT 4 k = 0 := by unfold rT; split <;> first | rfl | omega
theorem Pr_made (S : sh pw D ow sl M) (hDl : ∀ a, D a → mm_t M a ≠ 0) (hp : pw ≠ 0) {p9 : Nat} (hT : mm_t M p9 = 4) (hn : ¬ D p9) {N1 N3 N6 : mm} {q1 q2 : Nat} (H1 : mk 3 p9 M [(3, 4)] N1) (hq1 : mm_t N1 q1 = 0) (H3 : mk 4 q1 (mm_nw N1 q1 5 0) [(2, 512)] N3) (hq2 : mm_t (mm_sr N3 3 4 p9 q1) q2 = 0) (H6 : mk 2 q2 (mm_nw (mm_sr N3 3 4 p9 q1) q2 3 0) [(3, pw), (2, pw)] N6) : ∃ (D1 : Nat → Prop) (ow1 sl1 : Nat → Nat), sh pw D1 ow1 sl1 (mm_sr N6 3 2 p9 q2) ∧ (∀ a, D a → D1 a) ∧ (∀ a, D1 a → D a ∨ a = p9 ∨ mm_t M a = 0) ∧ (∀ a, D1 a → mm_t (mm_sr N6 3 2 p9 q2) a ≠ 0) ∧ D1 p9 ∧ (∀ y, mm_t (mm_sr N6 3 2 p9 q2) y ≠ 100 → sl1 y = sl y) ∧ fb p9 M (mm_sr N6 3 2 p9 q2) ∧ mm_t M (mm_f (mm_sr N6 3 2 p9 q2) 3 2 p9) = 0 ∧ mm_t M (mm_f (mm_sr N6 3 2 p9 q2) 3 4 p9) = 0 := by
  have hh : mm_t M p9 ≠ 0 := by rw [hT]; decide
  have F1 : fb p9 M N1 := H1.fb
  have A13 : fa N1 N3 := fa_new hq1 H3.fb
  have F34 : fb p9 N3 (mm_sr N3 3 4 p9 q1) := fb_sr
  have A46 : fa (mm_sr N3 3 4 p9 q1) N6 := fa_new hq2 H6.fb
  have F67 : fb p9 N6 (mm_sr N6 3 2 p9 q2) := fb_sr
  have t1 : mm_t N1 p9 = 4 := by rw [(F1 p9 hh).1]; exact hT
  have t3 : mm_t N3 p9 = 4 := by rw [(A13 p9 (by rw [t1]; decide)).1]; exact t1
  have t6 : mm_t N6 p9 = 4 := by rw [(A46 p9 (show mm_t N3 p9 ≠ 0 by rw [t3]; decide)).1]; exact t3
  have n1 : p9 ≠ q1 := fun z => by rw [z, hq1] at t1; exact absurd t1 (by decide)
  have n2 : p9 ≠ q2 := fun z => by
    have h9 : mm_t N3 q2 = 0 := hq2
    rw [← z, t3] at h9
    exact absurd h9 (by decide)
  have tn1 : mm_t (mm_nw N1 q1 5 0) q1 = 5 := if_pos rfl
  have t31 : mm_t N3 q1 = 5 := by rw [(H3.1 q1 (by rw [tn1]; decide)).1]; exact tn1
  have n12 : q1 ≠ q2 := fun z => by
    have h9 : mm_t N3 q2 = 0 := hq2
    rw [← z, t31] at h9
    exact absurd h9 (by decide)
  have t61 : mm_t N6 q1 = 5 := by rw [(A46 q1 (show mm_t N3 q1 ≠ 0 by rw [t31]; decide)).1]; exact t31
  have tn2 : mm_t (mm_nw (mm_sr N3 3 4 p9 q1) q2 3 0) q2 = 3 := if_pos rfl
  have t62 : mm_t N6 q2 = 3 := by rw [(H6.1 q2 (by rw [tn2]; decide)).1]; exact tn2
  have m1 : mm_t M q1 = 0 := Classical.byContradiction (fun z => z (by rw [← (F1 q1 z).1]; exact hq1))
  have F13 : fb p9 M N3 := F1.trans A13.fb
  have F16 : fb p9 M N6 := (F13.trans F34).trans A46.fb
  have F17 : fb p9 M (mm_sr N6 3 2 p9 q2) := F16.trans F67
  have m2 : mm_t M q2 = 0 := Classical.byContradiction (fun z => z (by rw [← (F13 q2 z).1]; exact hq2))
  have nD1 : ¬ D q1 := fun z => hDl q1 z m1
  have nD2 : ¬ D q2 := fun z => hDl q2 z m2
  -- the registers
  obtain ⟨r1, ra1, ra2, ra3, -⟩ := H1.2.1 (3, 4) (by simp)
  have r1' : mm_r N1 3 3 p9 ≠ 0 := r1
  have R7 : mm_r (mm_sr N6 3 2 p9 q2) 3 3 p9 = mm_r N1 3 3 p9 := by
    have e1 : mm_r (mm_sr N6 3 2 p9 q2) 3 3 p9 = mm_r N6 3 3 p9 := by rw [mr_sr, if_neg (fun z => absurd z.2.1 (by decide))]
    have e2 : mm_r N6 3 3 p9 = mm_r (mm_sr N3 3 4 p9 q1) 3 3 p9 := ((A46 p9 (show mm_t N3 p9 ≠ 0 by rw [t3]; decide)).2.2.2.2.2 3 3).2
    have e3 : mm_r (mm_sr N3 3 4 p9 q1) 3 3 p9 = mm_r N3 3 3 p9 := by rw [mr_sr, if_neg (fun z => absurd z.2.1 (by decide))]
    have e4 : mm_r N3 3 3 p9 = mm_r N1 3 3 p9 := ((A13 p9 (by rw [t1]; decide)).2.2.2.2.2 3 3).2
    rw [e1, e2, e3, e4]
  have R7f : mm_f (mm_sr N6 3 2 p9 q2) 3 3 p9 = mm_f N1 3 3 p9 := by unfold mm_f; rw [R7]
  have R4 : mm_r (mm_sr N6 3 2 p9 q2) 3 4 p9 = q1 + 1 := by
    have e1 : mm_r (mm_sr N6 3 2 p9 q2) 3 4 p9 = mm_r N6 3 4 p9 := by rw [mr_sr, if_neg (fun z => absurd z.2.1 (by decide))]
    have e2 : mm_r N6 3 4 p9 = mm_r (mm_sr N3 3 4 p9 q1) 3 4 p9 := ((A46 p9 (show mm_t N3 p9 ≠ 0 by rw [t3]; decide)).2.2.2.2.2 3 4).2
    have e3 : mm_r (mm_sr N3 3 4 p9 q1) 3 4 p9 = q1 + 1 := if_pos ⟨rfl, rfl, rfl⟩
    rw [e1, e2, e3]
  have R4f : mm_f (mm_sr N6 3 2 p9 q2) 3 4 p9 = q1 := by unfold mm_f; rw [R4]; rfl
  have R2 : mm_r (mm_sr N6 3 2 p9 q2) 3 2 p9 = q2 + 1 := if_pos ⟨rfl, rfl, rfl⟩
  have R2f : mm_f (mm_sr N6 3 2 p9 q2) 3 2 p9 = q2 := by unfold mm_f; rw [R2]; rfl
  have q6t3 : mm_t N3 (mm_f N1 3 3 p9) = 100 := by rw [(A13 _ (show mm_t N1 (mm_f N1 3 3 p9) ≠ 0 by rw [ra2]; decide)).1]; exact ra2
  have q6n3 : mm_n N3 (mm_f N1 3 3 p9) = 4 := by rw [(A13 _ (show mm_t N1 (mm_f N1 3 3 p9) ≠ 0 by rw [ra2]; decide)).2.1]; exact ra3
  have q6t6 : mm_t N6 (mm_f N1 3 3 p9) = 100 := by rw [(A46 _ (show mm_t N3 (mm_f N1 3 3 p9) ≠ 0 by rw [q6t3]; decide)).1]; exact q6t3
  have q6n6 : mm_n N6 (mm_f N1 3 3 p9) = 4 := by rw [(A46 _ (show mm_t N3 (mm_f N1 3 3 p9) ≠ 0 by rw [q6t3]; decide)).2.1]; exact q6n3
  -- the shape grows
  have S1 := S.fb hDl F1 hn
  have hD1 : ∀ a, D a → mm_t N1 a ≠ 0 := fun a ha => by rw [(F1 a (hDl a ha)).1]; exact hDl a ha
  have S2 := S1.f8 hD1 (fa_nw (t := 5) (n := 0) hq1).f8
  have hD2 : ∀ a, D a → mm_t (mm_nw N1 q1 5 0) a ≠ 0 := fun a ha => by rw [(fa_nw hq1 a (hD1 a ha)).1]; exact hD1 a ha
  obtain ⟨ow3, sl3, S3, sl3e⟩ := H3.shp S2 hD2 tn1 nD1 (fun k hk => by
    have e := aL4 hk
    subst e
    show (2, 512) ∈ _
    simp) (fun k => rT_4)
  have hD3 : ∀ a, (D a ∨ a = q1) → mm_t N3 a ≠ 0 := fun a ha => by
    rcases ha with ha | ha
    · rw [(A13 a (hD1 a ha)).1]; exact hD1 a ha
    · rw [ha, t31]; decide
  have np3 : ¬ (D p9 ∨ p9 = q1) := fun z => z.elim hn n1
  have S4 := S3.fb hD3 F34 np3
  have hD4 : ∀ a, (D a ∨ a = q1) → mm_t (mm_sr N3 3 4 p9 q1) a ≠ 0 := hD3
  have S5 := S4.f8 hD4 (fa_nw (t := 3) (n := 0) hq2).f8
  have hD5 : ∀ a, (D a ∨ a = q1) → mm_t (mm_nw (mm_sr N3 3 4 p9 q1) q2 3 0) a ≠ 0 := fun a ha => by rw [(fa_nw hq2 a (hD4 a ha)).1]; exact hD4 a ha
  obtain ⟨ow6, sl6, S6, sl6e⟩ := H6.shp S5 hD5 tn2 (fun z => z.elim nD2 (fun y => n12 y.symm)) (fun k hk => by
    rcases aL2 hk with e | e
    · subst e
      show (2, pw) ∈ _
      simp
    · subst e
      show (3, pw) ∈ _
      simp) (fun k => rT_2)
  have hD6 : ∀ a, ((D a ∨ a = q1) ∨ a = q2) → mm_t N6 a ≠ 0 := fun a ha => by
    rcases ha with ha | ha
    · rw [(A46 a (hD4 a ha)).1]; exact hD4 a ha
    · rw [ha, t62]; decide
  have np6 : ¬ ((D p9 ∨ p9 = q1) ∨ p9 = q2) := fun z => z.elim np3 n2
  have S7 := S6.fb hD6 F67 np6
  have t7 : mm_t (mm_sr N6 3 2 p9 q2) p9 = 3 + 1 := t6
  obtain ⟨ow7, sl7, S8, sl7e⟩ := sh_one S7 t7 (fun k hk => by
    have e := aL3 hk
    subst e
    rw [R7, R7f]
    exact ⟨r1', q6t6, q6n6⟩) (fun k k2 hk hk2 hne => absurd ((aL3 hk).trans (aL3 hk2).symm) hne) (fun k hk a2 c2 k2 hD hT2 hk2 => by
    have e := aL3 hk
    subst e
    rw [R7f]
    intro z
    rcases hD with (hD | hD) | hD
    · have hne : a2 ≠ p9 := fun y => hn (by rw [← y]; exact hD)
      have f9 := F17 a2 (hDl a2 hD)
      rw [f9.1] at hT2
      have ef : mm_f (mm_sr N6 3 2 p9 q2) c2 k2 a2 = mm_f M c2 k2 a2 := by unfold mm_f; rw [f9.2.2.2.2.2.2 hne]
      rw [ef] at z
      have h9 := S.t hD hT2 k2 hk2
      rw [z, show mm_t M (mm_f N1 3 3 p9) = 0 from ra1] at h9
      exact absurd h9 (by decide)
    · subst hD
      have ec : c2 = 4 := by
        have : mm_t N6 a2 = c2 + 1 := hT2
        omega
      subst ec
      have ek := aL4 hk2
      subst ek
      have e1 : mm_r (mm_sr N6 3 2 p9 q2) 4 2 a2 = mm_r N6 4 2 a2 := by rw [mr_sr, if_neg (fun y => absurd y.1 (by decide))]
      have e2 : mm_r N6 4 2 a2 = mm_r (mm_sr N3 3 4 p9 a2) 4 2 a2 := ((A46 a2 (show mm_t N3 a2 ≠ 0 by rw [t31]; decide)).2.2.2.2.2 4 2).2
      have e3 : mm_r (mm_sr N3 3 4 p9 a2) 4 2 a2 = mm_r N3 4 2 a2 := by rw [mr_sr, if_neg (fun y => absurd y.1 (by decide))]
      have ef : mm_f (mm_sr N6 3 2 p9 q2) 4 2 a2 = mm_f N3 4 2 a2 := by unfold mm_f; rw [e1, e2, e3]
      rw [ef] at z
      have h9 : mm_t (mm_nw N1 a2 5 0) (mm_f N3 4 2 a2) = 0 := (H3.2.1 (2, 512) (by simp)).2.1
      rw [z, (fa_nw hq1 _ (show mm_t N1 (mm_f N1 3 3 p9) ≠ 0 by rw [ra2]; decide)).1, ra2] at h9
      exact absurd h9 (by decide)
    · subst hD
      have ec : c2 = 2 := by
        have : mm_t N6 a2 = c2 + 1 := hT2
        omega
      subst ec
      have e1 : mm_r (mm_sr N6 3 2 p9 a2) 2 k2 a2 = mm_r N6 2 k2 a2 := by rw [mr_sr, if_neg (fun y => absurd y.1 (by decide))]
      have ef : mm_f (mm_sr N6 3 2 p9 a2) 2 k2 a2 = mm_f N6 2 k2 a2 := by unfold mm_f; rw [e1]
      rw [ef] at z
      have h9 : mm_t (mm_nw (mm_sr N3 3 4 p9 q1) a2 3 0) (mm_f N6 2 k2 a2) = 0 := by
        rcases aL2 hk2 with e | e
        · subst e
          exact (H6.2.1 (2, pw) (by simp)).2.1
        · subst e
          exact (H6.2.1 (3, pw) (by simp)).2.1
      rw [z, (fa_nw hq2 _ (show mm_t N3 (mm_f N1 3 3 p9) ≠ 0 by rw [q6t3]; decide)).1] at h9
      have h8 : mm_t N3 (mm_f N1 3 3 p9) = 0 := h9
      rw [q6t3] at h8
      exact absurd h8 (by decide)) (fun k hk => by
    rcases rT3 hk with e | e
    · subst e
      rw [R2, R2f]
      exact ⟨by omega, t62, Or.inr rfl⟩
    · subst e
      rw [R4, R4f]
      exact ⟨by omega, t61, Or.inl (Or.inr rfl)⟩)
  refine ⟨_, ow7, sl7, S8, fun a ha => Or.inl (Or.inl (Or.inl ha)), fun a ha => ?_, fun a ha => ?_, Or.inr rfl, fun y hy => ?_, F17, by rw [R2f]; exact m2, by rw [R4f]; exact m1⟩
  · rcases ha with ((ha | ha) | ha) | ha
    · exact Or.inl ha
    · exact Or.inr (Or.inr (by rw [ha]; exact m1))
    · exact Or.inr (Or.inr (by rw [ha]; exact m2))
    · exact Or.inr (Or.inl ha)
  · rcases ha with ha | ha
    · exact hD6 a ha
    · rw [ha]
      show mm_t N6 p9 ≠ 0
      rw [t6]; decide
  · rw [sl7e y hy, sl6e y hy, sl3e y (fun z => hy ?_)]
    show mm_t N6 y = 100
    rw [(A46 y (show mm_t N3 y ≠ 0 by rw [z]; decide)).1]
    exact z
set_option maxRecDepth 100000 in
set_option maxHeartbeats 4000000 in
theorem K_Pr_init (G : gc g X t0 l) (S : sh pw D ow sl M) (hDl : ∀ a, D a → mm_t M a ≠ 0) (hp : pw ≠ 0) (hp6 : pw ≤ 600) {p9 : Nat} (hT : mm_t M p9 = 4) (hn : ¬ D p9) : Ok g X l yy_Pr_init cc_Pr_init 2 none 2 41 6 1723 [.ref p9, .int (nI pw)] M (fun v M' => v = none ∧ ∃ (D1 : Nat → Prop) (ow1 sl1 : Nat → Nat), sh pw D1 ow1 sl1 M' ∧ (∀ a, D a → D1 a) ∧ (∀ a, D1 a → D a ∨ a = p9 ∨ mm_t M a = 0) ∧ (∀ a, D1 a → mm_t M' a ≠ 0) ∧ D1 p9 ∧ (∀ y, mm_t M' y ≠ 100 → sl1 y = sl y) ∧ fb p9 M M' ∧ mm_t M (mm_f M' 3 2 p9) = 0 ∧ mm_t M (mm_f M' 3 4 p9) = 0) := by
  refine ok_start (by decide) (Nat.le_of_ble_eq_true rfl) (by simp [Value.category]) ?_
  intro p e s m args below meth c9 x
  have hh : mm_t M p9 ≠ 0 := by rw [hT]; decide
  refine vv_aload_n (pc := 0) x dd_Pr_init_0 rfl ?_
  refine lo_Pr_3 (pc := 1) G x dd_Pr_init_1 ⟨by decide, by decide⟩ (Nat.le_of_ble_eq_true rfl) ?_
  refine vv_aload_n (pc := 4) x dd_Pr_init_4 rfl ?_
  refine vv_iconst (pc := 5) x dd_Pr_init_5 (4) (by decide) ?_
  refine vv_newI (pc := 6) x dd_Pr_init_6 (G.w tw_62) (by decide) (by decide) (by decide) (by decide) (fun q6 hq6 => ?_)
  refine lp_Pr_9 (pc := 8) G x dd_Pr_init_8 (by rw [(mk.nil (c := 3) (h := p9) (M := M)).tn hh hq6]; exact hT) ?_
  rw [show Int32.toNatClampNeg 4 = 4 from by decide]
  have H1 : mk 3 p9 M ((3, 4) :: []) (mm_sr (mm_nw M q6 100 4) 3 3 p9 q6) := mk.nil.step hh hq6 (by simp)
  generalize (mm_sr (mm_nw M q6 100 4) 3 3 p9 q6) = N1 at *
  have t1 : mm_t N1 p9 = 4 := by rw [(H1.1 p9 hh).1]; exact hT
  refine vv_aload_n (pc := 11) x dd_Pr_init_11 rfl ?_
  refine ln_Pr_15 (pc := 12) G x dd_Pr_init_12 (by decide) (by decide) (fun q12 hq12 => ?_)
  refine vv_dup (pc := 15) x dd_Pr_init_15 rfl ?_
  refine lv_Pr_17 (pc := 16) G x dd_Pr_init_16 (k_Ma_init (h := q12) G (show mm_t (mm_nw N1 q12 5 0) q12 = 5 from if_pos rfl))  ⟨by decide, by decide⟩ (by decide) (by decide) (Nat.le_of_ble_eq_true rfl) (fun v16 M16 q16 => ?_)
  obtain ⟨rfl, H3⟩ := q16
  have t3 : mm_t M16 p9 = 4 := by rw [(fa_new hq12 H3.fb p9 (by rw [t1]; decide)).1]; exact t1
  refine lp_Pr_18 (pc := 19) G x dd_Pr_init_19 t3 ?_
  refine vv_aload_n (pc := 22) x dd_Pr_init_22 rfl ?_
  refine ln_Pr_22 (pc := 23) G x dd_Pr_init_23 (by decide) (by decide) (fun q23 hq23 => ?_)
  refine vv_dup (pc := 26) x dd_Pr_init_26 rfl ?_
  refine vv_iload_n (pc := 27) x dd_Pr_init_27 rfl ?_
  refine lv_Pr_24 (pc := 28) G x dd_Pr_init_28 (k_He_init (h := q23) (n9 := pw) G (show mm_t (mm_nw (mm_sr M16 3 4 p9 q12) q23 3 0) q23 = 3 from if_pos rfl) hp6)  ⟨by decide, by decide⟩ (by decide) (by decide) (Nat.le_of_ble_eq_true rfl) (fun v28 M28 q28 => ?_)
  obtain ⟨rfl, H6⟩ := q28
  have t6 : mm_t M28 p9 = 4 := by rw [(fa_new hq23 H6.fb p9 (show mm_t M16 p9 ≠ 0 by rw [t3]; decide)).1]; exact t3
  refine lp_Pr_27 (pc := 31) G x dd_Pr_init_31 t6 ?_
  exact vv_vret (pc := 34) x dd_Pr_init_34 rfl (by decide) (by decide) ⟨rfl, Pr_made S hDl hp hT hn H1 hq12 H3 hq23 H6⟩
end M44
