/-! ===== the object is made ===== -/
section M46
variable {g : gg} {X : State → Prop} {t0 : Nat} {l : Launch} {M : mm} {M1 : mm} {pw : Nat} {D : Nat → Prop} {ow sl : Nat → Nat} {o : Nat}
theorem fa.si {q c k : Nat} {v : Int32} (h : fa M M1) (hq : mm_t M q = 0) : fa M (mm_si M1 c k q v) := fun a ha => by
  obtain ⟨x1, x2, x3, x4, x5, x6⟩ := h a ha
  exact ⟨x1, x2, x3, x4, x5, fun c' k' => ⟨(if_neg (fun z => ha (by rw [z.2.2]; exact hq))).trans (x6 c' k').1, (x6 c' k').2⟩⟩
theorem fa.sr {q c k v : Nat} (h : fa M M1) (hq : mm_t M q = 0) : fa M (mm_sr M1 c k q v) := fun a ha => by
  obtain ⟨x1, x2, x3, x4, x5, x6⟩ := h a ha
  exact ⟨x1, x2, x3, x4, x5, fun c' k' => ⟨(x6 c' k').1, (if_neg (fun z => ha (by rw [z.2.2]; exact hq))).trans (x6 c' k').2⟩⟩
/-- one field of the object o is set to what was made -/
def stg (o k q : Nat) (A A' : mm) : Prop := fb o A A' ∧ mm_r A' 6 k o = q + 1 ∧ ∀ k', k' ≠ k → mm_r A' 6 k' o = mm_r A 6 k' o
theorem stg_of {k q : Nat} (F : fa M M1) (ho : mm_t M o ≠ 0) : stg o k q M (mm_sr M1 6 k o q) :=
  ⟨F.fb.trans fb_sr, mr_sr_s, fun k' z => by
    rw [mr_sr, if_neg (fun y => z y.2.1)]
    exact ((F o ho).2.2.2.2.2 6 k').2⟩
theorem stg.t {k q a : Nat} (F : stg o k q M M1) (h : mm_t M a ≠ 0) : mm_t M1 a = mm_t M a := (F.1 a h).1
theorem aL0 {k : Nat} (h : aL pw 0 k ≠ 0) : k = 3 := by
  unfold aL at h
  split at h <;> first | omega | exact absurd rfl h
theorem aL1 {k : Nat} (h : aL pw 1 k ≠ 0) : k = 2 ∨ k = 3 := by
  unfold aL at h
  split at h <;> first | omega | exact absurd rfl h
theorem aL5 {k : Nat} (h : aL pw 5 k ≠ 0) : k = 2 ∨ k = 3 := by
  unfold aL at h
  split at h <;> first | omega | exact absurd rfl h
theorem aL6 {k : Nat} : aL pw 6 k = 0 := by unfold aL; split <;> first | rfl | omega
theorem rT_0 {k : Nat} : rT 0 k = 0 := by unfold rT; split <;> first | rfl | omega
theorem rT_1 {k : Nat} : rT 1 k = 0 := by unfold rT; split <;> first | rfl | omega
theorem rT_5 {k : Nat} : rT 5 k = 0 := by unfold rT; split <;> first | rfl | omega
theorem rT_7 {k : Nat} : rT 7 k = 0 := by unfold rT; split <;> first | rfl | omega
theorem rT6 {k : Nat} (h : rT 6 k ≠ 0) : k = 1 ∨ k = 2 ∨ k = 3 ∨ k = 4 ∨ k = 5 ∨ k = 6 := by
  unfold rT at h
  split at h <;> first | omega | exact absurd rfl h
/-- a list is in the shape -/
theorem sh_list (S : sh pw D ow sl M) {q : Nat} (hT : mm_t M q = 9) : ∃ ow' sl' : Nat → Nat, sh pw (fun x => D x ∨ x = q) ow' sl' M ∧ ∀ y, mm_t M y ≠ 100 → sl' y = sl y :=
  sh_one (c := 8) S hT (fun k hk => absurd aL_8 hk) (fun k k2 hk => absurd aL_8 hk) (fun k hk => absurd aL_8 hk) (fun k hk => absurd rT_8 hk)
def Z0 (pw : Nat) : zst := ([], (pw, 0, fun _ => 0, fun _ => 0), 0, 0)
theorem Z0_ok : zok pw (Z0 pw) := by
  refine ⟨fun P hP => by simp [Z0] at hP, by simp [Z0], by simp [Z0], fun P hP => by simp [Z0] at hP, ⟨⟨?_, fun w => by show (0 : Nat) < 2 ^ 31; decide⟩, fun w _ => by show 0 < 0 ↔ 0 < 0; omega, fun w _ => rfl⟩, fun w _ => ?_, ?_⟩
  · show 0 = nz (fun _ => 0) (List.range 30)
    decide
  · show 0 = zcnt [] w
    rfl
  · show pw + zcap [] + psum (fun _ => 0) = pw
    have e : psum (fun _ => 0) = 0 := by decide
    rw [e]
    rfl
theorem Z0_8 : z8 (Z0 pw) := fun P hP => by simp [Z0] at hP
theorem CH_made (hp : pw ≠ 0) (hp6 : pw ≤ 600) {A0 A1 A2 A3 A4 A5 A6 N1 X2 X3 N4 N5 N6 : mm} {q1 q2 q3 q4 q5 q6 : Nat} (hT : mm_t A0 o = 7) (hi0 : mm_i A0 6 0 o = nI pw) (hi7 : mm_i A0 6 7 o = 0) (hi8 : mm_i A0 6 8 o = 0)
    (hq1 : mm_t A0 q1 = 0) (H1 : mk 5 q1 (mm_nw A0 q1 6 0) [(3, 30), (2, 30)] N1) (hA1 : A1 = mm_sr (mm_si N1 5 0 q1 (nI pw)) 6 1 o q1)
    (hq2 : mm_t A1 q2 = 0) (hX2 : X2 = mm_sr (mm_si (mm_nw A1 q2 9 0) 8 0 q2 0) 8 1 q2 t0) (hA2 : A2 = mm_sr X2 6 2 o q2)
    (hq3 : mm_t A2 q3 = 0) (hX3 : X3 = mm_sr (mm_si (mm_nw A2 q3 9 0) 8 0 q3 0) 8 1 q3 t0) (hA3 : A3 = mm_sr X3 6 3 o q3)
    (hq4 : mm_t A3 q4 = 0) (H4 : mk 0 q4 (mm_nw A3 q4 1 0) [(3, pw)] N4) (hA4 : A4 = mm_sr N4 6 4 o q4)
    (hq5 : mm_t A4 q5 = 0) (H5 : mk 1 q5 (mm_nw A4 q5 2 0) [(3, pw), (2, pw)] N5) (hA5 : A5 = mm_sr N5 6 5 o q5)
    (hq6 : mm_t A5 q6 = 0) (H6 : mk 2 q6 (mm_nw A5 q6 3 0) [(3, pw), (2, pw)] N6) (hA6 : A6 = mm_sr N6 6 6 o q6) (h00 : mm_t A6 0 = 0) :
    ∃ (D : Nat → Prop) (ow sl : Nat → Nat), CI pw D ow sl A6 o [] [] (Z0 pw) ∧ sl 0 = t0 ∧ (∀ a, D a → mm_t A6 a ≠ 0) ∧ fb o A0 A6 := by
  have to0 : mm_t A0 o ≠ 0 := by rw [hT]; decide
  have FA1 : fa A0 (mm_si N1 5 0 q1 (nI pw)) := (fa_new hq1 H1.fb).si hq1
  have G1 : stg o 1 q1 A0 A1 := by rw [hA1]; exact stg_of FA1 to0
  have to1 : mm_t A1 o = 7 := (G1.t to0).trans hT
  have FA2 : fa A1 X2 := by rw [hX2]; exact ((fa_nw hq2).si hq2).sr hq2
  have G2 : stg o 2 q2 A1 A2 := by rw [hA2]; exact stg_of FA2 (by rw [to1]; decide)
  have to2 : mm_t A2 o = 7 := (G2.t (by rw [to1]; decide)).trans to1
  have FA3 : fa A2 X3 := by rw [hX3]; exact ((fa_nw hq3).si hq3).sr hq3
  have G3 : stg o 3 q3 A2 A3 := by rw [hA3]; exact stg_of FA3 (by rw [to2]; decide)
  have to3 : mm_t A3 o = 7 := (G3.t (by rw [to2]; decide)).trans to2
  have FA4 : fa A3 N4 := fa_new hq4 H4.fb
  have G4 : stg o 4 q4 A3 A4 := by rw [hA4]; exact stg_of FA4 (by rw [to3]; decide)
  have to4 : mm_t A4 o = 7 := (G4.t (by rw [to3]; decide)).trans to3
  have FA5 : fa A4 N5 := fa_new hq5 H5.fb
  have G5 : stg o 5 q5 A4 A5 := by rw [hA5]; exact stg_of FA5 (by rw [to4]; decide)
  have to5 : mm_t A5 o = 7 := (G5.t (by rw [to4]; decide)).trans to4
  have FA6 : fa A5 N6 := fa_new hq6 H6.fb
  have G6 : stg o 6 q6 A5 A6 := by rw [hA6]; exact stg_of FA6 (by rw [to5]; decide)
  have to6 : mm_t A6 o = 7 := (G6.t (by rw [to5]; decide)).trans to5
  have F56 : fb o A5 A6 := G6.1
  have F46 := G5.1.trans F56
  have F36 := G4.1.trans F46
  have F26 := G3.1.trans F36
  have F16 := G2.1.trans F26
  have F06 := G1.1.trans F16
  have nz0 : ∀ {A : mm}, fb o A A6 → mm_t A 0 = 0 := fun F => Classical.byContradiction (fun z => z (by rw [← (F 0 z).1]; exact h00))
  have no1 : o ≠ q1 := fun z => by rw [← z, hT] at hq1; exact absurd hq1 (by decide)
  have no2 : o ≠ q2 := fun z => by rw [← z, to1] at hq2; exact absurd hq2 (by decide)
  have no3 : o ≠ q3 := fun z => by rw [← z, to2] at hq3; exact absurd hq3 (by decide)
  have no4 : o ≠ q4 := fun z => by rw [← z, to3] at hq4; exact absurd hq4 (by decide)
  have no5 : o ≠ q5 := fun z => by rw [← z, to4] at hq5; exact absurd hq5 (by decide)
  have no6 : o ≠ q6 := fun z => by rw [← z, to5] at hq6; exact absurd hq6 (by decide)
  -- tags
  have tn1 : mm_t (mm_nw A0 q1 6 0) q1 = 6 := if_pos rfl
  have tN1 : mm_t N1 q1 = 6 := by rw [(H1.1 q1 (by rw [tn1]; decide)).1]; exact tn1
  have t11 : mm_t A1 q1 = 6 := by rw [hA1]; exact tN1
  have t22 : mm_t A2 q2 = 9 := by rw [hA2, hX2]; exact if_pos rfl
  have t33 : mm_t A3 q3 = 9 := by rw [hA3, hX3]; exact if_pos rfl
  have tn4 : mm_t (mm_nw A3 q4 1 0) q4 = 1 := if_pos rfl
  have t44 : mm_t A4 q4 = 1 := by rw [hA4]; show mm_t N4 q4 = 1; rw [(H4.1 q4 (by rw [tn4]; decide)).1]; exact tn4
  have tn5 : mm_t (mm_nw A4 q5 2 0) q5 = 2 := if_pos rfl
  have t55 : mm_t A5 q5 = 2 := by rw [hA5]; show mm_t N5 q5 = 2; rw [(H5.1 q5 (by rw [tn5]; decide)).1]; exact tn5
  have tn6 : mm_t (mm_nw A5 q6 3 0) q6 = 3 := if_pos rfl
  have tN6 : mm_t N6 q6 = 3 := by rw [(H6.1 q6 (by rw [tn6]; decide)).1]; exact tn6
  have t66 : mm_t A6 q6 = 3 := by rw [hA6]; exact tN6
  have t61 : mm_t A6 q1 = 6 := by rw [(F16 q1 (by rw [t11]; decide)).1]; exact t11
  have t62 : mm_t A6 q2 = 9 := by rw [(F26 q2 (by rw [t22]; decide)).1]; exact t22
  have t63 : mm_t A6 q3 = 9 := by rw [(F36 q3 (by rw [t33]; decide)).1]; exact t33
  have t64 : mm_t A6 q4 = 1 := by rw [(F46 q4 (by rw [t44]; decide)).1]; exact t44
  have t65 : mm_t A6 q5 = 2 := by rw [(F56 q5 (by rw [t55]; decide)).1]; exact t55
  have t32 : mm_t A3 q2 = 9 := by rw [(G3.1 q2 (by rw [t22]; decide)).1]; exact t22
  have n23 : q2 ≠ q3 := fun z => by rw [← z, t22] at hq3; exact absurd hq3 (by decide)
  -- the fields of o
  have r1 : mm_r A6 6 1 o = q1 + 1 := by rw [G6.2.2 1 (by decide), G5.2.2 1 (by decide), G4.2.2 1 (by decide), G3.2.2 1 (by decide), G2.2.2 1 (by decide)]; exact G1.2.1
  have r2 : mm_r A6 6 2 o = q2 + 1 := by rw [G6.2.2 2 (by decide), G5.2.2 2 (by decide), G4.2.2 2 (by decide), G3.2.2 2 (by decide)]; exact G2.2.1
  have r3 : mm_r A6 6 3 o = q3 + 1 := by rw [G6.2.2 3 (by decide), G5.2.2 3 (by decide), G4.2.2 3 (by decide)]; exact G3.2.1
  have r4 : mm_r A6 6 4 o = q4 + 1 := by rw [G6.2.2 4 (by decide), G5.2.2 4 (by decide)]; exact G4.2.1
  have r5 : mm_r A6 6 5 o = q5 + 1 := by rw [G6.2.2 5 (by decide)]; exact G5.2.1
  have r6 : mm_r A6 6 6 o = q6 + 1 := G6.2.1
  have f1 : mm_f A6 6 1 o = q1 := by unfold mm_f; rw [r1]; rfl
  have f2 : mm_f A6 6 2 o = q2 := by unfold mm_f; rw [r2]; rfl
  have f3 : mm_f A6 6 3 o = q3 := by unfold mm_f; rw [r3]; rfl
  have f4 : mm_f A6 6 4 o = q4 := by unfold mm_f; rw [r4]; rfl
  have f5 : mm_f A6 6 5 o = q5 := by unfold mm_f; rw [r5]; rfl
  have f6 : mm_f A6 6 6 o = q6 := by unfold mm_f; rw [r6]; rfl
  -- the shape grows
  have S0 : sh pw (fun _ => False) (fun _ => 0) (fun _ => t0) (mm_nw A0 q1 6 0) := fun a c k hD => hD.elim
  obtain ⟨ow1, sl1, S1, e1⟩ := H1.shp S0 (fun a ha => ha.elim) tn1 (fun z => z) (fun k hk => by
    rcases aL5 hk with e | e
    · subst e; show (2, 30) ∈ _; simp
    · subst e; show (3, 30) ∈ _; simp) (fun k => rT_5)
  have D1 : ∀ a, (False ∨ a = q1) → a = q1 := fun a h => h.elim (fun z => z.elim) id
  have S1b : sh pw (fun x => False ∨ x = q1) ow1 sl1 (mm_si N1 5 0 q1 (nI pw)) := (fr_si (M := N1) (c := 5) (k := 0) (a := q1) (v := nI pw)).sh (fun _ _ _ z => z.elim) S1
  have S1c : sh pw (fun x => False ∨ x = q1) ow1 sl1 A1 := by
    rw [hA1]
    exact S1b.fb (fun a ha => by rw [D1 a ha]; show mm_t N1 q1 ≠ 0; rw [tN1]; decide) fb_sr (fun z => no1 (D1 _ z))
  have hD1 : ∀ a, (False ∨ a = q1) → mm_t A1 a ≠ 0 := fun a ha => by rw [D1 a ha, t11]; decide
  have S2a := S1c.f8 hD1 FA2.f8
  have hDX2 : ∀ a, (False ∨ a = q1) → mm_t X2 a ≠ 0 := fun a ha => by rw [(FA2 a (hD1 a ha)).1]; exact hD1 a ha
  have S2b : sh pw (fun x => False ∨ x = q1) ow1 sl1 A2 := by
    rw [hA2]
    exact S2a.fb hDX2 fb_sr (fun z => no1 (D1 _ z))
  obtain ⟨ow2, sl2, S2, e2⟩ := sh_list S2b t22
  have hD2 : ∀ a, ((False ∨ a = q1) ∨ a = q2) → mm_t A2 a ≠ 0 := fun a ha => by
    rcases ha with ha | ha
    · rw [(G2.1 a (hD1 a ha)).1]; exact hD1 a ha
    · rw [ha, t22]; decide
  have nD2 : ¬ ((False ∨ o = q1) ∨ o = q2) := fun z => z.elim (fun y => no1 (D1 _ y)) no2
  have S3a := S2.f8 hD2 FA3.f8
  have hDX3 : ∀ a, ((False ∨ a = q1) ∨ a = q2) → mm_t X3 a ≠ 0 := fun a ha => by rw [(FA3 a (hD2 a ha)).1]; exact hD2 a ha
  have S3b : sh pw (fun x => (False ∨ x = q1) ∨ x = q2) ow2 sl2 A3 := by
    rw [hA3]
    exact S3a.fb hDX3 fb_sr nD2
  obtain ⟨ow3, sl3, S3, e3⟩ := sh_list S3b t33
  have hD3 : ∀ a, (((False ∨ a = q1) ∨ a = q2) ∨ a = q3) → mm_t A3 a ≠ 0 := fun a ha => by
    rcases ha with ha | ha
    · rw [(G3.1 a (hD2 a ha)).1]; exact hD2 a ha
    · rw [ha, t33]; decide
  have nD3 : ¬ (((False ∨ o = q1) ∨ o = q2) ∨ o = q3) := fun z => z.elim nD2 no3
  have S4a := S3.f8 hD3 (fa_nw (t := 1) (n := 0) hq4).f8
  have hD4a : ∀ a, (((False ∨ a = q1) ∨ a = q2) ∨ a = q3) → mm_t (mm_nw A3 q4 1 0) a ≠ 0 := fun a ha => by rw [(fa_nw hq4 a (hD3 a ha)).1]; exact hD3 a ha
  obtain ⟨ow4, sl4, S4b, e4⟩ := H4.shp S4a hD4a tn4 (fun z => hD3 q4 z hq4) (fun k hk => by
    have e := aL0 hk
    subst e; show (3, pw) ∈ _; simp) (fun k => rT_0)
  have hD4N : ∀ a, ((((False ∨ a = q1) ∨ a = q2) ∨ a = q3) ∨ a = q4) → mm_t N4 a ≠ 0 := fun a ha => by
    rcases ha with ha | ha
    · rw [(FA4 a (hD3 a ha)).1]; exact hD3 a ha
    · rw [ha, (H4.1 q4 (by rw [tn4]; decide)).1, tn4]; decide
  have nD4 : ¬ ((((False ∨ o = q1) ∨ o = q2) ∨ o = q3) ∨ o = q4) := fun z => z.elim nD3 no4
  have S4 : sh pw (fun x => (((False ∨ x = q1) ∨ x = q2) ∨ x = q3) ∨ x = q4) ow4 sl4 A4 := by
    rw [hA4]
    exact S4b.fb hD4N fb_sr nD4
  have hD4 : ∀ a, ((((False ∨ a = q1) ∨ a = q2) ∨ a = q3) ∨ a = q4) → mm_t A4 a ≠ 0 := fun a ha => by rw [hA4]; exact hD4N a ha
  have S5a := S4.f8 hD4 (fa_nw (t := 2) (n := 0) hq5).f8
  have hD5a : ∀ a, ((((False ∨ a = q1) ∨ a = q2) ∨ a = q3) ∨ a = q4) → mm_t (mm_nw A4 q5 2 0) a ≠ 0 := fun a ha => by rw [(fa_nw hq5 a (hD4 a ha)).1]; exact hD4 a ha
  obtain ⟨ow5, sl5, S5b, e5⟩ := H5.shp S5a hD5a tn5 (fun z => hD4 q5 z hq5) (fun k hk => by
    rcases aL1 hk with e | e
    · subst e; show (2, pw) ∈ _; simp
    · subst e; show (3, pw) ∈ _; simp) (fun k => rT_1)
  have hD5N : ∀ a, (((((False ∨ a = q1) ∨ a = q2) ∨ a = q3) ∨ a = q4) ∨ a = q5) → mm_t N5 a ≠ 0 := fun a ha => by
    rcases ha with ha | ha
    · rw [(FA5 a (hD4 a ha)).1]; exact hD4 a ha
    · rw [ha, (H5.1 q5 (by rw [tn5]; decide)).1, tn5]; decide
  have nD5 : ¬ (((((False ∨ o = q1) ∨ o = q2) ∨ o = q3) ∨ o = q4) ∨ o = q5) := fun z => z.elim nD4 no5
  have S5 : sh pw (fun x => ((((False ∨ x = q1) ∨ x = q2) ∨ x = q3) ∨ x = q4) ∨ x = q5) ow5 sl5 A5 := by
    rw [hA5]
    exact S5b.fb hD5N fb_sr nD5
  have hD5 : ∀ a, (((((False ∨ a = q1) ∨ a = q2) ∨ a = q3) ∨ a = q4) ∨ a = q5) → mm_t A5 a ≠ 0 := fun a ha => by rw [hA5]; exact hD5N a ha
  have S6a := S5.f8 hD5 (fa_nw (t := 3) (n := 0) hq6).f8
  have hD6a : ∀ a, (((((False ∨ a = q1) ∨ a = q2) ∨ a = q3) ∨ a = q4) ∨ a = q5) → mm_t (mm_nw A5 q6 3 0) a ≠ 0 := fun a ha => by rw [(fa_nw hq6 a (hD5 a ha)).1]; exact hD5 a ha
  obtain ⟨ow6, sl6, S6b, e6⟩ := H6.shp S6a hD6a tn6 (fun z => hD5 q6 z hq6) (fun k hk => by
    rcases aL2 hk with e | e
    · subst e; show (2, pw) ∈ _; simp
    · subst e; show (3, pw) ∈ _; simp) (fun k => rT_2)
  have hD6N : ∀ a, ((((((False ∨ a = q1) ∨ a = q2) ∨ a = q3) ∨ a = q4) ∨ a = q5) ∨ a = q6) → mm_t N6 a ≠ 0 := fun a ha => by
    rcases ha with ha | ha
    · rw [(FA6 a (hD5 a ha)).1]; exact hD5 a ha
    · rw [ha, tN6]; decide
  have nD6 : ¬ ((((((False ∨ o = q1) ∨ o = q2) ∨ o = q3) ∨ o = q4) ∨ o = q5) ∨ o = q6) := fun z => z.elim nD5 no6
  have S6 : sh pw (fun x => (((((False ∨ x = q1) ∨ x = q2) ∨ x = q3) ∨ x = q4) ∨ x = q5) ∨ x = q6) ow6 sl6 A6 := by
    rw [hA6]
    exact S6b.fb hD6N fb_sr nD6
  have hD6 : ∀ a, ((((((False ∨ a = q1) ∨ a = q2) ∨ a = q3) ∨ a = q4) ∨ a = q5) ∨ a = q6) → mm_t A6 a ≠ 0 := fun a ha => by rw [hA6]; exact hD6N a ha
  obtain ⟨ow7, sl7, S7, e7⟩ := sh_one (c := 6) S6 to6 (fun k hk => absurd aL6 hk) (fun k k2 hk => absurd aL6 hk) (fun k hk => absurd aL6 hk) (fun k hk => by
    rcases rT6 hk with e | e | e | e | e | e
    · subst e; rw [r1, f1]; exact ⟨by omega, t61, Or.inl (Or.inl (Or.inl (Or.inl (Or.inl (Or.inr rfl)))))⟩
    · subst e; rw [r2, f2]; exact ⟨by omega, t62, Or.inl (Or.inl (Or.inl (Or.inl (Or.inr rfl))))⟩
    · subst e; rw [r3, f3]; exact ⟨by omega, t63, Or.inl (Or.inl (Or.inl (Or.inr rfl)))⟩
    · subst e; rw [r4, f4]; exact ⟨by omega, t64, Or.inl (Or.inl (Or.inr rfl))⟩
    · subst e; rw [r5, f5]; exact ⟨by omega, t65, Or.inl (Or.inr rfl)⟩
    · subst e; rw [r6, f6]; exact ⟨by omega, t66, Or.inr rfl⟩)
  have z1 : mm_t N1 0 = 0 := Classical.byContradiction (fun z => by
    have h9 : mm_t A1 0 ≠ 0 := by rw [hA1]; exact z
    exact h9 (nz0 F16))
  have z2 : mm_t A2 0 = 0 := nz0 F26
  have z3 : mm_t A3 0 = 0 := nz0 F36
  have z4 : mm_t N4 0 = 0 := by have h9 := nz0 F46; rw [hA4] at h9; exact h9
  have z5 : mm_t N5 0 = 0 := by have h9 := nz0 F56; rw [hA5] at h9; exact h9
  have z6 : mm_t N6 0 = 0 := by rw [hA6] at h00; exact h00
  have hsl : sl7 0 = t0 := by
    rw [e7 0 (by rw [h00]; decide), e6 0 (by rw [z6]; decide), e5 0 (by rw [z5]; decide), e4 0 (by rw [z4]; decide), e3 0 (by rw [z3]; decide), e2 0 (by rw [z2]; decide), e1 0 (by rw [z1]; decide)]
  refine ⟨_, ow7, sl7, ⟨S7, ⟨Or.inr rfl, to6, hp, hp6⟩, ⟨fun a ha => by simp at ha, by simp, fun a ha => by simp at ha, fun a ha => by simp at ha⟩, ⟨rfl, fun i hi => by simp at hi⟩, ⟨?_, [], ?_⟩, ⟨?_, ?_, ?_⟩, ?_⟩, hsl, fun a ha => ?_, F06⟩
  · rw [f1]
    have b1 := F16 q1 (by rw [t11]; decide)
    have rr := b1.2.2.2.2.2.2 (fun z => no1 z.symm)
    have i50 : mm_i A1 5 0 q1 = nI pw := by rw [hA1]; exact if_pos ⟨rfl, rfl, rfl⟩
    have i51 : mm_i A1 5 1 q1 = 0 := by
      rw [hA1]
      show mm_i (mm_si N1 5 0 q1 (nI pw)) 5 1 q1 = 0
      rw [mi_si_k (by decide), (H1.1 q1 (by rw [tn1]; decide)).2.2.2.2.2.1 5 1]
      exact if_pos rfl
    have er : ∀ k, mm_r A1 5 k q1 = mm_r N1 5 k q1 := fun k => by
      rw [hA1, mr_sr, if_neg (fun z => absurd z.1 (by decide))]
      rfl
    have ea : ∀ k, (k, 30) ∈ [(3, 30), (2, 30)] → mm_a A6 (mm_f A6 5 k q1) = fun _ => 0 := by
      intro k hk
      obtain ⟨y1, y2, y3, y4, y5⟩ := H1.2.1 (k, 30) hk
      have ef : mm_f A6 5 k q1 = mm_f N1 5 k q1 := by unfold mm_f; rw [rr 5 k, er]
      rw [ef]
      have y3' : mm_t A1 (mm_f N1 5 k q1) = 100 := by rw [hA1]; exact y3
      rw [(F16 _ (by rw [y3']; decide)).2.2.2.1]
      rw [hA1]
      exact y5
    refine ⟨?_, ?_, fun w hw => ?_⟩
    · show mm_i A6 5 0 q1 = nI pw
      rw [b1.2.2.2.2.2.1 5 0]; exact i50
    · show mm_i A6 5 1 q1 = nI 0
      rw [b1.2.2.2.2.2.1 5 1]; exact i51
    · show mm_a A6 (mm_f A6 5 3 q1) w = nI 0 ∧ (0 < 0 → _)
      rw [ea 3 (by simp)]
      exact ⟨rfl, fun z => absurd z (by decide)⟩
  · rw [f6]
    have hi : ∀ k, mm_i A6 2 k q6 = 0 := fun k => by
      rw [hA6]
      show mm_i N6 2 k q6 = 0
      rw [(H6.1 q6 (by rw [tn6]; decide)).2.2.2.2.2.1 2 k]
      exact if_pos rfl
    exact ⟨by rw [hi]; rfl, by rw [hi]; rfl, hv_nil _ _ _⟩
  · rw [(F06 o to0).2.2.2.2.2.1 6 0]; exact hi0
  · rw [(F06 o to0).2.2.2.2.2.1 6 7]; exact hi7
  · rw [(F06 o to0).2.2.2.2.2.1 6 8]; exact hi8
  · have l2 : ALIs t0 A2 q2 [] := by
      rw [hA2, hX2]
      refine ⟨?_, ?_, Or.inl ⟨rfl, ?_⟩⟩
      · rw [mr_sr, if_neg (fun z => absurd z.1 (by decide)), mr_sr_s]; omega
      · show (if (8 : Nat) = 8 ∧ (2 : Nat) = 0 ∧ q2 = q2 then (0 : Int32) else if q2 = q2 then 0 else _) = nI 0
        rw [if_neg (fun z => absurd z.2.1 (by decide)), if_pos rfl]
        rfl
      · unfold mm_f
        rw [mr_sr, if_neg (fun z => absurd z.1 (by decide)), mr_sr_s]
        rfl
    have l3 : ALIs t0 A3 q3 [] := by
      rw [hA3, hX3]
      refine ⟨?_, ?_, Or.inl ⟨rfl, ?_⟩⟩
      · rw [mr_sr, if_neg (fun z => absurd z.1 (by decide)), mr_sr_s]; omega
      · show (if (8 : Nat) = 8 ∧ (2 : Nat) = 0 ∧ q3 = q3 then (0 : Int32) else if q3 = q3 then 0 else _) = nI 0
        rw [if_neg (fun z => absurd z.2.1 (by decide)), if_pos rfl]
        rfl
      · unfold mm_f
        rw [mr_sr, if_neg (fun z => absurd z.1 (by decide)), mr_sr_s]
        rfl
    have mv : ∀ {A : mm} {q : Nat}, fb o A A6 → mm_t A q ≠ 0 → q ≠ o → ALIs t0 A q [] → mm_f A 8 1 q = t0 → ALIs t0 A6 q [] ∧ mm_f A6 8 1 q = t0 := by
      intro A q F ht hne H e0
      have b := F q ht
      have er := b.2.2.2.2.2.2 hne 8 1
      have ef : mm_f A6 8 1 q = mm_f A 8 1 q := by unfold mm_f; rw [er]
      exact ⟨⟨by rw [er]; exact H.1, by rw [b.2.2.2.2.2.1 8 2]; exact H.2.1, Or.inl ⟨rfl, ef.trans e0⟩⟩, ef.trans e0⟩
    have k2 : mm_f A2 8 1 q2 = t0 := by
      rw [hA2, hX2]
      unfold mm_f
      rw [mr_sr, if_neg (fun z => absurd z.1 (by decide)), mr_sr_s]
      rfl
    have k3 : mm_f A3 8 1 q3 = t0 := by
      rw [hA3, hX3]
      unfold mm_f
      rw [mr_sr, if_neg (fun z => absurd z.1 (by decide)), mr_sr_s]
      rfl
    have m2 := mv F26 (by rw [t22]; decide) (fun z => no2 z.symm) l2 k2
    have m3 := mv F36 (by rw [t33]; decide) (fun z => no3 z.symm) l3 k3
    rw [hsl]
    unfold lst
    rw [f2, f3]
    exact ⟨m2.1, m3.1, n23, fun _ => m2.2, by simp⟩
  · rcases ha with ha | ha
    · exact hD6 a ha
    · rw [ha, to6]; decide
end M46
