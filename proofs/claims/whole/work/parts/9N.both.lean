/-! ===== the class and the reference side by side ===== -/
section M70
variable {g : gg} {X : State → Prop} {t0 : Nat} {l : Launch} {M : mm} {M1 M2 : mm} {pw : Nat} {D D1 : Nat → Prop} {ow sl ow1 sl1 : Nat → Nat} {o mo : Nat} {La Le : List Nat} {pl : List Nat} {Z : zst}
/-- as kp, but long arrays may have changed -/
def kq (pw : Nat) (D : Nat → Prop) (M M' : mm) : Prop := (∀ a, mm_t M a ≠ 0 → mm_t M' a = mm_t M a ∧ mm_n M' a = mm_n M a) ∧ ∀ m, D m → mm_t M m = 8 → (∀ k, mm_i M' 7 k m = mm_i M 7 k m) ∧ (∀ k, mm_r M' 7 k m = mm_r M 7 k m) ∧ ∀ k, aL pw 7 k ≠ 0 → mm_a M' (mm_f M 7 k m) = mm_a M (mm_f M 7 k m)
theorem kp.q (h : kp pw D M M1) : kq pw D M M1 := ⟨fun a ha => ⟨(h.1 a ha).1, (h.1 a ha).2.1⟩, h.2⟩
theorem kq.rf : kq pw D M M := ⟨fun _ _ => ⟨rfl, rfl⟩, fun _ _ _ => ⟨fun _ => rfl, fun _ => rfl, fun _ _ => rfl⟩⟩
theorem kq.lo {a : Nat} {f : Nat → Int64} (h : kq pw D M M1) : kq pw D M (mm_sl M1 a f) := h
theorem CI.lo {a : Nat} {f : Nat → Int64} (C : CI pw D ow sl M o La Le Z) : CI pw D ow sl (mm_sl M a f) o La Le Z := C
theorem aL7 {k : Nat} (h : k ∈ RA) : aL pw 7 k ≠ 0 := by
  simp only [RA, List.mem_cons, List.not_mem_nil, or_false] at h
  rcases h with rfl | rfl | rfl | rfl | rfl | rfl | rfl | rfl | rfl | rfl | rfl | rfl | rfl | rfl | rfl | rfl <;> exact Nat.succ_ne_zero _
theorem MI_kq (h : MI pw D ow sl M mo pl Z) (K : kq pw D M M1) (S1 : sh pw D1 ow1 sl1 M1) (hs : ∀ a, D a → D1 a) : MI pw D1 ow1 sl1 M1 mo pl Z := by
  obtain ⟨⟨S, hD, hT⟩, ⟨i1, i2, i3, i4⟩, hl, hA, hE, q1, q2⟩ := h
  obtain ⟨k1, k2, k3⟩ := K.2 mo hD hT
  have ei : ∀ k, ri M1 mo k = ri M mo k := k1
  have e : ∀ k, k ∈ RA → ra M1 mo k = ra M mo k := fun k hk => by
    unfold ra
    rw [show mm_f M1 7 k mo = mm_f M 7 k mo by unfold mm_f; rw [k2 k]]
    exact k3 k (aL7 hk)
  refine ⟨⟨S1, hs _ hD, (K.1 mo (by rw [hT]; decide)).1.trans hT⟩, ⟨?_, ?_, ?_, ?_⟩, hl, fun i hi => ?_, fun p hp hn => ?_, ?_, fun w hw => ?_⟩
  · rw [ei]; exact i1
  · rw [ei]; exact i2
  · rw [ei]; exact i3
  · rw [ei]; exact i4
  · have h9 := hA i hi
    unfold RP at h9 ⊢
    rw [e 5 (by decide), e 6 (by decide), e 7 (by decide), e 8 (by decide), e 9 (by decide), e 10 (by decide), e 11 (by decide), e 12 (by decide)]
    exact h9
  · rw [e 5 (by decide)]; exact hE p hp hn
  · rw [ei]; exact q1
  · rw [e 14 (by decide), e 15 (by decide)]; exact q2 w hw
/-- the reference's steps leave the class's object as it is -/
theorem CI_rx (C : CI pw D ow sl M o La Le Z) (hD9 : D mo) (hT9 : mm_t M mo = 8) (F : rx RI9 RA mo M M1) : CI pw D ow sl M1 o La Le Z := by
  obtain ⟨⟨hDc, hTc⟩, ⟨hDs, hTs⟩, ⟨hDb, hTb⟩, hTa⟩ := CI_tags C
  obtain ⟨S, ⟨hDo, hTo, hp, hp6⟩, ⟨ha1, ha2, ha3, ha4⟩, ⟨hl, hP⟩, ⟨hpo, T0, hT0⟩, ⟨hw, hlt, hcn⟩, hL⟩ := C
  have NI : ∀ {c' k a : Nat}, c' ≠ 7 → ¬ (c' = 7 ∧ k ∈ RI9 ∧ a = mo) := fun h z => h z.1
  have NA : ∀ {a1 c1 k1 : Nat}, D a1 → mm_t M a1 = c1 + 1 → aL pw c1 k1 ≠ 0 → c1 ≠ 7 → ¬ ∃ k ∈ RA, mm_f M c1 k1 a1 = mm_f M 7 k mo := by
    rintro a1 c1 k1 h1 h2 h3 h4 ⟨k, hk, e⟩
    exact S.ap h1 h2 h3 hD9 hT9 (aL7 hk) (Or.inl (fun z => by rw [z, hT9] at h2; omega)) e
  have e6 : ∀ k, mm_f M1 6 k o = mm_f M 6 k o := fun k => F.f
  have e3 : ∀ k a, mm_f M1 3 k a = mm_f M 3 k a := fun k a => F.f
  have e5 : ∀ k a, mm_f M1 5 k a = mm_f M 5 k a := fun k a => F.f
  have i6 : ∀ k, mm_i M1 6 k o = mm_i M 6 k o := fun k => F.2.2.2.2.1 _ _ _ (NI (by decide))
  refine ⟨F.sh (fun _ _ _ z => z.elim) S, ⟨hDo, by rw [F.1]; exact hTo, hp, hp6⟩, ⟨fun a ha => by rw [F.1]; exact ha1 a ha, ha2, fun a ha => by rw [e3, e6]; exact ha3 a ha, fun a ha a2 h2 hne => by rw [e3, e3, e3, e3]; exact ha4 a ha a2 h2 hne⟩, ⟨hl, fun j hj => ?_⟩, ⟨?_, T0, ?_⟩, ⟨by rw [i6]; exact hw, by rw [i6]; exact hlt, by rw [i6]; exact hcn⟩, lst.fr F hL (fun a => NI (by decide)) (fun a z => z) (fun z => z) (fun z => z)⟩
  · have hm2 : La.getD j 0 ∈ La ++ Le := List.mem_append_left _ (getD_memN hj)
    obtain ⟨⟨hD2, hT2⟩, ⟨hDf2, hTf2⟩, ⟨hDm2, hTm2⟩⟩ := hTa _ hm2
    exact PrIs.fr F (hP j hj) (NI (by decide)) (NI (by decide)) (fun z => z) (fun z => z) (fun z => z) (NI (by decide)) (NI (by decide)) (fun z => z) (fun z => z) (NA (k1 := 2) hDf2 hTf2 hp (by decide)) (NA (k1 := 3) hDf2 hTf2 hp (by decide)) (NA (k1 := 3) hD2 hT2 (show (4 : Nat) ≠ 0 by decide) (by decide)) (NI (by decide)) (NI (by decide)) (fun z => z) (NA (k1 := 2) hDm2 hTm2 (show (512 : Nat) ≠ 0 by decide) (by decide))
  · rw [e6]
    unfold PoolIs pget
    rw [e5, e5, F.2.2.2.2.1 5 0 _ (NI (by decide)), F.2.2.2.2.1 5 1 _ (NI (by decide)), F.2.2.2.2.2.2 _ (NA (c1 := 5) (k1 := 2) hDb hTb (show (30 : Nat) ≠ 0 by decide) (by decide)), F.2.2.2.2.2.2 _ (NA (c1 := 5) (k1 := 3) hDb hTb (show (30 : Nat) ≠ 0 by decide) (by decide))]
    exact hpo
  · rw [e6]
    exact HeapIs.fr F hT0 (NI (by decide)) (NI (by decide)) (fun z => z) (fun z => z) (NA (k1 := 2) hDs hTs hp (by decide)) (NA (k1 := 3) hDs hTs hp (by decide))
/-- what holds of the state after n calls -/
def zi (pw n : Nat) (Z : zst) : Prop := zok pw Z ∧ z8 Z ∧ (∀ P ∈ Z.1, P.2.2.2.1.length ≤ n) ∧ Z.2.2.1 ≤ n
/-- the class's object in the state Z -/
def CE (pw t0 : Nat) (D : Nat → Prop) (M : mm) (o : Nat) (Z : zst) : Prop := ∃ (D1 : Nat → Prop) (ow1 sl1 : Nat → Nat) (La Le : List Nat), (∀ a, D a → D1 a) ∧ (∀ a, D1 a → mm_t M a ≠ 0) ∧ sl1 0 = t0 ∧ CI pw D1 ow1 sl1 M o La Le Z
/-- both of them in one state; where the answers go -/
def LI (pw t0 n : Nat) (M : mm) (o mo out : Nat) : Prop := ∃ (D : Nat → Prop) (ow sl : Nat → Nat) (La Le pl : List Nat) (Z : zst), CI pw D ow sl M o La Le Z ∧ MI pw D ow sl M mo pl Z ∧ zi pw n Z ∧ sl 0 = t0 ∧ (∀ a, D a → mm_t M a ≠ 0) ∧ mm_t M out = 101 ∧ mm_n M out = 1
end M70
