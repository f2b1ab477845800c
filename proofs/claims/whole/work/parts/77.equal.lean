/-! ===== equal ===== -/
section M34
variable {g : gg} {X : State → Prop} {t0 : Nat} {l : Launch} {M : mm} {pw : Nat} {D : Nat → Prop} {ow sl : Nat → Nat} {o : Nat} {La Le : List Nat} {Z : zst}
theorem CI_cmp {M1 : mm} (C : CI pw D ow sl M o La Le Z) (F : fr (cmI (mm_f M 6 5 o)) (cmR (mm_f M 6 5 o)) (cmA M (mm_f M 6 5 o)) M M1) : CI pw D ow sl M1 o La Le Z ∧ kp pw D M M1 := by
  obtain ⟨⟨hDc, hTc⟩, ⟨hDs, hTs⟩, ⟨hDb, hTb⟩, hTa⟩ := CI_tags C
  obtain ⟨S, ⟨hDo, hTo, hp, hp6⟩, ⟨ha1, ha2, ha3, ha4⟩, ⟨hl, hP⟩, ⟨hpo, T0, hT0⟩, ⟨hw, hlt, hcn⟩, hL⟩ := C
  have hD5 : D (mm_f M 6 5 o) := S.od hDo hTo 5 (by decide)
  have hT5 : mm_t M (mm_f M 6 5 o) = 2 := S.ot hDo hTo 5 (by decide)
  have NA : ∀ {a1 c1 k2 : Nat}, D a1 → mm_t M a1 = c1 + 1 → aL pw c1 k2 ≠ 0 → c1 ≠ 1 → ¬ cmA M (mm_f M 6 5 o) (mm_f M c1 k2 a1) := by
    rintro a1 c1 k2 h1 h2 h3 h4 (z | z)
    · exact S.ap h1 h2 h3 hD5 hT5 (k2 := 2) hp (Or.inl (ne_tag h2 hT5 (by omega))) z
    · exact S.ap h1 h2 h3 hD5 hT5 (k2 := 3) hp (Or.inl (ne_tag h2 hT5 (by omega))) z
  have ff : ∀ c' k a, c' ≠ 1 → mm_f M1 c' k a = mm_f M c' k a := fun c' k a h => F.f (fun z => h z.1)
  have ii : ∀ c' k a, c' ≠ 1 → mm_i M1 c' k a = mm_i M c' k a := fun c' k a h => F.2.2.2.2.1 _ _ _ (fun z => h z.1)
  refine ⟨⟨sh.cm F S, ⟨hDo, by rw [F.1]; exact hTo, hp, hp6⟩, ⟨fun a ha => by rw [F.1]; exact ha1 a ha, ha2, fun a ha => by rw [ff 3 2 _ (by decide), ff 6 6 _ (by decide)]; exact ha3 a ha, fun a ha a2 h2 hne => by rw [ff 3 2 _ (by decide), ff 3 2 _ (by decide), ff 3 4 _ (by decide), ff 3 4 _ (by decide)]; exact ha4 a ha a2 h2 hne⟩, ⟨hl, fun j hj => ?_⟩, ⟨?_, T0, ?_⟩, ⟨by rw [ii _ _ _ (by decide)]; exact hw, by rw [ii _ _ _ (by decide)]; exact hlt, by rw [ii _ _ _ (by decide)]; exact hcn⟩, lst.fr F hL (fun a z => absurd z.1 (by decide)) (fun a z => absurd z.1 (by decide)) (fun z => absurd z.1 (by decide)) (fun z => absurd z.1 (by decide))⟩, kp_fr S F (fun k a z => absurd z.1 (by decide)) (fun k a z => absurd z.1 (by decide)) (fun a ha => by
    rcases ha with z | z
    · exact ⟨_, 1, 2, hD5, hT5, hp, by decide, z⟩
    · exact ⟨_, 1, 3, hD5, hT5, hp, by decide, z⟩)⟩
  · obtain ⟨⟨hD2, hT2⟩, ⟨hDf2, hTf2⟩, ⟨hDm2, hTm2⟩⟩ := hTa _ (List.mem_append_left Le (getD_memN hj))
    exact PrIs.fr F (hP j hj) (fun z => absurd z.1 (by decide)) (fun z => absurd z.1 (by decide)) (fun z => absurd z.1 (by decide)) (fun z => absurd z.1 (by decide)) (fun z => absurd z.1 (by decide)) (fun z => absurd z.1 (by decide)) (fun z => absurd z.1 (by decide)) (fun z => absurd z.1 (by decide)) (fun z => absurd z.1 (by decide)) (NA hDf2 hTf2 hp (by decide)) (NA hDf2 hTf2 hp (by decide)) (NA (c1 := 3) (k2 := 3) hD2 hT2 (show (4 : Nat) ≠ 0 by decide) (by decide)) (fun z => absurd z.1 (by decide)) (fun z => absurd z.1 (by decide)) (fun z => absurd z.1 (by decide)) (NA (c1 := 4) (k2 := 2) hDm2 hTm2 (show (512 : Nat) ≠ 0 by decide) (by decide))
  · rw [ff 6 1 _ (by decide)]
    unfold PoolIs pget
    rw [ff 5 2 _ (by decide), ff 5 3 _ (by decide), ii _ _ _ (by decide), ii _ _ _ (by decide), F.2.2.2.2.2.2 _ (NA (c1 := 5) (k2 := 2) hDb hTb (show (30 : Nat) ≠ 0 by decide) (by decide)), F.2.2.2.2.2.2 _ (NA (c1 := 5) (k2 := 3) hDb hTb (show (30 : Nat) ≠ 0 by decide) (by decide))]
    exact hpo
  · rw [ff 6 6 _ (by decide)]
    exact HeapIs.fr F hT0 (fun z => absurd z.1 (by decide)) (fun z => absurd z.1 (by decide)) (fun z => absurd z.1 (by decide)) (fun z => absurd z.1 (by decide)) (NA hDs hTs hp (by decide)) (NA hDs hTs hp (by decide))
end M34
