/-! ===== mailboxes as lists; a reference to an object is set ===== -/
section M11
variable {g : gg} {X : State → Prop} {t0 : Nat} {l : Launch} {M : mm} {pw : Nat} {D : Nat → Prop} {ow sl : Nat → Nat} {b f : Nat} {ms : List Int32}
def MailIs (M : mm) (b : Nat) (ms : List Int32) : Prop := ∃ f : Nat, f < 512 ∧ mm_i M 4 0 b = nI ms.length ∧ mm_i M 4 1 b = nI f ∧ ms.length ≤ 512 ∧ ∀ i, i < ms.length → mm_a M (mm_f M 4 2 b) ((f + i) % 512) = ms.getD i 0
theorem rg_is (hf : mm_i M 4 1 b = nI f) {i : Nat} (h : f + i < 2 ^ 31) : rg M b (nI i) = nI ((f + i) % 512) := by
  unfold rg
  rw [hf, nI_add]
  exact pk_rem h (by decide) (by decide)
theorem MailIs.fr {I Rr : Nat → Nat → Nat → Prop} {Aa : Nat → Prop} {M1 : mm} (F : fr I Rr Aa M M1) (H : MailIs M b ms) (i0 : ¬ I 4 0 b) (i1 : ¬ I 4 1 b) (r2 : ¬ Rr 4 2 b) (a2 : ¬ Aa (mm_f M 4 2 b)) : MailIs M1 b ms := by
  obtain ⟨f, h1, h2, h3, h4, h5⟩ := H
  refine ⟨f, h1, ?_, ?_, h4, fun i hi => ?_⟩
  · rw [F.2.2.2.2.1 _ _ _ i0]; exact h2
  · rw [F.2.2.2.2.1 _ _ _ i1]; exact h3
  · rw [F.f r2, F.2.2.2.2.2.2 _ a2]; exact h5 i hi
theorem K_mget (G : gc g X t0 l) (S : sh pw D ow sl M) (hD : D b) (hT : mm_t M b = 5) (H : MailIs M b ms) {i : Nat} (hi : i < ms.length) : Ok g X l yy_Ma_get cc_Ma_get 2 (some .int) 1 21 0 0 [.ref b, .int (nI i)] M (fun v M' => v = some (.int (ms.getD i 0)) ∧ M' = M) := by
  obtain ⟨f, h1, h2, h3, h4, h5⟩ := H
  have n2 : mm_n M (mm_f M 4 2 b) = 512 := S.n hD hT 2 (show (512 : Nat) ≠ 0 by decide)
  have e := rg_is h3 (i := i) (by omega)
  refine (k_mget G S hD hT (by rw [e]; exact in_n (Nat.mod_lt _ (by decide)) n2 (by decide))).mono ?_
  rintro v M' ⟨rfl, rfl⟩
  rw [e, nI_clamp (by omega), h5 i hi]
  exact ⟨rfl, rfl⟩
theorem K_mset (G : gc g X t0 l) (S : sh pw D ow sl M) (hD : D b) (hT : mm_t M b = 5) (H : MailIs M b ms) {i : Nat} (hi : i < ms.length) {t : Int32} : Ok g X l yy_Ma_set cc_Ma_set 3 none 1 21 0 0 [.ref b, .int (nI i), .int t] M (fun v M' => v = none ∧ fr (fun _ _ _ => False) (fun _ _ _ => False) (fun a => a = mm_f M 4 2 b) M M' ∧ MailIs M' b (ms.set i t)) := by
  obtain ⟨f, h1, h2, h3, h4, h5⟩ := H
  have n2 : mm_n M (mm_f M 4 2 b) = 512 := S.n hD hT 2 (show (512 : Nat) ≠ 0 by decide)
  have e := rg_is h3 (i := i) (by omega)
  refine (k_mset G S hD hT (by rw [e]; exact in_n (Nat.mod_lt _ (by decide)) n2 (by decide))).mono ?_
  rintro v M' ⟨rfl, rfl⟩
  rw [e, nI_clamp (by omega)]
  refine ⟨rfl, ⟨rfl, rfl, rfl, rfl, fun _ _ _ _ => rfl, fun _ _ _ _ => rfl, fun a z => ma_sa_n z⟩, f, h1, ?_, ?_, ?_, fun j hj => ?_⟩
  · rw [mi_sa, List.length_set]; exact h2
  · rw [mi_sa]; exact h3
  · rw [List.length_set]; exact h4
  · rw [List.length_set] at hj
    rw [mf_sa, ma_sa_s]
    unfold upd
    by_cases ej : j = i
    · subst ej
      rw [if_pos rfl]
      simp [hj]
    · rw [if_neg (by omega), h5 j hj]
      simp only [List.getD_eq_getElem?_getD]
      rw [List.getElem?_set_ne (fun z => ej z.symm)]
theorem K_addLast (G : gc g X t0 l) (S : sh pw D ow sl M) (hD : D b) (hT : mm_t M b = 5) (H : MailIs M b ms) (hm : ms.length < 512) {t : Int32} : Ok g X l yy_Ma_addLast cc_Ma_addLast 2 none 2 43 0 0 [.ref b, .int t] M (fun v M' => v = none ∧ fr (fun c' k a => c' = 4 ∧ k < 2 ∧ a = b) (fun _ _ _ => False) (fun a => a = mm_f M 4 2 b) M M' ∧ MailIs M' b (ms ++ [t])) := by
  obtain ⟨f, h1, h2, h3, h4, h5⟩ := H
  have n2 : mm_n M (mm_f M 4 2 b) = 512 := S.n hD hT 2 (show (512 : Nat) ≠ 0 by decide)
  have e0 : mm_i M 4 0 b + 1 - 1 = nI ms.length := by rw [h2, nI_1, nI_pred]
  have e := rg_is h3 (i := ms.length) (by omega)
  refine (k_addLast G S hD hT (by rw [e0, e]; exact in_n (Nat.mod_lt _ (by decide)) n2 (by decide))).mono ?_
  rintro v M' ⟨rfl, rfl⟩
  unfold madd
  rw [e0, e, nI_clamp (by omega), h2, nI_1]
  refine ⟨rfl, ⟨rfl, rfl, rfl, rfl, fun c' k a z => ?_, fun _ _ _ _ => rfl, fun a z => ?_⟩, f, h1, ?_, ?_, ?_, fun j hj => ?_⟩
  · rw [mi_sa, mi_si, if_neg (fun y => z ⟨y.1, by omega, y.2.2⟩)]
  · rw [ma_sa_n z, ma_si]
  · rw [mi_sa, mi_si_s]; simp
  · rw [mi_sa, mi_si_k (by decide)]; exact h3
  · simp; omega
  · simp only [List.length_append, List.length_cons, List.length_nil] at hj
    rw [mf_sa, mf_si, ma_sa_s]
    unfold upd
    by_cases ej : j = ms.length
    · subst ej
      rw [if_pos rfl]
      simp
    · rw [if_neg (by omega), h5 j (by omega)]
      simp only [List.getD_eq_getElem?_getD]
      rw [List.getElem?_append_left (by omega)]
theorem K_takeFirst (G : gc g X t0 l) (S : sh pw D ow sl M) (hD : D b) (hT : mm_t M b = 5) {t : Int32} (H : MailIs M b (t :: ms)) : Ok g X l yy_Ma_takeFirst cc_Ma_takeFirst 2 (some .int) 2 42 0 0 [.ref b] M (fun v M' => v = some (.int t) ∧ fr (fun c' k a => c' = 4 ∧ k < 2 ∧ a = b) (fun _ _ _ => False) (fun _ => False) M M' ∧ MailIs M' b ms) := by
  obtain ⟨f, h1, h2, h3, h4, h5⟩ := H
  have n2 : mm_n M (mm_f M 4 2 b) = 512 := S.n hD hT 2 (show (512 : Nat) ≠ 0 by decide)
  have e := rg_is h3 (i := 0) (by omega)
  have e1 := rg_is h3 (i := 1) (by omega)
  refine (k_takeFirst G S hD hT (by show vp_in (rg M b (nI 0)) _; rw [e]; exact in_n (Nat.mod_lt _ (by decide)) n2 (by decide))).mono ?_
  rintro v M' ⟨rfl, rfl⟩
  unfold mtake
  have e2 : rg M b 1 = nI ((f + 1) % 512) := e1
  have e3 : rg M b 0 = nI ((f + 0) % 512) := e
  have h6 := h5 0 (by simp)
  rw [e2, e3, nI_clamp (by omega), h2, h6]
  refine ⟨rfl, ⟨rfl, rfl, rfl, rfl, fun c' k a z => ?_, fun _ _ _ _ => rfl, fun a z => rfl⟩, (f + 1) % 512, Nat.mod_lt _ (by decide), ?_, ?_, ?_, fun j hj => ?_⟩
  · rw [mi_si, if_neg (fun y => z ⟨y.1, by omega, y.2.2⟩), mi_si, if_neg (fun y => z ⟨y.1, by omega, y.2.2⟩)]
  · rw [mi_si_s, List.length_cons, nI_pred]
  · rw [mi_si_k (by decide), mi_si_s]
  · simp only [List.length_cons] at h4; omega
  · have h7 := h5 (j + 1) (by simp; omega)
    rw [mf_si, mf_si, ma_si, ma_si]
    have e4 : ((f + 1) % 512 + j) % 512 = (f + (j + 1)) % 512 := by omega
    rw [e4, h7]
    simp
theorem K_isFull (G : gc g X t0 l) (hT : mm_t M b = 5) (H : MailIs M b ms) (hm : ms.length < 512) : Ok g X l yy_Ma_isFull cc_Ma_isFull 1 (some .boolean) 0 0 0 0 [.ref b] M (fun v M' => v = some (.int 0) ∧ M' = M) := by
  obtain ⟨f, h1, h2, h3, h4, h5⟩ := H
  refine (k_isFull G hT).mono ?_
  rintro v M' ⟨rfl, rfl⟩
  have h6 : nI ms.length < (512 : Int32) := nI_lt (b := 512) hm (by decide)
  rw [h2, if_pos h6]
  exact ⟨rfl, rfl⟩
theorem K_mclear (G : gc g X t0 l) (hT : mm_t M b = 5) : Ok g X l yy_Ma_clear cc_Ma_clear 1 none 0 0 0 0 [.ref b] M (fun v M' => v = none ∧ fr (fun c' k a => c' = 4 ∧ k < 2 ∧ a = b) (fun _ _ _ => False) (fun _ => False) M M' ∧ MailIs M' b []) := by
  refine (k_mclear G hT).mono ?_
  rintro v M' ⟨rfl, rfl⟩
  refine ⟨rfl, ⟨rfl, rfl, rfl, rfl, fun c' k a z => ?_, fun _ _ _ _ => rfl, fun a z => rfl⟩, 0, by decide, ?_, ?_, by simp, fun j hj => by simp at hj⟩
  · rw [mi_si, if_neg (fun y => z ⟨y.1, by omega, y.2.2⟩), mi_si, if_neg (fun y => z ⟨y.1, by omega, y.2.2⟩)]
  · rw [mi_si_s]; rfl
  · rw [mi_si_k (by decide), mi_si_s]; rfl
/-- a reference to an object is set -/
theorem sh.sr {c0 k0 a0 r0 : Nat} (S : sh pw D ow sl M) (h1 : aL pw c0 k0 = 0) (h2 : rT c0 k0 ≠ 0 → mm_t M r0 = rT c0 k0 ∧ D r0) : sh pw D ow sl (mm_sr M c0 k0 a0 r0) := by
  intro a c k hD hT
  rw [mt_sr] at hT
  obtain ⟨s1, s2⟩ := S a c k hD hT
  refine ⟨fun hk => ?_, fun hk => ?_⟩
  · have hn : ¬ (c = c0 ∧ k = k0 ∧ a = a0) := fun z => by rw [z.1, z.2.1] at hk; exact hk h1
    rw [mr_sr, if_neg hn, mf_sr, if_neg hn]
    exact s1 hk
  · rw [mr_sr, mf_sr]
    by_cases hn : c = c0 ∧ k = k0 ∧ a = a0
    · rw [if_pos hn, if_pos hn]
      obtain ⟨rfl, rfl, rfl⟩ := hn
      exact ⟨by omega, (h2 hk).1, (h2 hk).2⟩
    · rw [if_neg hn, if_neg hn]
      exact s2 hk
end M11
