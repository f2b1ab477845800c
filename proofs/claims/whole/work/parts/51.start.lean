/-! ===== frames; the carrier starts; words led to ===== -/
section M8
variable {g : gg} {X : State → Prop} {t0 : Nat} {l : Launch} {M : mm} {pw : Nat} {D : Nat → Prop} {ow sl : Nat → Nat} {B B0 T : List bk} {c hf ht : Nat} {q : List Nat}
/-- what may have changed: int fields, reference fields, int arrays -/
def fr (I Rr : Nat → Nat → Nat → Prop) (Aa : Nat → Prop) (M M' : mm) : Prop := mm_t M' = mm_t M ∧ mm_n M' = mm_n M ∧ mm_l M' = mm_l M ∧ mm_q M' = mm_q M ∧ (∀ c k a, ¬ I c k a → mm_i M' c k a = mm_i M c k a) ∧ (∀ c k a, ¬ Rr c k a → mm_r M' c k a = mm_r M c k a) ∧ ∀ a, ¬ Aa a → mm_a M' a = mm_a M a
theorem fr.rf {I Rr : Nat → Nat → Nat → Prop} {Aa : Nat → Prop} : fr I Rr Aa M M := ⟨rfl, rfl, rfl, rfl, fun _ _ _ _ => rfl, fun _ _ _ _ => rfl, fun _ _ => rfl⟩
theorem fr.trans {I Rr : Nat → Nat → Nat → Prop} {Aa : Nat → Prop} {M1 M2 : mm} (h1 : fr I Rr Aa M M1) (h2 : fr I Rr Aa M1 M2) : fr I Rr Aa M M2 :=
  ⟨h2.1.trans h1.1, h2.2.1.trans h1.2.1, h2.2.2.1.trans h1.2.2.1, h2.2.2.2.1.trans h1.2.2.2.1, fun c k a h => (h2.2.2.2.2.1 c k a h).trans (h1.2.2.2.2.1 c k a h), fun c k a h => (h2.2.2.2.2.2.1 c k a h).trans (h1.2.2.2.2.2.1 c k a h), fun a h => (h2.2.2.2.2.2.2 a h).trans (h1.2.2.2.2.2.2 a h)⟩
theorem fr.mono {I Rr I2 Rr2 : Nat → Nat → Nat → Prop} {Aa Aa2 : Nat → Prop} {M1 : mm} (h : fr I Rr Aa M M1) (hI : ∀ c k a, I c k a → I2 c k a) (hR : ∀ c k a, Rr c k a → Rr2 c k a) (hA : ∀ a, Aa a → Aa2 a) : fr I2 Rr2 Aa2 M M1 :=
  ⟨h.1, h.2.1, h.2.2.1, h.2.2.2.1, fun c k a z => h.2.2.2.2.1 c k a (fun y => z (hI c k a y)), fun c k a z => h.2.2.2.2.2.1 c k a (fun y => z (hR c k a y)), fun a z => h.2.2.2.2.2.2 a (fun y => z (hA a y))⟩
theorem fr.f {I Rr : Nat → Nat → Nat → Prop} {Aa : Nat → Prop} {M1 : mm} (h : fr I Rr Aa M M1) {c k a : Nat} (hn : ¬ Rr c k a) : mm_f M1 c k a = mm_f M c k a := by
  unfold mm_f
  rw [h.2.2.2.2.2.1 c k a hn]
/-- reference fields that the shape doesn't speak of -/
def frR (Rr : Nat → Nat → Nat → Prop) (pw : Nat) : Prop := ∀ c k a, Rr c k a → aL pw c k = 0 ∧ rT c k = 0
theorem fr.sh {I Rr : Nat → Nat → Nat → Prop} {Aa : Nat → Prop} {M1 : mm} (h : fr I Rr Aa M M1) (hR : frR Rr pw) (S : sh pw D ow sl M) : sh pw D ow sl M1 := by
  intro a c k hD hT
  rw [h.1] at hT
  obtain ⟨s1, s2⟩ := S a c k hD hT
  refine ⟨fun hk => ?_, fun hk => ?_⟩
  · have hn : ¬ Rr c k a := fun z => hk (hR c k a z).1
    rw [h.2.2.2.2.2.1 c k a hn, h.f hn, h.1, h.2.1]
    exact s1 hk
  · have hn : ¬ Rr c k a := fun z => hk (hR c k a z).2
    rw [h.2.2.2.2.2.1 c k a hn, h.f hn, h.1]
    exact s2 hk
theorem cch.fr {M1 : mm} (h : cch M c ht M1) : fr (fun c' k a => c' = 2 ∧ k < 2 ∧ a = ht) (fun _ _ _ => False) (fun a => a = mm_f M 0 3 c ∨ a = mm_f M 2 2 ht ∨ a = mm_f M 2 3 ht) M M1 :=
  ⟨h.t, h.n, h.lo, h.qu, fun c' k a z => h.ii (fun y => z ⟨y.1, by omega, y.2.2⟩) (fun y => z ⟨y.1, by omega, y.2.2⟩), fun c' k a _ => by rw [h.r], fun a z => h.a (fun y => z (Or.inl y)) (fun y => z (Or.inr (Or.inl y))) (fun y => z (Or.inr (Or.inr y)))⟩
theorem HeapIs.fr {I Rr : Nat → Nat → Nat → Prop} {Aa : Nat → Prop} {M1 : mm} {h : Nat} (F : fr I Rr Aa M M1) (H : HeapIs pw M h B) (i0 : ¬ I 2 0 h) (i1 : ¬ I 2 1 h) (r2 : ¬ Rr 2 2 h) (r3 : ¬ Rr 2 3 h) (a2 : ¬ Aa (mm_f M 2 2 h)) (a3 : ¬ Aa (mm_f M 2 3 h)) : HeapIs pw M1 h B := by
  refine ⟨?_, ?_, ?_⟩
  · rw [F.2.2.2.2.1 2 0 h i0]; exact H.1
  · rw [F.2.2.2.2.1 2 1 h i1]; exact H.2.1
  · rw [F.f r2, F.f r3, F.2.2.2.2.2.2 _ a2, F.2.2.2.2.2.2 _ a3]
    exact H.2.2
/-- a heap is emptied -/
theorem K_clear (G : gc g X t0 l) (S : sh pw D ow sl M) (hp : pw ≠ 0) {h : Nat} (hD : D h) (hT : mm_t M h = 3) : Ok g X l yy_He_clear cc_He_clear 1 none 0 0 0 0 [.ref h] M (fun v M' => v = none ∧ fr (fun c' k a => c' = 2 ∧ k < 2 ∧ a = h) (fun _ _ _ => False) (fun _ => False) M M' ∧ HeapIs pw M' h []) := by
  refine (k_clear G S hp hD hT).mono ?_
  rintro v M' ⟨rfl, rfl⟩
  refine ⟨rfl, ⟨rfl, rfl, rfl, rfl, fun c' k a z => ?_, fun _ _ _ _ => rfl, fun _ _ => rfl⟩, ?_, ?_, hv_nil _ _ _⟩
  · rw [mi_si, if_neg (fun y => z ⟨y.1, by omega, y.2.2⟩), mi_si, if_neg (fun y => z ⟨y.1, by omega, y.2.2⟩)]
  · rw [mi_si_k (by decide), mi_si_s]; rfl
  · rw [mi_si_s]; rfl
set_option maxRecDepth 100000 in
set_option maxHeartbeats 4000000 in
theorem K_start (G : gc g X t0 l) (S : sh pw D ow sl M) (hp : pw ≠ 0) (hp6 : pw ≤ 600) (hDc : D c) (hTc : mm_t M c = 1) (hne : hf ≠ ht) (hDf : D hf) (hTf : mm_t M hf = 3) (hDt : D ht) (hTt : mm_t M ht = 3) (Hf : HeapIs pw M hf B) (Ht : HeapIs pw M ht T) : Ok g X l yy_Ca_start cc_Ca_start 3 none 1 23 0 0 [.ref c, .ref hf, .ref ht] M (fun v M' => v = none ∧ fr (fun c' k a => c' = 0 ∧ k = 2 ∧ a = c) (fun c' k a => c' = 0 ∧ k < 2 ∧ a = c) (fun a => a = mm_f M 0 3 c) M M' ∧ Cs pw D M' c hf ht B (hsz T) [] T ∧ mm_i M' 0 2 c = nI T.length) := by
  refine ok_start (by decide) (Nat.le_of_ble_eq_true rfl) (by simp [Value.category]) ?_
  intro p e s m args below meth c9 x
  have rc := S.r hDc hTc 3 hp
  have tc := S.t hDc hTc 3 hp
  have n0 : mm_n M (mm_f M 0 3 c) = pw := S.n hDc hTc 3 hp
  have hct : c ≠ ht := fun e9 => by rw [e9, hTt] at hTc; exact absurd hTc (by decide)
  have hcf : c ≠ hf := fun e9 => by rw [e9, hTf] at hTc; exact absurd hTc (by decide)
  have b2 := S.ap hDt hTt (k := 2) hp hDc hTc (k2 := 3) hp (Or.inl hct.symm)
  have b3 := S.ap hDt hTt (k := 3) hp hDc hTc (k2 := 3) hp (Or.inl hct.symm)
  have d2 := S.ap hDf hTf (k := 2) hp hDc hTc (k2 := 3) hp (Or.inl hcf.symm)
  have d3 := S.ap hDf hTf (k := 3) hp hDc hTc (k2 := 3) hp (Or.inl hcf.symm)
  refine vv_aload_n (pc := 0) x dd_Ca_start_0 rfl ?_
  refine vv_aload_n (pc := 1) x dd_Ca_start_1 rfl ?_
  refine lp_Ca_15 (pc := 2) G x dd_Ca_start_2 (by assumption) ?_
  refine vv_aload_n (pc := 5) x dd_Ca_start_5 rfl ?_
  refine vv_aload_n (pc := 6) x dd_Ca_start_6 rfl ?_
  refine lp_Ca_19 (pc := 7) G x dd_Ca_start_7 (by assumption) ?_
  refine vv_aload_n (pc := 10) x dd_Ca_start_10 rfl ?_
  refine vv_aload_n (pc := 11) x dd_Ca_start_11 rfl ?_
  refine lg_Ca_22 (pc := 12) G x dd_Ca_start_12 (by assumption) ?_
  have ecn : mm_i (mm_sr (mm_sr M 0 0 c hf) 0 1 c ht) 2 1 ht = nI T.length := Ht.2.1
  rw [ecn]
  refine lp_Ca_28 (pc := 15) G x dd_Ca_start_15 (by assumption) ?_
  refine vv_aload_n (pc := 18) x dd_Ca_start_18 rfl ?_
  refine lg_Ca_9 (pc := 19) G x dd_Ca_start_19 (by assumption) (by show mm_r (mm_sr (mm_sr M 0 0 c hf) 0 1 c ht) 0 3 c ≠ 0; rw [mr_sr, if_neg (by simp), mr_sr, if_neg (by simp)]; exact rc) ?_
  have efc : mm_f (mm_si (mm_sr (mm_sr M 0 0 c hf) 0 1 c ht) 0 2 c (nI T.length)) 0 3 c = mm_f M 0 3 c := by
    rw [mf_si, mf_sr, if_neg (by simp), mf_sr, if_neg (by simp)]
  rw [efc]
  refine vv_iconst (pc := 22) x dd_Ca_start_22 (0) (by decide) ?_
  refine lv_Ca_31 (pc := 23) G x dd_Ca_start_23 (k_fill G (by exact tc) (by show mm_n M (mm_f M 0 3 c) < 2 ^ 31; rw [n0]; omega))  ⟨by decide, by decide⟩ (by decide) (by decide) (Nat.le_of_ble_eq_true rfl) (fun v23 M23 q23 => ?_)
  obtain ⟨rfl, hm23⟩ := q23
  have hm23 := hm23.symm
  subst hm23
  exact vv_vret (pc := 26) x dd_Ca_start_26 rfl (by decide) (by decide) ⟨rfl, by
      have F : fr (fun c' k a => c' = 0 ∧ k = 2 ∧ a = c) (fun c' k a => c' = 0 ∧ k < 2 ∧ a = c) (fun a => a = mm_f M 0 3 c) M (mm_sa (mm_si (mm_sr (mm_sr M 0 0 c hf) 0 1 c ht) 0 2 c (nI T.length)) (mm_f M 0 3 c) (fun j => if j < mm_n M (mm_f M 0 3 c) then 0 else mm_a M (mm_f M 0 3 c) j)) := by
        refine ⟨rfl, rfl, rfl, rfl, fun c' k a z => ?_, fun c' k a z => ?_, fun a z => ?_⟩
        · rw [mi_sa, mi_si, if_neg z]; rfl
        · rw [mr_sa, mr_si, mr_sr, if_neg (fun y => z ⟨y.1, by omega, y.2.2⟩), mr_sr, if_neg (fun y => z ⟨y.1, by omega, y.2.2⟩)]
        · rw [ma_sa_n z]; rfl
      refine ⟨F, ⟨⟨hTc, hDc, ?_, ?_, ?_, ?_⟩, ⟨hne, hDf, hTf, hDt, hTt⟩, HeapIs.fr F Hf (by simp) (by simp) (by simp) (by simp) d2 d3, HeapIs.fr F Ht (by simp) (by simp) (by simp) (by simp) b2 b3, by simp [qB, hsz], ⟨List.nodup_nil, fun i hi => by simp at hi⟩, fun i hi => ?_⟩, ?_⟩
      · rw [mr_sa, mr_si, mr_sr, if_neg (by simp), mr_sr_s]; omega
      · rw [mf_sa, mf_si, mf_sr, if_neg (by simp), mf_sr_s]
      · rw [mr_sa, mr_si, mr_sr_s]; omega
      · rw [mf_sa, mf_si, mf_sr_s]
      · rw [mf_sa, efc, ma_sa_s, if_pos (by show had B i < mm_n M (mm_f M 0 3 c); rw [n0]; have := hv_bnd Hf.2.2 hp6 hi; have := bsz_pos (hb B i); omega)]
        simp
      · rw [mi_sa, mi_si_s]⟩
end M8
