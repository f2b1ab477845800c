/-! ===== heaps by their blocks ===== -/
section M4
variable {g : gg} {X : State → Prop} {t0 : Nat} {l : Launch} {M : mm} {pw : Nat} {D : Nat → Prop} {ow sl : Nat → Nat} {B : List bk}
/-- block b is laid behind the others: what M' is -/
def hadd (pw : Nat) (M : mm) (h : Nat) (B : List bk) (b : bk) (M' : mm) : Prop := ∃ S W : Nat → Int32, M' = hput M h (nI (hsz (B ++ [b]))) (nI (B ++ [b]).length) S W ∧ hv pw (B ++ [b]) S W
theorem hsz_1 (B : List bk) (b : bk) : hsz (B ++ [b]) = hsz B + bsz b := by rw [hsz_app]; simp [hsz]
theorem hadd_of {pw : Nat} {M : mm} {h : Nat} {B : List bk} {b : bk} {W : Nat → Int32} {t n : Int32} (hne : mm_f M 2 2 h ≠ mm_f M 2 3 h) (hp6 : pw ≤ 600) (H : HeapIs pw M h B) (hb1 : bok b) (hs : hsz B + bsz b ≤ pw) (hw1 : ∀ j, j < hsz B → W j = mm_a M (mm_f M 2 3 h) j) (hw2 : ∀ j, j < bsz b → ¬ (b.1 = 5 ∧ j = 1) → W (hsz B + j) = bwd b j) (ht : t = tk b.1 (hsz B)) (hn : n = nI (bsz b)) : hadd pw M h B b (hpl (mm_sa M (mm_f M 2 3 h) W) h t n) := by
  refine ⟨upd (mm_a M (mm_f M 2 2 h)) B.length (tk b.1 (hsz B)), W, ?_, hv_add H.2.2 hb1 hs hw1 hw2⟩
  rw [hpl_hput hne, H.1, H.2.1, ht, hn, nI_add, hsz_1, nI_1, nI_clamp (by have := len_le_hsz B; omega)]
  simp
theorem term_is {k u : Nat} (hk : k < 8) (hu : 8 * u + k < 2 ^ 31) : nI u <<< ((3 : Int32) &&& 31) ||| nI k = tk k u := shl3 hk hu
theorem K_addPair (G : gc g X t0 l) (S : sh pw D ow sl M) (hp : pw ≠ 0) (hp6 : pw ≤ 600) {h : Nat} (hD : D h) (hT : mm_t M h = 3) (H : HeapIs pw M h B) {a b : Int32} (hs : hsz B + 2 ≤ pw) : Ok g X l yy_He_addPair cc_He_addPair 3 (some .int) 1 22 0 0 [.ref h, .int a, .int b] M (fun v M' => v = some (.int (tk 3 (hsz B))) ∧ hadd pw M h B (3, [a, b]) M') := by
  have hne := S.ap hD hT (k := 2) hp hD hT (k2 := 3) hp (Or.inr (by decide))
  have n3 : mm_n M (mm_f M 2 3 h) = pw := S.n hD hT 3 hp
  have n2 : mm_n M (mm_f M 2 2 h) = pw := S.n hD hT 2 hp
  have hl := len_le_hsz B
  refine ((k_addPair G S hp hD hT (by rw [H.2.1]; exact in_n (by omega) n2 (by omega)) (by rw [H.1]; exact in_n (by omega) n3 (by omega)) (by rw [H.1, nI_1]; exact in_n (by omega) n3 (by omega)))).mono ?_
  rintro v M' ⟨rfl, rfl⟩
  have e1 : mm_i M 2 0 h <<< ((3 : Int32) &&& 31) ||| 3 = tk 3 (hsz B) := by rw [H.1]; exact term_is (k := 3) (by decide) (by omega)
  refine ⟨by rw [e1], ?_⟩
  rw [e1]
  have e2 : hst (hst M h (mm_i M 2 0 h) a) h (mm_i M 2 0 h + 1) b = mm_sa M (mm_f M 2 3 h) (upd (upd (mm_a M (mm_f M 2 3 h)) (hsz B) a) (hsz B + 1) b) := by
    rw [H.1, nI_1]
    show mm_sa (mm_sa M (mm_f M 2 3 h) _) (mm_f M 2 3 h) (upd (mm_a (mm_sa M (mm_f M 2 3 h) _) (mm_f M 2 3 h)) _ b) = _
    rw [sa_sa, ma_sa_s, nI_clamp (by omega), nI_clamp (by omega)]
  rw [e2]
  refine hadd_of hne hp6 H (Or.inl ⟨rfl, rfl⟩) hs (fun j hj => ?_) (fun j hj _ => ?_) rfl rfl
  · unfold upd
    rw [if_neg (by omega), if_neg (by omega)]
  · have hj2 : j < 2 := hj
    unfold upd bwd
    rcases (show j = 0 ∨ j = 1 by omega) with rfl | rfl
    · rw [if_neg (by omega), if_pos (by omega)]; rfl
    · rw [if_pos (by omega)]; rfl
theorem K_addHandle (G : gc g X t0 l) (S : sh pw D ow sl M) (hp : pw ≠ 0) (hp6 : pw ≤ 600) {h : Nat} (hD : D h) (hT : mm_t M h = 3) (H : HeapIs pw M h B) {w : Int32} (hs : hsz B + 2 ≤ pw) : Ok g X l yy_He_addHandle cc_He_addHandle 2 (some .int) 1 22 0 0 [.ref h, .int w] M (fun v M' => v = some (.int (tk 5 (hsz B))) ∧ hadd pw M h B (5, [w]) M') := by
  have hne := S.ap hD hT (k := 2) hp hD hT (k2 := 3) hp (Or.inr (by decide))
  have n3 : mm_n M (mm_f M 2 3 h) = pw := S.n hD hT 3 hp
  have n2 : mm_n M (mm_f M 2 2 h) = pw := S.n hD hT 2 hp
  have hl := len_le_hsz B
  refine ((k_addHandle G S hp hD hT (by rw [H.2.1]; exact in_n (by omega) n2 (by omega)) (by rw [H.1]; exact in_n (by omega) n3 (by omega)))).mono ?_
  rintro v M' ⟨rfl, rfl⟩
  have e1 : mm_i M 2 0 h <<< ((3 : Int32) &&& 31) ||| 5 = tk 5 (hsz B) := by rw [H.1]; exact term_is (k := 5) (by decide) (by omega)
  refine ⟨by rw [e1], ?_⟩
  rw [e1]
  have e2 : hst M h (mm_i M 2 0 h) w = mm_sa M (mm_f M 2 3 h) (upd (mm_a M (mm_f M 2 3 h)) (hsz B) w) := by
    rw [H.1]
    unfold hst
    rw [nI_clamp (by omega)]
  rw [e2]
  refine hadd_of hne hp6 H (Or.inr (Or.inr ⟨rfl, rfl⟩)) hs (fun j hj => ?_) (fun j hj hn => ?_) rfl rfl
  · unfold upd
    rw [if_neg (by omega)]
  · have hj2 : j < 2 := hj
    unfold upd bwd
    rcases (show j = 0 ∨ j = 1 by omega) with rfl | rfl
    · rw [if_pos (by omega)]; rfl
    · exact absurd ⟨rfl, rfl⟩ hn
theorem K_partCount (G : gc g X t0 l) (S : sh pw D ow sl M) (hp : pw ≠ 0) (hp6 : pw ≤ 600) {h : Nat} (hD : D h) (hT : mm_t M h = 3) (H : HeapIs pw M h B) {i : Nat} (hi : i < B.length) : Ok g X l yy_He_partCount cc_He_partCount 2 (some .int) 1 20 0 0 [.ref h, .int (htm B i)] M (fun v M' => v = some (.int (nI (bpt (hb B i)).length)) ∧ M' = M) := by
  have hne := S.ap hD hT (k := 2) hp hD hT (k2 := 3) hp (Or.inr (by decide))
  have n3 : mm_n M (mm_f M 2 3 h) = pw := S.n hD hT 3 hp
  have n2 : mm_n M (mm_f M 2 2 h) = pw := S.n hD hT 2 hp
  have hl := len_le_hsz B
  refine ((k_partCount G S hp hD hT (fun _ => by rw [hv_shr H.2.2 hp6 hi]; exact in_n (by have := hv_bnd H.2.2 hp6 hi; have := bsz_pos (hb B i); omega) n3 (by omega)))).mono ?_
  rintro v M' ⟨rfl, rfl⟩
  exact ⟨by rw [hpc_is H hp6 hi], rfl⟩
theorem K_partCount0 (G : gc g X t0 l) (S : sh pw D ow sl M) (hp : pw ≠ 0) (hp6 : pw ≤ 600) {h : Nat} (hD : D h) (hT : mm_t M h = 3) (H : HeapIs pw M h B) {t : Int32} (ht : kd t ≤ 2) : Ok g X l yy_He_partCount cc_He_partCount 2 (some .int) 1 20 0 0 [.ref h, .int t] M (fun v M' => v = some (.int 0) ∧ M' = M) := by
  have hne := S.ap hD hT (k := 2) hp hD hT (k2 := 3) hp (Or.inr (by decide))
  have n3 : mm_n M (mm_f M 2 3 h) = pw := S.n hD hT 3 hp
  have n2 : mm_n M (mm_f M 2 2 h) = pw := S.n hD hT 2 hp
  have hl := len_le_hsz B
  refine ((k_partCount G S hp hD hT (fun e => absurd ((and_eq (n := 4) (by decide)).mp e) (by omega)))).mono ?_
  rintro v M' ⟨rfl, rfl⟩
  exact ⟨by rw [hpc_lo ht], rfl⟩
theorem K_partOf (G : gc g X t0 l) (S : sh pw D ow sl M) (hp : pw ≠ 0) (hp6 : pw ≤ 600) {h : Nat} (hD : D h) (hT : mm_t M h = 3) (H : HeapIs pw M h B) {i : Nat} (hi : i < B.length) {k : Nat} (hk : k < (bpt (hb B i)).length) : Ok g X l yy_He_partOf cc_He_partOf 3 (some .int) 2 40 0 0 [.ref h, .int (htm B i), .int (nI k)] M (fun v M' => v = some (.int ((hb B i).2.getD k 0)) ∧ M' = M) := by
  have hne := S.ap hD hT (k := 2) hp hD hT (k2 := 3) hp (Or.inr (by decide))
  have n3 : mm_n M (mm_f M 2 3 h) = pw := S.n hD hT 3 hp
  have n2 : mm_n M (mm_f M 2 2 h) = pw := S.n hD hT 2 hp
  have hl := len_le_hsz B
  refine ((k_partOf G S hp hD hT (by rw [hpi_is H.2.2 hp6 hi]; exact in_n (hpi_lt H.2.2 hi hk) n3 (by omega)))).mono ?_
  rintro v M' ⟨rfl, rfl⟩
  have h9 := hpi_lt H.2.2 hi hk
  exact ⟨by rw [hpi_is H.2.2 hp6 hi, nI_clamp (by omega), hpt_is H.2.2 hi hk], rfl⟩
/-- the heap h holds B' from now on; nothing else has changed -/
def hto (pw : Nat) (M : mm) (h : Nat) (B : List bk) (M' : mm) : Prop := ∃ S W : Nat → Int32, M' = hput M h (nI (hsz B)) (nI B.length) S W ∧ hv pw B S W
theorem hput_id {M : mm} {h : Nat} {W : Nat → Int32} (hne : mm_f M 2 2 h ≠ mm_f M 2 3 h) : mm_sa M (mm_f M 2 3 h) W = hput M h (mm_i M 2 0 h) (mm_i M 2 1 h) (mm_a M (mm_f M 2 2 h)) W := by
  have e : mm_a (mm_sa M (mm_f M 2 3 h) W) (mm_f M 2 2 h) = mm_a M (mm_f M 2 2 h) := ma_sa_n hne
  show _ = mm_si (mm_si (mm_sa (mm_sa M (mm_f M 2 3 h) W) (mm_f M 2 2 h) (mm_a M (mm_f M 2 2 h))) 2 1 h (mm_i M 2 1 h)) 2 0 h (mm_i M 2 0 h)
  rw [sa_id e, si_id (M := mm_sa M (mm_f M 2 3 h) W) (c := 2) (k := 1) (a := h) (v := mm_i M 2 1 h) rfl, si_id (M := mm_sa M (mm_f M 2 3 h) W) (c := 2) (k := 0) (a := h) (v := mm_i M 2 0 h) rfl]
theorem K_setPart (G : gc g X t0 l) (S : sh pw D ow sl M) (hp : pw ≠ 0) (hp6 : pw ≤ 600) {h : Nat} (hD : D h) (hT : mm_t M h = 3) (H : HeapIs pw M h B) {i : Nat} (hi : i < B.length) {k : Nat} (hk : k < (bpt (hb B i)).length) {w : Int32} : Ok g X l yy_He_setPart cc_He_setPart 4 none 2 40 0 0 [.ref h, .int (htm B i), .int (nI k), .int w] M (fun v M' => v = none ∧ hto pw M h (B.set i ((hb B i).1, (hb B i).2.set k w)) M') := by
  have hne := S.ap hD hT (k := 2) hp hD hT (k2 := 3) hp (Or.inr (by decide))
  have n3 : mm_n M (mm_f M 2 3 h) = pw := S.n hD hT 3 hp
  have n2 : mm_n M (mm_f M 2 2 h) = pw := S.n hD hT 2 hp
  have hl := len_le_hsz B
  refine ((k_setPart G S hp hD hT (by rw [hpi_is H.2.2 hp6 hi]; exact in_n (hpi_lt H.2.2 hi hk) n3 (by omega)))).mono ?_
  rintro v M' ⟨rfl, rfl⟩
  have h9 := hpi_lt H.2.2 hi hk
  have hz : hsz (B.set i ((hb B i).1, (hb B i).2.set k w)) = hsz B := hsz_set hi (by unfold bsz; simp)
  refine ⟨rfl, mm_a M (mm_f M 2 2 h), _, ?_, hv_set H.2.2 hi hk w⟩
  rw [hz, List.length_set, ← H.1, ← H.2.1, ← hput_id hne]
  unfold hst
  rw [hpi_is H.2.2 hp6 hi, nI_clamp (by omega)]
theorem K_blobOf (G : gc g X t0 l) (S : sh pw D ow sl M) (hp : pw ≠ 0) (hp6 : pw ≤ 600) {h : Nat} (hD : D h) (hT : mm_t M h = 3) (H : HeapIs pw M h B) {i : Nat} (hi : i < B.length) (h5 : (hb B i).1 = 5) : Ok g X l yy_He_blobOf cc_He_blobOf 2 (some .int) 1 20 0 0 [.ref h, .int (htm B i)] M (fun v M' => v = some (.int ((hb B i).2.getD 0 0)) ∧ M' = M) := by
  have hne := S.ap hD hT (k := 2) hp hD hT (k2 := 3) hp (Or.inr (by decide))
  have n3 : mm_n M (mm_f M 2 3 h) = pw := S.n hD hT 3 hp
  have n2 : mm_n M (mm_f M 2 2 h) = pw := S.n hD hT 2 hp
  have hl := len_le_hsz B
  refine ((k_blobOf G S hp hD hT (by rw [hv_shr H.2.2 hp6 hi]; exact in_n (by have := hv_bnd H.2.2 hp6 hi; have := bsz_pos (hb B i); omega) n3 (by omega)))).mono ?_
  rintro v M' ⟨rfl, rfl⟩
  have h9 := hv_bnd H.2.2 hp6 hi
  have h8 := H.2.2.2.2.1 i hi 0 (bsz_pos _) (by omega)
  rw [Nat.add_zero] at h8
  refine ⟨?_, rfl⟩
  rw [hv_shr H.2.2 hp6 hi, nI_clamp (by omega), h8]
  unfold bwd
  rw [if_neg (by omega)]
end M4
