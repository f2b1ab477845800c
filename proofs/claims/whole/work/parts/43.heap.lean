/-! ===== a heap in the memory is a list of blocks ===== -/
theorem Ok.mono {g : gg} {X : State → Prop} {l : Launch} {y : MethodName} {cc : ByteArray} {nL : Nat} {ret : Option FieldType} {d lo mc ms : Nat} {av : List Value} {M : mm} {Qr Qr2 : Option Value → mm → Prop} (h : Ok g X l y cc nL ret d lo mc ms av M Qr) (k : ∀ (v : Option Value) (M' : mm), Qr v M' → Qr2 v M') : Ok g X l y cc nL ret d lo mc ms av M Qr2 := by
  intro p e a b c s m args below h1 h2 h3 h4
  obtain ⟨n, o, q1, q2, q3, ⟨v, M', e1, e2, e3⟩, r⟩ := h p e a b c s m args below h1 h2 h3 h4
  exact ⟨n, o, q1, q2, q3, ⟨v, M', e1, k v M' e2, e3⟩, r⟩
theorem OkX.mono {g : gg} {X : State → Prop} {l : Launch} {y : MethodName} {cc : ByteArray} {nL : Nat} {ret : Option FieldType} {d lo mc ms : Nat} {av : List Value} {M : mm} {Qr Qr2 : Option Value → mm → Prop} {Qx Qx2 : String → mm → Prop} (h : OkX g X l y cc nL ret d lo mc ms av M Qr Qx) (k : ∀ (v : Option Value) (M' : mm), Qr v M' → Qr2 v M') (kx : ∀ (E : String) (M' : mm), Qx E M' → Qx2 E M') : OkX g X l y cc nL ret d lo mc ms av M Qr2 Qx2 := by
  intro p e a b c s m args below h1 h2 h3 h4
  obtain ⟨n, o, q1, q2, q3, r⟩ := h p e a b c s m args below h1 h2 h3 h4
  refine ⟨n, o, q1, q2, q3, ?_⟩
  rcases r with ⟨⟨v, M', e1, e2, e3⟩, r⟩ | ⟨q, eo, E, ce, L, ⟨M', f1, f2⟩, r⟩
  · exact Or.inl ⟨⟨v, M', e1, k v M' e2, e3⟩, r⟩
  · exact Or.inr ⟨q, eo, E, ce, L, ⟨M', kx E M' f1, f2⟩, r⟩
def hv (pw : Nat) (B : List bk) (S W : Nat → Int32) : Prop := hsz B ≤ pw ∧ (∀ i, i < B.length → S i = htm B i) ∧ (∀ i, i < B.length → ∀ j, j < bsz (hb B i) → ¬ ((hb B i).1 = 5 ∧ j = 1) → W (had B i + j) = bwd (hb B i) j) ∧ ∀ i, i < B.length → bok (hb B i)
def HeapIs (pw : Nat) (M : mm) (h : Nat) (B : List bk) : Prop := mm_i M 2 0 h = nI (hsz B) ∧ mm_i M 2 1 h = nI B.length ∧ hv pw B (mm_a M (mm_f M 2 2 h)) (mm_a M (mm_f M 2 3 h))
/-- a heap's words all written anew -/
def hput (M : mm) (h : Nat) (u n : Int32) (S W : Nat → Int32) : mm := mm_si (mm_si (mm_sa (mm_sa M (mm_f M 2 3 h) W) (mm_f M 2 2 h) S) 2 1 h n) 2 0 h u
section HP
variable {pw : Nat} {M : mm} {h : Nat} {B : List bk} {S W W' : Nat → Int32} {b : bk}
theorem bok_k (h : bok b) : 3 ≤ b.1 ∧ b.1 ≤ 5 := by
  rcases h with h | h | h <;> omega
theorem bpt_le (h : bok b) : (if b.1 = 4 then 1 else 0) + (bpt b).length ≤ bsz b := by
  unfold bpt bsz
  rcases h with h | h | h
  · rw [if_neg (by omega), if_neg (by omega), if_neg (by omega)]; omega
  · rw [if_pos h.1, if_neg (by omega), if_pos h.1]; omega
  · rw [if_neg (by omega), if_pos h.1, if_neg (by omega)]; simp
theorem hv_nil (pw : Nat) (S W : Nat → Int32) : hv pw [] S W := ⟨Nat.zero_le _, fun i h => by simp at h, fun i h => by simp at h, fun i h => by simp at h⟩
theorem hb_last : hb (B ++ [b]) B.length = b := by
  have e := hb_app2 (A := B) (B := [b]) (i := 0)
  rw [Nat.add_zero] at e
  rw [e]; rfl
theorem had_last : had (B ++ [b]) B.length = hsz B := by
  have e := had_app2 (A := B) (B := [b]) (i := 0)
  rw [Nat.add_zero, had_0] at e
  exact e
theorem hv_add (H : hv pw B S W) (hb1 : bok b) (hs : hsz B + bsz b ≤ pw) (hw1 : ∀ j, j < hsz B → W' j = W j) (hw2 : ∀ j, j < bsz b → ¬ (b.1 = 5 ∧ j = 1) → W' (hsz B + j) = bwd b j) : hv pw (B ++ [b]) (upd S B.length (tk b.1 (hsz B))) W' := by
  obtain ⟨h1, h2, h3, h4⟩ := H
  have hl : (B ++ [b]).length = B.length + 1 := by simp
  refine ⟨by rw [hsz_app]; simp [hsz]; omega, fun i hi => ?_, fun i hi j hj hn => ?_, fun i hi => ?_⟩
  · rw [hl] at hi
    by_cases e : i = B.length
    · subst e
      unfold upd htm
      rw [if_pos rfl, hb_last, had_last]
    · unfold upd htm
      rw [if_neg e, hb_app (by omega), had_app (by omega)]
      exact h2 i (by omega)
  · rw [hl] at hi
    by_cases e : i = B.length
    · subst e
      rw [hb_last] at hj hn ⊢
      rw [had_last]
      exact hw2 j hj hn
    · rw [hb_app (by omega)] at hj hn ⊢
      rw [had_app (by omega), hw1 _ ?_]
      · exact h3 i (by omega) j hj hn
      · have := had_blk (B := B) (i := i) (by omega)
        omega
  · rw [hl] at hi
    by_cases e : i = B.length
    · subst e
      rw [hb_last]; exact hb1
    · rw [hb_app (by omega)]; exact h4 i (by omega)
theorem hv_bnd (H : hv pw B S W) (hp : pw ≤ 600) {i : Nat} (hi : i < B.length) : had B i + bsz (hb B i) ≤ pw ∧ (hb B i).1 < 8 ∧ 8 * had B i + (hb B i).1 < 2 ^ 31 := by
  have h1 := had_blk hi
  have h2 := bok_k (H.2.2.2 i hi)
  have h3 := H.1
  omega
theorem hv_kd (H : hv pw B S W) (hp : pw ≤ 600) {i : Nat} (hi : i < B.length) : kd (htm B i) = (hb B i).1 := kd_tk (hv_bnd H hp hi).2.1 (hv_bnd H hp hi).2.2
theorem hv_and (H : hv pw B S W) (hp : pw ≤ 600) {i : Nat} (hi : i < B.length) : htm B i &&& 7 = nI (hb B i).1 := by rw [and7, hv_kd H hp hi]
theorem hv_shr (H : hv pw B S W) (hp : pw ≤ 600) {i : Nat} (hi : i < B.length) : htm B i >>> ((3 : Int32) &&& 31) = nI (had B i) := shr3 (hv_bnd H hp hi).2.1 (hv_bnd H hp hi).2.2
theorem and_eq {t : Int32} {n : Nat} (hn : n < 8) : t &&& 7 = nI n ↔ kd t = n := by
  rw [and7, nI_eq (by have := kd_lt t; omega) (by omega)]
theorem hpc_lo {t : Int32} (h1 : kd t ≤ 2) : hpc M h t = 0 := by
  unfold hpc
  rw [if_neg (fun e => by have := (and_eq (t := t) (n := 3) (by decide)).mp e; omega), if_neg (fun e => by have := (and_eq (t := t) (n := 4) (by decide)).mp e; omega)]
theorem hpc_is (H : HeapIs pw M h B) (hp : pw ≤ 600) {i : Nat} (hi : i < B.length) : hpc M h (htm B i) = nI (bpt (hb B i)).length := by
  obtain ⟨-, -, H⟩ := H
  unfold hpc
  rw [hv_and H hp hi, hv_shr H hp hi, nI_clamp (by have := hv_bnd H hp hi; omega)]
  rcases H.2.2.2 i hi with e | e | e
  · rw [e.1, if_pos (show nI 3 = 3 from rfl)]
    unfold bpt
    rw [if_neg (by omega), e.2]
    rfl
  · have h3 := H.2.2.1 i hi 0 (bsz_pos _) (by omega)
    rw [Nat.add_zero] at h3
    rw [e.1, if_neg (by decide), if_pos (show nI 4 = 4 from rfl), h3]
    unfold bwd bpt
    rw [if_pos e.1, if_pos rfl, if_neg (by omega)]
  · rw [e.1, if_neg (by decide), if_neg (by decide)]
    unfold bpt
    rw [if_pos e.1]
    rfl
theorem hpi_is (H : hv pw B S W) (hp : pw ≤ 600) {i k : Nat} (hi : i < B.length) : hpi (htm B i) (nI k) = nI (had B i + (if (hb B i).1 = 4 then 1 else 0) + k) := by
  unfold hpi
  rw [hv_and H hp hi, hv_shr H hp hi]
  by_cases e : (hb B i).1 = 4
  · rw [e, if_pos (show nI 4 = 4 from rfl), if_pos rfl, nI_1, nI_add]
  · rw [if_neg e, if_neg (show ¬ nI (hb B i).1 = 4 from fun z => e ((nI_eq (by have := hv_bnd H hp hi; omega) (by decide)).mp z))]
    show nI (had B i) + nI 0 + nI k = _
    rw [nI_add, nI_add]
theorem hpi_lt (H : hv pw B S W) {i k : Nat} (hi : i < B.length) (hk : k < (bpt (hb B i)).length) : had B i + (if (hb B i).1 = 4 then 1 else 0) + k < pw := by
  have h1 := had_blk hi
  have h2 := bpt_le (H.2.2.2 i hi)
  have h3 := H.1
  omega
theorem hpt_is (H : hv pw B S W) {i k : Nat} (hi : i < B.length) (hk : k < (bpt (hb B i)).length) : W (had B i + (if (hb B i).1 = 4 then 1 else 0) + k) = (hb B i).2.getD k 0 := by
  have h1 := bpt_le (H.2.2.2 i hi)
  have h5 : (hb B i).1 ≠ 5 := by
    intro e
    unfold bpt at hk
    rw [if_pos e] at hk
    simp at hk
  rw [Nat.add_assoc, H.2.2.1 i hi _ (by omega) (fun z => h5 z.1)]
  unfold bwd
  by_cases e : (hb B i).1 = 4
  · rw [if_pos e, if_pos e, if_neg (by omega)]
    congr 1
    omega
  · rw [if_neg e, if_neg e, Nat.zero_add]
theorem had_set {i : Nat} {b' : bk} (hi : i < B.length) (he : bsz b' = bsz (hb B i)) : ∀ j, had (B.set i b') j = had B j := by
  intro j
  induction j with
  | zero => rw [had_0, had_0]
  | succ j ih =>
    by_cases hj : j < B.length
    · rw [had_succ hj, had_succ (by rw [List.length_set]; exact hj), ih]
      congr 1
      unfold hb
      rw [List.getD_eq_getElem?_getD, List.getD_eq_getElem?_getD, List.getElem?_set]
      by_cases e : i = j
      · subst e
        rw [if_pos rfl, if_pos hj]
        have e9 := hb_get hj
        rw [e9]
        exact he
      · rw [if_neg e]
    · have e1 : had B (j + 1) = had B j := by
        unfold had
        rw [List.take_of_length_le (by omega), List.take_of_length_le (by omega)]
      have e2 : had (B.set i b') (j + 1) = had (B.set i b') j := by
        unfold had
        rw [List.take_of_length_le (by rw [List.length_set]; omega), List.take_of_length_le (by rw [List.length_set]; omega)]
      rw [e1, e2, ih]
theorem hsz_set {i : Nat} {b' : bk} (hi : i < B.length) (he : bsz b' = bsz (hb B i)) : hsz (B.set i b') = hsz B := by
  rw [← had_len, ← had_len, List.length_set]
  exact had_set hi he _
theorem hb_set {i j : Nat} {b' : bk} (hi : i < B.length) : hb (B.set i b') j = if j = i then b' else hb B j := by
  unfold hb
  rw [List.getD_eq_getElem?_getD, List.getD_eq_getElem?_getD, List.getElem?_set]
  by_cases e : i = j
  · subst e
    rw [if_pos rfl, if_pos rfl, if_pos hi]
    rfl
  · rw [if_neg e, if_neg (fun z => e z.symm)]
/-- a part is written -/
theorem hv_set (H : hv pw B S W) {i k : Nat} (hi : i < B.length) (hk : k < (bpt (hb B i)).length) (v : Int32) : hv pw (B.set i ((hb B i).1, (hb B i).2.set k v)) S (upd W (had B i + (if (hb B i).1 = 4 then 1 else 0) + k) v) := by
  have he : bsz ((hb B i).1, (hb B i).2.set k v) = bsz (hb B i) := by
    unfold bsz
    simp
  have h5 : (hb B i).1 ≠ 5 := by
    intro e
    unfold bpt at hk
    rw [if_pos e] at hk
    simp at hk
  have hk2 : k < (hb B i).2.length := by
    unfold bpt at hk
    rw [if_neg h5] at hk
    exact hk
  have hbl := bpt_le (H.2.2.2 i hi)
  obtain ⟨h1, h2, h3, h4⟩ := H
  refine ⟨by rw [hsz_set hi he]; exact h1, fun j hj => ?_, fun j hj q hq hn => ?_, fun j hj => ?_⟩
  · rw [List.length_set] at hj
    rw [h2 j hj]
    unfold htm
    rw [had_set hi he, hb_set hi]
    by_cases e : j = i
    · subst e
      rw [if_pos rfl]
    · rw [if_neg e]
  · rw [List.length_set] at hj
    rw [hb_set hi] at hq hn ⊢
    rw [had_set hi he]
    by_cases e : j = i
    · subst e
      rw [if_pos rfl] at hq hn ⊢
      rw [he] at hq
      unfold upd
      by_cases e2 : had B j + q = had B j + (if (hb B j).1 = 4 then 1 else 0) + k
      · rw [if_pos e2]
        unfold bwd
        by_cases e3 : (hb B j).1 = 4
        · rw [if_pos e3] at e2
          rw [if_pos e3, if_neg (by omega), show q - 1 = k by omega]
          simp [hk2]
        · rw [if_neg e3] at e2
          rw [if_neg e3, show q = k by omega]
          simp [hk2]
      · rw [if_neg e2, h3 j hj q hq hn]
        unfold bwd
        by_cases e3 : (hb B j).1 = 4
        · rw [if_pos e3] at e2
          rw [if_pos e3, if_pos e3]
          by_cases e4 : q = 0
          · rw [if_pos e4, if_pos e4]
            simp
          · rw [if_neg e4, if_neg e4, List.getD_eq_getElem?_getD, List.getD_eq_getElem?_getD, List.getElem?_set_ne (by omega)]
        · rw [if_neg e3] at e2
          rw [if_neg e3, if_neg e3, List.getD_eq_getElem?_getD, List.getD_eq_getElem?_getD, List.getElem?_set_ne (by omega)]
    · rw [if_neg e] at hq hn ⊢
      unfold upd
      rw [if_neg, h3 j hj q hq hn]
      have a1 := had_blk hi
      rcases Nat.lt_or_gt_of_ne e with l | l
      · have := had_lt l hj
        omega
      · have := had_lt l hi
        omega
  · rw [List.length_set] at hj
    rw [hb_set hi]
    by_cases e : j = i
    · subst e
      rw [if_pos rfl]
      have := h4 j hj
      unfold bok at this ⊢
      simpa using this
    · rw [if_neg e]; exact h4 j hj
/-! in the memory -/
theorem hpl_hput {t n : Int32} (hne : mm_f M 2 2 h ≠ mm_f M 2 3 h) : hpl (mm_sa M (mm_f M 2 3 h) W) h t n = hput M h (mm_i M 2 0 h + n) (mm_i M 2 1 h + 1) (upd (mm_a M (mm_f M 2 2 h)) (mm_i M 2 1 h).toNatClampNeg t) W := by
  have e : mm_a (mm_sa M (mm_f M 2 3 h) W) (mm_f M 2 2 h) = mm_a M (mm_f M 2 2 h) := ma_sa_n hne
  show mm_si (mm_si (mm_sa (mm_sa M (mm_f M 2 3 h) W) (mm_f M 2 2 h) (upd (mm_a (mm_sa M (mm_f M 2 3 h) W) (mm_f M 2 2 h)) (mm_i M 2 1 h).toNatClampNeg t)) 2 1 h (mm_i M 2 1 h + 1)) 2 0 h (mm_i M 2 0 h + n) = _
  rw [e]
  rfl
theorem hput_u {u n : Int32} : mm_i (hput M h u n S W) 2 0 h = u := mi_si_s
theorem hput_n {u n : Int32} : mm_i (hput M h u n S W) 2 1 h = n := by
  unfold hput
  rw [mi_si_k (by decide), mi_si_s]
theorem hput_S {u n : Int32} : mm_a (hput M h u n S W) (mm_f M 2 2 h) = S := ma_sa_s
theorem hput_W {u n : Int32} (hne : mm_f M 2 2 h ≠ mm_f M 2 3 h) : mm_a (hput M h u n S W) (mm_f M 2 3 h) = W := by
  show mm_a (mm_sa (mm_sa M (mm_f M 2 3 h) W) (mm_f M 2 2 h) S) (mm_f M 2 3 h) = W
  rw [ma_sa_n (fun e => hne e.symm), ma_sa_s]
theorem hput_is (hne : mm_f M 2 2 h ≠ mm_f M 2 3 h) (H : hv pw B S W) : HeapIs pw (hput M h (nI (hsz B)) (nI B.length) S W) h B := by
  refine ⟨hput_u, hput_n, ?_⟩
  show hv pw B (mm_a (hput M h _ _ S W) (mm_f M 2 2 h)) (mm_a (hput M h _ _ S W) (mm_f M 2 3 h))
  rw [hput_S, hput_W hne]
  exact H
end HP
