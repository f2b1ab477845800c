/-! ===== the heap while parts are carried ===== -/
section TT
variable {B B0 : List bk} {fr j kk : Nat} {q r : List Nat}
def TT (B : List bk) (fr : Nat) (B0 : List bk) (j kk : Nat) (q : List Nat) : List bk := B0 ++ (List.range q.length).map (fun m => pb B fr q (if m < j then 4 else if m = j then kk else 0) (hb B (q.getD m 0)))
theorem TT_len : (TT B fr B0 j kk q).length = B0.length + q.length := by simp [TT]
theorem TT_hb {m : Nat} (hm : m < q.length) : hb (TT B fr B0 j kk q) (B0.length + m) = pb B fr q (if m < j then 4 else if m = j then kk else 0) (hb B (q.getD m 0)) := by
  unfold TT
  rw [hb_app2]
  unfold hb
  rw [List.getD_eq_getElem?_getD, List.getElem?_map, List.getElem?_range hm]
  rfl
theorem had_sum : ∀ (A : List bk) (i : Nat), had A i = ((A.map bsz).take i).sum
  | [], i => by simp [had, hsz]
  | a :: A, 0 => by simp [had, hsz]
  | a :: A, i + 1 => by
    have e : had (a :: A) (i + 1) = bsz a + had A i := rfl
    rw [e, had_sum A i]
    simp
theorem hsz_sum (A : List bk) : hsz A = (A.map bsz).sum := by
  rw [← had_len, had_sum, List.take_of_length_le (by simp)]
theorem TT_map : ((List.range q.length).map (fun m => pb B fr q (if m < j then 4 else if m = j then kk else 0) (hb B (q.getD m 0)))).map bsz = (qB B q).map bsz := by
  apply List.ext_getElem?
  intro i
  unfold qB
  simp only [List.getElem?_map]
  by_cases h : i < q.length
  · rw [List.getElem?_range h, List.getElem?_eq_getElem h]
    show some (bsz (pb B fr q _ (hb B (q.getD i 0)))) = some (bsz (hb B q[i]))
    rw [pb_sz, List.getD_eq_getElem?_getD, List.getElem?_eq_getElem h]
    rfl
  · rw [List.getElem?_eq_none (by simp; omega), List.getElem?_eq_none (by omega)]
    rfl
theorem TT_had {m : Nat} : had (TT B fr B0 j kk q) (B0.length + m) = hsz B0 + had (qB B q) m := by
  unfold TT
  rw [had_app2, had_sum, TT_map, ← had_sum]
theorem TT_sz : hsz (TT B fr B0 j kk q) = hsz B0 + hsz (qB B q) := by
  unfold TT
  rw [hsz_app, hsz_sum ((List.range q.length).map _), TT_map, ← hsz_sum]
theorem TT_tm {m : Nat} (hm : m < q.length) : htm (TT B fr B0 j kk q) (B0.length + m) = tk (hb B (q.getD m 0)).1 (hsz B0 + had (qB B q) m) := by
  unfold htm
  rw [TT_hb hm, TT_had, pb_1]
theorem TT_0 : TT B fr B0 0 0 q = B0 ++ qB B q := by
  unfold TT
  congr 1
  apply List.ext_getElem?
  intro i
  unfold qB
  simp only [List.getElem?_map]
  by_cases h : i < q.length
  · rw [List.getElem?_range h, List.getElem?_eq_getElem h]
    show some (pb B fr q _ (hb B (q.getD i 0))) = some (hb B q[i])
    rw [if_neg (Nat.not_lt_zero _), ite_self, pb_0, List.getD_eq_getElem?_getD, List.getElem?_eq_getElem h]
    rfl
  · rw [List.getElem?_eq_none (by simp; omega), List.getElem?_eq_none (by omega)]
    rfl
theorem pb_all {k k2 : Nat} {b : bk} (h : (bpt b).length ≤ k) (h2 : (bpt b).length ≤ k2) : pb B fr q k b = pb B fr q k2 b := by
  unfold pb
  unfold bpt at h h2
  split
  · rfl
  · rename_i h5
    rw [if_neg h5] at h h2
    rw [List.take_of_length_le h, List.take_of_length_le h2, List.drop_eq_nil_of_le h, List.drop_eq_nil_of_le h2]
theorem TT_next (h : (bpt (hb B (q.getD j 0))).length ≤ kk) (h4 : (bpt (hb B (q.getD j 0))).length ≤ 4) : TT B fr B0 j kk q = TT B fr B0 (j + 1) 0 q := by
  unfold TT
  congr 1
  apply List.map_congr_left
  intro m _
  by_cases e1 : m < j
  · rw [if_pos e1, if_pos (by omega)]
  · rw [if_neg e1]
    by_cases e2 : m = j
    · subst e2
      rw [if_pos rfl, if_pos (by omega)]
      exact pb_all h h4
    · rw [if_neg e2, if_neg (by omega), ite_self]
/-- what the parts that are carried lead to is carried -/
def clo (B : List bk) (j kk : Nat) (q : List Nat) : Prop := (∀ m, m < j → ∀ t ∈ bpt (hb B (q.getD m 0)), ∀ i, hix B t = some i → i ∈ q) ∧ ∀ t ∈ (bpt (hb B (q.getD j 0))).take kk, ∀ i, hix B t = some i → i ∈ q
theorem getD_app {m : Nat} (hm : m < q.length) : (q ++ r).getD m 0 = q.getD m 0 := by
  rw [List.getD_eq_getElem?_getD, List.getD_eq_getElem?_getD, List.getElem?_append_left hm]
theorem clo_app (h : clo B j kk q) (hj : j < q.length) : clo B j kk (q ++ r) := by
  refine ⟨fun m hm t ht i hi => ?_, fun t ht i hi => ?_⟩
  · rw [getD_app (by omega)] at ht
    exact List.mem_append_left _ (h.1 m hm t ht i hi)
  · rw [getD_app hj] at ht
    exact List.mem_append_left _ (h.2 t ht i hi)
theorem TT_grow (h : clo B j kk q) (hj : j < q.length) : TT B fr B0 j kk (q ++ r) = TT B fr B0 j kk q ++ qB B r := by
  unfold TT
  rw [List.append_assoc]
  congr 1
  apply List.ext_getElem?
  intro i
  by_cases h1 : i < q.length
  · rw [List.getElem?_append_left (by simpa using h1)]
    simp only [List.getElem?_map]
    rw [List.getElem?_range (by simp; omega), List.getElem?_range h1]
    show some (pb B fr (q ++ r) _ (hb B ((q ++ r).getD i 0))) = some (pb B fr q _ (hb B (q.getD i 0)))
    rw [getD_app h1, pb_app]
    intro t ht i2 hi2
    by_cases e1 : i < j
    · rw [if_pos e1] at ht
      exact h.1 i e1 t (List.mem_of_mem_take ht) i2 hi2
    · rw [if_neg e1] at ht
      by_cases e2 : i = j
      · subst e2
        rw [if_pos rfl] at ht
        exact h.2 t ht i2 hi2
      · rw [if_neg e2] at ht
        simp at ht
  · rw [List.getElem?_append_right (by simp; omega)]
    unfold qB
    simp only [List.getElem?_map, List.length_map, List.length_range]
    by_cases h2 : i < (q ++ r).length
    · rw [List.getElem?_range h2]
      have h3 : i - q.length < r.length := by simp at h2; omega
      rw [List.getElem?_eq_getElem h3]
      show some (pb B fr (q ++ r) _ (hb B ((q ++ r).getD i 0))) = some (hb B r[i - q.length])
      rw [if_neg (by omega), if_neg (by omega), pb_0, List.getD_eq_getElem?_getD, List.getElem?_append_right (by omega), List.getElem?_eq_getElem h3]
      rfl
    · rw [List.getElem?_eq_none (by simp at h2 ⊢; omega), List.getElem?_eq_none (by simp at h2; omega)]
      rfl
theorem TT_set (hj : j < q.length) (hk : kk < (bpt (hb B (q.getD j 0))).length) : (TT B fr B0 j kk q).set (B0.length + j) ((hb (TT B fr B0 j kk q) (B0.length + j)).1, (hb (TT B fr B0 j kk q) (B0.length + j)).2.set kk (rel B fr q ((bpt (hb B (q.getD j 0))).getD kk 0))) = TT B fr B0 j (kk + 1) q := by
  rw [TT_hb hj, if_neg (Nat.lt_irrefl _), if_pos rfl, pb_set hk]
  unfold TT
  rw [List.set_append_right _ _ (by omega), Nat.add_sub_cancel_left]
  congr 1
  apply List.ext_getElem?
  intro i
  rw [List.getElem?_set]
  simp only [List.getElem?_map, List.length_map, List.length_range]
  by_cases e : j = i
  · subst e
    rw [if_pos rfl, if_pos hj, List.getElem?_range hj]
    show _ = some (pb B fr q _ (hb B (q.getD j 0)))
    rw [if_neg (Nat.lt_irrefl _), if_pos rfl]
  · rw [if_neg e]
    by_cases h : i < q.length
    · rw [List.getElem?_range h]
      show some (pb B fr q _ _) = some (pb B fr q _ _)
      rw [if_neg (fun z : i = j => e z.symm), if_neg (fun z : i = j => e z.symm)]
    · rw [List.getElem?_eq_none (by simp; omega)]
      rfl
theorem clo_next (h : clo B j kk q) (hk : (bpt (hb B (q.getD j 0))).length ≤ kk) : clo B (j + 1) 0 q := by
  refine ⟨fun m hm t ht i hi => ?_, fun t ht => by simp at ht⟩
  by_cases e : m = j
  · subst e
    exact h.2 t (by rw [List.take_of_length_le hk]; exact ht) i hi
  · exact h.1 m (by omega) t ht i hi
theorem qB_app : hsz (qB B (q ++ r)) = hsz (qB B q) + hsz (qB B r) := by
  unfold qB
  rw [List.map_append, hsz_app]
theorem clo_step (h : clo B j kk q) (hj : j < q.length) (hk : kk < (bpt (hb B (q.getD j 0))).length) : clo B j (kk + 1) (vis B q ((bpt (hb B (q.getD j 0))).getD kk 0)) := by
  obtain ⟨r, e⟩ := vis_pre (B := B) (q := q) (t := (bpt (hb B (q.getD j 0))).getD kk 0)
  have hmem : ∀ i, hix B ((bpt (hb B (q.getD j 0))).getD kk 0) = some i → i ∈ q ++ r := fun i hi => by rw [← e]; exact vis_mem hi
  rw [e]
  refine ⟨(clo_app h hj).1, fun t ht i hi => ?_⟩
  rw [getD_app hj, List.take_add_one, List.mem_append] at ht
  rcases ht with ht | ht
  · exact List.mem_append_left _ (h.2 t ht i hi)
  · rw [List.getElem?_eq_getElem hk] at ht
    have e2 : t = (bpt (hb B (q.getD j 0))).getD kk 0 := by
      rw [List.getD_eq_getElem?_getD, List.getElem?_eq_getElem hk]
      simpa using ht
    subst e2
    exact hmem i hi
end TT
