/-! ===== what was copied: closed, whole, valid ===== -/
section M17
variable {pw fr : Nat} {B B0 : List bk} {q r Q : List Nat} {j n : Nat}
/-- all parts of what is in Q are in Q -/
def cls (B : List bk) (Q : List Nat) : Prop := ∀ m ∈ Q, ∀ t ∈ bpt (hb B m), ∀ i, hix B t = some i → i ∈ Q
theorem getD_memN {L : List Nat} {k : Nat} (h : k < L.length) : L.getD k 0 ∈ L := by
  rw [List.getD_eq_getElem?_getD, List.getElem?_eq_getElem h]
  exact List.getElem_mem h
theorem clo_cls (h : clo B q.length 0 q) : cls B q := by
  intro m hm t ht i hi
  obtain ⟨k, hk, e⟩ := List.getElem_of_mem hm
  refine h.1 k hk t ?_ i hi
  rw [List.getD_eq_getElem?_getD, List.getElem?_eq_getElem hk]
  show t ∈ bpt (hb B q[k])
  rw [e]
  exact ht
theorem bfs_cls : ∀ {n j : Nat} {q : List Nat}, qok B q → clo B j 0 q → B.length ≤ n + j → j ≤ q.length → cls B (bfs B n j q)
  | 0, j, q, hq, hc, hn, hj => by
    have h1 := q_len hq
    have e : j = q.length := by omega
    subst e
    exact clo_cls hc
  | n + 1, j, q, hq, hc, hn, hj => by
    show cls B (if j < q.length then bfs B n (j + 1) (visL B q (bpt (hb B (q.getD j 0)))) else q)
    by_cases h : j < q.length
    · rw [if_pos h]
      obtain ⟨r, er⟩ := visL_pre (B := B) (ts := bpt (hb B (q.getD j 0))) (q := q)
      refine bfs_cls (visL_ok hq) ?_ (by omega) (by rw [er]; simp; omega)
      refine ⟨fun m hm t ht i hi => ?_, fun t ht => by simp at ht⟩
      have hmq : m < q.length := by omega
      rw [er, getD_app hmq] at ht
      by_cases e : m = j
      · subst e
        exact visL_mem ht hi
      · rw [er]
        exact List.mem_append_left _ (hc.1 m (by omega) t ht i hi)
    · rw [if_neg h]
      have e : j = q.length := by omega
      subst e
      exact clo_cls hc
theorem bfs_closed (hq : qok B q) : cls B (bfs B B.length 0 q) := bfs_cls hq ⟨fun m hm => by omega, fun t ht => by simp at ht⟩ (by omega) (Nat.zero_le _)
/-- the heap behind a copying -/
def cpd (B B0 : List bk) (Q : List Nat) : List bk := TT B (hsz B0) B0 Q.length 0 Q
theorem cpd_len : (cpd B B0 Q).length = B0.length + Q.length := TT_len
theorem cpd_sz : hsz (cpd B B0 Q) = hsz B0 + hsz (qB B Q) := TT_sz
theorem cpd_old {i : Nat} (hi : i < B0.length) : hb (cpd B B0 Q) i = hb B0 i ∧ htm (cpd B B0 Q) i = htm B0 i := by
  have e : hb (cpd B B0 Q) i = hb B0 i := by unfold cpd TT; rw [hb_app hi]
  refine ⟨e, ?_⟩
  unfold htm
  rw [e]
  congr 1
  unfold cpd TT
  rw [had_app (by omega)]
theorem cpd_hb {m : Nat} (hm : m < Q.length) : hb (cpd B B0 Q) (B0.length + m) = pb B (hsz B0) Q 4 (hb B (Q.getD m 0)) := by
  unfold cpd
  rw [TT_hb hm, if_pos hm]
theorem cpd_tm {m : Nat} (hm : m < Q.length) : htm (cpd B B0 Q) (B0.length + m) = tk (hb B (Q.getD m 0)).1 (hsz B0 + had (qB B Q) m) := TT_tm hm
theorem pb_ok {k : Nat} {b : bk} (h : bok b) : bok (pb B fr q k b) := by
  unfold bok at *
  rw [pb_1, pb_len]
  exact h
theorem cpd_ok (h0 : hok B0) (h : hok B) (hq : qok B Q) (hs : hsz B0 + hsz (qB B Q) ≤ 600) : hok (cpd B B0 Q) := by
  refine ⟨by rw [cpd_sz]; exact hs, fun i hi => ?_⟩
  rw [cpd_len] at hi
  rcases Nat.lt_or_ge i B0.length with h1 | h1
  · rw [(cpd_old h1).1]
    exact h0.2 i h1
  · obtain ⟨m, rfl⟩ : ∃ m, i = B0.length + m := ⟨i - B0.length, by omega⟩
    rw [cpd_hb (by omega)]
    exact pb_ok (h.2 _ (hq.2 _ (getD_memN (by omega))))
theorem idx_getD {i : Nat} (h : i ∈ Q) : Q.idxOf i < Q.length ∧ Q.getD (Q.idxOf i) 0 = i := by
  have h1 := List.idxOf_lt_length_of_mem h
  refine ⟨h1, ?_⟩
  rw [List.getD_eq_getElem?_getD, List.getElem?_eq_getElem h1]
  show Q[Q.idxOf i] = i
  exact List.getElem_idxOf h1
/-- the copy of a block lies where it should -/
theorem rel_cpd (h : hok B) {i : Nat} (hi : i < B.length) (hm : i ∈ Q) : rel B (hsz B0) Q (htm B i) = htm (cpd B B0 Q) (B0.length + Q.idxOf i) := by
  obtain ⟨h1, h2⟩ := idx_getD hm
  rw [rel_at h hi, cpd_tm h1, h2]
  rfl
theorem vt_old {t : Int32} (h : vt B0 t) : vt (cpd B B0 Q) t := by
  rcases h with h | ⟨i, hi, e⟩
  · exact Or.inl h
  · exact Or.inr ⟨i, by rw [cpd_len]; omega, by rw [e, (cpd_old hi).2]⟩
theorem vt_rel (h : hok B) {t : Int32} (hv : vt B t) (hc : ∀ i, hix B t = some i → i ∈ Q) : vt (cpd B B0 Q) (rel B (hsz B0) Q t) := by
  rcases hv with h1 | ⟨i, hi, e⟩
  · rw [rel_lo h h1]
    exact Or.inl h1
  · subst e
    have hm := hc i (hix_at h hi)
    rw [rel_cpd h hi hm]
    exact Or.inr ⟨_, by rw [cpd_len]; have := (idx_getD hm).1; omega, rfl⟩
theorem bpt_le4 {b : bk} (h : bok b) : (bpt b).length ≤ 4 := by
  unfold bpt
  split
  · simp
  · rcases h with h | h | h <;> omega
theorem pb_bpt4 {b : bk} (h : bok b) : bpt (pb B fr q 4 b) = (bpt b).map (rel B fr q) := by
  have h4 := bpt_le4 h
  unfold bpt at *
  rw [pb_1]
  by_cases h5 : b.1 = 5
  · rw [if_pos h5, if_pos h5]
    rfl
  · rw [if_neg h5, if_neg h5]
    rw [if_neg h5] at h4
    unfold pb
    rw [if_neg h5]
    show (b.2.take 4).map (rel B fr q) ++ b.2.drop 4 = _
    rw [List.take_of_length_le h4, List.drop_eq_nil_of_le h4, List.append_nil]
theorem cpd_val (h : hok B) (hq : qok B Q) (hc : cls B Q) (hv0 : hval B0) (hv : hval B) : hval (cpd B B0 Q) := by
  intro i hi t ht
  rw [cpd_len] at hi
  rcases Nat.lt_or_ge i B0.length with h1 | h1
  · rw [(cpd_old h1).1] at ht
    exact vt_old (hv0 i h1 t ht)
  · obtain ⟨m, rfl⟩ : ∃ m, i = B0.length + m := ⟨i - B0.length, by omega⟩
    have hmm := getD_memN (L := Q) (k := m) (by omega)
    rw [cpd_hb (by omega), pb_bpt4 (h.2 _ (hq.2 _ hmm))] at ht
    obtain ⟨t1, ht1, rfl⟩ := List.mem_map.mp ht
    exact vt_rel h (hv _ (hq.2 _ hmm) t1 ht1) (fun i9 h9 => hc _ hmm t1 ht1 i9 h9)
theorem cpd_bl (hq : qok B Q) (hv0 : hbl B0) (hv : hbl B) : hbl (cpd B B0 Q) := by
  intro i hi h5
  rw [cpd_len] at hi
  rcases Nat.lt_or_ge i B0.length with h1 | h1
  · unfold bw
    rw [(cpd_old h1).1] at h5 ⊢
    exact hv0 i h1 h5
  · obtain ⟨m, rfl⟩ : ∃ m, i = B0.length + m := ⟨i - B0.length, by omega⟩
    have hmm := getD_memN (L := Q) (k := m) (by omega)
    unfold bw
    rw [cpd_hb (by omega)] at h5 ⊢
    rw [pb_1] at h5
    have e : pb B (hsz B0) Q 4 (hb B (Q.getD m 0)) = hb B (Q.getD m 0) := by
      unfold pb
      rw [if_pos h5]
    rw [e]
    exact hv _ (hq.2 _ hmm) h5
/-- no block leads to itself -/
def rkd (B : List bk) : Prop := ∃ rk : Nat → Nat, ∀ i, i < B.length → ∀ t ∈ bpt (hb B i), ∀ k, hix B t = some k → rk k < rk i
theorem cpd_rk (h0 : hok B0) (h : hok B) (hq : qok B Q) (hc : cls B Q) (hs : hsz B0 + hsz (qB B Q) ≤ 600) (hv0 : hval B0) (hv : hval B) (hr0 : rkd B0) (hr : rkd B) : rkd (cpd B B0 Q) := by
  obtain ⟨rk0, k0⟩ := hr0
  obtain ⟨rk, k1⟩ := hr
  have ho := cpd_ok h0 h hq hs
  refine ⟨fun i => if i < B0.length then rk0 i else rk (Q.getD (i - B0.length) 0), fun i hi t ht k hk => ?_⟩
  rw [cpd_len] at hi
  rcases Nat.lt_or_ge i B0.length with h1 | h1
  · rw [(cpd_old h1).1] at ht
    rcases hv0 i h1 t ht with h2 | ⟨k2, hk2, e⟩
    · rw [hix_lo ho h2] at hk
      exact absurd hk (by simp)
    · rw [e, ← (cpd_old (B := B) (Q := Q) hk2).2, hix_at ho (by rw [cpd_len]; omega)] at hk
      have ek : k2 = k := Option.some.inj hk
      subst ek
      show (if k2 < B0.length then _ else _) < (if i < B0.length then _ else _)
      rw [if_pos hk2, if_pos h1]
      exact k0 i h1 t ht k2 (by rw [e]; exact hix_at h0 hk2)
  · obtain ⟨m, rfl⟩ : ∃ m, i = B0.length + m := ⟨i - B0.length, by omega⟩
    have hmm := getD_memN (L := Q) (k := m) (by omega)
    rw [cpd_hb (by omega), pb_bpt4 (h.2 _ (hq.2 _ hmm))] at ht
    obtain ⟨t1, ht1, rfl⟩ := List.mem_map.mp ht
    rcases hv _ (hq.2 _ hmm) t1 ht1 with h2 | ⟨k2, hk2, e⟩
    · rw [rel_lo h h2, hix_lo ho h2] at hk
      exact absurd hk (by simp)
    · subst e
      have hin := hc _ hmm _ ht1 k2 (hix_at h hk2)
      obtain ⟨i1, i2⟩ := idx_getD hin
      rw [rel_cpd h hk2 hin, hix_at ho (by rw [cpd_len]; omega)] at hk
      have ek : B0.length + Q.idxOf k2 = k := Option.some.inj hk
      subst ek
      show (if B0.length + Q.idxOf k2 < B0.length then _ else _) < (if B0.length + m < B0.length then _ else _)
      rw [if_neg (by omega), if_neg (by omega), Nat.add_sub_cancel_left, Nat.add_sub_cancel_left, i2]
      exact k1 _ (hq.2 _ hmm) _ ht1 k2 (hix_at h hk2)
end M17
