/-! ===== the carrier: what stays; blocks whose first parts are carried already ===== -/
theorem mm_ext {M M' : mm} (h1 : mm_t M = mm_t M') (h2 : mm_i M = mm_i M') (h3 : mm_r M = mm_r M') (h4 : mm_n M = mm_n M') (h5 : mm_a M = mm_a M') (h6 : mm_l M = mm_l M') (h7 : mm_q M = mm_q M') : M = M' := by
  obtain ⟨a1, a2, a3, a4, a5, a6, a7⟩ := M
  obtain ⟨b1, b2, b3, b4, b5, b6, b7⟩ := M'
  have h1 : a1 = b1 := h1
  have h2 : a2 = b2 := h2
  have h3 : a3 = b3 := h3
  have h4 : a4 = b4 := h4
  have h5 : a5 = b5 := h5
  have h6 : a6 = b6 := h6
  have h7 : a7 = b7 := h7
  rw [h1, h2, h3, h4, h5, h6, h7]
section CC
variable {g : gg} {X : State → Prop} {t0 : Nat} {l : Launch} {M M1 M2 : mm} {pw : Nat} {D : Nat → Prop} {ow sl : Nat → Nat} {B T : List bk} {c hf ht fr : Nat} {q : List Nat}
theorem hput_i {h c2 k2 a2 : Nat} {u n : Int32} {S W : Nat → Int32} : mm_i (hput M h u n S W) c2 k2 a2 = if c2 = 2 ∧ k2 = 0 ∧ a2 = h then u else if c2 = 2 ∧ k2 = 1 ∧ a2 = h then n else mm_i M c2 k2 a2 := rfl
theorem hput_a {h a2 : Nat} {u n : Int32} {S W : Nat → Int32} : mm_a (hput M h u n S W) a2 = if a2 = mm_f M 2 2 h then S else if a2 = mm_f M 2 3 h then W else mm_a M a2 := rfl
theorem hput_t {h : Nat} {u n : Int32} {S W : Nat → Int32} : mm_t (hput M h u n S W) = mm_t M := rfl
theorem hput_r {h : Nat} {u n : Int32} {S W : Nat → Int32} : mm_r (hput M h u n S W) = mm_r M := rfl
theorem hput_nn {h : Nat} {u n : Int32} {S W : Nat → Int32} : mm_n (hput M h u n S W) = mm_n M := rfl
theorem hput_l {h : Nat} {u n : Int32} {S W : Nat → Int32} : mm_l (hput M h u n S W) = mm_l M := rfl
theorem hput_q {h : Nat} {u n : Int32} {S W : Nat → Int32} : mm_q (hput M h u n S W) = mm_q M := rfl
theorem mm_f_of {M M' : mm} (h : mm_r M = mm_r M') : mm_f M = mm_f M' := by funext c k a; unfold mm_f; rw [h]
theorem cch.t (h : cch M c ht M1) : mm_t M1 = mm_t M := by obtain ⟨u, n, S, W, F, e⟩ := h; rw [e, mt_sa, hput_t]
theorem cch.r (h : cch M c ht M1) : mm_r M1 = mm_r M := by obtain ⟨u, n, S, W, F, e⟩ := h; rw [e, mr_sa, hput_r]
theorem cch.f (h : cch M c ht M1) : mm_f M1 = mm_f M := mm_f_of h.r
theorem cch.n (h : cch M c ht M1) : mm_n M1 = mm_n M := by obtain ⟨u, n, S, W, F, e⟩ := h; rw [e, mn_sa, hput_nn]
theorem cch.lo (h : cch M c ht M1) : mm_l M1 = mm_l M := by obtain ⟨u, n, S, W, F, e⟩ := h; rw [e, ml_sa, hput_l]
theorem cch.qu (h : cch M c ht M1) : mm_q M1 = mm_q M := by obtain ⟨u, n, S, W, F, e⟩ := h; rw [e, mq_sa, hput_q]
theorem cch.sh (h : cch M c ht M1) (S : sh pw D ow sl M) : sh pw D ow sl M1 := by
  intro a c2 k hD hT
  rw [h.t] at hT
  rw [h.t, h.r, h.f, h.n]
  exact S a c2 k hD hT
theorem cch.ii (h : cch M c ht M1) {c2 k2 a2 : Nat} (h1 : ¬ (c2 = 2 ∧ k2 = 0 ∧ a2 = ht)) (h2 : ¬ (c2 = 2 ∧ k2 = 1 ∧ a2 = ht)) : mm_i M1 c2 k2 a2 = mm_i M c2 k2 a2 := by
  obtain ⟨u, n, S, W, F, e⟩ := h
  rw [e, mi_sa, hput_i, if_neg h1, if_neg h2]
theorem cch.i (h : cch M c ht M1) {c2 k2 a2 : Nat} (hc : c2 ≠ 2) : mm_i M1 c2 k2 a2 = mm_i M c2 k2 a2 := h.ii (fun z => hc z.1) (fun z => hc z.1)
theorem cch.a (h : cch M c ht M1) {b : Nat} (h1 : b ≠ mm_f M 0 3 c) (h2 : b ≠ mm_f M 2 2 ht) (h3 : b ≠ mm_f M 2 3 ht) : mm_a M1 b = mm_a M b := by
  obtain ⟨u, n, S, W, F, e⟩ := h
  rw [e, ma_sa_n h1, hput_a, if_neg h2, if_neg h3]
theorem cch.trans (h1 : cch M c ht M1) (h2 : cch M1 c ht M2) : cch M c ht M2 := by
  obtain ⟨u2, n2, S2, W2, F2, e⟩ := id h2
  refine ⟨u2, n2, S2, W2, F2, mm_ext ?_ ?_ ?_ ?_ ?_ ?_ ?_⟩
  · rw [h2.t, h1.t, mt_sa, hput_t]
  · funext c' k' a'
    rw [e, mi_sa, mi_sa, hput_i, hput_i]
    by_cases p1 : c' = 2 ∧ k' = 0 ∧ a' = ht
    · rw [if_pos p1, if_pos p1]
    · by_cases p2 : c' = 2 ∧ k' = 1 ∧ a' = ht
      · rw [if_neg p1, if_pos p2, if_neg p1, if_pos p2]
      · rw [if_neg p1, if_neg p2, if_neg p1, if_neg p2, h1.ii p1 p2]
  · rw [h2.r, h1.r, mr_sa, hput_r]
  · rw [h2.n, h1.n, mn_sa, hput_nn]
  · funext b
    rw [e, h1.f, ma_sa, ma_sa]
    by_cases p1 : b = mm_f M 0 3 c
    · rw [if_pos p1, if_pos p1]
    · rw [if_neg p1, if_neg p1, hput_a, hput_a, h1.f]
      by_cases p2 : b = mm_f M 2 2 ht
      · rw [if_pos p2, if_pos p2]
      · by_cases p3 : b = mm_f M 2 3 ht
        · rw [if_neg p2, if_pos p3, if_neg p2, if_pos p3]
        · rw [if_neg p2, if_neg p3, if_neg p2, if_neg p3, h1.a p1 p2 p3]
  · rw [h2.lo, h1.lo, ml_sa, hput_l]
  · rw [h2.qu, h1.qu, mq_sa, hput_q]
theorem vis_len {t : Int32} : q.length ≤ (vis B q t).length := by
  obtain ⟨r, e⟩ := vis_pre (B := B) (q := q) (t := t)
  rw [e]; simp
theorem K_carry (G : gc g X t0 l) (S : sh pw D ow sl M) (hp : pw ≠ 0) (hp6 : pw ≤ 600) (K : Cs pw D M c hf ht B fr q T) {t : Int32} (hv : vt B t) (hs : fr + hsz (qB B (vis B q t)) ≤ pw) : Ok g X l yy_Ca_carry cc_Ca_carry 3 (some .int) 2 50 0 0 [.ref c, .int t] M (fun v M' => v = some (.int (rel B fr (vis B q t) t)) ∧ cch M c ht M' ∧ Cs pw D M' c hf ht B fr (vis B q t) (T ++ qB B ((vis B q t).drop q.length))) := by
  have hk := K.2.2.1.ok hp6
  rcases hv with h1 | ⟨i, hi, rfl⟩
  · refine (K_carry_lo G h1).mono ?_
    rintro v M' ⟨rfl, rfl⟩
    rw [vis_lo hk h1, rel_lo hk h1, List.drop_length]
    refine ⟨rfl, cch.rf, ?_⟩
    show Cs pw D M' c hf ht B fr q (T ++ [])
    rw [List.append_nil]
    exact K
  · by_cases hm : i ∈ q
    · rw [vis_in hk hi hm] at hs
      refine (K_carry_in G S hp hp6 K hi hm (by omega)).mono ?_
      rintro v M' ⟨rfl, rfl⟩
      rw [vis_in hk hi hm, rel_at hk hi, List.drop_length]
      refine ⟨rfl, cch.rf, ?_⟩
      show Cs pw D M' c hf ht B fr q (T ++ [])
      rw [List.append_nil]
      exact K
    · have e1 : hsz (qB B (q ++ [i])) = hsz (qB B q) + bsz (hb B i) := by
        rw [hsz_qB, hsz_qB]
        simp
      rw [vis_new hk hi hm, e1] at hs
      refine (K_carry_new G S hp hp6 K hi hm (by have := K.2.2.2.2.1; omega)).mono ?_
      rintro v M' ⟨rfl, h2, h3⟩
      rw [vis_new hk hi hm, rel_at hk hi, qof_new hm, List.drop_left]
      refine ⟨by rw [K.2.2.2.2.1], h2, h3⟩
/-! blocks whose first k parts are carried -/
def pb (B : List bk) (fr : Nat) (q : List Nat) (k : Nat) (b : bk) : bk := if b.1 = 5 then b else (b.1, (b.2.take k).map (rel B fr q) ++ b.2.drop k)
theorem pb_1 {k : Nat} {b : bk} : (pb B fr q k b).1 = b.1 := by
  unfold pb
  split <;> rfl
theorem pb_len {k : Nat} {b : bk} : (pb B fr q k b).2.length = b.2.length := by
  unfold pb
  split
  · rfl
  · simp only [List.length_append, List.length_map, List.length_take, List.length_drop]
    omega
theorem pb_sz {k : Nat} {b : bk} : bsz (pb B fr q k b) = bsz b := by
  unfold bsz
  rw [pb_1, pb_len]
theorem pb_bpt {k : Nat} {b : bk} : (bpt (pb B fr q k b)).length = (bpt b).length := by
  unfold bpt
  rw [pb_1]
  split
  · rfl
  · exact pb_len
theorem pb_0 {b : bk} : pb B fr q 0 b = b := by
  unfold pb
  split
  · rfl
  · simp
theorem pb_ge {k : Nat} {b : bk} (h : (bpt b).length ≤ k) : pb B fr q k b = pb B fr q (k + 1) b := by
  unfold pb
  unfold bpt at h
  split
  · rfl
  · rename_i h5
    rw [if_neg h5] at h
    rw [List.take_of_length_le h, List.take_of_length_le (by omega), List.drop_eq_nil_of_le h, List.drop_eq_nil_of_le (by omega)]
theorem pb_get {k : Nat} {b : bk} (h : k < (bpt b).length) : (pb B fr q k b).2.getD k 0 = (bpt b).getD k 0 := by
  have h5 : b.1 ≠ 5 := by
    intro e
    unfold bpt at h
    rw [if_pos e] at h
    simp at h
  unfold bpt at h ⊢
  rw [if_neg h5] at h ⊢
  unfold pb
  rw [if_neg h5, List.getD_eq_getElem?_getD, List.getD_eq_getElem?_getD, List.getElem?_append_right (by simp; omega)]
  simp only [List.length_map, List.length_take, List.getElem?_drop]
  congr 2
  omega
theorem pb_set {k : Nat} {b : bk} (h : k < (bpt b).length) : ((pb B fr q k b).1, (pb B fr q k b).2.set k (rel B fr q ((bpt b).getD k 0))) = pb B fr q (k + 1) b := by
  have h5 : b.1 ≠ 5 := by
    intro e
    unfold bpt at h
    rw [if_pos e] at h
    simp at h
  unfold bpt at h ⊢
  rw [if_neg h5] at h ⊢
  unfold pb
  rw [if_neg h5, if_neg h5]
  refine congrArg (fun z => (b.1, z)) ?_
  show ((b.2.take k).map (rel B fr q) ++ b.2.drop k).set k _ = _
  apply List.ext_getElem?
  intro j
  rw [List.getElem?_set]
  simp only [List.length_append, List.length_map, List.length_take, List.length_drop]
  by_cases e : k = j
  · subst e
    rw [if_pos rfl, if_pos (by omega), List.getElem?_append_left (by simp; omega), List.getElem?_map, List.getElem?_take_of_lt (by omega), List.getElem?_eq_getElem h]
    rw [List.getD_eq_getElem?_getD, List.getElem?_eq_getElem h]
    rfl
  · rw [if_neg e]
    by_cases e2 : j < k
    · rw [List.getElem?_append_left (by simp; omega), List.getElem?_append_left (by simp; omega), List.getElem?_map, List.getElem?_map, List.getElem?_take_of_lt e2, List.getElem?_take_of_lt (by omega)]
    · rw [List.getElem?_append_right (by simp; omega), List.getElem?_append_right (by simp; omega)]
      simp only [List.length_map, List.length_take, List.getElem?_drop]
      congr 1
      omega
theorem pb_app {k : Nat} {b : bk} {r : List Nat} (h : ∀ t ∈ (bpt b).take k, ∀ i, hix B t = some i → i ∈ q) : pb B fr (q ++ r) k b = pb B fr q k b := by
  unfold pb
  unfold bpt at h
  split
  · rfl
  · rename_i h5
    rw [if_neg h5] at h
    refine congrArg (fun z => (b.1, z ++ b.2.drop k)) ?_
    exact List.map_congr_left (fun t ht => rel_app (h t ht))
end CC
