/-! ===== how much may lie below a term, from the rank ===== -/
section M33
variable {pw : Nat} {B : List bk}
theorem sum_ins {f gf : Nat → Nat} {i c : Nat} : ∀ {l : List Nat}, l.Nodup → i ∈ l → (∀ k ∈ l, k ≠ i → f k ≤ gf k) → c + f i ≤ gf i → c + (l.map f).sum ≤ (l.map gf).sum
  | [], _, h, _, _ => by simp at h
  | a :: l, hn, hm, hk, hc => by
    rw [List.nodup_cons] at hn
    rw [List.map_cons, List.map_cons, List.sum_cons, List.sum_cons]
    have hsub : (∀ k ∈ l, f k ≤ gf k) → (l.map f).sum ≤ (l.map gf).sum := by
      intro h9
      clear hn hm hk
      induction l with
      | nil => exact Nat.le_refl _
      | cons b l ih =>
        rw [List.map_cons, List.map_cons, List.sum_cons, List.sum_cons]
        have h1 := h9 b (by simp)
        have h2 := ih (fun k hk => h9 k (List.mem_cons_of_mem _ hk))
        omega
    by_cases e : a = i
    · subst e
      have := hsub (fun k hk9 => hk k (List.mem_cons_of_mem _ hk9) (fun z => hn.1 (by rw [← z]; exact hk9)))
      omega
    · have hm2 : i ∈ l := by
        rcases List.mem_cons.mp hm with h | h
        · exact absurd h.symm e
        · exact h
      have h1 := hk a (by simp) e
      have h2 := sum_ins (c := c) hn.2 hm2 (fun k hk9 => hk k (List.mem_cons_of_mem _ hk9)) hc
      omega
theorem sum_mono {f gf : Nat → Nat} : ∀ {l : List Nat}, (∀ k ∈ l, f k ≤ gf k) → (l.map f).sum ≤ (l.map gf).sum
  | [], _ => Nat.le_refl _
  | a :: l, h => by
    rw [List.map_cons, List.map_cons, List.sum_cons, List.sum_cons]
    have h1 := h a (by simp)
    have h2 := sum_mono (l := l) (fun k hk => h k (List.mem_cons_of_mem _ hk))
    omega
theorem parts_le (h : hok B) : ((List.range B.length).map (fun k => (bpt (hb B k)).length)).sum ≤ hsz B := by
  have e : hsz B = ((List.range B.length).map (fun k => bsz (hb B k))).sum := by
    rw [← hsz_qB, qB_all]
  rw [e]
  refine sum_mono (fun k hk => ?_)
  have := bpt_le (h.2 k (by simpa using hk))
  omega
theorem cpo_of (h : hok B) (hs : hsz B ≤ pw) (hr : rkd B) : ∃ cp, cpo B pw cp := by
  obtain ⟨rk, hk⟩ := hr
  refine ⟨fun t => match hix B t with
    | some i => ((List.range B.length).map (fun k => if rk i < rk k then (bpt (hb B k)).length else 0)).sum
    | none => ((List.range B.length).map (fun k => (bpt (hb B k)).length)).sum, fun i hi => ?_⟩
  have hm : i ∈ List.range B.length := by simpa using hi
  have hp := parts_le h
  simp only [hix_at h hi]
  have hall : (bpt (hb B i)).length + ((List.range B.length).map (fun k => if rk i < rk k then (bpt (hb B k)).length else 0)).sum ≤ ((List.range B.length).map (fun k => (bpt (hb B k)).length)).sum := by
    refine sum_ins List.nodup_range hm (fun k _ _ => ?_) ?_
    · split
      · exact Nat.le_refl _
      · exact Nat.zero_le _
    · rw [if_neg (Nat.lt_irrefl _)]
      exact Nat.le_refl _
  refine ⟨fun t ht => ?_, by omega⟩
  cases e : hix B t with
  | none => exact hall
  | some j =>
    have hj := hk i hi t ht j e
    refine sum_ins List.nodup_range hm (fun k _ _ => ?_) ?_
    · by_cases h1 : rk i < rk k
      · rw [if_pos h1, if_pos (by omega)]
        exact Nat.le_refl _
      · rw [if_neg h1]
        exact Nat.zero_le _
    · rw [if_neg (Nat.lt_irrefl _), if_pos hj]
      exact Nat.le_refl _
end M33
