/-! ===== how many handles of a blob lie in a heap ===== -/
section M18
variable {B B0 : List bk} {q Q : List Nat} {w : Nat}
def hnd (B : List bk) : List Nat := B.filterMap (fun b => if b.1 = 5 then some (b.2.getD 0 0).toNatClampNeg else none)
def hw (B : List bk) (w i : Nat) : Nat := if (hb B i).1 = 5 ∧ bw B i = w then 1 else 0
theorem hnd_app {A C : List bk} : hnd (A ++ C) = hnd A ++ hnd C := List.filterMap_append
theorem hnd_cons {b : bk} {A : List bk} : hnd (b :: A) = (if b.1 = 5 then [(b.2.getD 0 0).toNatClampNeg] else []) ++ hnd A := by
  unfold hnd
  rw [List.filterMap_cons]
  by_cases h : b.1 = 5
  · rw [if_pos h, if_pos h]; rfl
  · rw [if_neg h, if_neg h]; rfl
theorem drop_hb {B : List bk} {i : Nat} (h : i < B.length) : B.drop i = hb B i :: B.drop (i + 1) := by
  rw [List.drop_eq_getElem_cons h]
  unfold hb
  rw [List.getD_eq_getElem?_getD, List.getElem?_eq_getElem h]
  rfl
theorem lf_all : ∀ {n i : Nat}, i + n = B.length → lf B (fun _ => true) n i = hnd (B.drop i)
  | 0, i, h => by
    rw [List.drop_eq_nil_of_le (by omega)]
    rfl
  | n + 1, i, h => by
    show (if (hb B i).1 = 5 ∧ (true : Bool) = true then bw B i :: lf B (fun _ => true) n (i + 1) else lf B (fun _ => true) n (i + 1)) = _
    rw [drop_hb (by omega), hnd_cons, lf_all (n := n) (i := i + 1) (by omega)]
    by_cases h5 : (hb B i).1 = 5
    · rw [if_pos ⟨h5, rfl⟩, if_pos h5]; rfl
    · rw [if_neg (fun z => h5 z.1), if_neg h5]; rfl
theorem cnt_qB : ∀ {q : List Nat}, (hnd (qB B q)).count w = (q.map (hw B w)).sum
  | [] => rfl
  | i :: q => by
    show (hnd (hb B i :: qB B q)).count w = hw B w i + (q.map (hw B w)).sum
    rw [hnd_cons, List.count_append, cnt_qB]
    congr 1
    unfold hw
    by_cases h5 : (hb B i).1 = 5
    · rw [if_pos h5, List.count_cons, List.count_nil]
      show 0 + (if (bw B i == w) = true then 1 else 0) = _
      by_cases e : bw B i = w
      · rw [if_pos (by simpa using e), if_pos ⟨h5, e⟩]
      · rw [if_neg (by simpa using e), if_neg (fun z => e z.2)]
    · rw [if_neg h5, if_neg (fun z => h5 z.1), List.count_nil]
theorem cnt_all : (hnd B).count w = ((List.range B.length).map (hw B w)).sum := by
  rw [← cnt_qB, qB_all]
theorem cnt_lf {P : Nat → Bool} : ∀ {n i : Nat}, (lf B P n i).count w = ((List.range' i n).map (fun k => if P k = true then hw B w k else 0)).sum
  | 0, i => rfl
  | n + 1, i => by
    rw [List.range'_succ, List.map_cons, List.sum_cons, ← cnt_lf (n := n) (i := i + 1)]
    show (if (hb B i).1 = 5 ∧ P i = true then bw B i :: lf B P n (i + 1) else lf B P n (i + 1)).count w = _
    unfold hw
    by_cases hP : P i = true
    · rw [if_pos hP]
      by_cases h5 : (hb B i).1 = 5
      · rw [if_pos ⟨h5, hP⟩, List.count_cons]
        by_cases e : bw B i = w
        · rw [if_pos (by simpa using e), if_pos ⟨h5, e⟩]; omega
        · rw [if_neg (by simpa using e), if_neg (fun z => e z.2)]; omega
      · rw [if_neg (fun z => h5 z.1), if_neg (fun z => h5 z.1)]; omega
    · rw [if_neg (fun z => hP z.2), if_neg hP]; omega
theorem sum_split (f : Nat → Nat) (P : Nat → Bool) : ∀ l : List Nat, (l.map f).sum = (l.map (fun k => if P k = true then f k else 0)).sum + ((l.filter (fun k => !P k)).map f).sum
  | [] => rfl
  | a :: l => by
    rw [List.map_cons, List.sum_cons, List.map_cons, List.sum_cons, sum_split f P l, List.filter_cons]
    by_cases h : P a = true
    · rw [if_pos h, if_neg (by simp [h])]
      omega
    · rw [if_neg h, if_pos (by simpa using h), List.map_cons, List.sum_cons]
      omega
/-- those left behind and those copied are all -/
theorem cnt_left (hq : qok B Q) : (lf B (fun i => decide (i ∉ Q)) B.length 0).count w + (hnd (qB B Q)).count w = (hnd B).count w := by
  rw [cnt_lf, cnt_qB, cnt_all, ← List.range_eq_range', sum_split (hw B w) (fun i => decide (i ∉ Q)) (List.range B.length)]
  congr 1
  have hp : ((List.range B.length).filter (fun k => !decide (k ∉ Q))).Perm Q := by
    rw [List.perm_ext_iff_of_nodup (List.nodup_range.filter _) hq.1]
    intro a
    rw [List.mem_filter, List.mem_range]
    constructor
    · intro h
      have := h.2
      simpa using this
    · intro h
      exact ⟨hq.2 a h, by simpa using h⟩
  exact (List.Perm.sum_nat (hp.map (hw B w))).symm
theorem hnd_cpd : hnd (cpd B B0 Q) = hnd B0 ++ hnd (qB B Q) := by
  unfold cpd TT
  rw [hnd_app]
  congr 1
  have e : ∀ (l : List Nat), hnd (l.map (fun m => pb B (hsz B0) Q (if m < Q.length then 4 else if m = Q.length then 0 else 0) (hb B (Q.getD m 0)))) = hnd (l.map (fun m => hb B (Q.getD m 0))) := by
    intro l
    induction l with
    | nil => rfl
    | cons a l ih =>
      rw [List.map_cons, List.map_cons, hnd_cons, hnd_cons, ih, pb_1]
      congr 1
      by_cases h5 : (hb B (Q.getD a 0)).1 = 5
      · rw [if_pos h5, if_pos h5]
        unfold pb
        rw [if_pos h5]
      · rw [if_neg h5, if_neg h5]
  rw [e]
  congr 1
  unfold qB
  apply List.ext_getElem
  · simp
  · intro i h1 h2
    simp only [List.getElem_map, List.getElem_range]
    simp only [List.length_map, List.length_range] at h1
    rw [List.getD_eq_getElem?_getD, List.getElem?_eq_getElem h1]
    rfl
end M18
