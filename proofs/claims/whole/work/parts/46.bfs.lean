/-! ===== which blocks are led to: a list of places in the order of discovery ===== -/
/-- the block that a term is -/
def hix (B : List bk) (t : Int32) : Option Nat := (List.range B.length).find? (fun i => decide (htm B i = t))
/-- blocks of the kinds that there are, small -/
def hok (B : List bk) : Prop := hsz B ≤ 600 ∧ ∀ i, i < B.length → bok (hb B i)
section BF
variable {B : List bk}
theorem hok_tm (H : hok B) {i : Nat} (hi : i < B.length) : (hb B i).1 < 8 ∧ 8 * had B i + (hb B i).1 < 2 ^ 31 ∧ 3 ≤ (hb B i).1 := by
  have h1 := had_blk hi
  have h2 := bok_k (H.2 i hi)
  have h3 := H.1
  omega
theorem htm_inj (H : hok B) {i j : Nat} (hi : i < B.length) (hj : j < B.length) (e : htm B i = htm B j) : i = j := by
  have a := hok_tm H hi
  have b := hok_tm H hj
  exact had_inj hi hj (tk_inj a.1 b.1 a.2.1 b.2.1 e).2
theorem hix_at (H : hok B) {i : Nat} (hi : i < B.length) : hix B (htm B i) = some i := by
  unfold hix
  rw [List.find?_range_eq_some]
  refine ⟨by simp, by simpa using hi, fun j hj => ?_⟩
  simp only [Bool.not_eq_true', decide_eq_false_iff_not]
  intro e
  have := htm_inj H (by omega) hi e
  omega
theorem hix_lt {t : Int32} {i : Nat} (h : hix B t = some i) : i < B.length ∧ htm B i = t := by
  unfold hix at h
  rw [List.find?_range_eq_some] at h
  exact ⟨by simpa using h.2.1, by simpa using h.1⟩
theorem hix_lo (H : hok B) {t : Int32} (ht : kd t ≤ 2) : hix B t = none := by
  cases e : hix B t with
  | none => rfl
  | some i =>
    obtain ⟨h1, h2⟩ := hix_lt e
    have a := hok_tm H h1
    rw [← h2] at ht
    unfold htm at ht
    rw [kd_tk a.1 a.2.1] at ht
    omega
/-- a term of this heap: no address, or a block's -/
def vt (B : List bk) (t : Int32) : Prop := kd t ≤ 2 ∨ ∃ i, i < B.length ∧ t = htm B i
def vis (B : List bk) (q : List Nat) (t : Int32) : List Nat := match hix B t with
  | some i => if i ∈ q then q else q ++ [i]
  | none => q
/-- places of this heap, none twice -/
def qok (B : List bk) (q : List Nat) : Prop := q.Nodup ∧ ∀ i ∈ q, i < B.length
def qB (B : List bk) (q : List Nat) : List bk := q.map (hb B)
theorem vis_lo (H : hok B) {q : List Nat} {t : Int32} (ht : kd t ≤ 2) : vis B q t = q := by
  unfold vis
  rw [hix_lo H ht]
theorem vis_in (H : hok B) {q : List Nat} {i : Nat} (hi : i < B.length) (hq : i ∈ q) : vis B q (htm B i) = q := by
  unfold vis
  rw [hix_at H hi]
  exact if_pos hq
theorem vis_new (H : hok B) {q : List Nat} {i : Nat} (hi : i < B.length) (hq : i ∉ q) : vis B q (htm B i) = q ++ [i] := by
  unfold vis
  rw [hix_at H hi]
  exact if_neg hq
theorem vis_ok {q : List Nat} (h : qok B q) (t : Int32) : qok B (vis B q t) := by
  unfold vis
  cases e : hix B t with
  | none => exact h
  | some i =>
    show qok B (if i ∈ q then q else q ++ [i])
    by_cases hq : i ∈ q
    · rw [if_pos hq]; exact h
    · rw [if_neg hq]
      refine ⟨?_, fun j hj => ?_⟩
      · rw [List.nodup_append]
        refine ⟨h.1, by simp, ?_⟩
        intro a ha b hb1 e1
        rw [List.mem_singleton.mp hb1] at e1
        rw [e1] at ha
        exact hq ha
      · rcases List.mem_append.mp hj with h1 | h1
        · exact h.2 j h1
        · rw [List.mem_singleton.mp h1]; exact (hix_lt e).1
theorem vis_pre {q : List Nat} {t : Int32} : ∃ r, vis B q t = q ++ r := by
  unfold vis
  cases e : hix B t with
  | none => exact ⟨[], by simp⟩
  | some i =>
    show ∃ r, (if i ∈ q then q else q ++ [i]) = q ++ r
    by_cases hq : i ∈ q
    · exact ⟨[], by rw [if_pos hq]; simp⟩
    · exact ⟨[i], by rw [if_neg hq]⟩
theorem vis_mem {q : List Nat} {t : Int32} {i : Nat} (h : hix B t = some i) : i ∈ vis B q t := by
  unfold vis
  rw [h]
  show i ∈ (if i ∈ q then q else q ++ [i])
  by_cases hq : i ∈ q
  · rw [if_pos hq]; exact hq
  · rw [if_neg hq]; simp
/-- no more than the heap has -/
theorem hsz_perm : ∀ {A C : List bk}, A.Perm C → hsz A = hsz C := by
  intro A C h
  induction h with
  | nil => rfl
  | cons x _ ih => show bsz x + _ = bsz x + _; rw [ih]
  | swap x y l => show bsz y + (bsz x + hsz l) = bsz x + (bsz y + hsz l); omega
  | trans _ _ h1 h2 => exact h1.trans h2
theorem qB_all : qB B (List.range B.length) = B := by
  apply List.ext_getElem?
  intro i
  unfold qB
  rw [List.getElem?_map]
  by_cases h : i < B.length
  · rw [List.getElem?_range h]
    show some (hb B i) = _
    rw [hb_get h]
  · rw [List.getElem?_eq_none (by simp; omega), List.getElem?_eq_none (by omega)]
    rfl
theorem sum_sub (f : Nat → Nat) : ∀ (q l : List Nat), q.Nodup → (∀ i ∈ q, i ∈ l) → (q.map f).sum ≤ (l.map f).sum
  | [], _, _, _ => Nat.zero_le _
  | a :: q, l, h, hs => by
    have ha : a ∈ l := hs a List.mem_cons_self
    have hp := (List.perm_cons_erase ha).map f
    have e := hp.sum_nat
    rw [List.nodup_cons] at h
    have h2 := sum_sub f q (l.erase a) h.2 (fun i hi => by
      have hne : i ≠ a := fun e9 => h.1 (by rw [← e9]; exact hi)
      exact (List.mem_erase_of_ne hne).mpr (hs i (List.mem_cons_of_mem _ hi)))
    rw [e]
    simp only [List.map_cons, List.sum_cons]
    omega
theorem sum_one : ∀ q : List Nat, (q.map (fun _ => 1)).sum = q.length
  | [] => rfl
  | a :: q => by simp only [List.map_cons, List.sum_cons, List.length_cons, sum_one q]; omega
theorem hsz_qB : ∀ q : List Nat, hsz (qB B q) = (q.map (fun i => bsz (hb B i))).sum
  | [] => rfl
  | a :: q => by
    show bsz (hb B a) + hsz (qB B q) = _
    rw [hsz_qB q]
    simp
theorem qB_le {q : List Nat} (h : qok B q) : hsz (qB B q) ≤ hsz B := by
  have h1 := sum_sub (fun i => bsz (hb B i)) q (List.range B.length) h.1 (fun i hi => List.mem_range.mpr (h.2 i hi))
  rw [← hsz_qB, ← hsz_qB, qB_all] at h1
  exact h1
theorem q_len {q : List Nat} (h : qok B q) : q.length ≤ B.length := by
  have h1 := sum_sub (fun _ => 1) q (List.range B.length) h.1 (fun i hi => List.mem_range.mpr (h.2 i hi))
  rw [sum_one, sum_one] at h1
  simpa using h1
/-- where block i comes to lie, counted from the front -/
def qof (B : List bk) (q : List Nat) (i : Nat) : Nat := had (qB B q) (q.idxOf i)
theorem qof_app {q r : List Nat} {i : Nat} (h : i ∈ q) : qof B (q ++ r) i = qof B q i := by
  unfold qof
  rw [List.idxOf_append, if_pos h]
  unfold qB
  rw [List.map_append, had_app (by rw [List.length_map]; exact Nat.le_of_lt (List.idxOf_lt_length_of_mem h))]
theorem qof_new {q : List Nat} {i : Nat} (h : i ∉ q) : qof B (q ++ [i]) i = hsz (qB B q) := by
  unfold qof
  rw [List.idxOf_append, if_neg h]
  have e1 : List.idxOf i [i] = 0 := by simp
  rw [e1, Nat.zero_add]
  unfold qB
  rw [List.map_append]
  have e := had_app2 (A := q.map (hb B)) (B := [i].map (hb B)) (i := 0)
  rw [Nat.add_zero, had_0, Nat.add_zero, List.length_map] at e
  exact e
/-- a term, when its block lies behind 'fr' words -/
def rel (B : List bk) (fr : Nat) (q : List Nat) (t : Int32) : Int32 := match hix B t with
  | some i => tk (hb B i).1 (fr + qof B q i)
  | none => t
theorem rel_lo (H : hok B) {fr : Nat} {q : List Nat} {t : Int32} (ht : kd t ≤ 2) : rel B fr q t = t := by
  unfold rel
  rw [hix_lo H ht]
theorem rel_at (H : hok B) {fr : Nat} {q : List Nat} {i : Nat} (hi : i < B.length) : rel B fr q (htm B i) = tk (hb B i).1 (fr + qof B q i) := by
  unfold rel
  rw [hix_at H hi]
theorem rel_app {fr : Nat} {q r : List Nat} {t : Int32} (h : ∀ i, hix B t = some i → i ∈ q) : rel B fr (q ++ r) t = rel B fr q t := by
  unfold rel
  cases e : hix B t with
  | none => rfl
  | some i =>
    show tk _ _ = tk _ _
    rw [qof_app (h i e)]
/-- what the parts of block j lead to -/
def visL (B : List bk) (q : List Nat) (ts : List Int32) : List Nat := ts.foldl (vis B) q
theorem visL_cons {q : List Nat} {t : Int32} {ts : List Int32} : visL B q (t :: ts) = visL B (vis B q t) ts := rfl
theorem visL_app {q : List Nat} {ts us : List Int32} : visL B q (ts ++ us) = visL B (visL B q ts) us := List.foldl_append
theorem visL_ok : ∀ {ts : List Int32} {q : List Nat}, qok B q → qok B (visL B q ts)
  | [], _, h => h
  | t :: ts, q, h => by rw [visL_cons]; exact visL_ok (vis_ok h t)
theorem visL_pre : ∀ {ts : List Int32} {q : List Nat}, ∃ r, visL B q ts = q ++ r
  | [], q => ⟨[], by simp [visL]⟩
  | t :: ts, q => by
    obtain ⟨r, e⟩ := vis_pre (B := B) (q := q) (t := t)
    obtain ⟨r2, e2⟩ := visL_pre (ts := ts) (q := vis B q t)
    exact ⟨r ++ r2, by rw [visL_cons, e2, e, List.append_assoc]⟩
theorem visL_mem : ∀ {ts : List Int32} {q : List Nat} {t : Int32} {i : Nat}, t ∈ ts → hix B t = some i → i ∈ visL B q ts
  | u :: ts, q, t, i, ht, hi => by
    rw [visL_cons]
    rcases List.mem_cons.mp ht with e | e
    · subst e
      obtain ⟨r, e2⟩ := visL_pre (B := B) (ts := ts) (q := vis B q t)
      rw [e2]
      exact List.mem_append_left _ (vis_mem hi)
    · exact visL_mem e hi
def bfs (B : List bk) : Nat → Nat → List Nat → List Nat
  | 0, _, q => q
  | n + 1, j, q => if j < q.length then bfs B n (j + 1) (visL B q (bpt (hb B (q.getD j 0)))) else q
theorem bfs_ok : ∀ {n j : Nat} {q : List Nat}, qok B q → qok B (bfs B n j q)
  | 0, _, _, h => h
  | n + 1, j, q, h => by
    show qok B (if j < q.length then bfs B n (j + 1) (visL B q (bpt (hb B (q.getD j 0)))) else q)
    split
    · exact bfs_ok (visL_ok h)
    · exact h
theorem bfs_pre : ∀ {n j : Nat} {q : List Nat}, ∃ r, bfs B n j q = q ++ r
  | 0, _, q => ⟨[], by simp [bfs]⟩
  | n + 1, j, q => by
    show ∃ r, (if j < q.length then bfs B n (j + 1) (visL B q (bpt (hb B (q.getD j 0)))) else q) = q ++ r
    split
    · obtain ⟨r1, e1⟩ := visL_pre (B := B) (ts := bpt (hb B (q.getD j 0))) (q := q)
      obtain ⟨r2, e2⟩ := bfs_pre (n := n) (j := j + 1) (q := visL B q (bpt (hb B (q.getD j 0))))
      exact ⟨r1 ++ r2, by rw [e2, e1, List.append_assoc]⟩
    · exact ⟨[], by simp⟩
end BF
