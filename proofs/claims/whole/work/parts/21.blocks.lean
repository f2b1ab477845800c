/-! ===== a heap as a list of blocks: a kind (3 pair, 4 tuple, 5 handle) and its parts (of a handle: the blob) ===== -/
abbrev bk : Type := Nat × List Int32
def bsz (b : bk) : Nat := if b.1 = 4 then b.2.length + 1 else 2
def bok (b : bk) : Prop := (b.1 = 3 ∧ b.2.length = 2) ∨ (b.1 = 4 ∧ b.2.length ≤ 4) ∨ (b.1 = 5 ∧ b.2.length = 1)
/-- the word at place j of a block -/
def bwd (b : bk) (j : Nat) : Int32 := if b.1 = 4 then (if j = 0 then nI b.2.length else b.2.getD (j - 1) 0) else b.2.getD j 0
/-- the parts: a handle has none -/
def bpt (b : bk) : List Int32 := if b.1 = 5 then [] else b.2
def hsz : List bk → Nat
  | [] => 0
  | b :: B => bsz b + hsz B
/-- where block i begins -/
def had (B : List bk) (i : Nat) : Nat := hsz (B.take i)
def hb (B : List bk) (i : Nat) : bk := B.getD i (0, [])
/-- block i as a term -/
def htm (B : List bk) (i : Nat) : Int32 := tk (hb B i).1 (had B i)
theorem bsz_pos (b : bk) : 0 < bsz b := by unfold bsz; split <;> omega
theorem hsz_app : ∀ (A B : List bk), hsz (A ++ B) = hsz A + hsz B
  | [], B => by simp [hsz]
  | a :: A, B => by
    show bsz a + hsz (A ++ B) = bsz a + hsz A + hsz B
    rw [hsz_app A B]
    omega
theorem had_0 (B : List bk) : had B 0 = 0 := by simp [had, hsz]
theorem had_len (B : List bk) : had B B.length = hsz B := by simp [had]
theorem had_app {A B : List bk} {i : Nat} (h : i ≤ A.length) : had (A ++ B) i = had A i := by
  unfold had
  rw [List.take_append_of_le_length h]
theorem had_app2 {A B : List bk} {i : Nat} : had (A ++ B) (A.length + i) = hsz A + had B i := by
  unfold had
  rw [List.take_append, List.take_of_length_le (by omega), hsz_app]
  congr 2
  congr 1
  omega
theorem hb_app {A B : List bk} {i : Nat} (h : i < A.length) : hb (A ++ B) i = hb A i := by
  unfold hb
  rw [List.getD_eq_getElem?_getD, List.getD_eq_getElem?_getD, List.getElem?_append_left h]
theorem hb_app2 {A B : List bk} {i : Nat} : hb (A ++ B) (A.length + i) = hb B i := by
  unfold hb
  rw [List.getD_eq_getElem?_getD, List.getD_eq_getElem?_getD, List.getElem?_append_right (by omega), Nat.add_sub_cancel_left]
theorem hb_get {B : List bk} {i : Nat} (h : i < B.length) : B[i]? = some (hb B i) := by
  unfold hb
  rw [List.getD_eq_getElem?_getD, List.getElem?_eq_getElem h]
  rfl
theorem had_succ {B : List bk} {i : Nat} (h : i < B.length) : had B (i + 1) = had B i + bsz (hb B i) := by
  unfold had
  rw [List.take_add_one, hb_get h, hsz_app]
  simp [hsz]
theorem had_mono {B : List bk} {i j : Nat} (h : i ≤ j) : had B i ≤ had B j := by
  induction j with
  | zero =>
    have : i = 0 := by omega
    subst this
    exact Nat.le_refl _
  | succ j ih =>
    by_cases h2 : i = j + 1
    · subst h2; exact Nat.le_refl _
    · refine Nat.le_trans (ih (by omega)) ?_
      by_cases h3 : j < B.length
      · rw [had_succ h3]; omega
      · unfold had
        rw [List.take_of_length_le (by omega), List.take_of_length_le (by omega)]
        exact Nat.le_refl _
theorem had_le {B : List bk} {i : Nat} : had B i ≤ hsz B := by
  by_cases h : i ≤ B.length
  · rw [← had_len]; exact had_mono h
  · unfold had
    rw [List.take_of_length_le (by omega)]
    exact Nat.le_refl _
theorem had_blk {B : List bk} {i : Nat} (h : i < B.length) : had B i + bsz (hb B i) ≤ hsz B := by
  rw [← had_succ h]; exact had_le
theorem had_lt {B : List bk} {i j : Nat} (h : i < j) (hi : i < B.length) : had B i + bsz (hb B i) ≤ had B j := by
  rw [← had_succ hi]; exact had_mono h
theorem had_inj {B : List bk} {i j : Nat} (hi : i < B.length) (hj : j < B.length) (h : had B i = had B j) : i = j := by
  rcases Nat.lt_trichotomy i j with h1 | h1 | h1
  · have := had_lt h1 hi
    have := bsz_pos (hb B i)
    omega
  · exact h1
  · have := had_lt h1 hj
    have := bsz_pos (hb B j)
    omega
theorem len_le_hsz : ∀ B : List bk, B.length ≤ hsz B
  | [] => Nat.le_refl _
  | b :: B => by
    have h1 := len_le_hsz B
    have h2 := bsz_pos b
    show B.length + 1 ≤ bsz b + hsz B
    omega
