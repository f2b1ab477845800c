/-! ===== the shape of the memory: which fields are int arrays (and how long), which are objects; whose an array is ===== -/
def aL (pw : Nat) (c k : Nat) : Nat := match c, k with
  | 0, 3 => pw
  | 1, 2 => pw
  | 1, 3 => pw
  | 2, 2 => pw
  | 2, 3 => pw
  | 3, 3 => 4
  | 4, 2 => 512
  | 5, 2 => 30
  | 5, 3 => 30
  | 7, 5 => 8
  | 7, 6 => 8
  | 7, 7 => 8
  | 7, 8 => 32
  | 7, 9 => 8
  | 7, 10 => 4160
  | 7, 11 => 4800
  | 7, 12 => 4800
  | 7, 14 => 30
  | 7, 15 => 30
  | 7, 17 => 600
  | 7, 18 => 600
  | 7, 19 => 600
  | 7, 20 => 320
  | 7, 21 => 320
  | 7, 22 => 320
  | _, _ => 0
def rT (c k : Nat) : Nat := match c, k with
  | 3, 2 => 3
  | 3, 4 => 5
  | 6, 1 => 6
  | 6, 2 => 9
  | 6, 3 => 9
  | 6, 4 => 1
  | 6, 5 => 2
  | 6, 6 => 3
  | _, _ => 0
/-- D: the objects that are whole; ow, sl: whose array it is, and in which place -/
def sh (pw : Nat) (D : Nat → Prop) (ow sl : Nat → Nat) (M : mm) : Prop := ∀ a c k : Nat, D a → mm_t M a = c + 1 →
  (aL pw c k ≠ 0 → mm_r M c k a ≠ 0 ∧ mm_t M (mm_f M c k a) = 100 ∧ mm_n M (mm_f M c k a) = aL pw c k ∧ ow (mm_f M c k a) = a ∧ sl (mm_f M c k a) = k) ∧
  (rT c k ≠ 0 → mm_r M c k a ≠ 0 ∧ mm_t M (mm_f M c k a) = rT c k ∧ D (mm_f M c k a))
section SH
variable {pw : Nat} {D : Nat → Prop} {ow sl : Nat → Nat} {M : mm} {a c k : Nat}
theorem sh.r (S : sh pw D ow sl M) (hD : D a) (hT : mm_t M a = c + 1) (k : Nat) (hk : aL pw c k ≠ 0) : mm_r M c k a ≠ 0 := ((S a c k hD hT).1 hk).1
theorem sh.t (S : sh pw D ow sl M) (hD : D a) (hT : mm_t M a = c + 1) (k : Nat) (hk : aL pw c k ≠ 0) : mm_t M (mm_f M c k a) = 100 := ((S a c k hD hT).1 hk).2.1
theorem sh.n (S : sh pw D ow sl M) (hD : D a) (hT : mm_t M a = c + 1) (k : Nat) (hk : aL pw c k ≠ 0) : mm_n M (mm_f M c k a) = aL pw c k := ((S a c k hD hT).1 hk).2.2.1
theorem sh.or (S : sh pw D ow sl M) (hD : D a) (hT : mm_t M a = c + 1) (k : Nat) (hk : rT c k ≠ 0) : mm_r M c k a ≠ 0 := ((S a c k hD hT).2 hk).1
theorem sh.ot (S : sh pw D ow sl M) (hD : D a) (hT : mm_t M a = c + 1) (k : Nat) (hk : rT c k ≠ 0) : mm_t M (mm_f M c k a) = rT c k := ((S a c k hD hT).2 hk).2.1
theorem sh.od (S : sh pw D ow sl M) (hD : D a) (hT : mm_t M a = c + 1) (k : Nat) (hk : rT c k ≠ 0) : D (mm_f M c k a) := ((S a c k hD hT).2 hk).2.2
/-- arrays of different owners, or in different places, are apart -/
theorem sh.ap (S : sh pw D ow sl M) {a2 c2 k2 : Nat} (hD : D a) (hT : mm_t M a = c + 1) (hk : aL pw c k ≠ 0) (hD2 : D a2) (hT2 : mm_t M a2 = c2 + 1) (hk2 : aL pw c2 k2 ≠ 0) (h : a ≠ a2 ∨ k ≠ k2) : mm_f M c k a ≠ mm_f M c2 k2 a2 := by
  intro e
  have h1 := ((S a c k hD hT).1 hk).2.2.2
  have h2 := ((S a2 c2 k2 hD2 hT2).1 hk2).2.2.2
  rw [e] at h1
  rcases h with h | h
  · exact h (h1.1.symm.trans h2.1)
  · exact h (h1.2.symm.trans h2.2)
theorem in_n {i n N : Nat} (h : i < N) (e : n = N) (hN : N < 2 ^ 31) : vp_in (nI i) n := by rw [e]; exact vp_in_nI h hN
theorem cl_n {i : Nat} (h : i < 2 ^ 31) : (nI i).toNatClampNeg = i := nI_clamp h
end SH
