/-! ===== terms as numbers ===== -/
def kd (t : Int32) : Nat := t.toBitVec.toNat % 8
theorem kd_lt (t : Int32) : kd t < 8 := Nat.mod_lt _ (by decide)
theorem and7 (t : Int32) : t &&& 7 = nI (kd t) := pk_and t 3 (by decide)
def tk (k a : Nat) : Int32 := nI (8 * a + k)
theorem kd_tk {k a : Nat} (hk : k < 8) (h : 8 * a + k < 2 ^ 31) : kd (tk k a) = k := by
  unfold kd tk
  rw [pk_tn (by omega)]
  omega
theorem shr3 {k a : Nat} (hk : k < 8) (h : 8 * a + k < 2 ^ 31) : tk k a >>> ((3 : Int32) &&& 31) = nI a := by
  unfold tk
  rw [pk_shrN h _ 3 (by decide)]
  congr 1
  omega
theorem nI_or (a b : Nat) : nI a ||| nI b = nI (a ||| b) := by
  apply Int32.toBitVec_inj.mp
  show BitVec.ofNat 32 a ||| BitVec.ofNat 32 b = BitVec.ofNat 32 (a ||| b)
  exact BitVec.ofNat_or.symm
theorem or8 {a k : Nat} (hk : k < 8) : 8 * a ||| k = 8 * a + k := by
  have h := Nat.two_pow_add_eq_or_of_lt (i := 3) (b := k) hk a
  simpa using h.symm
theorem shl3 {k a : Nat} (hk : k < 8) (h : 8 * a + k < 2 ^ 31) : nI a <<< ((3 : Int32) &&& 31) ||| nI k = tk k a := by
  rw [pk_shlN _ 3 (by decide) (by omega), nI_or]
  unfold tk
  congr 1
  rw [← or8 hk]
  congr 1
  omega
theorem tk_eq {k a : Nat} : nI 8 * nI a + nI k = tk k a := by rw [pk_mul, nI_add]; rfl
theorem tk_inj {k a k2 a2 : Nat} (hk : k < 8) (hk2 : k2 < 8) (h : 8 * a + k < 2 ^ 31) (h2 : 8 * a2 + k2 < 2 ^ 31) (e : tk k a = tk k2 a2) : k = k2 ∧ a = a2 := by
  have h3 := (nI_eq h h2).mp e
  omega
/-! an integer as a term: the class shifts, the reference multiplies -/
theorem mul8 (n : Int32) : n <<< ((3 : Int32) &&& 31) ||| 1 = 8 * n + 1 := by
  apply Int32.toBitVec_inj.mp
  show n.toBitVec <<< ((3 : Int32) &&& 31).toBitVec.smod 32 ||| 1#32 = 8#32 * n.toBitVec + 1#32
  have e1 : (((3 : Int32) &&& 31).toBitVec.smod 32) = 3#32 := by decide
  rw [e1]
  apply BitVec.eq_of_toNat_eq
  have hn := n.toBitVec.isLt
  simp only [BitVec.toNat_or, BitVec.shiftLeft_eq', BitVec.toNat_shiftLeft, BitVec.toNat_add, BitVec.toNat_mul, BitVec.toNat_ofNat]
  generalize n.toBitVec.toNat = x at hn
  have e2 : x <<< (3 % 2 ^ 32) % 2 ^ 32 = 8 * (x % 2 ^ 29) := by
    rw [Nat.shiftLeft_eq, show (3 % 2 ^ 32 : Nat) = 3 from by decide]; omega
  rw [e2]
  have e3 := or8 (a := x % 2 ^ 29) (k := 1) (by decide)
  have e4 : (1 % 2 ^ 32) = 1 := by decide
  rw [e4, e3]
  omega
theorem kd_int (n : Int32) : kd (8 * n + 1) = 1 := by
  unfold kd
  show (8#32 * n.toBitVec + 1#32).toNat % 8 = 1
  simp only [BitVec.toNat_add, BitVec.toNat_mul, BitVec.toNat_ofNat]
  omega
