/-! ===== reading behind a write ===== -/
section ML
variable {M : mm} {c k a c2 k2 a2 t n r : Nat} {v : Int32} {f : Nat → Int32} {fl : Nat → Int64} {fq : Nat → Nat}
theorem mt_si : mm_t (mm_si M c k a v) = mm_t M := rfl
theorem mr_si : mm_r (mm_si M c k a v) = mm_r M := rfl
theorem mn_si : mm_n (mm_si M c k a v) = mm_n M := rfl
theorem ma_si : mm_a (mm_si M c k a v) = mm_a M := rfl
theorem ml_si : mm_l (mm_si M c k a v) = mm_l M := rfl
theorem mq_si : mm_q (mm_si M c k a v) = mm_q M := rfl
theorem mf_si : mm_f (mm_si M c k a v) = mm_f M := rfl
theorem me_si : mm_e (mm_si M c k a v) = mm_e M := rfl
theorem mt_sr : mm_t (mm_sr M c k a r) = mm_t M := rfl
theorem mi_sr : mm_i (mm_sr M c k a r) = mm_i M := rfl
theorem mn_sr : mm_n (mm_sr M c k a r) = mm_n M := rfl
theorem ma_sr : mm_a (mm_sr M c k a r) = mm_a M := rfl
theorem ml_sr : mm_l (mm_sr M c k a r) = mm_l M := rfl
theorem mq_sr : mm_q (mm_sr M c k a r) = mm_q M := rfl
theorem me_sr : mm_e (mm_sr M c k a r) = mm_e M := rfl
theorem mt_sa : mm_t (mm_sa M a f) = mm_t M := rfl
theorem mi_sa : mm_i (mm_sa M a f) = mm_i M := rfl
theorem mr_sa : mm_r (mm_sa M a f) = mm_r M := rfl
theorem mn_sa : mm_n (mm_sa M a f) = mm_n M := rfl
theorem ml_sa : mm_l (mm_sa M a f) = mm_l M := rfl
theorem mq_sa : mm_q (mm_sa M a f) = mm_q M := rfl
theorem mf_sa : mm_f (mm_sa M a f) = mm_f M := rfl
theorem me_sa : mm_e (mm_sa M a f) = mm_e M := rfl
theorem mt_sl : mm_t (mm_sl M a fl) = mm_t M := rfl
theorem mi_sl : mm_i (mm_sl M a fl) = mm_i M := rfl
theorem mr_sl : mm_r (mm_sl M a fl) = mm_r M := rfl
theorem mn_sl : mm_n (mm_sl M a fl) = mm_n M := rfl
theorem ma_sl : mm_a (mm_sl M a fl) = mm_a M := rfl
theorem mq_sl : mm_q (mm_sl M a fl) = mm_q M := rfl
theorem mf_sl : mm_f (mm_sl M a fl) = mm_f M := rfl
theorem me_sl : mm_e (mm_sl M a fl) = mm_e M := rfl
theorem mt_sq : mm_t (mm_sq M a fq) = mm_t M := rfl
theorem mi_sq : mm_i (mm_sq M a fq) = mm_i M := rfl
theorem mr_sq : mm_r (mm_sq M a fq) = mm_r M := rfl
theorem mn_sq : mm_n (mm_sq M a fq) = mm_n M := rfl
theorem ma_sq : mm_a (mm_sq M a fq) = mm_a M := rfl
theorem ml_sq : mm_l (mm_sq M a fq) = mm_l M := rfl
theorem mf_sq : mm_f (mm_sq M a fq) = mm_f M := rfl
theorem mi_si : mm_i (mm_si M c k a v) c2 k2 a2 = if c2 = c ∧ k2 = k ∧ a2 = a then v else mm_i M c2 k2 a2 := rfl
theorem mi_si_s : mm_i (mm_si M c k a v) c k a = v := if_pos ⟨rfl, rfl, rfl⟩
theorem mi_si_k (h : k2 ≠ k) : mm_i (mm_si M c k a v) c k2 a2 = mm_i M c k2 a2 := if_neg (fun z => h z.2.1)
theorem mi_si_c (h : c2 ≠ c) : mm_i (mm_si M c k a v) c2 k2 a2 = mm_i M c2 k2 a2 := if_neg (fun z => h z.1)
theorem mi_si_a (h : a2 ≠ a) : mm_i (mm_si M c k a v) c k a2 = mm_i M c k a2 := if_neg (fun z => h z.2.2)
theorem mr_sr : mm_r (mm_sr M c k a r) c2 k2 a2 = if c2 = c ∧ k2 = k ∧ a2 = a then r + 1 else mm_r M c2 k2 a2 := rfl
theorem mf_sr : mm_f (mm_sr M c k a r) c2 k2 a2 = if c2 = c ∧ k2 = k ∧ a2 = a then r else mm_f M c2 k2 a2 := by
  unfold mm_f
  rw [mr_sr]
  split <;> rfl
theorem mf_sr_s : mm_f (mm_sr M c k a r) c k a = r := by rw [mf_sr, if_pos ⟨rfl, rfl, rfl⟩]
theorem mr_sr_s : mm_r (mm_sr M c k a r) c k a = r + 1 := by rw [mr_sr, if_pos ⟨rfl, rfl, rfl⟩]
theorem ma_sa : mm_a (mm_sa M a f) a2 = if a2 = a then f else mm_a M a2 := rfl
theorem ma_sa_s : mm_a (mm_sa M a f) a = f := if_pos rfl
theorem ma_sa_n (h : a2 ≠ a) : mm_a (mm_sa M a f) a2 = mm_a M a2 := if_neg h
theorem ml_sl : mm_l (mm_sl M a fl) a2 = if a2 = a then fl else mm_l M a2 := rfl
theorem ml_sl_s : mm_l (mm_sl M a fl) a = fl := if_pos rfl
theorem mq_sq : mm_q (mm_sq M a fq) a2 = if a2 = a then fq else mm_q M a2 := rfl
theorem mq_sq_s : mm_q (mm_sq M a fq) a = fq := if_pos rfl
theorem me_sq {i : Nat} : mm_e (mm_sq M a fq) a2 i = if a2 = a then fq i - 1 else mm_e M a2 i := by
  unfold mm_e
  rw [mq_sq]
  split <;> rfl
theorem mt_nw : mm_t (mm_nw M a t n) a2 = if a2 = a then t else mm_t M a2 := rfl
theorem mi_nw : mm_i (mm_nw M a t n) c2 k2 a2 = if a2 = a then 0 else mm_i M c2 k2 a2 := rfl
theorem mr_nw : mm_r (mm_nw M a t n) c2 k2 a2 = if a2 = a then 0 else mm_r M c2 k2 a2 := rfl
theorem mf_nw : mm_f (mm_nw M a t n) c2 k2 a2 = if a2 = a then 0 else mm_f M c2 k2 a2 := by
  unfold mm_f
  rw [mr_nw]
  split <;> rfl
theorem mn_nw : mm_n (mm_nw M a t n) a2 = if a2 = a then n else mm_n M a2 := rfl
theorem ma_nw : mm_a (mm_nw M a t n) a2 = if a2 = a then fun _ => 0 else mm_a M a2 := rfl
theorem ml_nw : mm_l (mm_nw M a t n) a2 = if a2 = a then fun _ => 0 else mm_l M a2 := rfl
theorem mq_nw : mm_q (mm_nw M a t n) a2 = if a2 = a then fun _ => 0 else mm_q M a2 := rfl
theorem me_nw {i : Nat} : mm_e (mm_nw M a t n) a2 i = if a2 = a then 0 else mm_e M a2 i := by
  unfold mm_e
  rw [mq_nw]
  split <;> rfl
/-! writes that undo each other -/
theorem si_si {w : Int32} : mm_si (mm_si M c k a v) c k a w = mm_si M c k a w := by
  show (_, _, _, _, _, _, _) = (_, _, _, _, _, _, _)
  refine congrArg (fun z => (mm_t M, z, mm_r M, mm_n M, mm_a M, mm_l M, mm_q M)) ?_
  funext c' k' a'
  by_cases h : c' = c ∧ k' = k ∧ a' = a
  · rw [if_pos h, if_pos h]
  · rw [if_neg h, if_neg h]; exact if_neg h
theorem si_id (h : mm_i M c k a = v) : mm_si M c k a v = M := by
  obtain ⟨t, i, r⟩ := M
  refine congrArg (fun z => (t, z, r)) ?_
  funext c' k' a'
  by_cases h2 : c' = c ∧ k' = k ∧ a' = a
  · rw [if_pos h2, ← h, h2.1, h2.2.1, h2.2.2]; rfl
  · rw [if_neg h2]; rfl
theorem sa_sa {f2 : Nat → Int32} : mm_sa (mm_sa M a f) a f2 = mm_sa M a f2 := by
  refine congrArg (fun z => (mm_t M, mm_i M, mm_r M, mm_n M, z, mm_l M, mm_q M)) ?_
  funext b
  by_cases h : b = a
  · rw [if_pos h, if_pos h]
  · rw [if_neg h, if_neg h]; exact if_neg h
theorem sa_id (h : mm_a M a = f) : mm_sa M a f = M := by
  obtain ⟨t, i, r, n, aa, rest⟩ := M
  refine congrArg (fun z => (t, i, r, n, z, rest)) ?_
  funext b
  by_cases h2 : b = a
  · rw [if_pos h2, ← h, h2]; rfl
  · rw [if_neg h2]; rfl
theorem sa_cm {b : Nat} {f2 : Nat → Int32} (h : a ≠ b) : mm_sa (mm_sa M a f) b f2 = mm_sa (mm_sa M b f2) a f := by
  refine congrArg (fun z => (mm_t M, mm_i M, mm_r M, mm_n M, z, mm_l M, mm_q M)) ?_
  funext q
  show (if q = b then f2 else if q = a then f else mm_a M q) = (if q = a then f else if q = b then f2 else mm_a M q)
  by_cases h1 : q = b
  · rw [if_pos h1, if_neg (fun z => h (z.symm.trans h1)), if_pos h1]
  · rw [if_neg h1, if_neg h1]
theorem si_cm {w : Int32} (h : ¬ (c = c2 ∧ k = k2 ∧ a = a2)) : mm_si (mm_si M c k a v) c2 k2 a2 w = mm_si (mm_si M c2 k2 a2 w) c k a v := by
  refine congrArg (fun z => (mm_t M, z, mm_r M, mm_n M, mm_a M, mm_l M, mm_q M)) ?_
  funext c' k' a'
  show (if c' = c2 ∧ k' = k2 ∧ a' = a2 then w else if c' = c ∧ k' = k ∧ a' = a then v else mm_i M c' k' a') = (if c' = c ∧ k' = k ∧ a' = a then v else if c' = c2 ∧ k' = k2 ∧ a' = a2 then w else mm_i M c' k' a')
  by_cases h1 : c' = c2 ∧ k' = k2 ∧ a' = a2
  · rw [if_pos h1, if_neg (fun z => h ⟨z.1.symm.trans h1.1, z.2.1.symm.trans h1.2.1, z.2.2.symm.trans h1.2.2⟩), if_pos h1]
  · rw [if_neg h1, if_neg h1]
theorem si_sa : mm_si (mm_sa M a f) c k a2 v = mm_sa (mm_si M c k a2 v) a f := rfl
theorem si_sr : mm_si (mm_sr M c k a r) c2 k2 a2 v = mm_sr (mm_si M c2 k2 a2 v) c k a r := rfl
theorem sr_sa : mm_sr (mm_sa M a f) c k a2 r = mm_sa (mm_sr M c k a2 r) a f := rfl
end ML
