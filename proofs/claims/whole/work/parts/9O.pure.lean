/-! ===== what each call answers, and the state behind it ===== -/
section M71
variable {pw n : Nat} {Z : zst}
noncomputable def cif {T : Type} (c : Prop) (a b : T) : T := @ite T c (Classical.propDecidable c) a b
theorem cif_t {T : Type} {c : Prop} {a b : T} (h : c) : cif c a b = a := @if_pos c (Classical.propDecidable c) h T a b
theorem cif_f {T : Type} {c : Prop} {a b : T} (h : ¬ c) : cif c a b = b := @if_neg c (Classical.propDecidable c) h T a b
theorem mul8b (n : Int32) : n <<< ((3 : Int32) &&& 31) ||| 2 = 8 * n + 2 := by
  apply Int32.toBitVec_inj.mp
  show n.toBitVec <<< ((3 : Int32) &&& 31).toBitVec.smod 32 ||| 2#32 = 8#32 * n.toBitVec + 2#32
  have e1 : (((3 : Int32) &&& 31).toBitVec.smod 32) = 3#32 := by decide
  rw [e1]
  apply BitVec.eq_of_toNat_eq
  have hn := n.toBitVec.isLt
  simp only [BitVec.toNat_or, BitVec.shiftLeft_eq', BitVec.toNat_shiftLeft, BitVec.toNat_add, BitVec.toNat_mul, BitVec.toNat_ofNat]
  generalize n.toBitVec.toNat = x at hn
  have e2 : x <<< (3 % 2 ^ 32) % 2 ^ 32 = 8 * (x % 2 ^ 29) := by
    rw [Nat.shiftLeft_eq, show (3 % 2 ^ 32 : Nat) = 3 from by decide]; omega
  rw [e2]
  have e3 := or8 (a := x % 2 ^ 29) (k := 2) (by decide)
  have e4 : (2 % 2 ^ 32) = 2 := by decide
  rw [e4, e3]
  omega
theorem kd_nm (n : Int32) : kd (8 * n + 2) = 2 := by
  unfold kd
  show (8#32 * n.toBitVec + 2#32).toNat % 8 = 2
  simp only [BitVec.toNat_add, BitVec.toNat_mul, BitVec.toNat_ofNat]
  omega
theorem ml_set {L : List pcs} {i : Nat} {P' : pcs} (h : ∀ P ∈ L, P.2.2.2.1.length ≤ n) (hP : P'.2.2.2.1.length ≤ n) : ∀ P ∈ L.set i P', P.2.2.2.1.length ≤ n := fun P hP2 => by
  rcases List.mem_or_eq_of_mem_set hP2 with e | e
  · exact h P e
  · rw [e]; exact hP
theorem zi.up (h : zi pw n Z) : zi pw (n + 1) Z := ⟨h.1, h.2.1, fun P hP => Nat.le_succ_of_le (h.2.2.1 P hP), Nat.le_succ_of_le h.2.2.2⟩
theorem zi_reg (h : zi pw n Z) {i j : Nat} {t : Int32} (hi : i < Z.1.length) (ht : vt (zget Z i).2.2.2.2 t) : zi pw n (zreg Z i j t) := ⟨zreg_ok h.1 hi ht, z8_reg h.2.1 hi, ml_set h.2.2.1 (h.2.2.1 (zget Z i) (zget_mem hi)), h.2.2.2⟩
theorem zi_col (h : zi pw n Z) {i : Nat} (hi : i < Z.1.length) : zi pw n (zcol Z i) := ⟨zcol_ok h.1 hi, z8_col h.2.1 hi, ml_set h.2.2.1 (by show (List.map _ _).length ≤ n; rw [List.length_map]; exact h.2.2.1 _ (zget_mem hi)), h.2.2.2⟩
theorem zi_trim (h : zi pw n Z) {i : Nat} (hi : i < Z.1.length) : zi pw n (ztrim Z i) := by
  have h1 := zi_col h hi
  exact ⟨ztrim_ok h.1 h.2.1 hi, z8_trim h.2.1 hi, ml_set h1.2.2.1 (h1.2.2.1 (zget (zcol Z i) i) (zget_mem (by rw [zcol_len]; exact hi))), h1.2.2.2⟩
theorem zi_room (h : zi pw n Z) {i q : Nat} (hi : i < Z.1.length) : zi pw n (zroom Z i q).2 := by
  have h1 := zi_col h hi
  refine ⟨zroom_ok h.1 hi, z8_room h.2.1 hi, ?_, by rw [zroom_lat]; exact h.2.2.2⟩
  unfold zroom
  split
  · exact h.2.2.1
  · split
    · exact ml_set h1.2.2.1 (h1.2.2.1 (zget (zcol Z i) i) (zget_mem (by rw [zcol_len]; exact hi)))
    · exact h1.2.2.1
theorem zi_pop (h : zi pw n Z) {i : Nat} (hi : i < Z.1.length) : zi pw n (zpop Z i) := ⟨zpop_ok h.1 hi, z8_pop h.2.1 hi, ml_set h.2.2.1 (by show (List.tail _).length ≤ n; rw [List.length_tail]; have := h.2.2.1 _ (zget_mem hi); omega), h.2.2.2⟩
theorem zi_bk (h : zi pw n Z) (hp6 : pw ≤ 600) {i : Nat} {b : bk} (hi : i < Z.1.length) (h1 : bok b) (h2 : ∀ t ∈ bpt b, vt (zget Z i).2.2.2.2 t) (h3 : ¬ b.1 = 5) (h4 : hsz (zget Z i).2.2.2.2 + bsz b ≤ (zget Z i).2.1) : zi pw n (zbk Z i b) := ⟨zbk_ok h.1 hp6 hi h1 h2 h3 h4, z8_bk h.2.1 hi, ml_set h.2.2.1 (h.2.2.1 (zget Z i) (zget_mem hi)), h.2.2.2⟩
theorem zi_blob (h : zi pw n Z) (hp6 : pw ≤ 600) {i z : Nat} (hi : i < Z.1.length) (hz : 1 ≤ z) (hf : z ≤ Z.2.1.1) (hb : Z.2.1.2.1 < 30) (h4 : hsz (zget Z i).2.2.2.2 + 2 ≤ (zget Z i).2.1) : zi pw n (zblob Z i z) := ⟨zblob_ok h.1 hp6 hi hz hf hb h4, z8_bk (Z := (Z.1, pmb Z.2.1 (zfw Z) z, Z.2.2.1, Z.2.2.2)) h.2.1 hi, ml_set h.2.2.1 (h.2.2.1 (zget Z i) (zget_mem hi)), h.2.2.2⟩
theorem zi_ex (h : zi pw n Z) {i : Nat} (hi : i < Z.1.length) : zi pw n (zex Z i) := ⟨zex_ok h.1 hi, z8_ex h.2.1, fun P hP => h.2.2.1 P ((List.eraseIdx_sublist Z.1 i).mem hP), h.2.2.2⟩
theorem zi_sp (h : zi pw n Z) (h8 : Z.1.length < 8) (hf : 8 ≤ Z.2.1.1) : zi pw (n + 1) (zsp Z) := ⟨zsp_ok h.1 h8 hf, z8_sp h.2.1, fun P hP => by
  rcases List.mem_append.mp hP with e | e
  · exact Nat.le_succ_of_le (h.2.2.1 P e)
  · rw [List.mem_singleton.mp e]; exact Nat.zero_le _, Nat.succ_le_succ h.2.2.2⟩
theorem zi_own (h : zi pw n Z) {i : Nat} {t : Int32} (hi : i < Z.1.length) (ht : vt (zget Z i).2.2.2.2 t) : zi pw (n + 1) (zown Z i t) := by
  obtain ⟨k1, k2, k3, k4, k5, k6⟩ := h.1.1 _ (zget_mem hi)
  refine ⟨zset_ok h.1 hi ⟨k1, k2, k3, k4, fun t1 h1 => ?_, k6⟩ rfl rfl rfl, z8_own h.2.1 hi, ml_set (fun P hP => Nat.le_succ_of_le (h.2.2.1 P hP)) ?_, Nat.le_succ_of_le h.2.2.2⟩
  · rcases List.mem_append.mp h1 with e | e
    · exact k5 t1 e
    · rw [List.mem_singleton.mp e]; exact ht
  · show (_ ++ [t]).length ≤ n + 1
    rw [List.length_append]
    have := h.2.2.1 _ (zget_mem hi)
    simp
    exact this
theorem zdel_at {s r : Nat} {t : Int32} (hr : r < Z.1.length) : (zget (zdel Z s r t).2 r).2.2.2.1.length ≤ (zget Z r).2.2.2.1.length + 1 := by
  unfold zdel
  split
  · unfold ztak
    rw [zget_set (by rw [zroom_len]; exact hr), if_pos rfl]
    show ((zget _ r).2.2.2.1 ++ [_]).length ≤ _
    rw [List.length_append, zroom_mlen hr]
    exact Nat.le_refl _
  · show (zget (zroom _ _ _).2 r).2.2.2.1.length ≤ _
    rw [zroom_mlen hr]
    exact Nat.le_succ _
theorem zall {p : pcs → Prop} (h : ∀ j, j < Z.1.length → p (zget Z j)) : ∀ P ∈ Z.1, p P := fun P hP => by
  obtain ⟨i, hi, rfl⟩ := List.getElem_of_mem hP
  have := h i hi
  unfold zget at this
  rw [List.getD_eq_getElem?_getD, List.getElem?_eq_getElem hi] at this
  exact this
theorem zi_bc (hp6 : pw ≤ 600) {s : Nat} {t : Int32} : ∀ {q i got : Nat} {Z : zst}, i + q = Z.1.length → zok pw Z → z8 Z → Z.2.2.1 ≤ n + 1 → s < Z.1.length → vt (zget Z s).2.2.2.2 t → (∀ j, j < Z.1.length → (zget Z j).2.2.2.1.length ≤ if j < i then n + 1 else n) → zi pw (n + 1) (zbc s t q i got Z).2
  | 0, i, got, Z, e, h1, h2, h3, h4, h5, h6 => ⟨h1, h2, zall (fun j hj => by
      have hj2 : j < Z.1.length := hj
      have := h6 j hj2
      rw [if_pos (by omega)] at this
      exact this), h3⟩
  | q + 1, i, got, Z, e, h1, h2, h3, h4, h5, h6 => by
    have hi : i < Z.1.length := by omega
    unfold zbc
    split
    · refine zi_bc hp6 (by omega) h1 h2 h3 h4 h5 (fun j hj => Nat.le_trans (h6 j hj) ?_)
      split <;> split <;> omega
    · rename_i hne
      refine zi_bc hp6 (by rw [zdel_len]; omega) (zdel_ok h1 hp6 hi h4 (fun z => hne z.symm) h5) (z8_del h2 hi) (by rw [zdel_lat]; exact h3) (by rw [zdel_len]; exact h4) (by rw [zdel_ne hi (fun z => hne z.symm)]; exact h5) (fun j hj => ?_)
      rw [zdel_len] at hj
      by_cases e9 : j = i
      · rw [e9, if_pos (by omega)]
        have a1 := zdel_at (Z := Z) (s := s) (t := t) hi
        have a2 := h6 i hi
        rw [if_neg (by omega)] at a2
        omega
      · rw [zdel_ne hi e9]
        refine Nat.le_trans (h6 j hj) ?_
        split <;> split <;> omega
theorem zi_send (h : zi pw n Z) (hp6 : pw ≤ 600) {s r : Nat} {t : Int32} (hs : s < Z.1.length) (hr : r < Z.1.length) (ht : vt (zget Z s).2.2.2.2 t) : zi pw (n + 1) (zsend Z s r t).2 := by
  unfold zsend
  split
  · exact zi_own h hs ht
  · rename_i hne
    refine ⟨zdel_ok h.1 hp6 hr hs (fun z => hne z.symm) ht, z8_del h.2.1 hr, zall (fun j hj => ?_), by rw [zdel_lat]; exact Nat.le_succ_of_le h.2.2.2⟩
    rw [zdel_len] at hj
    by_cases e9 : j = r
    · rw [e9]
      have a1 := zdel_at (Z := Z) (s := s) (t := t) hr
      have a2 := h.2.2.1 _ (zget_mem hr)
      omega
    · rw [zdel_ne hr e9]
      exact Nat.le_succ_of_le (h.2.2.1 _ (zget_mem hj))
noncomputable def F_spawn (Z : zst) : Int32 × Int32 × zst := cif (Z.1.length < 8 ∧ 8 ≤ Z.2.1.1) (0, nI (Z.2.2.1 + 1), zsp Z) ((1, 0, Z))
noncomputable def F_exit (Z : zst) (xv : Int32) : Int32 × Int32 × zst := cif ((plc Z xv) < Z.1.length) (0, nI (zex Z (plc Z xv)).2.1.1 - nI Z.2.1.1, zex Z (plc Z xv)) ((1, 0, Z))
noncomputable def F_nil (Z : zst) (xv rv : Int32) : Int32 × Int32 × zst := cif ((plc Z xv) < Z.1.length ∧ rok rv) (0, 0, zreg Z (plc Z xv) rv.toNatClampNeg 0) ((1, 0, Z))
noncomputable def F_integer (Z : zst) (xv rv nv : Int32) : Int32 × Int32 × zst := cif (¬ ((plc Z xv) < Z.1.length ∧ rok rv)) (1, 0, Z) (cif (¬ (¬ nv < -134217728 ∧ nv ≤ 134217727)) (2, 0, Z) ((0, 0, zreg Z (plc Z xv) rv.toNatClampNeg (8 * nv + 1))))
noncomputable def F_name (Z : zst) (xv rv nv : Int32) : Int32 × Int32 × zst := cif (¬ ((plc Z xv) < Z.1.length ∧ rok rv)) (1, 0, Z) (cif (¬ (¬ nv < 1 ∧ nv ≤ nI Z.2.2.1)) (2, 0, Z) ((0, 0, zreg Z (plc Z xv) rv.toNatClampNeg (8 * nv + 2))))
noncomputable def F_move (Z : zst) (xv rv av : Int32) : Int32 × Int32 × zst := cif ((plc Z xv) < Z.1.length ∧ rok rv ∧ rok av) (0, 0, zreg Z (plc Z xv) rv.toNatClampNeg (zrg Z (plc Z xv) av)) ((1, 0, Z))
noncomputable def F_pair (Z : zst) (xv rv av bv : Int32) : Int32 × Int32 × zst := cif (¬ ((plc Z xv) < Z.1.length ∧ rok rv ∧ rok av ∧ rok bv)) (1, 0, Z) (cif (¬ (zroom Z (plc Z xv) 2).1 = true) (2, 0, (zroom Z (plc Z xv) 2).2) ((0, 0, zreg (zbk (zroom Z (plc Z xv) 2).2 (plc Z xv) (3, [zrg (zroom Z (plc Z xv) 2).2 (plc Z xv) av, zrg (zroom Z (plc Z xv) 2).2 (plc Z xv) bv])) (plc Z xv) rv.toNatClampNeg (tk 3 (hsz (zget (zroom Z (plc Z xv) 2).2 (plc Z xv)).2.2.2.2)))))
noncomputable def F_tuple (Z : zst) (xv rv nv : Int32) : Int32 × Int32 × zst := cif (¬ ((plc Z xv) < Z.1.length ∧ rok rv)) (1, 0, Z) (cif (¬ (¬ nv < 0 ∧ nv ≤ 4)) (2, 0, Z) (cif (¬ (zroom Z (plc Z xv) (nv.toNatClampNeg + 1)).1 = true) (3, 0, (zroom Z (plc Z xv) (nv.toNatClampNeg + 1)).2) ((0, 0, zreg (zbk (zroom Z (plc Z xv) (nv.toNatClampNeg + 1)).2 (plc Z xv) (4, (zget (zroom Z (plc Z xv) (nv.toNatClampNeg + 1)).2 (plc Z xv)).2.2.1.take nv.toNatClampNeg)) (plc Z xv) rv.toNatClampNeg (tk 4 (hsz (zget (zroom Z (plc Z xv) (nv.toNatClampNeg + 1)).2 (plc Z xv)).2.2.2.2))))))
noncomputable def F_blob (Z : zst) (xv rv nv : Int32) : Int32 × Int32 × zst := cif (¬ ((plc Z xv) < Z.1.length ∧ rok rv)) (1, 0, Z) (cif (¬ (¬ nv < 1 ∧ nv ≤ 100)) (2, 0, Z) (cif (¬ (zroom Z (plc Z xv) 2).1 = true) (3, 0, (zroom Z (plc Z xv) 2).2) (cif (¬ (¬ nI (zroom Z (plc Z xv) 2).2.2.1.1 < nv ∧ (zroom Z (plc Z xv) 2).2.2.1.2.1 < 30)) (4, 0, (zroom Z (plc Z xv) 2).2) ((0, 0, zreg (zblob (zroom Z (plc Z xv) 2).2 (plc Z xv) nv.toNatClampNeg) (plc Z xv) rv.toNatClampNeg (tk 5 (hsz (zget (zroom Z (plc Z xv) 2).2 (plc Z xv)).2.2.2.2)))))))
noncomputable def F_part (Z : zst) (xv rv av kv : Int32) : Int32 × Int32 × zst := cif (¬ ((plc Z xv) < Z.1.length ∧ rok rv ∧ rok av)) (1, 0, Z) (cif (¬ (¬ kv < 0 ∧ kv < nI (pts (zget Z (plc Z xv)).2.2.2.2 (zrg Z (plc Z xv) av)).length)) (2, 0, Z) ((0, 0, zreg Z (plc Z xv) rv.toNatClampNeg ((pts (zget Z (plc Z xv)).2.2.2.2 (zrg Z (plc Z xv) av)).getD kv.toNatClampNeg 0))))
noncomputable def F_send (Z : zst) (xv rv tv : Int32) : Int32 × Int32 × zst := cif (¬ ((plc Z xv) < Z.1.length ∧ rok rv)) (1, 0, Z) (cif (¬ plc Z tv < Z.1.length) (0, 0, Z) (cif (¬ (zsend Z (plc Z xv) (plc Z tv) (zrg Z (plc Z xv) rv)).1 = true) (2, 0, (zsend Z (plc Z xv) (plc Z tv) (zrg Z (plc Z xv) rv)).2) ((0, 1, (zsend Z (plc Z xv) (plc Z tv) (zrg Z (plc Z xv) rv)).2))))
noncomputable def F_broadcast (Z : zst) (xv rv : Int32) : Int32 × Int32 × zst := cif ((plc Z xv) < Z.1.length ∧ rok rv) (0, nI (zbc (plc Z xv) (zrg Z (plc Z xv) rv) Z.1.length 0 0 Z).1, (zbc (plc Z xv) (zrg Z (plc Z xv) rv) Z.1.length 0 0 Z).2) ((1, 0, Z))
noncomputable def F_receive (Z : zst) (xv rv : Int32) : Int32 × Int32 × zst := cif (¬ ((plc Z xv) < Z.1.length ∧ rok rv)) (1, 0, Z) (cif ((zget Z (plc Z xv)).2.2.2.1.length = 0) (2, 0, Z) ((0, nI ((zget Z (plc Z xv)).2.2.2.1.length - 1), zreg (zpop Z (plc Z xv)) (plc Z xv) rv.toNatClampNeg ((zget Z (plc Z xv)).2.2.2.1.getD 0 0))))
noncomputable def F_collect (Z : zst) (xv : Int32) : Int32 × Int32 × zst := cif ((plc Z xv) < Z.1.length) (0, nI (hsz (zget Z (plc Z xv)).2.2.2.2) - nI (hsz (zget (zcol Z (plc Z xv)) (plc Z xv)).2.2.2.2), zcol Z (plc Z xv)) ((1, 0, Z))
noncomputable def F_trim (Z : zst) (xv : Int32) : Int32 × Int32 × zst := cif ((plc Z xv) < Z.1.length) (0, nI (lst8 (hsz (zget (zcol Z (plc Z xv)) (plc Z xv)).2.2.2.2)), ztrim Z (plc Z xv)) ((1, 0, Z))
noncomputable def F_count (Z : zst) (wq : Int32) : Int32 × Int32 × zst := cif (wq = 0 ∨ wq = 1 ∨ wq = 2 ∨ wq = 3 ∨ wq = 4) (0, if wq = 0 then nI Z.1.length else if wq = 1 then nI Z.2.1.1 else if wq = 2 then nI Z.2.1.2.1 else if wq = 3 then nI Z.2.2.1 else nI Z.2.2.2, Z) ((1, 0, Z))
noncomputable def F_of (Z : zst) (xv wq : Int32) : Int32 × Int32 × zst := cif (¬ (plc Z xv) < Z.1.length) (1, 0, Z) (cif (¬ (wq = 0 ∨ wq = 1 ∨ wq = 2)) (2, 0, Z) ((0, if wq = 0 then nI (zget Z (plc Z xv)).2.1 else if wq = 1 then nI (hsz (zget Z (plc Z xv)).2.2.2.2) else nI (zget Z (plc Z xv)).2.2.2.1.length, Z)))
noncomputable def F_kind (Z : zst) (xv rv : Int32) : Int32 × Int32 × zst := cif ((plc Z xv) < Z.1.length ∧ rok rv) (0, zrg Z (plc Z xv) rv &&& 7, Z) ((1, 0, Z))
noncomputable def F_value (Z : zst) (xv rv : Int32) : Int32 × Int32 × zst := cif ((plc Z xv) < Z.1.length ∧ rok rv) (0, zval Z (plc Z xv) (zrg Z (plc Z xv) rv), Z) ((1, 0, Z))
noncomputable def F_address (Z : zst) (xv rv : Int32) : Int32 × Int32 × zst := cif ((plc Z xv) < Z.1.length ∧ rok rv) (0, if kd (zrg Z (plc Z xv) rv) ≤ 2 then -1 else zrg Z (plc Z xv) rv >>> ((3 : Int32) &&& 31), Z) ((1, 0, Z))
noncomputable def F_words (Z : zst) (xv rv : Int32) : Int32 × Int32 × zst := cif ((plc Z xv) < Z.1.length ∧ rok rv) (0, nI (hsz (qB (zget Z (plc Z xv)).2.2.2.2 (led (zget Z (plc Z xv)).2.2.2.2 (zrg Z (plc Z xv) rv)))), Z) ((1, 0, Z))
noncomputable def F_handles (Z : zst) (xv rv : Int32) : Int32 × Int32 × zst := cif ((plc Z xv) < Z.1.length ∧ rok rv) (0, if kd (zrg Z (plc Z xv) rv) = 5 then nI (Z.2.1.2.2.2 ((hbt (zget Z (plc Z xv)).2.2.2.2 (zrg Z (plc Z xv) rv)).2.getD 0 0).toNatClampNeg) else 0, Z) ((1, 0, Z))
noncomputable def F_equal (Z : zst) (xv rv ov sv : Int32) : Int32 × Int32 × zst := cif (¬ (((plc Z xv) < Z.1.length ∧ rok rv) ∧ plc Z ov < Z.1.length ∧ rok sv)) (1, 0, Z) (cif ((cmpr (zget Z (plc Z xv)).2.2.2.2 (zget Z (plc Z ov)).2.2.2.2 2000 [(zrg Z (plc Z xv) rv, zrg Z (plc Z ov) sv)]).1 = true ∧ ¬ (cmpr (zget Z (plc Z xv)).2.2.2.2 (zget Z (plc Z ov)).2.2.2.2 2000 [(zrg Z (plc Z xv) rv, zrg Z (plc Z ov) sv)]).2 = []) (2, 0, Z) ((0, if (cmpr (zget Z (plc Z xv)).2.2.2.2 (zget Z (plc Z ov)).2.2.2.2 2000 [(zrg Z (plc Z xv) rv, zrg Z (plc Z ov) sv)]).1 = true then 1 else 0, Z)))
theorem FZ_spawn (h : zi pw n Z) (hp6 : pw ≤ 600) : zi pw (n + 1) (F_spawn Z ).2.2 := by
  unfold F_spawn
  by_cases c : Z.1.length < 8 ∧ 8 ≤ Z.2.1.1
  · rw [cif_t c]; exact zi_sp h c.1 c.2
  · rw [cif_f c]; exact h.up
theorem FZ_exit (h : zi pw n Z) (hp6 : pw ≤ 600) {xv : Int32} : zi pw (n + 1) (F_exit Z xv).2.2 := by
  unfold F_exit
  by_cases c : (plc Z xv) < Z.1.length
  · rw [cif_t c]
    exact (zi_ex h c).up
  · rw [cif_f c]; exact h.up
theorem FZ_nil (h : zi pw n Z) (hp6 : pw ≤ 600) {xv rv : Int32} : zi pw (n + 1) (F_nil Z xv rv).2.2 := by
  unfold F_nil
  by_cases c : (plc Z xv) < Z.1.length ∧ rok rv
  · rw [cif_t c]
    exact (zi_reg h c.1 (Or.inl (by decide))).up
  · rw [cif_f c]; exact h.up
theorem FZ_integer (h : zi pw n Z) (hp6 : pw ≤ 600) {xv rv nv : Int32} : zi pw (n + 1) (F_integer Z xv rv nv).2.2 := by
  unfold F_integer
  by_cases c0 : ¬ ((plc Z xv) < Z.1.length ∧ rok rv)
  · rw [cif_t c0]; exact h.up
  rw [cif_f c0]
  have c0 := Classical.not_not.mp c0
  by_cases c1 : ¬ (¬ nv < -134217728 ∧ nv ≤ 134217727)
  · rw [cif_t c1]; exact h.up
  rw [cif_f c1]
  have c1 := Classical.not_not.mp c1
  exact (zi_reg h c0.1 (Or.inl (by rw [kd_int]; decide))).up
theorem FZ_name (h : zi pw n Z) (hp6 : pw ≤ 600) {xv rv nv : Int32} : zi pw (n + 1) (F_name Z xv rv nv).2.2 := by
  unfold F_name
  by_cases c0 : ¬ ((plc Z xv) < Z.1.length ∧ rok rv)
  · rw [cif_t c0]; exact h.up
  rw [cif_f c0]
  have c0 := Classical.not_not.mp c0
  by_cases c1 : ¬ (¬ nv < 1 ∧ nv ≤ nI Z.2.2.1)
  · rw [cif_t c1]; exact h.up
  rw [cif_f c1]
  have c1 := Classical.not_not.mp c1
  exact (zi_reg h c0.1 (Or.inl (by rw [kd_nm]; decide))).up
theorem FZ_move (h : zi pw n Z) (hp6 : pw ≤ 600) {xv rv av : Int32} : zi pw (n + 1) (F_move Z xv rv av).2.2 := by
  unfold F_move
  by_cases c : (plc Z xv) < Z.1.length ∧ rok rv ∧ rok av
  · rw [cif_t c]
    exact (zi_reg h c.1 (zrg_vt h.1 c.1 c.2.2)).up
  · rw [cif_f c]; exact h.up
theorem FZ_pair (h : zi pw n Z) (hp6 : pw ≤ 600) {xv rv av bv : Int32} : zi pw (n + 1) (F_pair Z xv rv av bv).2.2 := by
  unfold F_pair
  by_cases c0 : ¬ ((plc Z xv) < Z.1.length ∧ rok rv ∧ rok av ∧ rok bv)
  · rw [cif_t c0]; exact h.up
  rw [cif_f c0]
  have c0 := Classical.not_not.mp c0
  by_cases c1 : ¬ (zroom Z (plc Z xv) 2).1 = true
  · rw [cif_t c1]; exact (zi_room h c0.1).up
  rw [cif_f c1]
  have c1 := Classical.not_not.mp c1
  have hr := zi_room (q := 2) h c0.1
  have hi9 : plc Z xv < (zroom Z (plc Z xv) (2)).2.1.length := by rw [zroom_len]; exact c0.1
  have hf := zroom_fit c0.1 c1
  generalize zroom Z (plc Z xv) (2) = Y at *
  have hb := zi_bk (b := (3, [zrg Y.2 (plc Z xv) av, zrg Y.2 (plc Z xv) bv])) hr hp6 hi9 (Or.inl ⟨rfl, rfl⟩) (fun t ht => by
    have ht2 : t ∈ [zrg Y.2 (plc Z xv) av, zrg Y.2 (plc Z xv) bv] := ht
    simp only [List.mem_cons, List.not_mem_nil, or_false] at ht2
    rcases ht2 with rfl | rfl
    · exact zrg_vt hr.1 hi9 c0.2.2.1
    · exact zrg_vt hr.1 hi9 c0.2.2.2) (show ¬ (3 : Nat) = 5 by decide) hf
  exact (zi_reg hb (by rw [zbk_len]; exact hi9) (by rw [zbk_get hi9]; exact vt_new (b := (3, _)))).up
theorem FZ_tuple (h : zi pw n Z) (hp6 : pw ≤ 600) {xv rv nv : Int32} : zi pw (n + 1) (F_tuple Z xv rv nv).2.2 := by
  unfold F_tuple
  by_cases c0 : ¬ ((plc Z xv) < Z.1.length ∧ rok rv)
  · rw [cif_t c0]; exact h.up
  rw [cif_f c0]
  have c0 := Classical.not_not.mp c0
  by_cases c1 : ¬ (¬ nv < 0 ∧ nv ≤ 4)
  · rw [cif_t c1]; exact h.up
  rw [cif_f c1]
  have c1 := Classical.not_not.mp c1
  by_cases c2 : ¬ (zroom Z (plc Z xv) (nv.toNatClampNeg + 1)).1 = true
  · rw [cif_t c2]; exact (zi_room h c0.1).up
  rw [cif_f c2]
  have c2 := Classical.not_not.mp c2
  have hv : nv.toNatClampNeg ≤ 4 := by
    rcases in4 c1.1 c1.2 with rfl | rfl | rfl | rfl | rfl <;> decide
  have hr := zi_room (q := nv.toNatClampNeg + 1) h c0.1
  have hi9 : plc Z xv < (zroom Z (plc Z xv) (nv.toNatClampNeg + 1)).2.1.length := by rw [zroom_len]; exact c0.1
  have hf := zroom_fit c0.1 c2
  generalize zroom Z (plc Z xv) (nv.toNatClampNeg + 1) = Y at *
  obtain ⟨k1, k2, k3, k4, k5⟩ := hr.1.1 _ (zget_mem hi9)
  have hln : ((zget Y.2 (plc Z xv)).2.2.1.take nv.toNatClampNeg).length = nv.toNatClampNeg := by rw [List.length_take, k1]; omega
  have hb := zi_bk (b := (4, (zget Y.2 (plc Z xv)).2.2.1.take nv.toNatClampNeg)) hr hp6 hi9 (Or.inr (Or.inl ⟨rfl, by rw [hln]; exact hv⟩)) (fun t ht => k4 t (List.mem_of_mem_take (show t ∈ (zget Y.2 (plc Z xv)).2.2.1.take nv.toNatClampNeg from ht))) (show ¬ (4 : Nat) = 5 by decide) (by
    have e9 : bsz (4, (zget Y.2 (plc Z xv)).2.2.1.take nv.toNatClampNeg) = nv.toNatClampNeg + 1 := by unfold bsz; rw [if_pos rfl, hln]
    rw [e9]; exact hf)
  exact (zi_reg hb (by rw [zbk_len]; exact hi9) (by rw [zbk_get hi9]; exact vt_new (b := (4, _)))).up
theorem FZ_blob (h : zi pw n Z) (hp6 : pw ≤ 600) {xv rv nv : Int32} : zi pw (n + 1) (F_blob Z xv rv nv).2.2 := by
  unfold F_blob
  by_cases c0 : ¬ ((plc Z xv) < Z.1.length ∧ rok rv)
  · rw [cif_t c0]; exact h.up
  rw [cif_f c0]
  have c0 := Classical.not_not.mp c0
  by_cases c1 : ¬ (¬ nv < 1 ∧ nv ≤ 100)
  · rw [cif_t c1]; exact h.up
  rw [cif_f c1]
  have c1 := Classical.not_not.mp c1
  by_cases c2 : ¬ (zroom Z (plc Z xv) 2).1 = true
  · rw [cif_t c2]; exact (zi_room h c0.1).up
  rw [cif_f c2]
  have c2 := Classical.not_not.mp c2
  by_cases c3 : ¬ (¬ nI (zroom Z (plc Z xv) 2).2.2.1.1 < nv ∧ (zroom Z (plc Z xv) 2).2.2.1.2.1 < 30)
  · rw [cif_t c3]; exact (zi_room h c0.1).up
  rw [cif_f c3]
  have c3 := Classical.not_not.mp c3
  obtain ⟨z9, h31, rfl⟩ := nI_of (x := nv) (fun z => c1.1 (Int32.lt_trans z (by decide)))
  rw [nI_clamp h31]
  have hz1 : 1 ≤ z9 := by
    have a1 : ¬ nI z9 < nI 1 := c1.1
    rw [nI_ltI h31 (by decide)] at a1
    omega
  have hr := zi_room (q := 2) h c0.1
  have hi9 : plc Z xv < (zroom Z (plc Z xv) (2)).2.1.length := by rw [zroom_len]; exact c0.1
  have hf := zroom_fit c0.1 c2
  generalize zroom Z (plc Z xv) (2) = Y at *
  have hff : Y.2.2.1.1 < 2 ^ 31 := by
    have := hr.1.2.2.2.2.2.2
    omega
  have hf2 : z9 ≤ Y.2.2.1.1 := by
    have a1 := c3.1
    rw [nI_ltI hff h31] at a1
    omega
  have hb := zi_blob hr hp6 hi9 hz1 hf2 c3.2 hf
  refine (zi_reg hb (by show _ < (zbk _ _ _).1.length; rw [zbk_len]; exact hi9) ?_).up
  unfold zblob
  rw [zbk_get (Z := (Y.2.1, pmb Y.2.2.1 (zfw Y.2) z9, Y.2.2.2.1, Y.2.2.2.2)) hi9]
  exact vt_new (b := (5, [nI (zfw Y.2)]))
theorem FZ_part (h : zi pw n Z) (hp6 : pw ≤ 600) {xv rv av kv : Int32} : zi pw (n + 1) (F_part Z xv rv av kv).2.2 := by
  unfold F_part
  by_cases c0 : ¬ ((plc Z xv) < Z.1.length ∧ rok rv ∧ rok av)
  · rw [cif_t c0]; exact h.up
  rw [cif_f c0]
  have c0 := Classical.not_not.mp c0
  by_cases c1 : ¬ (¬ kv < 0 ∧ kv < nI (pts (zget Z (plc Z xv)).2.2.2.2 (zrg Z (plc Z xv) av)).length)
  · rw [cif_t c1]; exact h.up
  rw [cif_f c1]
  have c1 := Classical.not_not.mp c1
  obtain ⟨k1, k2, k3, k4, k5, k6, k7⟩ := h.1.1 _ (zget_mem c0.1)
  obtain ⟨z9, h31, rfl⟩ := nI_of (x := kv) c1.1
  rw [nI_clamp h31]
  have hl4 := pts_4 k2 (zrg_vt h.1 c0.1 c0.2.2)
  have hz : z9 < (pts (zget Z (plc Z xv)).2.2.2.2 (zrg Z (plc Z xv) av)).length := (nI_ltI h31 (by omega)).mp c1.2
  exact (zi_reg h c0.1 (pts_vt k6 (getD_mem hz))).up
theorem FZ_send (h : zi pw n Z) (hp6 : pw ≤ 600) {xv rv tv : Int32} : zi pw (n + 1) (F_send Z xv rv tv).2.2 := by
  unfold F_send
  by_cases c0 : ¬ ((plc Z xv) < Z.1.length ∧ rok rv)
  · rw [cif_t c0]; exact h.up
  rw [cif_f c0]
  have c0 := Classical.not_not.mp c0
  by_cases c1 : ¬ plc Z tv < Z.1.length
  · rw [cif_t c1]; exact h.up
  rw [cif_f c1]
  have c1 := Classical.not_not.mp c1
  by_cases c2 : ¬ (zsend Z (plc Z xv) (plc Z tv) (zrg Z (plc Z xv) rv)).1 = true
  · rw [cif_t c2]; exact zi_send h hp6 c0.1 c1 (zrg_vt h.1 c0.1 c0.2)
  rw [cif_f c2]
  have c2 := Classical.not_not.mp c2
  exact zi_send h hp6 c0.1 c1 (zrg_vt h.1 c0.1 c0.2)
theorem FZ_broadcast (h : zi pw n Z) (hp6 : pw ≤ 600) {xv rv : Int32} : zi pw (n + 1) (F_broadcast Z xv rv).2.2 := by
  unfold F_broadcast
  by_cases c : (plc Z xv) < Z.1.length ∧ rok rv
  · rw [cif_t c]
    exact zi_bc hp6 (by omega) h.1 h.2.1 (Nat.le_succ_of_le h.2.2.2) c.1 (zrg_vt h.1 c.1 c.2) (fun j hj => by rw [if_neg (by omega)]; exact h.2.2.1 _ (zget_mem hj))
  · rw [cif_f c]; exact h.up
theorem FZ_receive (h : zi pw n Z) (hp6 : pw ≤ 600) {xv rv : Int32} : zi pw (n + 1) (F_receive Z xv rv).2.2 := by
  unfold F_receive
  by_cases c0 : ¬ ((plc Z xv) < Z.1.length ∧ rok rv)
  · rw [cif_t c0]; exact h.up
  rw [cif_f c0]
  have c0 := Classical.not_not.mp c0
  by_cases c1 : (zget Z (plc Z xv)).2.2.2.1.length = 0
  · rw [cif_t c1]; exact h.up
  rw [cif_f c1]
  have hz : 0 < (zget Z (plc Z xv)).2.2.2.1.length := by omega
  obtain ⟨k1, k2, k3, k4, k5, k6, k7⟩ := h.1.1 _ (zget_mem c0.1)
  refine (zi_reg (zi_pop h c0.1) (by rw [zpop_len]; exact c0.1) ?_).up
  unfold zpop
  rw [zget_set c0.1, if_pos rfl]
  exact k5 _ (getD_mem hz)
theorem FZ_collect (h : zi pw n Z) (hp6 : pw ≤ 600) {xv : Int32} : zi pw (n + 1) (F_collect Z xv).2.2 := by
  unfold F_collect
  by_cases c : (plc Z xv) < Z.1.length
  · rw [cif_t c]
    exact (zi_col h c).up
  · rw [cif_f c]; exact h.up
theorem FZ_trim (h : zi pw n Z) (hp6 : pw ≤ 600) {xv : Int32} : zi pw (n + 1) (F_trim Z xv).2.2 := by
  unfold F_trim
  by_cases c : (plc Z xv) < Z.1.length
  · rw [cif_t c]
    exact (zi_trim h c).up
  · rw [cif_f c]; exact h.up
theorem FZ_count (h : zi pw n Z) (hp6 : pw ≤ 600) {wq : Int32} : zi pw (n + 1) (F_count Z wq).2.2 := by
  unfold F_count
  by_cases c : wq = 0 ∨ wq = 1 ∨ wq = 2 ∨ wq = 3 ∨ wq = 4
  · rw [cif_t c]
    exact h.up
  · rw [cif_f c]; exact h.up
theorem FZ_of (h : zi pw n Z) (hp6 : pw ≤ 600) {xv wq : Int32} : zi pw (n + 1) (F_of Z xv wq).2.2 := by
  unfold F_of
  by_cases c0 : ¬ (plc Z xv) < Z.1.length
  · rw [cif_t c0]; exact h.up
  rw [cif_f c0]
  have c0 := Classical.not_not.mp c0
  by_cases c1 : ¬ (wq = 0 ∨ wq = 1 ∨ wq = 2)
  · rw [cif_t c1]; exact h.up
  rw [cif_f c1]
  have c1 := Classical.not_not.mp c1
  exact h.up
theorem FZ_kind (h : zi pw n Z) (hp6 : pw ≤ 600) {xv rv : Int32} : zi pw (n + 1) (F_kind Z xv rv).2.2 := by
  unfold F_kind
  by_cases c : (plc Z xv) < Z.1.length ∧ rok rv
  · rw [cif_t c]
    exact h.up
  · rw [cif_f c]; exact h.up
theorem FZ_value (h : zi pw n Z) (hp6 : pw ≤ 600) {xv rv : Int32} : zi pw (n + 1) (F_value Z xv rv).2.2 := by
  unfold F_value
  by_cases c : (plc Z xv) < Z.1.length ∧ rok rv
  · rw [cif_t c]
    exact h.up
  · rw [cif_f c]; exact h.up
theorem FZ_address (h : zi pw n Z) (hp6 : pw ≤ 600) {xv rv : Int32} : zi pw (n + 1) (F_address Z xv rv).2.2 := by
  unfold F_address
  by_cases c : (plc Z xv) < Z.1.length ∧ rok rv
  · rw [cif_t c]
    exact h.up
  · rw [cif_f c]; exact h.up
theorem FZ_words (h : zi pw n Z) (hp6 : pw ≤ 600) {xv rv : Int32} : zi pw (n + 1) (F_words Z xv rv).2.2 := by
  unfold F_words
  by_cases c : (plc Z xv) < Z.1.length ∧ rok rv
  · rw [cif_t c]
    exact h.up
  · rw [cif_f c]; exact h.up
theorem FZ_handles (h : zi pw n Z) (hp6 : pw ≤ 600) {xv rv : Int32} : zi pw (n + 1) (F_handles Z xv rv).2.2 := by
  unfold F_handles
  by_cases c : (plc Z xv) < Z.1.length ∧ rok rv
  · rw [cif_t c]
    exact h.up
  · rw [cif_f c]; exact h.up
theorem FZ_equal (h : zi pw n Z) (hp6 : pw ≤ 600) {xv rv ov sv : Int32} : zi pw (n + 1) (F_equal Z xv rv ov sv).2.2 := by
  unfold F_equal
  by_cases c0 : ¬ (((plc Z xv) < Z.1.length ∧ rok rv) ∧ plc Z ov < Z.1.length ∧ rok sv)
  · rw [cif_t c0]; exact h.up
  rw [cif_f c0]
  have c0 := Classical.not_not.mp c0
  by_cases c1 : (cmpr (zget Z (plc Z xv)).2.2.2.2 (zget Z (plc Z ov)).2.2.2.2 2000 [(zrg Z (plc Z xv) rv, zrg Z (plc Z ov) sv)]).1 = true ∧ ¬ (cmpr (zget Z (plc Z xv)).2.2.2.2 (zget Z (plc Z ov)).2.2.2.2 2000 [(zrg Z (plc Z xv) rv, zrg Z (plc Z ov) sv)]).2 = []
  · rw [cif_t c1]; exact h.up
  rw [cif_f c1]
  exact h.up
end M71
