/-! ===== the reference: its memory; small methods ===== -/
section M48
variable {g : gg} {X : State → Prop} {t0 : Nat} {l : Launch} {M : mm} {M1 M2 : mm} {pw : Nat} {D : Nat → Prop} {ow sl : Nat → Nat} {mo : Nat} {Ki Ka : List Nat} {k : Nat} {B : List bk}
/-- its arrays -/
def RA : List Nat := [5, 6, 7, 8, 9, 10, 11, 12, 14, 15, 17, 18, 19, 20, 21, 22]
theorem RA_ok (h : k ∈ RA) : aL pw 7 k ≠ 0 := by
  unfold RA at h
  simp only [List.mem_cons, List.not_mem_nil, or_false] at h
  rcases h with h | h | h | h | h | h | h | h | h | h | h | h | h | h | h | h <;> subst h <;> exact Nat.succ_ne_zero _
def rs (pw : Nat) (D : Nat → Prop) (ow sl : Nat → Nat) (M : mm) (mo : Nat) : Prop := sh pw D ow sl M ∧ D mo ∧ mm_t M mo = 8
theorem rs.r (R : rs pw D ow sl M mo) (k : Nat) (h : k ∈ RA) : mm_r M 7 k mo ≠ 0 := R.1.r R.2.1 R.2.2 k (RA_ok h)
theorem rs.t (R : rs pw D ow sl M mo) (k : Nat) (h : k ∈ RA) : mm_t M (mm_f M 7 k mo) = 100 := R.1.t R.2.1 R.2.2 k (RA_ok h)
theorem rs.n (R : rs pw D ow sl M mo) (k : Nat) (h : k ∈ RA) : mm_n M (mm_f M 7 k mo) = aL pw 7 k := R.1.n R.2.1 R.2.2 k (RA_ok h)
theorem rs.ne (R : rs pw D ow sl M mo) {k k2 : Nat} (h : k ∈ RA) (h2 : k2 ∈ RA) (hn : k ≠ k2) : mm_f M 7 k mo ≠ mm_f M 7 k2 mo := R.1.ap R.2.1 R.2.2 (RA_ok h) R.2.1 R.2.2 (RA_ok h2) (Or.inr hn)
/-- an array of it, an int field of it -/
def ra (M : mm) (mo k : Nat) : Nat → Int32 := mm_a M (mm_f M 7 k mo)
def ri (M : mm) (mo k : Nat) : Int32 := mm_i M 7 k mo
/-- only these int fields and these arrays of it have changed -/
def rx (Ki Ka : List Nat) (mo : Nat) (M M1 : mm) : Prop := fr (fun c' k a => c' = 7 ∧ k ∈ Ki ∧ a = mo) (fun _ _ _ => False) (fun a => ∃ k ∈ Ka, a = mm_f M 7 k mo) M M1
theorem rx.f {c a : Nat} (F : rx Ki Ka mo M M1) : mm_f M1 c k a = mm_f M c k a := fr.f F (fun z => z)
theorem rx.to (F : rx Ki Ka mo M M1) (R : rs pw D ow sl M mo) : rs pw D ow sl M1 mo := ⟨fr.sh F (fun _ _ _ z => z.elim) R.1, R.2.1, by rw [F.1]; exact R.2.2⟩
theorem rx.rf : rx Ki Ka mo M M := fr.rf
theorem rx.mono {Ki2 Ka2 : List Nat} (F : rx Ki Ka mo M M1) (h1 : ∀ k ∈ Ki, k ∈ Ki2) (h2 : ∀ k ∈ Ka, k ∈ Ka2) : rx Ki2 Ka2 mo M M1 := fr.mono F (fun c' k a z => ⟨z.1, h1 k z.2.1, z.2.2⟩) (fun _ _ _ z => z) (fun a ⟨k, z1, z2⟩ => ⟨k, h2 k z1, z2⟩)
theorem rx.trans (F : rx Ki Ka mo M M1) (F2 : rx Ki Ka mo M1 M2) : rx Ki Ka mo M M2 := fr.trans F (fr.mono F2 (fun _ _ _ z => z) (fun _ _ _ z => z) (fun a ⟨k, z1, z2⟩ => ⟨k, z1, by rw [z2, F.f]⟩))
theorem rx.a (F : rx Ki Ka mo M M1) (R : rs pw D ow sl M mo) (h : k ∈ RA) (hK : ∀ k' ∈ Ka, k' ∈ RA) (hn : k ∉ Ka) : ra M1 mo k = ra M mo k := by
  unfold ra
  rw [F.f]
  refine F.2.2.2.2.2.2 _ (fun ⟨k', h1, h2⟩ => ?_)
  exact R.ne h (hK k' h1) (fun z => hn (by rw [z]; exact h1)) h2
theorem rx.i (F : rx Ki Ka mo M M1) (hn : k ∉ Ki) : ri M1 mo k = ri M mo k := F.2.2.2.2.1 _ _ _ (fun z => hn z.2.1)
/-- writing -/
def mw (M : mm) (mo k : Nat) (f : Nat → Int32) : mm := mm_sa M (mm_f M 7 k mo) f
def mi (M : mm) (mo k : Nat) (v : Int32) : mm := mm_si M 7 k mo v
theorem rx_mw {f : Nat → Int32} : rx [] [k] mo M (mw M mo k f) := ⟨rfl, rfl, rfl, rfl, fun _ _ _ _ => rfl, fun _ _ _ _ => rfl, fun a z => ma_sa_n (fun y => z ⟨k, by simp, y⟩)⟩
theorem rx_mi {v : Int32} : rx [k] [] mo M (mi M mo k v) := ⟨rfl, rfl, rfl, rfl, fun _ _ _ z => if_neg (fun y => z ⟨y.1, by rw [y.2.1]; simp, y.2.2⟩), fun _ _ _ _ => rfl, fun a _ => rfl⟩
theorem ra_mw {f : Nat → Int32} : ra (mw M mo k f) mo k = f := ma_sa_s
theorem ra_mi {k2 : Nat} {v : Int32} : ra (mi M mo k v) mo k2 = ra M mo k2 := rfl
theorem ri_mw {k2 : Nat} {f : Nat → Int32} : ri (mw M mo k f) mo k2 = ri M mo k2 := rfl
theorem ri_mi {v : Int32} : ri (mi M mo k v) mo k = v := if_pos ⟨rfl, rfl, rfl⟩
theorem ri_mi_n {k2 : Nat} {v : Int32} (h : k2 ≠ k) : ri (mi M mo k v) mo k2 = ri M mo k2 := if_neg (fun z => h z.2.1)
theorem ra_mw_n {k2 : Nat} {f : Nat → Int32} (R : rs pw D ow sl M mo) (h : k ∈ RA) (h2 : k2 ∈ RA) (hn : k2 ≠ k) : ra (mw M mo k f) mo k2 = ra M mo k2 := rx_mw.a R h2 (by simpa using h) (by simpa using hn)
theorem ix600 {p a : Nat} : (600 : Int32) * nI p + nI a = nI (600 * p + a) := by
  show nI 600 * nI p + nI a = _
  rw [pk_mul, nI_add]
theorem ix520 {p a : Nat} : (520 : Int32) * nI p + nI a = nI (520 * p + a) := by
  show nI 520 * nI p + nI a = _
  rw [pk_mul, nI_add]
theorem ix4 {p a : Nat} : (4 : Int32) * nI p + nI a = nI (4 * p + a) := by
  show nI 4 * nI p + nI a = _
  rw [pk_mul, nI_add]
set_option maxRecDepth 100000 in
set_option maxHeartbeats 4000000 in
theorem k_rthrown (G : gc g X t0 l) (hT : mm_t M mo = 8) : Ok g X l yy_Mo_thrown cc_Mo_thrown 1 (some .int) 0 0 0 0 [.ref mo] M (fun v M' => v = some (.int (ri M mo 0)) ∧ M' = M) := by
  refine ok_start (by decide) (Nat.le_of_ble_eq_true rfl) (by simp [Value.category]) ?_
  intro p e s m args below meth c9 x
  refine vv_aload_n (pc := 0) x dd_Mo_thrown_0 rfl ?_
  refine lg_Mo_62 (pc := 1) G x dd_Mo_thrown_1 hT ?_
  exact vv_iret (pc := 4) x dd_Mo_thrown_4 rfl (by decide) (by decide) ⟨rfl, rfl⟩
theorem lt4 {rv : Int32} (h : rv < 4) : rv ≤ 3 := by
  have e3 : (3 : Int32).toInt = 3 := by decide
  have e4 : (4 : Int32).toInt = 4 := by decide
  rw [Int32.lt_iff_toInt_lt] at h
  rw [Int32.le_iff_toInt_le]
  omega
theorem le3 {rv : Int32} (h : rv ≤ 3) : rv < 4 := by
  have e3 : (3 : Int32).toInt = 3 := by decide
  have e4 : (4 : Int32).toInt = 4 := by decide
  rw [Int32.le_iff_toInt_le] at h
  rw [Int32.lt_iff_toInt_lt]
  omega
set_option maxRecDepth 100000 in
set_option maxHeartbeats 4000000 in
theorem k_rnoReg (G : gc g X t0 l) {rv : Int32} : Ok g X l yy_Mo_noRegister cc_Mo_noRegister 2 (some .boolean) 0 0 0 0 [.ref mo, .int rv] M (fun v M' => v = some (.int (if ¬ rv < 0 ∧ rv < 4 then 0 else 1)) ∧ M' = M) := by
  refine ok_start (by decide) (Nat.le_of_ble_eq_true rfl) (by simp [Value.category]) ?_
  intro p e s m args below meth c9 x
  refine vv_iload_n (pc := 0) x dd_Mo_noRegister_0 rfl ?_
  refine vv_if_lt (pc := 1) x dd_Mo_noRegister_1 (tgt := 9) (by decide) (fun h1 => ?_) (fun h1 => ?_)
  · refine vv_iconst (pc := 9) x dd_Mo_noRegister_9 (1) (by decide) ?_
    refine vv_goto (pc := 10) x dd_Mo_noRegister_10 (tgt := 14) (by decide) ?_
    exact vv_zret (pc := 14) x dd_Mo_noRegister_14 rfl (Or.inr rfl) (by decide) (by decide) ⟨by rw [if_neg (fun z => z.1 h1)], rfl⟩
  · refine vv_iload_n (pc := 4) x dd_Mo_noRegister_4 rfl ?_
    refine vv_iconst (pc := 5) x dd_Mo_noRegister_5 (3) (by decide) ?_
    refine vv_icmp_le (pc := 6) x dd_Mo_noRegister_6 (tgt := 13) (by decide) (fun h6 => ?_) (fun h6 => ?_)
    · refine vv_iconst (pc := 13) x dd_Mo_noRegister_13 (0) (by decide) ?_
      exact vv_zret (pc := 14) x dd_Mo_noRegister_14 rfl (Or.inl rfl) (by decide) (by decide) ⟨by rw [if_pos ⟨h1, le3 h6⟩], rfl⟩
    · refine vv_iconst (pc := 9) x dd_Mo_noRegister_9 (1) (by decide) ?_
      refine vv_goto (pc := 10) x dd_Mo_noRegister_10 (tgt := 14) (by decide) ?_
      exact vv_zret (pc := 14) x dd_Mo_noRegister_14 rfl (Or.inr rfl) (by decide) (by decide) ⟨by rw [if_neg (fun z => h6 (lt4 z.2))], rfl⟩
set_option maxRecDepth 100000 in
set_option maxHeartbeats 4000000 in
theorem k_rkind (G : gc g X t0 l) {t : Int32} : Ok g X l yy_Mo_kindOf cc_Mo_kindOf 2 (some .int) 0 0 0 0 [.ref mo, .int t] M (fun v M' => v = some (.int (t &&& 7)) ∧ M' = M) := by
  refine ok_start (by decide) (Nat.le_of_ble_eq_true rfl) (by simp [Value.category]) ?_
  intro p e s m args below meth c9 x
  refine vv_iload_n (pc := 0) x dd_Mo_kindOf_0 rfl ?_
  refine vv_bipush (pc := 1) x dd_Mo_kindOf_1 (7) (by decide) ?_
  refine vv_iand (pc := 3) x dd_Mo_kindOf_3 ?_
  exact vv_iret (pc := 4) x dd_Mo_kindOf_4 rfl (by decide) (by decide) ⟨rfl, rfl⟩
set_option maxRecDepth 100000 in
set_option maxHeartbeats 4000000 in
theorem k_rat (G : gc g X t0 l) {t : Int32} : Ok g X l yy_Mo_at cc_Mo_at 2 (some .int) 0 0 0 0 [.ref mo, .int t] M (fun v M' => v = some (.int (t >>> ((3 : Int32) &&& 31))) ∧ M' = M) := by
  refine ok_start (by decide) (Nat.le_of_ble_eq_true rfl) (by simp [Value.category]) ?_
  intro p e s m args below meth c9 x
  refine vv_iload_n (pc := 0) x dd_Mo_at_0 rfl ?_
  refine vv_iconst (pc := 1) x dd_Mo_at_1 (3) (by decide) ?_
  refine vv_ishr (pc := 2) x dd_Mo_at_2 ?_
  exact vv_iret (pc := 3) x dd_Mo_at_3 rfl (by decide) (by decide) ⟨rfl, rfl⟩
set_option maxRecDepth 100000 in
set_option maxHeartbeats 4000000 in
theorem k_risHeaped (G : gc g X t0 l) {t : Int32} : Ok g X l yy_Mo_isHeaped cc_Mo_isHeaped 2 (some .boolean) 0 0 0 0 [.ref mo, .int t] M (fun v M' => v = some (.int (if kd t ≤ 2 then 0 else 1)) ∧ M' = M) := by
  refine ok_start (by decide) (Nat.le_of_ble_eq_true rfl) (by simp [Value.category]) ?_
  intro p e s m args below meth c9 x
  refine vv_iload_n (pc := 0) x dd_Mo_isHeaped_0 rfl ?_
  refine vv_bipush (pc := 1) x dd_Mo_isHeaped_1 (7) (by decide) ?_
  refine vv_iand (pc := 3) x dd_Mo_isHeaped_3 ?_
  refine vv_iconst (pc := 4) x dd_Mo_isHeaped_4 (2) (by decide) ?_
  rw [and7]
  refine vv_icmp_le (pc := 5) x dd_Mo_isHeaped_5 (tgt := 12) (by decide) (fun h5 => ?_) (fun h5 => ?_)
  · refine vv_iconst (pc := 12) x dd_Mo_isHeaped_12 (0) (by decide) ?_
    exact vv_zret (pc := 13) x dd_Mo_isHeaped_13 rfl (Or.inl rfl) (by decide) (by decide) ⟨by rw [if_pos ((nI_leI (b := 2) (by have := kd_lt t; omega) (by decide)).mp h5)], rfl⟩
  · refine vv_iconst (pc := 8) x dd_Mo_isHeaped_8 (1) (by decide) ?_
    refine vv_goto (pc := 9) x dd_Mo_isHeaped_9 (tgt := 13) (by decide) ?_
    exact vv_zret (pc := 13) x dd_Mo_isHeaped_13 rfl (Or.inr rfl) (by decide) (by decide) ⟨by rw [if_neg (fun z => h5 ((nI_leI (b := 2) (by have := kd_lt t; omega) (by decide)).mpr z))], rfl⟩
/-- the words of a heap, where its blocks begin -/
def wv (B : List bk) (W : Nat → Int32) : Prop := ∀ i, i < B.length → ∀ j, j < bsz (hb B i) → ¬ ((hb B i).1 = 5 ∧ j = 1) → W (had B i + j) = bwd (hb B i) j
def kv (B : List bk) (K : Nat → Int32) : Prop := ∀ i, i < B.length → K (had B i) = nI (hb B i).1 ∧ ∀ j, 0 < j → j < bsz (hb B i) → K (had B i + j) = 0
theorem hok_bnd (H : hok B) {i : Nat} (hi : i < B.length) : had B i + bsz (hb B i) ≤ 600 ∧ 3 ≤ (hb B i).1 ∧ (hb B i).1 ≤ 5 ∧ 8 * had B i + (hb B i).1 < 2 ^ 31 := by
  have h1 := had_blk hi
  have h2 := bok_k (H.2 i hi)
  have h3 := H.1
  omega
theorem hok_kd (H : hok B) {i : Nat} (hi : i < B.length) : kd (htm B i) = (hb B i).1 := kd_tk (by have := hok_bnd H hi; omega) (hok_bnd H hi).2.2.2
theorem hok_shr (H : hok B) {i : Nat} (hi : i < B.length) : htm B i >>> ((3 : Int32) &&& 31) = nI (had B i) := shr3 (by have := hok_bnd H hi; omega) (hok_bnd H hi).2.2.2
theorem wv_0 (H : hok B) {W : Nat → Int32} (hw : wv B W) {i : Nat} (hi : i < B.length) (h4 : (hb B i).1 = 4) : W (had B i) = nI (hb B i).2.length := by
  have h9 := hw i hi 0 (bsz_pos _) (fun z => absurd z.2 (by decide))
  rw [Nat.add_zero] at h9
  rw [h9]
  unfold bwd
  rw [if_pos h4, if_pos rfl]
set_option maxRecDepth 100000 in
set_option maxHeartbeats 4000000 in
theorem k_rparts (G : gc g X t0 l) (R : rs pw D ow sl M mo) (H : hok B) {p9 : Nat} (hp9 : p9 < 8) (hw : wv B (fun a => ra M mo 11 (600 * p9 + a))) {i : Nat} (hi : i < B.length) : Ok g X l yy_Mo_partsOf cc_Mo_partsOf 3 (some .int) 1 21 0 0 [.ref mo, .int (nI p9), .int (htm B i)] M (fun v M' => v = some (.int (nI (bpt (hb B i)).length)) ∧ M' = M) := by
  refine ok_start (by decide) (Nat.le_of_ble_eq_true rfl) (by simp [Value.category]) ?_
  intro p e s m args below meth c9 x
  have bd := hok_bnd H hi
  have ek := hok_kd H hi
  have es := hok_shr H hi
  have bp := bsz_pos (hb B i)
  have n11 : mm_n M (mm_f M 7 11 mo) = 4800 := R.n 11 (by decide)
  have hbk := H.2 i hi
  refine vv_aload_n (pc := 0) x dd_Mo_partsOf_0 rfl ?_
  refine vv_iload_n (pc := 1) x dd_Mo_partsOf_1 rfl ?_
  refine lv_Mo_68 (pc := 2) G x dd_Mo_partsOf_2 (k_rkind G) R.2.2 ⟨by decide, by decide⟩ (by decide) (by decide) (Nat.le_of_ble_eq_true rfl) (fun v2 M2 q2 => ?_)
  obtain ⟨rfl, hm2⟩ := q2
  have hm2 := hm2.symm
  subst hm2
  rw [and7, ek]
  refine vv_iconst (pc := 5) x dd_Mo_partsOf_5 (3) (by decide) ?_
  refine vv_icmp_ne (pc := 6) x dd_Mo_partsOf_6 (tgt := 13) (by decide) (fun h6 => ?_) (fun h6 => ?_)
  · refine vv_aload_n (pc := 13) x dd_Mo_partsOf_13 rfl ?_
    refine vv_iload_n (pc := 14) x dd_Mo_partsOf_14 rfl ?_
    refine lv_Mo_68 (pc := 15) G x dd_Mo_partsOf_15 (k_rkind G) R.2.2 ⟨by decide, by decide⟩ (by decide) (by decide) (Nat.le_of_ble_eq_true rfl) (fun v15 M15 q15 => ?_)
    obtain ⟨rfl, hm15⟩ := q15
    have hm15 := hm15.symm
    subst hm15
    rw [and7, ek]
    refine vv_iconst (pc := 18) x dd_Mo_partsOf_18 (4) (by decide) ?_
    refine vv_icmp_ne (pc := 19) x dd_Mo_partsOf_19 (tgt := 41) (by decide) (fun h19 => ?_) (fun h19 => ?_)
    · refine vv_iconst (pc := 41) x dd_Mo_partsOf_41 (0) (by decide) ?_
      exact vv_iret (pc := 42) x dd_Mo_partsOf_42 rfl (by decide) (by decide) ⟨by
          have n3 : (hb B i).1 ≠ 3 := fun z => h6 (by rw [z]; rfl)
          have n4 : (hb B i).1 ≠ 4 := fun z => h19 (by rw [z]; rfl)
          unfold bpt
          rw [if_pos (by omega)]
          rfl, rfl⟩
    · have h4 : (hb B i).1 = 4 := (nI_eq (b := 4) (by omega) (by decide)).mp h19
      have e0 := wv_0 H hw hi h4
      refine vv_aload_n (pc := 22) x dd_Mo_partsOf_22 rfl ?_
      refine lg_Mo_28 (pc := 23) G x dd_Mo_partsOf_23 R.2.2 (R.r 11 (by decide)) ?_
      refine vv_sipush (pc := 26) x dd_Mo_partsOf_26 (600) (by decide) ?_
      refine vv_iload_n (pc := 29) x dd_Mo_partsOf_29 rfl ?_
      refine vv_imul (pc := 30) x dd_Mo_partsOf_30 ?_
      refine vv_aload_n (pc := 31) x dd_Mo_partsOf_31 rfl ?_
      refine vv_iload_n (pc := 32) x dd_Mo_partsOf_32 rfl ?_
      refine lv_Mo_72 (pc := 33) G x dd_Mo_partsOf_33 (k_rat G) R.2.2 ⟨by decide, by decide⟩ (by decide) (by decide) (Nat.le_of_ble_eq_true rfl) (fun v33 M33 q33 => ?_)
      obtain ⟨rfl, hm33⟩ := q33
      have hm33 := hm33.symm
      subst hm33
      rw [es]
      refine vv_iadd (pc := 36) x dd_Mo_partsOf_36 ?_
      rw [ix600]
      refine vv_iald (pc := 37) x dd_Mo_partsOf_37 (R.t 11 (by decide)) (in_n (by omega) n11 (by decide)) ?_
      rw [nI_clamp (by omega), show mm_a M (mm_f M 7 11 mo) (600 * p9 + had B i) = nI (hb B i).2.length from e0]
      refine vv_goto (pc := 38) x dd_Mo_partsOf_38 (tgt := 42) (by decide) ?_
      exact vv_iret (pc := 42) x dd_Mo_partsOf_42 rfl (by decide) (by decide) ⟨by
          unfold bpt
          rw [if_neg (by omega)], rfl⟩
  · refine vv_iconst (pc := 9) x dd_Mo_partsOf_9 (2) (by decide) ?_
    refine vv_goto (pc := 10) x dd_Mo_partsOf_10 (tgt := 42) (by decide) ?_
    exact vv_iret (pc := 42) x dd_Mo_partsOf_42 rfl (by decide) (by decide) ⟨by
        have h3 : (hb B i).1 = 3 := (nI_eq (b := 3) (by omega) (by decide)).mp h6
        unfold bpt
        rw [if_neg (by omega)]
        rcases hbk with h | h | h
        · rw [h.2]; rfl
        · omega
        · omega, rfl⟩
set_option maxRecDepth 100000 in
set_option maxHeartbeats 4000000 in
theorem k_rparts_lo (G : gc g X t0 l) {p9 : Nat} {t : Int32} (hl : kd t ≤ 2) (hT : mm_t M mo = 8) : Ok g X l yy_Mo_partsOf cc_Mo_partsOf 3 (some .int) 1 21 0 0 [.ref mo, .int (nI p9), .int t] M (fun v M' => v = some (.int 0) ∧ M' = M) := by
  refine ok_start (by decide) (Nat.le_of_ble_eq_true rfl) (by simp [Value.category]) ?_
  intro p e s m args below meth c9 x
  refine vv_aload_n (pc := 0) x dd_Mo_partsOf_0 rfl ?_
  refine vv_iload_n (pc := 1) x dd_Mo_partsOf_1 rfl ?_
  refine lv_Mo_68 (pc := 2) G x dd_Mo_partsOf_2 (k_rkind G) hT ⟨by decide, by decide⟩ (by decide) (by decide) (Nat.le_of_ble_eq_true rfl) (fun v2 M2 q2 => ?_)
  obtain ⟨rfl, hm2⟩ := q2
  have hm2 := hm2.symm
  subst hm2
  rw [and7]
  refine vv_iconst (pc := 5) x dd_Mo_partsOf_5 (3) (by decide) ?_
  refine vv_icmp_ne (pc := 6) x dd_Mo_partsOf_6 (tgt := 13) (by decide) (fun h6 => ?_) (fun h6 => absurd h6 (fun y => by have := (nI_eq (b := 3) (by omega) (by decide)).mp y; omega))
  refine vv_aload_n (pc := 13) x dd_Mo_partsOf_13 rfl ?_
  refine vv_iload_n (pc := 14) x dd_Mo_partsOf_14 rfl ?_
  refine lv_Mo_68 (pc := 15) G x dd_Mo_partsOf_15 (k_rkind G) hT ⟨by decide, by decide⟩ (by decide) (by decide) (Nat.le_of_ble_eq_true rfl) (fun v15 M15 q15 => ?_)
  obtain ⟨rfl, hm15⟩ := q15
  have hm15 := hm15.symm
  subst hm15
  rw [and7]
  refine vv_iconst (pc := 18) x dd_Mo_partsOf_18 (4) (by decide) ?_
  refine vv_icmp_ne (pc := 19) x dd_Mo_partsOf_19 (tgt := 41) (by decide) (fun h19 => ?_) (fun h19 => absurd h19 (fun y => by have := (nI_eq (b := 4) (by omega) (by decide)).mp y; omega))
  refine vv_iconst (pc := 41) x dd_Mo_partsOf_41 (0) (by decide) ?_
  exact vv_iret (pc := 42) x dd_Mo_partsOf_42 rfl (by decide) (by decide) ⟨rfl, rfl⟩
set_option maxRecDepth 100000 in
set_option maxHeartbeats 4000000 in
theorem k_rpart (G : gc g X t0 l) (R : rs pw D ow sl M mo) (H : hok B) {p9 : Nat} (hp9 : p9 < 8) (hw : wv B (fun a => ra M mo 11 (600 * p9 + a))) {i : Nat} (hi : i < B.length) {k9 : Nat} (hk : k9 < (bpt (hb B i)).length) : Ok g X l yy_Mo_partOf cc_Mo_partOf 4 (some .int) 1 21 0 0 [.ref mo, .int (nI p9), .int (htm B i), .int (nI k9)] M (fun v M' => v = some (.int ((hb B i).2.getD k9 0)) ∧ M' = M) := by
  refine ok_start (by decide) (Nat.le_of_ble_eq_true rfl) (by simp [Value.category]) ?_
  intro p e s m args below meth c9 x
  have bd := hok_bnd H hi
  have ek := hok_kd H hi
  have es := hok_shr H hi
  have bp := bsz_pos (hb B i)
  have n11 : mm_n M (mm_f M 7 11 mo) = 4800 := R.n 11 (by decide)
  have hbk := H.2 i hi
  have h5 : (hb B i).1 ≠ 5 := fun z => by
    unfold bpt at hk
    rw [if_pos z] at hk
    simp at hk
  unfold bpt at hk
  rw [if_neg h5] at hk
  refine vv_aload_n (pc := 0) x dd_Mo_partOf_0 rfl ?_
  refine lg_Mo_28 (pc := 1) G x dd_Mo_partOf_1 R.2.2 (R.r 11 (by decide)) ?_
  refine vv_sipush (pc := 4) x dd_Mo_partOf_4 (600) (by decide) ?_
  refine vv_iload_n (pc := 7) x dd_Mo_partOf_7 rfl ?_
  refine vv_imul (pc := 8) x dd_Mo_partOf_8 ?_
  refine vv_aload_n (pc := 9) x dd_Mo_partOf_9 rfl ?_
  refine vv_iload_n (pc := 10) x dd_Mo_partOf_10 rfl ?_
  refine lv_Mo_72 (pc := 11) G x dd_Mo_partOf_11 (k_rat G) R.2.2 ⟨by decide, by decide⟩ (by decide) (by decide) (Nat.le_of_ble_eq_true rfl) (fun v11 M11 q11 => ?_)
  obtain ⟨rfl, hm11⟩ := q11
  have hm11 := hm11.symm
  subst hm11
  rw [es]
  refine vv_iadd (pc := 14) x dd_Mo_partOf_14 ?_
  rw [ix600]
  refine vv_aload_n (pc := 15) x dd_Mo_partOf_15 rfl ?_
  refine vv_iload_n (pc := 16) x dd_Mo_partOf_16 rfl ?_
  refine lv_Mo_68 (pc := 17) G x dd_Mo_partOf_17 (k_rkind G) R.2.2 ⟨by decide, by decide⟩ (by decide) (by decide) (Nat.le_of_ble_eq_true rfl) (fun v17 M17 q17 => ?_)
  obtain ⟨rfl, hm17⟩ := q17
  have hm17 := hm17.symm
  subst hm17
  rw [and7, ek]
  refine vv_iconst (pc := 20) x dd_Mo_partOf_20 (4) (by decide) ?_
  refine vv_icmp_ne (pc := 21) x dd_Mo_partOf_21 (tgt := 28) (by decide) (fun h21 => ?_) (fun h21 => ?_)
  · refine vv_iconst (pc := 28) x dd_Mo_partOf_28 (0) (by decide) ?_
    have h4 : (hb B i).1 ≠ 4 := fun z => h21 (by rw [z]; rfl)
    have hbs : bsz (hb B i) = 2 := by unfold bsz; rw [if_neg h4]
    have hl2 : (hb B i).2.length = 2 := by
      rcases hbk with h | h | h <;> omega
    have e0 := hw i hi k9 (by omega) (fun z => h5 z.1)
    rw [show bwd (hb B i) k9 = (hb B i).2.getD k9 0 by unfold bwd; rw [if_neg h4]] at e0
    refine vv_iadd (pc := 29) x dd_Mo_partOf_29 ?_
    rw [show nI (600 * p9 + had B i) + 0 = nI (600 * p9 + had B i) from nI_add _ 0]
    refine vv_iload_n (pc := 30) x dd_Mo_partOf_30 rfl ?_
    refine vv_iadd (pc := 31) x dd_Mo_partOf_31 ?_
    rw [nI_add]
    refine vv_iald (pc := 32) x dd_Mo_partOf_32 (R.t 11 (by decide)) (in_n (by omega) n11 (by decide)) ?_
    rw [nI_clamp (by omega), show mm_a M (mm_f M 7 11 mo) (600 * p9 + had B i + k9) = (hb B i).2.getD k9 0 from by rw [← e0]; show _ = mm_a M (mm_f M 7 11 mo) (600 * p9 + (had B i + k9)); congr 1; omega]
    exact vv_iret (pc := 33) x dd_Mo_partOf_33 rfl (by decide) (by decide) ⟨rfl, rfl⟩
  · refine vv_iconst (pc := 24) x dd_Mo_partOf_24 (1) (by decide) ?_
    refine vv_goto (pc := 25) x dd_Mo_partOf_25 (tgt := 29) (by decide) ?_
    have h4 : (hb B i).1 = 4 := (nI_eq (b := 4) (by omega) (by decide)).mp h21
    have hbs : bsz (hb B i) = (hb B i).2.length + 1 := by unfold bsz; rw [if_pos h4]
    have e0 := hw i hi (k9 + 1) (by omega) (fun z => h5 z.1)
    rw [show bwd (hb B i) (k9 + 1) = (hb B i).2.getD k9 0 by unfold bwd; rw [if_pos h4, if_neg (by omega)]; rfl] at e0
    refine vv_iadd (pc := 29) x dd_Mo_partOf_29 ?_
    rw [nI_1]
    refine vv_iload_n (pc := 30) x dd_Mo_partOf_30 rfl ?_
    refine vv_iadd (pc := 31) x dd_Mo_partOf_31 ?_
    rw [nI_add]
    refine vv_iald (pc := 32) x dd_Mo_partOf_32 (R.t 11 (by decide)) (in_n (by omega) n11 (by decide)) ?_
    rw [nI_clamp (by omega), show mm_a M (mm_f M 7 11 mo) (600 * p9 + had B i + 1 + k9) = (hb B i).2.getD k9 0 from by rw [← e0]; show _ = mm_a M (mm_f M 7 11 mo) (600 * p9 + (had B i + (k9 + 1))); congr 1; omega]
    exact vv_iret (pc := 33) x dd_Mo_partOf_33 rfl (by decide) (by decide) ⟨rfl, rfl⟩
set_option maxRecDepth 100000 in
set_option maxHeartbeats 4000000 in
theorem k_rsize (G : gc g X t0 l) (R : rs pw D ow sl M mo) (H : hok B) {p9 : Nat} (hp9 : p9 < 8) (hw : wv B (fun a => ra M mo 11 (600 * p9 + a))) {i : Nat} (hi : i < B.length) : Ok g X l yy_Mo_sizeOf cc_Mo_sizeOf 3 (some .int) 2 43 0 0 [.ref mo, .int (nI p9), .int (htm B i)] M (fun v M' => v = some (.int (nI (bsz (hb B i)))) ∧ M' = M) := by
  refine ok_start (by decide) (Nat.le_of_ble_eq_true rfl) (by simp [Value.category]) ?_
  intro p e s m args below meth c9 x
  have bd := hok_bnd H hi
  have ek := hok_kd H hi
  have es := hok_shr H hi
  have bp := bsz_pos (hb B i)
  have n11 : mm_n M (mm_f M 7 11 mo) = 4800 := R.n 11 (by decide)
  refine vv_aload_n (pc := 0) x dd_Mo_sizeOf_0 rfl ?_
  refine vv_iload_n (pc := 1) x dd_Mo_sizeOf_1 rfl ?_
  refine lv_Mo_68 (pc := 2) G x dd_Mo_sizeOf_2 (k_rkind G) R.2.2 ⟨by decide, by decide⟩ (by decide) (by decide) (Nat.le_of_ble_eq_true rfl) (fun v2 M2 q2 => ?_)
  obtain ⟨rfl, hm2⟩ := q2
  have hm2 := hm2.symm
  subst hm2
  rw [and7, ek]
  refine vv_iconst (pc := 5) x dd_Mo_sizeOf_5 (4) (by decide) ?_
  refine vv_icmp_ne (pc := 6) x dd_Mo_sizeOf_6 (tgt := 20) (by decide) (fun h6 => ?_) (fun h6 => ?_)
  · refine vv_iconst (pc := 20) x dd_Mo_sizeOf_20 (2) (by decide) ?_
    exact vv_iret (pc := 21) x dd_Mo_sizeOf_21 rfl (by decide) (by decide) ⟨by
        have h4 : (hb B i).1 ≠ 4 := fun z => h6 (by rw [z]; rfl)
        unfold bsz
        rw [if_neg h4]
        rfl, rfl⟩
  · refine vv_iconst (pc := 9) x dd_Mo_sizeOf_9 (1) (by decide) ?_
    refine vv_aload_n (pc := 10) x dd_Mo_sizeOf_10 rfl ?_
    refine vv_iload_n (pc := 11) x dd_Mo_sizeOf_11 rfl ?_
    refine vv_iload_n (pc := 12) x dd_Mo_sizeOf_12 rfl ?_
    refine lv_Mo_75 (pc := 13) G x dd_Mo_sizeOf_13 (k_rparts G R H hp9 hw hi) R.2.2 ⟨by decide, by decide⟩ (by decide) (by decide) (Nat.le_of_ble_eq_true rfl) (fun v13 M13 q13 => ?_)
    obtain ⟨rfl, hm13⟩ := q13
    have hm13 := hm13.symm
    subst hm13
    refine vv_iadd (pc := 16) x dd_Mo_sizeOf_16 ?_
    refine vv_goto (pc := 17) x dd_Mo_sizeOf_17 (tgt := 21) (by decide) ?_
    exact vv_iret (pc := 21) x dd_Mo_sizeOf_21 rfl (by decide) (by decide) ⟨by
        have h4 : (hb B i).1 = 4 := (nI_eq (b := 4) (by omega) (by decide)).mp h6
        unfold bsz bpt
        rw [if_pos h4, if_neg (by omega)]
        show some (Value.int (nI 1 + nI (hb B i).2.length)) = _
        rw [nI_add, Nat.add_comm], rfl⟩
end M48
