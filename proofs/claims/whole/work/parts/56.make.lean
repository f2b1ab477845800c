/-! ===== a blob is made, a tuple is laid ===== -/
section M13
variable {g : gg} {X : State → Prop} {t0 : Nat} {l : Launch} {M : mm} {pw : Nat} {D : Nat → Prop} {ow sl : Nat → Nat} {B : List bk} {b h ra : Nat}
/-- the first place that isn't taken, n places looked at from i on -/
def ffr (C : Nat → Int32) : Nat → Nat → Nat
  | 0, i => i
  | n + 1, i => if C i ≤ 0 then i else ffr C n (i + 1)
theorem ffr_le {C : Nat → Int32} : ∀ {n i : Nat}, ffr C n i ≤ i + n
  | 0, i => Nat.le_refl _
  | n + 1, i => by
    show (if C i ≤ 0 then i else ffr C n (i + 1)) ≤ _
    split
    · omega
    · have := ffr_le (C := C) (n := n) (i := i + 1)
      omega
def pmk (M : mm) (b w : Nat) (z : Int32) : mm := mm_si (mm_si (mm_sa (mm_sa M (mm_f M 5 2 b) (upd (mm_a M (mm_f M 5 2 b)) w z)) (mm_f M 5 3 b) (upd (mm_a M (mm_f M 5 3 b)) w 1)) 5 0 b (mm_i M 5 0 b - z)) 5 1 b (mm_i M 5 1 b + 1)
set_option maxRecDepth 100000 in
set_option maxHeartbeats 4000000 in
theorem K_makeBlob (G : gc g X t0 l) (S : sh pw D ow sl M) (hDb : D b) (hTb : mm_t M b = 6) {z : Int32} (w : Nat) (hw : ffr (mm_a M (mm_f M 5 3 b)) 29 0 = w) : Ok g X l yy_Po_makeBlob cc_Po_makeBlob 3 (some .int) 0 0 0 0 [.ref b, .int z] M (fun v M' => v = some (.int (nI w)) ∧ M' = pmk M b w z) := by
  refine ok_start (by decide) (Nat.le_of_ble_eq_true rfl) (by simp [Value.category]) ?_
  intro p e s m args below meth c9 x
  have r2 := S.r hDb hTb 2 (show (30 : Nat) ≠ 0 by decide)
  have t2 := S.t hDb hTb 2 (show (30 : Nat) ≠ 0 by decide)
  have n2 : mm_n M (mm_f M 5 2 b) = 30 := S.n hDb hTb 2 (show (30 : Nat) ≠ 0 by decide)
  have r3 := S.r hDb hTb 3 (show (30 : Nat) ≠ 0 by decide)
  have t3 := S.t hDb hTb 3 (show (30 : Nat) ≠ 0 by decide)
  have n3 : mm_n M (mm_f M 5 3 b) = 30 := S.n hDb hTb 3 (show (30 : Nat) ≠ 0 by decide)
  have a32 := S.ap hDb hTb (k := 3) (show (30 : Nat) ≠ 0 by decide) hDb hTb (k2 := 2) (show (30 : Nat) ≠ 0 by decide) (Or.inr (by decide))
  have hw30 : w ≤ 29 := by have := ffr_le (C := mm_a M (mm_f M 5 3 b)) (n := 29) (i := 0); omega
  have hcw : (nI w).toNatClampNeg = w := nI_clamp (by omega)
  have hend : vv g 3 p l e (rm 0 0 0 0) s m args below meth c9 (MQ below (ok_Q g (fun v M' => v = some (.int (nI w)) ∧ M' = pmk M b w z)) args s 0 0 (ok_F g)) 0 0 23 [some (.ref b), some (.int z), some (.int (nI w))] [] (M) := by
    refine vv_aload_n (pc := 23) x dd_Po_makeBlob_23 rfl ?_
    refine lg_Po_9 (pc := 24) G x dd_Po_makeBlob_24 (by assumption) r2 ?_
    refine vv_iload_n (pc := 27) x dd_Po_makeBlob_27 rfl ?_
    refine vv_iload_n (pc := 28) x dd_Po_makeBlob_28 rfl ?_
    refine vv_iast (pc := 29) x dd_Po_makeBlob_29 t2 (in_n (N := 30) (by omega) n2 (by decide)) ?_
    rw [hcw]
    refine vv_aload_n (pc := 30) x dd_Po_makeBlob_30 rfl ?_
    refine lg_Po_15 (pc := 31) G x dd_Po_makeBlob_31 (by assumption) (by exact r3) ?_
    refine vv_iload_n (pc := 34) x dd_Po_makeBlob_34 rfl ?_
    refine vv_iconst (pc := 35) x dd_Po_makeBlob_35 (1) (by decide) ?_
    refine vv_iast (pc := 36) x dd_Po_makeBlob_36 (by exact t3) (in_n (N := 30) (by omega) n3 (by decide)) ?_
    rw [hcw, mf_sa, ma_sa_n a32]
    refine vv_aload_n (pc := 37) x dd_Po_makeBlob_37 rfl ?_
    refine vv_dup (pc := 38) x dd_Po_makeBlob_38 rfl ?_
    refine lg_Po_18 (pc := 39) G x dd_Po_makeBlob_39 (by assumption) ?_
    refine vv_iload_n (pc := 42) x dd_Po_makeBlob_42 rfl ?_
    refine vv_isub (pc := 43) x dd_Po_makeBlob_43 ?_
    refine lp_Po_18 (pc := 44) G x dd_Po_makeBlob_44 (by assumption) ?_
    refine vv_aload_n (pc := 47) x dd_Po_makeBlob_47 rfl ?_
    refine vv_dup (pc := 48) x dd_Po_makeBlob_48 rfl ?_
    refine lg_Po_22 (pc := 49) G x dd_Po_makeBlob_49 (by assumption) ?_
    refine vv_iconst (pc := 52) x dd_Po_makeBlob_52 (1) (by decide) ?_
    refine vv_iadd (pc := 53) x dd_Po_makeBlob_53 ?_
    refine lp_Po_22 (pc := 54) G x dd_Po_makeBlob_54 (by assumption) ?_
    refine vv_iload_n (pc := 57) x dd_Po_makeBlob_57 rfl ?_
    exact vv_iret (pc := 58) x dd_Po_makeBlob_58 rfl (by decide) (by decide) ⟨rfl, rfl⟩
  have hloop : ∀ (n i : Nat), i + n = 29 → ffr (mm_a M (mm_f M 5 3 b)) n i = w → vv g 3 p l e (rm 0 0 0 0) s m args below meth c9 (MQ below (ok_Q g (fun v M' => v = some (.int (nI w)) ∧ M' = pmk M b w z)) args s 0 0 (ok_F g)) 0 0 2 [some (.ref b), some (.int z), some (.int (nI i))] [] (M) := by
    intro n
    induction n with
    | zero =>
      intro i hi hw
      have e : i = w := hw
      have e2 : nI i = (29 : Int32) := by rw [show i = 29 by omega]; rfl
      refine vv_iload_n (pc := 2) x dd_Po_makeBlob_2 rfl ?_
      refine vv_bipush (pc := 3) x dd_Po_makeBlob_3 (29) (by decide) ?_
      refine vv_icmp_ge (pc := 5) x dd_Po_makeBlob_5 (tgt := 23) (by decide) (fun h5 => ?_) (fun h5 => absurd h5 (fun y => y (by rw [e2]; decide)))
      rw [e]
      exact hend
    | succ n ih =>
      intro i hi hw
      have hci : (nI i).toNatClampNeg = i := nI_clamp (by omega)
      have hw2 : (if mm_a M (mm_f M 5 3 b) i ≤ 0 then i else ffr (mm_a M (mm_f M 5 3 b)) n (i + 1)) = w := hw
      refine vv_iload_n (pc := 2) x dd_Po_makeBlob_2 rfl ?_
      refine vv_bipush (pc := 3) x dd_Po_makeBlob_3 (29) (by decide) ?_
      refine vv_icmp_ge (pc := 5) x dd_Po_makeBlob_5 (tgt := 23) (by decide) (fun h5 => absurd h5 (nI_ge (a := i) (b := 29) (by omega) (by decide))) (fun h5 => ?_)
      refine vv_aload_n (pc := 8) x dd_Po_makeBlob_8 rfl ?_
      refine lg_Po_15 (pc := 9) G x dd_Po_makeBlob_9 (by assumption) r3 ?_
      refine vv_iload_n (pc := 12) x dd_Po_makeBlob_12 rfl ?_
      refine vv_iald (pc := 13) x dd_Po_makeBlob_13 t3 (in_n (N := 30) (by omega) n3 (by decide)) ?_
      rw [hci]
      refine vv_if_le (pc := 14) x dd_Po_makeBlob_14 (tgt := 23) (by decide) (fun h14 => ?_) (fun h14 => ?_)
      · rw [if_pos h14] at hw2
        rw [hw2]
        exact hend
      · rw [if_neg h14] at hw2
        refine vv_iinc (pc := 17) x dd_Po_makeBlob_17 rfl (nI_1 i) (by decide) (ls2 := [_, _, _]) rfl ?_
        refine vv_goto (pc := 20) x dd_Po_makeBlob_20 (tgt := 2) (by decide) ?_
        exact ih (i + 1) (by omega) hw2
  refine vv_iconst (pc := 0) x dd_Po_makeBlob_0 (0) (by decide) ?_
  refine vv_istore_n (pc := 1) x dd_Po_makeBlob_1 (by decide) (ls2 := [_, _, _]) rfl ?_
  exact hloop 29 0 rfl hw
set_option maxRecDepth 100000 in
set_option maxHeartbeats 4000000 in
theorem K_addTuple (G : gc g X t0 l) (S : sh pw D ow sl M) (hp : pw ≠ 0) (hp6 : pw ≤ 600) (hD : D h) (hT : mm_t M h = 3) (H : HeapIs pw M h B) {Rg : List Int32} {n : Nat} (hn : n ≤ 4) (hRl : Rg.length = 4) (tra : mm_t M ra = 100) (nra : mm_n M ra = 4) (hRg : ∀ j, j < 4 → mm_a M ra j = Rg.getD j 0) (hra : ra ≠ mm_f M 2 3 h) (hs : hsz B + (n + 1) ≤ pw) : Ok g X l yy_He_addTuple cc_He_addTuple 4 (some .int) 1 22 0 0 [.ref h, .ref ra, .int (nI n)] M (fun v M' => v = some (.int (tk 4 (hsz B))) ∧ hadd pw M h B (4, Rg.take n) M') := by
  refine ok_start (by decide) (Nat.le_of_ble_eq_true rfl) (by simp [Value.category]) ?_
  intro p e s m args below meth c9 x
  have r2 := S.r hD hT 2 hp
  have t2 := S.t hD hT 2 hp
  have n2 : mm_n M (mm_f M 2 2 h) = pw := S.n hD hT 2 hp
  have r3 := S.r hD hT 3 hp
  have t3 := S.t hD hT 3 hp
  have n3 : mm_n M (mm_f M 2 3 h) = pw := S.n hD hT 3 hp
  have hne := S.ap hD hT (k := 2) hp hD hT (k2 := 3) hp (Or.inr (by decide))
  have hlen := len_le_hsz B
  have hcu : (nI (hsz B)).toNatClampNeg = hsz B := nI_clamp (by omega)
  have htl : (Rg.take n).length = n := by simp; omega
  have hloop : ∀ (N k : Nat) (W : Nat → Int32) (M1 : mm), n - k < N → k ≤ n → M1 = mm_sa M (mm_f M 2 3 h) W → (∀ j, j < hsz B → W j = mm_a M (mm_f M 2 3 h) j) → W (hsz B) = nI n → (∀ j, j < k → W (hsz B + 1 + j) = Rg.getD j 0) → vv g 4 p l e (rm 1 22 0 0) s m args below meth c9 (MQ below (ok_Q g (fun v M' => v = some (.int (tk 4 (hsz B))) ∧ hadd pw M h B (4, Rg.take n) M')) args s 0 0 (ok_F g)) 0 0 12 [some (.ref h), some (.ref ra), some (.int (nI n)), some (.int (nI k))] [] (M1) := by
    intro N
    induction N with
    | zero => intro k W M1 h; omega
    | succ N ih =>
      intro k W M1 hN hk hM1 hw1 hw2 hw3
      have hT1 : mm_t M1 h = 3 := by rw [hM1]; exact hT
      have f1 : ∀ c' k' a, mm_f M1 c' k' a = mm_f M c' k' a := fun c' k' a => by rw [hM1, mf_sa]
      have u1 : mm_i M1 2 0 h = nI (hsz B) := by rw [hM1, mi_sa]; exact H.1
      have c1 : mm_i M1 2 1 h = nI B.length := by rw [hM1, mi_sa]; exact H.2.1
      have S1 : sh pw D ow sl M1 := by rw [hM1]; exact fr_sa.sh (fun c' k a z => z.elim) S
      refine vv_iload_n (pc := 12) x dd_He_addTuple_12 rfl ?_
      refine vv_iload_n (pc := 13) x dd_He_addTuple_13 rfl ?_
      refine vv_icmp_ge (pc := 14) x dd_He_addTuple_14 (tgt := 39) (by decide) (fun h14 => ?_) (fun h14 => ?_)
      · refine vv_aload_n (pc := 39) x dd_He_addTuple_39 rfl ?_
        refine vv_iconst (pc := 40) x dd_He_addTuple_40 (4) (by decide) ?_
        refine vv_aload_n (pc := 41) x dd_He_addTuple_41 rfl ?_
        refine lg_He_18 (pc := 42) G x dd_He_addTuple_42 hT1 ?_
        rw [u1]
        refine lv_He_25 (pc := 45) G x dd_He_addTuple_45 (k_termOf G)  ⟨by decide, by decide⟩ (by decide) (by decide) (Nat.le_of_ble_eq_true rfl) (fun v45 M45 q45 => ?_)
        obtain ⟨rfl, hm45⟩ := q45
        have hm45 := hm45.symm
        subst hm45
        refine vv_iload_n (pc := 48) x dd_He_addTuple_48 rfl ?_
        refine vv_iconst (pc := 49) x dd_He_addTuple_49 (1) (by decide) ?_
        refine vv_iadd (pc := 50) x dd_He_addTuple_50 ?_
        refine lv_He_29 (pc := 51) G x dd_He_addTuple_51 (k_place G S1 hp hD hT1 (by rw [c1, f1, hM1, mn_sa]; exact in_n (by omega) n2 (by omega))) hT1 ⟨by decide, by decide⟩ (by decide) (by decide) (Nat.le_of_ble_eq_true rfl) (fun v51 M51 q51 => ?_)
        obtain ⟨rfl, hm51⟩ := q51
        exact vv_iret (pc := 54) x dd_He_addTuple_54 rfl (by decide) (by decide) ⟨by rw [show nI (hsz B) <<< ((3 : Int32) &&& 31) ||| 4 = tk 4 (hsz B) from term_is (k := 4) (by decide) (by omega)], by
            have hkn : k = n := by
              have := (nI_leI (by omega) (by omega)).mp h14
              omega
            subst hkn
            rw [hm51, hM1]
            refine hadd_of hne hp6 H (Or.inr (Or.inl ⟨rfl, by rw [htl]; omega⟩)) (by show hsz B + ((Rg.take k).length + 1) ≤ pw; rw [htl]; omega) hw1 (fun j hj hn9 => ?_) (term_is (k := 4) (by decide) (by omega)) (by show nI k + 1 = nI ((Rg.take k).length + 1); rw [htl, nI_1])
            have hj2 : j < (Rg.take k).length + 1 := hj
            rw [htl] at hj2
            show W (hsz B + j) = if j = 0 then nI (Rg.take k).length else (Rg.take k).getD (j - 1) 0
            by_cases e0 : j = 0
            · subst e0
              rw [if_pos rfl, htl]
              exact hw2
            · rw [if_neg e0]
              have h9 := hw3 (j - 1) (by omega)
              rw [show hsz B + 1 + (j - 1) = hsz B + j by omega] at h9
              rw [h9]
              simp only [List.getD_eq_getElem?_getD]
              rw [List.getElem?_take, if_pos (by omega)]⟩
      · have hlt : k < n := by
          rcases Nat.lt_or_ge k n with h9 | h9
          · exact h9
          · exact absurd (nI_le h9 (by omega)) h14
        refine vv_aload_n (pc := 17) x dd_He_addTuple_17 rfl ?_
        refine lg_He_15 (pc := 18) G x dd_He_addTuple_18 hT1 (by rw [hM1]; exact r3) ?_
        refine vv_aload_n (pc := 21) x dd_He_addTuple_21 rfl ?_
        refine lg_He_18 (pc := 22) G x dd_He_addTuple_22 hT1 ?_
        rw [u1]
        refine vv_iconst (pc := 25) x dd_He_addTuple_25 (1) (by decide) ?_
        refine vv_iadd (pc := 26) x dd_He_addTuple_26 ?_
        refine vv_iload_n (pc := 27) x dd_He_addTuple_27 rfl ?_
        refine vv_iadd (pc := 28) x dd_He_addTuple_28 ?_
        refine vv_aload_n (pc := 29) x dd_He_addTuple_29 rfl ?_
        refine vv_iload_n (pc := 30) x dd_He_addTuple_30 rfl ?_
        refine vv_iald (pc := 31) x dd_He_addTuple_31 (by rw [hM1]; exact tra) (in_n (N := 4) (by omega) (by rw [hM1]; exact nra) (by decide)) ?_
        rw [show nI (hsz B) + 1 + nI k = nI (hsz B + 1 + k) by rw [nI_1, nI_add], f1, nI_clamp (show k < 2 ^ 31 by omega), show mm_a M1 ra = mm_a M ra by rw [hM1]; exact ma_sa_n hra, hRg k (by omega)]
        refine vv_iast (pc := 32) x dd_He_addTuple_32 (by rw [hM1]; exact t3) (in_n (N := pw) (by omega) (by rw [hM1]; exact n3) (by omega)) ?_
        rw [nI_clamp (show hsz B + 1 + k < 2 ^ 31 by omega)]
        refine vv_iinc (pc := 33) x dd_He_addTuple_33 rfl (nI_1 k) (by decide) (ls2 := [_, _, _, _]) rfl ?_
        refine vv_goto (pc := 36) x dd_He_addTuple_36 (tgt := 12) (by decide) ?_
        exact ih (k + 1) (upd W (hsz B + 1 + k) (Rg.getD k 0)) _ (by omega) (by omega) (by rw [hM1, ma_sa_s, sa_sa]) (fun j hj => by unfold upd; rw [if_neg (by omega)]; exact hw1 j hj) (by unfold upd; rw [if_neg (by omega)]; exact hw2) (fun j hj => by
          unfold upd
          by_cases ej : j = k
          · subst ej; rw [if_pos rfl]
          · rw [if_neg (by omega)]; exact hw3 j (by omega))
  refine vv_aload_n (pc := 0) x dd_He_addTuple_0 rfl ?_
  refine lg_He_15 (pc := 1) G x dd_He_addTuple_1 (by assumption) r3 ?_
  refine vv_aload_n (pc := 4) x dd_He_addTuple_4 rfl ?_
  refine lg_He_18 (pc := 5) G x dd_He_addTuple_5 (by assumption) ?_
  refine vv_iload_n (pc := 8) x dd_He_addTuple_8 rfl ?_
  rw [H.1]
  refine vv_iast (pc := 9) x dd_He_addTuple_9 t3 (in_n (by omega) n3 (by omega)) ?_
  rw [hcu]
  refine vv_iconst (pc := 10) x dd_He_addTuple_10 (0) (by decide) ?_
  refine vv_istore_n (pc := 11) x dd_He_addTuple_11 (by decide) (ls2 := [_, _, _, _]) rfl ?_
  exact hloop (n + 1) 0 (upd (mm_a M (mm_f M 2 3 h)) (hsz B) (nI n)) _ (by omega) (Nat.zero_le _) rfl (fun j hj => by unfold upd; rw [if_neg (by omega)]) (by unfold upd; rw [if_pos rfl]) (fun j hj => by omega)
end M13
