/-! ===== a copy of a block, a tuple ===== -/
section M5
variable {g : gg} {X : State → Prop} {t0 : Nat} {l : Launch} {M : mm} {pw : Nat} {D : Nat → Prop} {ow sl : Nat → Nat} {B Bf : List bk}
set_option maxRecDepth 100000 in
set_option maxHeartbeats 4000000 in
theorem K_addCopy (G : gc g X t0 l) (S : sh pw D ow sl M) (hp : pw ≠ 0) (hp6 : pw ≤ 600) {h : Nat} (hD : D h) (hT : mm_t M h = 3) (H : HeapIs pw M h B) {hf : Nat} (hDf : D hf) (hTf : mm_t M hf = 3) (Hf : HeapIs pw M hf Bf) {i : Nat} (hi : i < Bf.length) (hs : hsz B + bsz (hb Bf i) ≤ pw) : Ok g X l yy_He_addCopy cc_He_addCopy 5 (some .int) 1 26 0 0 [.ref h, .ref hf, .int (htm Bf i)] M (fun v M' => v = some (.int (tk (hb Bf i).1 (hsz B))) ∧ hadd pw M h B (hb Bf i) M') := by
  refine ok_start (by decide) (Nat.le_of_ble_eq_true rfl) (by simp [Value.category]) ?_
  intro p e s m args below meth c x
  have hne := S.ap hD hT (k := 2) hp hD hT (k2 := 3) hp (Or.inr (by decide))
  have n3 : mm_n M (mm_f M 2 3 h) = pw := S.n hD hT 3 hp
  have n2 : mm_n M (mm_f M 2 2 h) = pw := S.n hD hT 2 hp
  have r2 := S.r hD hT 2 hp
  have t2 := S.t hD hT 2 hp
  have r3 := S.r hD hT 3 hp
  have t3 := S.t hD hT 3 hp
  have hl := len_le_hsz B
  have rf3 := S.r hDf hTf 3 hp
  have tf3 := S.t hDf hTf 3 hp
  have nf3 : mm_n M (mm_f M 2 3 hf) = pw := S.n hDf hTf 3 hp
  have bd := hv_bnd Hf.2.2 hp6 hi
  have bp := bsz_pos (hb Bf i)
  have e1 := hv_shr Hf.2.2 hp6 hi
  have e2 := hv_and Hf.2.2 hp6 hi
  have eu := H.1
  have c1 : (nI (had Bf i)).toNatClampNeg = had Bf i := nI_clamp (by omega)
  have elen : (if nI (hb Bf i).1 = 3 then (2 : Int32) else if nI (hb Bf i).1 = 4 then mm_a M (mm_f M 2 3 hf) (had Bf i) + 1 else 2) = nI (bsz (hb Bf i)) := by
    rcases Hf.2.2.2.2.2 i hi with q | q | q
    · rw [q.1, if_pos (show nI 3 = 3 from rfl)]
      unfold bsz
      rw [if_neg (by omega)]; rfl
    · have h8 := Hf.2.2.2.2.1 i hi 0 bp (by omega)
      rw [Nat.add_zero] at h8
      rw [q.1, if_neg (by decide), if_pos (show nI 4 = 4 from rfl), h8]
      unfold bwd bsz
      rw [if_pos q.1, if_pos rfl, if_pos q.1, nI_1]
    · rw [q.1, if_neg (by decide), if_neg (by decide)]
      unfold bsz
      rw [if_neg (by omega)]; rfl
  have c2 : (nI (bsz (hb Bf i))).toNatClampNeg = bsz (hb Bf i) := nI_clamp (by omega)
  have c3 : (nI (hsz B)).toNatClampNeg = hsz B := nI_clamp (by omega)
  have et : nI (hsz B) <<< ((3 : Int32) &&& 31) ||| nI (hb Bf i).1 = tk (hb Bf i).1 (hsz B) := term_is bd.2.1 (by omega)
  refine vv_iload_n (pc := 0) x dd_He_addCopy_0 rfl ?_
  refine lv_He_32 (pc := 1) G x dd_He_addCopy_1 (k_contentOf G)  ⟨by decide, by decide⟩ (by decide) (by decide) (Nat.le_of_ble_eq_true rfl) (fun v1 M1 q1 => ?_)
  obtain ⟨rfl, hm1⟩ := q1
  have hm1 := hm1.symm
  subst hm1
  rw [e1]
  refine vv_istore_n (pc := 4) x dd_He_addCopy_4 (by decide) (ls2 := [_, _, _, _, none]) rfl ?_
  refine vv_iload_n (pc := 5) x dd_He_addCopy_5 rfl ?_
  refine lv_He_36 (pc := 6) G x dd_He_addCopy_6 (k_kindOf G)  ⟨by decide, by decide⟩ (by decide) (by decide) (Nat.le_of_ble_eq_true rfl) (fun v6 M6 q6 => ?_)
  obtain ⟨rfl, hm6⟩ := q6
  have hm6 := hm6.symm
  subst hm6
  rw [e2]
  refine vv_aload_n (pc := 9) x dd_He_addCopy_9 rfl ?_
  refine lg_He_15 (pc := 10) G x dd_He_addCopy_10 (by assumption) (by assumption) ?_
  refine vv_iload_n (pc := 13) x dd_He_addCopy_13 rfl ?_
  refine vv_iald (pc := 14) x dd_He_addCopy_14 (by assumption) (in_n (by omega) nf3 (by omega)) ?_
  rw [c1]
  refine lv_He_39 (pc := 15) G x dd_He_addCopy_15 (k_lengthOf G)  ⟨by decide, by decide⟩ (by decide) (by decide) (Nat.le_of_ble_eq_true rfl) (fun v15 M15 q15 => ?_)
  obtain ⟨rfl, hm15⟩ := q15
  have hm15 := hm15.symm
  subst hm15
  rw [elen]
  refine vv_istore (pc := 18) x dd_He_addCopy_18 (by decide) (ls2 := [_, _, _, _, _]) rfl ?_
  refine vv_aload_n (pc := 20) x dd_He_addCopy_20 rfl ?_
  refine lg_He_15 (pc := 21) G x dd_He_addCopy_21 (by assumption) (by assumption) ?_
  refine vv_iload_n (pc := 24) x dd_He_addCopy_24 rfl ?_
  refine vv_aload_n (pc := 25) x dd_He_addCopy_25 rfl ?_
  refine lg_He_15 (pc := 26) G x dd_He_addCopy_26 (by assumption) (by assumption) ?_
  refine vv_aload_n (pc := 29) x dd_He_addCopy_29 rfl ?_
  refine lg_He_18 (pc := 30) G x dd_He_addCopy_30 (by assumption) ?_
  refine vv_iload (pc := 33) x dd_He_addCopy_33 rfl ?_
  rw [eu]
  refine li_He_42 (pc := 35) G x dd_He_addCopy_35 tf3 t3 (nI_pos (by omega)) (nI_pos (by omega)) (nI_pos (by omega)) (by rw [c1, c2, nf3]; omega) (by rw [c3, c2, n3]; omega) ⟨by decide, by decide⟩ (Nat.le_of_ble_eq_true rfl) ?_
  rw [c1, c2, c3]
  refine vv_aload_n (pc := 38) x dd_He_addCopy_38 rfl ?_
  refine vv_iload_n (pc := 39) x dd_He_addCopy_39 rfl ?_
  refine lv_He_36 (pc := 40) G x dd_He_addCopy_40 (k_kindOf G)  ⟨by decide, by decide⟩ (by decide) (by decide) (Nat.le_of_ble_eq_true rfl) (fun v40 M40 q40 => ?_)
  obtain ⟨rfl, hm40⟩ := q40
  have hm40 := hm40.symm
  subst hm40
  rw [e2]
  refine vv_aload_n (pc := 43) x dd_He_addCopy_43 rfl ?_
  refine lg_He_18 (pc := 44) G x dd_He_addCopy_44 (by assumption) ?_
  have eu2 : mm_i (mm_sa M (mm_f M 2 3 h) (va_cpy (mm_a M (mm_f M 2 3 hf)) (mm_a M (mm_f M 2 3 h)) (had Bf i) (hsz B) (bsz (hb Bf i)))) 2 0 h = nI (hsz B) := eu
  rw [eu2]
  refine lv_He_25 (pc := 47) G x dd_He_addCopy_47 (k_termOf G)  ⟨by decide, by decide⟩ (by decide) (by decide) (Nat.le_of_ble_eq_true rfl) (fun v47 M47 q47 => ?_)
  obtain ⟨rfl, hm47⟩ := q47
  have hm47 := hm47.symm
  subst hm47
  rw [et]
  refine vv_iload (pc := 50) x dd_He_addCopy_50 rfl ?_
  refine lv_He_29 (pc := 52) G x dd_He_addCopy_52 (k_place G (pw := pw) (D := D) (ow := ow) (sl := sl) (by exact S) hp hD (by exact hT) (by show vp_in (mm_i M 2 1 h) (mm_n M (mm_f M 2 2 h)); rw [H.2.1]; exact in_n (by omega) n2 (by omega))) (by assumption) ⟨by decide, by decide⟩ (by decide) (by decide) (Nat.le_of_ble_eq_true rfl) (fun v52 M52 q52 => ?_)
  obtain ⟨rfl, hm52⟩ := q52
  have hm52 := hm52.symm
  subst hm52
  exact vv_iret (pc := 55) x dd_He_addCopy_55 rfl (by decide) (by decide) ⟨rfl, by
      have q9 := hadd_of (b := hb Bf i) (W := va_cpy (mm_a M (mm_f M 2 3 hf)) (mm_a M (mm_f M 2 3 h)) (had Bf i) (hsz B) (bsz (hb Bf i))) (t := tk (hb Bf i).1 (hsz B)) (n := nI (bsz (hb Bf i))) hne hp6 H (Hf.2.2.2.2.2 i hi) hs (fun j hj => pk_cpy_out (Or.inl hj)) (fun j hj hn => by rw [pk_cpy_in (by omega) (by omega), Nat.add_sub_cancel_left]; exact Hf.2.2.2.2.1 i hi j hj hn) rfl rfl
      exact q9⟩
end M5
