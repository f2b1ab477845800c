/-! ===== the reference: broadcast ===== -/
section M67
variable {g : gg} {X : State → Prop} {t0 : Nat} {l : Launch} {M : mm} {M1 M2 : mm} {pw : Nat} {D : Nat → Prop} {ow sl : Nat → Nat} {mo : Nat} {Ki Ka : List Nat} {k : Nat} {pl : List Nat} {Z : zst} {B B0 : List bk} {b : bk}
theorem zdel_lat {s r : Nat} {t : Int32} : (zdel Z s r t).2.2.2.1 = Z.2.2.1 := by
  unfold zdel
  split
  · exact zroom_lat
  · exact zroom_lat
theorem zcol_num {i j : Nat} (hi : i < Z.1.length) : (zget (zcol Z i) j).1 = (zget Z j).1 := by
  by_cases e : j = i
  · unfold zcol
    rw [zget_set hi, if_pos e, e]
    rfl
  · rw [zcol_ne hi e]
theorem zroom_num {i n j : Nat} (hi : i < Z.1.length) : (zget (zroom Z i n).2 j).1 = (zget Z j).1 := by
  by_cases e : j = i
  · unfold zroom
    split
    · rfl
    · split
      · unfold zgrow
        rw [zget_set (by rw [zcol_len]; exact hi), if_pos e, e]
        exact zcol_num hi
      · exact zcol_num hi
  · rw [zroom_ne hi e]
theorem zdel_num {s r j : Nat} {t : Int32} (hr : r < Z.1.length) : (zget (zdel Z s r t).2 j).1 = (zget Z j).1 := by
  by_cases e : j = r
  · unfold zdel
    split
    · unfold ztak
      rw [zget_set (by rw [zroom_len]; exact hr), if_pos e, e]
      exact zroom_num hr
    · exact zroom_num hr
  · rw [zdel_ne hr e]
theorem zdel_ml {s r : Nat} {t : Int32} (h : ∀ P ∈ Z.1, P.2.2.2.1.length ≤ 512) (hr : r < Z.1.length) (h5 : (zget Z r).2.2.2.1.length < 512) : ∀ P ∈ (zdel Z s r t).2.1, P.2.2.2.1.length ≤ 512 := by
  unfold zdel
  split
  · intro P hP
    rcases List.mem_or_eq_of_mem_set hP with e | e
    · exact zroom_ml2 h hr P e
    · rw [e]
      show ((zget _ r).2.2.2.1 ++ [_]).length ≤ 512
      rw [List.length_append, zroom_mlen hr]
      simp
      omega
  · exact zroom_ml2 h hr
/-- the number at a place -/
def nmb (Z : zst) (pl : List Nat) (p : Nat) : Nat := if p ∈ pl then (plP Z pl p).1 else 0
theorem nmb_is (h : MI pw D ow sl M mo pl Z) {p : Nat} (hp : p < 8) : ra M mo 5 p = nI (nmb Z pl p) := by
  unfold nmb
  by_cases e : p ∈ pl
  · rw [if_pos e]
    obtain ⟨x1, x2⟩ := pl_at e
    have h9 := (h.2.2.2.1 (pl.idxOf p) (by have := h.2.2.1.1; omega)).1.1
    rw [x2] at h9
    exact h9
  · rw [if_neg e]
    exact h.2.2.2.2.1 p hp e
theorem nmb_at (l2 : pl.Nodup) {i : Nat} (hi : i < pl.length) : nmb Z pl (pl.getD i 0) = (zget Z i).1 := by
  unfold nmb plP
  rw [if_pos (getD_memN hi), pl_idx l2 hi]
theorem nmb_lt (hnm : ∀ P ∈ Z.1, 1 ≤ P.1 ∧ P.1 < 2 ^ 31) (l1 : pl.length = Z.1.length) {p : Nat} : nmb Z pl p < 2 ^ 31 := by
  unfold nmb
  by_cases e : p ∈ pl
  · rw [if_pos e]
    exact (hnm _ (zget_mem (by have := (pl_at e).1; omega))).2
  · rw [if_neg e]; decide
theorem num_le (hp : (Z.1.map (fun P => P.1)).Pairwise (· < ·)) {i j : Nat} (hij : i ≤ j) (hj : j < Z.1.length) : (zget Z i).1 ≤ (zget Z j).1 := by
  by_cases e : i = j
  · rw [e]; exact Nat.le_refl _
  · exact Nat.le_of_lt (num_lt hp (by omega) hj)
/-- the least number above lastN is process i's -/
theorem least_is (hp : (Z.1.map (fun P => P.1)).Pairwise (· < ·)) (l1 : pl.length = Z.1.length) {i p0 lastN : Nat} (hi : i < Z.1.length) (hl : ∀ j, j < Z.1.length → (lastN < (zget Z j).1 ↔ i ≤ j)) (h0 : lastN < nmb Z pl p0) (hle : nmb Z pl p0 ≤ (zget Z i).1) : p0 = pl.getD i 0 := by
  unfold nmb at h0 hle
  by_cases e : p0 ∈ pl
  · rw [if_pos e] at h0 hle
    obtain ⟨x1, x2⟩ := pl_at e
    have h1 : i ≤ pl.idxOf p0 := (hl _ (by omega)).mp h0
    by_cases e2 : pl.idxOf p0 = i
    · rw [← e2]; exact x2.symm
    · have h3 := num_lt hp (i := i) (j := pl.idxOf p0) (by omega) (by omega)
      have h4 : (plP Z pl p0).1 = (zget Z (pl.idxOf p0)).1 := rfl
      omega
  · rw [if_neg e] at h0
    omega
set_option maxRecDepth 100000 in
set_option maxHeartbeats 1000000 in
theorem R_broadcast (G : gc g X t0 l) (h : MI pw D ow sl M mo pl Z) (hZ : zok pw Z) (hp6 : pw ≤ 600) (hlat : Z.2.2.1 < 2 ^ 31) (hml : ∀ P ∈ Z.1, P.2.2.2.1.length ≤ 512) {xv rv : Int32} (k9 : Nat) (hk9 : plc Z xv = k9) (hm5 : ∀ P ∈ Z.1, P.2.2.2.1.length < 512) (Rs : Nat × zst) (hRs : k9 < Z.1.length → zbc k9 (zrg Z k9 rv) Z.1.length 0 0 Z = Rs) : Ok g X l yy_Mo_broadcast cc_Mo_broadcast 8 (some .int) 8 188 0 0 [.ref mo, .int xv, .int rv] M (fun v M' => rx RI9 RA mo M M' ∧ (((k9 < Z.1.length ∧ rok rv) ∧ v = some (.int (nI Rs.1)) ∧ ri M' mo 0 = 0 ∧ MI pw D ow sl M' mo pl Rs.2) ∨ (¬ (k9 < Z.1.length ∧ rok rv) ∧ (∃ z, v = some (.int z)) ∧ ri M' mo 0 = 1 ∧ MI pw D ow sl M' mo pl Z))) := by
  refine ok_start (by decide) (Nat.le_of_ble_eq_true rfl) (by simp [Value.category]) ?_
  intro p e s m args below meth c9 x
  have R := h.1
  have hnm := znm hZ hlat
  have h8z := hZ.2.1
  by_cases hk : k9 < Z.1.length
  · have hp8 : pl.getD k9 0 < 8 := h.2.2.1.2.2 _ (getD_memN (by have := h.2.2.1.1; omega))
    by_cases hr : rok rv
    · have hho := zho hZ hml
      obtain ⟨⟨a1, a2, a3⟩, a4, ⟨a5, a6⟩, a7, a8⟩ := h.2.2.2.1 k9 hk
      have kk := hZ.1 _ (zget_mem hk)
      have h600 := kk.2.1.1
      have hml9 := hml _ (zget_mem hk)
      have hcp : (nI (pl.getD k9 0)).toNatClampNeg = pl.getD k9 0 := nI_clamp (by omega)
      obtain ⟨-, hj_j9, ej_j9⟩ := rok_in hr
      have gj_j9 := a4 rv.toNatClampNeg hj_j9
      generalize hq_j9 : rv.toNatClampNeg = j9 at *
      have hvt := zrg_vt hZ hk hr
      have gt : zrg Z k9 rv = (zget Z k9).2.2.1.getD j9 0 := by unfold zrg; rw [hq_j9]
      have hRs' := hRs hk
      have l1 := h.2.2.1.1
      have l2 := h.2.2.1.2.1
      have hpp := hZ.2.2.1
      have hinn : ∀ (Z1 : zst) (M1 : mm) (got lastN : Nat) (toF : Int32), MI pw D ow sl M1 mo pl Z1 → (∀ P ∈ Z1.1, 1 ≤ P.1 ∧ P.1 < 2 ^ 31) → lastN < 2 ^ 31 → (∀ (to1 : Int32), ((to1 = -1 ∧ ∀ p, p < 8 → ¬ lastN < nmb Z1 pl p) ∨ ∃ p0, p0 < 8 ∧ to1 = nI p0 ∧ lastN < nmb Z1 pl p0 ∧ ∀ p, p < 8 → lastN < nmb Z1 pl p → nmb Z1 pl p0 ≤ nmb Z1 pl p) → vv g 8 p l e (rm 8 188 0 0) s m args below meth c9 (MQ below (ok_Q g (fun v M' => rx RI9 RA mo M M' ∧ (((k9 < Z.1.length ∧ rok rv) ∧ v = some (.int (nI Rs.1)) ∧ ri M' mo 0 = 0 ∧ MI pw D ow sl M' mo pl Rs.2) ∨ (¬ (k9 < Z.1.length ∧ rok rv) ∧ (∃ z, v = some (.int z)) ∧ ri M' mo 0 = 1 ∧ MI pw D ow sl M' mo pl Z)))) args s 0 0 (ok_F g)) 0 0 102 [some (.ref mo), some (.int xv), some (.int rv), some (.int (nI (pl.getD k9 0))), some (.int (nI (got))), some (.int (nI (lastN))), some (.int to1), none] [] (M1)) → ∀ (n q9 : Nat) (to1 : Int32), q9 + n = 8 → ((to1 = -1 ∧ ∀ p, p < q9 → ¬ lastN < nmb Z1 pl p) ∨ ∃ p0, p0 < q9 ∧ to1 = nI p0 ∧ lastN < nmb Z1 pl p0 ∧ ∀ p, p < q9 → lastN < nmb Z1 pl p → nmb Z1 pl p0 ≤ nmb Z1 pl p) → vv g 8 p l e (rm 8 188 0 0) s m args below meth c9 (MQ below (ok_Q g (fun v M' => rx RI9 RA mo M M' ∧ (((k9 < Z.1.length ∧ rok rv) ∧ v = some (.int (nI Rs.1)) ∧ ri M' mo 0 = 0 ∧ MI pw D ow sl M' mo pl Rs.2) ∨ (¬ (k9 < Z.1.length ∧ rok rv) ∧ (∃ z, v = some (.int z)) ∧ ri M' mo 0 = 1 ∧ MI pw D ow sl M' mo pl Z)))) args s 0 0 (ok_F g)) 0 0 46 [some (.ref mo), some (.int xv), some (.int rv), some (.int (nI (pl.getD k9 0))), some (.int (nI (got))), some (.int (nI (lastN))), some (.int to1), some (.int (nI q9))] [] (M1) := by
        intro Z1 M1 got lastN toF h1 hnm1 hlast hcont n
        have R1 := h1.1
        have l11 := h1.2.2.1.1
        induction n with
        | zero =>
          intro q9 to1 hq hto
          have e8 : q9 = 8 := by omega
          subst e8
          refine vv_iload (pc := 46) x dd_Mo_broadcast_46 rfl ?_
          refine vv_bipush (pc := 48) x dd_Mo_broadcast_48 (8) (by decide) ?_
          refine vv_icmp_ge (pc := 50) x dd_Mo_broadcast_50 (tgt := 102) (by decide) (fun h50 => ?_) (fun h50 => absurd h50 (fun z => z (nI_le (Nat.le_refl 8) (by decide))))
          refine vv_weak (fun i9 v9 hi9 => ?_) (hcont to1 hto)
          rcases i9 with _ | _ | _ | _ | _ | _ | _ | _ | i9
          · exact hi9
          · exact hi9
          · exact hi9
          · exact hi9
          · exact hi9
          · exact hi9
          · exact hi9
          · simp at hi9
          · simp at hi9
        | succ n ih =>
          intro q9 to1 hq hto
          have hcq : (nI q9).toNatClampNeg = q9 := nI_clamp (by omega)
          have g5 : mm_a M1 (mm_f M1 7 5 mo) q9 = nI (nmb Z1 pl q9) := nmb_is h1 (by omega)
          have hb5 := nmb_lt (pl := pl) hnm1 l11 (p := q9)
          by_cases hgt : lastN < nmb Z1 pl q9
          · rcases hto with ⟨et, hno⟩ | ⟨p0, hp0, et, hp1, hmin⟩
            · subst et
              refine vv_iload (pc := 46) x dd_Mo_broadcast_46 rfl ?_
              refine vv_bipush (pc := 48) x dd_Mo_broadcast_48 (8) (by decide) ?_
              refine vv_icmp_ge (pc := 50) x dd_Mo_broadcast_50 (tgt := 102) (by decide) (fun h50 => absurd h50 (nI_ge (a := q9) (b := 8) (by omega) (by decide))) (fun h50 => ?_)
              refine vv_aload_n (pc := 53) x dd_Mo_broadcast_53 rfl ?_
              refine lg_Mo_7 (pc := 54) G x dd_Mo_broadcast_54 R1.2.2 (R1.r 5 (by decide)) ?_
              refine vv_iload (pc := 57) x dd_Mo_broadcast_57 rfl ?_
              refine vv_iald (pc := 59) x dd_Mo_broadcast_59 (R1.t 5 (by decide)) (in_n (N := 8) (by omega) (R1.n 5 (by decide)) (by decide)) ?_
              rw [hcq, g5]
              refine vv_iload (pc := 60) x dd_Mo_broadcast_60 rfl ?_
              refine vv_icmp_le (pc := 62) x dd_Mo_broadcast_62 (tgt := 92) (by decide) (fun h62 => absurd h62 (nI_ge hgt (by omega))) (fun h62 => ?_)
              refine vv_iload (pc := 65) x dd_Mo_broadcast_65 rfl ?_
              refine vv_if_lt (pc := 67) x dd_Mo_broadcast_67 (tgt := 87) (by decide) (fun h67 => ?_) (fun h67 => absurd h67 (fun z => z (by decide)))
              refine vv_iload (pc := 87) x dd_Mo_broadcast_87 rfl ?_
              refine vv_goto (pc := 89) x dd_Mo_broadcast_89 (tgt := 94) (by decide) ?_
              refine vv_istore (pc := 94) x dd_Mo_broadcast_94 (by decide) (ls2 := [_, _, _, _, _, _, _, _]) rfl ?_
              refine vv_iinc (pc := 96) x dd_Mo_broadcast_96 rfl (nI_1 q9) (by decide) (ls2 := [_, _, _, _, _, _, _, _]) rfl ?_
              refine vv_goto (pc := 99) x dd_Mo_broadcast_99 (tgt := 46) (by decide) ?_
              exact ih (q9 + 1) (nI q9) (by omega) (Or.inr ⟨q9, by omega, rfl, hgt, fun p hp hlp => by
                by_cases e9 : p = q9
                · rw [e9]; exact Nat.le_refl _
                · exact absurd hlp (hno p (by omega))⟩)
            · subst et
              have hcp0 : (nI p0).toNatClampNeg = p0 := nI_clamp (by omega)
              have g50 : mm_a M1 (mm_f M1 7 5 mo) p0 = nI (nmb Z1 pl p0) := nmb_is h1 (by omega)
              have hb0 := nmb_lt (pl := pl) hnm1 l11 (p := p0)
              by_cases hless : nmb Z1 pl q9 < nmb Z1 pl p0
              · refine vv_iload (pc := 46) x dd_Mo_broadcast_46 rfl ?_
                refine vv_bipush (pc := 48) x dd_Mo_broadcast_48 (8) (by decide) ?_
                refine vv_icmp_ge (pc := 50) x dd_Mo_broadcast_50 (tgt := 102) (by decide) (fun h50 => absurd h50 (nI_ge (a := q9) (b := 8) (by omega) (by decide))) (fun h50 => ?_)
                refine vv_aload_n (pc := 53) x dd_Mo_broadcast_53 rfl ?_
                refine lg_Mo_7 (pc := 54) G x dd_Mo_broadcast_54 R1.2.2 (R1.r 5 (by decide)) ?_
                refine vv_iload (pc := 57) x dd_Mo_broadcast_57 rfl ?_
                refine vv_iald (pc := 59) x dd_Mo_broadcast_59 (R1.t 5 (by decide)) (in_n (N := 8) (by omega) (R1.n 5 (by decide)) (by decide)) ?_
                rw [hcq, g5]
                refine vv_iload (pc := 60) x dd_Mo_broadcast_60 rfl ?_
                refine vv_icmp_le (pc := 62) x dd_Mo_broadcast_62 (tgt := 92) (by decide) (fun h62 => absurd h62 (nI_ge hgt (by omega))) (fun h62 => ?_)
                refine vv_iload (pc := 65) x dd_Mo_broadcast_65 rfl ?_
                refine vv_if_lt (pc := 67) x dd_Mo_broadcast_67 (tgt := 87) (by decide) (fun h67 => absurd h67 (nI_pos (by omega))) (fun h67 => ?_)
                refine vv_aload_n (pc := 70) x dd_Mo_broadcast_70 rfl ?_
                refine lg_Mo_7 (pc := 71) G x dd_Mo_broadcast_71 R1.2.2 (R1.r 5 (by decide)) ?_
                refine vv_iload (pc := 74) x dd_Mo_broadcast_74 rfl ?_
                refine vv_iald (pc := 76) x dd_Mo_broadcast_76 (R1.t 5 (by decide)) (in_n (N := 8) (by omega) (R1.n 5 (by decide)) (by decide)) ?_
                rw [hcq, g5]
                refine vv_aload_n (pc := 77) x dd_Mo_broadcast_77 rfl ?_
                refine lg_Mo_7 (pc := 78) G x dd_Mo_broadcast_78 R1.2.2 (R1.r 5 (by decide)) ?_
                refine vv_iload (pc := 81) x dd_Mo_broadcast_81 rfl ?_
                refine vv_iald (pc := 83) x dd_Mo_broadcast_83 (R1.t 5 (by decide)) (in_n (N := 8) (by omega) (R1.n 5 (by decide)) (by decide)) ?_
                rw [hcp0, g50]
                refine vv_icmp_ge (pc := 84) x dd_Mo_broadcast_84 (tgt := 92) (by decide) (fun h84 => absurd h84 (nI_ge hless (by omega))) (fun h84 => ?_)
                refine vv_iload (pc := 87) x dd_Mo_broadcast_87 rfl ?_
                refine vv_goto (pc := 89) x dd_Mo_broadcast_89 (tgt := 94) (by decide) ?_
                refine vv_istore (pc := 94) x dd_Mo_broadcast_94 (by decide) (ls2 := [_, _, _, _, _, _, _, _]) rfl ?_
                refine vv_iinc (pc := 96) x dd_Mo_broadcast_96 rfl (nI_1 q9) (by decide) (ls2 := [_, _, _, _, _, _, _, _]) rfl ?_
                refine vv_goto (pc := 99) x dd_Mo_broadcast_99 (tgt := 46) (by decide) ?_
                exact ih (q9 + 1) (nI q9) (by omega) (Or.inr ⟨q9, by omega, rfl, hgt, fun p hp hlp => by
                  by_cases e9 : p = q9
                  · rw [e9]; exact Nat.le_refl _
                  · have := hmin p (by omega) hlp
                    omega⟩)
              · refine vv_iload (pc := 46) x dd_Mo_broadcast_46 rfl ?_
                refine vv_bipush (pc := 48) x dd_Mo_broadcast_48 (8) (by decide) ?_
                refine vv_icmp_ge (pc := 50) x dd_Mo_broadcast_50 (tgt := 102) (by decide) (fun h50 => absurd h50 (nI_ge (a := q9) (b := 8) (by omega) (by decide))) (fun h50 => ?_)
                refine vv_aload_n (pc := 53) x dd_Mo_broadcast_53 rfl ?_
                refine lg_Mo_7 (pc := 54) G x dd_Mo_broadcast_54 R1.2.2 (R1.r 5 (by decide)) ?_
                refine vv_iload (pc := 57) x dd_Mo_broadcast_57 rfl ?_
                refine vv_iald (pc := 59) x dd_Mo_broadcast_59 (R1.t 5 (by decide)) (in_n (N := 8) (by omega) (R1.n 5 (by decide)) (by decide)) ?_
                rw [hcq, g5]
                refine vv_iload (pc := 60) x dd_Mo_broadcast_60 rfl ?_
                refine vv_icmp_le (pc := 62) x dd_Mo_broadcast_62 (tgt := 92) (by decide) (fun h62 => absurd h62 (nI_ge hgt (by omega))) (fun h62 => ?_)
                refine vv_iload (pc := 65) x dd_Mo_broadcast_65 rfl ?_
                refine vv_if_lt (pc := 67) x dd_Mo_broadcast_67 (tgt := 87) (by decide) (fun h67 => absurd h67 (nI_pos (by omega))) (fun h67 => ?_)
                refine vv_aload_n (pc := 70) x dd_Mo_broadcast_70 rfl ?_
                refine lg_Mo_7 (pc := 71) G x dd_Mo_broadcast_71 R1.2.2 (R1.r 5 (by decide)) ?_
                refine vv_iload (pc := 74) x dd_Mo_broadcast_74 rfl ?_
                refine vv_iald (pc := 76) x dd_Mo_broadcast_76 (R1.t 5 (by decide)) (in_n (N := 8) (by omega) (R1.n 5 (by decide)) (by decide)) ?_
                rw [hcq, g5]
                refine vv_aload_n (pc := 77) x dd_Mo_broadcast_77 rfl ?_
                refine lg_Mo_7 (pc := 78) G x dd_Mo_broadcast_78 R1.2.2 (R1.r 5 (by decide)) ?_
                refine vv_iload (pc := 81) x dd_Mo_broadcast_81 rfl ?_
                refine vv_iald (pc := 83) x dd_Mo_broadcast_83 (R1.t 5 (by decide)) (in_n (N := 8) (by omega) (R1.n 5 (by decide)) (by decide)) ?_
                rw [hcp0, g50]
                refine vv_icmp_ge (pc := 84) x dd_Mo_broadcast_84 (tgt := 92) (by decide) (fun h84 => ?_) (fun h84 => absurd h84 (fun z => z (nI_le (by omega) (by omega))))
                refine vv_iload (pc := 92) x dd_Mo_broadcast_92 rfl ?_
                refine vv_istore (pc := 94) x dd_Mo_broadcast_94 (by decide) (ls2 := [_, _, _, _, _, _, _, _]) rfl ?_
                refine vv_iinc (pc := 96) x dd_Mo_broadcast_96 rfl (nI_1 q9) (by decide) (ls2 := [_, _, _, _, _, _, _, _]) rfl ?_
                refine vv_goto (pc := 99) x dd_Mo_broadcast_99 (tgt := 46) (by decide) ?_
                exact ih (q9 + 1) (nI p0) (by omega) (Or.inr ⟨p0, by omega, rfl, hp1, fun p hp hlp => by
                  by_cases e9 : p = q9
                  · rw [e9]; omega
                  · exact hmin p (by omega) hlp⟩)
          · refine vv_iload (pc := 46) x dd_Mo_broadcast_46 rfl ?_
            refine vv_bipush (pc := 48) x dd_Mo_broadcast_48 (8) (by decide) ?_
            refine vv_icmp_ge (pc := 50) x dd_Mo_broadcast_50 (tgt := 102) (by decide) (fun h50 => absurd h50 (nI_ge (a := q9) (b := 8) (by omega) (by decide))) (fun h50 => ?_)
            refine vv_aload_n (pc := 53) x dd_Mo_broadcast_53 rfl ?_
            refine lg_Mo_7 (pc := 54) G x dd_Mo_broadcast_54 R1.2.2 (R1.r 5 (by decide)) ?_
            refine vv_iload (pc := 57) x dd_Mo_broadcast_57 rfl ?_
            refine vv_iald (pc := 59) x dd_Mo_broadcast_59 (R1.t 5 (by decide)) (in_n (N := 8) (by omega) (R1.n 5 (by decide)) (by decide)) ?_
            rw [hcq, g5]
            refine vv_iload (pc := 60) x dd_Mo_broadcast_60 rfl ?_
            refine vv_icmp_le (pc := 62) x dd_Mo_broadcast_62 (tgt := 92) (by decide) (fun h62 => ?_) (fun h62 => absurd h62 (fun z => z (nI_le (by omega) (by omega))))
            refine vv_iload (pc := 92) x dd_Mo_broadcast_92 rfl ?_
            refine vv_istore (pc := 94) x dd_Mo_broadcast_94 (by decide) (ls2 := [_, _, _, _, _, _, _, _]) rfl ?_
            refine vv_iinc (pc := 96) x dd_Mo_broadcast_96 rfl (nI_1 q9) (by decide) (ls2 := [_, _, _, _, _, _, _, _]) rfl ?_
            refine vv_goto (pc := 99) x dd_Mo_broadcast_99 (tgt := 46) (by decide) ?_
            refine ih (q9 + 1) to1 (by omega) ?_
            rcases hto with ⟨et, hno⟩ | ⟨p0, hp0, et, hp1, hmin⟩
            · exact Or.inl ⟨et, fun p hp => by
                by_cases e9 : p = q9
                · rw [e9]; exact hgt
                · exact hno p (by omega)⟩
            · exact Or.inr ⟨p0, by omega, et, hp1, fun p hp hlp => by
                by_cases e9 : p = q9
                · rw [e9] at hlp; exact absurd hlp hgt
                · exact hmin p (by omega) hlp⟩
      have hout : ∀ (n i got : Nat) (Z1 : zst) (M1 : mm) (lastN : Nat) (u6 u7 : Option Value), i + n = Z.1.length → got ≤ i → Z1.1.length = Z.1.length → MI pw D ow sl M1 mo pl Z1 → zok pw Z1 → Z1.2.2.1 = Z.2.2.1 → (∀ P ∈ Z1.1, P.2.2.2.1.length ≤ 512) → rx RI9 RA mo M M1 → ri M1 mo 0 = 0 → (∀ j, i ≤ j → j < Z.1.length → (zget Z1 j).2.2.2.1.length < 512) → zget Z1 k9 = zget Z k9 → zbc k9 (zrg Z k9 rv) n i got Z1 = Rs → lastN < 2 ^ 31 → (∀ j, j < Z1.1.length → (lastN < (zget Z1 j).1 ↔ i ≤ j)) → vv g 8 p l e (rm 8 188 0 0) s m args below meth c9 (MQ below (ok_Q g (fun v M' => rx RI9 RA mo M M' ∧ (((k9 < Z.1.length ∧ rok rv) ∧ v = some (.int (nI Rs.1)) ∧ ri M' mo 0 = 0 ∧ MI pw D ow sl M' mo pl Rs.2) ∨ (¬ (k9 < Z.1.length ∧ rok rv) ∧ (∃ z, v = some (.int z)) ∧ ri M' mo 0 = 1 ∧ MI pw D ow sl M' mo pl Z)))) args s 0 0 (ok_F g)) 0 0 33 [some (.ref mo), some (.int xv), some (.int rv), some (.int (nI (pl.getD k9 0))), some (.int (nI (got))), some (.int (nI (lastN))), u6, u7] [] (M1) := by
        intro n
        induction n with
        | zero =>
          intro i got Z1 M1 lastN u6 u7 hi hg hZl h1 hZ1 hla hml1 F1 t1 hm5 e9 hR hlN hlast
          have R1 := h1.1
          have eR : (got, Z1) = Rs := hR
          have hnm1 := znm hZ1 (by omega)
          have hcont : ∀ (to1 : Int32), ((to1 = -1 ∧ ∀ p, p < 8 → ¬ lastN < nmb Z1 pl p) ∨ ∃ p0, p0 < 8 ∧ to1 = nI p0 ∧ lastN < nmb Z1 pl p0 ∧ ∀ p, p < 8 → lastN < nmb Z1 pl p → nmb Z1 pl p0 ≤ nmb Z1 pl p) → vv g 8 p l e (rm 8 188 0 0) s m args below meth c9 (MQ below (ok_Q g (fun v M' => rx RI9 RA mo M M' ∧ (((k9 < Z.1.length ∧ rok rv) ∧ v = some (.int (nI Rs.1)) ∧ ri M' mo 0 = 0 ∧ MI pw D ow sl M' mo pl Rs.2) ∨ (¬ (k9 < Z.1.length ∧ rok rv) ∧ (∃ z, v = some (.int z)) ∧ ri M' mo 0 = 1 ∧ MI pw D ow sl M' mo pl Z)))) args s 0 0 (ok_F g)) 0 0 102 [some (.ref mo), some (.int xv), some (.int rv), some (.int (nI (pl.getD k9 0))), some (.int (nI (got))), some (.int (nI (lastN))), some (.int to1), none] [] (M1) := by
            intro to1 hto
            have et : to1 = -1 := by
              rcases hto with z | ⟨p0, hp0, et, hp1, -⟩
              · exact z.1
              · exfalso
                unfold nmb at hp1
                by_cases e8 : p0 ∈ pl
                · rw [if_pos e8] at hp1
                  have x1 := (pl_at e8).1
                  have := (hlast (pl.idxOf p0) (by omega)).mp hp1
                  omega
                · rw [if_neg e8] at hp1
                  omega
            subst et
            refine vv_iload (pc := 102) x dd_Mo_broadcast_102 rfl ?_
            refine vv_if_ge (pc := 104) x dd_Mo_broadcast_104 (tgt := 110) (by decide) (fun h104 => absurd h104 (by decide)) (fun h104 => ?_)
            refine vv_iload (pc := 107) x dd_Mo_broadcast_107 rfl ?_
            exact vv_iret (pc := 109) x dd_Mo_broadcast_109 rfl (by decide) (by decide) ⟨F1, Or.inl ⟨⟨hk, hr⟩, by rw [← eR], t1, by rw [← eR]; exact h1⟩⟩
          refine vv_aload_n (pc := 33) x dd_Mo_broadcast_33 rfl ?_
          refine lg_Mo_62 (pc := 34) G x dd_Mo_broadcast_34 R1.2.2 ?_
          rw [show mm_i M1 7 0 mo = 0 from t1]
          refine vv_if_ne (pc := 37) x dd_Mo_broadcast_37 (tgt := 158) (by decide) (fun h37 => absurd h37 (fun z => z rfl)) (fun h37 => ?_)
          refine vv_iconst (pc := 40) x dd_Mo_broadcast_40 (-1) (by decide) ?_
          refine vv_istore (pc := 41) x dd_Mo_broadcast_41 (by decide) (ls2 := [_, _, _, _, _, _, _, _]) rfl ?_
          refine vv_iconst (pc := 43) x dd_Mo_broadcast_43 (0) (by decide) ?_
          refine vv_istore (pc := 44) x dd_Mo_broadcast_44 (by decide) (ls2 := [_, _, _, _, _, _, _, _]) rfl ?_
          exact hinn Z1 M1 got lastN 0 h1 hnm1 hlN hcont 8 0 (-1) (by omega) (Or.inl ⟨rfl, fun p hp => by omega⟩)
        | succ n ih =>
          intro i got Z1 M1 lastN u6 u7 hi hg hZl h1 hZ1 hla hml1 F1 t1 hm5 e9 hR hlN hlast
          have R1 := h1.1
          have hnm1 := znm hZ1 (by omega)
          have hi1 : i < Z1.1.length := by omega
          have hpi : pl.getD i 0 < 8 := h.2.2.1.2.2 _ (getD_memN (by omega))
          have hR2 : (if i = k9 then zbc k9 (zrg Z k9 rv) n (i + 1) got Z1 else zbc k9 (zrg Z k9 rv) n (i + 1) (if (zdel Z1 k9 i (zrg Z k9 rv)).1 = true then got + 1 else got) (zdel Z1 k9 i (zrg Z k9 rv)).2) = Rs := hR
          have hci : (nI (pl.getD i 0)).toNatClampNeg = pl.getD i 0 := nI_clamp (by omega)
          have hg5 : mm_a M1 (mm_f M1 7 5 mo) (pl.getD i 0) = nI (zget Z1 i).1 := (h1.2.2.2.1 i hi1).1.1
          have hni := hnm1 _ (zget_mem hi1)
          have hnext : ∀ j, j < Z1.1.length → ((zget Z1 i).1 < (zget Z1 j).1 ↔ i + 1 ≤ j) := fun j hj => by
            constructor
            · intro z
              rcases Nat.lt_or_ge i j with y | y
              · omega
              · have := num_le hZ1.2.2.1 y hi1
                omega
            · intro z
              exact num_lt hZ1.2.2.1 (by omega) hj
          have hcont : ∀ (to1 : Int32), ((to1 = -1 ∧ ∀ p, p < 8 → ¬ lastN < nmb Z1 pl p) ∨ ∃ p0, p0 < 8 ∧ to1 = nI p0 ∧ lastN < nmb Z1 pl p0 ∧ ∀ p, p < 8 → lastN < nmb Z1 pl p → nmb Z1 pl p0 ≤ nmb Z1 pl p) → vv g 8 p l e (rm 8 188 0 0) s m args below meth c9 (MQ below (ok_Q g (fun v M' => rx RI9 RA mo M M' ∧ (((k9 < Z.1.length ∧ rok rv) ∧ v = some (.int (nI Rs.1)) ∧ ri M' mo 0 = 0 ∧ MI pw D ow sl M' mo pl Rs.2) ∨ (¬ (k9 < Z.1.length ∧ rok rv) ∧ (∃ z, v = some (.int z)) ∧ ri M' mo 0 = 1 ∧ MI pw D ow sl M' mo pl Z)))) args s 0 0 (ok_F g)) 0 0 102 [some (.ref mo), some (.int xv), some (.int rv), some (.int (nI (pl.getD k9 0))), some (.int (nI (got))), some (.int (nI (lastN))), some (.int to1), none] [] (M1) := by
            intro to1 hto
            have hnum : nmb Z1 pl (pl.getD i 0) = (zget Z1 i).1 := nmb_at l2 (by omega)
            have hgt : lastN < nmb Z1 pl (pl.getD i 0) := by rw [hnum]; exact (hlast i hi1).mpr (Nat.le_refl _)
            have et : to1 = nI (pl.getD i 0) := by
              rcases hto with z | ⟨p0, hp0, et, hp1, hmin⟩
              · exact absurd hgt (z.2 _ hpi)
              · have h9 := hmin _ hpi hgt
                rw [hnum] at h9
                rw [et, least_is hZ1.2.2.1 h1.2.2.1.1 hi1 hlast hp1 h9]
            subst et
            by_cases e2 : i = k9
            · rw [if_pos e2] at hR2
              refine vv_iload (pc := 102) x dd_Mo_broadcast_102 rfl ?_
              refine vv_if_ge (pc := 104) x dd_Mo_broadcast_104 (tgt := 110) (by decide) (fun h104 => ?_) (fun h104 => absurd h104 (fun z => z (nI_pos' (by omega))))
              refine vv_aload_n (pc := 110) x dd_Mo_broadcast_110 rfl ?_
              refine lg_Mo_7 (pc := 111) G x dd_Mo_broadcast_111 R1.2.2 (R1.r 5 (by decide)) ?_
              refine vv_iload (pc := 114) x dd_Mo_broadcast_114 rfl ?_
              refine vv_iald (pc := 116) x dd_Mo_broadcast_116 (R1.t 5 (by decide)) (in_n (N := 8) (by omega) (R1.n 5 (by decide)) (by decide)) ?_
              rw [hci, hg5]
              refine vv_istore (pc := 117) x dd_Mo_broadcast_117 (by decide) (ls2 := [_, _, _, _, _, _, _, none]) rfl ?_
              refine vv_iload (pc := 119) x dd_Mo_broadcast_119 rfl ?_
              refine vv_iload (pc := 121) x dd_Mo_broadcast_121 rfl ?_
              refine vv_iload_n (pc := 123) x dd_Mo_broadcast_123 rfl ?_
              refine vv_icmp_eq (pc := 124) x dd_Mo_broadcast_124 (tgt := 151) (by decide) (fun h124 => ?_) (fun h124 => absurd h124 (fun z => z (by rw [e2])))
              refine vv_iconst (pc := 151) x dd_Mo_broadcast_151 (0) (by decide) ?_
              refine vv_iadd (pc := 152) x dd_Mo_broadcast_152 ?_
              rw [show nI got + 0 = nI got from nI_add got 0]
              refine vv_istore (pc := 153) x dd_Mo_broadcast_153 (by decide) (ls2 := [_, _, _, _, _, _, _, none]) rfl ?_
              refine vv_goto (pc := 155) x dd_Mo_broadcast_155 (tgt := 33) (by decide) ?_
              exact ih (i + 1) got Z1 M1 (zget Z1 i).1 _ _ (by omega) (by omega) hZl h1 hZ1 hla hml1 F1 t1 (fun j h8 h7 => hm5 j (by omega) h7) e9 hR2 (by omega) hnext
            · rw [if_neg e2] at hR2
              have hvt1 : vt (zget Z1 k9).2.2.2.2 (zrg Z k9 rv) := by rw [e9]; exact hvt
              have g8 : mm_a M1 (mm_f M1 7 8 mo) (4 * pl.getD k9 0 + j9) = zrg Z k9 rv := by rw [gt, ← e9]; exact (h1.2.2.2.1 k9 (by omega)).2.1 j9 hj_j9
              have hok := zdel_ok hZ1 hp6 (r := i) (s := k9) hi1 (by omega) (fun z => e2 z.symm) hvt1
              have hst := fun (b9 : Nat) (M2 : mm) (u1 u2 : Option Value) (h2 : MI pw D ow sl M2 mo pl (zdel Z1 k9 i (zrg Z k9 rv)).2) (F2 : rx RI9 RA mo M1 M2) (t2 : ri M2 mo 0 = 0) (hb : b9 ≤ i + 1) (hR3 : zbc k9 (zrg Z k9 rv) n (i + 1) b9 (zdel Z1 k9 i (zrg Z k9 rv)).2 = Rs) => ih (i + 1) b9 _ M2 (zget Z1 i).1 u1 u2 (by omega) hb (by rw [zdel_len]; exact hZl) h2 hok (by rw [zdel_lat]; exact hla) (zdel_ml hml1 hi1 (hm5 i (Nat.le_refl _) (by omega))) (F1.trans F2) t2 (fun j h1 h2 => by rw [zdel_ne hi1 (by omega)]; exact hm5 j (by omega) h2) (by rw [zdel_ne hi1 (fun z => e2 z.symm)]; exact e9) hR3 (by omega) (fun j hj => by rw [zdel_num hi1]; rw [zdel_len] at hj; exact hnext j hj)
              have hp2 := R_pass (Rs := zdel Z1 k9 i (zrg Z k9 rv)) G h1 hZ1 hp6 (by omega) hml1 (s1 := k9) (r1 := i) (by omega) hi1 (fun z => e2 z.symm) hvt1 (hm5 i (Nat.le_refl _) (by omega)) rfl
              refine vv_iload (pc := 102) x dd_Mo_broadcast_102 rfl ?_
              refine vv_if_ge (pc := 104) x dd_Mo_broadcast_104 (tgt := 110) (by decide) (fun h104 => ?_) (fun h104 => absurd h104 (fun z => z (nI_pos' (by omega))))
              refine vv_aload_n (pc := 110) x dd_Mo_broadcast_110 rfl ?_
              refine lg_Mo_7 (pc := 111) G x dd_Mo_broadcast_111 R1.2.2 (R1.r 5 (by decide)) ?_
              refine vv_iload (pc := 114) x dd_Mo_broadcast_114 rfl ?_
              refine vv_iald (pc := 116) x dd_Mo_broadcast_116 (R1.t 5 (by decide)) (in_n (N := 8) (by omega) (R1.n 5 (by decide)) (by decide)) ?_
              rw [hci, hg5]
              refine vv_istore (pc := 117) x dd_Mo_broadcast_117 (by decide) (ls2 := [_, _, _, _, _, _, _, none]) rfl ?_
              refine vv_iload (pc := 119) x dd_Mo_broadcast_119 rfl ?_
              refine vv_iload (pc := 121) x dd_Mo_broadcast_121 rfl ?_
              refine vv_iload_n (pc := 123) x dd_Mo_broadcast_123 rfl ?_
              refine vv_icmp_eq (pc := 124) x dd_Mo_broadcast_124 (tgt := 151) (by decide) (fun h124 => absurd h124 (fun z => pl_ne l2 (i := k9) (j := i) (by omega) (by omega) e2 ((nI_eq (by omega) (by omega)).mp z))) (fun h124 => ?_)
              refine vv_aload_n (pc := 127) x dd_Mo_broadcast_127 rfl ?_
              refine vv_iload_n (pc := 128) x dd_Mo_broadcast_128 rfl ?_
              refine vv_aload_n (pc := 129) x dd_Mo_broadcast_129 rfl ?_
              refine lg_Mo_19 (pc := 130) G x dd_Mo_broadcast_130 R1.2.2 (R1.r 8 (by decide)) ?_
              refine vv_iconst (pc := 133) x dd_Mo_broadcast_133 (4) (by decide) ?_
              refine vv_iload_n (pc := 134) x dd_Mo_broadcast_134 rfl ?_
              refine vv_imul (pc := 135) x dd_Mo_broadcast_135 ?_
              refine vv_iload_n (pc := 136) x dd_Mo_broadcast_136 rfl ?_
              refine vv_iadd (pc := 137) x dd_Mo_broadcast_137 ?_
              rw [show (4 : Int32) * nI (pl.getD k9 0) + rv = nI (4 * pl.getD k9 0 + j9) from by rw [ej_j9]; exact ix4]
              refine vv_iald (pc := 138) x dd_Mo_broadcast_138 (R1.t 8 (by decide)) (in_n (N := 32) (by omega) (R1.n 8 (by decide)) (by decide)) ?_
              rw [nI_clamp (n := 4 * pl.getD k9 0 + j9) (by omega), g8]
              refine vv_iload (pc := 139) x dd_Mo_broadcast_139 rfl ?_
              refine lv_Mo_141 (pc := 141) G x dd_Mo_broadcast_141 hp2 R1.2.2 ⟨by decide, by decide⟩ (by decide) (by decide) (Nat.le_of_ble_eq_true rfl) (fun v141 M141 q141 => ?_)
              obtain ⟨rfl, F2, h2⟩ := q141
              have F2b : rx RI9 RA mo M1 M141 := F2.mono (by decide) (by decide)
              have t2 : ri M141 mo 0 = 0 := (F2.i (by decide)).trans t1
              refine vv_if_eq (pc := 144) x dd_Mo_broadcast_144 (tgt := 151) (by decide) (fun h144 => ?_) (fun h144 => ?_)
              · refine vv_iconst (pc := 151) x dd_Mo_broadcast_151 (0) (by decide) ?_
                refine vv_iadd (pc := 152) x dd_Mo_broadcast_152 ?_
                rw [show nI got + 0 = nI got from nI_add got 0]
                refine vv_istore (pc := 153) x dd_Mo_broadcast_153 (by decide) (ls2 := [_, _, _, _, _, _, _, none]) rfl ?_
                refine vv_goto (pc := 155) x dd_Mo_broadcast_155 (tgt := 33) (by decide) ?_
                exact hst got M141 _ _ h2 F2b t2 (by omega) (by rw [if_neg (fun z => by rw [if_pos z] at h144; exact absurd h144 (by decide))] at hR2; exact hR2)
              · refine vv_iconst (pc := 147) x dd_Mo_broadcast_147 (1) (by decide) ?_
                refine vv_goto (pc := 148) x dd_Mo_broadcast_148 (tgt := 152) (by decide) ?_
                refine vv_iadd (pc := 152) x dd_Mo_broadcast_152 ?_
                rw [nI_1]
                refine vv_istore (pc := 153) x dd_Mo_broadcast_153 (by decide) (ls2 := [_, _, _, _, _, _, _, none]) rfl ?_
                refine vv_goto (pc := 155) x dd_Mo_broadcast_155 (tgt := 33) (by decide) ?_
                exact hst (got + 1) M141 _ _ h2 F2b t2 (by omega) (by rw [if_pos (Classical.byContradiction (fun z => h144 (by rw [if_neg z])))] at hR2; exact hR2)
          refine vv_aload_n (pc := 33) x dd_Mo_broadcast_33 rfl ?_
          refine lg_Mo_62 (pc := 34) G x dd_Mo_broadcast_34 R1.2.2 ?_
          rw [show mm_i M1 7 0 mo = 0 from t1]
          refine vv_if_ne (pc := 37) x dd_Mo_broadcast_37 (tgt := 158) (by decide) (fun h37 => absurd h37 (fun z => z rfl)) (fun h37 => ?_)
          refine vv_iconst (pc := 40) x dd_Mo_broadcast_40 (-1) (by decide) ?_
          refine vv_istore (pc := 41) x dd_Mo_broadcast_41 (by decide) (ls2 := [_, _, _, _, _, _, _, _]) rfl ?_
          refine vv_iconst (pc := 43) x dd_Mo_broadcast_43 (0) (by decide) ?_
          refine vv_istore (pc := 44) x dd_Mo_broadcast_44 (by decide) (ls2 := [_, _, _, _, _, _, _, _]) rfl ?_
          exact hinn Z1 M1 got lastN 0 h1 hnm1 hlN hcont 8 0 (-1) (by omega) (Or.inl ⟨rfl, fun p hp => by omega⟩)
      refine vv_aload_n (pc := 0) x dd_Mo_broadcast_0 rfl ?_
      refine vv_iload_n (pc := 1) x dd_Mo_broadcast_1 rfl ?_
      refine lv_Mo_120 (pc := 2) G x dd_Mo_broadcast_2 (R_place G h hZ.2.2.1 hnm k9 hk9) R.2.2 ⟨by decide, by decide⟩ (by decide) (by decide) (Nat.le_of_ble_eq_true rfl) (fun v2 M2 q2 => ?_)
      obtain ⟨rfl, hm2⟩ := q2
      have hm2 := hm2.symm
      subst hm2
      rw [show (if k9 < Z.1.length then nI (pl.getD k9 0) else (-1 : Int32)) = nI (pl.getD k9 0) from if_pos hk]
      refine vv_istore_n (pc := 5) x dd_Mo_broadcast_5 (by decide) (ls2 := [_, _, _, _, none, none, none, none]) rfl ?_
      refine vv_aload_n (pc := 6) x dd_Mo_broadcast_6 rfl ?_
      refine vv_iload_n (pc := 7) x dd_Mo_broadcast_7 rfl ?_
      refine vv_if_lt (pc := 8) x dd_Mo_broadcast_8 (tgt := 19) (by decide) (fun h8 => absurd h8 (nI_pos (by omega))) (fun h8 => ?_)
      refine vv_aload_n (pc := 11) x dd_Mo_broadcast_11 rfl ?_
      refine vv_iload_n (pc := 12) x dd_Mo_broadcast_12 rfl ?_
      refine lv_Mo_123 (pc := 13) G x dd_Mo_broadcast_13 (k_rnoReg G) R.2.2 ⟨by decide, by decide⟩ (by decide) (by decide) (Nat.le_of_ble_eq_true rfl) (fun v13 M13 q13 => ?_)
      obtain ⟨rfl, hm13⟩ := q13
      have hm13 := hm13.symm
      subst hm13
      rw [show (if ¬ rv < 0 ∧ rv < 4 then (0 : Int32) else 1) = 0 from if_pos hr]
      refine vv_if_eq (pc := 16) x dd_Mo_broadcast_16 (tgt := 23) (by decide) (fun h16 => ?_) (fun h16 => absurd h16 (fun z => z rfl))
      refine vv_iconst (pc := 23) x dd_Mo_broadcast_23 (0) (by decide) ?_
      refine lp_Mo_62 (pc := 24) G x dd_Mo_broadcast_24 R.2.2 ?_
      have F_N0 : rx RI9 RA mo M (mi M mo 0 0) := rx_mi.mono (by decide) (by simp)
      have t_N0 : ri (mi M mo 0 0) mo 0 = 0 := ri_mi
      have h_N0 : MI pw D ow sl (mi M mo 0 0) mo pl Z := MI_scr h (rx_mi.mono (by decide) (by simp))
      rw [show mm_si M 7 0 mo 0 = mi M mo 0 0 from rfl]
      generalize mi M mo 0 0 = N0 at *
      have R_N0 := h_N0.1
      refine vv_iconst (pc := 27) x dd_Mo_broadcast_27 (0) (by decide) ?_
      refine vv_istore (pc := 28) x dd_Mo_broadcast_28 (by decide) (ls2 := [_, _, _, _, _, none, none, none]) rfl ?_
      refine vv_iconst (pc := 30) x dd_Mo_broadcast_30 (0) (by decide) ?_
      refine vv_istore (pc := 31) x dd_Mo_broadcast_31 (by decide) (ls2 := [_, _, _, _, _, _, none, none]) rfl ?_
      exact hout Z.1.length 0 0 Z N0 0 _ _ (by omega) (by omega) rfl h_N0 hZ rfl hml F_N0 t_N0 (fun j h1 h2 => hm5 _ (zget_mem h2)) rfl hRs' (by decide) (fun j hj => ⟨fun _ => Nat.zero_le _, fun _ => by have := hnm _ (zget_mem hj); omega⟩)
    · refine vv_aload_n (pc := 0) x dd_Mo_broadcast_0 rfl ?_
      refine vv_iload_n (pc := 1) x dd_Mo_broadcast_1 rfl ?_
      refine lv_Mo_120 (pc := 2) G x dd_Mo_broadcast_2 (R_place G h hZ.2.2.1 hnm k9 hk9) R.2.2 ⟨by decide, by decide⟩ (by decide) (by decide) (Nat.le_of_ble_eq_true rfl) (fun v2 M2 q2 => ?_)
      obtain ⟨rfl, hm2⟩ := q2
      have hm2 := hm2.symm
      subst hm2
      rw [show (if k9 < Z.1.length then nI (pl.getD k9 0) else (-1 : Int32)) = nI (pl.getD k9 0) from if_pos hk]
      refine vv_istore_n (pc := 5) x dd_Mo_broadcast_5 (by decide) (ls2 := [_, _, _, _, none, none, none, none]) rfl ?_
      refine vv_aload_n (pc := 6) x dd_Mo_broadcast_6 rfl ?_
      refine vv_iload_n (pc := 7) x dd_Mo_broadcast_7 rfl ?_
      refine vv_if_lt (pc := 8) x dd_Mo_broadcast_8 (tgt := 19) (by decide) (fun h8 => absurd h8 (nI_pos (by omega))) (fun h8 => ?_)
      refine vv_aload_n (pc := 11) x dd_Mo_broadcast_11 rfl ?_
      refine vv_iload_n (pc := 12) x dd_Mo_broadcast_12 rfl ?_
      refine lv_Mo_123 (pc := 13) G x dd_Mo_broadcast_13 (k_rnoReg G) R.2.2 ⟨by decide, by decide⟩ (by decide) (by decide) (Nat.le_of_ble_eq_true rfl) (fun v13 M13 q13 => ?_)
      obtain ⟨rfl, hm13⟩ := q13
      have hm13 := hm13.symm
      subst hm13
      rw [show (if ¬ rv < 0 ∧ rv < 4 then (0 : Int32) else 1) = 1 from if_neg hr]
      refine vv_if_eq (pc := 16) x dd_Mo_broadcast_16 (tgt := 23) (by decide) (fun h16 => absurd h16 (by decide)) (fun h16 => ?_)
      refine vv_iconst (pc := 19) x dd_Mo_broadcast_19 (1) (by decide) ?_
      refine vv_goto (pc := 20) x dd_Mo_broadcast_20 (tgt := 24) (by decide) ?_
      refine lp_Mo_62 (pc := 24) G x dd_Mo_broadcast_24 R.2.2 ?_
      have F_N0 : rx RI9 RA mo M (mi M mo 0 1) := rx_mi.mono (by decide) (by simp)
      have t_N0 : ri (mi M mo 0 1) mo 0 = 1 := ri_mi
      have h_N0 : MI pw D ow sl (mi M mo 0 1) mo pl Z := MI_scr h (rx_mi.mono (by decide) (by simp))
      rw [show mm_si M 7 0 mo 1 = mi M mo 0 1 from rfl]
      generalize mi M mo 0 1 = N0 at *
      have R_N0 := h_N0.1
      refine vv_iconst (pc := 27) x dd_Mo_broadcast_27 (0) (by decide) ?_
      refine vv_istore (pc := 28) x dd_Mo_broadcast_28 (by decide) (ls2 := [_, _, _, _, _, none, none, none]) rfl ?_
      refine vv_iconst (pc := 30) x dd_Mo_broadcast_30 (0) (by decide) ?_
      refine vv_istore (pc := 31) x dd_Mo_broadcast_31 (by decide) (ls2 := [_, _, _, _, _, _, none, none]) rfl ?_
      refine vv_aload_n (pc := 33) x dd_Mo_broadcast_33 rfl ?_
      refine lg_Mo_62 (pc := 34) G x dd_Mo_broadcast_34 R_N0.2.2 ?_
      rw [show mm_i N0 7 0 mo = 1 from t_N0]
      refine vv_if_ne (pc := 37) x dd_Mo_broadcast_37 (tgt := 158) (by decide) (fun h37 => ?_) (fun h37 => absurd h37 (by decide))
      refine vv_iconst (pc := 158) x dd_Mo_broadcast_158 (0) (by decide) ?_
      exact vv_iret (pc := 159) x dd_Mo_broadcast_159 rfl (by decide) (by decide) ⟨F_N0, Or.inr ⟨(fun z => by first | exact hk z.1 | exact hr z.2), ⟨_, rfl⟩, t_N0, h_N0⟩⟩
  · refine vv_aload_n (pc := 0) x dd_Mo_broadcast_0 rfl ?_
    refine vv_iload_n (pc := 1) x dd_Mo_broadcast_1 rfl ?_
    refine lv_Mo_120 (pc := 2) G x dd_Mo_broadcast_2 (R_place G h hZ.2.2.1 hnm k9 hk9) R.2.2 ⟨by decide, by decide⟩ (by decide) (by decide) (Nat.le_of_ble_eq_true rfl) (fun v2 M2 q2 => ?_)
    obtain ⟨rfl, hm2⟩ := q2
    have hm2 := hm2.symm
    subst hm2
    rw [show (if k9 < Z.1.length then nI (pl.getD k9 0) else (-1 : Int32)) = -1 from if_neg hk]
    refine vv_istore_n (pc := 5) x dd_Mo_broadcast_5 (by decide) (ls2 := [_, _, _, _, none, none, none, none]) rfl ?_
    refine vv_aload_n (pc := 6) x dd_Mo_broadcast_6 rfl ?_
    refine vv_iload_n (pc := 7) x dd_Mo_broadcast_7 rfl ?_
    refine vv_if_lt (pc := 8) x dd_Mo_broadcast_8 (tgt := 19) (by decide) (fun h8 => ?_) (fun h8 => absurd h8 (fun z => z (by decide)))
    refine vv_iconst (pc := 19) x dd_Mo_broadcast_19 (1) (by decide) ?_
    refine vv_goto (pc := 20) x dd_Mo_broadcast_20 (tgt := 24) (by decide) ?_
    refine lp_Mo_62 (pc := 24) G x dd_Mo_broadcast_24 R.2.2 ?_
    have F_N0 : rx RI9 RA mo M (mi M mo 0 1) := rx_mi.mono (by decide) (by simp)
    have t_N0 : ri (mi M mo 0 1) mo 0 = 1 := ri_mi
    have h_N0 : MI pw D ow sl (mi M mo 0 1) mo pl Z := MI_scr h (rx_mi.mono (by decide) (by simp))
    rw [show mm_si M 7 0 mo 1 = mi M mo 0 1 from rfl]
    generalize mi M mo 0 1 = N0 at *
    have R_N0 := h_N0.1
    refine vv_iconst (pc := 27) x dd_Mo_broadcast_27 (0) (by decide) ?_
    refine vv_istore (pc := 28) x dd_Mo_broadcast_28 (by decide) (ls2 := [_, _, _, _, _, none, none, none]) rfl ?_
    refine vv_iconst (pc := 30) x dd_Mo_broadcast_30 (0) (by decide) ?_
    refine vv_istore (pc := 31) x dd_Mo_broadcast_31 (by decide) (ls2 := [_, _, _, _, _, _, none, none]) rfl ?_
    refine vv_aload_n (pc := 33) x dd_Mo_broadcast_33 rfl ?_
    refine lg_Mo_62 (pc := 34) G x dd_Mo_broadcast_34 R_N0.2.2 ?_
    rw [show mm_i N0 7 0 mo = 1 from t_N0]
    refine vv_if_ne (pc := 37) x dd_Mo_broadcast_37 (tgt := 158) (by decide) (fun h37 => ?_) (fun h37 => absurd h37 (by decide))
    refine vv_iconst (pc := 158) x dd_Mo_broadcast_158 (0) (by decide) ?_
    exact vv_iret (pc := 159) x dd_Mo_broadcast_159 rfl (by decide) (by decide) ⟨F_N0, Or.inr ⟨(fun z => by first | exact hk z.1 | exact hr z.2), ⟨_, rfl⟩, t_N0, h_N0⟩⟩
end M67
