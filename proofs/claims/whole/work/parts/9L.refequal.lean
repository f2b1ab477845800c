/-! ===== the reference: equal ===== -/
section M68
variable {g : gg} {X : State → Prop} {t0 : Nat} {l : Launch} {M : mm} {M1 M2 : mm} {pw : Nat} {D : Nat → Prop} {ow sl : Nat → Nat} {mo : Nat} {Ki Ka : List Nat} {k : Nat} {pl : List Nat} {Z : zst} {B C0 : List bk} {b : bk} {A1 A2 A3 A4 A5 A6 : Nat → Int32}
theorem pts_4 (H : hok B) {t : Int32} (hv : vt B t) : (pts B t).length ≤ 4 := by
  rcases hv with z | ⟨i, hi, e⟩
  · rw [pts_lo H z]; simp
  · rw [e]
    unfold pts
    rw [hbt_at H hi]
    exact bpt_le4 (H.2 i hi)
theorem cpw_of (h : hok B) (hr : rkd B) : ∃ cp : Int32 → Nat, (∀ i, i < B.length → ∀ t ∈ bpt (hb B i), bsz (hb B i) + cp (htm B i) ≤ cp t) ∧ ∀ t, cp t ≤ hsz B := by
  obtain ⟨rk, hk⟩ := hr
  have e : hsz B = ((List.range B.length).map (fun k => bsz (hb B k))).sum := by
    rw [← hsz_qB, qB_all]
  refine ⟨fun t => match hix B t with
    | some i => ((List.range B.length).map (fun k => if rk i < rk k then bsz (hb B k) else 0)).sum
    | none => ((List.range B.length).map (fun k => bsz (hb B k))).sum, fun i hi t ht => ?_, fun t => ?_⟩
  · have hm : i ∈ List.range B.length := by simpa using hi
    simp only [hix_at h hi]
    have hall : bsz (hb B i) + ((List.range B.length).map (fun k => if rk i < rk k then bsz (hb B k) else 0)).sum ≤ ((List.range B.length).map (fun k => bsz (hb B k))).sum := by
      refine sum_ins List.nodup_range hm (fun k _ _ => ?_) ?_
      · split
        · exact Nat.le_refl _
        · exact Nat.zero_le _
      · rw [if_neg (Nat.lt_irrefl _)]
        exact Nat.le_refl _
    cases e : hix B t with
    | none => exact hall
    | some j =>
      have hj := hk i hi t ht j e
      refine sum_ins List.nodup_range hm (fun k _ _ => ?_) ?_
      · by_cases h1 : rk i < rk k
        · rw [if_pos h1, if_pos (by omega)]
          exact Nat.le_refl _
        · rw [if_neg h1]
          exact Nat.zero_le _
      · rw [if_neg (Nat.lt_irrefl _), if_pos hj]
        exact Nat.le_refl _
  · show (match hix B t with
      | some i => ((List.range B.length).map (fun k => if rk i < rk k then bsz (hb B k) else 0)).sum
      | none => ((List.range B.length).map (fun k => bsz (hb B k))).sum) ≤ hsz B
    rw [e]
    cases e9 : hix B t with
    | none => exact Nat.le_refl _
    | some j =>
      refine sum_mono (fun k _ => ?_)
      split
      · exact Nat.le_refl _
      · exact Nat.zero_le _
/-- the way down, the last one first: two terms, and how many of their parts were looked at -/
def stk (A1 A2 A3 : Nat → Int32) : List (Int32 × Int32 × Nat) → Prop
  | [] => True
  | f :: F => (A1 F.length = f.1 ∧ A2 F.length = f.2.1 ∧ A3 F.length = nI f.2.2) ∧ stk A1 A2 A3 F
theorem stk_same : ∀ {F : List (Int32 × Int32 × Nat)}, stk A1 A2 A3 F → (∀ x, x < F.length → A4 x = A1 x ∧ A5 x = A2 x ∧ A6 x = A3 x) → stk A4 A5 A6 F
  | [], _, _ => True.intro
  | f :: F, h, e => by
    obtain ⟨e1, e2, e3⟩ := e F.length (by simp)
    exact ⟨⟨e1.trans h.1.1, e2.trans h.1.2.1, e3.trans h.1.2.2⟩, stk_same h.2 (fun x hx => e x (by simp; omega))⟩
def fok (B C : List bk) (cp : Int32 → Nat) : List (Int32 × Int32 × Nat) → Prop
  | [] => True
  | f :: F => (vt B f.1 ∧ vt C f.2.1 ∧ f.2.2 ≤ (pts B f.1).length ∧ (pts B f.1).length = (pts C f.2.1).length ∧ 2 * F.length ≤ cp f.1) ∧ fok B C cp F
def pnd (B C : List bk) : List (Int32 × Int32 × Nat) → List (Int32 × Int32)
  | [] => []
  | f :: F => ((pts B f.1).zip (pts C f.2.1)).drop f.2.2 ++ pnd B C F
theorem alk_pts (HB : hok B) (HC : hok C0) {xt yt : Int32} (h : alk B C0 xt yt = true) (hx : vt B xt) (hy : vt C0 yt) : (pts B xt).length = (pts C0 yt).length := by
  by_cases h3 : 3 ≤ kd xt
  · by_cases h5 : kd xt = 5
    · have h5y : kd yt = 5 := by rw [← alk_kd h]; exact h5
      have e1 : ∀ {B : List bk}, hok B → ∀ {t : Int32}, vt B t → kd t = 5 → pts B t = [] := by
        intro B H t hv hk
        rcases hv with z | ⟨i, hi, e⟩
        · omega
        · rw [e, hok_kd H hi] at hk
          rw [e]
          unfold pts bpt
          rw [hbt_at H hi, if_pos hk]
      rw [e1 HB hx h5, e1 HC hy h5y]
    · exact alk_len h h3 h5
  · have h3y : kd yt ≤ 2 := by rw [← alk_kd h]; omega
    rw [pts_lo HB (by omega), pts_lo HC h3y]
theorem par_cp {cp : Int32 → Nat} (H : hok B) (hcp : ∀ i, i < B.length → ∀ t ∈ bpt (hb B i), bsz (hb B i) + cp (htm B i) ≤ cp t) {xt t : Int32} (hx : vt B xt) (ht : t ∈ pts B xt) : 2 + cp xt ≤ cp t := by
  rcases hx with z | ⟨i, hi, e⟩
  · rw [pts_lo H z] at ht
    simp at ht
  · rw [e] at ht ⊢
    unfold pts at ht
    rw [hbt_at H hi] at ht
    have h1 := hcp i hi t ht
    have h2 : 2 ≤ bsz (hb B i) := by
      have hne : 0 < (bpt (hb B i)).length := List.length_pos_of_mem ht
      unfold bpt at hne
      unfold bsz
      rcases H.2 i hi with z | z | z
      · rw [if_neg (by omega)]; omega
      · rw [if_pos z.1]
        rw [if_neg (by omega)] at hne
        omega
      · rw [if_pos z.1] at hne
        simp at hne
    omega
set_option maxRecDepth 100000 in
set_option maxHeartbeats 1000000 in
theorem R_alike (G : gc g X t0 l) (R : rs pw D ow sl M mo) (HB : hok B) (HC : hok C0) {p9 q9 : Nat} (hp9 : p9 < 8) (hq9 : q9 < 8) (hw : wv B (fun a => ra M mo 11 (600 * p9 + a))) (hw2 : wv C0 (fun a => ra M mo 11 (600 * q9 + a))) {xt yt : Int32} (hx : vt B xt) (hy : vt C0 yt) : Ok g X l yy_Mo_alike cc_Mo_alike 5 (some .boolean) 2 43 0 0 [.ref mo, .int (nI p9), .int xt, .int (nI q9), .int yt] M (fun v M' => v = some (.int (if alk B C0 xt yt = true then 1 else 0)) ∧ M' = M) := by
  refine ok_start (by decide) (Nat.le_of_ble_eq_true rfl) (by simp [Value.category]) ?_
  intro p e s m args below meth c9 x
  have kx := kd_lt xt
  have ky := kd_lt yt
  by_cases he : kd xt = kd yt
  · by_cases hlo : kd xt ≤ 2
    · have ea : alk B C0 xt yt = decide (xt = yt) := by unfold alk; rw [if_pos he, if_neg (by omega), if_neg (by omega)]
      refine vv_aload_n (pc := 0) x dd_Mo_alike_0 rfl ?_
      refine vv_iload_n (pc := 1) x dd_Mo_alike_1 rfl ?_
      refine lv_Mo_68 (pc := 2) G x dd_Mo_alike_2 (k_rkind G) R.2.2 ⟨by decide, by decide⟩ (by decide) (by decide) (Nat.le_of_ble_eq_true rfl) (fun v2 M2 q2 => ?_)
      obtain ⟨rfl, hm2⟩ := q2
      have hm2 := hm2.symm
      subst hm2
      rw [and7]
      refine vv_aload_n (pc := 5) x dd_Mo_alike_5 rfl ?_
      refine vv_iload (pc := 6) x dd_Mo_alike_6 rfl ?_
      refine lv_Mo_68 (pc := 8) G x dd_Mo_alike_8 (k_rkind G) R.2.2 ⟨by decide, by decide⟩ (by decide) (by decide) (Nat.le_of_ble_eq_true rfl) (fun v8 M8 q8 => ?_)
      obtain ⟨rfl, hm8⟩ := q8
      have hm8 := hm8.symm
      subst hm8
      rw [and7]
      refine vv_icmp_eq (pc := 11) x dd_Mo_alike_11 (tgt := 16) (by decide) (fun h11 => ?_) (fun h11 => absurd h11 (fun z => z (by rw [he])))
      refine vv_aload_n (pc := 16) x dd_Mo_alike_16 rfl ?_
      refine vv_iload_n (pc := 17) x dd_Mo_alike_17 rfl ?_
      refine lv_Mo_82 (pc := 18) G x dd_Mo_alike_18 (k_risHeaped G) R.2.2 ⟨by decide, by decide⟩ (by decide) (by decide) (Nat.le_of_ble_eq_true rfl) (fun v18 M18 q18 => ?_)
      obtain ⟨rfl, hm18⟩ := q18
      have hm18 := hm18.symm
      subst hm18
      rw [show (if kd xt ≤ 2 then (0 : Int32) else 1) = 0 from if_pos hlo]
      refine vv_if_ne (pc := 21) x dd_Mo_alike_21 (tgt := 36) (by decide) (fun h21 => absurd h21 (fun z => z rfl)) (fun h21 => ?_)
      refine vv_iload_n (pc := 24) x dd_Mo_alike_24 rfl ?_
      refine vv_iload (pc := 25) x dd_Mo_alike_25 rfl ?_
      refine vv_icmp_ne (pc := 27) x dd_Mo_alike_27 (tgt := 34) (by decide) (fun h27 => ?_) (fun h27 => ?_)
      · refine vv_iconst (pc := 34) x dd_Mo_alike_34 (0) (by decide) ?_
        exact vv_zret (pc := 35) x dd_Mo_alike_35 rfl (Or.inl rfl) (by decide) (by decide) ⟨by rw [ea, if_neg (fun z => h27 (of_decide_eq_true z))], rfl⟩
      · refine vv_iconst (pc := 30) x dd_Mo_alike_30 (1) (by decide) ?_
        refine vv_goto (pc := 31) x dd_Mo_alike_31 (tgt := 35) (by decide) ?_
        exact vv_zret (pc := 35) x dd_Mo_alike_35 rfl (Or.inr rfl) (by decide) (by decide) ⟨by rw [ea, if_pos (decide_eq_true h27)], rfl⟩
    · by_cases h5 : kd xt = 5
      · have ea : alk B C0 xt yt = decide ((hbt B xt).2.getD 0 0 = (hbt C0 yt).2.getD 0 0) := by unfold alk; rw [if_pos he, if_pos h5]
        obtain ⟨a9, ha9, ea9, hW9⟩ := bow HB hw hx h5
        obtain ⟨b9, hb9, eb9, hV9⟩ := bow HC hw2 hy (by rw [← he]; exact h5)
        refine vv_aload_n (pc := 0) x dd_Mo_alike_0 rfl ?_
        refine vv_iload_n (pc := 1) x dd_Mo_alike_1 rfl ?_
        refine lv_Mo_68 (pc := 2) G x dd_Mo_alike_2 (k_rkind G) R.2.2 ⟨by decide, by decide⟩ (by decide) (by decide) (Nat.le_of_ble_eq_true rfl) (fun v2 M2 q2 => ?_)
        obtain ⟨rfl, hm2⟩ := q2
        have hm2 := hm2.symm
        subst hm2
        rw [and7]
        refine vv_aload_n (pc := 5) x dd_Mo_alike_5 rfl ?_
        refine vv_iload (pc := 6) x dd_Mo_alike_6 rfl ?_
        refine lv_Mo_68 (pc := 8) G x dd_Mo_alike_8 (k_rkind G) R.2.2 ⟨by decide, by decide⟩ (by decide) (by decide) (Nat.le_of_ble_eq_true rfl) (fun v8 M8 q8 => ?_)
        obtain ⟨rfl, hm8⟩ := q8
        have hm8 := hm8.symm
        subst hm8
        rw [and7]
        refine vv_icmp_eq (pc := 11) x dd_Mo_alike_11 (tgt := 16) (by decide) (fun h11 => ?_) (fun h11 => absurd h11 (fun z => z (by rw [he])))
        refine vv_aload_n (pc := 16) x dd_Mo_alike_16 rfl ?_
        refine vv_iload_n (pc := 17) x dd_Mo_alike_17 rfl ?_
        refine lv_Mo_82 (pc := 18) G x dd_Mo_alike_18 (k_risHeaped G) R.2.2 ⟨by decide, by decide⟩ (by decide) (by decide) (Nat.le_of_ble_eq_true rfl) (fun v18 M18 q18 => ?_)
        obtain ⟨rfl, hm18⟩ := q18
        have hm18 := hm18.symm
        subst hm18
        rw [show (if kd xt ≤ 2 then (0 : Int32) else 1) = 1 from if_neg hlo]
        refine vv_if_ne (pc := 21) x dd_Mo_alike_21 (tgt := 36) (by decide) (fun h21 => ?_) (fun h21 => absurd h21 (by decide))
        refine vv_aload_n (pc := 36) x dd_Mo_alike_36 rfl ?_
        refine vv_iload_n (pc := 37) x dd_Mo_alike_37 rfl ?_
        refine lv_Mo_68 (pc := 38) G x dd_Mo_alike_38 (k_rkind G) R.2.2 ⟨by decide, by decide⟩ (by decide) (by decide) (Nat.le_of_ble_eq_true rfl) (fun v38 M38 q38 => ?_)
        obtain ⟨rfl, hm38⟩ := q38
        have hm38 := hm38.symm
        subst hm38
        rw [and7, show nI (kd xt) = nI 5 from by rw [h5]]
        refine vv_iconst (pc := 41) x dd_Mo_alike_41 (5) (by decide) ?_
        refine vv_icmp_ne (pc := 42) x dd_Mo_alike_42 (tgt := 89) (by decide) (fun h42 => absurd h42 (fun z => z rfl)) (fun h42 => ?_)
        refine vv_aload_n (pc := 45) x dd_Mo_alike_45 rfl ?_
        refine lg_Mo_28 (pc := 46) G x dd_Mo_alike_46 R.2.2 (R.r 11 (by decide)) ?_
        refine vv_sipush (pc := 49) x dd_Mo_alike_49 (600) (by decide) ?_
        refine vv_iload_n (pc := 52) x dd_Mo_alike_52 rfl ?_
        refine vv_imul (pc := 53) x dd_Mo_alike_53 ?_
        refine vv_aload_n (pc := 54) x dd_Mo_alike_54 rfl ?_
        refine vv_iload_n (pc := 55) x dd_Mo_alike_55 rfl ?_
        refine lv_Mo_72 (pc := 56) G x dd_Mo_alike_56 (k_rat G) R.2.2 ⟨by decide, by decide⟩ (by decide) (by decide) (Nat.le_of_ble_eq_true rfl) (fun v56 M56 q56 => ?_)
        obtain ⟨rfl, hm56⟩ := q56
        have hm56 := hm56.symm
        subst hm56
        rw [ea9]
        refine vv_iadd (pc := 59) x dd_Mo_alike_59 ?_
        rw [ix600]
        refine vv_iald (pc := 60) x dd_Mo_alike_60 (R.t 11 (by decide)) (in_n (N := 4800) (by omega) (R.n 11 (by decide)) (by decide)) ?_
        rw [nI_clamp (n := 600 * p9 + a9) (by omega), show mm_a M (mm_f M 7 11 mo) (600 * p9 + a9) = (hbt B xt).2.getD 0 0 from hW9]
        refine vv_aload_n (pc := 61) x dd_Mo_alike_61 rfl ?_
        refine lg_Mo_28 (pc := 62) G x dd_Mo_alike_62 R.2.2 (R.r 11 (by decide)) ?_
        refine vv_sipush (pc := 65) x dd_Mo_alike_65 (600) (by decide) ?_
        refine vv_iload_n (pc := 68) x dd_Mo_alike_68 rfl ?_
        refine vv_imul (pc := 69) x dd_Mo_alike_69 ?_
        refine vv_aload_n (pc := 70) x dd_Mo_alike_70 rfl ?_
        refine vv_iload (pc := 71) x dd_Mo_alike_71 rfl ?_
        refine lv_Mo_72 (pc := 73) G x dd_Mo_alike_73 (k_rat G) R.2.2 ⟨by decide, by decide⟩ (by decide) (by decide) (Nat.le_of_ble_eq_true rfl) (fun v73 M73 q73 => ?_)
        obtain ⟨rfl, hm73⟩ := q73
        have hm73 := hm73.symm
        subst hm73
        rw [eb9]
        refine vv_iadd (pc := 76) x dd_Mo_alike_76 ?_
        rw [ix600]
        refine vv_iald (pc := 77) x dd_Mo_alike_77 (R.t 11 (by decide)) (in_n (N := 4800) (by omega) (R.n 11 (by decide)) (by decide)) ?_
        rw [nI_clamp (n := 600 * q9 + b9) (by omega), show mm_a M (mm_f M 7 11 mo) (600 * q9 + b9) = (hbt C0 yt).2.getD 0 0 from hV9]
        refine vv_icmp_ne (pc := 78) x dd_Mo_alike_78 (tgt := 85) (by decide) (fun h78 => ?_) (fun h78 => ?_)
        · refine vv_iconst (pc := 85) x dd_Mo_alike_85 (0) (by decide) ?_
          refine vv_goto (pc := 86) x dd_Mo_alike_86 (tgt := 110) (by decide) ?_
          exact vv_zret (pc := 110) x dd_Mo_alike_110 rfl (Or.inl rfl) (by decide) (by decide) ⟨by rw [ea, if_neg (fun z => h78 (of_decide_eq_true z))], rfl⟩
        · refine vv_iconst (pc := 81) x dd_Mo_alike_81 (1) (by decide) ?_
          refine vv_goto (pc := 82) x dd_Mo_alike_82 (tgt := 110) (by decide) ?_
          exact vv_zret (pc := 110) x dd_Mo_alike_110 rfl (Or.inr rfl) (by decide) (by decide) ⟨by rw [ea, if_pos (decide_eq_true h78)], rfl⟩
      · have ea : alk B C0 xt yt = decide ((pts B xt).length = (pts C0 yt).length) := by unfold alk; rw [if_pos he, if_neg h5, if_pos (by omega)]
        have l1 := pts_4 HB hx
        have l2 := pts_4 HC hy
        refine vv_aload_n (pc := 0) x dd_Mo_alike_0 rfl ?_
        refine vv_iload_n (pc := 1) x dd_Mo_alike_1 rfl ?_
        refine lv_Mo_68 (pc := 2) G x dd_Mo_alike_2 (k_rkind G) R.2.2 ⟨by decide, by decide⟩ (by decide) (by decide) (Nat.le_of_ble_eq_true rfl) (fun v2 M2 q2 => ?_)
        obtain ⟨rfl, hm2⟩ := q2
        have hm2 := hm2.symm
        subst hm2
        rw [and7]
        refine vv_aload_n (pc := 5) x dd_Mo_alike_5 rfl ?_
        refine vv_iload (pc := 6) x dd_Mo_alike_6 rfl ?_
        refine lv_Mo_68 (pc := 8) G x dd_Mo_alike_8 (k_rkind G) R.2.2 ⟨by decide, by decide⟩ (by decide) (by decide) (Nat.le_of_ble_eq_true rfl) (fun v8 M8 q8 => ?_)
        obtain ⟨rfl, hm8⟩ := q8
        have hm8 := hm8.symm
        subst hm8
        rw [and7]
        refine vv_icmp_eq (pc := 11) x dd_Mo_alike_11 (tgt := 16) (by decide) (fun h11 => ?_) (fun h11 => absurd h11 (fun z => z (by rw [he])))
        refine vv_aload_n (pc := 16) x dd_Mo_alike_16 rfl ?_
        refine vv_iload_n (pc := 17) x dd_Mo_alike_17 rfl ?_
        refine lv_Mo_82 (pc := 18) G x dd_Mo_alike_18 (k_risHeaped G) R.2.2 ⟨by decide, by decide⟩ (by decide) (by decide) (Nat.le_of_ble_eq_true rfl) (fun v18 M18 q18 => ?_)
        obtain ⟨rfl, hm18⟩ := q18
        have hm18 := hm18.symm
        subst hm18
        rw [show (if kd xt ≤ 2 then (0 : Int32) else 1) = 1 from if_neg hlo]
        refine vv_if_ne (pc := 21) x dd_Mo_alike_21 (tgt := 36) (by decide) (fun h21 => ?_) (fun h21 => absurd h21 (by decide))
        refine vv_aload_n (pc := 36) x dd_Mo_alike_36 rfl ?_
        refine vv_iload_n (pc := 37) x dd_Mo_alike_37 rfl ?_
        refine lv_Mo_68 (pc := 38) G x dd_Mo_alike_38 (k_rkind G) R.2.2 ⟨by decide, by decide⟩ (by decide) (by decide) (Nat.le_of_ble_eq_true rfl) (fun v38 M38 q38 => ?_)
        obtain ⟨rfl, hm38⟩ := q38
        have hm38 := hm38.symm
        subst hm38
        rw [and7]
        refine vv_iconst (pc := 41) x dd_Mo_alike_41 (5) (by decide) ?_
        refine vv_icmp_ne (pc := 42) x dd_Mo_alike_42 (tgt := 89) (by decide) (fun h42 => ?_) (fun h42 => absurd h42 (fun z => h5 ((nI_eq (b := 5) (by omega) (by decide)).mp z)))
        refine vv_aload_n (pc := 89) x dd_Mo_alike_89 rfl ?_
        refine vv_iload_n (pc := 90) x dd_Mo_alike_90 rfl ?_
        refine vv_iload_n (pc := 91) x dd_Mo_alike_91 rfl ?_
        refine lv_Mo_75 (pc := 92) G x dd_Mo_alike_92 (R_pcv G R HB hp9 hw hx) R.2.2 ⟨by decide, by decide⟩ (by decide) (by decide) (Nat.le_of_ble_eq_true rfl) (fun v92 M92 q92 => ?_)
        obtain ⟨rfl, hm92⟩ := q92
        have hm92 := hm92.symm
        subst hm92
        refine vv_aload_n (pc := 95) x dd_Mo_alike_95 rfl ?_
        refine vv_iload_n (pc := 96) x dd_Mo_alike_96 rfl ?_
        refine vv_iload (pc := 97) x dd_Mo_alike_97 rfl ?_
        refine lv_Mo_75 (pc := 99) G x dd_Mo_alike_99 (R_pcv G R HC hq9 hw2 hy) R.2.2 ⟨by decide, by decide⟩ (by decide) (by decide) (Nat.le_of_ble_eq_true rfl) (fun v99 M99 q99 => ?_)
        obtain ⟨rfl, hm99⟩ := q99
        have hm99 := hm99.symm
        subst hm99
        refine vv_icmp_ne (pc := 102) x dd_Mo_alike_102 (tgt := 109) (by decide) (fun h102 => ?_) (fun h102 => ?_)
        · refine vv_iconst (pc := 109) x dd_Mo_alike_109 (0) (by decide) ?_
          exact vv_zret (pc := 110) x dd_Mo_alike_110 rfl (Or.inl rfl) (by decide) (by decide) ⟨by rw [ea, if_neg (fun z => h102 (by rw [of_decide_eq_true z]))], rfl⟩
        · refine vv_iconst (pc := 105) x dd_Mo_alike_105 (1) (by decide) ?_
          refine vv_goto (pc := 106) x dd_Mo_alike_106 (tgt := 110) (by decide) ?_
          exact vv_zret (pc := 110) x dd_Mo_alike_110 rfl (Or.inr rfl) (by decide) (by decide) ⟨by rw [ea, if_pos (decide_eq_true ((nI_eq (by omega) (by omega)).mp h102))], rfl⟩
  · have ea : alk B C0 xt yt = false := by unfold alk; rw [if_neg he]
    refine vv_aload_n (pc := 0) x dd_Mo_alike_0 rfl ?_
    refine vv_iload_n (pc := 1) x dd_Mo_alike_1 rfl ?_
    refine lv_Mo_68 (pc := 2) G x dd_Mo_alike_2 (k_rkind G) R.2.2 ⟨by decide, by decide⟩ (by decide) (by decide) (Nat.le_of_ble_eq_true rfl) (fun v2 M2 q2 => ?_)
    obtain ⟨rfl, hm2⟩ := q2
    have hm2 := hm2.symm
    subst hm2
    rw [and7]
    refine vv_aload_n (pc := 5) x dd_Mo_alike_5 rfl ?_
    refine vv_iload (pc := 6) x dd_Mo_alike_6 rfl ?_
    refine lv_Mo_68 (pc := 8) G x dd_Mo_alike_8 (k_rkind G) R.2.2 ⟨by decide, by decide⟩ (by decide) (by decide) (Nat.le_of_ble_eq_true rfl) (fun v8 M8 q8 => ?_)
    obtain ⟨rfl, hm8⟩ := q8
    have hm8 := hm8.symm
    subst hm8
    rw [and7]
    refine vv_icmp_eq (pc := 11) x dd_Mo_alike_11 (tgt := 16) (by decide) (fun h11 => absurd h11 (fun z => he ((nI_eq (by omega) (by omega)).mp z))) (fun h11 => ?_)
    refine vv_iconst (pc := 14) x dd_Mo_alike_14 (0) (by decide) ?_
    exact vv_zret (pc := 15) x dd_Mo_alike_15 rfl (Or.inl rfl) (by decide) (by decide) ⟨by rw [ea]; rfl, rfl⟩
set_option maxRecDepth 100000 in
set_option maxHeartbeats 1000000 in
theorem R_equal (G : gc g X t0 l) (h : MI pw D ow sl M mo pl Z) (hZ : zok pw Z) (hp6 : pw ≤ 600) (hlat : Z.2.2.1 < 2 ^ 31) (hml : ∀ P ∈ Z.1, P.2.2.2.1.length ≤ 512) {xv rv : Int32} (k9 : Nat) (hk9 : plc Z xv = k9) {ov sv : Int32} (k2 : Nat) (hk2 : plc Z ov = k2) (Rs : Bool × List (Int32 × Int32)) (hRs : cmpr (zget Z k9).2.2.2.2 (zget Z k2).2.2.2.2 2000 [(zrg Z k9 rv, zrg Z k2 sv)] = Rs) : Ok g X l yy_Mo_equal cc_Mo_equal 12 (some .boolean) 3 67 0 0 [.ref mo, .int xv, .int rv, .int ov, .int sv] M (fun v M' => rx RI9 RA mo M M' ∧ ((((k9 < Z.1.length ∧ rok rv) ∧ k2 < Z.1.length ∧ rok sv) ∧ (Rs.1 = true → Rs.2 = []) ∧ v = some (.int (if Rs.1 = true then 1 else 0)) ∧ ri M' mo 0 = 0 ∧ MI pw D ow sl M' mo pl Z) ∨ (¬ ((k9 < Z.1.length ∧ rok rv) ∧ k2 < Z.1.length ∧ rok sv) ∧ (∃ z, v = some (.int z)) ∧ ri M' mo 0 = 1 ∧ MI pw D ow sl M' mo pl Z) ∨ (((k9 < Z.1.length ∧ rok rv) ∧ k2 < Z.1.length ∧ rok sv) ∧ Rs.1 = true ∧ ¬ Rs.2 = [] ∧ (∃ z, v = some (.int z)) ∧ ri M' mo 0 = 2 ∧ MI pw D ow sl M' mo pl Z))) := by
  refine ok_start (by decide) (Nat.le_of_ble_eq_true rfl) (by simp [Value.category]) ?_
  intro p e s m args below meth c9 x
  have R := h.1
  have hnm := znm hZ hlat
  have h8z := hZ.2.1
  by_cases hk : k9 < Z.1.length
  · have hp8 : pl.getD k9 0 < 8 := h.2.2.1.2.2 _ (getD_memN (by have := h.2.2.1.1; omega))
    by_cases hr : rok rv
    · by_cases hq2 : k2 < Z.1.length
      · have hp82 : pl.getD k2 0 < 8 := h.2.2.1.2.2 _ (getD_memN (by have := h.2.2.1.1; omega))
        by_cases hs : rok sv
        · have hho := zho hZ hml
          obtain ⟨⟨a1, a2, a3⟩, a4, ⟨a5, a6⟩, a7, a8⟩ := h.2.2.2.1 k9 hk
          have kk := hZ.1 _ (zget_mem hk)
          have h600 := kk.2.1.1
          have hml9 := hml _ (zget_mem hk)
          have hcp : (nI (pl.getD k9 0)).toNatClampNeg = pl.getD k9 0 := nI_clamp (by omega)
          obtain ⟨-, hj_j9, ej_j9⟩ := rok_in hr
          have gj_j9 := a4 rv.toNatClampNeg hj_j9
          generalize hq_j9 : rv.toNatClampNeg = j9 at *
          have hp82 : pl.getD k2 0 < 8 := h.2.2.1.2.2 _ (getD_memN (by have := h.2.2.1.1; omega))
          obtain ⟨-, hj2, ej2⟩ := rok_in hs
          have kk2 := hZ.1 _ (zget_mem hq2)
          have hvt1 := zrg_vt hZ hk hr
          have hvt2 := zrg_vt hZ hq2 hs
          have gx : zrg Z k9 rv = (zget Z k9).2.2.1.getD j9 0 := by unfold zrg; rw [hq_j9]
          have gy : zrg Z k2 sv = (zget Z k2).2.2.1.getD sv.toNatClampNeg 0 := rfl
          generalize hqs : sv.toNatClampNeg = js at *
          have HB : hok (zget Z k9).2.2.2.2 := kk.2.1
          have HC : hok (zget Z k2).2.2.2.2 := kk2.2.1
          have hvB : hval (zget Z k9).2.2.2.2 := kk.2.2.2.2.2.1
          have hvC : hval (zget Z k2).2.2.2.2 := kk2.2.2.2.2.2.1
          obtain ⟨cp, hcp1, hcp2⟩ := cpw_of HB kk.2.2.2.2.2.2.2
          generalize hB : (zget Z k9).2.2.2.2 = B at *
          generalize hC9 : (zget Z k2).2.2.2.2 = C9 at *
          have hRc : (if alk B C9 (zrg Z k9 rv) (zrg Z k2 sv) = true then cmpr B C9 1999 ((pts B (zrg Z k9 rv)).zip (pts C9 (zrg Z k2 sv)) ++ []) else (false, [])) = Rs := hRs
          generalize zrg Z k9 rv = x0 at *
          generalize zrg Z k2 sv = y0 at *
          have hlp : ∀ (N : Nat) (F : List (Int32 × Int32 × Nat)) (L : Nat) (x9 y9 : Int32) (M1 : mm), 2 * (2001 - L) + F.length < N → 1 ≤ L → L ≤ 2000 → MI pw D ow sl M1 mo pl Z → rx RI9 RA mo M M1 → ri M1 mo 0 = 0 → stk (ra M1 mo 20) (ra M1 mo 21) (ra M1 mo 22) F → fok B C9 cp F → F.length ≤ 302 → cmpr B C9 (2000 - L) (pnd B C9 F) = Rs → vv g 12 p l e (rm 3 67 0 0) s m args below meth c9 (MQ below (ok_Q g (fun v M' => rx RI9 RA mo M M' ∧ ((((k9 < Z.1.length ∧ rok rv) ∧ k2 < Z.1.length ∧ rok sv) ∧ (Rs.1 = true → Rs.2 = []) ∧ v = some (.int (if Rs.1 = true then 1 else 0)) ∧ ri M' mo 0 = 0 ∧ MI pw D ow sl M' mo pl Z) ∨ (¬ ((k9 < Z.1.length ∧ rok rv) ∧ k2 < Z.1.length ∧ rok sv) ∧ (∃ z, v = some (.int z)) ∧ ri M' mo 0 = 1 ∧ MI pw D ow sl M' mo pl Z) ∨ (((k9 < Z.1.length ∧ rok rv) ∧ k2 < Z.1.length ∧ rok sv) ∧ Rs.1 = true ∧ ¬ Rs.2 = [] ∧ (∃ z, v = some (.int z)) ∧ ri M' mo 0 = 2 ∧ MI pw D ow sl M' mo pl Z)))) args s 0 0 (ok_F g)) 0 0 129 [some (.ref mo), some (.int xv), some (.int rv), some (.int ov), some (.int sv), some (.int (nI (pl.getD k9 0))), some (.int (nI (pl.getD k2 0))), some (.int (nI (F).length - 1)), some (.int (nI (L))), some (.int x9), some (.int y9), some (.int (1))] [] (M1) := by
            intro N
            induction N with
            | zero => intro F L x9 y9 M1 h1; omega
            | succ N ih =>
              intro F L x9 y9 M1 hN hL1 hL2 h1 F1 t1 hst hfo hF hR
              have R1 := h1.1
              have hwB : wv B (fun a => ra M1 mo 11 (600 * pl.getD k9 0 + a)) := by rw [← hB]; exact (h1.2.2.2.1 k9 hk).2.2.2.1
              have hwC : wv C9 (fun a => ra M1 mo 11 (600 * pl.getD k2 0 + a)) := by rw [← hC9]; exact (h1.2.2.2.1 k2 hq2).2.2.2.1
              cases F with
              | nil =>
                have eR : Rs = (true, []) := by
                  rw [← hR]
                  show cmpr B C9 (2000 - L) [] = _
                  cases (2000 - L) <;> rfl
                refine vv_iload (pc := 129) x dd_Mo_equal_129 rfl ?_
                refine vv_if_eq (pc := 131) x dd_Mo_equal_131 (tgt := 287) (by decide) (fun h131 => absurd h131 (by decide)) (fun h131 => ?_)
                refine vv_iload (pc := 134) x dd_Mo_equal_134 rfl ?_
                refine vv_if_lt (pc := 136) x dd_Mo_equal_136 (tgt := 287) (by decide) (fun h136 => ?_) (fun h136 => absurd h136 (fun z => z (by decide)))
                refine vv_iload (pc := 287) x dd_Mo_equal_287 rfl ?_
                exact vv_zret (pc := 289) x dd_Mo_equal_289 rfl (Or.inr rfl) (by decide) (by decide) ⟨F1, Or.inl ⟨⟨⟨hk, hr⟩, hq2, hs⟩, fun _ => by rw [eR], by rw [eR]; rfl, t1, h1⟩⟩
              | cons f F =>
                obtain ⟨⟨s1, s2, s3⟩, hst2⟩ := hst
                obtain ⟨⟨f1, f2, f3, f4, f5⟩, hfo2⟩ := hfo
                have hFl : F.length + 1 ≤ 302 := by simpa using hF
                have l4 := pts_4 HB f1
                have ed : nI (f :: F).length - 1 = nI F.length := by
                  rw [List.length_cons]
                  exact nI_dec (by omega)
                rw [ed]
                have hcd : (nI F.length).toNatClampNeg = F.length := nI_clamp (by omega)
                have g20 : mm_a M1 (mm_f M1 7 20 mo) F.length = f.1 := s1
                have g21 : mm_a M1 (mm_f M1 7 21 mo) F.length = f.2.1 := s2
                have g22 : mm_a M1 (mm_f M1 7 22 mo) F.length = nI f.2.2 := s3
                by_cases hfin : f.2.2 = (pts B f.1).length
                · have hp0 : pnd B C9 (f :: F) = pnd B C9 F := by
                    show List.drop _ _ ++ _ = _
                    rw [List.drop_eq_nil_of_le (by rw [List.length_zip, ← f4, hfin]; omega), List.nil_append]
                  rw [hp0] at hR
                  refine vv_iload (pc := 129) x dd_Mo_equal_129 rfl ?_
                  refine vv_if_eq (pc := 131) x dd_Mo_equal_131 (tgt := 287) (by decide) (fun h131 => absurd h131 (by decide)) (fun h131 => ?_)
                  refine vv_iload (pc := 134) x dd_Mo_equal_134 rfl ?_
                  refine vv_if_lt (pc := 136) x dd_Mo_equal_136 (tgt := 287) (by decide) (fun h136 => absurd h136 (nI_pos (by omega))) (fun h136 => ?_)
                  refine vv_aload_n (pc := 139) x dd_Mo_equal_139 rfl ?_
                  refine lg_Mo_55 (pc := 140) G x dd_Mo_equal_140 R1.2.2 (R1.r 22 (by decide)) ?_
                  refine vv_iload (pc := 143) x dd_Mo_equal_143 rfl ?_
                  refine vv_iald (pc := 145) x dd_Mo_equal_145 (R1.t 22 (by decide)) (in_n (N := 320) (by omega) (R1.n 22 (by decide)) (by decide)) ?_
                  rw [hcd, g22]
                  refine vv_aload_n (pc := 146) x dd_Mo_equal_146 rfl ?_
                  refine vv_iload (pc := 147) x dd_Mo_equal_147 rfl ?_
                  refine vv_aload_n (pc := 149) x dd_Mo_equal_149 rfl ?_
                  refine lg_Mo_49 (pc := 150) G x dd_Mo_equal_150 R1.2.2 (R1.r 20 (by decide)) ?_
                  refine vv_iload (pc := 153) x dd_Mo_equal_153 rfl ?_
                  refine vv_iald (pc := 155) x dd_Mo_equal_155 (R1.t 20 (by decide)) (in_n (N := 320) (by omega) (R1.n 20 (by decide)) (by decide)) ?_
                  rw [hcd, g20]
                  refine lv_Mo_75 (pc := 156) G x dd_Mo_equal_156 (R_pcv G R1 HB hp8 hwB f1) R1.2.2 ⟨by decide, by decide⟩ (by decide) (by decide) (Nat.le_of_ble_eq_true rfl) (fun v156 M156 q156 => ?_)
                  obtain ⟨rfl, hm156⟩ := q156
                  have hm156 := hm156.symm
                  subst hm156
                  refine vv_icmp_ne (pc := 159) x dd_Mo_equal_159 (tgt := 168) (by decide) (fun h159 => absurd h159 (fun z => z (by rw [hfin]))) (fun h159 => ?_)
                  refine vv_iinc (pc := 162) x dd_Mo_equal_162 rfl (show nI F.length + (-1) = nI F.length - 1 from (Int32.sub_eq_add_neg _ _).symm) (by decide) (ls2 := [_, _, _, _, _, _, _, _, _, _, _, _]) rfl ?_
                  refine vv_goto (pc := 165) x dd_Mo_equal_165 (tgt := 129) (by decide) ?_
                  exact ih F L x9 y9 M1 (by rw [List.length_cons] at hN; omega) hL1 hL2 h1 F1 t1 hst2 hfo2 (by omega) hR
                · have hlt : f.2.2 < (pts B f.1).length := by omega
                  have hlt2 : f.2.2 < (pts C9 f.2.1).length := by omega
                  have hp0 : pnd B C9 (f :: F) = ((pts B f.1).getD f.2.2 0, (pts C9 f.2.1).getD f.2.2 0) :: pnd B C9 ((f.1, f.2.1, f.2.2 + 1) :: F) := by
                    show List.drop _ _ ++ _ = _ :: (List.drop _ _ ++ _)
                    rw [zip_getD hlt hlt2]
                    rfl
                  have hvx : vt B ((pts B f.1).getD f.2.2 0) := pts_vt hvB (getD_mem hlt)
                  have hvy : vt C9 ((pts C9 f.2.1).getD f.2.2 0) := pts_vt hvC (getD_mem hlt2)
                  have hcpx := par_cp HB hcp1 f1 (getD_mem hlt)
                  have hcpm := hcp2 ((pts B f.1).getD f.2.2 0)
                  generalize hx' : (pts B f.1).getD f.2.2 0 = x2 at *
                  generalize hy' : (pts C9 f.2.1).getD f.2.2 0 = y2 at *
                  by_cases hLL : L = 2000
                  · rw [hp0, show 2000 - L = 0 by omega] at hR
                    have eR : Rs.1 = true ∧ ¬ Rs.2 = [] := by
                      rw [← hR]
                      exact ⟨rfl, by intro z; exact absurd z (List.cons_ne_nil _ _)⟩
                    refine vv_iload (pc := 129) x dd_Mo_equal_129 rfl ?_
                    refine vv_if_eq (pc := 131) x dd_Mo_equal_131 (tgt := 287) (by decide) (fun h131 => absurd h131 (by decide)) (fun h131 => ?_)
                    refine vv_iload (pc := 134) x dd_Mo_equal_134 rfl ?_
                    refine vv_if_lt (pc := 136) x dd_Mo_equal_136 (tgt := 287) (by decide) (fun h136 => absurd h136 (nI_pos (by omega))) (fun h136 => ?_)
                    refine vv_aload_n (pc := 139) x dd_Mo_equal_139 rfl ?_
                    refine lg_Mo_55 (pc := 140) G x dd_Mo_equal_140 R1.2.2 (R1.r 22 (by decide)) ?_
                    refine vv_iload (pc := 143) x dd_Mo_equal_143 rfl ?_
                    refine vv_iald (pc := 145) x dd_Mo_equal_145 (R1.t 22 (by decide)) (in_n (N := 320) (by omega) (R1.n 22 (by decide)) (by decide)) ?_
                    rw [hcd, g22]
                    refine vv_aload_n (pc := 146) x dd_Mo_equal_146 rfl ?_
                    refine vv_iload (pc := 147) x dd_Mo_equal_147 rfl ?_
                    refine vv_aload_n (pc := 149) x dd_Mo_equal_149 rfl ?_
                    refine lg_Mo_49 (pc := 150) G x dd_Mo_equal_150 R1.2.2 (R1.r 20 (by decide)) ?_
                    refine vv_iload (pc := 153) x dd_Mo_equal_153 rfl ?_
                    refine vv_iald (pc := 155) x dd_Mo_equal_155 (R1.t 20 (by decide)) (in_n (N := 320) (by omega) (R1.n 20 (by decide)) (by decide)) ?_
                    rw [hcd, g20]
                    refine lv_Mo_75 (pc := 156) G x dd_Mo_equal_156 (R_pcv G R1 HB hp8 hwB f1) R1.2.2 ⟨by decide, by decide⟩ (by decide) (by decide) (Nat.le_of_ble_eq_true rfl) (fun v156 M156 q156 => ?_)
                    obtain ⟨rfl, hm156⟩ := q156
                    have hm156 := hm156.symm
                    subst hm156
                    refine vv_icmp_ne (pc := 159) x dd_Mo_equal_159 (tgt := 168) (by decide) (fun h159 => ?_) (fun h159 => absurd h159 (fun z => hfin ((nI_eq (by omega) (by omega)).mp z)))
                    refine vv_aload_n (pc := 168) x dd_Mo_equal_168 rfl ?_
                    refine vv_iload (pc := 169) x dd_Mo_equal_169 rfl ?_
                    refine vv_aload_n (pc := 171) x dd_Mo_equal_171 rfl ?_
                    refine lg_Mo_49 (pc := 172) G x dd_Mo_equal_172 R1.2.2 (R1.r 20 (by decide)) ?_
                    refine vv_iload (pc := 175) x dd_Mo_equal_175 rfl ?_
                    refine vv_iald (pc := 177) x dd_Mo_equal_177 (R1.t 20 (by decide)) (in_n (N := 320) (by omega) (R1.n 20 (by decide)) (by decide)) ?_
                    rw [hcd, g20]
                    refine vv_aload_n (pc := 178) x dd_Mo_equal_178 rfl ?_
                    refine lg_Mo_55 (pc := 179) G x dd_Mo_equal_179 R1.2.2 (R1.r 22 (by decide)) ?_
                    refine vv_iload (pc := 182) x dd_Mo_equal_182 rfl ?_
                    refine vv_iald (pc := 184) x dd_Mo_equal_184 (R1.t 22 (by decide)) (in_n (N := 320) (by omega) (R1.n 22 (by decide)) (by decide)) ?_
                    rw [hcd, g22]
                    refine lv_Mo_135 (pc := 185) G x dd_Mo_equal_185 (R_pov (k9 := f.2.2) G R1 HB hp8 hwB f1 hlt) R1.2.2 ⟨by decide, by decide⟩ (by decide) (by decide) (Nat.le_of_ble_eq_true rfl) (fun v185 M185 q185 => ?_)
                    obtain ⟨rfl, hm185⟩ := q185
                    have hm185 := hm185.symm
                    subst hm185
                    rw [hx']
                    refine vv_istore (pc := 188) x dd_Mo_equal_188 (by decide) (ls2 := [_, _, _, _, _, _, _, _, _, _, _, _]) rfl ?_
                    refine vv_aload_n (pc := 190) x dd_Mo_equal_190 rfl ?_
                    refine vv_iload (pc := 191) x dd_Mo_equal_191 rfl ?_
                    refine vv_aload_n (pc := 193) x dd_Mo_equal_193 rfl ?_
                    refine lg_Mo_52 (pc := 194) G x dd_Mo_equal_194 R1.2.2 (R1.r 21 (by decide)) ?_
                    refine vv_iload (pc := 197) x dd_Mo_equal_197 rfl ?_
                    refine vv_iald (pc := 199) x dd_Mo_equal_199 (R1.t 21 (by decide)) (in_n (N := 320) (by omega) (R1.n 21 (by decide)) (by decide)) ?_
                    rw [hcd, g21]
                    refine vv_aload_n (pc := 200) x dd_Mo_equal_200 rfl ?_
                    refine lg_Mo_55 (pc := 201) G x dd_Mo_equal_201 R1.2.2 (R1.r 22 (by decide)) ?_
                    refine vv_iload (pc := 204) x dd_Mo_equal_204 rfl ?_
                    refine vv_iald (pc := 206) x dd_Mo_equal_206 (R1.t 22 (by decide)) (in_n (N := 320) (by omega) (R1.n 22 (by decide)) (by decide)) ?_
                    rw [hcd, g22]
                    refine lv_Mo_135 (pc := 207) G x dd_Mo_equal_207 (R_pov (k9 := f.2.2) G R1 HC hp82 hwC f2 hlt2) R1.2.2 ⟨by decide, by decide⟩ (by decide) (by decide) (Nat.le_of_ble_eq_true rfl) (fun v207 M207 q207 => ?_)
                    obtain ⟨rfl, hm207⟩ := q207
                    have hm207 := hm207.symm
                    subst hm207
                    rw [hy']
                    refine vv_istore (pc := 210) x dd_Mo_equal_210 (by decide) (ls2 := [_, _, _, _, _, _, _, _, _, _, _, _]) rfl ?_
                    refine vv_aload_n (pc := 212) x dd_Mo_equal_212 rfl ?_
                    refine lg_Mo_55 (pc := 213) G x dd_Mo_equal_213 R1.2.2 (R1.r 22 (by decide)) ?_
                    refine vv_iload (pc := 216) x dd_Mo_equal_216 rfl ?_
                    refine vv_dup2 (pc := 218) x dd_Mo_equal_218 rfl rfl ?_
                    refine vv_iald (pc := 219) x dd_Mo_equal_219 (R1.t 22 (by decide)) (in_n (N := 320) (by omega) (R1.n 22 (by decide)) (by decide)) ?_
                    rw [hcd, g22]
                    refine vv_iconst (pc := 220) x dd_Mo_equal_220 (1) (by decide) ?_
                    refine vv_iadd (pc := 221) x dd_Mo_equal_221 ?_
                    rw [nI_1]
                    refine vv_iast (pc := 222) x dd_Mo_equal_222 (R1.t 22 (by decide)) (in_n (N := 320) (by omega) (R1.n 22 (by decide)) (by decide)) ?_
                    rw [hcd, show mm_sa M1 (mm_f M1 7 22 mo) (upd (mm_a M1 (mm_f M1 7 22 mo)) F.length (nI (f.2.2 + 1))) = mw M1 mo 22 (upd (ra M1 mo 22) F.length (nI (f.2.2 + 1))) from rfl]
                    have FA : rx RI9 RA mo M1 (mw M1 mo 22 (upd (ra M1 mo 22) F.length (nI (f.2.2 + 1)))) := rx_mw.mono (by simp) (by decide)
                    have wA : ra (mw M1 mo 22 (upd (ra M1 mo 22) F.length (nI (f.2.2 + 1)))) mo 22 = upd (ra M1 mo 22) F.length (nI (f.2.2 + 1)) := ra_mw
                    have wA0 : ra (mw M1 mo 22 (upd (ra M1 mo 22) F.length (nI (f.2.2 + 1)))) mo 20 = ra M1 mo 20 := ra_mw_n R1 (by decide) (by decide) (by decide)
                    have wA1 : ra (mw M1 mo 22 (upd (ra M1 mo 22) F.length (nI (f.2.2 + 1)))) mo 21 = ra M1 mo 21 := ra_mw_n R1 (by decide) (by decide) (by decide)
                    have hMA : MI pw D ow sl (mw M1 mo 22 (upd (ra M1 mo 22) F.length (nI (f.2.2 + 1)))) mo pl Z := MI_scr h1 (rx_mw.mono (by simp) (by decide))
                    have tA : ri (mw M1 mo 22 (upd (ra M1 mo 22) F.length (nI (f.2.2 + 1)))) mo 0 = 0 := ri_mw.trans t1
                    generalize mw M1 mo 22 (upd (ra M1 mo 22) F.length (nI (f.2.2 + 1))) = N1 at *
                    have R_1 := hMA.1
                    refine vv_iinc (pc := 223) x dd_Mo_equal_223 rfl (nI_1 L) (by decide) (ls2 := [_, _, _, _, _, _, _, _, _, _, _, _]) rfl ?_
                    refine vv_iload (pc := 226) x dd_Mo_equal_226 rfl ?_
                    refine vv_sipush (pc := 228) x dd_Mo_equal_228 (2000) (by decide) ?_
                    refine vv_icmp_le (pc := 231) x dd_Mo_equal_231 (tgt := 241) (by decide) (fun h231 => absurd h231 (nI_ge (a := 2000) (b := L + 1) (by omega) (by omega))) (fun h231 => ?_)
                    refine vv_aload_n (pc := 234) x dd_Mo_equal_234 rfl ?_
                    refine vv_iconst (pc := 235) x dd_Mo_equal_235 (2) (by decide) ?_
                    refine lp_Mo_62 (pc := 236) G x dd_Mo_equal_236 R_1.2.2 ?_
                    refine vv_iconst (pc := 239) x dd_Mo_equal_239 (0) (by decide) ?_
                    exact vv_zret (pc := 240) x dd_Mo_equal_240 rfl (Or.inl rfl) (by decide) (by decide) ⟨(F1.trans FA).trans (rx_mi.mono (by decide) (by simp)), Or.inr (Or.inr ⟨⟨⟨hk, hr⟩, hq2, hs⟩, eR.1, eR.2, ⟨_, rfl⟩, ri_mi, MI_scr hMA (rx_mi.mono (by decide) (by simp))⟩)⟩
                  · obtain ⟨n7, en7⟩ : ∃ n7, 2000 - L = n7 + 1 := ⟨2000 - L - 1, by omega⟩
                    rw [hp0, en7] at hR
                    have hR2 : (if alk B C9 x2 y2 = true then cmpr B C9 n7 ((pts B x2).zip (pts C9 y2) ++ pnd B C9 ((f.1, f.2.1, f.2.2 + 1) :: F)) else (false, pnd B C9 ((f.1, f.2.1, f.2.2 + 1) :: F))) = Rs := hR
                    have hwB1 : wv B (fun a => ra M1 mo 11 (600 * pl.getD k9 0 + a)) := hwB
                    have hcd1 : (nI (F.length + 1)).toNatClampNeg = F.length + 1 := nI_clamp (by omega)
                    by_cases hal : alk B C9 x2 y2 = true
                    · rw [if_pos hal] at hR2
                      have eqn : n7 = 2000 - (L + 1) := by omega
                      have hplen := alk_pts HB HC hal hvx hvy
                      refine vv_iload (pc := 129) x dd_Mo_equal_129 rfl ?_
                      refine vv_if_eq (pc := 131) x dd_Mo_equal_131 (tgt := 287) (by decide) (fun h131 => absurd h131 (by decide)) (fun h131 => ?_)
                      refine vv_iload (pc := 134) x dd_Mo_equal_134 rfl ?_
                      refine vv_if_lt (pc := 136) x dd_Mo_equal_136 (tgt := 287) (by decide) (fun h136 => absurd h136 (nI_pos (by omega))) (fun h136 => ?_)
                      refine vv_aload_n (pc := 139) x dd_Mo_equal_139 rfl ?_
                      refine lg_Mo_55 (pc := 140) G x dd_Mo_equal_140 R1.2.2 (R1.r 22 (by decide)) ?_
                      refine vv_iload (pc := 143) x dd_Mo_equal_143 rfl ?_
                      refine vv_iald (pc := 145) x dd_Mo_equal_145 (R1.t 22 (by decide)) (in_n (N := 320) (by omega) (R1.n 22 (by decide)) (by decide)) ?_
                      rw [hcd, g22]
                      refine vv_aload_n (pc := 146) x dd_Mo_equal_146 rfl ?_
                      refine vv_iload (pc := 147) x dd_Mo_equal_147 rfl ?_
                      refine vv_aload_n (pc := 149) x dd_Mo_equal_149 rfl ?_
                      refine lg_Mo_49 (pc := 150) G x dd_Mo_equal_150 R1.2.2 (R1.r 20 (by decide)) ?_
                      refine vv_iload (pc := 153) x dd_Mo_equal_153 rfl ?_
                      refine vv_iald (pc := 155) x dd_Mo_equal_155 (R1.t 20 (by decide)) (in_n (N := 320) (by omega) (R1.n 20 (by decide)) (by decide)) ?_
                      rw [hcd, g20]
                      refine lv_Mo_75 (pc := 156) G x dd_Mo_equal_156 (R_pcv G R1 HB hp8 hwB f1) R1.2.2 ⟨by decide, by decide⟩ (by decide) (by decide) (Nat.le_of_ble_eq_true rfl) (fun v156 M156 q156 => ?_)
                      obtain ⟨rfl, hm156⟩ := q156
                      have hm156 := hm156.symm
                      subst hm156
                      refine vv_icmp_ne (pc := 159) x dd_Mo_equal_159 (tgt := 168) (by decide) (fun h159 => ?_) (fun h159 => absurd h159 (fun z => hfin ((nI_eq (by omega) (by omega)).mp z)))
                      refine vv_aload_n (pc := 168) x dd_Mo_equal_168 rfl ?_
                      refine vv_iload (pc := 169) x dd_Mo_equal_169 rfl ?_
                      refine vv_aload_n (pc := 171) x dd_Mo_equal_171 rfl ?_
                      refine lg_Mo_49 (pc := 172) G x dd_Mo_equal_172 R1.2.2 (R1.r 20 (by decide)) ?_
                      refine vv_iload (pc := 175) x dd_Mo_equal_175 rfl ?_
                      refine vv_iald (pc := 177) x dd_Mo_equal_177 (R1.t 20 (by decide)) (in_n (N := 320) (by omega) (R1.n 20 (by decide)) (by decide)) ?_
                      rw [hcd, g20]
                      refine vv_aload_n (pc := 178) x dd_Mo_equal_178 rfl ?_
                      refine lg_Mo_55 (pc := 179) G x dd_Mo_equal_179 R1.2.2 (R1.r 22 (by decide)) ?_
                      refine vv_iload (pc := 182) x dd_Mo_equal_182 rfl ?_
                      refine vv_iald (pc := 184) x dd_Mo_equal_184 (R1.t 22 (by decide)) (in_n (N := 320) (by omega) (R1.n 22 (by decide)) (by decide)) ?_
                      rw [hcd, g22]
                      refine lv_Mo_135 (pc := 185) G x dd_Mo_equal_185 (R_pov (k9 := f.2.2) G R1 HB hp8 hwB f1 hlt) R1.2.2 ⟨by decide, by decide⟩ (by decide) (by decide) (Nat.le_of_ble_eq_true rfl) (fun v185 M185 q185 => ?_)
                      obtain ⟨rfl, hm185⟩ := q185
                      have hm185 := hm185.symm
                      subst hm185
                      rw [hx']
                      refine vv_istore (pc := 188) x dd_Mo_equal_188 (by decide) (ls2 := [_, _, _, _, _, _, _, _, _, _, _, _]) rfl ?_
                      refine vv_aload_n (pc := 190) x dd_Mo_equal_190 rfl ?_
                      refine vv_iload (pc := 191) x dd_Mo_equal_191 rfl ?_
                      refine vv_aload_n (pc := 193) x dd_Mo_equal_193 rfl ?_
                      refine lg_Mo_52 (pc := 194) G x dd_Mo_equal_194 R1.2.2 (R1.r 21 (by decide)) ?_
                      refine vv_iload (pc := 197) x dd_Mo_equal_197 rfl ?_
                      refine vv_iald (pc := 199) x dd_Mo_equal_199 (R1.t 21 (by decide)) (in_n (N := 320) (by omega) (R1.n 21 (by decide)) (by decide)) ?_
                      rw [hcd, g21]
                      refine vv_aload_n (pc := 200) x dd_Mo_equal_200 rfl ?_
                      refine lg_Mo_55 (pc := 201) G x dd_Mo_equal_201 R1.2.2 (R1.r 22 (by decide)) ?_
                      refine vv_iload (pc := 204) x dd_Mo_equal_204 rfl ?_
                      refine vv_iald (pc := 206) x dd_Mo_equal_206 (R1.t 22 (by decide)) (in_n (N := 320) (by omega) (R1.n 22 (by decide)) (by decide)) ?_
                      rw [hcd, g22]
                      refine lv_Mo_135 (pc := 207) G x dd_Mo_equal_207 (R_pov (k9 := f.2.2) G R1 HC hp82 hwC f2 hlt2) R1.2.2 ⟨by decide, by decide⟩ (by decide) (by decide) (Nat.le_of_ble_eq_true rfl) (fun v207 M207 q207 => ?_)
                      obtain ⟨rfl, hm207⟩ := q207
                      have hm207 := hm207.symm
                      subst hm207
                      rw [hy']
                      refine vv_istore (pc := 210) x dd_Mo_equal_210 (by decide) (ls2 := [_, _, _, _, _, _, _, _, _, _, _, _]) rfl ?_
                      refine vv_aload_n (pc := 212) x dd_Mo_equal_212 rfl ?_
                      refine lg_Mo_55 (pc := 213) G x dd_Mo_equal_213 R1.2.2 (R1.r 22 (by decide)) ?_
                      refine vv_iload (pc := 216) x dd_Mo_equal_216 rfl ?_
                      refine vv_dup2 (pc := 218) x dd_Mo_equal_218 rfl rfl ?_
                      refine vv_iald (pc := 219) x dd_Mo_equal_219 (R1.t 22 (by decide)) (in_n (N := 320) (by omega) (R1.n 22 (by decide)) (by decide)) ?_
                      rw [hcd, g22]
                      refine vv_iconst (pc := 220) x dd_Mo_equal_220 (1) (by decide) ?_
                      refine vv_iadd (pc := 221) x dd_Mo_equal_221 ?_
                      rw [nI_1]
                      refine vv_iast (pc := 222) x dd_Mo_equal_222 (R1.t 22 (by decide)) (in_n (N := 320) (by omega) (R1.n 22 (by decide)) (by decide)) ?_
                      rw [hcd, show mm_sa M1 (mm_f M1 7 22 mo) (upd (mm_a M1 (mm_f M1 7 22 mo)) F.length (nI (f.2.2 + 1))) = mw M1 mo 22 (upd (ra M1 mo 22) F.length (nI (f.2.2 + 1))) from rfl]
                      have FA : rx RI9 RA mo M1 (mw M1 mo 22 (upd (ra M1 mo 22) F.length (nI (f.2.2 + 1)))) := rx_mw.mono (by simp) (by decide)
                      have wA : ra (mw M1 mo 22 (upd (ra M1 mo 22) F.length (nI (f.2.2 + 1)))) mo 22 = upd (ra M1 mo 22) F.length (nI (f.2.2 + 1)) := ra_mw
                      have wA0 : ra (mw M1 mo 22 (upd (ra M1 mo 22) F.length (nI (f.2.2 + 1)))) mo 20 = ra M1 mo 20 := ra_mw_n R1 (by decide) (by decide) (by decide)
                      have wA1 : ra (mw M1 mo 22 (upd (ra M1 mo 22) F.length (nI (f.2.2 + 1)))) mo 21 = ra M1 mo 21 := ra_mw_n R1 (by decide) (by decide) (by decide)
                      have hMA : MI pw D ow sl (mw M1 mo 22 (upd (ra M1 mo 22) F.length (nI (f.2.2 + 1)))) mo pl Z := MI_scr h1 (rx_mw.mono (by simp) (by decide))
                      have tA : ri (mw M1 mo 22 (upd (ra M1 mo 22) F.length (nI (f.2.2 + 1)))) mo 0 = 0 := ri_mw.trans t1
                      generalize mw M1 mo 22 (upd (ra M1 mo 22) F.length (nI (f.2.2 + 1))) = N1 at *
                      have R_1 := hMA.1
                      refine vv_iinc (pc := 223) x dd_Mo_equal_223 rfl (nI_1 L) (by decide) (ls2 := [_, _, _, _, _, _, _, _, _, _, _, _]) rfl ?_
                      refine vv_iload (pc := 226) x dd_Mo_equal_226 rfl ?_
                      refine vv_sipush (pc := 228) x dd_Mo_equal_228 (2000) (by decide) ?_
                      refine vv_icmp_le (pc := 231) x dd_Mo_equal_231 (tgt := 241) (by decide) (fun h231 => ?_) (fun h231 => absurd h231 (fun z => z (nI_le (a := L + 1) (b := 2000) (by omega) (by decide))))
                      refine vv_aload_n (pc := 241) x dd_Mo_equal_241 rfl ?_
                      refine vv_iload (pc := 242) x dd_Mo_equal_242 rfl ?_
                      refine vv_iload (pc := 244) x dd_Mo_equal_244 rfl ?_
                      refine vv_iload (pc := 246) x dd_Mo_equal_246 rfl ?_
                      refine vv_iload (pc := 248) x dd_Mo_equal_248 rfl ?_
                      refine lv_Mo_148 (pc := 250) G x dd_Mo_equal_250 (R_alike G R_1 HB HC hp8 hp82 (by rw [← hB]; exact (hMA.2.2.2.1 k9 hk).2.2.2.1) (by rw [← hC9]; exact (hMA.2.2.2.1 k2 hq2).2.2.2.1) hvx hvy) R_1.2.2 ⟨by decide, by decide⟩ (by decide) (by decide) (Nat.le_of_ble_eq_true rfl) (fun v250 M250 q250 => ?_)
                      obtain ⟨rfl, hm250⟩ := q250
                      have hm250 := hm250.symm
                      subst hm250
                      rw [show (if alk B C9 x2 y2 = true then (1 : Int32) else 0) = 1 from if_pos hal]
                      refine vv_istore (pc := 253) x dd_Mo_equal_253 (by decide) (ls2 := [_, _, _, _, _, _, _, _, _, _, _, _]) rfl ?_
                      refine vv_iinc (pc := 255) x dd_Mo_equal_255 rfl (nI_1 F.length) (by decide) (ls2 := [_, _, _, _, _, _, _, _, _, _, _, _]) rfl ?_
                      refine vv_aload_n (pc := 258) x dd_Mo_equal_258 rfl ?_
                      refine lg_Mo_49 (pc := 259) G x dd_Mo_equal_259 R_1.2.2 (R_1.r 20 (by decide)) ?_
                      refine vv_iload (pc := 262) x dd_Mo_equal_262 rfl ?_
                      refine vv_iload (pc := 264) x dd_Mo_equal_264 rfl ?_
                      refine vv_iast (pc := 266) x dd_Mo_equal_266 (R_1.t 20 (by decide)) (in_n (N := 320) (by omega) (R_1.n 20 (by decide)) (by decide)) ?_
                      rw [hcd1, show mm_sa N1 (mm_f N1 7 20 mo) (upd (mm_a N1 (mm_f N1 7 20 mo)) (F.length + 1) x2) = mw N1 mo 20 (upd (ra N1 mo 20) (F.length + 1) x2) from rfl]
                      have FB : rx [] [20] mo N1 (mw N1 mo 20 (upd (ra N1 mo 20) (F.length + 1) x2)) := rx_mw
                      have wB : ra (mw N1 mo 20 (upd (ra N1 mo 20) (F.length + 1) x2)) mo 20 = upd (ra N1 mo 20) (F.length + 1) x2 := ra_mw
                      generalize mw N1 mo 20 (upd (ra N1 mo 20) (F.length + 1) x2) = N2 at *
                      have R_2 := FB.to R_1
                      refine vv_aload_n (pc := 267) x dd_Mo_equal_267 rfl ?_
                      refine lg_Mo_52 (pc := 268) G x dd_Mo_equal_268 R_2.2.2 (R_2.r 21 (by decide)) ?_
                      refine vv_iload (pc := 271) x dd_Mo_equal_271 rfl ?_
                      refine vv_iload (pc := 273) x dd_Mo_equal_273 rfl ?_
                      refine vv_iast (pc := 275) x dd_Mo_equal_275 (R_2.t 21 (by decide)) (in_n (N := 320) (by omega) (R_2.n 21 (by decide)) (by decide)) ?_
                      rw [hcd1, show mm_sa N2 (mm_f N2 7 21 mo) (upd (mm_a N2 (mm_f N2 7 21 mo)) (F.length + 1) y2) = mw N2 mo 21 (upd (ra N2 mo 21) (F.length + 1) y2) from rfl]
                      have FC : rx [] [21] mo N2 (mw N2 mo 21 (upd (ra N2 mo 21) (F.length + 1) y2)) := rx_mw
                      have wC : ra (mw N2 mo 21 (upd (ra N2 mo 21) (F.length + 1) y2)) mo 21 = upd (ra N2 mo 21) (F.length + 1) y2 := ra_mw
                      generalize mw N2 mo 21 (upd (ra N2 mo 21) (F.length + 1) y2) = N3 at *
                      have R_3 := FC.to R_2
                      refine vv_aload_n (pc := 276) x dd_Mo_equal_276 rfl ?_
                      refine lg_Mo_55 (pc := 277) G x dd_Mo_equal_277 R_3.2.2 (R_3.r 22 (by decide)) ?_
                      refine vv_iload (pc := 280) x dd_Mo_equal_280 rfl ?_
                      refine vv_iconst (pc := 282) x dd_Mo_equal_282 (0) (by decide) ?_
                      refine vv_iast (pc := 283) x dd_Mo_equal_283 (R_3.t 22 (by decide)) (in_n (N := 320) (by omega) (R_3.n 22 (by decide)) (by decide)) ?_
                      rw [hcd1, show mm_sa N3 (mm_f N3 7 22 mo) (upd (mm_a N3 (mm_f N3 7 22 mo)) (F.length + 1) 0) = mw N3 mo 22 (upd (ra N3 mo 22) (F.length + 1) 0) from rfl]
                      have FD : rx [] [22] mo N3 (mw N3 mo 22 (upd (ra N3 mo 22) (F.length + 1) 0)) := rx_mw
                      have wD : ra (mw N3 mo 22 (upd (ra N3 mo 22) (F.length + 1) 0)) mo 22 = upd (ra N3 mo 22) (F.length + 1) 0 := ra_mw
                      generalize mw N3 mo 22 (upd (ra N3 mo 22) (F.length + 1) 0) = N4 at *
                      have F14 : rx [0, 16] [17, 18, 19, 20, 21, 22] mo N1 N4 := ((FB.mono (by simp) (by decide)).trans (FC.mono (by simp) (by decide))).trans (FD.mono (by simp) (by decide))
                      have h4 := MI_scr hMA F14
                      have t4 : ri N4 mo 0 = 0 := by rw [FD.i (by simp), FC.i (by simp), FB.i (by simp)]; exact tA
                      have F04 : rx RI9 RA mo M N4 := (F1.trans FA).trans (F14.mono (by decide) (by decide))
                      have v20 : ra N4 mo 20 = upd (ra M1 mo 20) (F.length + 1) x2 := by rw [FD.a R_3 (by decide) (by decide) (by decide), FC.a R_2 (by decide) (by decide) (by decide), wB, wA0]
                      have v21 : ra N4 mo 21 = upd (ra M1 mo 21) (F.length + 1) y2 := by rw [FD.a R_3 (by decide) (by decide) (by decide), wC, FB.a R_1 (by decide) (by decide) (by decide), wA1]
                      have v22 : ra N4 mo 22 = upd (upd (ra M1 mo 22) F.length (nI (f.2.2 + 1))) (F.length + 1) 0 := by rw [wD, FC.a R_2 (by decide) (by decide) (by decide), FB.a R_1 (by decide) (by decide) (by decide), wA]
                      refine vv_goto (pc := 284) x dd_Mo_equal_284 (tgt := 129) (by decide) ?_
                      have h0 := ih ((x2, y2, 0) :: (f.1, f.2.1, f.2.2 + 1) :: F) (L + 1) x2 y2 N4 (by rw [List.length_cons] at hN; simp only [List.length_cons]; omega) (by omega) (by omega) h4 F04 t4 (by
                        refine ⟨⟨?_, ?_, ?_⟩, ⟨?_, ?_, ?_⟩, ?_⟩
                        · show ra N4 mo 20 (F.length + 1) = x2
                          rw [v20, upd_eq rfl]
                        · show ra N4 mo 21 (F.length + 1) = y2
                          rw [v21, upd_eq rfl]
                        · show ra N4 mo 22 (F.length + 1) = nI 0
                          rw [v22, upd_eq rfl]; rfl
                        · rw [v20, upd_ne (by omega)]; exact s1
                        · rw [v21, upd_ne (by omega)]; exact s2
                        · rw [v22, upd_ne (by omega), upd_eq rfl]
                        · refine stk_same hst2 (fun x hx => ?_)
                          rw [v20, v21, v22, upd_ne (by omega), upd_ne (by omega), upd_ne (by omega), upd_ne (by omega)]
                          exact ⟨rfl, rfl, rfl⟩) ⟨⟨hvx, hvy, Nat.zero_le _, hplen, by simp only [List.length_cons]; omega⟩, ⟨f1, f2, hlt, f4, f5⟩, hfo2⟩ (by simp only [List.length_cons]; omega) (by rw [← eqn]; exact hR2)
                      have ed2 : nI ((x2, y2, 0) :: (f.1, f.2.1, f.2.2 + 1) :: F).length - 1 = nI (F.length + 1) := by
                        simp only [List.length_cons]
                        exact nI_dec (by omega)
                      rw [ed2] at h0
                      exact h0
                    · rw [if_neg hal] at hR2
                      have eR : ¬ Rs.1 = true := by rw [← hR2]; simp
                      refine vv_iload (pc := 129) x dd_Mo_equal_129 rfl ?_
                      refine vv_if_eq (pc := 131) x dd_Mo_equal_131 (tgt := 287) (by decide) (fun h131 => absurd h131 (by decide)) (fun h131 => ?_)
                      refine vv_iload (pc := 134) x dd_Mo_equal_134 rfl ?_
                      refine vv_if_lt (pc := 136) x dd_Mo_equal_136 (tgt := 287) (by decide) (fun h136 => absurd h136 (nI_pos (by omega))) (fun h136 => ?_)
                      refine vv_aload_n (pc := 139) x dd_Mo_equal_139 rfl ?_
                      refine lg_Mo_55 (pc := 140) G x dd_Mo_equal_140 R1.2.2 (R1.r 22 (by decide)) ?_
                      refine vv_iload (pc := 143) x dd_Mo_equal_143 rfl ?_
                      refine vv_iald (pc := 145) x dd_Mo_equal_145 (R1.t 22 (by decide)) (in_n (N := 320) (by omega) (R1.n 22 (by decide)) (by decide)) ?_
                      rw [hcd, g22]
                      refine vv_aload_n (pc := 146) x dd_Mo_equal_146 rfl ?_
                      refine vv_iload (pc := 147) x dd_Mo_equal_147 rfl ?_
                      refine vv_aload_n (pc := 149) x dd_Mo_equal_149 rfl ?_
                      refine lg_Mo_49 (pc := 150) G x dd_Mo_equal_150 R1.2.2 (R1.r 20 (by decide)) ?_
                      refine vv_iload (pc := 153) x dd_Mo_equal_153 rfl ?_
                      refine vv_iald (pc := 155) x dd_Mo_equal_155 (R1.t 20 (by decide)) (in_n (N := 320) (by omega) (R1.n 20 (by decide)) (by decide)) ?_
                      rw [hcd, g20]
                      refine lv_Mo_75 (pc := 156) G x dd_Mo_equal_156 (R_pcv G R1 HB hp8 hwB f1) R1.2.2 ⟨by decide, by decide⟩ (by decide) (by decide) (Nat.le_of_ble_eq_true rfl) (fun v156 M156 q156 => ?_)
                      obtain ⟨rfl, hm156⟩ := q156
                      have hm156 := hm156.symm
                      subst hm156
                      refine vv_icmp_ne (pc := 159) x dd_Mo_equal_159 (tgt := 168) (by decide) (fun h159 => ?_) (fun h159 => absurd h159 (fun z => hfin ((nI_eq (by omega) (by omega)).mp z)))
                      refine vv_aload_n (pc := 168) x dd_Mo_equal_168 rfl ?_
                      refine vv_iload (pc := 169) x dd_Mo_equal_169 rfl ?_
                      refine vv_aload_n (pc := 171) x dd_Mo_equal_171 rfl ?_
                      refine lg_Mo_49 (pc := 172) G x dd_Mo_equal_172 R1.2.2 (R1.r 20 (by decide)) ?_
                      refine vv_iload (pc := 175) x dd_Mo_equal_175 rfl ?_
                      refine vv_iald (pc := 177) x dd_Mo_equal_177 (R1.t 20 (by decide)) (in_n (N := 320) (by omega) (R1.n 20 (by decide)) (by decide)) ?_
                      rw [hcd, g20]
                      refine vv_aload_n (pc := 178) x dd_Mo_equal_178 rfl ?_
                      refine lg_Mo_55 (pc := 179) G x dd_Mo_equal_179 R1.2.2 (R1.r 22 (by decide)) ?_
                      refine vv_iload (pc := 182) x dd_Mo_equal_182 rfl ?_
                      refine vv_iald (pc := 184) x dd_Mo_equal_184 (R1.t 22 (by decide)) (in_n (N := 320) (by omega) (R1.n 22 (by decide)) (by decide)) ?_
                      rw [hcd, g22]
                      refine lv_Mo_135 (pc := 185) G x dd_Mo_equal_185 (R_pov (k9 := f.2.2) G R1 HB hp8 hwB f1 hlt) R1.2.2 ⟨by decide, by decide⟩ (by decide) (by decide) (Nat.le_of_ble_eq_true rfl) (fun v185 M185 q185 => ?_)
                      obtain ⟨rfl, hm185⟩ := q185
                      have hm185 := hm185.symm
                      subst hm185
                      rw [hx']
                      refine vv_istore (pc := 188) x dd_Mo_equal_188 (by decide) (ls2 := [_, _, _, _, _, _, _, _, _, _, _, _]) rfl ?_
                      refine vv_aload_n (pc := 190) x dd_Mo_equal_190 rfl ?_
                      refine vv_iload (pc := 191) x dd_Mo_equal_191 rfl ?_
                      refine vv_aload_n (pc := 193) x dd_Mo_equal_193 rfl ?_
                      refine lg_Mo_52 (pc := 194) G x dd_Mo_equal_194 R1.2.2 (R1.r 21 (by decide)) ?_
                      refine vv_iload (pc := 197) x dd_Mo_equal_197 rfl ?_
                      refine vv_iald (pc := 199) x dd_Mo_equal_199 (R1.t 21 (by decide)) (in_n (N := 320) (by omega) (R1.n 21 (by decide)) (by decide)) ?_
                      rw [hcd, g21]
                      refine vv_aload_n (pc := 200) x dd_Mo_equal_200 rfl ?_
                      refine lg_Mo_55 (pc := 201) G x dd_Mo_equal_201 R1.2.2 (R1.r 22 (by decide)) ?_
                      refine vv_iload (pc := 204) x dd_Mo_equal_204 rfl ?_
                      refine vv_iald (pc := 206) x dd_Mo_equal_206 (R1.t 22 (by decide)) (in_n (N := 320) (by omega) (R1.n 22 (by decide)) (by decide)) ?_
                      rw [hcd, g22]
                      refine lv_Mo_135 (pc := 207) G x dd_Mo_equal_207 (R_pov (k9 := f.2.2) G R1 HC hp82 hwC f2 hlt2) R1.2.2 ⟨by decide, by decide⟩ (by decide) (by decide) (Nat.le_of_ble_eq_true rfl) (fun v207 M207 q207 => ?_)
                      obtain ⟨rfl, hm207⟩ := q207
                      have hm207 := hm207.symm
                      subst hm207
                      rw [hy']
                      refine vv_istore (pc := 210) x dd_Mo_equal_210 (by decide) (ls2 := [_, _, _, _, _, _, _, _, _, _, _, _]) rfl ?_
                      refine vv_aload_n (pc := 212) x dd_Mo_equal_212 rfl ?_
                      refine lg_Mo_55 (pc := 213) G x dd_Mo_equal_213 R1.2.2 (R1.r 22 (by decide)) ?_
                      refine vv_iload (pc := 216) x dd_Mo_equal_216 rfl ?_
                      refine vv_dup2 (pc := 218) x dd_Mo_equal_218 rfl rfl ?_
                      refine vv_iald (pc := 219) x dd_Mo_equal_219 (R1.t 22 (by decide)) (in_n (N := 320) (by omega) (R1.n 22 (by decide)) (by decide)) ?_
                      rw [hcd, g22]
                      refine vv_iconst (pc := 220) x dd_Mo_equal_220 (1) (by decide) ?_
                      refine vv_iadd (pc := 221) x dd_Mo_equal_221 ?_
                      rw [nI_1]
                      refine vv_iast (pc := 222) x dd_Mo_equal_222 (R1.t 22 (by decide)) (in_n (N := 320) (by omega) (R1.n 22 (by decide)) (by decide)) ?_
                      rw [hcd, show mm_sa M1 (mm_f M1 7 22 mo) (upd (mm_a M1 (mm_f M1 7 22 mo)) F.length (nI (f.2.2 + 1))) = mw M1 mo 22 (upd (ra M1 mo 22) F.length (nI (f.2.2 + 1))) from rfl]
                      have FA : rx RI9 RA mo M1 (mw M1 mo 22 (upd (ra M1 mo 22) F.length (nI (f.2.2 + 1)))) := rx_mw.mono (by simp) (by decide)
                      have wA : ra (mw M1 mo 22 (upd (ra M1 mo 22) F.length (nI (f.2.2 + 1)))) mo 22 = upd (ra M1 mo 22) F.length (nI (f.2.2 + 1)) := ra_mw
                      have wA0 : ra (mw M1 mo 22 (upd (ra M1 mo 22) F.length (nI (f.2.2 + 1)))) mo 20 = ra M1 mo 20 := ra_mw_n R1 (by decide) (by decide) (by decide)
                      have wA1 : ra (mw M1 mo 22 (upd (ra M1 mo 22) F.length (nI (f.2.2 + 1)))) mo 21 = ra M1 mo 21 := ra_mw_n R1 (by decide) (by decide) (by decide)
                      have hMA : MI pw D ow sl (mw M1 mo 22 (upd (ra M1 mo 22) F.length (nI (f.2.2 + 1)))) mo pl Z := MI_scr h1 (rx_mw.mono (by simp) (by decide))
                      have tA : ri (mw M1 mo 22 (upd (ra M1 mo 22) F.length (nI (f.2.2 + 1)))) mo 0 = 0 := ri_mw.trans t1
                      generalize mw M1 mo 22 (upd (ra M1 mo 22) F.length (nI (f.2.2 + 1))) = N1 at *
                      have R_1 := hMA.1
                      refine vv_iinc (pc := 223) x dd_Mo_equal_223 rfl (nI_1 L) (by decide) (ls2 := [_, _, _, _, _, _, _, _, _, _, _, _]) rfl ?_
                      refine vv_iload (pc := 226) x dd_Mo_equal_226 rfl ?_
                      refine vv_sipush (pc := 228) x dd_Mo_equal_228 (2000) (by decide) ?_
                      refine vv_icmp_le (pc := 231) x dd_Mo_equal_231 (tgt := 241) (by decide) (fun h231 => ?_) (fun h231 => absurd h231 (fun z => z (nI_le (a := L + 1) (b := 2000) (by omega) (by decide))))
                      refine vv_aload_n (pc := 241) x dd_Mo_equal_241 rfl ?_
                      refine vv_iload (pc := 242) x dd_Mo_equal_242 rfl ?_
                      refine vv_iload (pc := 244) x dd_Mo_equal_244 rfl ?_
                      refine vv_iload (pc := 246) x dd_Mo_equal_246 rfl ?_
                      refine vv_iload (pc := 248) x dd_Mo_equal_248 rfl ?_
                      refine lv_Mo_148 (pc := 250) G x dd_Mo_equal_250 (R_alike G R_1 HB HC hp8 hp82 (by rw [← hB]; exact (hMA.2.2.2.1 k9 hk).2.2.2.1) (by rw [← hC9]; exact (hMA.2.2.2.1 k2 hq2).2.2.2.1) hvx hvy) R_1.2.2 ⟨by decide, by decide⟩ (by decide) (by decide) (Nat.le_of_ble_eq_true rfl) (fun v250 M250 q250 => ?_)
                      obtain ⟨rfl, hm250⟩ := q250
                      have hm250 := hm250.symm
                      subst hm250
                      rw [show (if alk B C9 x2 y2 = true then (1 : Int32) else 0) = 0 from if_neg hal]
                      refine vv_istore (pc := 253) x dd_Mo_equal_253 (by decide) (ls2 := [_, _, _, _, _, _, _, _, _, _, _, _]) rfl ?_
                      refine vv_iinc (pc := 255) x dd_Mo_equal_255 rfl (nI_1 F.length) (by decide) (ls2 := [_, _, _, _, _, _, _, _, _, _, _, _]) rfl ?_
                      refine vv_aload_n (pc := 258) x dd_Mo_equal_258 rfl ?_
                      refine lg_Mo_49 (pc := 259) G x dd_Mo_equal_259 R_1.2.2 (R_1.r 20 (by decide)) ?_
                      refine vv_iload (pc := 262) x dd_Mo_equal_262 rfl ?_
                      refine vv_iload (pc := 264) x dd_Mo_equal_264 rfl ?_
                      refine vv_iast (pc := 266) x dd_Mo_equal_266 (R_1.t 20 (by decide)) (in_n (N := 320) (by omega) (R_1.n 20 (by decide)) (by decide)) ?_
                      rw [hcd1, show mm_sa N1 (mm_f N1 7 20 mo) (upd (mm_a N1 (mm_f N1 7 20 mo)) (F.length + 1) x2) = mw N1 mo 20 (upd (ra N1 mo 20) (F.length + 1) x2) from rfl]
                      have FB : rx [] [20] mo N1 (mw N1 mo 20 (upd (ra N1 mo 20) (F.length + 1) x2)) := rx_mw
                      have wB : ra (mw N1 mo 20 (upd (ra N1 mo 20) (F.length + 1) x2)) mo 20 = upd (ra N1 mo 20) (F.length + 1) x2 := ra_mw
                      generalize mw N1 mo 20 (upd (ra N1 mo 20) (F.length + 1) x2) = N2 at *
                      have R_2 := FB.to R_1
                      refine vv_aload_n (pc := 267) x dd_Mo_equal_267 rfl ?_
                      refine lg_Mo_52 (pc := 268) G x dd_Mo_equal_268 R_2.2.2 (R_2.r 21 (by decide)) ?_
                      refine vv_iload (pc := 271) x dd_Mo_equal_271 rfl ?_
                      refine vv_iload (pc := 273) x dd_Mo_equal_273 rfl ?_
                      refine vv_iast (pc := 275) x dd_Mo_equal_275 (R_2.t 21 (by decide)) (in_n (N := 320) (by omega) (R_2.n 21 (by decide)) (by decide)) ?_
                      rw [hcd1, show mm_sa N2 (mm_f N2 7 21 mo) (upd (mm_a N2 (mm_f N2 7 21 mo)) (F.length + 1) y2) = mw N2 mo 21 (upd (ra N2 mo 21) (F.length + 1) y2) from rfl]
                      have FC : rx [] [21] mo N2 (mw N2 mo 21 (upd (ra N2 mo 21) (F.length + 1) y2)) := rx_mw
                      have wC : ra (mw N2 mo 21 (upd (ra N2 mo 21) (F.length + 1) y2)) mo 21 = upd (ra N2 mo 21) (F.length + 1) y2 := ra_mw
                      generalize mw N2 mo 21 (upd (ra N2 mo 21) (F.length + 1) y2) = N3 at *
                      have R_3 := FC.to R_2
                      refine vv_aload_n (pc := 276) x dd_Mo_equal_276 rfl ?_
                      refine lg_Mo_55 (pc := 277) G x dd_Mo_equal_277 R_3.2.2 (R_3.r 22 (by decide)) ?_
                      refine vv_iload (pc := 280) x dd_Mo_equal_280 rfl ?_
                      refine vv_iconst (pc := 282) x dd_Mo_equal_282 (0) (by decide) ?_
                      refine vv_iast (pc := 283) x dd_Mo_equal_283 (R_3.t 22 (by decide)) (in_n (N := 320) (by omega) (R_3.n 22 (by decide)) (by decide)) ?_
                      rw [hcd1, show mm_sa N3 (mm_f N3 7 22 mo) (upd (mm_a N3 (mm_f N3 7 22 mo)) (F.length + 1) 0) = mw N3 mo 22 (upd (ra N3 mo 22) (F.length + 1) 0) from rfl]
                      have FD : rx [] [22] mo N3 (mw N3 mo 22 (upd (ra N3 mo 22) (F.length + 1) 0)) := rx_mw
                      have wD : ra (mw N3 mo 22 (upd (ra N3 mo 22) (F.length + 1) 0)) mo 22 = upd (ra N3 mo 22) (F.length + 1) 0 := ra_mw
                      generalize mw N3 mo 22 (upd (ra N3 mo 22) (F.length + 1) 0) = N4 at *
                      have F14 : rx [0, 16] [17, 18, 19, 20, 21, 22] mo N1 N4 := ((FB.mono (by simp) (by decide)).trans (FC.mono (by simp) (by decide))).trans (FD.mono (by simp) (by decide))
                      have h4 := MI_scr hMA F14
                      have t4 : ri N4 mo 0 = 0 := by rw [FD.i (by simp), FC.i (by simp), FB.i (by simp)]; exact tA
                      have F04 : rx RI9 RA mo M N4 := (F1.trans FA).trans (F14.mono (by decide) (by decide))
                      have v20 : ra N4 mo 20 = upd (ra M1 mo 20) (F.length + 1) x2 := by rw [FD.a R_3 (by decide) (by decide) (by decide), FC.a R_2 (by decide) (by decide) (by decide), wB, wA0]
                      have v21 : ra N4 mo 21 = upd (ra M1 mo 21) (F.length + 1) y2 := by rw [FD.a R_3 (by decide) (by decide) (by decide), wC, FB.a R_1 (by decide) (by decide) (by decide), wA1]
                      have v22 : ra N4 mo 22 = upd (upd (ra M1 mo 22) F.length (nI (f.2.2 + 1))) (F.length + 1) 0 := by rw [wD, FC.a R_2 (by decide) (by decide) (by decide), FB.a R_1 (by decide) (by decide) (by decide), wA]
                      refine vv_goto (pc := 284) x dd_Mo_equal_284 (tgt := 129) (by decide) ?_
                      refine vv_iload (pc := 129) x dd_Mo_equal_129 rfl ?_
                      refine vv_if_eq (pc := 131) x dd_Mo_equal_131 (tgt := 287) (by decide) (fun h131 => ?_) (fun h131 => absurd h131 (fun z => z rfl))
                      refine vv_iload (pc := 287) x dd_Mo_equal_287 rfl ?_
                      exact vv_zret (pc := 289) x dd_Mo_equal_289 rfl (Or.inl rfl) (by decide) (by decide) ⟨F04, Or.inl ⟨⟨⟨hk, hr⟩, hq2, hs⟩, fun z => absurd z eR, by rw [if_neg eR], t4, h4⟩⟩
          by_cases hal : alk B C9 x0 y0 = true
          · rw [if_pos hal] at hRc
            refine vv_aload_n (pc := 0) x dd_Mo_equal_0 rfl ?_
            refine vv_iload_n (pc := 1) x dd_Mo_equal_1 rfl ?_
            refine lv_Mo_120 (pc := 2) G x dd_Mo_equal_2 (R_place G h hZ.2.2.1 hnm k9 hk9) R.2.2 ⟨by decide, by decide⟩ (by decide) (by decide) (Nat.le_of_ble_eq_true rfl) (fun v2 M2 q2 => ?_)
            obtain ⟨rfl, hm2⟩ := q2
            have hm2 := hm2.symm
            subst hm2
            rw [show (if k9 < Z.1.length then nI (pl.getD k9 0) else (-1 : Int32)) = nI (pl.getD k9 0) from if_pos hk]
            refine vv_istore (pc := 5) x dd_Mo_equal_5 (by decide) (ls2 := [_, _, _, _, _, _, none, none, none, none, none, none]) rfl ?_
            refine vv_aload_n (pc := 7) x dd_Mo_equal_7 rfl ?_
            refine vv_iload_n (pc := 8) x dd_Mo_equal_8 rfl ?_
            refine lv_Mo_120 (pc := 9) G x dd_Mo_equal_9 (R_place G h hZ.2.2.1 hnm k2 hk2) R.2.2 ⟨by decide, by decide⟩ (by decide) (by decide) (Nat.le_of_ble_eq_true rfl) (fun v9 M9 q9 => ?_)
            obtain ⟨rfl, hm9⟩ := q9
            have hm9 := hm9.symm
            subst hm9
            rw [show (if k2 < Z.1.length then nI (pl.getD k2 0) else (-1 : Int32)) = nI (pl.getD k2 0) from if_pos hq2]
            refine vv_istore (pc := 12) x dd_Mo_equal_12 (by decide) (ls2 := [_, _, _, _, _, _, _, none, none, none, none, none]) rfl ?_
            refine vv_aload_n (pc := 14) x dd_Mo_equal_14 rfl ?_
            refine vv_iload (pc := 15) x dd_Mo_equal_15 rfl ?_
            refine vv_if_lt (pc := 17) x dd_Mo_equal_17 (tgt := 42) (by decide) (fun h17 => absurd h17 (nI_pos (by omega))) (fun h17 => ?_)
            refine vv_aload_n (pc := 20) x dd_Mo_equal_20 rfl ?_
            refine vv_iload_n (pc := 21) x dd_Mo_equal_21 rfl ?_
            refine lv_Mo_123 (pc := 22) G x dd_Mo_equal_22 (k_rnoReg G) R.2.2 ⟨by decide, by decide⟩ (by decide) (by decide) (Nat.le_of_ble_eq_true rfl) (fun v22 M22 q22 => ?_)
            obtain ⟨rfl, hm22⟩ := q22
            have hm22 := hm22.symm
            subst hm22
            rw [show (if ¬ rv < 0 ∧ rv < 4 then (0 : Int32) else 1) = 0 from if_pos hr]
            refine vv_if_ne (pc := 25) x dd_Mo_equal_25 (tgt := 42) (by decide) (fun h25 => absurd h25 (fun z => z rfl)) (fun h25 => ?_)
            refine vv_iload (pc := 28) x dd_Mo_equal_28 rfl ?_
            refine vv_if_lt (pc := 30) x dd_Mo_equal_30 (tgt := 42) (by decide) (fun h30 => absurd h30 (nI_pos (by omega))) (fun h30 => ?_)
            refine vv_aload_n (pc := 33) x dd_Mo_equal_33 rfl ?_
            refine vv_iload (pc := 34) x dd_Mo_equal_34 rfl ?_
            refine lv_Mo_123 (pc := 36) G x dd_Mo_equal_36 (k_rnoReg G) R.2.2 ⟨by decide, by decide⟩ (by decide) (by decide) (Nat.le_of_ble_eq_true rfl) (fun v36 M36 q36 => ?_)
            obtain ⟨rfl, hm36⟩ := q36
            have hm36 := hm36.symm
            subst hm36
            rw [show (if ¬ sv < 0 ∧ sv < 4 then (0 : Int32) else 1) = 0 from if_pos hs]
            refine vv_if_eq (pc := 39) x dd_Mo_equal_39 (tgt := 46) (by decide) (fun h39 => ?_) (fun h39 => absurd h39 (fun z => z rfl))
            refine vv_iconst (pc := 46) x dd_Mo_equal_46 (0) (by decide) ?_
            refine lp_Mo_62 (pc := 47) G x dd_Mo_equal_47 R.2.2 ?_
            have F_N0 : rx RI9 RA mo M (mi M mo 0 0) := rx_mi.mono (by decide) (by simp)
            have t_N0 : ri (mi M mo 0 0) mo 0 = 0 := ri_mi
            have h_N0 : MI pw D ow sl (mi M mo 0 0) mo pl Z := MI_scr h (rx_mi.mono (by decide) (by simp))
            rw [show mm_si M 7 0 mo 0 = mi M mo 0 0 from rfl]
            generalize mi M mo 0 0 = N0 at *
            have R_N0 := h_N0.1
            refine vv_aload_n (pc := 50) x dd_Mo_equal_50 rfl ?_
            refine lg_Mo_62 (pc := 51) G x dd_Mo_equal_51 R_N0.2.2 ?_
            rw [show mm_i N0 7 0 mo = 0 from t_N0]
            refine vv_if_eq (pc := 54) x dd_Mo_equal_54 (tgt := 59) (by decide) (fun h54 => ?_) (fun h54 => absurd h54 (fun z => z rfl))
            refine vv_iconst (pc := 59) x dd_Mo_equal_59 (0) (by decide) ?_
            refine vv_istore (pc := 60) x dd_Mo_equal_60 (by decide) (ls2 := [_, _, _, _, _, _, _, _, none, none, none, none]) rfl ?_
            refine vv_iconst (pc := 62) x dd_Mo_equal_62 (1) (by decide) ?_
            refine vv_istore (pc := 63) x dd_Mo_equal_63 (by decide) (ls2 := [_, _, _, _, _, _, _, _, _, none, none, none]) rfl ?_
            refine vv_aload_n (pc := 65) x dd_Mo_equal_65 rfl ?_
            refine lg_Mo_19 (pc := 66) G x dd_Mo_equal_66 R_N0.2.2 (R_N0.r 8 (by decide)) ?_
            refine vv_iconst (pc := 69) x dd_Mo_equal_69 (4) (by decide) ?_
            refine vv_iload (pc := 70) x dd_Mo_equal_70 rfl ?_
            refine vv_imul (pc := 72) x dd_Mo_equal_72 ?_
            refine vv_iload_n (pc := 73) x dd_Mo_equal_73 rfl ?_
            refine vv_iadd (pc := 74) x dd_Mo_equal_74 ?_
            rw [show (4 : Int32) * nI (pl.getD k9 0) + rv = nI (4 * pl.getD k9 0 + j9) from by rw [ej_j9]; exact ix4]
            refine vv_iald (pc := 75) x dd_Mo_equal_75 (R_N0.t 8 (by decide)) (in_n (N := 32) (by omega) (R_N0.n 8 (by decide)) (by decide)) ?_
            rw [nI_clamp (n := 4 * pl.getD k9 0 + j9) (by omega), show mm_a N0 (mm_f N0 7 8 mo) (4 * pl.getD k9 0 + j9) = x0 from by rw [gx]; exact (h_N0.2.2.2.1 k9 hk).2.1 j9 hj_j9]
            refine vv_istore (pc := 76) x dd_Mo_equal_76 (by decide) (ls2 := [_, _, _, _, _, _, _, _, _, _, none, none]) rfl ?_
            refine vv_aload_n (pc := 78) x dd_Mo_equal_78 rfl ?_
            refine lg_Mo_19 (pc := 79) G x dd_Mo_equal_79 R_N0.2.2 (R_N0.r 8 (by decide)) ?_
            refine vv_iconst (pc := 82) x dd_Mo_equal_82 (4) (by decide) ?_
            refine vv_iload (pc := 83) x dd_Mo_equal_83 rfl ?_
            refine vv_imul (pc := 85) x dd_Mo_equal_85 ?_
            refine vv_iload (pc := 86) x dd_Mo_equal_86 rfl ?_
            refine vv_iadd (pc := 88) x dd_Mo_equal_88 ?_
            rw [show (4 : Int32) * nI (pl.getD k2 0) + sv = nI (4 * pl.getD k2 0 + js) from by rw [ej2]; exact ix4]
            refine vv_iald (pc := 89) x dd_Mo_equal_89 (R_N0.t 8 (by decide)) (in_n (N := 32) (by omega) (R_N0.n 8 (by decide)) (by decide)) ?_
            rw [nI_clamp (n := 4 * pl.getD k2 0 + js) (by omega), show mm_a N0 (mm_f N0 7 8 mo) (4 * pl.getD k2 0 + js) = y0 from by rw [gy]; exact (h_N0.2.2.2.1 k2 hq2).2.1 js hj2]
            refine vv_istore (pc := 90) x dd_Mo_equal_90 (by decide) (ls2 := [_, _, _, _, _, _, _, _, _, _, _, none]) rfl ?_
            refine vv_aload_n (pc := 92) x dd_Mo_equal_92 rfl ?_
            refine vv_iload (pc := 93) x dd_Mo_equal_93 rfl ?_
            refine vv_iload (pc := 95) x dd_Mo_equal_95 rfl ?_
            refine vv_iload (pc := 97) x dd_Mo_equal_97 rfl ?_
            refine vv_iload (pc := 99) x dd_Mo_equal_99 rfl ?_
            refine lv_Mo_148 (pc := 101) G x dd_Mo_equal_101 (R_alike G R_N0 HB HC hp8 hp82 (by rw [← hB]; exact (h_N0.2.2.2.1 k9 hk).2.2.2.1) (by rw [← hC9]; exact (h_N0.2.2.2.1 k2 hq2).2.2.2.1) hvt1 hvt2) R_N0.2.2 ⟨by decide, by decide⟩ (by decide) (by decide) (Nat.le_of_ble_eq_true rfl) (fun v101 M101 q101 => ?_)
            obtain ⟨rfl, hm101⟩ := q101
            have hm101 := hm101.symm
            subst hm101
            rw [show (if alk B C9 x0 y0 = true then (1 : Int32) else 0) = 1 from if_pos hal]
            refine vv_istore (pc := 104) x dd_Mo_equal_104 (by decide) (ls2 := [_, _, _, _, _, _, _, _, _, _, _, _]) rfl ?_
            refine vv_aload_n (pc := 106) x dd_Mo_equal_106 rfl ?_
            refine lg_Mo_49 (pc := 107) G x dd_Mo_equal_107 R_N0.2.2 (R_N0.r 20 (by decide)) ?_
            refine vv_iconst (pc := 110) x dd_Mo_equal_110 (0) (by decide) ?_
            refine vv_iload (pc := 111) x dd_Mo_equal_111 rfl ?_
            refine vv_iast (pc := 113) x dd_Mo_equal_113 (R_N0.t 20 (by decide)) (in_n (i := 0) (N := 320) (by decide) (R_N0.n 20 (by decide)) (by decide)) ?_
            rw [show Int32.toNatClampNeg 0 = 0 from by decide, show mm_sa N0 (mm_f N0 7 20 mo) (upd (mm_a N0 (mm_f N0 7 20 mo)) 0 x0) = mw N0 mo 20 (upd (ra N0 mo 20) 0 x0) from rfl]
            have FB : rx [] [20] mo N0 (mw N0 mo 20 (upd (ra N0 mo 20) 0 x0)) := rx_mw
            have wB : ra (mw N0 mo 20 (upd (ra N0 mo 20) 0 x0)) mo 20 = upd (ra N0 mo 20) 0 x0 := ra_mw
            generalize mw N0 mo 20 (upd (ra N0 mo 20) 0 x0) = N2 at *
            have R_2 := FB.to R_N0
            refine vv_aload_n (pc := 114) x dd_Mo_equal_114 rfl ?_
            refine lg_Mo_52 (pc := 115) G x dd_Mo_equal_115 R_2.2.2 (R_2.r 21 (by decide)) ?_
            refine vv_iconst (pc := 118) x dd_Mo_equal_118 (0) (by decide) ?_
            refine vv_iload (pc := 119) x dd_Mo_equal_119 rfl ?_
            refine vv_iast (pc := 121) x dd_Mo_equal_121 (R_2.t 21 (by decide)) (in_n (i := 0) (N := 320) (by decide) (R_2.n 21 (by decide)) (by decide)) ?_
            rw [show Int32.toNatClampNeg 0 = 0 from by decide, show mm_sa N2 (mm_f N2 7 21 mo) (upd (mm_a N2 (mm_f N2 7 21 mo)) 0 y0) = mw N2 mo 21 (upd (ra N2 mo 21) 0 y0) from rfl]
            have FC : rx [] [21] mo N2 (mw N2 mo 21 (upd (ra N2 mo 21) 0 y0)) := rx_mw
            have wC : ra (mw N2 mo 21 (upd (ra N2 mo 21) 0 y0)) mo 21 = upd (ra N2 mo 21) 0 y0 := ra_mw
            generalize mw N2 mo 21 (upd (ra N2 mo 21) 0 y0) = N3 at *
            have R_3 := FC.to R_2
            refine vv_aload_n (pc := 122) x dd_Mo_equal_122 rfl ?_
            refine lg_Mo_55 (pc := 123) G x dd_Mo_equal_123 R_3.2.2 (R_3.r 22 (by decide)) ?_
            refine vv_iconst (pc := 126) x dd_Mo_equal_126 (0) (by decide) ?_
            refine vv_iconst (pc := 127) x dd_Mo_equal_127 (0) (by decide) ?_
            refine vv_iast (pc := 128) x dd_Mo_equal_128 (R_3.t 22 (by decide)) (in_n (i := 0) (N := 320) (by decide) (R_3.n 22 (by decide)) (by decide)) ?_
            rw [show Int32.toNatClampNeg 0 = 0 from by decide, show mm_sa N3 (mm_f N3 7 22 mo) (upd (mm_a N3 (mm_f N3 7 22 mo)) 0 0) = mw N3 mo 22 (upd (ra N3 mo 22) 0 0) from rfl]
            have FD : rx [] [22] mo N3 (mw N3 mo 22 (upd (ra N3 mo 22) 0 0)) := rx_mw
            have wD : ra (mw N3 mo 22 (upd (ra N3 mo 22) 0 0)) mo 22 = upd (ra N3 mo 22) 0 0 := ra_mw
            generalize mw N3 mo 22 (upd (ra N3 mo 22) 0 0) = N4 at *
            have F14 : rx [0, 16] [17, 18, 19, 20, 21, 22] mo N0 N4 := ((FB.mono (by simp) (by decide)).trans (FC.mono (by simp) (by decide))).trans (FD.mono (by simp) (by decide))
            have h4 := MI_scr h_N0 F14
            have t4 : ri N4 mo 0 = 0 := by rw [FD.i (by simp), FC.i (by simp), FB.i (by simp)]; exact t_N0
            have F04 : rx RI9 RA mo M N4 := F_N0.trans (F14.mono (by decide) (by decide))
            have v20 : ra N4 mo 20 0 = x0 := by rw [FD.a R_3 (by decide) (by decide) (by decide), FC.a R_2 (by decide) (by decide) (by decide), wB, upd_eq rfl]
            have v21 : ra N4 mo 21 0 = y0 := by rw [FD.a R_3 (by decide) (by decide) (by decide), wC, upd_eq rfl]
            have v22 : ra N4 mo 22 0 = 0 := by rw [wD, upd_eq rfl]
            have h0 := hlp 4010 [(x0, y0, 0)] 1 x0 y0 N4 (by simp) (by decide) (by decide) h4 F04 t4 ⟨⟨v20, v21, v22⟩, True.intro⟩ ⟨⟨hvt1, hvt2, Nat.zero_le _, alk_pts HB HC hal hvt1 hvt2, Nat.zero_le _⟩, True.intro⟩ (by simp) hRc
            rw [show nI ([(x0, y0, 0)] : List (Int32 × Int32 × Nat)).length - 1 = 0 from (show nI 1 - 1 = 0 by decide)] at h0
            exact h0
          · rw [if_neg hal] at hRc
            have eR : ¬ Rs.1 = true := by rw [← hRc]; simp
            refine vv_aload_n (pc := 0) x dd_Mo_equal_0 rfl ?_
            refine vv_iload_n (pc := 1) x dd_Mo_equal_1 rfl ?_
            refine lv_Mo_120 (pc := 2) G x dd_Mo_equal_2 (R_place G h hZ.2.2.1 hnm k9 hk9) R.2.2 ⟨by decide, by decide⟩ (by decide) (by decide) (Nat.le_of_ble_eq_true rfl) (fun v2 M2 q2 => ?_)
            obtain ⟨rfl, hm2⟩ := q2
            have hm2 := hm2.symm
            subst hm2
            rw [show (if k9 < Z.1.length then nI (pl.getD k9 0) else (-1 : Int32)) = nI (pl.getD k9 0) from if_pos hk]
            refine vv_istore (pc := 5) x dd_Mo_equal_5 (by decide) (ls2 := [_, _, _, _, _, _, none, none, none, none, none, none]) rfl ?_
            refine vv_aload_n (pc := 7) x dd_Mo_equal_7 rfl ?_
            refine vv_iload_n (pc := 8) x dd_Mo_equal_8 rfl ?_
            refine lv_Mo_120 (pc := 9) G x dd_Mo_equal_9 (R_place G h hZ.2.2.1 hnm k2 hk2) R.2.2 ⟨by decide, by decide⟩ (by decide) (by decide) (Nat.le_of_ble_eq_true rfl) (fun v9 M9 q9 => ?_)
            obtain ⟨rfl, hm9⟩ := q9
            have hm9 := hm9.symm
            subst hm9
            rw [show (if k2 < Z.1.length then nI (pl.getD k2 0) else (-1 : Int32)) = nI (pl.getD k2 0) from if_pos hq2]
            refine vv_istore (pc := 12) x dd_Mo_equal_12 (by decide) (ls2 := [_, _, _, _, _, _, _, none, none, none, none, none]) rfl ?_
            refine vv_aload_n (pc := 14) x dd_Mo_equal_14 rfl ?_
            refine vv_iload (pc := 15) x dd_Mo_equal_15 rfl ?_
            refine vv_if_lt (pc := 17) x dd_Mo_equal_17 (tgt := 42) (by decide) (fun h17 => absurd h17 (nI_pos (by omega))) (fun h17 => ?_)
            refine vv_aload_n (pc := 20) x dd_Mo_equal_20 rfl ?_
            refine vv_iload_n (pc := 21) x dd_Mo_equal_21 rfl ?_
            refine lv_Mo_123 (pc := 22) G x dd_Mo_equal_22 (k_rnoReg G) R.2.2 ⟨by decide, by decide⟩ (by decide) (by decide) (Nat.le_of_ble_eq_true rfl) (fun v22 M22 q22 => ?_)
            obtain ⟨rfl, hm22⟩ := q22
            have hm22 := hm22.symm
            subst hm22
            rw [show (if ¬ rv < 0 ∧ rv < 4 then (0 : Int32) else 1) = 0 from if_pos hr]
            refine vv_if_ne (pc := 25) x dd_Mo_equal_25 (tgt := 42) (by decide) (fun h25 => absurd h25 (fun z => z rfl)) (fun h25 => ?_)
            refine vv_iload (pc := 28) x dd_Mo_equal_28 rfl ?_
            refine vv_if_lt (pc := 30) x dd_Mo_equal_30 (tgt := 42) (by decide) (fun h30 => absurd h30 (nI_pos (by omega))) (fun h30 => ?_)
            refine vv_aload_n (pc := 33) x dd_Mo_equal_33 rfl ?_
            refine vv_iload (pc := 34) x dd_Mo_equal_34 rfl ?_
            refine lv_Mo_123 (pc := 36) G x dd_Mo_equal_36 (k_rnoReg G) R.2.2 ⟨by decide, by decide⟩ (by decide) (by decide) (Nat.le_of_ble_eq_true rfl) (fun v36 M36 q36 => ?_)
            obtain ⟨rfl, hm36⟩ := q36
            have hm36 := hm36.symm
            subst hm36
            rw [show (if ¬ sv < 0 ∧ sv < 4 then (0 : Int32) else 1) = 0 from if_pos hs]
            refine vv_if_eq (pc := 39) x dd_Mo_equal_39 (tgt := 46) (by decide) (fun h39 => ?_) (fun h39 => absurd h39 (fun z => z rfl))
            refine vv_iconst (pc := 46) x dd_Mo_equal_46 (0) (by decide) ?_
            refine lp_Mo_62 (pc := 47) G x dd_Mo_equal_47 R.2.2 ?_
            have F_N0 : rx RI9 RA mo M (mi M mo 0 0) := rx_mi.mono (by decide) (by simp)
            have t_N0 : ri (mi M mo 0 0) mo 0 = 0 := ri_mi
            have h_N0 : MI pw D ow sl (mi M mo 0 0) mo pl Z := MI_scr h (rx_mi.mono (by decide) (by simp))
            rw [show mm_si M 7 0 mo 0 = mi M mo 0 0 from rfl]
            generalize mi M mo 0 0 = N0 at *
            have R_N0 := h_N0.1
            refine vv_aload_n (pc := 50) x dd_Mo_equal_50 rfl ?_
            refine lg_Mo_62 (pc := 51) G x dd_Mo_equal_51 R_N0.2.2 ?_
            rw [show mm_i N0 7 0 mo = 0 from t_N0]
            refine vv_if_eq (pc := 54) x dd_Mo_equal_54 (tgt := 59) (by decide) (fun h54 => ?_) (fun h54 => absurd h54 (fun z => z rfl))
            refine vv_iconst (pc := 59) x dd_Mo_equal_59 (0) (by decide) ?_
            refine vv_istore (pc := 60) x dd_Mo_equal_60 (by decide) (ls2 := [_, _, _, _, _, _, _, _, none, none, none, none]) rfl ?_
            refine vv_iconst (pc := 62) x dd_Mo_equal_62 (1) (by decide) ?_
            refine vv_istore (pc := 63) x dd_Mo_equal_63 (by decide) (ls2 := [_, _, _, _, _, _, _, _, _, none, none, none]) rfl ?_
            refine vv_aload_n (pc := 65) x dd_Mo_equal_65 rfl ?_
            refine lg_Mo_19 (pc := 66) G x dd_Mo_equal_66 R_N0.2.2 (R_N0.r 8 (by decide)) ?_
            refine vv_iconst (pc := 69) x dd_Mo_equal_69 (4) (by decide) ?_
            refine vv_iload (pc := 70) x dd_Mo_equal_70 rfl ?_
            refine vv_imul (pc := 72) x dd_Mo_equal_72 ?_
            refine vv_iload_n (pc := 73) x dd_Mo_equal_73 rfl ?_
            refine vv_iadd (pc := 74) x dd_Mo_equal_74 ?_
            rw [show (4 : Int32) * nI (pl.getD k9 0) + rv = nI (4 * pl.getD k9 0 + j9) from by rw [ej_j9]; exact ix4]
            refine vv_iald (pc := 75) x dd_Mo_equal_75 (R_N0.t 8 (by decide)) (in_n (N := 32) (by omega) (R_N0.n 8 (by decide)) (by decide)) ?_
            rw [nI_clamp (n := 4 * pl.getD k9 0 + j9) (by omega), show mm_a N0 (mm_f N0 7 8 mo) (4 * pl.getD k9 0 + j9) = x0 from by rw [gx]; exact (h_N0.2.2.2.1 k9 hk).2.1 j9 hj_j9]
            refine vv_istore (pc := 76) x dd_Mo_equal_76 (by decide) (ls2 := [_, _, _, _, _, _, _, _, _, _, none, none]) rfl ?_
            refine vv_aload_n (pc := 78) x dd_Mo_equal_78 rfl ?_
            refine lg_Mo_19 (pc := 79) G x dd_Mo_equal_79 R_N0.2.2 (R_N0.r 8 (by decide)) ?_
            refine vv_iconst (pc := 82) x dd_Mo_equal_82 (4) (by decide) ?_
            refine vv_iload (pc := 83) x dd_Mo_equal_83 rfl ?_
            refine vv_imul (pc := 85) x dd_Mo_equal_85 ?_
            refine vv_iload (pc := 86) x dd_Mo_equal_86 rfl ?_
            refine vv_iadd (pc := 88) x dd_Mo_equal_88 ?_
            rw [show (4 : Int32) * nI (pl.getD k2 0) + sv = nI (4 * pl.getD k2 0 + js) from by rw [ej2]; exact ix4]
            refine vv_iald (pc := 89) x dd_Mo_equal_89 (R_N0.t 8 (by decide)) (in_n (N := 32) (by omega) (R_N0.n 8 (by decide)) (by decide)) ?_
            rw [nI_clamp (n := 4 * pl.getD k2 0 + js) (by omega), show mm_a N0 (mm_f N0 7 8 mo) (4 * pl.getD k2 0 + js) = y0 from by rw [gy]; exact (h_N0.2.2.2.1 k2 hq2).2.1 js hj2]
            refine vv_istore (pc := 90) x dd_Mo_equal_90 (by decide) (ls2 := [_, _, _, _, _, _, _, _, _, _, _, none]) rfl ?_
            refine vv_aload_n (pc := 92) x dd_Mo_equal_92 rfl ?_
            refine vv_iload (pc := 93) x dd_Mo_equal_93 rfl ?_
            refine vv_iload (pc := 95) x dd_Mo_equal_95 rfl ?_
            refine vv_iload (pc := 97) x dd_Mo_equal_97 rfl ?_
            refine vv_iload (pc := 99) x dd_Mo_equal_99 rfl ?_
            refine lv_Mo_148 (pc := 101) G x dd_Mo_equal_101 (R_alike G R_N0 HB HC hp8 hp82 (by rw [← hB]; exact (h_N0.2.2.2.1 k9 hk).2.2.2.1) (by rw [← hC9]; exact (h_N0.2.2.2.1 k2 hq2).2.2.2.1) hvt1 hvt2) R_N0.2.2 ⟨by decide, by decide⟩ (by decide) (by decide) (Nat.le_of_ble_eq_true rfl) (fun v101 M101 q101 => ?_)
            obtain ⟨rfl, hm101⟩ := q101
            have hm101 := hm101.symm
            subst hm101
            rw [show (if alk B C9 x0 y0 = true then (1 : Int32) else 0) = 0 from if_neg hal]
            refine vv_istore (pc := 104) x dd_Mo_equal_104 (by decide) (ls2 := [_, _, _, _, _, _, _, _, _, _, _, _]) rfl ?_
            refine vv_aload_n (pc := 106) x dd_Mo_equal_106 rfl ?_
            refine lg_Mo_49 (pc := 107) G x dd_Mo_equal_107 R_N0.2.2 (R_N0.r 20 (by decide)) ?_
            refine vv_iconst (pc := 110) x dd_Mo_equal_110 (0) (by decide) ?_
            refine vv_iload (pc := 111) x dd_Mo_equal_111 rfl ?_
            refine vv_iast (pc := 113) x dd_Mo_equal_113 (R_N0.t 20 (by decide)) (in_n (i := 0) (N := 320) (by decide) (R_N0.n 20 (by decide)) (by decide)) ?_
            rw [show Int32.toNatClampNeg 0 = 0 from by decide, show mm_sa N0 (mm_f N0 7 20 mo) (upd (mm_a N0 (mm_f N0 7 20 mo)) 0 x0) = mw N0 mo 20 (upd (ra N0 mo 20) 0 x0) from rfl]
            have FB : rx [] [20] mo N0 (mw N0 mo 20 (upd (ra N0 mo 20) 0 x0)) := rx_mw
            have wB : ra (mw N0 mo 20 (upd (ra N0 mo 20) 0 x0)) mo 20 = upd (ra N0 mo 20) 0 x0 := ra_mw
            generalize mw N0 mo 20 (upd (ra N0 mo 20) 0 x0) = N2 at *
            have R_2 := FB.to R_N0
            refine vv_aload_n (pc := 114) x dd_Mo_equal_114 rfl ?_
            refine lg_Mo_52 (pc := 115) G x dd_Mo_equal_115 R_2.2.2 (R_2.r 21 (by decide)) ?_
            refine vv_iconst (pc := 118) x dd_Mo_equal_118 (0) (by decide) ?_
            refine vv_iload (pc := 119) x dd_Mo_equal_119 rfl ?_
            refine vv_iast (pc := 121) x dd_Mo_equal_121 (R_2.t 21 (by decide)) (in_n (i := 0) (N := 320) (by decide) (R_2.n 21 (by decide)) (by decide)) ?_
            rw [show Int32.toNatClampNeg 0 = 0 from by decide, show mm_sa N2 (mm_f N2 7 21 mo) (upd (mm_a N2 (mm_f N2 7 21 mo)) 0 y0) = mw N2 mo 21 (upd (ra N2 mo 21) 0 y0) from rfl]
            have FC : rx [] [21] mo N2 (mw N2 mo 21 (upd (ra N2 mo 21) 0 y0)) := rx_mw
            have wC : ra (mw N2 mo 21 (upd (ra N2 mo 21) 0 y0)) mo 21 = upd (ra N2 mo 21) 0 y0 := ra_mw
            generalize mw N2 mo 21 (upd (ra N2 mo 21) 0 y0) = N3 at *
            have R_3 := FC.to R_2
            refine vv_aload_n (pc := 122) x dd_Mo_equal_122 rfl ?_
            refine lg_Mo_55 (pc := 123) G x dd_Mo_equal_123 R_3.2.2 (R_3.r 22 (by decide)) ?_
            refine vv_iconst (pc := 126) x dd_Mo_equal_126 (0) (by decide) ?_
            refine vv_iconst (pc := 127) x dd_Mo_equal_127 (0) (by decide) ?_
            refine vv_iast (pc := 128) x dd_Mo_equal_128 (R_3.t 22 (by decide)) (in_n (i := 0) (N := 320) (by decide) (R_3.n 22 (by decide)) (by decide)) ?_
            rw [show Int32.toNatClampNeg 0 = 0 from by decide, show mm_sa N3 (mm_f N3 7 22 mo) (upd (mm_a N3 (mm_f N3 7 22 mo)) 0 0) = mw N3 mo 22 (upd (ra N3 mo 22) 0 0) from rfl]
            have FD : rx [] [22] mo N3 (mw N3 mo 22 (upd (ra N3 mo 22) 0 0)) := rx_mw
            have wD : ra (mw N3 mo 22 (upd (ra N3 mo 22) 0 0)) mo 22 = upd (ra N3 mo 22) 0 0 := ra_mw
            generalize mw N3 mo 22 (upd (ra N3 mo 22) 0 0) = N4 at *
            have F14 : rx [0, 16] [17, 18, 19, 20, 21, 22] mo N0 N4 := ((FB.mono (by simp) (by decide)).trans (FC.mono (by simp) (by decide))).trans (FD.mono (by simp) (by decide))
            have h4 := MI_scr h_N0 F14
            have t4 : ri N4 mo 0 = 0 := by rw [FD.i (by simp), FC.i (by simp), FB.i (by simp)]; exact t_N0
            have F04 : rx RI9 RA mo M N4 := F_N0.trans (F14.mono (by decide) (by decide))
            have v20 : ra N4 mo 20 0 = x0 := by rw [FD.a R_3 (by decide) (by decide) (by decide), FC.a R_2 (by decide) (by decide) (by decide), wB, upd_eq rfl]
            have v21 : ra N4 mo 21 0 = y0 := by rw [FD.a R_3 (by decide) (by decide) (by decide), wC, upd_eq rfl]
            have v22 : ra N4 mo 22 0 = 0 := by rw [wD, upd_eq rfl]
            refine vv_iload (pc := 129) x dd_Mo_equal_129 rfl ?_
            refine vv_if_eq (pc := 131) x dd_Mo_equal_131 (tgt := 287) (by decide) (fun h131 => ?_) (fun h131 => absurd h131 (fun z => z rfl))
            refine vv_iload (pc := 287) x dd_Mo_equal_287 rfl ?_
            exact vv_zret (pc := 289) x dd_Mo_equal_289 rfl (Or.inl rfl) (by decide) (by decide) ⟨F04, Or.inl ⟨⟨⟨hk, hr⟩, hq2, hs⟩, fun z => absurd z eR, by rw [if_neg eR], t4, h4⟩⟩
        · refine vv_aload_n (pc := 0) x dd_Mo_equal_0 rfl ?_
          refine vv_iload_n (pc := 1) x dd_Mo_equal_1 rfl ?_
          refine lv_Mo_120 (pc := 2) G x dd_Mo_equal_2 (R_place G h hZ.2.2.1 hnm k9 hk9) R.2.2 ⟨by decide, by decide⟩ (by decide) (by decide) (Nat.le_of_ble_eq_true rfl) (fun v2 M2 q2 => ?_)
          obtain ⟨rfl, hm2⟩ := q2
          have hm2 := hm2.symm
          subst hm2
          rw [show (if k9 < Z.1.length then nI (pl.getD k9 0) else (-1 : Int32)) = nI (pl.getD k9 0) from if_pos hk]
          refine vv_istore (pc := 5) x dd_Mo_equal_5 (by decide) (ls2 := [_, _, _, _, _, _, none, none, none, none, none, none]) rfl ?_
          refine vv_aload_n (pc := 7) x dd_Mo_equal_7 rfl ?_
          refine vv_iload_n (pc := 8) x dd_Mo_equal_8 rfl ?_
          refine lv_Mo_120 (pc := 9) G x dd_Mo_equal_9 (R_place G h hZ.2.2.1 hnm k2 hk2) R.2.2 ⟨by decide, by decide⟩ (by decide) (by decide) (Nat.le_of_ble_eq_true rfl) (fun v9 M9 q9 => ?_)
          obtain ⟨rfl, hm9⟩ := q9
          have hm9 := hm9.symm
          subst hm9
          rw [show (if k2 < Z.1.length then nI (pl.getD k2 0) else (-1 : Int32)) = nI (pl.getD k2 0) from if_pos hq2]
          refine vv_istore (pc := 12) x dd_Mo_equal_12 (by decide) (ls2 := [_, _, _, _, _, _, _, none, none, none, none, none]) rfl ?_
          refine vv_aload_n (pc := 14) x dd_Mo_equal_14 rfl ?_
          refine vv_iload (pc := 15) x dd_Mo_equal_15 rfl ?_
          refine vv_if_lt (pc := 17) x dd_Mo_equal_17 (tgt := 42) (by decide) (fun h17 => absurd h17 (nI_pos (by omega))) (fun h17 => ?_)
          refine vv_aload_n (pc := 20) x dd_Mo_equal_20 rfl ?_
          refine vv_iload_n (pc := 21) x dd_Mo_equal_21 rfl ?_
          refine lv_Mo_123 (pc := 22) G x dd_Mo_equal_22 (k_rnoReg G) R.2.2 ⟨by decide, by decide⟩ (by decide) (by decide) (Nat.le_of_ble_eq_true rfl) (fun v22 M22 q22 => ?_)
          obtain ⟨rfl, hm22⟩ := q22
          have hm22 := hm22.symm
          subst hm22
          rw [show (if ¬ rv < 0 ∧ rv < 4 then (0 : Int32) else 1) = 0 from if_pos hr]
          refine vv_if_ne (pc := 25) x dd_Mo_equal_25 (tgt := 42) (by decide) (fun h25 => absurd h25 (fun z => z rfl)) (fun h25 => ?_)
          refine vv_iload (pc := 28) x dd_Mo_equal_28 rfl ?_
          refine vv_if_lt (pc := 30) x dd_Mo_equal_30 (tgt := 42) (by decide) (fun h30 => absurd h30 (nI_pos (by omega))) (fun h30 => ?_)
          refine vv_aload_n (pc := 33) x dd_Mo_equal_33 rfl ?_
          refine vv_iload (pc := 34) x dd_Mo_equal_34 rfl ?_
          refine lv_Mo_123 (pc := 36) G x dd_Mo_equal_36 (k_rnoReg G) R.2.2 ⟨by decide, by decide⟩ (by decide) (by decide) (Nat.le_of_ble_eq_true rfl) (fun v36 M36 q36 => ?_)
          obtain ⟨rfl, hm36⟩ := q36
          have hm36 := hm36.symm
          subst hm36
          rw [show (if ¬ sv < 0 ∧ sv < 4 then (0 : Int32) else 1) = 1 from if_neg hs]
          refine vv_if_eq (pc := 39) x dd_Mo_equal_39 (tgt := 46) (by decide) (fun h39 => absurd h39 (by decide)) (fun h39 => ?_)
          refine vv_iconst (pc := 42) x dd_Mo_equal_42 (1) (by decide) ?_
          refine vv_goto (pc := 43) x dd_Mo_equal_43 (tgt := 47) (by decide) ?_
          refine lp_Mo_62 (pc := 47) G x dd_Mo_equal_47 R.2.2 ?_
          have F_N0 : rx RI9 RA mo M (mi M mo 0 1) := rx_mi.mono (by decide) (by simp)
          have t_N0 : ri (mi M mo 0 1) mo 0 = 1 := ri_mi
          have h_N0 : MI pw D ow sl (mi M mo 0 1) mo pl Z := MI_scr h (rx_mi.mono (by decide) (by simp))
          rw [show mm_si M 7 0 mo 1 = mi M mo 0 1 from rfl]
          generalize mi M mo 0 1 = N0 at *
          have R_N0 := h_N0.1
          refine vv_aload_n (pc := 50) x dd_Mo_equal_50 rfl ?_
          refine lg_Mo_62 (pc := 51) G x dd_Mo_equal_51 R_N0.2.2 ?_
          rw [show mm_i N0 7 0 mo = 1 from t_N0]
          refine vv_if_eq (pc := 54) x dd_Mo_equal_54 (tgt := 59) (by decide) (fun h54 => absurd h54 (by decide)) (fun h54 => ?_)
          refine vv_iconst (pc := 57) x dd_Mo_equal_57 (0) (by decide) ?_
          exact vv_zret (pc := 58) x dd_Mo_equal_58 rfl (Or.inl rfl) (by decide) (by decide) ⟨F_N0, Or.inr (Or.inl ⟨(fun z => by first | exact hk z.1.1 | exact hr z.1.2 | exact hq2 z.2.1 | exact hs z.2.2), ⟨_, rfl⟩, t_N0, h_N0⟩)⟩
      · refine vv_aload_n (pc := 0) x dd_Mo_equal_0 rfl ?_
        refine vv_iload_n (pc := 1) x dd_Mo_equal_1 rfl ?_
        refine lv_Mo_120 (pc := 2) G x dd_Mo_equal_2 (R_place G h hZ.2.2.1 hnm k9 hk9) R.2.2 ⟨by decide, by decide⟩ (by decide) (by decide) (Nat.le_of_ble_eq_true rfl) (fun v2 M2 q2 => ?_)
        obtain ⟨rfl, hm2⟩ := q2
        have hm2 := hm2.symm
        subst hm2
        rw [show (if k9 < Z.1.length then nI (pl.getD k9 0) else (-1 : Int32)) = nI (pl.getD k9 0) from if_pos hk]
        refine vv_istore (pc := 5) x dd_Mo_equal_5 (by decide) (ls2 := [_, _, _, _, _, _, none, none, none, none, none, none]) rfl ?_
        refine vv_aload_n (pc := 7) x dd_Mo_equal_7 rfl ?_
        refine vv_iload_n (pc := 8) x dd_Mo_equal_8 rfl ?_
        refine lv_Mo_120 (pc := 9) G x dd_Mo_equal_9 (R_place G h hZ.2.2.1 hnm k2 hk2) R.2.2 ⟨by decide, by decide⟩ (by decide) (by decide) (Nat.le_of_ble_eq_true rfl) (fun v9 M9 q9 => ?_)
        obtain ⟨rfl, hm9⟩ := q9
        have hm9 := hm9.symm
        subst hm9
        rw [show (if k2 < Z.1.length then nI (pl.getD k2 0) else (-1 : Int32)) = -1 from if_neg hq2]
        refine vv_istore (pc := 12) x dd_Mo_equal_12 (by decide) (ls2 := [_, _, _, _, _, _, _, none, none, none, none, none]) rfl ?_
        refine vv_aload_n (pc := 14) x dd_Mo_equal_14 rfl ?_
        refine vv_iload (pc := 15) x dd_Mo_equal_15 rfl ?_
        refine vv_if_lt (pc := 17) x dd_Mo_equal_17 (tgt := 42) (by decide) (fun h17 => absurd h17 (nI_pos (by omega))) (fun h17 => ?_)
        refine vv_aload_n (pc := 20) x dd_Mo_equal_20 rfl ?_
        refine vv_iload_n (pc := 21) x dd_Mo_equal_21 rfl ?_
        refine lv_Mo_123 (pc := 22) G x dd_Mo_equal_22 (k_rnoReg G) R.2.2 ⟨by decide, by decide⟩ (by decide) (by decide) (Nat.le_of_ble_eq_true rfl) (fun v22 M22 q22 => ?_)
        obtain ⟨rfl, hm22⟩ := q22
        have hm22 := hm22.symm
        subst hm22
        rw [show (if ¬ rv < 0 ∧ rv < 4 then (0 : Int32) else 1) = 0 from if_pos hr]
        refine vv_if_ne (pc := 25) x dd_Mo_equal_25 (tgt := 42) (by decide) (fun h25 => absurd h25 (fun z => z rfl)) (fun h25 => ?_)
        refine vv_iload (pc := 28) x dd_Mo_equal_28 rfl ?_
        refine vv_if_lt (pc := 30) x dd_Mo_equal_30 (tgt := 42) (by decide) (fun h30 => ?_) (fun h30 => absurd h30 (fun z => z (by decide)))
        refine vv_iconst (pc := 42) x dd_Mo_equal_42 (1) (by decide) ?_
        refine vv_goto (pc := 43) x dd_Mo_equal_43 (tgt := 47) (by decide) ?_
        refine lp_Mo_62 (pc := 47) G x dd_Mo_equal_47 R.2.2 ?_
        have F_N0 : rx RI9 RA mo M (mi M mo 0 1) := rx_mi.mono (by decide) (by simp)
        have t_N0 : ri (mi M mo 0 1) mo 0 = 1 := ri_mi
        have h_N0 : MI pw D ow sl (mi M mo 0 1) mo pl Z := MI_scr h (rx_mi.mono (by decide) (by simp))
        rw [show mm_si M 7 0 mo 1 = mi M mo 0 1 from rfl]
        generalize mi M mo 0 1 = N0 at *
        have R_N0 := h_N0.1
        refine vv_aload_n (pc := 50) x dd_Mo_equal_50 rfl ?_
        refine lg_Mo_62 (pc := 51) G x dd_Mo_equal_51 R_N0.2.2 ?_
        rw [show mm_i N0 7 0 mo = 1 from t_N0]
        refine vv_if_eq (pc := 54) x dd_Mo_equal_54 (tgt := 59) (by decide) (fun h54 => absurd h54 (by decide)) (fun h54 => ?_)
        refine vv_iconst (pc := 57) x dd_Mo_equal_57 (0) (by decide) ?_
        exact vv_zret (pc := 58) x dd_Mo_equal_58 rfl (Or.inl rfl) (by decide) (by decide) ⟨F_N0, Or.inr (Or.inl ⟨(fun z => by first | exact hk z.1.1 | exact hr z.1.2 | exact hq2 z.2.1 | exact hs z.2.2), ⟨_, rfl⟩, t_N0, h_N0⟩)⟩
    · refine vv_aload_n (pc := 0) x dd_Mo_equal_0 rfl ?_
      refine vv_iload_n (pc := 1) x dd_Mo_equal_1 rfl ?_
      refine lv_Mo_120 (pc := 2) G x dd_Mo_equal_2 (R_place G h hZ.2.2.1 hnm k9 hk9) R.2.2 ⟨by decide, by decide⟩ (by decide) (by decide) (Nat.le_of_ble_eq_true rfl) (fun v2 M2 q2 => ?_)
      obtain ⟨rfl, hm2⟩ := q2
      have hm2 := hm2.symm
      subst hm2
      rw [show (if k9 < Z.1.length then nI (pl.getD k9 0) else (-1 : Int32)) = nI (pl.getD k9 0) from if_pos hk]
      refine vv_istore (pc := 5) x dd_Mo_equal_5 (by decide) (ls2 := [_, _, _, _, _, _, none, none, none, none, none, none]) rfl ?_
      refine vv_aload_n (pc := 7) x dd_Mo_equal_7 rfl ?_
      refine vv_iload_n (pc := 8) x dd_Mo_equal_8 rfl ?_
      refine lv_Mo_120 (pc := 9) G x dd_Mo_equal_9 (R_place G h hZ.2.2.1 hnm k2 hk2) R.2.2 ⟨by decide, by decide⟩ (by decide) (by decide) (Nat.le_of_ble_eq_true rfl) (fun v9 M9 q9 => ?_)
      obtain ⟨rfl, hm9⟩ := q9
      have hm9 := hm9.symm
      subst hm9
      refine vv_istore (pc := 12) x dd_Mo_equal_12 (by decide) (ls2 := [_, _, _, _, _, _, _, none, none, none, none, none]) rfl ?_
      refine vv_aload_n (pc := 14) x dd_Mo_equal_14 rfl ?_
      refine vv_iload (pc := 15) x dd_Mo_equal_15 rfl ?_
      refine vv_if_lt (pc := 17) x dd_Mo_equal_17 (tgt := 42) (by decide) (fun h17 => absurd h17 (nI_pos (by omega))) (fun h17 => ?_)
      refine vv_aload_n (pc := 20) x dd_Mo_equal_20 rfl ?_
      refine vv_iload_n (pc := 21) x dd_Mo_equal_21 rfl ?_
      refine lv_Mo_123 (pc := 22) G x dd_Mo_equal_22 (k_rnoReg G) R.2.2 ⟨by decide, by decide⟩ (by decide) (by decide) (Nat.le_of_ble_eq_true rfl) (fun v22 M22 q22 => ?_)
      obtain ⟨rfl, hm22⟩ := q22
      have hm22 := hm22.symm
      subst hm22
      rw [show (if ¬ rv < 0 ∧ rv < 4 then (0 : Int32) else 1) = 1 from if_neg hr]
      refine vv_if_ne (pc := 25) x dd_Mo_equal_25 (tgt := 42) (by decide) (fun h25 => ?_) (fun h25 => absurd h25 (by decide))
      refine vv_iconst (pc := 42) x dd_Mo_equal_42 (1) (by decide) ?_
      refine vv_goto (pc := 43) x dd_Mo_equal_43 (tgt := 47) (by decide) ?_
      refine lp_Mo_62 (pc := 47) G x dd_Mo_equal_47 R.2.2 ?_
      have F_N0 : rx RI9 RA mo M (mi M mo 0 1) := rx_mi.mono (by decide) (by simp)
      have t_N0 : ri (mi M mo 0 1) mo 0 = 1 := ri_mi
      have h_N0 : MI pw D ow sl (mi M mo 0 1) mo pl Z := MI_scr h (rx_mi.mono (by decide) (by simp))
      rw [show mm_si M 7 0 mo 1 = mi M mo 0 1 from rfl]
      generalize mi M mo 0 1 = N0 at *
      have R_N0 := h_N0.1
      refine vv_aload_n (pc := 50) x dd_Mo_equal_50 rfl ?_
      refine lg_Mo_62 (pc := 51) G x dd_Mo_equal_51 R_N0.2.2 ?_
      rw [show mm_i N0 7 0 mo = 1 from t_N0]
      refine vv_if_eq (pc := 54) x dd_Mo_equal_54 (tgt := 59) (by decide) (fun h54 => absurd h54 (by decide)) (fun h54 => ?_)
      refine vv_iconst (pc := 57) x dd_Mo_equal_57 (0) (by decide) ?_
      exact vv_zret (pc := 58) x dd_Mo_equal_58 rfl (Or.inl rfl) (by decide) (by decide) ⟨F_N0, Or.inr (Or.inl ⟨(fun z => by first | exact hk z.1.1 | exact hr z.1.2 | exact hq2 z.2.1 | exact hs z.2.2), ⟨_, rfl⟩, t_N0, h_N0⟩)⟩
  · refine vv_aload_n (pc := 0) x dd_Mo_equal_0 rfl ?_
    refine vv_iload_n (pc := 1) x dd_Mo_equal_1 rfl ?_
    refine lv_Mo_120 (pc := 2) G x dd_Mo_equal_2 (R_place G h hZ.2.2.1 hnm k9 hk9) R.2.2 ⟨by decide, by decide⟩ (by decide) (by decide) (Nat.le_of_ble_eq_true rfl) (fun v2 M2 q2 => ?_)
    obtain ⟨rfl, hm2⟩ := q2
    have hm2 := hm2.symm
    subst hm2
    rw [show (if k9 < Z.1.length then nI (pl.getD k9 0) else (-1 : Int32)) = -1 from if_neg hk]
    refine vv_istore (pc := 5) x dd_Mo_equal_5 (by decide) (ls2 := [_, _, _, _, _, _, none, none, none, none, none, none]) rfl ?_
    refine vv_aload_n (pc := 7) x dd_Mo_equal_7 rfl ?_
    refine vv_iload_n (pc := 8) x dd_Mo_equal_8 rfl ?_
    refine lv_Mo_120 (pc := 9) G x dd_Mo_equal_9 (R_place G h hZ.2.2.1 hnm k2 hk2) R.2.2 ⟨by decide, by decide⟩ (by decide) (by decide) (Nat.le_of_ble_eq_true rfl) (fun v9 M9 q9 => ?_)
    obtain ⟨rfl, hm9⟩ := q9
    have hm9 := hm9.symm
    subst hm9
    refine vv_istore (pc := 12) x dd_Mo_equal_12 (by decide) (ls2 := [_, _, _, _, _, _, _, none, none, none, none, none]) rfl ?_
    refine vv_aload_n (pc := 14) x dd_Mo_equal_14 rfl ?_
    refine vv_iload (pc := 15) x dd_Mo_equal_15 rfl ?_
    refine vv_if_lt (pc := 17) x dd_Mo_equal_17 (tgt := 42) (by decide) (fun h17 => ?_) (fun h17 => absurd h17 (fun z => z (by decide)))
    refine vv_iconst (pc := 42) x dd_Mo_equal_42 (1) (by decide) ?_
    refine vv_goto (pc := 43) x dd_Mo_equal_43 (tgt := 47) (by decide) ?_
    refine lp_Mo_62 (pc := 47) G x dd_Mo_equal_47 R.2.2 ?_
    have F_N0 : rx RI9 RA mo M (mi M mo 0 1) := rx_mi.mono (by decide) (by simp)
    have t_N0 : ri (mi M mo 0 1) mo 0 = 1 := ri_mi
    have h_N0 : MI pw D ow sl (mi M mo 0 1) mo pl Z := MI_scr h (rx_mi.mono (by decide) (by simp))
    rw [show mm_si M 7 0 mo 1 = mi M mo 0 1 from rfl]
    generalize mi M mo 0 1 = N0 at *
    have R_N0 := h_N0.1
    refine vv_aload_n (pc := 50) x dd_Mo_equal_50 rfl ?_
    refine lg_Mo_62 (pc := 51) G x dd_Mo_equal_51 R_N0.2.2 ?_
    rw [show mm_i N0 7 0 mo = 1 from t_N0]
    refine vv_if_eq (pc := 54) x dd_Mo_equal_54 (tgt := 59) (by decide) (fun h54 => absurd h54 (by decide)) (fun h54 => ?_)
    refine vv_iconst (pc := 57) x dd_Mo_equal_57 (0) (by decide) ?_
    exact vv_zret (pc := 58) x dd_Mo_equal_58 rfl (Or.inl rfl) (by decide) (by decide) ⟨F_N0, Or.inr (Or.inl ⟨(fun z => by first | exact hk z.1.1 | exact hr z.1.2 | exact hq2 z.2.1 | exact hs z.2.2), ⟨_, rfl⟩, t_N0, h_N0⟩)⟩
end M68
