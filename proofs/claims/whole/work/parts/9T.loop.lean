/-! ===== the loop of the law ===== -/
def R_law : String := "CopyHeapsLaw"
def lw_P (b : Addr) (xs : List Int32) (args : Array Value) (s : State) : Prop := args = #[.ref b] ∧ s.IntsAt b xs ∧ xs.length ≤ 2561 ∧ (Jvm.Cond.and given_1 narrow_1).before args s = true
def lw_Q (_ : Array Value) (s : State) (o : Outcome) (t : State) : Prop := o = .returned (some (.int 1)) ∧ Framed s o t [] 601024 7293000
def lw_Z (below : List Frame) (a : Array Value) (s : State) : State → Prop := fun t => ∃ o, t.status = .running ∧ Ended t below o ∧ lw_Q a s o t
/-- the law's own end, with 1 on the stack, nothing written that was there before, its room as the claim has it -/
theorem lw_ret {p : Program} {l : Launch} {e : Env} {s : State} {m : MethodId} {below : List Frame} {meth : Method} {c : Code} {b : Nat} (hx : p.tables.exec = Jvm.exec) (hb : c.code = code) (hr : meth.sig.returnType = ret) (hlocks : meth.locks = false) {pc : Nat} {H : Heap} {ls : Array Slot} (hdg : decode code pc = .ok (.ireturn, 1)) : W p l e room_1 s m #[Value.ref b] below meth c H [] 601024 7293000 (lw_Z below #[Value.ref b] s) (F0 m pc ls [.int 1]) := by
  intro T hT X
  obtain ⟨fs, hret, hrun, hended, hW, hframe⟩ := X.leave (v := some (.int 1)) (hlocks := hlocks) (fun h => by rw [hr] at h; cases h)
  have hmeth' : T.vm.method? m = some meth := X.method'
  refine ⟨T.setFrames fs, ?_, .returned (some (.int 1)), hrun, hended, rfl, ⟨_, rfl⟩, hW, hframe⟩
  jvm_step X.here [X.here.top, hx, hb, hdg, hmeth', hr, ret, narrow_b1]
  (try refine ⟨rfl, ?_⟩); (try refine ⟨rfl, ?_⟩)
  first | (intro acts; rw [hret _ acts rfl rfl rfl]) | rw [hret _ _ rfl rfl rfl]
  exact Steps.refl _
/-- what holds at the law's entry: the machine, the code, the tables' words (any of lw_tbl by 'hts w (by decide +kernel)'), the script of L ints xs at the cell b, what the Statement gives of the start (any of its parts by flat_of_before) -/
def lw_At (p : Program) (s : State) (m : MethodId) (meth : Method) (c : Code) (b L : Nat) (xs : Nat → Int32) : Prop :=
  p.tables.exec = Jvm.exec ∧ c.code = code ∧ meth.sig.returnType = ret ∧ c.maxLocals = 7 ∧ s.vm.findClass R_law = some m.cls ∧ (∀ w ∈ lw_tbl, w.before #[Value.ref b] s = true) ∧ va_X b L xs s s.heap ∧ b < s.heap.size ∧ meth.locks = false ∧ (Jvm.Cond.and given_1 narrow_1).before #[Value.ref b] s = true
section M76
variable {g : gg} {X : State → Prop} {t0 : Nat} {l : Launch} {M : mm} {pw n : Nat} {o mo out : Nat} {b L : Nat} {xs : Nat → Int32} {nm : String} {p : Program} {e : Env} {R : Room} {s : State} {m : MethodId} {args : Array Value} {below : List Frame} {meth : Method} {c9 : Code} {Q : State → Prop} {cells slots i : Nat} {ret : Option FieldType}
theorem LI.up (A : LI pw t0 n M o mo out) : LI pw t0 (n + 1) M o mo out := by
  obtain ⟨D, ow, sl, La, Le, pl, Z, C, B, I, r⟩ := A
  exact ⟨D, ow, sl, La, Le, pl, Z, C, B, I.up, r⟩
theorem sub5 {L i : Nat} (h : ¬ nI L - 5 < nI i) (hL : L ≤ 2561) (hi : i ≤ 3000) : i + 5 ≤ L := by
  refine Classical.byContradiction (fun z => h ?_)
  rw [Int32.lt_iff_toInt_lt, Int32.toInt_sub]
  have e1 : (nI L).toInt = L := Int32.toInt_ofNat_of_lt (by omega)
  have e2 : (nI i).toInt = i := Int32.toInt_ofNat_of_lt (by omega)
  have e3 : (5 : Int32).toInt = 5 := by decide
  rw [e1, e2, e3]
  rw [Int.bmod_def]
  split <;> omega
set_option maxRecDepth 100000 in
set_option maxHeartbeats 1000000 in
theorem law_loop (G : gc g X t0 l) (x : cx g X "CopyHeapsLaw" nm cc_La_law 7 ret 12 436 601024 7293000 p R s m meth c9) (hX : sX g b L xs s) (hL : L ≤ 2561) (hQ : ∀ (M' : mm) (k1 k2 : Nat) (ls : List (Option Value)), k1 ≤ 601024 → k2 ≤ 7293000 → vv g 7 p l e R s m args below meth c9 Q k1 k2 1653 ls [.int 1] M') : ∀ (q n i : Nat) (M : mm) (u5 u6 : Option Value), n + q = 512 → i = 1 + 5 * n → LI pw t0 n M o mo out → vv g 7 p l e R s m args below meth c9 Q (100 + 10 * n) (30000 + 1760 * n) 33 [some (.ref b), some (.ref o), some (.ref mo), some (.ref out), some (.int (nI i)), u5, u6] [] M := by
  intro q
  induction q with
  | zero =>
    intro n i M u5 u6 hq hi A
    refine vv_iload (pc := 33) x dd_La_law_33 rfl ?_
    refine vv_aload_n (pc := 35) x dd_La_law_35 rfl ?_
    refine vv_slen (pc := 36) x dd_La_law_36 hX ?_
    refine vv_iconst (pc := 37) x dd_La_law_37 (5) (by decide) ?_
    refine vv_isub (pc := 38) x dd_La_law_38 ?_
    refine vv_icmp_gt (pc := 39) x dd_La_law_39 (tgt := 1652) (by decide) (fun h39 => ?_) (fun h39 => ?_)
    · refine vv_iconst (pc := 1652) x dd_La_law_1652 (1) (by decide) ?_
      exact hQ _ _ _ _ (by omega) (by omega)
    · have h5 := sub5 h39 hL (by omega)
      omega
  | succ q ih =>
    intro n i M u5 u6 hq hi A
    have back : ∀ (M' : mm) (w5 w6 : Option Value), LI pw t0 (n + 1) M' o mo out → vv g 7 p l e R s m args below meth c9 Q (100 + 10 * n + 10) (30000 + 1760 * n + 1760) 1646 [some (.ref b), some (.ref o), some (.ref mo), some (.ref out), some (.int (nI i)), w5, w6] [] M' := by
      intro M2 w5 w6 A2
      refine vv_iinc (pc := 1646) x dd_La_law_1646 rfl (nI_add i 5) (by decide) (ls2 := [_, _, _, _, _, _, _]) rfl ?_
      refine vv_goto (pc := 1649) x dd_La_law_1649 (tgt := 33) (by decide) ?_
      exact vv_wide (by omega) (by omega) (ih (n + 1) (i + 5) _ _ _ (by omega) (by omega) A2)
    refine vv_iload (pc := 33) x dd_La_law_33 rfl ?_
    refine vv_aload_n (pc := 35) x dd_La_law_35 rfl ?_
    refine vv_slen (pc := 36) x dd_La_law_36 hX ?_
    refine vv_iconst (pc := 37) x dd_La_law_37 (5) (by decide) ?_
    refine vv_isub (pc := 38) x dd_La_law_38 ?_
    refine vv_icmp_gt (pc := 39) x dd_La_law_39 (tgt := 1652) (by decide) (fun h39 => ?_) (fun h39 => ?_)
    · refine vv_iconst (pc := 1652) x dd_La_law_1652 (1) (by decide) ?_
      exact hQ _ _ _ _ (by omega) (by omega)
    · have h5 := sub5 h39 hL (by omega)
      have hin : vp_in (nI i) L := vp_in_nI (by omega) (by omega)
      refine vv_aload_n (pc := 42) x dd_La_law_42 rfl ?_
      refine vv_iload (pc := 43) x dd_La_law_43 rfl ?_
      refine vv_sld (pc := 45) x dd_La_law_45 hX hin ?_
      refine vv_bipush (pc := 46) x dd_La_law_46 (31) (by decide) ?_
      refine vv_iand (pc := 48) x dd_La_law_48 ?_
      refine sw_La_law_49 x (fun h49_0 => ?_) (fun h49_1 => ?_) (fun h49_2 => ?_) (fun h49_3 => ?_) (fun h49_4 => ?_) (fun h49_5 => ?_) (fun h49_6 => ?_) (fun h49_7 => ?_) (fun h49_8 => ?_) (fun h49_9 => ?_) (fun h49_10 => ?_) (fun h49_11 => ?_) (fun h49_12 => ?_) (fun h49_13 => ?_) (fun h49_14 => ?_) (fun h49_15 => ?_) (fun h49_16 => ?_) (fun h49_17 => ?_) (fun h49_18 => ?_) (fun h49_19 => ?_) (fun h49_20 => ?_) (fun h49_21 => ?_) (fun h49_22 => ?_) (fun n49_0 n49_1 n49_2 n49_3 n49_4 n49_5 n49_6 n49_7 n49_8 n49_9 n49_10 n49_11 n49_12 n49_13 n49_14 n49_15 n49_16 n49_17 n49_18 n49_19 n49_20 n49_21 n49_22 => ?_)
      · exact arm_spawn G x A (by omega) hX (by omega) hL (by omega) (by omega) back
      · exact arm_exit G x A (by omega) hX (by omega) hL (by omega) (by omega) back
      · exact arm_nil G x A (by omega) hX (by omega) hL (by omega) (by omega) back
      · exact arm_integer G x A (by omega) hX (by omega) hL (by omega) (by omega) back
      · exact arm_name G x A (by omega) hX (by omega) hL (by omega) (by omega) back
      · exact arm_move G x A (by omega) hX (by omega) hL (by omega) (by omega) back
      · exact arm_pair G x A (by omega) hX (by omega) hL (by omega) (by omega) back
      · exact arm_tuple G x A (by omega) hX (by omega) hL (by omega) (by omega) back
      · exact arm_blob G x A (by omega) hX (by omega) hL (by omega) (by omega) back
      · exact arm_part G x A (by omega) hX (by omega) hL (by omega) (by omega) back
      · exact arm_send G x A (by omega) hX (by omega) hL (by omega) (by omega) back
      · exact arm_broadcast G x A (by omega) hX (by omega) hL (by omega) (by omega) back
      · exact arm_receive G x A (by omega) hX (by omega) hL (by omega) (by omega) back
      · exact arm_collect G x A (by omega) hX (by omega) hL (by omega) (by omega) back
      · exact arm_trim G x A (by omega) hX (by omega) hL (by omega) (by omega) back
      · exact arm_count G x A (by omega) hX (by omega) hL (by omega) (by omega) back
      · exact arm_of G x A (by omega) hX (by omega) hL (by omega) (by omega) back
      · exact arm_kind G x A (by omega) hX (by omega) hL (by omega) (by omega) back
      · exact arm_value G x A (by omega) hX (by omega) hL (by omega) (by omega) back
      · exact arm_address G x A (by omega) hX (by omega) hL (by omega) (by omega) back
      · exact arm_words G x A (by omega) hX (by omega) hL (by omega) (by omega) back
      · exact arm_handles G x A (by omega) hX (by omega) hL (by omega) (by omega) back
      · exact arm_equal G x A (by omega) hX (by omega) hL (by omega) (by omega) back
      · exact vv_wide (by omega) (by omega) (back _ _ _ A.up)
set_option maxRecDepth 100000 in
set_option maxHeartbeats 1000000 in
theorem law_body (G : gc g X t0 l) (x : cx g X "CopyHeapsLaw" nm cc_La_law 7 ret 12 436 601024 7293000 p R s m meth c9) (hX : sX g b L xs s) (hL : L ≤ 2561) (hQ : ∀ (M' : mm) (k1 k2 : Nat) (ls : List (Option Value)), k1 ≤ 601024 → k2 ≤ 7293000 → vv g 7 p l e R s m args below meth c9 Q k1 k2 1653 ls [.int 1] M') : vv g 7 p l e R s m args below meth c9 Q 0 0 0 (lz_en [.ref b] 7) [] M := by
  obtain ⟨pw, h40, hp6, hpw⟩ := clampN (v := if 0 < L then xs 0 else 0)
  refine ln_La_8 (pc := 0) G x dd_La_law_0 (by omega) (by omega) (fun o ho => ?_)
  refine vv_dup (pc := 3) x dd_La_law_3 rfl ?_
  refine vv_aload_n (pc := 4) x dd_La_law_4 rfl ?_
  refine vv_iconst (pc := 5) x dd_La_law_5 (0) (by decide) ?_
  refine vv_callY (pc := 6) (av := [.ref b, .int 0]) (idx := 94) x hX sX.call (fun U hW h => sX.warm hW h) dd_La_law_6 (K_cell G (by omega)) ⟨G.w tw_181, G.w tw_0, G.w tw_183, rfl, ⟨by decide, by decide⟩, (show (parseMethodDescriptor "([II)I").map (fun d => d.parameters.length) = some 2 from by decide +kernel)⟩ (G.w tw_182) ⟨by decide, by decide⟩ (by omega) (by omega) rfl (Nat.le_of_ble_eq_true rfl) (fun v6 M6 q6 => ?_)
  obtain ⟨rfl, hm6⟩ := q6
  have hm6 := hm6.symm
  subst hm6
  refine lv_La_100 (pc := 9) G x dd_La_law_9 (C_init (pw := pw) G hpw h40 hp6 (if_pos rfl) (if_pos rfl) (if_pos rfl))  ⟨by decide, by decide⟩ (by omega) (by omega) (Nat.le_of_ble_eq_true rfl) (fun v9 M9 q9 => ?_)
  obtain ⟨rfl, D, ow, sl, C, hs0, hDl, -⟩ := q9
  refine vv_astore_n (pc := 12) x dd_La_law_12 (by decide) (ls2 := [_, _, none, none, none, none, none]) rfl ?_
  refine ln_La_103 (pc := 13) G x dd_La_law_13 (by omega) (by omega) (fun mo hmo => ?_)
  refine vv_dup (pc := 16) x dd_La_law_16 rfl ?_
  refine vv_aload_n (pc := 17) x dd_La_law_17 rfl ?_
  refine vv_iconst (pc := 18) x dd_La_law_18 (0) (by decide) ?_
  refine vv_callY (pc := 19) (av := [.ref b, .int 0]) (idx := 94) x hX sX.call (fun U hW h => sX.warm hW h) dd_La_law_19 (K_cell G (by omega)) ⟨G.w tw_181, G.w tw_0, G.w tw_183, rfl, ⟨by decide, by decide⟩, (show (parseMethodDescriptor "([II)I").map (fun d => d.parameters.length) = some 2 from by decide +kernel)⟩ (G.w tw_182) ⟨by decide, by decide⟩ (by omega) (by omega) rfl (Nat.le_of_ble_eq_true rfl) (fun v19 M19 q19 => ?_)
  obtain ⟨rfl, hm19⟩ := q19
  have hm19 := hm19.symm
  subst hm19
  refine lv_La_105 (pc := 22) G x dd_La_law_22 (k_Mo_init (M := mm_nw M9 mo 8 0) (h := mo) G (if_pos rfl))  ⟨by decide, by decide⟩ (by omega) (by omega) (Nat.le_of_ble_eq_true rfl) (fun v22 M22 q22 => ?_)
  obtain ⟨rfl, N, HN, hm22⟩ := q22
  have hm22 := hm22.symm
  subst hm22
  refine vv_low G x (fun hlow => ?_)
  obtain ⟨D2, ow2, sl2, hDl2, hs2, C2, B2⟩ := MI_zero hmo HN hpw C hDl hlow.1
  generalize mm_si N 7 1 mo _ = M3 at *
  refine vv_astore_n (pc := 25) x dd_La_law_25 (by decide) (ls2 := [_, _, _, none, none, none, none]) rfl ?_
  refine vv_iconst (pc := 26) x dd_La_law_26 (1) (by decide) ?_
  refine vv_newL (pc := 27) x dd_La_law_27 (G.w tw_1058) (by decide) (by decide) (by decide) (by decide) (fun out hout => ?_)
  refine vv_astore_n (pc := 29) x dd_La_law_29 (by decide) (ls2 := [_, _, _, _, none, none, none]) rfl ?_
  refine vv_iconst (pc := 30) x dd_La_law_30 (1) (by decide) ?_
  refine vv_istore (pc := 31) x dd_La_law_31 (by decide) (ls2 := [_, _, _, _, _, none, none]) rfl ?_
  exact vv_wide (by omega) (by decide) (law_loop (pw := pw) G x hX hL hQ 512 0 1 _ _ _ rfl rfl (LI_first C2 B2 (hs2.trans hs0) hDl2 hout))
end M76
