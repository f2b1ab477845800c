/-! ===== the beginning of all ===== -/
theorem ww_any {w : Cond} {s : State} {a0 : Array Value} (hw : ww_ok w = true) (h : w.before a0 s = true) (a : Array Value) : w.before a s = true := by
  unfold ww_ok at hw
  rw [Bool.or_eq_true] at hw
  rcases hw with hw | hw
  · exact word_at (State.WarmedH.refl s) (good_of_word hw) h
  · cases w with
    | fieldLinkNest c1 i1 r1 n1 d1 h1 => exact va_Nw.use rfl (va_Nw.of rfl h)
    | methodLinkNest c1 i1 x1 h1 => exact va_Nw.use rfl (va_Nw.of rfl h)
    | castable c1 t1 => exact va_tabs rfl (rfl : s.vm = s.vm) h
    | declares x1 => exact va_Nw.use rfl (va_Nw.of rfl h)
    | arrayOver ty =>
      cases ty with
      | object C => exact va_AO.use (va_AO.of h)
      | _ => exact absurd hw (by simp)
    | _ => exact absurd hw (by simp)
theorem xx_warm {g : gg} {t0 : Nat} {s U : State} (hW : s.WarmedH U.vm) (h : xx g t0 s) : xx g t0 U := ⟨h.1.moved hW.alike, h.2.1.moved hW.alike, h.2.2.1.moved hW.alike, h.2.2.2.1.moved hW.alike, fun q hq => (h.2.2.2.2 q hq).moved hW.alike⟩
theorem nc_in : ∀ q ∈ ncL, Cond.not (.castable q.1 q.2) ∈ flatC (Jvm.Cond.and given_1 narrow_1) := by decide +kernel
set_option maxRecDepth 100000 in
set_option maxHeartbeats 1000000 in
theorem gg_ex {s : State} {a0 : Array Value} (hts : ∀ w ∈ lw_tbl, w.before a0 s = true) (hpre : (Jvm.Cond.and given_1 narrow_1).before a0 s = true) : ∃ (g : gg) (t0 : Nat), gg_cl g = clS ∧ gg_ik g = ikS ∧ gg_W g = WS ∧ gg_H g = s.heap ∧ kk_K g (xx g t0) s := by
  have hws : ∀ w ∈ WS, w.before a0 s = true := fun w hw => hts w (List.mem_filter.mp hw).1
  have hpl := flat_of_before _ hpre
  obtain ⟨d0, i0, k0⟩ := u_known (C := cn0) (T := ct0) (N := 4) (n := 4) hws tin0 (hws _ tw_90)
  obtain ⟨d1, i1, k1⟩ := u_known (C := cn1) (T := ct1) (N := 5) (n := 5) hws tin1 (hws _ tw_109)
  obtain ⟨d2, i2, k2⟩ := u_known (C := cn2) (T := ct2) (N := 4) (n := 4) hws tin2 (hws _ tw_131)
  obtain ⟨d3, i3, k3⟩ := u_known (C := cn3) (T := ct3) (N := 5) (n := 5) hws tin3 (hws _ tw_265)
  obtain ⟨d4, i4, k4⟩ := u_known (C := cn4) (T := ct4) (N := 3) (n := 3) hws tin4 (hws _ tw_271)
  obtain ⟨d5, i5, k5⟩ := u_known (C := cn5) (T := ct5) (N := 4) (n := 4) hws tin5 (hws _ tw_40)
  obtain ⟨d6, i6, k6⟩ := u_known (C := cn6) (T := ct6) (N := 9) (n := 9) hws tin6 (hws _ tw_26)
  obtain ⟨d7, i7, k7⟩ := u_known (C := cn7) (T := ct7) (N := 23) (n := 23) hws tin7 (hws _ tw_805)
  obtain ⟨d8, i8, k8⟩ := u_known (C := cn8) (T := ct8) (N := 3) (n := 3) hws tin8 (hws _ tw_64)
  obtain ⟨cI, kI, mI, h1, h2, h3⟩ := Cond.arrayClass_spec (hws _ tw_62)
  obtain ⟨cL, kL, mL, h4, h5, h6⟩ := Cond.arrayClass_spec (hws _ tw_1058)
  obtain ⟨mQ, cQ, kQ, h7, -, h8, h9, h10⟩ := Cond.arrayOver_spec (hws _ tw_390)
  have hA : ∀ a : Nat, a < s.heap.size → ¬ s.heap.size ≤ a := fun a h => Nat.not_le.mpr h
  obtain ⟨t0, ht0, hT0⟩ := va_Tof (A := fun q => s.heap.size ≤ q) (tm := .static "java/util/ArrayList" "DEFAULTCAPACITY_EMPTY_ELEMENTDATA" "[Ljava/lang/Object;") (ty := .object "java/lang/Object") (N := 0) (f := fun _ => .null) (by decide) (hpl _ (by decide +kernel)) (va_eqt (hpl _ (by decide +kernel))) (fun j hj => absurd hj (Nat.not_lt_zero j)) hA
  have z1 := vx_Zqof (A := fun q => s.heap.size ≤ q) (C := Bundle.tN) (n := "UNASSIGNED_STACK") (d := Bundle.steD) (hts _ (List.mem_append_right _ (List.mem_of_getElem? (i := 223) rfl))) (hts _ (List.mem_append_right _ (List.mem_of_getElem? (i := 11) rfl))) (hpl _ (by decide +kernel)) hA
  have z2 := vx_Zqof (A := fun q => s.heap.size ≤ q) (C := Bundle.tN) (n := "SUPPRESSED_SENTINEL") (d := Bundle.listD) (hts _ (List.mem_append_right _ (List.mem_of_getElem? (i := 225) rfl))) (hts _ (List.mem_append_right _ (List.mem_of_getElem? (i := 11) rfl))) (hpl _ (by decide +kernel)) hA
  have z3 := va_Zof (A := fun q => s.heap.size ≤ q) (C := "java/util/ArrayList") (n := "DEFAULTCAPACITY_EMPTY_ELEMENTDATA") (d := "[Ljava/lang/Object;") (hts _ (List.mem_append_right _ (List.mem_of_getElem? (i := 76) rfl))) (hts _ (List.mem_append_right _ (List.mem_of_getElem? (i := 6) rfl))) ht0 hA
  refine ⟨((fun n => match n with | 0 => d0 | 1 => d1 | 2 => d2 | 3 => d3 | 4 => d4 | 5 => d5 | 6 => d6 | 7 => d7 | _ => d8, fun n => match n with | 0 => i0 | 1 => i1 | 2 => i2 | 3 => i3 | 4 => i4 | 5 => i5 | 6 => i6 | 7 => i7 | _ => i8), clS, ikS, (cI, cL, cQ), WS, s.heap), t0, rfl, rfl, rfl, rfl, fun w hw => ⟨(List.mem_filter.mp hw).2, ww_any (List.mem_filter.mp hw).2 (hws w hw)⟩, ⟨fun c q hq => ?_, fun k q hk => ?_⟩, fun s U hW h => xx_warm hW h, z1, z2, z3, hT0, fun q hq => va_Nc.of (hpl _ (nc_in q hq))⟩
  · match c, hq with
    | 0, hq => cases hq; exact k0
    | 1, hq => cases hq; exact k1
    | 2, hq => cases hq; exact k2
    | 3, hq => cases hq; exact k3
    | 4, hq => cases hq; exact k4
    | 5, hq => cases hq; exact k5
    | 6, hq => cases hq; exact k6
    | 7, hq => cases hq; exact k7
    | 8, hq => cases hq; exact k8
    | n + 9, hq => cases hq
  · match k, hk with
    | 0, hk => cases hk; exact ⟨fun n z => ⟨fun k h => (by cases h), kI, h2, mI, h3⟩, h1⟩
    | 1, hk => cases hk; exact ⟨fun n z => ⟨fun k h => (by cases h), kL, h5, mL, h6⟩, h4⟩
    | 2, hk => cases hk; exact ⟨fun n z => ⟨fun k h => (by cases h), kQ, h8, mQ, h9⟩, kQ, mQ, h8, h9, h7, h10⟩
    | n + 3, hk => cases hk
def mm0 : mm := (fun _ => 0, fun _ _ _ => 0, fun _ _ _ => 0, fun _ => 0, fun _ _ => 0, fun _ _ => 0, fun _ _ => 0)
theorem mm0_R {g : gg} {H : Heap} (hc : gg_cl g = clS) (hH : gg_H g = H) (h0 : 0 < H.size) : mm_R g mm0 H := by
  refine ⟨fun a => ⟨fun h => ?_, fun h => ?_, fun h => ?_, fun c r h => ?_, fun h => absurd rfl h⟩, by rw [hc]; decide, by rw [hH]; exact h0, by rw [hH]; exact Nat.le_refl _, fun q _ => by rw [hH]⟩
  · exact absurd (show (0 : Nat) = 100 from h) (by decide)
  · exact absurd (show (0 : Nat) = 101 from h) (by decide)
  · exact absurd (show (0 : Nat) = 102 from h) (by decide)
  · exact absurd (show (0 : Nat) = c + 1 from h) (Nat.succ_ne_zero c).symm
/-- from the entry, for every script of at most 2561 ints, the law comes to its end with true -/
theorem whole_start {p : Program} {e : Env} {s : State} {m : MethodId} {below : List Frame} {meth : Method} {c : Code} (l : Launch) (hst : l.stackTraces = false) {b L : Nat} {xs : Nat → Int32} (hL : L ≤ 2561) (C0 : lw_At p s m meth c b L xs) : W p l e room_1 s m #[Value.ref b] below meth c s.heap [] 0 0 (lw_Z below #[Value.ref b] s) (entryFrame m ([Value.ref b] : List Value).toArray 7) := by
  obtain ⟨hx, hb, hr, hml, hown, hts, hX, hbl, hlk, hpre⟩ := C0
  obtain ⟨g, t0, g1, g2, g3, g4, hK⟩ := gg_ex hts hpre
  have G : gc g (xx g t0) t0 l := ⟨g1, g2, g3, rfl, hst⟩
  have x : cx g (xx g t0) "CopyHeapsLaw" meth.name cc_La_law 7 ret 12 436 601024 7293000 p room_1 s m meth c := ⟨hx, hb, hml, hown, hlk, hK, rfl, hr, rfl, by rw [g4]; exact Nat.le_refl _, fun q _ => by rw [g4]⟩
  have hX9 : sX g b L xs s := ⟨by rw [g4]; exact hX, by rw [g4]; exact hbl⟩
  have K := law_body (M := mm0) (Q := lw_Z below #[Value.ref b] s) (args := #[Value.ref b]) (below := below) (e := e) G x hX9 hL (fun M' k1 k2 ls h1 h2 H locs la hR hz hLo hl => by
    refine va_forget (fun q hq => by have := hLo q hq; rw [g4] at this; exact this) (W.widen h1 h2 ?_)
    exact lw_ret hx hb hr hlk dd_La_law_1653)
  rw [lg_entry_eq]
  exact K s.heap [] _ (mm0_R g1 g4 (by omega)) (Nat.le_refl _) (fun q h => nomatch h) (lz_entry (av := [Value.ref b]) (nL := 7) (Nat.le_of_ble_eq_true rfl) (by simp [Value.category]))
-- ===== YOUR PART ENDS =====
set_option maxHeartbeats 4000000 in
theorem lw_walk (l : Launch) (hst : l.stackTraces = false) (b : Addr) (xs : List Int32) : MetFree l x (headSpec (Jvm.Cond.code x code maxLocals ret :: tables_1) room_1) (lw_P b xs) (fun _ _ _ _ _ => True) lw_Q := by
  refine MetFree.of_bodyS (code := code) (maxLocals := maxLocals) (ret := ret) (by decide) ?_ ?_
  · intro args s m h hn
    obtain ⟨meth, c, h1, h2, h3, h4, h5, h6, -, -⟩ := Cond.code_spec hn (atoms_spec (ws := Jvm.Cond.code x code maxLocals ret :: tables_1) h _ List.mem_cons_self)
    exact ⟨meth, c, h1, h2, h3, h4, h5, h6⟩
  · intro p e s m args below meth c s₁ B hml0 hP _
    obtain ⟨rfl, hx, hbd, hgv⟩ := hP
    obtain ⟨scr, harrAt, hlist, hof, hsmall⟩ := hx
    obtain ⟨hcb, hkn, -, -⟩ := State.arrayAt?_spec harrAt
    have hown : s.vm.findClass R_law = some m.cls := findClass_of_methodNamed B.named
    have hts0 : ∀ c ∈ (Jvm.Cond.code x code maxLocals ret :: tables_1), c.before #[Value.ref b] s = true := atoms_spec (ws := Jvm.Cond.code x code maxLocals ret :: tables_1) B.pre
    have hts : ∀ w ∈ lw_tbl, w.before #[Value.ref b] s = true := k2_hts_sels lw_privs (fun w hw => hts0 w (List.mem_cons_of_mem _ hw)) lw_privs_ok
    have hml : c.maxLocals = 7 := B.maxLocals_eq (hts0 _ List.mem_cons_self)
    have X₀ : Stand p l e room_1 s m #[Value.ref b] below meth c s₁ [] 0 0 := Stand.of_body B
    have hh0 : s₁.heap = s.heap := by rw [B.state]; rfl
    have hsz : scr.slots.size = xs.length := by rw [← Array.length_toList, hlist, List.length_map]
    have hval : ∀ j : Nat, j < xs.length → scr.slots[j]? = some (.int (xs.getD j 0)) := fun j hj => by
      rw [← Array.getElem?_toList, hlist]
      simp [hj]
    have hbl : b < s.heap.size := (Array.getElem?_eq_some_iff.mp hcb).1
    have hX : va_X b xs.length (fun j => xs.getD j 0) s s.heap := ⟨scr, hcb, hof, hkn, hsz, hval⟩
    have K : W p l e room_1 s m #[Value.ref b] below meth c s₁.heap [] 0 0 (lw_Z below #[Value.ref b] s) (entryFrame m ([Value.ref b] : List Value).toArray 7) := by
      rw [hh0]
      exact whole_start l hst hbd ⟨B.exec, B.bytes, B.returns, hml, hown, hts, hX, hbl, B.notSynchronized, hgv⟩
    obtain ⟨t, a1, o, b1, b2, b3⟩ := K s₁ rfl X₀
    exact ⟨t, o, a1, b1, b2, b3⟩
theorem lw_pre_spec {args : Array Value} {s : State} (h : (Jvm.Cond.and given_1 narrow_1).before args s = true) (hr : rest_1_c.before args s = true) : ∃ (b : Addr) (xs : List Int32), lw_P b xs args s := by
  have hs := flat_of_before _ h
  have hq := flat_of_before _ hr
  have hc : (Cond.count 1).before args s = true := hs _ (by decide +kernel)
  have harr : (Cond.arrayOf (.arg 0) .int).before args s = true := hs _ (by decide +kernel)
  have hle : (Cond.le (.length (.arg 0)) (.int 2561)).before args s = true := hs _ (by decide +kernel)
  have hlen : (Cond.isInt (.length (.arg 0))).before args s = true := hq _ (by decide +kernel)
  have hall : (Cond.all (.arg 0) (.isInt (.elem (.arg 0) (.index 0)))).before args s = true := hq _ (by decide +kernel)
  obtain ⟨b, xs, hb, hx⟩ := State.ints_of_pre rfl harr hlen hall
  have hsm : xs.length < 2 ^ 31 := hx.choose_spec.2.2.2
  have hev : (Term.length (.arg 0)).eval args s none [] s = some (.int xs.length.toInt32) := hx.length_eval hb
  have hv := Cond.le_ints hev (show (Term.int 2561).eval args s none [] s = some (.int 2561) from rfl)
  have hd : xs.length.toInt32 ≤ 2561 := by
    simpa [Cond.before, Cond.holds, hv] using hle
  have hN : xs.length ≤ 2561 := (Int32.ofNat_le_ofNat hsm (by decide)).mp (show Int32.ofNat xs.length ≤ Int32.ofNat 2561 from hd)
  exact ⟨b, xs, Cond.one_arg hc (show args[0]? = some (.ref b) from hb), hx, hN, h⟩
theorem lw_comes (l : Launch) (hst : l.stackTraces = false) : Comes l x (Jvm.Cond.code x code maxLocals ret :: tables_1) room_1 (fun tb e args s => Calls_1 tb e args s ∧ rest_1 tb e args s ∧ Pre_1 tb e args s)
    (fun _ _ args s o t => lw_Q args s o t) := by
  intro p e ha hc hk s m args below hf hfit hheap happ hpre
  obtain ⟨b, xs, hP⟩ := lw_pre_spec hpre.2.2 hpre.2.1
  obtain ⟨k, o, h1, h2, h3, hQ⟩ := lw_walk l hst b xs p e ha hc hk s m args below hf ((Spec.applies_iff_loose hf).mp happ).1 hP trivial
  exact ⟨k, o, h1, h2, h3, hQ⟩
theorem lw_frame {s t : State} {o : Outcome} {args : Array Value} (h : Framed s o t [] 601024 7293000) :
    Framed s o t (fieldLocs frame_1_writes args s ++ arrayLocs frame_1_arrays args s ++ staticLocs frame_1_statics s) 601024 7293000 := h
theorem lw_limb (L : Cond) (hL : ∀ (args : Array Value) (s t : State), L.after args s (.returned (some (.int 1))) t = true) :
    ArmFor flags0 classFile x code maxLocals ret World_1 tables_1 room_1 Calls_1 rest_1 Pre_1
      (fun tb e a s o t => postC L tb e a s o t ∧ Framed s o t (fieldLocs frame_1_writes a s ++ arrayLocs frame_1_arrays a s ++ staticLocs frame_1_statics s) 601024 7293000) := by
  intro l hfl _ _ p e ha hc hk s m args below hf hfit hheap happ hpre
  have hst : l.stackTraces = false := by
    unfold Launch.stackTraces
    rw [hfl]
    decide +kernel
  obtain ⟨k, o, h1, h2, h3, rfl, hF⟩ := lw_comes l hst p e ha hc hk s m args below hf hfit hheap happ hpre
  exact ⟨k, _, h1, h2, h3, hL args s _, lw_frame hF⟩
theorem i_vc : Claimed_1_1 ∧ Claimed_1_2 := ⟨lw_limb limb_1_1 (fun args s t => by simp [limb_1_1, Cond.after, Cond.holds, Cond.value]), lw_limb limb_1_2 (fun args s t => Cond.after_iff.mpr (by
  first | (rw [show limb_1_2 = Cond.eq .result (.int 1) from rfl, Cond.eq_ints (x := 1) (y := 1) rfl rfl]; simp; done) | (simp [limb_1_2, Cond.value, Term.eval]; done)))⟩
