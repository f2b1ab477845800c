/-! ===== the script; the beginning of the law ===== -/
section VS
variable {g : gg} {X : State → Prop} {own nm : String} {cc : ByteArray} {nL : Nat} {ret : Option FieldType} {d lo mc ms : Nat} {p : Program} {l : Launch} {e : Env} {R : Room} {s : State} {m : MethodId} {args : Array Value} {below : List Frame} {meth : Method} {c : Code} {Q : State → Prop} {cells slots pc : Nat} {ls : List (Option Value)} {rest : List Value} {M : mm}
variable {y : MethodName} {cc2 : ByteArray} {nL2 d2 lo2 mc2 ms2 idx : Nat} {ret2 : Option FieldType} {av : List Value} {Qr Qr2 : Option Value → mm → Prop} {Y : State → Prop} {b L : Nat} {xs : Nat → Int32}
/-- the script lies at b -/
def sX (g : gg) (b L : Nat) (xs : Nat → Int32) (U : State) : Prop := va_X b L xs U (gg_H g) ∧ b < (gg_H g).size
theorem vv_sld (x : cx g X own nm cc nL ret d lo mc ms p R s m meth c) {i : Int32} (hd : decode cc pc = .ok (.iaload, 1)) (hX : sX g b L xs s) (hin : vp_in i L) (k : vv g nL p l e R s m args below meth c Q cells slots (pc + 1) ls (.int (xs i.toNatClampNeg) :: rest) M) : vv g nL p l e R s m args below meth c Q cells slots (pc) ls (.int i :: .ref b :: rest) M := by
  intro H locs la hR hz hL hl
  exact va_sld (A := ok_F g) (H0 := gg_H g) x.1 x.2.1 hX.1 hX.2 (Nat.not_le.mpr hX.2) ⟨hR.2.2.2.1, fun q h _ => hR.2.2.2.2 q h, hL⟩ hin hd (k H locs la hR hz hL hl)
theorem vv_slen (x : cx g X own nm cc nL ret d lo mc ms p R s m meth c) (hd : decode cc pc = .ok (.arraylength, 1)) (hX : sX g b L xs s) (k : vv g nL p l e R s m args below meth c Q cells slots (pc + 1) ls (.int (nI L) :: rest) M) : vv g nL p l e R s m args below meth c Q cells slots (pc) ls (.ref b :: rest) M := by
  intro H locs la hR hz hL hl
  exact va_slen (A := ok_F g) (H0 := gg_H g) x.1 x.2.1 hX.1 hX.2 (Nat.not_le.mpr hX.2) ⟨hR.2.2.2.1, fun q h _ => hR.2.2.2.2 q h, hL⟩ hd (k H locs la hR hz hL hl)
theorem vv_wide {st : List Value} {k n : Nat} (h1 : cells ≤ k) (h2 : slots ≤ n) (kk : vv g nL p l e R s m args below meth c Q k n pc ls st M) : vv g nL p l e R s m args below meth c Q cells slots pc ls st M := fun H locs la hR hz hL hl => W.widen h1 h2 (kk H locs la hR hz hL hl)
theorem vv_less {st : List Value} {ls2 : List (Option Value)} (h : ∀ (i : Nat) (v : Value), ls2[i]? = some (some v) → ls[i]? = some (some v)) (kk : vv g nL p l e R s m args below meth c Q cells slots pc ls2 st M) : vv g nL p l e R s m args below meth c Q cells slots pc ls st M := fun H locs la hR hz hL hl => kk H locs la hR hz hL ⟨hl.1, hl.2.1, fun i v hi => hl.2.2 i v (h i v hi)⟩
/-- a contract that knows the script -/
def OkY (g : gg) (X Y : State → Prop) (l : Launch) (y : MethodName) (cc : ByteArray) (nL : Nat) (ret : Option FieldType) (d lo mc ms : Nat) (av : List Value) (M : mm) (Qr : Option Value → mm → Prop) : Prop :=
  Met l y [.code y cc nL ret] (rm d lo mc ms) (fun a U => ok_P g X av M a U ∧ Y U) (ok_Q g Qr) mc ms (ok_F g)
theorem oky_start (hy : plainName y.cls = true) (hl : av.length ≤ nL) (hav : ∀ v ∈ av, v.category = 1)
    (body : ∀ (p : Program) (e : Env) (s : State) (m : MethodId) (args : Array Value) (below : List Frame) (meth : Method) (c : Code), Y s → cx g X y.cls y.name cc nL ret d lo mc ms p (rm d lo mc ms) s m meth c → vv g nL p l e (rm d lo mc ms) s m args below meth c (MQ below (ok_Q g Qr) args s mc ms (ok_F g)) 0 0 0 (lz_en av nL) [] M) : OkY g X Y l y cc nL ret d lo mc ms av M Qr := by
  refine Met.ofW (cc := cc) (maxL := nL) (ret := ret) hy rfl ?_
  intro p e s m args below meth c s₁ B hml hv
  obtain ⟨⟨rfl, hR, hK⟩, hY⟩ := hv
  rw [lg_entry_eq]
  exact body p e s m _ below meth c hY ⟨B.exec, B.bytes, hml, findClass_of_methodNamed B.named, B.notSynchronized, hK, rfl, B.returns, (name_of_methodNamed B.named B.method).1, hR.2.2.2.1, hR.2.2.2.2⟩ s.heap [] _ hR (Nat.le_refl _) (fun q h => nomatch h) (lz_entry hl hav)
theorem vv_callY (x : cx g X own nm cc nL ret d lo mc ms p R s m meth c) {b : List Value} (hY : Y s) (hYb : ∀ (a : Array Value) (U : State) (g : JFrame) (mk : MethodId), Y U → Y (U.calling g mk a)) (hYw : ∀ U : State, s.WarmedH U.vm → Y s → Y U) (hd : decode cc pc = .ok (.invokestatic idx, 3)) (hM : OkY g X Y l y cc2 nL2 ret2 d2 lo2 mc2 ms2 av M Qr) (hw : cw g own idx y cc2 nL2 ret2 av.length) (hw2 : Cond.static y ∈ gg_W g) (hdd : d2 + 1 ≤ d ∧ 19 + nL2 + lo2 ≤ lo) (h1 : cells + mc2 ≤ mc) (h2 : slots + ms2 ≤ ms) (hst : b = av.reverse ++ rest) (hr : (rest.map fun v => v.category).sum ≤ 8)
    (k : ∀ (v : Option Value) (M' : mm), Qr v M' → vv g nL p l e R s m args below meth c Q (cells + mc2) (slots + ms2) (pc + 3) ls (v.toList ++ rest) M') : vv g nL p l e R s m args below meth c Q cells slots (pc) ls (b) M := by
  intro H locs la hR hz hL hl
  have hRr := x.2.2.2.2.2.2.1
  exact vv_back x hz hL hl (va_runS (As := av) (rest := rest) ⟨x.1, x.2.1, x.2.2.1, x.2.2.2.1, x.ts⟩ hM ⟨hw.B x hdd, x.w hw2⟩ ⟨fun a U g9 mk q => ⟨ok_blind a U g9 mk q.1, hYb a U g9 mk q.2⟩, fun U hU hW => ⟨ok_pre hR x.2.2.2.2.2.1 U hU hW, hYw U hW hY⟩⟩ rfl rfl hl.1 hst (lv_room hr) hd ⟨by rw [hRr]; exact h1, by rw [hRr]; exact h2⟩) k
theorem sX.call (a : Array Value) (U : State) (g9 : JFrame) (mk : MethodId) (h : sX g b L xs U) : sX g b L xs (U.calling g9 mk a) := ⟨va_X.moved (State.WarmedH.refl U).alike h.1, h.2⟩
theorem sX.warm {s U : State} (hW : s.WarmedH U.vm) (h : sX g b L xs s) : sX g b L xs U := ⟨va_X.moved hW.alike h.1, h.2⟩
end VS
section M74
variable {g : gg} {X : State → Prop} {t0 : Nat} {l : Launch} {M : mm} {M1 M2 : mm} {pw n : Nat} {D : Nat → Prop} {ow sl : Nat → Nat} {o mo out : Nat} {La Le pl : List Nat} {Z : zst} {b L : Nat} {xs : Nat → Int32}
set_option maxRecDepth 100000 in
theorem K_cell (G : gc g X t0 l) (hL : L < 2 ^ 31) : OkY g X (sX g b L xs) l yy_La_cell cc_La_cell 2 (some .int) 0 0 0 0 [.ref b, .int 0] M (fun v M' => v = some (.int (if 0 < L then xs 0 else 0)) ∧ M' = M) := by
  refine oky_start (by decide) (Nat.le_of_ble_eq_true rfl) (by simp [Value.category]) ?_
  intro p e s m args below meth c9 hX x
  refine vv_iload_n (pc := 0) x dd_La_cell_0 rfl ?_
  refine vv_aload_n (pc := 1) x dd_La_cell_1 rfl ?_
  refine vv_slen (pc := 2) x dd_La_cell_2 hX ?_
  have hlen : nI L ≤ 0 ↔ ¬ 0 < L := by
    have := nI_leI (a := L) (b := 0) hL (by decide)
    constructor
    · intro z
      have := this.mp z
      omega
    · intro z
      exact this.mpr (by omega)
  refine vv_icmp_ge (pc := 3) x dd_La_cell_3 (tgt := 12) (by decide) (fun h3 => ?_) (fun h3 => ?_)
  · refine vv_iconst (pc := 12) x dd_La_cell_12 (0) (by decide) ?_
    exact vv_iret (pc := 13) x dd_La_cell_13 rfl (by decide) (by decide) ⟨by rw [if_neg (hlen.mp h3)], rfl⟩
  · have hp : 0 < L := Classical.byContradiction (fun z => h3 (hlen.mpr z))
    refine vv_aload_n (pc := 6) x dd_La_cell_6 rfl ?_
    refine vv_iload_n (pc := 7) x dd_La_cell_7 rfl ?_
    refine vv_sld (pc := 8) x dd_La_cell_8 hX (vp_in_nI (n := 0) hp hL) ?_
    refine vv_goto (pc := 9) x dd_La_cell_9 (tgt := 13) (by decide) ?_
    exact vv_iret (pc := 13) x dd_La_cell_13 rfl (by decide) (by decide) ⟨by rw [if_pos hp]; rfl, rfl⟩
theorem CI_fa (C : CI pw D ow sl M o La Le Z) (hDl : ∀ a, D a → mm_t M a ≠ 0) (F : fa M M1) : CI pw D ow sl M1 o La Le Z := by
  refine (C.j.f8 hDl F.f8).i ?_
  have hDo := C.2.1.1
  have hTo := C.2.1.2.1
  have n0 := hDl o hDo
  have t2 : mm_t M (mm_f M 6 2 o) = 9 := C.1.ot hDo hTo 2 (by decide)
  have t3 : mm_t M (mm_f M 6 3 o) = 9 := C.1.ot hDo hTo 3 (by decide)
  obtain ⟨h1, h2, h3, h4, h5⟩ := C.2.2.2.2.2.2
  have e2 : mm_f M1 6 2 o = mm_f M 6 2 o := F.f8.f n0 (by decide)
  have e3 : mm_f M1 6 3 o = mm_f M 6 3 o := F.f8.f n0 (by decide)
  obtain ⟨a1, a2⟩ := h1.fa F (by rw [t2]; decide)
  obtain ⟨b1, b2⟩ := h2.fa F (by rw [t3]; decide)
  unfold lst
  rw [e2, e3, a2, b2]
  exact ⟨a1, b1, h3, h4, h5⟩
theorem kq_fa (S : sh pw D ow sl M) (hDl : ∀ a, D a → mm_t M a ≠ 0) (F : fa M M1) : kq pw D M M1 := by
  refine ⟨fun a ha => ⟨(F a ha).1, (F a ha).2.1⟩, fun m hD hT => ⟨fun k => ((F m (hDl m hD)).2.2.2.2.2 7 k).1, fun k => ((F m (hDl m hD)).2.2.2.2.2 7 k).2, fun k hk => (F _ ?_).2.2.2.1⟩⟩
  rw [S.t hD hT k hk]
  decide
theorem aL7m {k : Nat} (h : aL pw 7 k ≠ 0) : (k, aL pw 7 k) ∈ ((22, 320) :: ((21, 320) :: ((20, 320) :: ((19, 600) :: ((18, 600) :: ((17, 600) :: ((15, 30) :: ((14, 30) :: ((12, 4800) :: ((11, 4800) :: ((10, 4160) :: ((9, 8) :: ((8, 32) :: ((7, 8) :: ((6, 8) :: ((5, 8) :: [])))))))))))))))) := by
  revert h
  unfold aL
  split <;> intro h <;> first | omega | exact absurd rfl h | simp
/-- the reference as it begins -/
theorem MI_zero {v9 : Int32} {N : mm} (hq : mm_t M mo = 0) (H : mk 7 mo (mm_nw M mo 8 0) ((22, 320) :: ((21, 320) :: ((20, 320) :: ((19, 600) :: ((18, 600) :: ((17, 600) :: ((15, 30) :: ((14, 30) :: ((12, 4800) :: ((11, 4800) :: ((10, 4160) :: ((9, 8) :: ((8, 32) :: ((7, 8) :: ((6, 8) :: ((5, 8) :: [])))))))))))))))) N) (hv : v9 = nI pw) (C : CI pw D ow sl M o La Le (Z0 pw)) (hDl : ∀ a, D a → mm_t M a ≠ 0) (h0 : mm_t N 0 = 0) : ∃ (D2 : Nat → Prop) (ow2 sl2 : Nat → Nat), (∀ a, D2 a → mm_t (mm_si N 7 1 mo v9) a ≠ 0) ∧ sl2 0 = sl 0 ∧ CI pw D2 ow2 sl2 (mm_si N 7 1 mo v9) o La Le (Z0 pw) ∧ MI pw D2 ow2 sl2 (mm_si N 7 1 mo v9) mo [] (Z0 pw) := by
  have F1 : fa M N := fa_new hq H.fb
  have F2 : fa M (mm_si N 7 1 mo v9) := fa.si F1 hq
  have hn : ¬ D mo := fun z => hDl mo z hq
  have hT : mm_t (mm_nw M mo 8 0) mo = 7 + 1 := if_pos rfl
  have hne : mm_t (mm_nw M mo 8 0) mo ≠ 0 := by rw [hT]; decide
  have S1 : sh pw D ow sl (mm_nw M mo 8 0) := C.1.f8 hDl (fa_nw hq).f8
  obtain ⟨ow2, sl2, S2, e2⟩ := H.shp S1 (fun a ha => by rw [((fa_nw hq) a (hDl a ha)).1]; exact hDl a ha) hT hn (fun k hk => aL7m hk) (fun k => rT_7)
  have S3 : sh pw (fun x => D x ∨ x = mo) ow2 sl2 (mm_si N 7 1 mo v9) := S2
  have hs0 : sl2 0 = sl 0 := e2 0 (by rw [h0]; decide)
  have hTn : mm_t N mo = 8 := (H.1 mo hne).1.trans hT
  have hi : ∀ k, mm_i N 7 k mo = 0 := fun k => ((H.1 mo hne).2.2.2.2.2.1 7 k).trans (if_pos rfl)
  have ha : ∀ k, aL pw 7 k ≠ 0 → ra (mm_si N 7 1 mo v9) mo k = fun _ => 0 := fun k hk => (H.arr (pw := pw) (fun k hk => aL7m hk) hk).2.2.2
  refine ⟨fun x => D x ∨ x = mo, ow2, sl2, fun a h => ?_, hs0, CI_D (CI_fa C hDl F2) S3 (fun a h => Or.inl h) hs0, ⟨S3, Or.inr rfl, hTn⟩, ⟨?_, ?_, ?_, ?_⟩, ⟨rfl, List.nodup_nil, fun p hp => absurd hp List.not_mem_nil⟩, fun i h => absurd h (Nat.not_lt_zero _), fun p hp _ => ?_, ?_, fun w hw => ⟨?_, ?_⟩⟩
  · rcases h with h | h
    · rw [(F2 a (hDl a h)).1]; exact hDl a h
    · rw [h]; show mm_t N mo ≠ 0; rw [hTn]; decide
  · show (if 7 = 7 ∧ 1 = 1 ∧ mo = mo then v9 else mm_i N 7 1 mo) = _
    rw [if_pos ⟨rfl, rfl, rfl⟩]; exact hv
  · show (if 7 = 7 ∧ 2 = 1 ∧ mo = mo then v9 else mm_i N 7 2 mo) = _
    rw [if_neg (fun z => absurd z.2.1 (by decide)), hi]; rfl
  · show (if 7 = 7 ∧ 3 = 1 ∧ mo = mo then v9 else mm_i N 7 3 mo) = _
    rw [if_neg (fun z => absurd z.2.1 (by decide)), hi]; rfl
  · show (if 7 = 7 ∧ 4 = 1 ∧ mo = mo then v9 else mm_i N 7 4 mo) = _
    rw [if_neg (fun z => absurd z.2.1 (by decide)), hi]; rfl
  · rw [ha 5 (aL7 (by decide))]
  · show (if 7 = 7 ∧ 13 = 1 ∧ mo = mo then v9 else mm_i N 7 13 mo) = _
    rw [if_neg (fun z => absurd z.2.1 (by decide)), hi]; rfl
  · rw [ha 14 (aL7 (by decide))]; rfl
  · rw [ha 15 (aL7 (by decide))]; rfl
/-- where the answers go is made last -/
theorem LI_first (C : CI pw D ow sl M o La Le (Z0 pw)) (B : MI pw D ow sl M mo pl (Z0 pw)) (hs0 : sl 0 = t0) (hDl : ∀ a, D a → mm_t M a ≠ 0) (hq : mm_t M out = 0) : LI pw t0 0 (mm_nw M out 101 1) o mo out := by
  have F := fa_nw (t := 101) (n := 1) hq
  have S1 : sh pw D ow sl (mm_nw M out 101 1) := C.1.f8 hDl F.f8
  exact ⟨D, ow, sl, La, Le, pl, Z0 pw, CI_fa C hDl F, MI_kq B (kq_fa C.1 hDl F) S1 (fun _ h => h), ⟨Z0_ok, Z0_8, fun P hP => absurd hP List.not_mem_nil, Nat.le_refl _⟩, hs0, fun a ha => by rw [(F a (hDl a ha)).1]; exact hDl a ha, if_pos rfl, if_pos rfl⟩
theorem lcmp_self {a : Int64} : lg_cmp a a = 0 := by
  unfold lg_cmp
  simp
end M74
