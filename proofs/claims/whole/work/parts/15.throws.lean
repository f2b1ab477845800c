/-! ===== methods that may throw ===== -/
def ox_X (g : gg) (Qx : String → mm → Prop) : String → State → State → Prop := fun E st t => ∃ M' : mm, Qx E M' ∧ mm_R g M' t.heap ∧ st.heap.size ≤ t.heap.size
def OkX (g : gg) (X : State → Prop) (l : Launch) (y : MethodName) (cc : ByteArray) (nL : Nat) (ret : Option FieldType) (d lo mc ms : Nat) (av : List Value) (M : mm) (Qr : Option Value → mm → Prop) (Qx : String → mm → Prop) : Prop :=
  vx_Met l y [.code y cc nL ret] (rm d lo mc ms) (ok_P g X av M) (ok_Q g Qr) (ox_X g Qx) mc ms (ok_F g)
section VX
variable {g : gg} {X : State → Prop} {own nm : String} {cc : ByteArray} {nL : Nat} {ret : Option FieldType} {d lo mc ms : Nat} {p : Program} {l : Launch} {e : Env} {R : Room} {s : State} {m : MethodId} {args : Array Value} {below : List Frame} {meth : Method} {c : Code} {cells slots pc : Nat} {ls : List (Option Value)} {rest : List Value} {M : mm}
variable {y : MethodName} {cc2 : ByteArray} {nL2 d2 lo2 mc2 ms2 idx : Nat} {ret2 : Option FieldType} {av : List Value} {Qr Qr2 : Option Value → mm → Prop} {Qx Qx2 : String → mm → Prop}
theorem okx_start (hy : plainName y.cls = true) (hl : av.length ≤ nL) (hav : ∀ v ∈ av, v.category = 1)
    (body : ∀ (p : Program) (e : Env) (s : State) (m : MethodId) (args : Array Value) (below : List Frame) (meth : Method) (c : Code), cx g X y.cls y.name cc nL ret d lo mc ms p (rm d lo mc ms) s m meth c → (∀ x ∈ c.exceptionTable.toList, False) → vv g nL p l e (rm d lo mc ms) s m args below meth c (vx_MQ below (ok_Q g Qr) (ox_X g Qx) args s mc ms (ok_F g)) 0 0 0 (lz_en av nL) [] M) : OkX g X l y cc nL ret d lo mc ms av M Qr Qx := by
  refine vx_ofW (cc := cc) (maxL := nL) (ret := ret) hy rfl ?_
  intro p e s m args below meth c s₁ B hml ht0 hv
  obtain ⟨rfl, hR, hK⟩ := hv
  rw [lg_entry_eq]
  exact body p e s m _ below meth c ⟨B.exec, B.bytes, hml, findClass_of_methodNamed B.named, B.notSynchronized, hK, rfl, B.returns, (name_of_methodNamed B.named B.method).1, hR.2.2.2.1, hR.2.2.2.2⟩ ht0 s.heap [] _ hR (Nat.le_refl _) (fun q h => nomatch h) (lz_entry hl hav)
theorem vvx_ret {st : List Value} (k : vv g nL p l e R s m args below meth c (MQ below (ok_Q g Qr) args s mc ms (ok_F g)) cells slots pc ls st M) : vv g nL p l e R s m args below meth c (vx_MQ below (ok_Q g Qr) (ox_X g Qx) args s mc ms (ok_F g)) cells slots (pc) ls (st) M := fun H locs la hR hz hL hl => vx_ret (k H locs la hR hz hL hl)
/-- behind a call that may have thrown; nothing here catches -/
theorem vvx_back (x : cx g X own nm cc nL ret d lo mc ms p R s m meth c) (ht0 : ∀ x ∈ c.exceptionTable.toList, False) {b : List Value} {av2 : Array Value} {H : Heap} (hz : s.heap.size ≤ H.size) {locs : List Loc} {la : Array Slot} (hL : ∀ q ∈ locs, (gg_H g).size ≤ q.base) (hl : lz la nL ls) (h1 : cells + mc2 ≤ mc) (h2 : slots + ms2 ≤ ms)
    (hr : vx_Run p l e R s m args below meth c H locs cells slots mc2 ms2 (F0 m pc la b) rest (ok_Q g Qr2 av2) (ox_X g Qx2) (ok_F g))
    (k : ∀ (v : Option Value) (M' : mm), Qr2 v M' → vv g nL p l e R s m args below meth c (vx_MQ below (ok_Q g Qr) (ox_X g Qx) args s mc ms (ok_F g)) (cells + mc2) (slots + ms2) (pc + 3) ls (v.toList ++ rest) M') (kx : ∀ (E : String) (M' : mm), Qx2 E M' → Qx E M') : W p l e R s m args below meth c H locs cells slots (vx_MQ below (ok_Q g Qr) (ox_X g Qx) args s mc ms (ok_F g)) (F0 m pc la b) := by
  intro T hT XX
  rcases hr T hT XX with ⟨v, st₀, t, T', L, h0, X', hLL, e1, e2, ⟨v', M', hv, hq, hR', hz'⟩, go⟩ | ⟨q, st₀, t, T', L, E, ce, h0, X', hLL, e1, e2, ⟨M', hq, hR', hz'⟩, hce, hcv, hcl, go⟩
  · cases hv
    obtain ⟨t2, a1, b1⟩ := k v M' hq T'.heap (locs ++ L) la (by rw [e1]; exact hR') (by rw [e1]; rw [h0] at hz'; omega) (fun q hq9 => (List.mem_append.mp hq9).elim (hL q) (hLL q)) hl T' rfl X'
    exact ⟨t2, go t2 a1, b1⟩
  · obtain ⟨t2, a1, b1⟩ := vx_out (Qc := ok_Q g Qr) (XC := ox_X g Qx) (free := ok_F g) (H := T'.heap) (ls := la) (pc := pc) (rest := rest) (mc := mc) (ms := ms) (fun x hx => (ht0 x hx).elim) x.2.2.2.2.1 (by rw [e1]; exact hce) hcv hcl (fun t9 h9 _ => ⟨M', kx E M' hq, by rw [h9, e1]; exact hR', by rw [h9, e1]; rw [h0] at hz'; omega⟩) (fun q hq9 => (List.mem_append.mp hq9).elim (hL q) (hLL q)) h1 h2 T' rfl X'
    exact ⟨t2, go.trans a1, b1⟩
theorem vvx_callS (x : cx g X own nm cc nL ret d lo mc ms p R s m meth c) (ht0 : ∀ x ∈ c.exceptionTable.toList, False) {b : List Value} (hd : decode cc pc = .ok (.invokestatic idx, 3)) (hM : OkX g X l y cc2 nL2 ret2 d2 lo2 mc2 ms2 av M Qr2 Qx2) (hw : cw g own idx y cc2 nL2 ret2 av.length) (hw2 : Cond.static y ∈ gg_W g) (hdd : d2 + 1 ≤ d ∧ 19 + nL2 + lo2 ≤ lo) (h1 : cells + mc2 ≤ mc) (h2 : slots + ms2 ≤ ms) (hst : b = av.reverse ++ rest) (hr : (rest.map fun v => v.category).sum ≤ 8)
    (k : ∀ (v : Option Value) (M' : mm), Qr2 v M' → vv g nL p l e R s m args below meth c (vx_MQ below (ok_Q g Qr) (ox_X g Qx) args s mc ms (ok_F g)) (cells + mc2) (slots + ms2) (pc + 3) ls (v.toList ++ rest) M') (kx : ∀ (E : String) (M' : mm), Qx2 E M' → Qx E M') : vv g nL p l e R s m args below meth c (vx_MQ below (ok_Q g Qr) (ox_X g Qx) args s mc ms (ok_F g)) cells slots (pc) ls (b) M := by
  intro H locs la hR hz hL hl
  have hRr := x.2.2.2.2.2.2.1
  exact vvx_back x ht0 hz hL hl h1 h2 (vx_runS (As := av) (rest := rest) ⟨x.1, x.2.1, x.2.2.1, x.2.2.2.1, x.ts⟩ hM ⟨hw.B x hdd, x.w hw2⟩ ⟨ok_blind, ok_pre hR x.2.2.2.2.2.1⟩ rfl rfl hl.1 hst (lv_room hr) hd ⟨by rw [hRr]; exact h1, by rw [hRr]; exact h2⟩) k kx
theorem vvx_callV (x : cx g X own nm cc nL ret d lo mc ms p R s m meth c) (ht0 : ∀ x ∈ c.exceptionTable.toList, False) {b : List Value} {ci o : Nat} {r : vw_C} (hd : decode cc pc = .ok (.invokevirtual idx, 3)) (hM : OkX g X l y cc2 nL2 ret2 d2 lo2 mc2 ms2 (.ref o :: av) M Qr2 Qx2) (hw : cw g own idx y cc2 nL2 ret2 av.length) (hw2 : Cond.instanceMethod y ∈ gg_W g) (hw3 : Cond.selects r.1 y y ∈ gg_W g) (hc : (gg_cl g)[ci]? = some r) (ht : mm_t M o = ci + 1) (hdd : d2 + 1 ≤ d ∧ 19 + nL2 + lo2 ≤ lo) (h1 : cells + mc2 ≤ mc) (h2 : slots + ms2 ≤ ms) (hst : b = av.reverse ++ .ref o :: rest) (hr : (rest.map fun v => v.category).sum ≤ 8)
    (k : ∀ (v : Option Value) (M' : mm), Qr2 v M' → vv g nL p l e R s m args below meth c (vx_MQ below (ok_Q g Qr) (ox_X g Qx) args s mc ms (ok_F g)) (cells + mc2) (slots + ms2) (pc + 3) ls (v.toList ++ rest) M') (kx : ∀ (E : String) (M' : mm), Qx2 E M' → Qx E M') : vv g nL p l e R s m args below meth c (vx_MQ below (ok_Q g Qr) (ox_X g Qx) args s mc ms (ok_F g)) cells slots (pc) ls (b) M := by
  intro H locs la hR hz hL hl
  have hRr := x.2.2.2.2.2.2.1
  exact vvx_back x ht0 hz hL hl h1 h2 (vx_runV (As := av) (rest := rest) ⟨x.1, x.2.1, x.2.2.1, x.2.2.2.1, x.ts⟩ hM ⟨hw.B x hdd, x.w hw2, x.w hw3⟩ ⟨ok_blind, mm_recv x hR hc ht, ok_pre hR x.2.2.2.2.2.1⟩ rfl rfl hl.1 hst (lv_room hr) hd ⟨by rw [hRr]; exact h1, by rw [hRr]; exact h2⟩) k kx
/-- throw new E() -/
theorem vvx_throw (x : cx g X own nm cc nL ret d lo mc ms p R s m meth c) (ht0 : ∀ x ∈ c.exceptionTable.toList, False) (hl0 : l.stackTraces = false) {cls : String} {names : List String} {ik ic : Nat} (hcls : Bundle.fit cls = true) (hnames : ∀ n ∈ names, Bundle.fit n = true) (w1 : Cond.classLink own ik cls ∈ gg_W g) (w2 : Cond.initialized cls ∈ gg_W g) (w3 : ∀ w ∈ vx_at0 own ic cls names, w ∈ gg_W g)
    (hgood : ∀ w ∈ Cond.classLink own ik cls :: Cond.initialized cls :: vx_at0 own ic cls names, vx_ot w = true) (hX : ∀ U : State, X U → vx_Zq Bundle.tN "UNASSIGNED_STACK" Bundle.steD (ok_F g) U (gg_H g) ∧ vx_Zq Bundle.tN "SUPPRESSED_SENTINEL" Bundle.listD (ok_F g) U (gg_H g))
    (d0 : decode cc pc = .ok (.new ik, 3)) (d3 : decode cc (pc + 3) = .ok (.dup, 1)) (d4 : decode cc (pc + 4) = .ok (.invokespecial ic, 3)) (d7 : decode cc (pc + 7) = .ok (.athrow, 1)) (hdd : names.length + 3 < d ∧ 8 + (13 * (names.length + 1) + 42) ≤ lo) (hr : (rest.map fun v => v.category).sum ≤ 8) (h1 : cells + 1 ≤ mc) (h2 : slots + 6 ≤ ms) (hq : Qx cls M) : vv g nL p l e R s m args below meth c (vx_MQ below (ok_Q g Qr) (ox_X g Qx) args s mc ms (ok_F g)) cells slots (pc) ls (rest) M := by
  intro H locs la hR hz hL hl
  have hRr := x.2.2.2.2.2.2.1
  obtain ⟨hb1, hb2⟩ := x.2.2.2.2.2.2.2.2.2
  obtain ⟨z1, z2⟩ := hX s x.2.2.2.2.2.1.2.2.2
  have hk : ∀ a : Nat, a < (gg_H g).size → ¬ ok_F g a → s.heap[a]? = (gg_H g)[a]? := fun a h _ => hb2 a h
  exact vx_throw0 (cc := cc) (A := ok_F g) (own := own) (cls := cls) (names := names) (ik := ik) (ic := ic) x.1 x.2.1 hl0 x.2.2.2.1 hcls hnames (x.w w1) (x.w w2) (fun w hw => x.w (w3 w hw)) hgood (z1.kept hk) (z2.kept hk) ⟨hz, fun q _ h => by rw [hR.2.2.2.2 q (Nat.not_le.mp h), hb2 q (Nat.not_le.mp h)], hL⟩ (by rw [x.2.2.1]; exact hl.1) d0 d3 d4 d7 (fun x9 hx9 => (ht0 x9 hx9).elim)
    (by rw [hRr]; exact hdd.1) (by rw [hRr]; show _ ≤ lo; omega) (by rw [hRr]; exact h1) (by rw [hRr]; exact h2) x.2.2.2.2.1 (fun t _ h8 h9 => ⟨M, hq, hR.grow h8 h9, Nat.le_trans hz h8⟩) hL h1 h2
end VX
