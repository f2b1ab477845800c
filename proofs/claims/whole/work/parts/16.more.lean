/-! ===== calls across a nest, Math, statics, copies of objects ===== -/
section VN
variable {g : gg} {X : State → Prop} {own nm : String} {cc : ByteArray} {nL : Nat} {ret : Option FieldType} {d lo mc ms : Nat} {p : Program} {l : Launch} {e : Env} {R : Room} {s : State} {m : MethodId} {args : Array Value} {below : List Frame} {meth : Method} {c : Code} {Q : State → Prop} {cells slots pc : Nat} {ls : List (Option Value)} {rest : List Value} {M : mm}
variable {y : MethodName} {cc2 : ByteArray} {nL2 d2 lo2 mc2 ms2 idx : Nat} {ret2 : Option FieldType} {av : List Value} {Qr : Option Value → mm → Prop}
def cwn (g : gg) (own : String) (idx : Nat) (y : MethodName) (host : String) (cc2 : ByteArray) (nL2 : Nat) (ret2 : Option FieldType) (n : Nat) : Prop := Cond.methodLinkNest own idx y host ∈ gg_W g ∧ Cond.initialized y.cls ∈ gg_W g ∧ Cond.code y cc2 nL2 ret2 ∈ gg_W g ∧ goodWord (Cond.code y cc2 nL2 ret2) = true ∧ (y.cls ≠ "java/lang/invoke/MethodHandle" ∧ y.cls ≠ "java/lang/invoke/VarHandle") ∧ (parseMethodDescriptor y.desc).map (fun d => d.parameters.length) = some n
theorem cwn.B (x : cx g X own nm cc nL ret d lo mc ms p R s m meth c) {n : Nat} {host : String} (h : cwn g own idx y host cc2 nL2 ret2 n) (hdd : d2 + 1 ≤ d ∧ 19 + nL2 + lo2 ≤ lo) : va_CN R s args own idx y host cc2 nL2 ret2 [.code y cc2 nL2 ret2] (rm d2 lo2 mc2 ms2) mc2 ms2 n := by
  obtain ⟨w1, w2, w3, w4, w5, w6⟩ := h
  have hRr := x.2.2.2.2.2.2.1
  refine ⟨⟨rfl, rfl, by rw [hRr]; exact hdd.1, by rw [hRr]; show 8 + (nL2 + 11) + lo2 ≤ lo; omega, fun w hw a' U hW => ?_, List.mem_singleton.mpr rfl⟩, x.w w3, x.w w2, w5, fun sig h => ?_, x.w w1⟩
  · rw [List.mem_singleton.mp hw]
    exact word_at hW (good_of_word w4) (x.w (a := #[]) w3)
  · rw [h] at w6
    exact (Option.some.inj w6).symm
theorem vv_callSN (x : cx g X own nm cc nL ret d lo mc ms p R s m meth c) {b : List Value} {host : String} (hd : decode cc pc = .ok (.invokestatic idx, 3)) (hM : Ok g X l y cc2 nL2 ret2 d2 lo2 mc2 ms2 av M Qr) (hw : cwn g own idx y host cc2 nL2 ret2 av.length) (hw2 : Cond.static y ∈ gg_W g) (hdd : d2 + 1 ≤ d ∧ 19 + nL2 + lo2 ≤ lo) (h1 : cells + mc2 ≤ mc) (h2 : slots + ms2 ≤ ms) (hst : b = av.reverse ++ rest) (hr : (rest.map fun v => v.category).sum ≤ 8)
    (k : ∀ (v : Option Value) (M' : mm), Qr v M' → vv g nL p l e R s m args below meth c Q (cells + mc2) (slots + ms2) (pc + 3) ls (v.toList ++ rest) M') : vv g nL p l e R s m args below meth c Q cells slots (pc) ls (b) M := by
  intro H locs la hR hz hL hl
  have hRr := x.2.2.2.2.2.2.1
  exact vv_back x hz hL hl (va_runSN (As := av) (rest := rest) ⟨x.1, x.2.1, x.2.2.1, x.2.2.2.1, x.ts⟩ hM ⟨hw.B x hdd, x.w hw2, trivial⟩ ⟨ok_blind, ok_pre hR x.2.2.2.2.2.1⟩ rfl rfl hl.1 hst (lv_room hr) hd ⟨by rw [hRr]; exact h1, by rw [hRr]; exact h2⟩) k
theorem vv_callIN (x : cx g X own nm cc nL ret d lo mc ms p R s m meth c) {b : List Value} {o : Nat} {host : String} (hd : decode cc pc = .ok (.invokespecial idx, 3)) (hM : Ok g X l y cc2 nL2 none d2 lo2 mc2 ms2 (.ref o :: av) M Qr) (hw : cwn g own idx y host cc2 nL2 none av.length) (hy : y.name = "<init>") (hw2 : Cond.instanceMethod y ∈ gg_W g) (hdd : d2 + 1 ≤ d ∧ 19 + nL2 + lo2 ≤ lo) (h1 : cells + mc2 ≤ mc) (h2 : slots + ms2 ≤ ms) (hst : b = av.reverse ++ .ref o :: rest) (hr : (rest.map fun v => v.category).sum ≤ 8)
    (k : ∀ (v : Option Value) (M' : mm), Qr v M' → vv g nL p l e R s m args below meth c Q (cells + mc2) (slots + ms2) (pc + 3) ls (v.toList ++ rest) M') : vv g nL p l e R s m args below meth c Q cells slots (pc) ls (b) M := by
  intro H locs la hR hz hL hl
  have hRr := x.2.2.2.2.2.2.1
  exact vv_back x hz hL hl (va_runIN (As := av) (rest := rest) ⟨x.1, x.2.1, x.2.2.1, x.2.2.2.1, x.ts⟩ hM ⟨hw.B x hdd, hy, x.w hw2⟩ ⟨ok_blind, ok_pre hR x.2.2.2.2.2.1⟩ rfl rfl hl.1 hst (lv_room hr) hd ⟨by rw [hRr]; exact h1, by rw [hRr]; exact h2⟩) k
theorem vv_mmax (x : cx g X own nm cc nL ret d lo mc ms p R s m meth c) {a b : Int32} (hd : decode cc pc = .ok (.invokestatic idx, 3)) (w1 : Cond.methodLink own idx Lib.Math.max.name ∈ gg_W g) (w2 : Cond.static Lib.Math.max.name ∈ gg_W g) (w3 : Cond.initialized "java/lang/Math" ∈ gg_W g) (w4 : Cond.code Lib.Math.max.name Lib.Math.max.code 2 (some .int) ∈ gg_W g) (hdd : 1 ≤ d ∧ 21 ≤ lo) (hr : (rest.map fun v => v.category).sum ≤ 8) (h1 : cells ≤ mc) (h2 : slots ≤ ms)
    (k : vv g nL p l e R s m args below meth c Q cells slots (pc + 3) ls (.int (if a < b then b else a) :: rest) M) : vv g nL p l e R s m args below meth c Q cells slots (pc) ls (.int b :: .int a :: rest) M := by
  intro H locs la hR hz hL hl
  have hRr := x.2.2.2.2.2.2.1
  exact va_mmax x.1 x.2.1 (by rw [x.2.2.1]; exact hl.1.symm) x.2.2.2.1 (x.w w1) (x.w w2) (x.w w3) (x.w w4) (by rw [hRr]; exact hdd.1) (by rw [hRr]; show _ ≤ lo; omega) (by rw [hRr]; exact h1) (by rw [hRr]; exact h2) hd (k H locs la hR hz hL hl)
theorem vv_mmin (x : cx g X own nm cc nL ret d lo mc ms p R s m meth c) {a b : Int32} (hd : decode cc pc = .ok (.invokestatic idx, 3)) (w1 : Cond.methodLink own idx Lib.Math.min.name ∈ gg_W g) (w2 : Cond.static Lib.Math.min.name ∈ gg_W g) (w3 : Cond.initialized "java/lang/Math" ∈ gg_W g) (w4 : Cond.code Lib.Math.min.name Lib.Math.min.code 2 (some .int) ∈ gg_W g) (hdd : 1 ≤ d ∧ 21 ≤ lo) (hr : (rest.map fun v => v.category).sum ≤ 8) (h1 : cells ≤ mc) (h2 : slots ≤ ms)
    (k : vv g nL p l e R s m args below meth c Q cells slots (pc + 3) ls (.int (if b < a then b else a) :: rest) M) : vv g nL p l e R s m args below meth c Q cells slots (pc) ls (.int b :: .int a :: rest) M := by
  intro H locs la hR hz hL hl
  have hRr := x.2.2.2.2.2.2.1
  exact va_mmin x.1 x.2.1 (by rw [x.2.2.1]; exact hl.1.symm) x.2.2.2.1 (x.w w1) (x.w w2) (x.w w3) (x.w w4) (by rw [hRr]; exact hdd.1) (by rw [hRr]; show _ ≤ lo; omega) (by rw [hRr]; exact h1) (by rw [hRr]; exact h2) hd (k H locs la hR hz hL hl)
theorem vv_gets (x : cx g X own nm cc nL ret d lo mc ms p R s m meth c) {C9 n9 d9 : String} {t : Nat} (hd : decode cc pc = .ok (.getstatic idx, 3)) (w1 : Cond.fieldLink own idx C9 n9 d9 ∈ gg_W g) (hX : ∀ U : State, X U → va_Z C9 n9 d9 (.ref t) (ok_F g) U (gg_H g))
    (k : vv g nL p l e R s m args below meth c Q cells slots (pc + 3) ls (.ref t :: rest) M) : vv g nL p l e R s m args below meth c Q cells slots (pc) ls (rest) M := by
  intro H locs la hR hz hL hl
  obtain ⟨hb1, hb2⟩ := x.2.2.2.2.2.2.2.2.2
  have hk : ∀ a : Nat, a < (gg_H g).size → ¬ ok_F g a → s.heap[a]? = (gg_H g)[a]? := fun a h _ => hb2 a h
  exact va_gets (A := ok_F g) x.1 x.2.1 ((hX s x.2.2.2.2.2.1.2.2.2).kept hk) ⟨hz, fun q _ h => by rw [hR.2.2.2.2 q (Nat.not_le.mp h), hb2 q (Nat.not_le.mp h)], hL⟩ x.2.2.2.1 (x.w w1) (fun _ h => h) hd (k H locs la hR hz hL hl)
/-- the length of an array that is given at the start -/
theorem vv_alenS (x : cx g X own nm cc nL ret d lo mc ms p R s m meth c) {t N : Nat} {ty : FieldType} {f : Nat → Value} (hd : decode cc pc = .ok (.arraylength, 1)) (hX : ∀ U : State, X U → va_T ty t N f (ok_F g) U (gg_H g))
    (k : vv g nL p l e R s m args below meth c Q cells slots (pc + 1) ls (.int (nI N) :: rest) M) : vv g nL p l e R s m args below meth c Q cells slots (pc) ls (.ref t :: rest) M := by
  intro H locs la hR hz hL hl
  obtain ⟨cell, h1, h2, h3, h4, h5, h6, h7⟩ := hX s x.2.2.2.2.2.1.2.2.2
  have ht : t < (gg_H g).size := (Array.getElem?_eq_some_iff.mp h1).1
  exact W.alen (n := nI N) x.1 x.2.1 (by rw [hR.2.2.2.2 t ht]; exact h1) h2 h5 rfl rfl hd (k H locs la hR hz hL hl)
theorem vv_copyQ (x : cx g X own nm cc nL ret d lo mc ms p R s m meth c) {a0 a ci : Nat} {r : vw_C} {sp dp n : Int32} (hd : decode cc pc = .ok (.invokestatic idx, 3)) (w1 : Cond.methodLink own idx arraycopyName ∈ gg_W g) (w2 : Cond.native arraycopyName ∈ gg_W g) (w3 : Cond.static arraycopyName ∈ gg_W g) (w4 : Cond.initialized "java/lang/System" ∈ gg_W g) (ht0 : mm_t M a0 = 102) (ht1 : mm_t M a = 102)
    (h1 : ¬ sp < 0) (h2 : ¬ dp < 0) (h3 : ¬ n < 0) (h4 : sp.toNatClampNeg + n.toNatClampNeg ≤ mm_n M a0) (h5 : dp.toNatClampNeg + n.toNatClampNeg ≤ mm_n M a) (hc : (gg_cl g)[ci]? = some r) (hw : Cond.castable r.1 "java/lang/Object" ∈ gg_W g) (hel : ∀ i : Nat, i < n.toNatClampNeg → mm_q M a0 (sp.toNatClampNeg + i) ≠ 0 → mm_t M (mm_e M a0 (sp.toNatClampNeg + i)) = ci + 1) (hdd : 1 ≤ d ∧ 8 + (nativeFrameWords "java/lang/System" "arraycopy" 5 + 11) ≤ lo) (hr : (rest.map fun v => v.category).sum ≤ 8)
    (kk : vv g nL p l e R s m args below meth c Q cells slots (pc + 3) ls (rest) (mm_sq M a (va_cpy (mm_q M a0) (mm_q M a) sp.toNatClampNeg dp.toNatClampNeg n.toNatClampNeg))) : vv g nL p l e R s m args below meth c Q cells slots (pc) ls (.int n :: .int dp :: .ref a :: .int sp :: .ref a0 :: rest) M := by
  intro H locs la hR hz hL hl T hT XX
  have hRr := x.2.2.2.2.2.2.1
  obtain ⟨-, hc0⟩ := (hR.1 a0).2.2.1 ht0
  obtain ⟨ha, hc1⟩ := (hR.1 a).2.2.1 ht1
  obtain ⟨-, k0, hk0, cm0, hkk0⟩ := (x.2.2.2.2.2.1.2.1.2 2 _ rfl).1 (mm_n M a0) (fun j => mm_rv (mm_q M a0 j))
  obtain ⟨-, k1, hk1, cm1, hkk1⟩ := (x.2.2.2.2.2.1.2.1.2 2 _ rfl).1 (mm_n M a) (fun j => mm_rv (mm_q M a j))
  obtain ⟨vm', X', step⟩ := XX.arraycopy x.1 x.2.2.2.1 (x.w w1) (x.w w2) (x.w w3) (x.w w4) (src := a0) (dst := a) (cs := arrV (gg_Q g) (mm_n M a0) (fun j => mm_rv (mm_q M a0 j))) (cd := arrV (gg_Q g) (mm_n M a) (fun j => mm_rv (mm_q M a j))) (srcPos := sp) (destPos := dp) (n := n) (by rw [hT]; exact hc0) (by rw [hT]; exact hc1)
    (fun _ h => by cases h) (fun _ h => by cases h) (fun h => by cases h) (fun h => by cases h) hk0 hk1 hkk0 hkk1 rfl h1 h2 h3
    (by rw [nn_clamp h1, nn_clamp h3, arrV_size]; omega)
    (by rw [nn_clamp h2, nn_clamp h3, arrV_size]; omega)
    (fun vm₁ hal i hi => by
      have e9 : (arrV (gg_Q g) (mm_n M a0) (fun j => mm_rv (mm_q M a0 j))).slots.getD (sp.toNatClampNeg + i) .null = mm_rv (mm_q M a0 (sp.toNatClampNeg + i)) := by
        rw [Array.getD_eq_getD_getElem?, arrV_read _ _ (by omega)]
        rfl
      rw [e9]
      by_cases hy : mm_q M a0 (sp.toNatClampNeg + i) = 0
      · rw [hy]
        exact ⟨rfl, trivial⟩
      · have hv : mm_rv (mm_q M a0 (sp.toNatClampNeg + i)) = .ref (mm_e M a0 (sp.toNatClampNeg + i)) := by rw [mm_rv, if_neg hy]; rfl
        rw [hv]
        obtain ⟨cellV, g1, g2, g3⟩ := mm_recv x hR hc (hel i hi hy)
        obtain ⟨kA, comp, r1, r2, r3, -⟩ := (x.2.2.2.2.2.1.2.1.2 2 _ rfl).2
        obtain ⟨c0, t0, f1, f2, f3⟩ := Cond.castable_spec (x.w (a := args) hw)
        cases g3.symm.trans f1
        cases r3.symm.trans f2
        cases hk1.symm.trans r1
        cases hkk1.symm.trans r2
        obtain ⟨kE, hkE, -⟩ := Vm.findClass_spec r3
        obtain ⟨kC, hkC, -⟩ := Vm.findClass_spec g3
        obtain ⟨kC', hkC', -⟩ := hal.2.2 _ _ hkC
        obtain ⟨kE', hkE', -⟩ := hal.2.2 _ _ hkE
        refine ⟨rfl, cellV, (show T.heap[mm_e M a0 (sp.toNatClampNeg + i)]? = some cellV by rw [hT]; exact g1), (fun q h => by rw [h] at g2; cases g2), ⟨kC', hkC'⟩, ?_, ?_⟩
        · exact ⟨kE', hkE'⟩
        · show vm₁.assignable _ _ = true
          rw [hal.assignable]
          exact f3)
    (g := F0 m pc la (.int n :: .int dp :: .ref a :: .int sp :: .ref a0 :: rest)) rfl (by rw [x.2.2.1]; exact hl.1) (rest := rest) rfl (by rw [x.2.1]; exact hd) (by rw [hRr]; exact hdd.1) (by rw [hRr]; show 2 * 0 + _ + (nativeFrameWords "java/lang/System" "arraycopy" 5 + 11) ≤ lo; omega)
  have e1 : copied (arrV (gg_Q g) (mm_n M a0) (fun j => mm_rv (mm_q M a0 j))) (arrV (gg_Q g) (mm_n M a) (fun j => mm_rv (mm_q M a j))) sp dp n = arrV (gg_Q g) (mm_n M a) (fun j => mm_rv (va_cpy (mm_q M a0) (mm_q M a) sp.toNatClampNeg dp.toNatClampNeg n.toNatClampNeg j)) := va_copied (fun z => mm_rv z) _ _ _ _ h4
  rw [e1] at X' step
  have hla : a < H.size := (Array.getElem?_eq_some_iff.mp hc1).1
  have hheap : ((T.setVm vm').setCell a (arrV (gg_Q g) (mm_n M a) (fun j => mm_rv (va_cpy (mm_q M a0) (mm_q M a) sp.toNatClampNeg dp.toNatClampNeg n.toNatClampNeg j)))).heap = H.setIfInBounds a (arrV (gg_Q g) (mm_n M a) (fun j => mm_rv (va_cpy (mm_q M a0) (mm_q M a) sp.toNatClampNeg dp.toNatClampNeg n.toNatClampNeg j))) := by rw [← hT]; rfl
  have oq : ∀ q : Nat, q ≠ a → (H.setIfInBounds a (arrV (gg_Q g) (mm_n M a) (fun j => mm_rv (va_cpy (mm_q M a0) (mm_q M a) sp.toNatClampNeg dp.toNatClampNeg n.toNatClampNeg j))))[q]? = H[q]? := fun q hq => by simp [Array.getElem?_setIfInBounds, Ne.symm hq]
  obtain ⟨t, a1, b1⟩ := kk _ _ la (hR.put ha (by simp) oq (fun b hb => mm_eq.sq hb) (mm_atQ hR.2.1 ht1 ha (by
      have e8 : mm_q (mm_sq M a (va_cpy (mm_q M a0) (mm_q M a) sp.toNatClampNeg dp.toNatClampNeg n.toNatClampNeg)) a = va_cpy (mm_q M a0) (mm_q M a) sp.toNatClampNeg dp.toNatClampNeg n.toNatClampNeg := if_pos rfl
      rw [e8, Array.getElem?_setIfInBounds, if_pos rfl, if_pos hla]
      rfl))) (by simp; exact hz) (fun q hq => by
      rcases List.mem_append.mp hq with h | h
      · exact hL q h
      · obtain ⟨z, -, hz9⟩ := List.mem_map.mp h
        rw [← hz9]
        exact ha) hl _ hheap X'
  exact ⟨t, step t a1, b1⟩
end VN
