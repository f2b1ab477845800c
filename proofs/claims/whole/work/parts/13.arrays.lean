/-! ===== arraycopy, arrays of objects ===== -/
theorem nn_clamp {z : Int32} (hz : ¬ z < 0) : z.toInt = (z.toNatClampNeg : Int) := by
  have hz0 : (0 : Int) ≤ z.toInt := by
    have := Int32.not_lt.mp hz
    simpa using Int32.le_iff_toInt_le.mp this
  show z.toInt = ((z.toInt.toNat : Nat) : Int)
  omega
section VG
variable {g : gg} {X : State → Prop} {own nm : String} {cc : ByteArray} {nL : Nat} {ret : Option FieldType} {d lo mc ms : Nat} {p : Program} {l : Launch} {e : Env} {R : Room} {s : State} {m : MethodId} {args : Array Value} {below : List Frame} {meth : Method} {c : Code} {Q : State → Prop} {cells slots pc : Nat} {ls : List (Option Value)} {rest : List Value} {M : mm}
theorem vv_copyI (x : cx g X own nm cc nL ret d lo mc ms p R s m meth c) {idx a0 a : Nat} {sp dp n : Int32} (hd : decode cc pc = .ok (.invokestatic idx, 3)) (w1 : Cond.methodLink own idx arraycopyName ∈ gg_W g) (w2 : Cond.native arraycopyName ∈ gg_W g) (w3 : Cond.static arraycopyName ∈ gg_W g) (w4 : Cond.initialized "java/lang/System" ∈ gg_W g) (ht0 : mm_t M a0 = 100) (ht1 : mm_t M a = 100)
    (h1 : ¬ sp < 0) (h2 : ¬ dp < 0) (h3 : ¬ n < 0) (h4 : sp.toNatClampNeg + n.toNatClampNeg ≤ mm_n M a0) (h5 : dp.toNatClampNeg + n.toNatClampNeg ≤ mm_n M a) (hdd : 1 ≤ d ∧ 8 + (nativeFrameWords "java/lang/System" "arraycopy" 5 + 11) ≤ lo) (hr : (rest.map fun v => v.category).sum ≤ 8)
    (kk : vv g nL p l e R s m args below meth c Q cells slots (pc + 3) ls (rest) (mm_sa M a (va_cpy (mm_a M a0) (mm_a M a) sp.toNatClampNeg dp.toNatClampNeg n.toNatClampNeg))) : vv g nL p l e R s m args below meth c Q cells slots (pc) ls (.int n :: .int dp :: .ref a :: .int sp :: .ref a0 :: rest) M := by
  intro H locs la hR hz hL hl T hT XX
  have hRr := x.2.2.2.2.2.2.1
  obtain ⟨-, hc0⟩ := (hR.1 a0).1 ht0
  obtain ⟨ha, hc1⟩ := (hR.1 a).1 ht1
  obtain ⟨-, k0, hk0, cm0, hkk0⟩ := (x.2.2.2.2.2.1.2.1.2 0 _ rfl).1 (mm_n M a0) (fun j => Value.int (mm_a M a0 j))
  obtain ⟨-, k1, hk1, cm1, hkk1⟩ := (x.2.2.2.2.2.1.2.1.2 0 _ rfl).1 (mm_n M a) (fun j => Value.int (mm_a M a j))
  obtain ⟨vm', X', step⟩ := XX.arraycopy x.1 x.2.2.2.1 (x.w w1) (x.w w2) (x.w w3) (x.w w4) (src := a0) (dst := a) (cs := arrV (gg_I g) (mm_n M a0) (fun j => Value.int (mm_a M a0 j))) (cd := arrV (gg_I g) (mm_n M a) (fun j => Value.int (mm_a M a j))) (srcPos := sp) (destPos := dp) (n := n) (by rw [hT]; exact hc0) (by rw [hT]; exact hc1)
    (fun _ h => by cases h) (fun _ h => by cases h) (fun h => by cases h) (fun h => by cases h) hk0 hk1 hkk0 hkk1 (by simp [refKind]) h1 h2 h3
    (by rw [nn_clamp h1, nn_clamp h3, arrV_size]; omega)
    (by rw [nn_clamp h2, nn_clamp h3, arrV_size]; omega)
    (fun vm₁ _ i hi => by
      have e9 : (arrV (gg_I g) (mm_n M a0) (fun j => Value.int (mm_a M a0 j))).slots.getD (sp.toNatClampNeg + i) .null = Value.int (mm_a M a0 (sp.toNatClampNeg + i)) := by
        rw [Array.getD_eq_getD_getElem?, arrV_read _ _ (by omega)]
        rfl
      refine ⟨?_, ?_⟩
      · rw [e9]; rfl
      · rw [e9]; exact trivial)
    (g := F0 m pc la (.int n :: .int dp :: .ref a :: .int sp :: .ref a0 :: rest)) rfl (by rw [x.2.2.1]; exact hl.1) (rest := rest) rfl (by rw [x.2.1]; exact hd) (by rw [hRr]; exact hdd.1) (by rw [hRr]; show 2 * 0 + _ + (nativeFrameWords "java/lang/System" "arraycopy" 5 + 11) ≤ lo; omega)
  have e1 : copied (arrV (gg_I g) (mm_n M a0) (fun j => Value.int (mm_a M a0 j))) (arrV (gg_I g) (mm_n M a) (fun j => Value.int (mm_a M a j))) sp dp n = arrV (gg_I g) (mm_n M a) (fun j => Value.int (va_cpy (mm_a M a0) (mm_a M a) sp.toNatClampNeg dp.toNatClampNeg n.toNatClampNeg j)) := va_copied (fun z => Value.int z) _ _ _ _ h4
  rw [e1] at X' step
  have hla : a < H.size := (Array.getElem?_eq_some_iff.mp hc1).1
  have hheap : ((T.setVm vm').setCell a (arrV (gg_I g) (mm_n M a) (fun j => Value.int (va_cpy (mm_a M a0) (mm_a M a) sp.toNatClampNeg dp.toNatClampNeg n.toNatClampNeg j)))).heap = H.setIfInBounds a (arrV (gg_I g) (mm_n M a) (fun j => Value.int (va_cpy (mm_a M a0) (mm_a M a) sp.toNatClampNeg dp.toNatClampNeg n.toNatClampNeg j))) := by rw [← hT]; rfl
  have oq : ∀ q : Nat, q ≠ a → (H.setIfInBounds a (arrV (gg_I g) (mm_n M a) (fun j => Value.int (va_cpy (mm_a M a0) (mm_a M a) sp.toNatClampNeg dp.toNatClampNeg n.toNatClampNeg j))))[q]? = H[q]? := fun q hq => by simp [Array.getElem?_setIfInBounds, Ne.symm hq]
  obtain ⟨t, a1, b1⟩ := kk _ _ la (hR.put ha (by simp) oq (fun b hb => mm_eq.sa hb) (mm_atI hR.2.1 ht1 ha (by
      have e8 : mm_a (mm_sa M a (va_cpy (mm_a M a0) (mm_a M a) sp.toNatClampNeg dp.toNatClampNeg n.toNatClampNeg)) a = va_cpy (mm_a M a0) (mm_a M a) sp.toNatClampNeg dp.toNatClampNeg n.toNatClampNeg := if_pos rfl
      rw [e8, Array.getElem?_setIfInBounds, if_pos rfl, if_pos hla]
      rfl))) (by simp; exact hz) (fun q hq => by
      rcases List.mem_append.mp hq with h | h
      · exact hL q h
      · obtain ⟨z, -, hz9⟩ := List.mem_map.mp h
        rw [← hz9]
        exact ha) hl _ hheap X'
  exact ⟨t, step t a1, b1⟩
theorem vv_aast (x : cx g X own nm cc nL ret d lo mc ms p R s m meth c) {ci a v : Nat} {r : vw_C} {i : Int32} (hd : decode cc pc = .ok (.aastore, 1)) (ht : mm_t M a = 102) (hi : vp_in i (mm_n M a)) (hc : (gg_cl g)[ci]? = some r) (hv : mm_t M v = ci + 1) (hw : Cond.castable r.1 "java/lang/Object" ∈ gg_W g)
    (kk : vv g nL p l e R s m args below meth c Q cells slots (pc + 1) ls (rest) (mm_sq M a (va_up (mm_q M a) i.toNatClampNeg (v + 1)))) : vv g nL p l e R s m args below meth c Q cells slots (pc) ls (.ref v :: .int i :: .ref a :: rest) M := by
  intro H locs la hR hz hL hl
  obtain ⟨ha, hca⟩ := (hR.1 a).2.2.1 ht
  have hlt : i.toNatClampNeg < mm_n M a := Nat.not_le.mp fun q => hi (Or.inr q)
  obtain ⟨cellV, g1, g2, g3⟩ := mm_recv x hR hc hv
  obtain ⟨kA, comp, k1, k2, k3, -⟩ := (x.2.2.2.2.2.1.2.1.2 2 _ rfl).2
  obtain ⟨c0, t0, f1, f2, f3⟩ := Cond.castable_spec (x.w (a := args) hw)
  cases g3.symm.trans f1
  cases k3.symm.trans f2
  obtain ⟨kC, hkC, -⟩ := Vm.findClass_spec g3
  obtain ⟨kE, hkE, -⟩ := Vm.findClass_spec k3
  refine W.aast x.1 x.2.1 hca (fun q h => by cases h) (fun h => by cases h) k1 k2 rfl hkE ⟨fun q => hi (Or.inl q), by rw [arrV_size]; exact hlt⟩ g1 (fun q h => by rw [h] at g2; cases g2) hkC f3 rfl rfl hd fun H1 e1 z o => ?_
  refine kk H1 _ la (hR.put ha z o (fun b hb => mm_eq.sq hb) (mm_atQ hR.2.1 ht ha ?_)) (by rw [z]; exact hz) (lc_put hL ha) hl
  rw [e1, arrV_store]
  congr 2
  funext j
  show updV (fun j => mm_rv (mm_q M a j)) i.toNatClampNeg (.ref v) j = mm_rv ((if a = a then va_up (mm_q M a) i.toNatClampNeg (v + 1) else mm_q M a) j)
  rw [if_pos rfl]
  by_cases hq : j = i.toNatClampNeg
  · subst hq
    simp [updV, va_up, mm_rv]
  · simp [updV, va_up, hq]
theorem vv_aastN (x : cx g X own nm cc nL ret d lo mc ms p R s m meth c) {a : Nat} {i : Int32} (hd : decode cc pc = .ok (.aastore, 1)) (ht : mm_t M a = 102) (hi : vp_in i (mm_n M a))
    (kk : vv g nL p l e R s m args below meth c Q cells slots (pc + 1) ls (rest) (mm_sq M a (va_up (mm_q M a) i.toNatClampNeg 0))) : vv g nL p l e R s m args below meth c Q cells slots (pc) ls (.null :: .int i :: .ref a :: rest) M := by
  intro H locs la hR hz hL hl
  obtain ⟨ha, hca⟩ := (hR.1 a).2.2.1 ht
  refine va_WaastN (C := "java/lang/Object") x.1 x.2.1 hca ((x.2.2.2.2.2.1.2.1.2 2 _ rfl).1 (mm_n M a) (fun j => mm_rv (mm_q M a j))) (fun h => by cases h) (by rw [arrV_size]; exact hi) rfl rfl hd fun H1 e1 z o => ?_
  refine kk H1 _ la (hR.put ha z o (fun b hb => mm_eq.sq hb) (mm_atQ hR.2.1 ht ha ?_)) (by rw [z]; exact hz) (lc_put hL ha) hl
  rw [e1, arrV_store]
  congr 2
  funext j
  show updV (fun j => mm_rv (mm_q M a j)) i.toNatClampNeg .null j = mm_rv ((if a = a then va_up (mm_q M a) i.toNatClampNeg 0 else mm_q M a) j)
  rw [if_pos rfl]
  by_cases hq : j = i.toNatClampNeg
  · subst hq
    simp [updV, va_up, mm_rv]
  · simp [updV, va_up, hq]
end VG
