/-! ===== the judgement: a method's body, at a place, with locals, stack and memory ===== -/
/-- words that stay: the good ones, a nest's links, arrays over a class -/
def ww_ok (w : Cond) : Bool := goodWord w || (match w with
  | .fieldLinkNest _ _ _ _ _ _ => true
  | .methodLinkNest _ _ _ _ => true
  | .arrayOver (.object _) => true
  | .castable _ _ => true
  | .declares _ => true
  | _ => false)
theorem ww_warm {w : Cond} {s U : State} (hw : ww_ok w = true) (hW : s.WarmedH U.vm) (h : ∀ a : Array Value, w.before a s = true) (a : Array Value) : w.before a U = true := by
  unfold ww_ok at hw
  rw [Bool.or_eq_true] at hw
  rcases hw with hw | hw
  · exact word_at hW (good_of_word hw) (h #[])
  · cases w with
    | fieldLinkNest c1 i1 r1 n1 d1 h1 => exact va_Nw.use rfl (va_Nw.warmF hW (va_Nw.of rfl (h #[])))
    | methodLinkNest c1 i1 x1 h1 => exact va_Nw.use rfl (va_Nw.warmM hW (va_Nw.of rfl (h #[])))
    | castable c1 t1 => exact va_tabs rfl (rfl : (s.setVm U.vm).vm = U.vm) (by rw [Cond.castable_setVm hW.alike]; exact h #[])
    | declares x1 => exact va_Nw.use rfl (va_Nw.warmD hW (va_Nw.of rfl (h #[])))
    | arrayOver ty =>
      cases ty with
      | object C => exact va_AO.use (va_AO.moved hW.alike (va_AO.of (h #[])))
      | _ => exact absurd hw (by simp)
    | _ => exact absurd hw (by simp)
/-- what holds in every state: the words, the classes, and what else is given -/
abbrev kk_T (g : gg) : List (ClassId × FieldType) := [(gg_I g, .int), (gg_L g, .long), (gg_Q g, .object "java/lang/Object")]
def kk_K (g : gg) (X : State → Prop) (U : State) : Prop := (∀ w ∈ gg_W g, ww_ok w = true ∧ ∀ a : Array Value, w.before a U = true) ∧ va_K (gg_D g) (gg_cl g) (kk_T g) U ∧ (∀ s U : State, s.WarmedH U.vm → X s → X U) ∧ X U
theorem kk_K.warm {g : gg} {X : State → Prop} {s U : State} (hW : s.WarmedH U.vm) (h : kk_K g X s) : kk_K g X U :=
  ⟨fun w hw => ⟨(h.1 w hw).1, ww_warm (h.1 w hw).1 hW (h.1 w hw).2⟩, va_K.moved hW.alike h.2.1, h.2.2.1, h.2.2.1 s U hW h.2.2.2⟩
abbrev rm (d lo mc ms : Nat) : Room := { frames := d, cells := mc, slots := ms, locals := lo }
/-- the locals by their places -/
def lz (ls : Array Slot) (nL : Nat) (l : List (Option Value)) : Prop := ls.size = nL ∧ lv_wf ls ∧ ∀ (i : Nat) (v : Value), l[i]? = some (some v) → v.category = 1 ∧ ls[i]? = some (.val v)
def lz_l (l : List (Option Value)) : List (Nat × Value) := (List.range l.length).filterMap (fun i => (l[i]?.join).map (fun v => (i, v)))
theorem lz_mem {l : List (Option Value)} {i : Nat} {v : Value} : (i, v) ∈ lz_l l ↔ l[i]? = some (some v) := by
  unfold lz_l
  rw [List.mem_filterMap]
  constructor
  · rintro ⟨j, -, h⟩
    cases h1 : l[j]? with
    | none => rw [h1] at h; cases h
    | some o =>
      rw [h1] at h
      cases o with
      | none => cases h
      | some w =>
        simp only [Option.join, Option.bind, Option.map, id] at h
        cases h
        exact h1
  · intro h
    exact ⟨i, List.mem_range.mpr (List.getElem?_eq_some_iff.mp h).1, by rw [h]; rfl⟩
theorem lz.has {ls : Array Slot} {nL : Nat} {l : List (Option Value)} (h : lz ls nL l) : lv_has ls nL (lz_l l) := ⟨h.1, h.2.1, fun q hq => (h.2.2 q.1 q.2 (lz_mem.mp hq)).2⟩
theorem lz.put {ls ls' : Array Slot} {nL i : Nat} {l : List (Option Value)} {v : Value} (h : lz ls nL l) (hc : v.category = 1)
    (h' : lv_has ls' nL ((i, v) :: (lz_l l).filter (fun q => !(q.1 == i) && !(q.1 + 1 == i && q.2.category == 2)))) : lz ls' nL (l.set i (some v)) := by
  refine ⟨h'.1, h'.2.1, fun j w hj => ?_⟩
  by_cases hji : j = i
  · subst hji
    rw [List.getElem?_set] at hj
    simp only [if_true] at hj
    split at hj
    · cases hj
      exact ⟨hc, h'.2.2 (j, v) List.mem_cons_self⟩
    · cases hj
  · rw [List.getElem?_set_ne (fun z => hji z.symm)] at hj
    have h1 := h.2.2 j w hj
    refine ⟨h1.1, h'.2.2 (j, w) (List.mem_cons_of_mem _ (List.mem_filter.mpr ⟨lz_mem.mpr hj, ?_⟩))⟩
    have e1 : (j == i) = false := by simp [hji]
    have e2 : (w.category == 2) = false := by rw [h1.1]; rfl
    simp [e1, e2]
/-- what a body knows of its method -/
def cx (g : gg) (X : State → Prop) (own nm : String) (cc : ByteArray) (nL : Nat) (ret : Option FieldType) (d lo mc ms : Nat) (p : Program) (R : Room) (s : State) (m : MethodId) (meth : Method) (c : Code) : Prop :=
  p.tables.exec = Jvm.exec ∧ c.code = cc ∧ c.maxLocals = nL ∧ s.vm.findClass own = some m.cls ∧ meth.locks = false ∧ kk_K g X s ∧ R = rm d lo mc ms ∧ meth.sig.returnType = ret ∧ meth.name = nm ∧ (gg_H g).size ≤ s.heap.size ∧ ∀ q : Nat, q < (gg_H g).size → s.heap[q]? = (gg_H g)[q]?
def vv (g : gg) (nL : Nat) (p : Program) (l : Launch) (e : Env) (R : Room) (s : State) (m : MethodId) (args : Array Value) (below : List Frame) (meth : Method) (c : Code) (Q : State → Prop) (cells slots pc : Nat) (ls : List (Option Value)) (st : List Value) (M : mm) : Prop :=
  ∀ (H : Heap) (locs : List Loc) (la : Array Slot), mm_R g M H → s.heap.size ≤ H.size → (∀ q ∈ locs, (gg_H g).size ≤ q.base) → lz la nL ls → W p l e R s m args below meth c H locs cells slots Q (F0 m pc la st)

section VV
variable {g : gg} {X : State → Prop} {own nm : String} {cc : ByteArray} {nL : Nat} {ret : Option FieldType} {d lo mc ms : Nat} {p : Program} {l : Launch} {e : Env} {R : Room} {s : State} {m : MethodId} {args : Array Value} {below : List Frame} {meth : Method} {c : Code} {Q : State → Prop} {cells slots pc : Nat} {ls : List (Option Value)} {rest : List Value} {M : mm}
theorem vv_iconst (x : cx g X own nm cc nL ret d lo mc ms p R s m meth c) {n : Int} (hd : decode cc pc = .ok (.iconst n, 1)) (v : Int32) (hv : Int32.ofInt n = v) (k : vv g nL p l e R s m args below meth c Q cells slots (pc + 1) ls (.int v :: rest) M) : vv g nL p l e R s m args below meth c Q cells slots (pc) ls (rest) M := fun H locs la hR hz hL hl => lv_iconst x.1 x.2.1 hd hv (k H locs la hR hz hL hl)
theorem vv_bipush (x : cx g X own nm cc nL ret d lo mc ms p R s m meth c) {n : Int} (hd : decode cc pc = .ok (.bipush n, 2)) (v : Int32) (hv : (Int8.ofInt n).toInt32 = v) (k : vv g nL p l e R s m args below meth c Q cells slots (pc + 2) ls (.int v :: rest) M) : vv g nL p l e R s m args below meth c Q cells slots (pc) ls (rest) M := fun H locs la hR hz hL hl => lv_bipush x.1 x.2.1 hd hv (k H locs la hR hz hL hl)
theorem vv_sipush (x : cx g X own nm cc nL ret d lo mc ms p R s m meth c) {n : Int} (hd : decode cc pc = .ok (.sipush n, 3)) (v : Int32) (hv : (Int16.ofInt n).toInt32 = v) (k : vv g nL p l e R s m args below meth c Q cells slots (pc + 3) ls (.int v :: rest) M) : vv g nL p l e R s m args below meth c Q cells slots (pc) ls (rest) M := fun H locs la hR hz hL hl => lv_sipush x.1 x.2.1 hd hv (k H locs la hR hz hL hl)
theorem vv_ldc (x : cx g X own nm cc nL ret d lo mc ms p R s m meth c) {n : Nat} {v : Int32} (hd : decode cc pc = .ok (.ldc n, 2)) (hw : Cond.constant own n v ∈ gg_W g) (k : vv g nL p l e R s m args below meth c Q cells slots (pc + 2) ls (.int v :: rest) M) : vv g nL p l e R s m args below meth c Q cells slots (pc) ls (rest) M := fun H locs la hR hz hL hl => lv_ldc x.1 x.2.1 x.2.2.2.1 ((x.2.2.2.2.2.1.1 _ hw).2 _) hd (k H locs la hR hz hL hl)
theorem vv_null (x : cx g X own nm cc nL ret d lo mc ms p R s m meth c)  (hd : decode cc pc = .ok (.aconst_null, 1)) (k : vv g nL p l e R s m args below meth c Q cells slots (pc + 1) ls (.null :: rest) M) : vv g nL p l e R s m args below meth c Q cells slots (pc) ls (rest) M := fun H locs la hR hz hL hl => lv_null x.1 x.2.1 hd (k H locs la hR hz hL hl)
theorem vv_iload_n (x : cx g X own nm cc nL ret d lo mc ms p R s m meth c) {i : Fin 4} {v : Int32} (hd : decode cc pc = .ok (.iload_n i, 1)) (hi : ls[(i : Nat)]? = some (some (.int v))) (k : vv g nL p l e R s m args below meth c Q cells slots (pc + 1) ls (.int v :: rest) M) : vv g nL p l e R s m args below meth c Q cells slots (pc) ls (rest) M := fun H locs la hR hz hL hl => lv_iload_n x.1 x.2.1 hd rfl (hl.2.2 _ _ hi).2 (k H locs la hR hz hL hl)
theorem vv_iload (x : cx g X own nm cc nL ret d lo mc ms p R s m meth c) {i : Nat} {v : Int32} (hd : decode cc pc = .ok (.iload i, 2)) (hi : ls[i]? = some (some (.int v))) (k : vv g nL p l e R s m args below meth c Q cells slots (pc + 2) ls (.int v :: rest) M) : vv g nL p l e R s m args below meth c Q cells slots (pc) ls (rest) M := fun H locs la hR hz hL hl => lv_iload x.1 x.2.1 hd (hl.2.2 _ _ hi).2 (k H locs la hR hz hL hl)
theorem vv_aload_n (x : cx g X own nm cc nL ret d lo mc ms p R s m meth c) {i : Fin 4} {v : Nat} (hd : decode cc pc = .ok (.aload_n i, 1)) (hi : ls[(i : Nat)]? = some (some (.ref v))) (k : vv g nL p l e R s m args below meth c Q cells slots (pc + 1) ls (.ref v :: rest) M) : vv g nL p l e R s m args below meth c Q cells slots (pc) ls (rest) M := fun H locs la hR hz hL hl => lv_aload_n x.1 x.2.1 hd rfl (hl.2.2 _ _ hi).2 (k H locs la hR hz hL hl)
theorem vv_aload (x : cx g X own nm cc nL ret d lo mc ms p R s m meth c) {i : Nat} {v : Nat} (hd : decode cc pc = .ok (.aload i, 2)) (hi : ls[i]? = some (some (.ref v))) (k : vv g nL p l e R s m args below meth c Q cells slots (pc + 2) ls (.ref v :: rest) M) : vv g nL p l e R s m args below meth c Q cells slots (pc) ls (rest) M := fun H locs la hR hz hL hl => lv_aload x.1 x.2.1 hd (hl.2.2 _ _ hi).2 (k H locs la hR hz hL hl)
theorem vv_istore_n (x : cx g X own nm cc nL ret d lo mc ms p R s m meth c) {i : Fin 4} {v : Int32} {ls2 : List (Option Value)} (hd : decode cc pc = .ok (.istore_n i, 1)) (hn : (i : Nat) < nL) (he : ls.set i (some (.int v)) = ls2) (k : vv g nL p l e R s m args below meth c Q cells slots (pc + 1) ls2 (rest) M) : vv g nL p l e R s m args below meth c Q cells slots (pc) ls (.int v :: rest) M := fun H locs la hR hz hL hl => lv_istore_n x.1 x.2.1 hd rfl hl.has hn rfl (fun la2 h2 => k H locs la2 hR hz hL (he ▸ hl.put rfl h2))
theorem vv_istore (x : cx g X own nm cc nL ret d lo mc ms p R s m meth c) {i : Nat} {v : Int32} {ls2 : List (Option Value)} (hd : decode cc pc = .ok (.istore i, 2)) (hn : i < nL) (he : ls.set i (some (.int v)) = ls2) (k : vv g nL p l e R s m args below meth c Q cells slots (pc + 2) ls2 (rest) M) : vv g nL p l e R s m args below meth c Q cells slots (pc) ls (.int v :: rest) M := fun H locs la hR hz hL hl => lv_istore x.1 x.2.1 hd hl.has hn rfl (fun la2 h2 => k H locs la2 hR hz hL (he ▸ hl.put rfl h2))
theorem vv_astore_n (x : cx g X own nm cc nL ret d lo mc ms p R s m meth c) {i : Fin 4} {v : Nat} {ls2 : List (Option Value)} (hd : decode cc pc = .ok (.astore_n i, 1)) (hn : (i : Nat) < nL) (he : ls.set i (some (.ref v)) = ls2) (k : vv g nL p l e R s m args below meth c Q cells slots (pc + 1) ls2 (rest) M) : vv g nL p l e R s m args below meth c Q cells slots (pc) ls (.ref v :: rest) M := fun H locs la hR hz hL hl => lv_astore_n x.1 x.2.1 hd rfl hl.has hn rfl (fun la2 h2 => k H locs la2 hR hz hL (he ▸ hl.put rfl h2))
theorem vv_astore (x : cx g X own nm cc nL ret d lo mc ms p R s m meth c) {i : Nat} {v : Nat} {ls2 : List (Option Value)} (hd : decode cc pc = .ok (.astore i, 2)) (hn : i < nL) (he : ls.set i (some (.ref v)) = ls2) (k : vv g nL p l e R s m args below meth c Q cells slots (pc + 2) ls2 (rest) M) : vv g nL p l e R s m args below meth c Q cells slots (pc) ls (.ref v :: rest) M := fun H locs la hR hz hL hl => lv_astore x.1 x.2.1 hd hl.has hn rfl (fun la2 h2 => k H locs la2 hR hz hL (he ▸ hl.put rfl h2))
theorem vv_iinc (x : cx g X own nm cc nL ret d lo mc ms p R s m meth c) {i : Nat} {n : Int} {v w : Int32} {ls2 : List (Option Value)} (hd : decode cc pc = .ok (.iinc i n, 3)) (hi : ls[i]? = some (some (.int v))) (hw : v + Int32.ofInt n = w) (hn : i < nL) (he : ls.set i (some (.int w)) = ls2) (k : vv g nL p l e R s m args below meth c Q cells slots (pc + 3) ls2 (rest) M) : vv g nL p l e R s m args below meth c Q cells slots (pc) ls (rest) M := by
  intro H locs la hR hz hL hl
  obtain ⟨j, hj⟩ := List.getElem?_of_mem (lz_mem.mpr hi)
  exact lv_iinc x.1 x.2.1 hd hl.has hj hw hn rfl (fun la2 h2 => k H locs la2 hR hz hL (he ▸ hl.put rfl h2))
theorem vv_iadd (x : cx g X own nm cc nL ret d lo mc ms p R s m meth c) {a b : Int32} (hd : decode cc pc = .ok (.iadd, 1)) (k : vv g nL p l e R s m args below meth c Q cells slots (pc + 1) ls (.int (a + b) :: rest) M) : vv g nL p l e R s m args below meth c Q cells slots (pc) ls (.int b :: .int a :: rest) M := fun H locs la hR hz hL hl => lv_iadd x.1 x.2.1 hd (k H locs la hR hz hL hl)
theorem vv_isub (x : cx g X own nm cc nL ret d lo mc ms p R s m meth c) {a b : Int32} (hd : decode cc pc = .ok (.isub, 1)) (k : vv g nL p l e R s m args below meth c Q cells slots (pc + 1) ls (.int (a - b) :: rest) M) : vv g nL p l e R s m args below meth c Q cells slots (pc) ls (.int b :: .int a :: rest) M := fun H locs la hR hz hL hl => lv_isub x.1 x.2.1 hd (k H locs la hR hz hL hl)
theorem vv_imul (x : cx g X own nm cc nL ret d lo mc ms p R s m meth c) {a b : Int32} (hd : decode cc pc = .ok (.imul, 1)) (k : vv g nL p l e R s m args below meth c Q cells slots (pc + 1) ls (.int (a * b) :: rest) M) : vv g nL p l e R s m args below meth c Q cells slots (pc) ls (.int b :: .int a :: rest) M := fun H locs la hR hz hL hl => lv_imul x.1 x.2.1 hd (k H locs la hR hz hL hl)
theorem vv_iand (x : cx g X own nm cc nL ret d lo mc ms p R s m meth c) {a b : Int32} (hd : decode cc pc = .ok (.iand, 1)) (k : vv g nL p l e R s m args below meth c Q cells slots (pc + 1) ls (.int (a &&& b) :: rest) M) : vv g nL p l e R s m args below meth c Q cells slots (pc) ls (.int b :: .int a :: rest) M := fun H locs la hR hz hL hl => lv_iand x.1 x.2.1 hd (k H locs la hR hz hL hl)
theorem vv_ior (x : cx g X own nm cc nL ret d lo mc ms p R s m meth c) {a b : Int32} (hd : decode cc pc = .ok (.ior, 1)) (k : vv g nL p l e R s m args below meth c Q cells slots (pc + 1) ls (.int (a ||| b) :: rest) M) : vv g nL p l e R s m args below meth c Q cells slots (pc) ls (.int b :: .int a :: rest) M := fun H locs la hR hz hL hl => lv_ior x.1 x.2.1 hd (k H locs la hR hz hL hl)
theorem vv_ishl (x : cx g X own nm cc nL ret d lo mc ms p R s m meth c) {a b : Int32} (hd : decode cc pc = .ok (.ishl, 1)) (k : vv g nL p l e R s m args below meth c Q cells slots (pc + 1) ls (.int (a <<< (b &&& 31)) :: rest) M) : vv g nL p l e R s m args below meth c Q cells slots (pc) ls (.int b :: .int a :: rest) M := fun H locs la hR hz hL hl => lv_ishl x.1 x.2.1 hd (k H locs la hR hz hL hl)
theorem vv_ishr (x : cx g X own nm cc nL ret d lo mc ms p R s m meth c) {a b : Int32} (hd : decode cc pc = .ok (.ishr, 1)) (k : vv g nL p l e R s m args below meth c Q cells slots (pc + 1) ls (.int (a >>> (b &&& 31)) :: rest) M) : vv g nL p l e R s m args below meth c Q cells slots (pc) ls (.int b :: .int a :: rest) M := fun H locs la hR hz hL hl => lv_ishr x.1 x.2.1 hd (k H locs la hR hz hL hl)
theorem vv_idiv (x : cx g X own nm cc nL ret d lo mc ms p R s m meth c) {a b : Int32} (hd : decode cc pc = .ok (.idiv, 1)) (hne : ¬ b = 0) (k : vv g nL p l e R s m args below meth c Q cells slots (pc + 1) ls (.int (a / b) :: rest) M) : vv g nL p l e R s m args below meth c Q cells slots (pc) ls (.int b :: .int a :: rest) M := fun H locs la hR hz hL hl => lv_idiv x.1 x.2.1 hd hne (k H locs la hR hz hL hl)
theorem vv_irem (x : cx g X own nm cc nL ret d lo mc ms p R s m meth c) {a b : Int32} (hd : decode cc pc = .ok (.irem, 1)) (hne : ¬ b = 0) (k : vv g nL p l e R s m args below meth c Q cells slots (pc + 1) ls (.int (a - a / b * b) :: rest) M) : vv g nL p l e R s m args below meth c Q cells slots (pc) ls (.int b :: .int a :: rest) M := fun H locs la hR hz hL hl => lv_irem x.1 x.2.1 hd hne (k H locs la hR hz hL hl)
theorem vv_i2l (x : cx g X own nm cc nL ret d lo mc ms p R s m meth c) {a : Int32} (hd : decode cc pc = .ok (.i2l, 1)) (k : vv g nL p l e R s m args below meth c Q cells slots (pc + 1) ls (.long a.toInt64 :: rest) M) : vv g nL p l e R s m args below meth c Q cells slots (pc) ls (.int a :: rest) M := fun H locs la hR hz hL hl => lv_i2l x.1 x.2.1 hd rfl (k H locs la hR hz hL hl)
theorem vv_lcmp (x : cx g X own nm cc nL ret d lo mc ms p R s m meth c) {a b : Int64} (hd : decode cc pc = .ok (.lcmp, 1)) (k : vv g nL p l e R s m args below meth c Q cells slots (pc + 1) ls (.int (lg_cmp a b) :: rest) M) : vv g nL p l e R s m args below meth c Q cells slots (pc) ls (.long b :: .long a :: rest) M := fun H locs la hR hz hL hl => W.lcmp x.1 x.2.1 hd (k H locs la hR hz hL hl)
theorem vv_lconst (x : cx g X own nm cc nL ret d lo mc ms p R s m meth c) {n : Fin 2} {v : Int64} (hd : decode cc pc = .ok (.lconst n, 1)) (hv : Int64.ofNat n = v) (k : vv g nL p l e R s m args below meth c Q cells slots (pc + 1) ls (.long v :: rest) M) : vv g nL p l e R s m args below meth c Q cells slots (pc) ls (rest) M := fun H locs la hR hz hL hl => lv_lconst x.1 x.2.1 hd hv (k H locs la hR hz hL hl)
theorem vv_dup (x : cx g X own nm cc nL ret d lo mc ms p R s m meth c) {a : Value} (hd : decode cc pc = .ok (.dup, 1)) (ha : a.category = 1) (k : vv g nL p l e R s m args below meth c Q cells slots (pc + 1) ls (a :: a :: rest) M) : vv g nL p l e R s m args below meth c Q cells slots (pc) ls (a :: rest) M := fun H locs la hR hz hL hl => lv_dup x.1 x.2.1 hd ha (k H locs la hR hz hL hl)
theorem vv_pop (x : cx g X own nm cc nL ret d lo mc ms p R s m meth c) {a : Value} (hd : decode cc pc = .ok (.pop, 1)) (ha : a.category = 1) (k : vv g nL p l e R s m args below meth c Q cells slots (pc + 1) ls (rest) M) : vv g nL p l e R s m args below meth c Q cells slots (pc) ls (a :: rest) M := fun H locs la hR hz hL hl => lv_pop x.1 x.2.1 hd ha (k H locs la hR hz hL hl)
theorem vv_dup_x1 (x : cx g X own nm cc nL ret d lo mc ms p R s m meth c) {a b : Value} (hd : decode cc pc = .ok (.dup_x1, 1)) (ha : a.category = 1) (hb : b.category = 1) (k : vv g nL p l e R s m args below meth c Q cells slots (pc + 1) ls (a :: b :: a :: rest) M) : vv g nL p l e R s m args below meth c Q cells slots (pc) ls (a :: b :: rest) M := fun H locs la hR hz hL hl => lv_dup_x1 x.1 x.2.1 hd ha hb (k H locs la hR hz hL hl)
theorem vv_dup2 (x : cx g X own nm cc nL ret d lo mc ms p R s m meth c) {a b : Value} (hd : decode cc pc = .ok (.dup2, 1)) (ha : a.category = 1) (hb : b.category = 1) (k : vv g nL p l e R s m args below meth c Q cells slots (pc + 1) ls (a :: b :: a :: b :: rest) M) : vv g nL p l e R s m args below meth c Q cells slots (pc) ls (a :: b :: rest) M := fun H locs la hR hz hL hl => lv_dup2_11 x.1 x.2.1 hd ha hb (k H locs la hR hz hL hl)
theorem vv_if_eq (x : cx g X own nm cc nL ret d lo mc ms p R s m meth c) {a : Int32} {off : Int} {tgt : Nat} (hd : decode cc pc = .ok (.ifCond .eq off, 3)) (ht : (pc : Int) + off = (tgt : Int)) (kt : a = 0 → vv g nL p l e R s m args below meth c Q cells slots (tgt) ls (rest) M) (kf : ¬ a = 0 → vv g nL p l e R s m args below meth c Q cells slots (pc + 3) ls (rest) M) : vv g nL p l e R s m args below meth c Q cells slots (pc) ls (.int a :: rest) M := fun H locs la hR hz hL hl => lv_if_eq x.1 x.2.1 hd ht (fun h => kt h H locs la hR hz hL hl) (fun h => kf h H locs la hR hz hL hl)
theorem vv_icmp_eq (x : cx g X own nm cc nL ret d lo mc ms p R s m meth c) {a b : Int32} {off : Int} {tgt : Nat} (hd : decode cc pc = .ok (.if_icmp .eq off, 3)) (ht : (pc : Int) + off = (tgt : Int)) (kt : a = b → vv g nL p l e R s m args below meth c Q cells slots (tgt) ls (rest) M) (kf : ¬ a = b → vv g nL p l e R s m args below meth c Q cells slots (pc + 3) ls (rest) M) : vv g nL p l e R s m args below meth c Q cells slots (pc) ls (.int b :: .int a :: rest) M := fun H locs la hR hz hL hl => lv_icmp_eq x.1 x.2.1 hd ht (fun h => kt h H locs la hR hz hL hl) (fun h => kf h H locs la hR hz hL hl)
theorem vv_if_ne (x : cx g X own nm cc nL ret d lo mc ms p R s m meth c) {a : Int32} {off : Int} {tgt : Nat} (hd : decode cc pc = .ok (.ifCond .ne off, 3)) (ht : (pc : Int) + off = (tgt : Int)) (kt : ¬ a = 0 → vv g nL p l e R s m args below meth c Q cells slots (tgt) ls (rest) M) (kf : a = 0 → vv g nL p l e R s m args below meth c Q cells slots (pc + 3) ls (rest) M) : vv g nL p l e R s m args below meth c Q cells slots (pc) ls (.int a :: rest) M := fun H locs la hR hz hL hl => lv_if_ne x.1 x.2.1 hd ht (fun h => kt h H locs la hR hz hL hl) (fun h => kf h H locs la hR hz hL hl)
theorem vv_icmp_ne (x : cx g X own nm cc nL ret d lo mc ms p R s m meth c) {a b : Int32} {off : Int} {tgt : Nat} (hd : decode cc pc = .ok (.if_icmp .ne off, 3)) (ht : (pc : Int) + off = (tgt : Int)) (kt : ¬ a = b → vv g nL p l e R s m args below meth c Q cells slots (tgt) ls (rest) M) (kf : a = b → vv g nL p l e R s m args below meth c Q cells slots (pc + 3) ls (rest) M) : vv g nL p l e R s m args below meth c Q cells slots (pc) ls (.int b :: .int a :: rest) M := fun H locs la hR hz hL hl => lv_icmp_ne x.1 x.2.1 hd ht (fun h => kt h H locs la hR hz hL hl) (fun h => kf h H locs la hR hz hL hl)
theorem vv_if_lt (x : cx g X own nm cc nL ret d lo mc ms p R s m meth c) {a : Int32} {off : Int} {tgt : Nat} (hd : decode cc pc = .ok (.ifCond .lt off, 3)) (ht : (pc : Int) + off = (tgt : Int)) (kt : a < 0 → vv g nL p l e R s m args below meth c Q cells slots (tgt) ls (rest) M) (kf : ¬ a < 0 → vv g nL p l e R s m args below meth c Q cells slots (pc + 3) ls (rest) M) : vv g nL p l e R s m args below meth c Q cells slots (pc) ls (.int a :: rest) M := fun H locs la hR hz hL hl => lv_if_lt x.1 x.2.1 hd ht (fun h => kt h H locs la hR hz hL hl) (fun h => kf h H locs la hR hz hL hl)
theorem vv_icmp_lt (x : cx g X own nm cc nL ret d lo mc ms p R s m meth c) {a b : Int32} {off : Int} {tgt : Nat} (hd : decode cc pc = .ok (.if_icmp .lt off, 3)) (ht : (pc : Int) + off = (tgt : Int)) (kt : a < b → vv g nL p l e R s m args below meth c Q cells slots (tgt) ls (rest) M) (kf : ¬ a < b → vv g nL p l e R s m args below meth c Q cells slots (pc + 3) ls (rest) M) : vv g nL p l e R s m args below meth c Q cells slots (pc) ls (.int b :: .int a :: rest) M := fun H locs la hR hz hL hl => lv_icmp_lt x.1 x.2.1 hd ht (fun h => kt h H locs la hR hz hL hl) (fun h => kf h H locs la hR hz hL hl)
theorem vv_if_ge (x : cx g X own nm cc nL ret d lo mc ms p R s m meth c) {a : Int32} {off : Int} {tgt : Nat} (hd : decode cc pc = .ok (.ifCond .ge off, 3)) (ht : (pc : Int) + off = (tgt : Int)) (kt : 0 ≤ a → vv g nL p l e R s m args below meth c Q cells slots (tgt) ls (rest) M) (kf : ¬ 0 ≤ a → vv g nL p l e R s m args below meth c Q cells slots (pc + 3) ls (rest) M) : vv g nL p l e R s m args below meth c Q cells slots (pc) ls (.int a :: rest) M := fun H locs la hR hz hL hl => lv_if_ge x.1 x.2.1 hd ht (fun h => kt h H locs la hR hz hL hl) (fun h => kf h H locs la hR hz hL hl)
theorem vv_icmp_ge (x : cx g X own nm cc nL ret d lo mc ms p R s m meth c) {a b : Int32} {off : Int} {tgt : Nat} (hd : decode cc pc = .ok (.if_icmp .ge off, 3)) (ht : (pc : Int) + off = (tgt : Int)) (kt : b ≤ a → vv g nL p l e R s m args below meth c Q cells slots (tgt) ls (rest) M) (kf : ¬ b ≤ a → vv g nL p l e R s m args below meth c Q cells slots (pc + 3) ls (rest) M) : vv g nL p l e R s m args below meth c Q cells slots (pc) ls (.int b :: .int a :: rest) M := fun H locs la hR hz hL hl => lv_icmp_ge x.1 x.2.1 hd ht (fun h => kt h H locs la hR hz hL hl) (fun h => kf h H locs la hR hz hL hl)
theorem vv_if_gt (x : cx g X own nm cc nL ret d lo mc ms p R s m meth c) {a : Int32} {off : Int} {tgt : Nat} (hd : decode cc pc = .ok (.ifCond .gt off, 3)) (ht : (pc : Int) + off = (tgt : Int)) (kt : 0 < a → vv g nL p l e R s m args below meth c Q cells slots (tgt) ls (rest) M) (kf : ¬ 0 < a → vv g nL p l e R s m args below meth c Q cells slots (pc + 3) ls (rest) M) : vv g nL p l e R s m args below meth c Q cells slots (pc) ls (.int a :: rest) M := fun H locs la hR hz hL hl => lv_if_gt x.1 x.2.1 hd ht (fun h => kt h H locs la hR hz hL hl) (fun h => kf h H locs la hR hz hL hl)
theorem vv_icmp_gt (x : cx g X own nm cc nL ret d lo mc ms p R s m meth c) {a b : Int32} {off : Int} {tgt : Nat} (hd : decode cc pc = .ok (.if_icmp .gt off, 3)) (ht : (pc : Int) + off = (tgt : Int)) (kt : b < a → vv g nL p l e R s m args below meth c Q cells slots (tgt) ls (rest) M) (kf : ¬ b < a → vv g nL p l e R s m args below meth c Q cells slots (pc + 3) ls (rest) M) : vv g nL p l e R s m args below meth c Q cells slots (pc) ls (.int b :: .int a :: rest) M := fun H locs la hR hz hL hl => lv_icmp_gt x.1 x.2.1 hd ht (fun h => kt h H locs la hR hz hL hl) (fun h => kf h H locs la hR hz hL hl)
theorem vv_if_le (x : cx g X own nm cc nL ret d lo mc ms p R s m meth c) {a : Int32} {off : Int} {tgt : Nat} (hd : decode cc pc = .ok (.ifCond .le off, 3)) (ht : (pc : Int) + off = (tgt : Int)) (kt : a ≤ 0 → vv g nL p l e R s m args below meth c Q cells slots (tgt) ls (rest) M) (kf : ¬ a ≤ 0 → vv g nL p l e R s m args below meth c Q cells slots (pc + 3) ls (rest) M) : vv g nL p l e R s m args below meth c Q cells slots (pc) ls (.int a :: rest) M := fun H locs la hR hz hL hl => lv_if_le x.1 x.2.1 hd ht (fun h => kt h H locs la hR hz hL hl) (fun h => kf h H locs la hR hz hL hl)
theorem vv_icmp_le (x : cx g X own nm cc nL ret d lo mc ms p R s m meth c) {a b : Int32} {off : Int} {tgt : Nat} (hd : decode cc pc = .ok (.if_icmp .le off, 3)) (ht : (pc : Int) + off = (tgt : Int)) (kt : a ≤ b → vv g nL p l e R s m args below meth c Q cells slots (tgt) ls (rest) M) (kf : ¬ a ≤ b → vv g nL p l e R s m args below meth c Q cells slots (pc + 3) ls (rest) M) : vv g nL p l e R s m args below meth c Q cells slots (pc) ls (.int b :: .int a :: rest) M := fun H locs la hR hz hL hl => lv_icmp_le x.1 x.2.1 hd ht (fun h => kt h H locs la hR hz hL hl) (fun h => kf h H locs la hR hz hL hl)
theorem vv_goto (x : cx g X own nm cc nL ret d lo mc ms p R s m meth c) {off : Int} {tgt : Nat} (hd : decode cc pc = .ok (.goto off, 3)) (ht : (pc : Int) + off = (tgt : Int)) (k : vv g nL p l e R s m args below meth c Q cells slots (tgt) ls (rest) M) : vv g nL p l e R s m args below meth c Q cells slots (pc) ls (rest) M := fun H locs la hR hz hL hl => lv_goto x.1 x.2.1 hd ht (k H locs la hR hz hL hl)
theorem vv_acmp_eq (x : cx g X own nm cc nL ret d lo mc ms p R s m meth c) {a b : Nat} {off : Int} {tgt : Nat} (hd : decode cc pc = .ok (.if_acmp .eq off, 3)) (ht : (pc : Int) + off = (tgt : Int)) (kt : a = b → vv g nL p l e R s m args below meth c Q cells slots (tgt) ls (rest) M) (kf : ¬ a = b → vv g nL p l e R s m args below meth c Q cells slots (pc + 3) ls (rest) M) : vv g nL p l e R s m args below meth c Q cells slots (pc) ls (.ref b :: .ref a :: rest) M := fun H locs la hR hz hL hl => lv_acmp_eq (rx := some a) (ry := some b) x.1 x.2.1 hd ht (fun h => kt (Option.some.inj h) H locs la hR hz hL hl) (fun h => kf (fun z => h (congrArg some z)) H locs la hR hz hL hl)
theorem vv_acmp_ne (x : cx g X own nm cc nL ret d lo mc ms p R s m meth c) {a b : Nat} {off : Int} {tgt : Nat} (hd : decode cc pc = .ok (.if_acmp .ne off, 3)) (ht : (pc : Int) + off = (tgt : Int)) (kt : ¬ a = b → vv g nL p l e R s m args below meth c Q cells slots (tgt) ls (rest) M) (kf : a = b → vv g nL p l e R s m args below meth c Q cells slots (pc + 3) ls (rest) M) : vv g nL p l e R s m args below meth c Q cells slots (pc) ls (.ref b :: .ref a :: rest) M := fun H locs la hR hz hL hl => lv_acmp_ne (rx := some a) (ry := some b) x.1 x.2.1 hd ht (fun h => kt (fun z => h (congrArg some z)) H locs la hR hz hL hl) (fun h => kf (Option.some.inj h) H locs la hR hz hL hl)
theorem vv_lookup (x : cx g X own nm cc nL ret d lo mc ms p R s m meth c) {dflt : Int} {ps : Array (Int × Int)} {len : Nat} {a : Int32} {off : Int} {tgt : Nat} (hd : decode cc pc = .ok (.lookupswitch dflt ps, len)) (hp : (ps.toList.zip (ps.toList.drop 1)).all (fun (a, next) => a.1 < next.1) = true) (ho : Op.lookupswitch.offset ps.toList dflt a.toInt = off) (ht : (pc : Int) + off = (tgt : Int)) (k : vv g nL p l e R s m args below meth c Q cells slots (tgt) ls (rest) M) : vv g nL p l e R s m args below meth c Q cells slots (pc) ls (.int a :: rest) M := fun H locs la hR hz hL hl => lv_lookup x.1 x.2.1 hd hp ho ht (k H locs la hR hz hL hl)
theorem vv_tableOut (x : cx g X own nm cc nL ret d lo mc ms p R s m meth c) {dflt lo hi : Int} {offs : Array Int} {len : Nat} {a : Int32} {tgt : Nat} (hd : decode cc pc = .ok (.tableswitch dflt lo hi offs, len)) (h : a.toInt < lo ∨ hi < a.toInt) (ht : (pc : Int) + dflt = (tgt : Int)) (k : vv g nL p l e R s m args below meth c Q cells slots (tgt) ls (rest) M) : vv g nL p l e R s m args below meth c Q cells slots (pc) ls (.int a :: rest) M := fun H locs la hR hz hL hl => lv_tableOut x.1 x.2.1 hd h ht (k H locs la hR hz hL hl)
theorem vv_tableIn (x : cx g X own nm cc nL ret d lo mc ms p R s m meth c) {dflt lo hi : Int} {offs : Array Int} {len : Nat} {a : Int32} {off : Int} {tgt : Nat} (hd : decode cc pc = .ok (.tableswitch dflt lo hi offs, len)) (h1 : ¬ a.toInt < lo) (h2 : ¬ hi < a.toInt) (ho : offs[(a.toInt - lo).toNat]? = some off) (ht : (pc : Int) + off = (tgt : Int)) (k : vv g nL p l e R s m args below meth c Q cells slots (tgt) ls (rest) M) : vv g nL p l e R s m args below meth c Q cells slots (pc) ls (.int a :: rest) M := fun H locs la hR hz hL hl => lv_tableIn x.1 x.2.1 hd h1 h2 ho ht (k H locs la hR hz hL hl)
theorem vv_iald (x : cx g X own nm cc nL ret d lo mc ms p R s m meth c) {a : Nat} {i : Int32} (hd : decode cc pc = .ok (.iaload, 1)) (ht : mm_t M a = 100) (hi : vp_in i (mm_n M a)) (k : vv g nL p l e R s m args below meth c Q cells slots (pc + 1) ls (.int (mm_a M a i.toNatClampNeg) :: rest) M) : vv g nL p l e R s m args below meth c Q cells slots (pc) ls (.int i :: .ref a :: rest) M := by
  intro H locs la hR hz hL hl
  have hlt : i.toNatClampNeg < mm_n M a := Nat.not_le.mp fun q => hi (Or.inr q)
  exact W.iald (v := .int (mm_a M a i.toNatClampNeg)) x.1 x.2.1 ((hR.1 a).1 ht).2 ((x.2.2.2.2.2.1.2.1.2 0 _ rfl).1 (mm_n M a) (fun j => .int (mm_a M a j))) (fun q => by cases q) (by rw [arrV_size]; exact hi) (by rw [arrV_read _ _ hlt]) rfl rfl hd (k H locs la hR hz hL hl)
theorem vv_lald (x : cx g X own nm cc nL ret d lo mc ms p R s m meth c) {a : Nat} {i : Int32} (hd : decode cc pc = .ok (.laload, 1)) (ht : mm_t M a = 101) (hi : vp_in i (mm_n M a)) (k : vv g nL p l e R s m args below meth c Q cells slots (pc + 1) ls (.long (mm_l M a i.toNatClampNeg) :: rest) M) : vv g nL p l e R s m args below meth c Q cells slots (pc) ls (.int i :: .ref a :: rest) M := by
  intro H locs la hR hz hL hl
  have hlt : i.toNatClampNeg < mm_n M a := Nat.not_le.mp fun q => hi (Or.inr q)
  exact W.lald (v := .long (mm_l M a i.toNatClampNeg)) x.1 x.2.1 ((hR.1 a).2.1 ht).2 ((x.2.2.2.2.2.1.2.1.2 1 _ rfl).1 (mm_n M a) (fun j => .long (mm_l M a j))) (fun q => by cases q) (by rw [arrV_size]; exact hi) (by rw [arrV_read _ _ hlt]) rfl rfl hd (k H locs la hR hz hL hl)
theorem vv_aald (x : cx g X own nm cc nL ret d lo mc ms p R s m meth c) {a : Nat} {i : Int32} (hd : decode cc pc = .ok (.aaload, 1)) (ht : mm_t M a = 102) (hi : vp_in i (mm_n M a)) (h0 : mm_q M a i.toNatClampNeg ≠ 0) (k : vv g nL p l e R s m args below meth c Q cells slots (pc + 1) ls (.ref (mm_e M a i.toNatClampNeg) :: rest) M) : vv g nL p l e R s m args below meth c Q cells slots (pc) ls (.int i :: .ref a :: rest) M := by
  intro H locs la hR hz hL hl
  have hlt : i.toNatClampNeg < mm_n M a := Nat.not_le.mp fun q => hi (Or.inr q)
  have hv : mm_rv (mm_q M a i.toNatClampNeg) = .ref (mm_e M a i.toNatClampNeg) := by rw [mm_rv, if_neg h0]; rfl
  exact W.aald (v := .ref (mm_e M a i.toNatClampNeg)) (ty := .object "java/lang/Object") x.1 x.2.1 ((hR.1 a).2.2.1 ht).2 ((x.2.2.2.2.2.1.2.1.2 2 _ rfl).1 (mm_n M a) (fun j => mm_rv (mm_q M a j))) rfl (fun q => by cases q) (by rw [arrV_size]; exact hi) (by rw [arrV_read _ _ hlt, hv]) rfl rfl hd (k H locs la hR hz hL hl)
theorem vv_alenI (x : cx g X own nm cc nL ret d lo mc ms p R s m meth c) {a : Nat} (hd : decode cc pc = .ok (.arraylength, 1)) (ht : mm_t M a = 100) (k : vv g nL p l e R s m args below meth c Q cells slots (pc + 1) ls (.int (nI (mm_n M a)) :: rest) M) : vv g nL p l e R s m args below meth c Q cells slots (pc) ls (.ref a :: rest) M := by
  intro H locs la hR hz hL hl
  exact W.alen (n := nI (mm_n M a)) x.1 x.2.1 ((hR.1 a).1 ht).2 ((x.2.2.2.2.2.1.2.1.2 0 _ rfl).1 (mm_n M a) (fun j => .int (mm_a M a j))) (by rw [arrV_size] <;> rfl) rfl rfl hd (k H locs la hR hz hL hl)
theorem vv_alenQ (x : cx g X own nm cc nL ret d lo mc ms p R s m meth c) {a : Nat} (hd : decode cc pc = .ok (.arraylength, 1)) (ht : mm_t M a = 102) (k : vv g nL p l e R s m args below meth c Q cells slots (pc + 1) ls (.int (nI (mm_n M a)) :: rest) M) : vv g nL p l e R s m args below meth c Q cells slots (pc) ls (.ref a :: rest) M := by
  intro H locs la hR hz hL hl
  exact W.alen (n := nI (mm_n M a)) x.1 x.2.1 ((hR.1 a).2.2.1 ht).2 ((x.2.2.2.2.2.1.2.1.2 2 _ rfl).1 (mm_n M a) (fun j => mm_rv (mm_q M a j))) (by rw [arrV_size] <;> rfl) rfl rfl hd (k H locs la hR hz hL hl)
theorem lc_put {g : gg} {locs : List Loc} {a i : Nat} (hL : ∀ q ∈ locs, (gg_H g).size ≤ q.base) (ha : (gg_H g).size ≤ a) : ∀ q ∈ locs ++ [(⟨a, i⟩ : Loc)], (gg_H g).size ≤ q.base := by
  intro q hq
  rcases List.mem_append.mp hq with h | h
  · exact hL q h
  · rw [List.mem_singleton.mp h]; exact ha
theorem vv_iast (x : cx g X own nm cc nL ret d lo mc ms p R s m meth c) {a : Nat} {i : Int32} {v : Int32} (hd : decode cc pc = .ok (.iastore, 1)) (ht : mm_t M a = 100) (hi : vp_in i (mm_n M a)) (k : vv g nL p l e R s m args below meth c Q cells slots (pc + 1) ls (rest) (mm_sa M a (upd (mm_a M a) i.toNatClampNeg v))) : vv g nL p l e R s m args below meth c Q cells slots (pc) ls (.int v :: .int i :: .ref a :: rest) M := by
  intro H locs la hR hz hL hl
  obtain ⟨ha, hc⟩ := (hR.1 a).1 ht
  refine W.iast x.1 x.2.1 hc ((x.2.2.2.2.2.1.2.1.2 0 _ rfl).1 (mm_n M a) (fun j => .int (mm_a M a j))) (fun q => by cases q) (by rw [arrV_size]; exact hi) rfl rfl hd fun H1 e1 z o => ?_
  refine k H1 _ la (hR.put ha z o (fun b hb => mm_eq.sa hb) (mm_atI hR.2.1 ht ha ?_)) (by rw [z]; exact hz) (lc_put hL ha) hl
  rw [e1, arrV_store]
  congr 2
  funext j
  show updV (fun j => .int (mm_a M a j)) i.toNatClampNeg (.int v) j = .int ((if a = a then upd (mm_a M a) i.toNatClampNeg v else mm_a M a) j)
  rw [if_pos rfl]
  by_cases hq : j = i.toNatClampNeg
  · subst hq
    simp [updV, upd]
  · simp [updV, upd, hq]
theorem vv_last (x : cx g X own nm cc nL ret d lo mc ms p R s m meth c) {a : Nat} {i : Int32} {v : Int64} (hd : decode cc pc = .ok (.lastore, 1)) (ht : mm_t M a = 101) (hi : vp_in i (mm_n M a)) (k : vv g nL p l e R s m args below meth c Q cells slots (pc + 1) ls (rest) (mm_sl M a (va_up (mm_l M a) i.toNatClampNeg v))) : vv g nL p l e R s m args below meth c Q cells slots (pc) ls (.long v :: .int i :: .ref a :: rest) M := by
  intro H locs la hR hz hL hl
  obtain ⟨ha, hc⟩ := (hR.1 a).2.1 ht
  refine W.last x.1 x.2.1 hc ((x.2.2.2.2.2.1.2.1.2 1 _ rfl).1 (mm_n M a) (fun j => .long (mm_l M a j))) (fun q => by cases q) (by rw [arrV_size]; exact hi) rfl rfl hd fun H1 e1 z o => ?_
  refine k H1 _ la (hR.put ha z o (fun b hb => mm_eq.sl hb) (mm_atL hR.2.1 ht ha ?_)) (by rw [z]; exact hz) (lc_put hL ha) hl
  rw [e1, arrV_store]
  congr 2
  funext j
  show updV (fun j => .long (mm_l M a j)) i.toNatClampNeg (.long v) j = .long ((if a = a then va_up (mm_l M a) i.toNatClampNeg v else mm_l M a) j)
  rw [if_pos rfl]
  by_cases hq : j = i.toNatClampNeg
  · subst hq
    simp [updV, va_up]
  · simp [updV, va_up, hq]
end VV
