/-! ===== fields, objects, arrays that are made ===== -/
section VF
variable {g : gg} {X : State → Prop} {own nm : String} {cc : ByteArray} {nL : Nat} {ret : Option FieldType} {d lo mc ms : Nat} {p : Program} {l : Launch} {e : Env} {R : Room} {s : State} {m : MethodId} {args : Array Value} {below : List Frame} {meth : Method} {c : Code} {Q : State → Prop} {cells slots pc : Nat} {ls : List (Option Value)} {rest : List Value} {M : mm}
theorem cx.w (x : cx g X own nm cc nL ret d lo mc ms p R s m meth c) {w : Cond} (h : w ∈ gg_W g) {a : Array Value} : w.before a s = true := (x.2.2.2.2.2.1.1 w h).2 a
theorem cx.ts (x : cx g X own nm cc nL ret d lo mc ms p R s m meth c) {a : Array Value} : ∀ w ∈ gg_W g, w.before a s = true := fun _ h => x.w h
/-- a class of the claim: its row in the table, its words, its types, its names apart, which of its fields are ints -/
def cf (g : gg) (ci : Nat) (r : vw_C) (ty : Nat → FieldType) : Prop := (gg_cl g)[ci]? = some r ∧ (∀ w ∈ u_ws r.1 r.2.1 r.2.2, w ∈ gg_W g) ∧ (∀ k, k < r.2.2 → parseFieldDescriptor (r.2.1 k).2.2.1 = some (ty k)) ∧ (∀ a, a < r.2.2 → ∀ b, b < r.2.2 → a ≠ b → (r.2.1 a).2.1 ≠ (r.2.1 b).2.1) ∧ ∀ k, k < r.2.2 → defaultValue (ty k) = if gg_ik g ci k = true then .int 0 else .null
theorem mm_v_i {ik : Nat → Nat → Bool} {M : mm} {c k a : Nat} (h : ik c k = true) : mm_v ik M c k a = .int (mm_i M c k a) := by rw [mm_v, if_pos h]
theorem mm_v_r {ik : Nat → Nat → Bool} {M : mm} {c k a : Nat} (h : ik c k = false) (h0 : mm_r M c k a ≠ 0) : mm_v ik M c k a = .ref (mm_f M c k a) := by
  rw [mm_v, if_neg (by rw [h]; decide), mm_rv, if_neg h0]
  rfl
theorem vv_geti (x : cx g X own nm cc nL ret d lo mc ms p R s m meth c) {ci k idx a : Nat} {r : vw_C} {ty : Nat → FieldType} {ref : String} (hd : decode cc pc = .ok (.getfield idx, 3)) (hc : cf g ci r ty) (hk : k < r.2.2) (hw : Cond.fieldLink own idx ref (r.2.1 k).2.1 (r.2.1 k).2.2.1 ∈ gg_W g) (hsame : ref = (r.2.1 k).1 ∨ Cond.sameField ref (r.2.1 k).1 (r.2.1 k).2.1 (r.2.1 k).2.2.1 ∈ gg_W g) (hik : gg_ik g ci k = true) (ht : mm_t M a = ci + 1)
    (kk : vv g nL p l e R s m args below meth c Q cells slots (pc + 3) ls (.int (mm_i M ci k a) :: rest) M) : vv g nL p l e R s m args below meth c Q cells slots (pc) ls (.ref a :: rest) M := by
  intro H locs la hR hz hL hl
  obtain ⟨ha, cell, q1, q2, q3, q4⟩ := (hR.1 a).2.2.2.1 ci r ht hc.1
  obtain ⟨hS, hfc, kC, hkC, hkind⟩ := x.2.2.2.2.2.1.2.1.1 ci r hc.1
  obtain ⟨cf9, kf, fi, f, hi, hsl⟩ := hS k hk
  have hi2 : s.fieldFound? ref (r.2.1 k).2.1 (r.2.1 k).2.2.1 = some (cf9, kf, fi, f) := by
    rcases hsame with h | h
    · rw [h]; exact hi
    · exact u_same (x.w (a := args) h) _ hi
  refine W.getf x.1 x.2.1 x.2.2.2.1 (x.w hw) hi2 (u_facts (args := args) hfc hkC (u_lays x.ts hc.2.1 hk) hi).1 q1 (by rw [q3]; exact fun h => by cases h) (v := .int (mm_i M ci k a)) ?_ rfl rfl hd (kk H locs la hR hz hL hl)
  rw [hsl, q4 k hk]
  exact congrArg some (mm_v_i hik)
theorem vv_getr (x : cx g X own nm cc nL ret d lo mc ms p R s m meth c) {ci k idx a : Nat} {r : vw_C} {ty : Nat → FieldType} {ref : String} (hd : decode cc pc = .ok (.getfield idx, 3)) (hc : cf g ci r ty) (hk : k < r.2.2) (hw : Cond.fieldLink own idx ref (r.2.1 k).2.1 (r.2.1 k).2.2.1 ∈ gg_W g) (hsame : ref = (r.2.1 k).1 ∨ Cond.sameField ref (r.2.1 k).1 (r.2.1 k).2.1 (r.2.1 k).2.2.1 ∈ gg_W g) (hik : gg_ik g ci k = false) (h0 : mm_r M ci k a ≠ 0) (ht : mm_t M a = ci + 1)
    (kk : vv g nL p l e R s m args below meth c Q cells slots (pc + 3) ls (.ref (mm_f M ci k a) :: rest) M) : vv g nL p l e R s m args below meth c Q cells slots (pc) ls (.ref a :: rest) M := by
  intro H locs la hR hz hL hl
  obtain ⟨ha, cell, q1, q2, q3, q4⟩ := (hR.1 a).2.2.2.1 ci r ht hc.1
  obtain ⟨hS, hfc, kC, hkC, hkind⟩ := x.2.2.2.2.2.1.2.1.1 ci r hc.1
  obtain ⟨cf9, kf, fi, f, hi, hsl⟩ := hS k hk
  have hi2 : s.fieldFound? ref (r.2.1 k).2.1 (r.2.1 k).2.2.1 = some (cf9, kf, fi, f) := by
    rcases hsame with h | h
    · rw [h]; exact hi
    · exact u_same (x.w (a := args) h) _ hi
  refine W.getf x.1 x.2.1 x.2.2.2.1 (x.w hw) hi2 (u_facts (args := args) hfc hkC (u_lays x.ts hc.2.1 hk) hi).1 q1 (by rw [q3]; exact fun h => by cases h) (v := .ref (mm_f M ci k a)) ?_ rfl rfl hd (kk H locs la hR hz hL hl)
  rw [hsl, q4 k hk]
  exact congrArg some (mm_v_r hik h0)
theorem vv_puti (x : cx g X own nm cc nL ret d lo mc ms p R s m meth c) {ci k idx a : Nat} {r : vw_C} {ty : Nat → FieldType} {ref : String} {v : Int32} (hd : decode cc pc = .ok (.putfield idx, 3)) (hc : cf g ci r ty) (hk : k < r.2.2) (hw : Cond.fieldLink own idx ref (r.2.1 k).2.1 (r.2.1 k).2.2.1 ∈ gg_W g) (hsame : ref = (r.2.1 k).1 ∨ Cond.sameField ref (r.2.1 k).1 (r.2.1 k).2.1 (r.2.1 k).2.2.1 ∈ gg_W g) (hfin : (r.2.1 k).2.2.2 = false) (hn : narrow (ty k) (.int v) = .int v) (hfit : fits (ty k) (.int v) = true) (hik : gg_ik g ci k = true) (ht : mm_t M a = ci + 1)
    (kk : vv g nL p l e R s m args below meth c Q cells slots (pc + 3) ls (rest) (mm_si M ci k a v)) : vv g nL p l e R s m args below meth c Q cells slots (pc) ls (.int v :: .ref a :: rest) M := by
  intro H locs la hR hz hL hl
  obtain ⟨ha, cell, q1, q2, q3, q4⟩ := (hR.1 a).2.2.2.1 ci r ht hc.1
  have hap := va_apart (own := own) (args := args) x.ts hc.2.1 ty hc.2.2.1 hc.2.2.2.1 x.2.2.2.2.2.1.2.1 hc.1
  obtain ⟨hS, hfc, kC, hkC, hkind⟩ := x.2.2.2.2.2.1.2.1.1 ci r hc.1
  obtain ⟨cf9, kf, fi, f, hi, hsl⟩ := hS k hk
  have hi2 : s.fieldFound? ref (r.2.1 k).2.1 (r.2.1 k).2.2.1 = some (cf9, kf, fi, f) := by
    rcases hsame with h | h
    · rw [h]; exact hi
    · exact u_same (x.w (a := args) h) _ hi
  have hlay := x.w (a := args) (hc.2.1 _ (u_in_lay hk))
  unfold u_lay at hlay
  rw [if_neg (by rw [hfin]; decide)] at hlay
  have hst := (u_facts (args := args) hfc hkC (u_lays x.ts hc.2.1 hk) hi).1
  have h6 := u_store hfc hkC hkind hlay hi (hc.2.2.1 k hk) hn hfit
  refine W.putK x.1 x.2.1 (f := f) ⟨x.2.2.2.1, x.w hw, ⟨_, _, _, hi2⟩, hst⟩ (by rw [q2]; exact h6) q1 q3 (by rw [hsl]; exact k2_hasslot (q4 k hk)) rfl rfl hd fun H1 e1 e2 e3 => ?_
  rw [hsl] at e1 ⊢
  refine kk H1 _ la (hR.put ha e2 e3 (fun b hb => mm_eq.si hb) (mm_atO hR.2.1 ht hc.1 ha (t_OB.to (V := updV (fun k => mm_v (gg_ik g) M ci k a) k (.int v)) ⟨_, e1, q2, q3, t_set q4 hap hk (.int v)⟩ (fun j _ => ?_)))) (by rw [e2]; exact hz) (lc_put hL ha) hl
  by_cases hj : j = k
  · subst hj
    simp [updV, mm_v, mm_si, mm_i, hik, mm_rv]
  · have e9 : mm_v (gg_ik g) (mm_si M ci k a v) ci j a = mm_v (gg_ik g) M ci j a := by
      unfold mm_v
      rw [show mm_i (mm_si M ci k a v) ci j a = mm_i M ci j a from if_neg (fun z => hj z.2.1)]
      rfl
    rw [e9]
    simp [updV, hj]
theorem vv_putiF (x : cx g X own nm cc nL ret d lo mc ms p R s m meth c) {ci k idx a : Nat} {r : vw_C} {ty : Nat → FieldType} {ref : String} {v : Int32} (hd : decode cc pc = .ok (.putfield idx, 3)) (hc : cf g ci r ty) (hk : k < r.2.2) (hw : Cond.fieldLink own idx ref (r.2.1 k).2.1 (r.2.1 k).2.2.1 ∈ gg_W g) (hsame : ref = (r.2.1 k).1 ∨ Cond.sameField ref (r.2.1 k).1 (r.2.1 k).2.1 (r.2.1 k).2.2.1 ∈ gg_W g) (hfin : (r.2.1 k).2.2.2 = true) (hin2 : nm = "<init>") (hdecl : (r.2.1 k).1 = own) (hn : narrow (ty k) (.int v) = .int v) (hfit : fits (ty k) (.int v) = true) (hik : gg_ik g ci k = true) (ht : mm_t M a = ci + 1)
    (kk : vv g nL p l e R s m args below meth c Q cells slots (pc + 3) ls (rest) (mm_si M ci k a v)) : vv g nL p l e R s m args below meth c Q cells slots (pc) ls (.int v :: .ref a :: rest) M := by
  intro H locs la hR hz hL hl
  obtain ⟨ha, cell, q1, q2, q3, q4⟩ := (hR.1 a).2.2.2.1 ci r ht hc.1
  have hap := va_apart (own := own) (args := args) x.ts hc.2.1 ty hc.2.2.1 hc.2.2.2.1 x.2.2.2.2.2.1.2.1 hc.1
  obtain ⟨hS, hfc, kC, hkC, hkind⟩ := x.2.2.2.2.2.1.2.1.1 ci r hc.1
  obtain ⟨cf9, kf, fi, f, hi, hsl⟩ := hS k hk
  have hi2 : s.fieldFound? ref (r.2.1 k).2.1 (r.2.1 k).2.2.1 = some (cf9, kf, fi, f) := by
    rcases hsame with h | h
    · rw [h]; exact hi
    · exact u_same (x.w (a := args) h) _ hi
  have hlay := x.w (a := args) (hc.2.1 _ (u_in_lay hk))
  unfold u_lay at hlay
  rw [if_pos hfin] at hlay
  have hst := (u_facts (args := args) hfc hkC (u_lays x.ts hc.2.1 hk) hi).1
  have hcf : m.cls = cf9 := by
    obtain ⟨_, _, c', _, _, _, -, -, hf', -, -, -, hown2, -⟩ := Cond.laysFinal_spec hlay
    have e1 : c' = cf9 := by have := hi.symm.trans hf'; simp at this; exact this.1.symm
    rw [hdecl] at hown2
    rw [← e1]; exact Option.some.inj (x.2.2.2.1.symm.trans hown2)
  have h6 := u_fits hfc hkC hkind (Or.inr hlay) hi (hc.2.2.1 k hk) hn hfit
  refine W.putFinK x.1 x.2.1 x.2.2.2.1 (x.w hw) hi2 hst hcf (x.2.2.2.2.2.2.2.2.1.trans hin2) (by rw [q2]; exact h6) q1 q3 (by rw [hsl]; exact k2_hasslot (q4 k hk)) rfl rfl hd fun H1 e1 e2 e3 => ?_
  rw [hsl] at e1 ⊢
  refine kk H1 _ la (hR.put ha e2 e3 (fun b hb => mm_eq.si hb) (mm_atO hR.2.1 ht hc.1 ha (t_OB.to (V := updV (fun k => mm_v (gg_ik g) M ci k a) k (.int v)) ⟨_, e1, q2, q3, t_set q4 hap hk (.int v)⟩ (fun j _ => ?_)))) (by rw [e2]; exact hz) (lc_put hL ha) hl
  by_cases hj : j = k
  · subst hj
    simp [updV, mm_v, mm_si, mm_i, hik, mm_rv]
  · have e9 : mm_v (gg_ik g) (mm_si M ci k a v) ci j a = mm_v (gg_ik g) M ci j a := by
      unfold mm_v
      rw [show mm_i (mm_si M ci k a v) ci j a = mm_i M ci j a from if_neg (fun z => hj z.2.1)]
      rfl
    rw [e9]
    simp [updV, hj]
theorem vv_putr (x : cx g X own nm cc nL ret d lo mc ms p R s m meth c) {ci k idx a : Nat} {r : vw_C} {ty : Nat → FieldType} {ref : String} {v : Nat} (hd : decode cc pc = .ok (.putfield idx, 3)) (hc : cf g ci r ty) (hk : k < r.2.2) (hw : Cond.fieldLink own idx ref (r.2.1 k).2.1 (r.2.1 k).2.2.1 ∈ gg_W g) (hsame : ref = (r.2.1 k).1 ∨ Cond.sameField ref (r.2.1 k).1 (r.2.1 k).2.1 (r.2.1 k).2.2.1 ∈ gg_W g) (hfin : (r.2.1 k).2.2.2 = false) (hn : narrow (ty k) (.ref v) = .ref v) (hfit : fits (ty k) (.ref v) = true) (hik : gg_ik g ci k = false) (ht : mm_t M a = ci + 1)
    (kk : vv g nL p l e R s m args below meth c Q cells slots (pc + 3) ls (rest) (mm_sr M ci k a v)) : vv g nL p l e R s m args below meth c Q cells slots (pc) ls (.ref v :: .ref a :: rest) M := by
  intro H locs la hR hz hL hl
  obtain ⟨ha, cell, q1, q2, q3, q4⟩ := (hR.1 a).2.2.2.1 ci r ht hc.1
  have hap := va_apart (own := own) (args := args) x.ts hc.2.1 ty hc.2.2.1 hc.2.2.2.1 x.2.2.2.2.2.1.2.1 hc.1
  obtain ⟨hS, hfc, kC, hkC, hkind⟩ := x.2.2.2.2.2.1.2.1.1 ci r hc.1
  obtain ⟨cf9, kf, fi, f, hi, hsl⟩ := hS k hk
  have hi2 : s.fieldFound? ref (r.2.1 k).2.1 (r.2.1 k).2.2.1 = some (cf9, kf, fi, f) := by
    rcases hsame with h | h
    · rw [h]; exact hi
    · exact u_same (x.w (a := args) h) _ hi
  have hlay := x.w (a := args) (hc.2.1 _ (u_in_lay hk))
  unfold u_lay at hlay
  rw [if_neg (by rw [hfin]; decide)] at hlay
  have hst := (u_facts (args := args) hfc hkC (u_lays x.ts hc.2.1 hk) hi).1
  have h6 := u_store hfc hkC hkind hlay hi (hc.2.2.1 k hk) hn hfit
  refine W.putK x.1 x.2.1 (f := f) ⟨x.2.2.2.1, x.w hw, ⟨_, _, _, hi2⟩, hst⟩ (by rw [q2]; exact h6) q1 q3 (by rw [hsl]; exact k2_hasslot (q4 k hk)) rfl rfl hd fun H1 e1 e2 e3 => ?_
  rw [hsl] at e1 ⊢
  refine kk H1 _ la (hR.put ha e2 e3 (fun b hb => mm_eq.sr hb) (mm_atO hR.2.1 ht hc.1 ha (t_OB.to (V := updV (fun k => mm_v (gg_ik g) M ci k a) k (.ref v)) ⟨_, e1, q2, q3, t_set q4 hap hk (.ref v)⟩ (fun j _ => ?_)))) (by rw [e2]; exact hz) (lc_put hL ha) hl
  by_cases hj : j = k
  · subst hj
    simp [updV, mm_v, mm_sr, mm_r, hik, mm_rv]
  · have e9 : mm_v (gg_ik g) (mm_sr M ci k a v) ci j a = mm_v (gg_ik g) M ci j a := by
      unfold mm_v
      rw [show mm_r (mm_sr M ci k a v) ci j a = mm_r M ci j a from if_neg (fun z => hj z.2.1)]
      rfl
    rw [e9]
    simp [updV, hj]
theorem vv_putrF (x : cx g X own nm cc nL ret d lo mc ms p R s m meth c) {ci k idx a : Nat} {r : vw_C} {ty : Nat → FieldType} {ref : String} {v : Nat} (hd : decode cc pc = .ok (.putfield idx, 3)) (hc : cf g ci r ty) (hk : k < r.2.2) (hw : Cond.fieldLink own idx ref (r.2.1 k).2.1 (r.2.1 k).2.2.1 ∈ gg_W g) (hsame : ref = (r.2.1 k).1 ∨ Cond.sameField ref (r.2.1 k).1 (r.2.1 k).2.1 (r.2.1 k).2.2.1 ∈ gg_W g) (hfin : (r.2.1 k).2.2.2 = true) (hin2 : nm = "<init>") (hdecl : (r.2.1 k).1 = own) (hn : narrow (ty k) (.ref v) = .ref v) (hfit : fits (ty k) (.ref v) = true) (hik : gg_ik g ci k = false) (ht : mm_t M a = ci + 1)
    (kk : vv g nL p l e R s m args below meth c Q cells slots (pc + 3) ls (rest) (mm_sr M ci k a v)) : vv g nL p l e R s m args below meth c Q cells slots (pc) ls (.ref v :: .ref a :: rest) M := by
  intro H locs la hR hz hL hl
  obtain ⟨ha, cell, q1, q2, q3, q4⟩ := (hR.1 a).2.2.2.1 ci r ht hc.1
  have hap := va_apart (own := own) (args := args) x.ts hc.2.1 ty hc.2.2.1 hc.2.2.2.1 x.2.2.2.2.2.1.2.1 hc.1
  obtain ⟨hS, hfc, kC, hkC, hkind⟩ := x.2.2.2.2.2.1.2.1.1 ci r hc.1
  obtain ⟨cf9, kf, fi, f, hi, hsl⟩ := hS k hk
  have hi2 : s.fieldFound? ref (r.2.1 k).2.1 (r.2.1 k).2.2.1 = some (cf9, kf, fi, f) := by
    rcases hsame with h | h
    · rw [h]; exact hi
    · exact u_same (x.w (a := args) h) _ hi
  have hlay := x.w (a := args) (hc.2.1 _ (u_in_lay hk))
  unfold u_lay at hlay
  rw [if_pos hfin] at hlay
  have hst := (u_facts (args := args) hfc hkC (u_lays x.ts hc.2.1 hk) hi).1
  have hcf : m.cls = cf9 := by
    obtain ⟨_, _, c', _, _, _, -, -, hf', -, -, -, hown2, -⟩ := Cond.laysFinal_spec hlay
    have e1 : c' = cf9 := by have := hi.symm.trans hf'; simp at this; exact this.1.symm
    rw [hdecl] at hown2
    rw [← e1]; exact Option.some.inj (x.2.2.2.1.symm.trans hown2)
  have h6 := u_fits hfc hkC hkind (Or.inr hlay) hi (hc.2.2.1 k hk) hn hfit
  refine W.putFinK x.1 x.2.1 x.2.2.2.1 (x.w hw) hi2 hst hcf (x.2.2.2.2.2.2.2.2.1.trans hin2) (by rw [q2]; exact h6) q1 q3 (by rw [hsl]; exact k2_hasslot (q4 k hk)) rfl rfl hd fun H1 e1 e2 e3 => ?_
  rw [hsl] at e1 ⊢
  refine kk H1 _ la (hR.put ha e2 e3 (fun b hb => mm_eq.sr hb) (mm_atO hR.2.1 ht hc.1 ha (t_OB.to (V := updV (fun k => mm_v (gg_ik g) M ci k a) k (.ref v)) ⟨_, e1, q2, q3, t_set q4 hap hk (.ref v)⟩ (fun j _ => ?_)))) (by rw [e2]; exact hz) (lc_put hL ha) hl
  by_cases hj : j = k
  · subst hj
    simp [updV, mm_v, mm_sr, mm_r, hik, mm_rv]
  · have e9 : mm_v (gg_ik g) (mm_sr M ci k a v) ci j a = mm_v (gg_ik g) M ci j a := by
      unfold mm_v
      rw [show mm_r (mm_sr M ci k a v) ci j a = mm_r M ci j a from if_neg (fun z => hj z.2.1)]
      rfl
    rw [e9]
    simp [updV, hj]
theorem vv_new (x : cx g X own nm cc nL ret d lo mc ms p R s m meth c) {ci idx : Nat} {r : vw_C} {ty : Nat → FieldType} (hd : decode cc pc = .ok (.new idx, 3)) (hc : cf g ci r ty) (hw : Cond.classLink own idx r.1 ∈ gg_W g) (hw2 : Cond.instantiable r.1 r.2.2 ∈ gg_W g) (hw3 : Cond.initialized r.1 ∈ gg_W g) (h1 : cells + 1 ≤ mc) (h2 : slots + r.2.2 ≤ ms)
    (kk : ∀ q : Nat, mm_t M q = 0 → vv g nL p l e R s m args below meth c Q (cells + 1) (slots + r.2.2) (pc + 3) ls (.ref q :: rest) (mm_nw M q (ci + 1) 0)) : vv g nL p l e R s m args below meth c Q cells slots (pc) ls (rest) M := by
  intro H locs la hR hz hL hl
  have hKn := x.2.2.2.2.2.1.2.1.1 ci r hc.1
  have hRr := x.2.2.2.2.2.2.1
  refine W.newcK x.1 x.2.1 x.2.2.2.1 (x.w hw) (x.w hw2) (x.w hw3) rfl hd (by rw [hRr]; exact h1) (by rw [hRr]; exact h2) hKn.2.1 rfl fun H1 kC hkC e1 z1 o1 => ?_
  refine kk H.size hR.fresh H1 locs la (hR.push rfl z1 o1 (fun b hb => mm_eq.nw hb) (mm_atO (c := ci) hR.2.1 (by simp [mm_nw, mm_t]) hc.1 hR.2.2.2.1 ((u_born ty (args := args) x.ts hc.2.1 hKn hkC e1 hc.2.2.1).to (fun k hk => ?_)))) (by omega) hL hl
  rw [hc.2.2.2.2 k hk]
  simp [mm_v, mm_nw, mm_i, mm_r, mm_rv]
theorem vv_newI (x : cx g X own nm cc nL ret d lo mc ms p R s m meth c) {n : Int32} (hd : decode cc pc = .ok (.newarray .int, 2)) (hw : Cond.arrayClass .int ∈ gg_W g) (hn : ¬ n < 0) (hN : n.toNatClampNeg ≤ 100000) (h1 : cells + 1 ≤ mc) (h2 : slots + n.toNatClampNeg ≤ ms)
    (kk : ∀ q : Nat, mm_t M q = 0 → vv g nL p l e R s m args below meth c Q (cells + 1) (slots + n.toNatClampNeg) (pc + 2) ls (.ref q :: rest) (mm_nw M q 100 n.toNatClampNeg)) : vv g nL p l e R s m args below meth c Q cells slots (pc) ls (.int n :: rest) M := by
  intro H locs la hR hz hL hl
  have hRr := x.2.2.2.2.2.2.1
  have hRA : s.vm.findClass ("[" ++ (FieldType.toString .int)) = some (gg_I g) := (x.2.2.2.2.2.1.2.1.2 0 _ rfl).2
  refine va_newaK (atype := .int) x.1 x.2.1 (x.w hw) rfl hd rfl hn rfl (by show _ * componentBytes .int ≤ _; simp only [componentBytes]; omega) (by rw [hRr]; exact h1) (by rw [hRr]; exact h2) rfl fun H1 cA e1 z1 o1 hAr hNm => ?_
  have hcA : cA = gg_I g := Option.some.inj (hNm.symm.trans hRA)
  subst hcA
  refine kk H.size hR.fresh H1 locs la (hR.push rfl z1 o1 (fun b hb => mm_eq.nw hb) (mm_atI hR.2.1 (by simp [mm_nw, mm_t]) hR.2.2.2.1 ?_)) (by omega) hL hl
  rw [e1]
  simp [mm_nw, mm_n, mm_a, mm_l, newarray.typeOf, defaultValue]
theorem vv_newL (x : cx g X own nm cc nL ret d lo mc ms p R s m meth c) {n : Int32} (hd : decode cc pc = .ok (.newarray .long, 2)) (hw : Cond.arrayClass .long ∈ gg_W g) (hn : ¬ n < 0) (hN : n.toNatClampNeg ≤ 100000) (h1 : cells + 1 ≤ mc) (h2 : slots + n.toNatClampNeg ≤ ms)
    (kk : ∀ q : Nat, mm_t M q = 0 → vv g nL p l e R s m args below meth c Q (cells + 1) (slots + n.toNatClampNeg) (pc + 2) ls (.ref q :: rest) (mm_nw M q 101 n.toNatClampNeg)) : vv g nL p l e R s m args below meth c Q cells slots (pc) ls (.int n :: rest) M := by
  intro H locs la hR hz hL hl
  have hRr := x.2.2.2.2.2.2.1
  have hRA : s.vm.findClass ("[" ++ (FieldType.toString .long)) = some (gg_L g) := (x.2.2.2.2.2.1.2.1.2 1 _ rfl).2
  refine va_newaK (atype := .long) x.1 x.2.1 (x.w hw) rfl hd rfl hn rfl (by show _ * componentBytes .long ≤ _; simp only [componentBytes]; omega) (by rw [hRr]; exact h1) (by rw [hRr]; exact h2) rfl fun H1 cA e1 z1 o1 hAr hNm => ?_
  have hcA : cA = gg_L g := Option.some.inj (hNm.symm.trans hRA)
  subst hcA
  refine kk H.size hR.fresh H1 locs la (hR.push rfl z1 o1 (fun b hb => mm_eq.nw hb) (mm_atL hR.2.1 (by simp [mm_nw, mm_t]) hR.2.2.2.1 ?_)) (by omega) hL hl
  rw [e1]
  simp [mm_nw, mm_n, mm_a, mm_l, newarray.typeOf, defaultValue]
theorem vv_newQ (x : cx g X own nm cc nL ret d lo mc ms p R s m meth c) {n : Int32} {idx : Nat} (hd : decode cc pc = .ok (.anewarray idx, 3)) (hw : Cond.classLink own idx "java/lang/Object" ∈ gg_W g) (hw2 : Cond.arrayOver (.object "java/lang/Object") ∈ gg_W g) (hn : ¬ n < 0) (hN : n.toNatClampNeg ≤ 100000) (h1 : cells + 1 ≤ mc) (h2 : slots + n.toNatClampNeg ≤ ms)
    (kk : ∀ q : Nat, mm_t M q = 0 → vv g nL p l e R s m args below meth c Q (cells + 1) (slots + n.toNatClampNeg) (pc + 3) ls (.ref q :: rest) (mm_nw M q 102 n.toNatClampNeg)) : vv g nL p l e R s m args below meth c Q cells slots (pc) ls (.int n :: rest) M := by
  intro H locs la hR hz hL hl
  have hRr := x.2.2.2.2.2.2.1
  obtain ⟨kA9, comp9, -, -, -, hRA⟩ := (x.2.2.2.2.2.1.2.1.2 2 _ rfl).2
  refine W.anew x.1 x.2.1 x.2.2.2.1 (x.w hw) (x.w hw2) rfl hd rfl hn (by omega) (by rw [hRr]; exact h1) (by rw [hRr]; exact h2) fun cA kA comp f1 f2 f3 f4 => ?_
  have hcA : cA = gg_Q g := Option.some.inj (f1.symm.trans hRA)
  subst hcA
  refine kk H.size hR.fresh _ locs la (hR.push rfl (by rw [Array.size_push]) (fun q hq => by rw [Array.getElem?_push, if_neg (Nat.ne_of_lt hq)]) (fun b hb => mm_eq.nw hb) (mm_atQ hR.2.1 (by simp [mm_nw, mm_t]) hR.2.2.2.1 ?_)) (by rw [Array.size_push]; omega) hL hl
  have e9 : arrV (gg_Q g) (mm_n (mm_nw M H.size 102 n.toNatClampNeg) H.size) (fun j => mm_rv (mm_q (mm_nw M H.size 102 n.toNatClampNeg) H.size j)) = arrV (gg_Q g) n.toNatClampNeg (fun _ => .null) := by simp [mm_nw, mm_n, mm_q, mm_rv]
  rw [e9, Array.getElem?_push_size, ← arrV_new]
/-- an object of a class, as a receiver -/
theorem mm_recv (x : cx g X own nm cc nL ret d lo mc ms p R s m meth c) {ci a : Nat} {r : vw_C} {H : Heap} (hR : mm_R g M H) (hc : (gg_cl g)[ci]? = some r) (ht : mm_t M a = ci + 1) : ∃ cell : Cell, H[a]? = some cell ∧ cell.vm.isStatics = false ∧ s.vm.findClass r.1 = some cell.cls := by
  obtain ⟨ha, cell, q1, q2, q3, q4⟩ := (hR.1 a).2.2.2.1 ci r ht hc
  exact ⟨cell, q1, by rw [q3]; rfl, by rw [q2]; exact (x.2.2.2.2.2.1.2.1.1 ci r hc).2.1⟩
theorem vv_cast (x : cx g X own nm cc nL ret d lo mc ms p R s m meth c) {ci idx a : Nat} {r : vw_C} {ty : Nat → FieldType} (hd : decode cc pc = .ok (.checkcast idx, 3)) (hc : cf g ci r ty) (hw : Cond.classLink own idx r.1 ∈ gg_W g) (ht : mm_t M a = ci + 1)
    (kk : vv g nL p l e R s m args below meth c Q cells slots (pc + 3) ls (.ref a :: rest) M) : vv g nL p l e R s m args below meth c Q cells slots (pc) ls (.ref a :: rest) M :=
  fun H locs la hR hz hL hl => va_castS x.1 x.2.1 x.2.2.2.1 (x.w hw) (x.2.2.2.2.2.1.2.1.1 ci r hc.1).2 (mm_recv x hR hc.1 ht) hd (kk H locs la hR hz hL hl)
theorem vv_objInit (x : cx g X own nm cc nL ret d lo mc ms p R s m meth c) {idx a : Nat} (hd : decode cc pc = .ok (.invokespecial idx, 3)) (hw : Cond.methodLink own idx Lib.objectInit ∈ gg_W g) (hw2 : Cond.instanceMethod Lib.objectInit ∈ gg_W g) (hw3 : Cond.code Lib.objectInit ⟨#[0xb1]⟩ 1 none ∈ gg_W g) (hdd : 1 ≤ d ∧ 20 ≤ lo) (hr : (rest.map fun v => v.category).sum ≤ 8)
    (kk : vv g nL p l e R s m args below meth c Q cells slots (pc + 3) ls (rest) M) : vv g nL p l e R s m args below meth c Q cells slots (pc) ls (.ref a :: rest) M := by
  intro H locs la hR hz hL hl
  have hRr := x.2.2.2.2.2.2.1
  exact W.objInit x.1 x.2.1 x.2.2.2.1 (x.w hw) (x.w hw2) (x.w hw3) rfl (by rw [x.2.2.1]; exact hl.1) rfl hd (by rw [hRr]; exact hdd.1) (by rw [hRr]; show 2 * 0 + _ + 12 ≤ lo; omega) (kk H locs la hR hz hL hl)
end VF
/-! ===== contracts ===== -/
def ok_P (g : gg) (X : State → Prop) (av : List Value) (M : mm) : Array Value → State → Prop := fun a U => a = av.toArray ∧ mm_R g M U.heap ∧ kk_K g X U
def ok_Q (g : gg) (Qr : Option Value → mm → Prop) : Array Value → State → Outcome → State → Prop := fun _ st o t => ∃ (v : Option Value) (M' : mm), o = .returned v ∧ Qr v M' ∧ mm_R g M' t.heap ∧ st.heap.size ≤ t.heap.size
abbrev ok_F (g : gg) : Addr → Prop := fun q => (gg_H g).size ≤ q
/-- y, called with av in the memory M, returns: the answer and the memory are as Qr says -/
def Ok (g : gg) (X : State → Prop) (l : Launch) (y : MethodName) (cc : ByteArray) (nL : Nat) (ret : Option FieldType) (d lo mc ms : Nat) (av : List Value) (M : mm) (Qr : Option Value → mm → Prop) : Prop :=
  Met l y [.code y cc nL ret] (rm d lo mc ms) (ok_P g X av M) (ok_Q g Qr) mc ms (ok_F g)
theorem ok_blind {g : gg} {X : State → Prop} {av : List Value} {M : mm} : FrameBlind (ok_P g X av M) := fun a U _ mk q => ⟨q.1, q.2.1, kk_K.warm (State.WarmedH.refl U) q.2.2⟩
theorem ok_pre {g : gg} {X : State → Prop} {av : List Value} {M : mm} {s : State} {H : Heap} (hR : mm_R g M H) (hK : kk_K g X s) : ∀ U : State, U.heap = H → s.WarmedH U.vm → ok_P g X av M av.toArray U := fun U hU hW => ⟨rfl, by rw [hU]; exact hR, kk_K.warm hW hK⟩
def lz_en (av : List Value) (nL : Nat) : List (Option Value) := av.map some ++ List.replicate (nL - av.length) none
theorem lg_sl_1 : ∀ {av : List Value}, (∀ v ∈ av, v.category = 1) → lg_sl av = av.map Slot.val
  | [], _ => rfl
  | v :: vs, h => by
    have h1 : ¬ v.category = 2 := by rw [h v List.mem_cons_self]; decide
    have h2 := lg_sl_1 (av := vs) (fun w hw => h w (List.mem_cons_of_mem _ hw))
    simp only [lg_sl] at h2 ⊢
    simp [h1, h2]
theorem lz_entry {av : List Value} {nL : Nat} (hl : av.length ≤ nL) (hc : ∀ v ∈ av, v.category = 1) : lz ((lg_sl av ++ List.replicate (nL - (lg_sl av).length) Slot.unset).toArray) nL (lz_en av nL) := by
  have h0 := lv_entry av (n := nL) (by rw [lg_sl_1 hc, List.length_map]; exact hl)
  refine ⟨h0.1, h0.2.1, fun i v hi => ?_⟩
  unfold lz_en at hi
  by_cases h1 : i < av.length
  · rw [List.getElem?_append_left (by rw [List.length_map]; exact h1), List.getElem?_map] at hi
    have h2 : av[i]? = some v := by
      cases h3 : av[i]? with
      | none => rw [h3] at hi; cases hi
      | some w => rw [h3] at hi; simp at hi; rw [hi]
    refine ⟨hc v (List.mem_of_getElem? h2), ?_⟩
    rw [lg_sl_1 hc, List.getElem?_toArray, List.getElem?_append_left (by rw [List.length_map]; exact h1), List.getElem?_map, h2]
    rfl
  · rw [List.getElem?_append_right (by rw [List.length_map]; omega)] at hi
    have h2 := List.eq_of_mem_replicate (List.mem_of_getElem? hi)
    cases h2
section VC
variable {g : gg} {X : State → Prop} {own nm : String} {cc : ByteArray} {nL : Nat} {ret : Option FieldType} {d lo mc ms : Nat} {p : Program} {l : Launch} {e : Env} {R : Room} {s : State} {m : MethodId} {args : Array Value} {below : List Frame} {meth : Method} {c : Code} {Q : State → Prop} {cells slots pc : Nat} {ls : List (Option Value)} {rest : List Value} {M : mm}
variable {y : MethodName} {cc2 : ByteArray} {nL2 d2 lo2 mc2 ms2 idx : Nat} {ret2 : Option FieldType} {av : List Value} {Qr : Option Value → mm → Prop}
theorem ok_start (hy : plainName y.cls = true) (hl : av.length ≤ nL) (hav : ∀ v ∈ av, v.category = 1)
    (body : ∀ (p : Program) (e : Env) (s : State) (m : MethodId) (args : Array Value) (below : List Frame) (meth : Method) (c : Code), cx g X y.cls y.name cc nL ret d lo mc ms p (rm d lo mc ms) s m meth c → vv g nL p l e (rm d lo mc ms) s m args below meth c (MQ below (ok_Q g Qr) args s mc ms (ok_F g)) 0 0 0 (lz_en av nL) [] M) : Ok g X l y cc nL ret d lo mc ms av M Qr := by
  refine Met.ofW (cc := cc) (maxL := nL) (ret := ret) hy rfl ?_
  intro p e s m args below meth c s₁ B hml hv
  obtain ⟨rfl, hR, hK⟩ := hv
  rw [lg_entry_eq]
  exact body p e s m _ below meth c ⟨B.exec, B.bytes, hml, findClass_of_methodNamed B.named, B.notSynchronized, hK, rfl, B.returns, (name_of_methodNamed B.named B.method).1, hR.2.2.2.1, hR.2.2.2.2⟩ s.heap [] _ hR (Nat.le_refl _) (fun q h => nomatch h) (lz_entry hl hav)
theorem vv_iret (x : cx g X own nm cc nL ret d lo mc ms p R s m meth c) {v : Int32} (hd : decode cc pc = .ok (.ireturn, 1)) (hr : ret = some .int) (h1 : cells ≤ mc) (h2 : slots ≤ ms) (hq : Qr (some (.int v)) M) : vv g nL p l e R s m args below meth c (MQ below (ok_Q g Qr) args s mc ms (ok_F g)) cells slots pc ls [.int v] M :=
  fun H locs la hR hz hL hl => W.widen h1 h2 (W.iret x.1 x.2.1 (x.2.2.2.2.2.2.2.1.trans hr) (fun t ht _ => ⟨_, M, rfl, hq, by rw [ht]; exact hR, by rw [ht]; exact hz⟩) hL hd x.2.2.2.2.1)
theorem vv_zret (x : cx g X own nm cc nL ret d lo mc ms p R s m meth c) {v : Int32} (hd : decode cc pc = .ok (.ireturn, 1)) (hr : ret = some .boolean) (hv : v = 0 ∨ v = 1) (h1 : cells ≤ mc) (h2 : slots ≤ ms) (hq : Qr (some (.int v)) M) : vv g nL p l e R s m args below meth c (MQ below (ok_Q g Qr) args s mc ms (ok_F g)) cells slots pc ls [.int v] M :=
  fun H locs la hR hz hL hl => W.widen h1 h2 (W.zret x.1 x.2.1 (x.2.2.2.2.2.2.2.1.trans hr) (by rcases hv with rfl | rfl <;> decide) (fun t ht _ => ⟨_, M, rfl, hq, by rw [ht]; exact hR, by rw [ht]; exact hz⟩) hL hd x.2.2.2.2.1)
theorem vv_aret (x : cx g X own nm cc nL ret d lo mc ms p R s m meth c) {v : Nat} {n : String} (hd : decode cc pc = .ok (.areturn, 1)) (hr : ret = some (.object n)) (h1 : cells ≤ mc) (h2 : slots ≤ ms) (hq : Qr (some (.ref v)) M) : vv g nL p l e R s m args below meth c (MQ below (ok_Q g Qr) args s mc ms (ok_F g)) cells slots pc ls [.ref v] M :=
  fun H locs la hR hz hL hl => W.widen h1 h2 (W.aret x.1 x.2.1 (x.2.2.2.2.2.2.2.1.trans hr) (Or.inl ⟨n, rfl⟩) (Or.inr ⟨v, rfl⟩) (fun t ht _ => ⟨_, M, rfl, hq, by rw [ht]; exact hR, by rw [ht]; exact hz⟩) hL hd x.2.2.2.2.1)
theorem vv_vret (x : cx g X own nm cc nL ret d lo mc ms p R s m meth c) (hd : decode cc pc = .ok (.return_, 1)) (hr : ret = none) (h1 : cells ≤ mc) (h2 : slots ≤ ms) (hq : Qr none M) : vv g nL p l e R s m args below meth c (MQ below (ok_Q g Qr) args s mc ms (ok_F g)) cells slots pc ls [] M :=
  fun H locs la hR hz hL hl => W.widen h1 h2 (W.vret x.1 x.2.1 (x.2.2.2.2.2.2.2.1.trans hr) (fun t ht _ => ⟨_, M, rfl, hq, by rw [ht]; exact hR, by rw [ht]; exact hz⟩) hL hd x.2.2.2.2.1)
/-- what every call needs: words, room -/
def cw (g : gg) (own : String) (idx : Nat) (y : MethodName) (cc2 : ByteArray) (nL2 : Nat) (ret2 : Option FieldType) (n : Nat) : Prop := Cond.methodLink own idx y ∈ gg_W g ∧ Cond.initialized y.cls ∈ gg_W g ∧ Cond.code y cc2 nL2 ret2 ∈ gg_W g ∧ goodWord (Cond.code y cc2 nL2 ret2) = true ∧ (y.cls ≠ "java/lang/invoke/MethodHandle" ∧ y.cls ≠ "java/lang/invoke/VarHandle") ∧ (parseMethodDescriptor y.desc).map (fun d => d.parameters.length) = some n
theorem cw.B (x : cx g X own nm cc nL ret d lo mc ms p R s m meth c) {n : Nat} (h : cw g own idx y cc2 nL2 ret2 n) (hdd : d2 + 1 ≤ d ∧ 19 + nL2 + lo2 ≤ lo) : CallB R s args own idx y cc2 nL2 ret2 [.code y cc2 nL2 ret2] (rm d2 lo2 mc2 ms2) mc2 ms2 n := by
  obtain ⟨w1, w2, w3, w4, w5, w6⟩ := h
  have hRr := x.2.2.2.2.2.2.1
  refine ⟨rfl, rfl, by rw [hRr]; exact hdd.1, by rw [hRr]; show 8 + (nL2 + 11) + lo2 ≤ lo; omega, fun w hw a' U hW => ?_, List.mem_singleton.mpr rfl, x.w w3, x.w w2, w5, fun sig h => ?_, x.w w1⟩
  · rw [List.mem_singleton.mp hw]
    exact word_at hW (good_of_word w4) (x.w (a := #[]) w3)
  · rw [h] at w6
    exact (Option.some.inj w6).symm
/-- behind a call -/
theorem vv_back (x : cx g X own nm cc nL ret d lo mc ms p R s m meth c) {b : List Value} {av2 : Array Value} {H : Heap} (hz : s.heap.size ≤ H.size) {locs : List Loc} {la : Array Slot} (hL : ∀ q ∈ locs, (gg_H g).size ≤ q.base) (hl : lz la nL ls)
    (hr : va_Run p l e R s m args below meth c H locs cells slots mc2 ms2 (F0 m pc la b) rest (ok_Q g Qr av2) (ok_F g))
    (k : ∀ (v : Option Value) (M' : mm), Qr v M' → vv g nL p l e R s m args below meth c Q (cells + mc2) (slots + ms2) (pc + 3) ls (v.toList ++ rest) M') : W p l e R s m args below meth c H locs cells slots Q (F0 m pc la b) := by
  intro T hT XX
  obtain ⟨v, st₀, t, T', L, h0, X', hLL, e1, e2, ⟨v', M', hv, hq, hR', hz'⟩, go⟩ := hr T hT XX
  cases hv
  obtain ⟨t2, a1, b1⟩ := k v M' hq T'.heap (locs ++ L) la (by rw [e1]; exact hR') (by rw [e1]; rw [h0] at hz'; omega) (fun q hq9 => (List.mem_append.mp hq9).elim (hL q) (hLL q)) hl T' rfl X'
  exact ⟨t2, go t2 a1, b1⟩
theorem vv_callS (x : cx g X own nm cc nL ret d lo mc ms p R s m meth c) {b : List Value} (hd : decode cc pc = .ok (.invokestatic idx, 3)) (hM : Ok g X l y cc2 nL2 ret2 d2 lo2 mc2 ms2 av M Qr) (hw : cw g own idx y cc2 nL2 ret2 av.length) (hw2 : Cond.static y ∈ gg_W g) (hdd : d2 + 1 ≤ d ∧ 19 + nL2 + lo2 ≤ lo) (h1 : cells + mc2 ≤ mc) (h2 : slots + ms2 ≤ ms) (hst : b = av.reverse ++ rest) (hr : (rest.map fun v => v.category).sum ≤ 8)
    (k : ∀ (v : Option Value) (M' : mm), Qr v M' → vv g nL p l e R s m args below meth c Q (cells + mc2) (slots + ms2) (pc + 3) ls (v.toList ++ rest) M') : vv g nL p l e R s m args below meth c Q cells slots (pc) ls (b) M := by
  intro H locs la hR hz hL hl
  have hRr := x.2.2.2.2.2.2.1
  exact vv_back x hz hL hl (va_runS (As := av) (rest := rest) ⟨x.1, x.2.1, x.2.2.1, x.2.2.2.1, x.ts⟩ hM ⟨hw.B x hdd, x.w hw2⟩ ⟨ok_blind, ok_pre hR x.2.2.2.2.2.1⟩ rfl rfl hl.1 hst (lv_room hr) hd ⟨by rw [hRr]; exact h1, by rw [hRr]; exact h2⟩) k
theorem vv_callV (x : cx g X own nm cc nL ret d lo mc ms p R s m meth c) {b : List Value} {ci o : Nat} {r : vw_C} (hd : decode cc pc = .ok (.invokevirtual idx, 3)) (hM : Ok g X l y cc2 nL2 ret2 d2 lo2 mc2 ms2 (.ref o :: av) M Qr) (hw : cw g own idx y cc2 nL2 ret2 av.length) (hw2 : Cond.instanceMethod y ∈ gg_W g) (hw3 : Cond.selects r.1 y y ∈ gg_W g) (hc : (gg_cl g)[ci]? = some r) (ht : mm_t M o = ci + 1) (hdd : d2 + 1 ≤ d ∧ 19 + nL2 + lo2 ≤ lo) (h1 : cells + mc2 ≤ mc) (h2 : slots + ms2 ≤ ms) (hst : b = av.reverse ++ .ref o :: rest) (hr : (rest.map fun v => v.category).sum ≤ 8)
    (k : ∀ (v : Option Value) (M' : mm), Qr v M' → vv g nL p l e R s m args below meth c Q (cells + mc2) (slots + ms2) (pc + 3) ls (v.toList ++ rest) M') : vv g nL p l e R s m args below meth c Q cells slots (pc) ls (b) M := by
  intro H locs la hR hz hL hl
  have hRr := x.2.2.2.2.2.2.1
  exact vv_back x hz hL hl (va_runV (As := av) (rest := rest) ⟨x.1, x.2.1, x.2.2.1, x.2.2.2.1, x.ts⟩ hM ⟨hw.B x hdd, x.w hw2, x.w hw3⟩ ⟨ok_blind, mm_recv x hR hc ht, ok_pre hR x.2.2.2.2.2.1⟩ rfl rfl hl.1 hst (lv_room hr) hd ⟨by rw [hRr]; exact h1, by rw [hRr]; exact h2⟩) k
theorem vv_callI (x : cx g X own nm cc nL ret d lo mc ms p R s m meth c) {b : List Value} {o : Nat} (hd : decode cc pc = .ok (.invokespecial idx, 3)) (hM : Ok g X l y cc2 nL2 none d2 lo2 mc2 ms2 (.ref o :: av) M Qr) (hw : cw g own idx y cc2 nL2 none av.length) (hy : y.name = "<init>") (hw2 : Cond.instanceMethod y ∈ gg_W g) (hdd : d2 + 1 ≤ d ∧ 19 + nL2 + lo2 ≤ lo) (h1 : cells + mc2 ≤ mc) (h2 : slots + ms2 ≤ ms) (hst : b = av.reverse ++ .ref o :: rest) (hr : (rest.map fun v => v.category).sum ≤ 8)
    (k : ∀ (v : Option Value) (M' : mm), Qr v M' → vv g nL p l e R s m args below meth c Q (cells + mc2) (slots + ms2) (pc + 3) ls (v.toList ++ rest) M') : vv g nL p l e R s m args below meth c Q cells slots (pc) ls (b) M := by
  intro H locs la hR hz hL hl
  have hRr := x.2.2.2.2.2.2.1
  exact vv_back x hz hL hl (va_runI (As := av) (rest := rest) ⟨x.1, x.2.1, x.2.2.1, x.2.2.2.1, x.ts⟩ hM ⟨hw.B x hdd, hy, x.w hw2⟩ ⟨ok_blind, ok_pre hR x.2.2.2.2.2.1⟩ rfl rfl hl.1 hst (lv_room hr) hd ⟨by rw [hRr]; exact h1, by rw [hRr]; exact h2⟩) k
end VC
