/-! ===== the memory as the proofs see it: tags, int fields, reference fields, lengths, int arrays, long arrays, reference arrays ===== -/
abbrev mm : Type := (Nat → Nat) × (Nat → Nat → Nat → Int32) × (Nat → Nat → Nat → Nat) × (Nat → Nat) × (Nat → Nat → Int32) × (Nat → Nat → Int64) × (Nat → Nat → Nat)
/-- what lies there: 0 nothing known, c + 1 an object of class c, 100 an int array, 101 a long array, 102 an array of objects -/
def mm_t (M : mm) : Nat → Nat := M.1
def mm_i (M : mm) : Nat → Nat → Nat → Int32 := M.2.1
def mm_r (M : mm) : Nat → Nat → Nat → Nat := M.2.2.1
def mm_n (M : mm) : Nat → Nat := M.2.2.2.1
def mm_a (M : mm) : Nat → Nat → Int32 := M.2.2.2.2.1
def mm_l (M : mm) : Nat → Nat → Int64 := M.2.2.2.2.2.1
def mm_q (M : mm) : Nat → Nat → Nat := M.2.2.2.2.2.2
/-- an int field of class c, place k, of the object at a -/
def mm_si (M : mm) (c k a : Nat) (v : Int32) : mm := (mm_t M, fun c' k' a' => if c' = c ∧ k' = k ∧ a' = a then v else mm_i M c' k' a', mm_r M, mm_n M, mm_a M, mm_l M, mm_q M)
def mm_sr (M : mm) (c k a r : Nat) : mm := (mm_t M, mm_i M, fun c' k' a' => if c' = c ∧ k' = k ∧ a' = a then r + 1 else mm_r M c' k' a', mm_n M, mm_a M, mm_l M, mm_q M)
/-- the whole contents of an array -/
def mm_sa (M : mm) (a : Nat) (f : Nat → Int32) : mm := (mm_t M, mm_i M, mm_r M, mm_n M, fun b => if b = a then f else mm_a M b, mm_l M, mm_q M)
def mm_sl (M : mm) (a : Nat) (f : Nat → Int64) : mm := (mm_t M, mm_i M, mm_r M, mm_n M, mm_a M, fun b => if b = a then f else mm_l M b, mm_q M)
def mm_sq (M : mm) (a : Nat) (f : Nat → Nat) : mm := (mm_t M, mm_i M, mm_r M, mm_n M, mm_a M, mm_l M, fun b => if b = a then f else mm_q M b)
/-- what is made: all zero -/
def mm_nw (M : mm) (a t n : Nat) : mm := (fun b => if b = a then t else mm_t M b, fun c k b => if b = a then 0 else mm_i M c k b, fun c k b => if b = a then 0 else mm_r M c k b, fun b => if b = a then n else mm_n M b, fun b => if b = a then fun _ => 0 else mm_a M b, fun b => if b = a then fun _ => 0 else mm_l M b, fun b => if b = a then fun _ => 0 else mm_q M b)
/-- a reference: 0 is null, r + 1 the address r -/
def mm_rv (r : Nat) : Value := if r = 0 then .null else .ref (r - 1)
def mm_f (M : mm) (c k a : Nat) : Nat := mm_r M c k a - 1
def mm_e (M : mm) (a i : Nat) : Nat := mm_q M a i - 1
/-- a field's value: ik says which fields are ints -/
def mm_v (ik : Nat → Nat → Bool) (M : mm) (c k a : Nat) : Value := if ik c k = true then .int (mm_i M c k a) else mm_rv (mm_r M c k a)
/-- what does not change in a claim: slots of the classes, the classes, which fields are ints, the array classes, the words, the heap at the start -/
abbrev gg : Type := va_G × List vw_C × (Nat → Nat → Bool) × (ClassId × ClassId × ClassId) × List Cond × Heap
def gg_D (g : gg) : va_G := g.1
def gg_cl (g : gg) : List vw_C := g.2.1
def gg_ik (g : gg) : Nat → Nat → Bool := g.2.2.1
def gg_I (g : gg) : ClassId := g.2.2.2.1.1
def gg_L (g : gg) : ClassId := g.2.2.2.1.2.1
def gg_Q (g : gg) : ClassId := g.2.2.2.1.2.2
def gg_W (g : gg) : List Cond := g.2.2.2.2.1
def gg_H (g : gg) : Heap := g.2.2.2.2.2
/-- the heap holds at a what the memory says -/
def mm_at (g : gg) (M : mm) (H : Heap) (a : Nat) : Prop :=
  (mm_t M a = 100 → (gg_H g).size ≤ a ∧ H[a]? = some (arrV (gg_I g) (mm_n M a) (fun j => .int (mm_a M a j)))) ∧
  (mm_t M a = 101 → (gg_H g).size ≤ a ∧ H[a]? = some (arrV (gg_L g) (mm_n M a) (fun j => .long (mm_l M a j)))) ∧
  (mm_t M a = 102 → (gg_H g).size ≤ a ∧ H[a]? = some (arrV (gg_Q g) (mm_n M a) (fun j => mm_rv (mm_q M a j)))) ∧
  (∀ (c : Nat) (r : vw_C), mm_t M a = c + 1 → (gg_cl g)[c]? = some r → (gg_H g).size ≤ a ∧ t_OB a ((gg_D g).1 c) r.2.2 ((gg_D g).2 c) H (fun k => mm_v (gg_ik g) M c k a)) ∧
  (mm_t M a ≠ 0 → (gg_H g).size ≤ a ∧ a < H.size)
def mm_R (g : gg) (M : mm) (H : Heap) : Prop :=
  (∀ a, mm_at g M H a) ∧ (gg_cl g).length ≤ 99 ∧ 0 < (gg_H g).size ∧ (gg_H g).size ≤ H.size ∧ ∀ q : Nat, q < (gg_H g).size → H[q]? = (gg_H g)[q]?
/-- two memories that say the same of b -/
def mm_eq (M M' : mm) (b : Nat) : Prop := mm_t M' b = mm_t M b ∧ (∀ c k, mm_i M' c k b = mm_i M c k b) ∧ (∀ c k, mm_r M' c k b = mm_r M c k b) ∧ mm_n M' b = mm_n M b ∧ mm_a M' b = mm_a M b ∧ mm_l M' b = mm_l M b ∧ mm_q M' b = mm_q M b
theorem mm_at.kept {g : gg} {M M' : mm} {H H' : Heap} {b : Nat} (h : mm_at g M H b) (he : mm_eq M M' b) (hH : mm_t M b ≠ 0 → H'[b]? = H[b]?) : mm_at g M' H' b := by
  obtain ⟨e1, e2, e3, e4, e5, e6, e7⟩ := he
  obtain ⟨h1, h2, h3, h4, h5⟩ := h
  refine ⟨fun q => ?_, fun q => ?_, fun q => ?_, fun c r q hr => ?_, fun q => ?_⟩
  · rw [e1] at q
    obtain ⟨a1, a2⟩ := h1 q
    exact ⟨a1, by rw [hH (by omega), a2, e4, e5]⟩
  · rw [e1] at q
    obtain ⟨a1, a2⟩ := h2 q
    exact ⟨a1, by rw [hH (by omega), a2, e4, e6]⟩
  · rw [e1] at q
    obtain ⟨a1, a2⟩ := h3 q
    exact ⟨a1, by rw [hH (by omega), a2, e4, e7]⟩
  · rw [e1] at q
    obtain ⟨a1, a2⟩ := h4 c r q hr
    refine ⟨a1, (a2.kept (hH (by omega))).to (fun k _ => ?_)⟩
    simp only [mm_v, e2, e3]
  · rw [e1] at q
    have h6 := hH q
    have h7 := h5 q
    rw [Array.getElem?_eq_getElem h7.2] at h6
    exact ⟨h7.1, (Array.getElem?_eq_some_iff.mp h6).1⟩
/-- a write at a -/
theorem mm_R.put {g : gg} {M M' : mm} {H H' : Heap} {a : Nat} (h : mm_R g M H) (ha : (gg_H g).size ≤ a) (hz : H'.size = H.size) (ho : ∀ q : Nat, q ≠ a → H'[q]? = H[q]?) (he : ∀ b, b ≠ a → mm_eq M M' b) (hat : mm_at g M' H' a) : mm_R g M' H' := by
  obtain ⟨h1, h2, h3, h4, h5⟩ := h
  refine ⟨fun b => ?_, h2, h3, by rw [hz]; exact h4, fun q hq => by rw [ho q (by omega)]; exact h5 q hq⟩
  by_cases hb : b = a
  · rw [hb]; exact hat
  · exact (h1 b).kept (he b hb) (fun _ => ho b hb)
/-- a thing that is made, behind all others -/
theorem mm_R.push {g : gg} {M M' : mm} {H H' : Heap} {a : Nat} (h : mm_R g M H) (ha : H.size = a) (hz : H'.size = a + 1) (ho : ∀ q : Nat, q < a → H'[q]? = H[q]?) (he : ∀ b, b ≠ a → mm_eq M M' b) (hat : mm_at g M' H' a) : mm_R g M' H' := by
  obtain ⟨h1, h2, h3, h4, h5⟩ := h
  refine ⟨fun b => ?_, h2, h3, by omega, fun q hq => by rw [ho q (by omega)]; exact h5 q hq⟩
  by_cases hb : b = a
  · rw [hb]; exact hat
  · refine (h1 b).kept (he b hb) (fun hn => ho b ?_)
    have h6 := ((h1 b).2.2.2.2 hn).2
    omega
theorem mm_R.fresh {g : gg} {M : mm} {H : Heap} (h : mm_R g M H) : mm_t M H.size = 0 := by
  by_cases hn : mm_t M H.size = 0
  · exact hn
  · exact absurd ((h.1 H.size).2.2.2.2 hn).2 (Nat.lt_irrefl _)
/-- the heap has grown by things that the memory doesn't speak of -/
theorem mm_R.grow {g : gg} {M : mm} {H H' : Heap} (h : mm_R g M H) (hz : H.size ≤ H'.size) (ho : ∀ q : Nat, q < H.size → H'[q]? = H[q]?) : mm_R g M H' := by
  obtain ⟨h1, h2, h3, h4, h5⟩ := h
  refine ⟨fun b => ?_, h2, h3, by omega, fun q hq => by rw [ho q (by omega)]; exact h5 q hq⟩
  exact (h1 b).kept ⟨rfl, fun _ _ => rfl, fun _ _ => rfl, rfl, rfl, rfl, rfl⟩ (fun hn => ho b ((h1 b).2.2.2.2 hn).2)
theorem mm_eq.si {M : mm} {c k a b : Nat} {v : Int32} (h : b ≠ a) : mm_eq M (mm_si M c k a v) b :=
  ⟨rfl, fun c' k' => by show (if c' = c ∧ k' = k ∧ b = a then v else mm_i M c' k' b) = _; rw [if_neg (fun z => h z.2.2)], fun _ _ => rfl, rfl, rfl, rfl, rfl⟩
theorem mm_eq.sr {M : mm} {c k a b : Nat} {v : Nat} (h : b ≠ a) : mm_eq M (mm_sr M c k a v) b :=
  ⟨rfl, fun _ _ => rfl, fun c' k' => by show (if c' = c ∧ k' = k ∧ b = a then v + 1 else mm_r M c' k' b) = _; rw [if_neg (fun z => h z.2.2)], rfl, rfl, rfl, rfl⟩
theorem mm_eq.sa {M : mm} {a b : Nat} {f : Nat → Int32} (h : b ≠ a) : mm_eq M (mm_sa M a f) b :=
  ⟨rfl, fun _ _ => rfl, fun _ _ => rfl, rfl, by show (if b = a then f else mm_a M b) = _; rw [if_neg h], rfl, rfl⟩
theorem mm_eq.sl {M : mm} {a b : Nat} {f : Nat → Int64} (h : b ≠ a) : mm_eq M (mm_sl M a f) b :=
  ⟨rfl, fun _ _ => rfl, fun _ _ => rfl, rfl, rfl, by show (if b = a then f else mm_l M b) = _; rw [if_neg h], rfl⟩
theorem mm_eq.sq {M : mm} {a b : Nat} {f : Nat → Nat} (h : b ≠ a) : mm_eq M (mm_sq M a f) b :=
  ⟨rfl, fun _ _ => rfl, fun _ _ => rfl, rfl, rfl, rfl, by show (if b = a then f else mm_q M b) = _; rw [if_neg h]⟩
theorem mm_eq.nw {M : mm} {a b t n : Nat} (h : b ≠ a) : mm_eq M (mm_nw M a t n) b := by
  refine ⟨?_, fun c k => ?_, fun c k => ?_, ?_, ?_, ?_, ?_⟩ <;> simp [mm_nw, mm_t, mm_i, mm_r, mm_n, mm_a, mm_l, mm_q, h]
/-- the four kinds, at a place -/
theorem mm_atI {g : gg} {M : mm} {H : Heap} {a : Nat} (hl : (gg_cl g).length ≤ 99) (ht : mm_t M a = 100) (ha : (gg_H g).size ≤ a) (h : H[a]? = some (arrV (gg_I g) (mm_n M a) (fun j => .int (mm_a M a j)))) : mm_at g M H a := by
  refine ⟨fun _ => ⟨ha, h⟩, fun q => by omega, fun q => by omega, fun c r q hr => ?_, fun _ => ⟨ha, (Array.getElem?_eq_some_iff.mp h).1⟩⟩
  have h1 := (List.getElem?_eq_some_iff.mp hr).1
  omega
theorem mm_atL {g : gg} {M : mm} {H : Heap} {a : Nat} (hl : (gg_cl g).length ≤ 99) (ht : mm_t M a = 101) (ha : (gg_H g).size ≤ a) (h : H[a]? = some (arrV (gg_L g) (mm_n M a) (fun j => .long (mm_l M a j)))) : mm_at g M H a := by
  refine ⟨fun q => by omega, fun _ => ⟨ha, h⟩, fun q => by omega, fun c r q hr => ?_, fun _ => ⟨ha, (Array.getElem?_eq_some_iff.mp h).1⟩⟩
  have h1 := (List.getElem?_eq_some_iff.mp hr).1
  omega
theorem mm_atQ {g : gg} {M : mm} {H : Heap} {a : Nat} (hl : (gg_cl g).length ≤ 99) (ht : mm_t M a = 102) (ha : (gg_H g).size ≤ a) (h : H[a]? = some (arrV (gg_Q g) (mm_n M a) (fun j => mm_rv (mm_q M a j)))) : mm_at g M H a := by
  refine ⟨fun q => by omega, fun q => by omega, fun _ => ⟨ha, h⟩, fun c r q hr => ?_, fun _ => ⟨ha, (Array.getElem?_eq_some_iff.mp h).1⟩⟩
  have h1 := (List.getElem?_eq_some_iff.mp hr).1
  omega
theorem mm_atO {g : gg} {M : mm} {H : Heap} {a c : Nat} {r : vw_C} (hl : (gg_cl g).length ≤ 99) (ht : mm_t M a = c + 1) (hr : (gg_cl g)[c]? = some r) (ha : (gg_H g).size ≤ a) (h : t_OB a ((gg_D g).1 c) r.2.2 ((gg_D g).2 c) H (fun k => mm_v (gg_ik g) M c k a)) : mm_at g M H a := by
  have h1 := (List.getElem?_eq_some_iff.mp hr).1
  refine ⟨fun q => by omega, fun q => by omega, fun q => by omega, fun c' r' q hr' => ?_, fun _ => ?_⟩
  · have e1 : c' = c := by omega
    subst e1
    cases hr.symm.trans hr'
    exact ⟨ha, h⟩
  · obtain ⟨cell, q, -⟩ := h
    exact ⟨ha, (Array.getElem?_eq_some_iff.mp q).1⟩
