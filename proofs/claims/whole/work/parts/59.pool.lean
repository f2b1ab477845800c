/-! ===== the pool as numbers: words that nobody has, blobs, their sizes, their handles ===== -/
section M16
variable {M : mm} {pw : Nat} {D : Nat → Prop} {ow sl : Nat → Nat} {b : Nat}
abbrev pp : Type := Nat × Nat × (Nat → Nat) × (Nat → Nat)
def un (f : Nat → Nat) (w v : Nat) : Nat → Nat := fun j => if j = w then v else f j
/-- a handle of w is dropped -/
def pdr (p : pp) (w : Nat) : pp := if p.2.2.2 w = 1 then (p.1 + p.2.2.1 w, p.2.1 - 1, un p.2.2.1 w 0, un p.2.2.2 w 0) else (p.1, p.2.1, p.2.2.1, un p.2.2.2 w (p.2.2.2 w - 1))
/-- a handle of w is counted -/
def pct (p : pp) (w : Nat) : pp := (p.1, p.2.1, p.2.2.1, un p.2.2.2 w (p.2.2.2 w + 1))
def nz (f : Nat → Nat) (l : List Nat) : Nat := (l.filter (fun w => decide (0 < f w))).length
theorem nz_cons {f : Nat → Nat} {a : Nat} {l : List Nat} : nz f (a :: l) = (if 0 < f a then 1 else 0) + nz f l := by
  unfold nz
  rw [List.filter_cons]
  by_cases h : 0 < f a
  · rw [if_pos (decide_eq_true h), if_pos h, List.length_cons]; omega
  · rw [if_neg (by simpa using h), if_neg h]; omega
theorem nz_same {f f2 : Nat → Nat} : ∀ {l : List Nat}, (∀ w ∈ l, (0 < f w ↔ 0 < f2 w)) → nz f l = nz f2 l
  | [], _ => rfl
  | a :: l, h => by
    rw [nz_cons, nz_cons, nz_same (l := l) (fun w hw => h w (List.mem_cons_of_mem _ hw))]
    have := h a (by simp)
    by_cases h1 : 0 < f a
    · rw [if_pos h1, if_pos (this.mp h1)]
    · rw [if_neg h1, if_neg (fun z => h1 (this.mpr z))]
theorem nz_zero {f : Nat → Nat} {w : Nat} : ∀ {l : List Nat}, l.Nodup → w ∈ l → 0 < f w → nz f l = nz (un f w 0) l + 1
  | [], _, h, _ => by simp at h
  | a :: l, hn, hm, hf => by
    rw [nz_cons, nz_cons]
    rw [List.nodup_cons] at hn
    by_cases e : a = w
    · subst e
      rw [if_pos hf, if_neg (by unfold un; simp), nz_same (f := f) (f2 := un f a 0) (l := l) (fun v hv => by
        have : v ≠ a := fun z => hn.1 (z ▸ hv)
        unfold un
        rw [if_neg this])]
      omega
    · have hm2 : w ∈ l := by
        rcases List.mem_cons.mp hm with h | h
        · exact absurd h.symm e
        · exact h
      rw [nz_zero hn.2 hm2 hf]
      have e2 : un f w 0 a = f a := by unfold un; rw [if_neg e]
      rw [e2]
      omega
def pin (p : pp) : Prop := p.2.1 = nz p.2.2.2 (List.range 30) ∧ ∀ w, p.2.2.2 w < 2 ^ 31
/-- the class's pool and these numbers -/
def PR (z : Nat → Int32) (P : PL) (p : pp) : Prop := P.1 = nI p.1 ∧ P.2.1 = nI p.2.1 ∧ ∀ w, w < 30 → P.2.2 w = nI (p.2.2.2 w) ∧ (0 < p.2.2.2 w → z w = nI (p.2.2.1 w))
theorem nI_dec {n : Nat} (h : 1 ≤ n) : nI n - 1 = nI (n - 1) := by
  obtain ⟨m, rfl⟩ : ∃ m, n = m + 1 := ⟨n - 1, by omega⟩
  rw [nI_pred]
  rfl
theorem pd_step {z : Nat → Int32} {P : PL} {p : pp} {w : Nat} (h : PR z P p) (hi : pin p) (hw : w < 30) (hc : 1 ≤ p.2.2.2 w) : PR z (pd z P w) (pdr p w) ∧ pin (pdr p w) := by
  obtain ⟨h1, h2, h3⟩ := h
  obtain ⟨i1, i2⟩ := hi
  obtain ⟨c1, c2⟩ := h3 w hw
  have e1 : P.2.2 w - 1 = nI (p.2.2.2 w - 1) := by rw [c1, nI_dec hc]
  unfold pd pdr
  by_cases e : p.2.2.2 w = 1
  · have e2 : P.2.2 w - 1 = 0 := by rw [e1, e]; rfl
    have hz := nz_zero (f := p.2.2.2) (w := w) (l := List.range 30) List.nodup_range (by simpa using hw) (by omega)
    rw [if_pos e2, if_pos e]
    refine ⟨⟨?_, ?_, fun v hv => ?_⟩, ?_, fun v => ?_⟩
    · show P.1 + z w = nI (p.1 + p.2.2.1 w)
      rw [h1, c2 (by omega), nI_add]
    · show P.2.1 - 1 = nI (p.2.1 - 1)
      rw [h2, nI_dec (by omega)]
    · obtain ⟨d1, d2⟩ := h3 v hv
      show upd P.2.2 w (P.2.2 w - 1) v = nI (un p.2.2.2 w 0 v) ∧ (0 < un p.2.2.2 w 0 v → z v = nI (un p.2.2.1 w 0 v))
      unfold upd un
      by_cases ev : v = w
      · rw [if_pos ev, if_pos ev, if_pos ev]
        exact ⟨by rw [e2]; rfl, fun y => by omega⟩
      · rw [if_neg ev, if_neg ev, if_neg ev]
        exact ⟨d1, d2⟩
    · show p.2.1 - 1 = nz (un p.2.2.2 w 0) (List.range 30)
      omega
    · show un p.2.2.2 w 0 v < 2 ^ 31
      unfold un
      split
      · decide
      · exact i2 v
  · have e2 : ¬ P.2.2 w - 1 = 0 := by
      rw [e1]
      exact nI_ne0 (by omega) (by have := i2 w; omega)
    rw [if_neg e2, if_neg e]
    refine ⟨⟨h1, h2, fun v hv => ?_⟩, ?_, fun v => ?_⟩
    · obtain ⟨d1, d2⟩ := h3 v hv
      show upd P.2.2 w (P.2.2 w - 1) v = nI (un p.2.2.2 w (p.2.2.2 w - 1) v) ∧ (0 < un p.2.2.2 w (p.2.2.2 w - 1) v → z v = nI (p.2.2.1 v))
      unfold upd un
      by_cases ev : v = w
      · subst ev
        rw [if_pos rfl, if_pos rfl]
        exact ⟨e1, fun y => d2 (by omega)⟩
      · rw [if_neg ev, if_neg ev]
        exact ⟨d1, d2⟩
    · show p.2.1 = nz (un p.2.2.2 w (p.2.2.2 w - 1)) (List.range 30)
      rw [i1]
      refine nz_same (fun v _ => ?_)
      unfold un
      split
      · rename_i ev
        rw [ev]
        omega
      · exact Iff.rfl
    · show un p.2.2.2 w (p.2.2.2 w - 1) v < 2 ^ 31
      unfold un
      split
      · have := i2 w; omega
      · exact i2 v
theorem pd_fold {z : Nat → Int32} : ∀ {ws : List Nat} {P : PL} {p : pp}, PR z P p → pin p → (∀ w ∈ ws, w < 30) → (∀ w, ws.count w ≤ p.2.2.2 w) → PR z (ws.foldl (pd z) P) (ws.foldl pdr p) ∧ pin (ws.foldl pdr p)
  | [], P, p, h, hi, _, _ => ⟨h, hi⟩
  | a :: ws, P, p, h, hi, hw, hc => by
    have hca := hc a
    rw [List.count_cons_self] at hca
    have h1 := pd_step h hi (hw a (by simp)) (by omega)
    refine pd_fold (ws := ws) h1.1 h1.2 (fun w hm => hw w (List.mem_cons_of_mem _ hm)) (fun w => ?_)
    have hcw := hc w
    unfold pdr
    by_cases e : p.2.2.2 a = 1
    · rw [if_pos e]
      show ws.count w ≤ un p.2.2.2 a 0 w
      unfold un
      by_cases ew : w = a
      · subst ew
        rw [if_pos rfl]
        omega
      · rw [if_neg ew]
        rw [List.count_cons_of_ne (fun y => ew y.symm)] at hcw
        exact hcw
    · rw [if_neg e]
      show ws.count w ≤ un p.2.2.2 a (p.2.2.2 a - 1) w
      unfold un
      by_cases ew : w = a
      · subst ew
        rw [if_pos rfl]
        omega
      · rw [if_neg ew]
        rw [List.count_cons_of_ne (fun y => ew y.symm)] at hcw
        exact hcw
/-- what the counts are after a fold -/
theorem pdr_cnt : ∀ {ws : List Nat} {p : pp} {w : Nat}, (∀ w, ws.count w ≤ p.2.2.2 w) → (ws.foldl pdr p).2.2.2 w = p.2.2.2 w - ws.count w
  | [], p, w, _ => by simp
  | a :: ws, p, w, hc => by
    have hca := hc a
    rw [List.count_cons_self] at hca
    have e : ∀ v, (pdr p a).2.2.2 v = if v = a then p.2.2.2 a - 1 else p.2.2.2 v := by
      intro v
      unfold pdr
      split
      · rename_i h1
        show un p.2.2.2 a 0 v = _
        unfold un
        rw [h1]
      · rfl
    have h2 : ∀ v, ws.count v ≤ (pdr p a).2.2.2 v := by
      intro v
      have hcv := hc v
      rw [e v]
      by_cases ev : v = a
      · subst ev
        rw [if_pos rfl]
        omega
      · rw [if_neg ev]
        rw [List.count_cons_of_ne (fun y => ev y.symm)] at hcv
        exact hcv
    show (ws.foldl pdr (pdr p a)).2.2.2 w = _
    rw [pdr_cnt h2, e w]
    by_cases ew : w = a
    · subst ew
      rw [if_pos rfl, List.count_cons_self]
      omega
    · rw [if_neg ew, List.count_cons_of_ne (fun y => ew y.symm)]
def PoolIs (M : mm) (b : Nat) (p : pp) : Prop := PR (mm_a M (mm_f M 5 2 b)) (pget M b) p
end M16
