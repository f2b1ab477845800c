/-! ===== the state as numbers and lists ===== -/
section M19
variable {pw w : Nat} {B B0 : List bk} {q Q : List Nat} {p : pp}
/-- a process: number, capacity, registers, mail, blocks -/
abbrev pcs : Type := Nat × Nat × List Int32 × List Int32 × List bk
/-- processes alive, the pool, the latest number, collections -/
abbrev zst : Type := List pcs × pp × Nat × Nat
def pok (P : pcs) : Prop := P.2.2.1.length = 4 ∧ hok P.2.2.2.2 ∧ hsz P.2.2.2.2 ≤ P.2.1 ∧ (∀ t ∈ P.2.2.1, vt P.2.2.2.2 t) ∧ (∀ t ∈ P.2.2.2.1, vt P.2.2.2.2 t) ∧ hval P.2.2.2.2 ∧ hbl P.2.2.2.2 ∧ rkd P.2.2.2.2
/-- what the roots lead to -/
def rts (P : pcs) : List Nat := bfs P.2.2.2.2 P.2.2.2.2.length 0 (visL P.2.2.2.2 [] (P.2.2.1 ++ P.2.2.2.1))
def colP (P : pcs) : pcs := (P.1, P.2.1, P.2.2.1.map (rel P.2.2.2.2 0 (rts P)), P.2.2.2.1.map (rel P.2.2.2.2 0 (rts P)), cpd P.2.2.2.2 [] (rts P))
theorem rts_ok {P : pcs} : qok P.2.2.2.2 (rts P) := bfs_ok (visL_ok qok_nil)
theorem rts_cls {P : pcs} : cls P.2.2.2.2 (rts P) := bfs_closed (visL_ok qok_nil)
theorem rts_root {P : pcs} {t : Int32} (h : t ∈ P.2.2.1 ++ P.2.2.2.1) {i : Nat} (hi : hix P.2.2.2.2 t = some i) : i ∈ rts P := by
  obtain ⟨r, e⟩ := bfs_pre (B := P.2.2.2.2) (n := P.2.2.2.2.length) (j := 0) (q := visL P.2.2.2.2 [] (P.2.2.1 ++ P.2.2.2.1))
  unfold rts
  rw [e]
  exact List.mem_append_left _ (visL_mem h hi)
theorem hok_nil : hok [] := ⟨Nat.zero_le _, fun i h => by simp at h⟩
theorem hval_nil : hval [] := fun i h => by simp at h
theorem hbl_nil : hbl [] := fun i h => by simp at h
theorem rkd_nil : rkd [] := ⟨fun _ => 0, fun i h => by simp at h⟩
theorem col_used {P : pcs} : hsz (colP P).2.2.2.2 = hsz (qB P.2.2.2.2 (rts P)) := by
  show hsz (cpd P.2.2.2.2 [] (rts P)) = _
  rw [cpd_sz]
  show 0 + _ = _
  omega
theorem col_ok {P : pcs} (h : pok P) : pok (colP P) := by
  obtain ⟨h1, h2, h3, h4, h5, h6, h7, h8⟩ := h
  have hq := rts_ok (P := P)
  have hle := qB_le hq
  have hs : hsz ([] : List bk) + hsz (qB P.2.2.2.2 (rts P)) ≤ 600 := by show 0 + _ ≤ 600; have := h2.1; omega
  refine ⟨by show (List.map _ _).length = 4; rw [List.length_map]; exact h1, cpd_ok hok_nil h2 hq hs, ?_, fun t ht => ?_, fun t ht => ?_, cpd_val h2 hq rts_cls hval_nil h6, cpd_bl hq hbl_nil h7, cpd_rk hok_nil h2 hq rts_cls hs hval_nil h6 rkd_nil h8⟩
  · rw [col_used]
    show _ ≤ P.2.1
    omega
  · obtain ⟨t1, ht1, rfl⟩ := List.mem_map.mp ht
    exact vt_rel h2 (h4 t1 ht1) (fun i hi => rts_root (List.mem_append_left _ ht1) hi)
  · obtain ⟨t1, ht1, rfl⟩ := List.mem_map.mp ht
    exact vt_rel h2 (h5 t1 ht1) (fun i hi => rts_root (List.mem_append_right _ ht1) hi)
theorem sum_un {f : Nat → Nat} {v : Nat} : ∀ {l : List Nat}, l.Nodup → w ∈ l → (l.map (un f w v)).sum + f w = (l.map f).sum + v
  | [], _, h => by simp at h
  | a :: l, hn, hm => by
    rw [List.nodup_cons] at hn
    rw [List.map_cons, List.map_cons, List.sum_cons, List.sum_cons]
    by_cases e : a = w
    · subst e
      have e2 : l.map (un f a v) = l.map f := List.map_congr_left (fun x hx => by
        unfold un
        rw [if_neg (fun z : x = a => hn.1 (by rw [← z]; exact hx))])
      rw [e2]
      unfold un
      rw [if_pos rfl]
      omega
    · have hm2 : w ∈ l := by
        rcases List.mem_cons.mp hm with h | h
        · exact absurd h.symm e
        · exact h
      have := sum_un (f := f) (v := v) hn.2 hm2
      have e2 : un f w v a = f a := by unfold un; rw [if_neg e]
      rw [e2]
      omega
def psum (f : Nat → Nat) : Nat := ((List.range 30).map f).sum
/-- the pool is sound -/
def pgd (p : pp) : Prop := pin p ∧ (∀ w, w < 30 → (0 < p.2.2.2 w ↔ 0 < p.2.2.1 w)) ∧ ∀ w, 30 ≤ w → p.2.2.2 w = 0
theorem pdr_gd (h : pgd p) (hw : w < 30) (hc : 1 ≤ p.2.2.2 w) : pgd (pdr p w) ∧ (pdr p w).1 + psum (pdr p w).2.2.1 = p.1 + psum p.2.2.1 := by
  obtain ⟨h1, h2, h3⟩ := h
  have hp := (pd_step (z := fun w => nI (p.2.2.1 w)) (P := (nI p.1, nI p.2.1, fun w => nI (p.2.2.2 w))) (p := p) ⟨rfl, rfl, fun _ _ => ⟨rfl, fun _ => rfl⟩⟩ h1 hw hc).2
  refine ⟨⟨hp, ?_, ?_⟩, ?_⟩
  · intro v hv
    unfold pdr
    by_cases e : p.2.2.2 w = 1
    · rw [if_pos e]
      show 0 < un p.2.2.2 w 0 v ↔ 0 < un p.2.2.1 w 0 v
      unfold un
      by_cases ev : v = w
      · rw [if_pos ev, if_pos ev]
      · rw [if_neg ev, if_neg ev]
        exact h2 v hv
    · rw [if_neg e]
      show 0 < un p.2.2.2 w (p.2.2.2 w - 1) v ↔ 0 < p.2.2.1 v
      unfold un
      by_cases ev : v = w
      · subst ev
        rw [if_pos rfl, ← h2 v hv]
        omega
      · rw [if_neg ev]
        exact h2 v hv
  · intro v hv
    have ev : v ≠ w := by omega
    unfold pdr
    split
    · show un p.2.2.2 w 0 v = 0
      unfold un
      rw [if_neg ev]
      exact h3 v hv
    · show un p.2.2.2 w (p.2.2.2 w - 1) v = 0
      unfold un
      rw [if_neg ev]
      exact h3 v hv
  · unfold pdr
    split
    · show p.1 + p.2.2.1 w + psum (un p.2.2.1 w 0) = p.1 + psum p.2.2.1
      have := sum_un (w := w) (f := p.2.2.1) (v := 0) (l := List.range 30) List.nodup_range (by simpa using hw)
      unfold psum
      omega
    · rfl
theorem pdr_gds : ∀ {ws : List Nat} {p : pp}, pgd p → (∀ w ∈ ws, w < 30) → (∀ w, ws.count w ≤ p.2.2.2 w) → pgd (ws.foldl pdr p) ∧ (ws.foldl pdr p).1 + psum (ws.foldl pdr p).2.2.1 = p.1 + psum p.2.2.1
  | [], p, h, _, _ => ⟨h, rfl⟩
  | a :: ws, p, h, hw, hc => by
    have hca := hc a
    rw [List.count_cons_self] at hca
    have h1 := pdr_gd h (hw a (by simp)) (by omega)
    have h2 : ∀ v, ws.count v ≤ (pdr p a).2.2.2 v := by
      intro v
      have hcv := hc v
      have e := pdr_cnt (ws := [a]) (p := p) (w := v) (fun x => by
        have := hc x
        rw [List.count_cons] at this ⊢
        simp only [List.count_nil]
        omega)
      have e1 : ([a].foldl pdr p).2.2.2 v = (pdr p a).2.2.2 v := rfl
      rw [← e1, e]
      rw [List.count_cons] at hcv ⊢
      simp only [List.count_nil]
      omega
    have h3 := pdr_gds (ws := ws) h1.1 (fun w hm => hw w (List.mem_cons_of_mem _ hm)) h2
    exact ⟨h3.1, h3.2.trans h1.2⟩
def zcnt (L : List pcs) (w : Nat) : Nat := (L.map (fun P => (hnd P.2.2.2.2).count w)).sum
def zcap (L : List pcs) : Nat := (L.map (fun P => P.2.1)).sum
def zok (pw : Nat) (Z : zst) : Prop := (∀ P ∈ Z.1, pok P) ∧ Z.1.length ≤ 8 ∧ (Z.1.map (fun P => P.1)).Pairwise (· < ·) ∧ (∀ P ∈ Z.1, 1 ≤ P.1 ∧ P.1 ≤ Z.2.2.1) ∧ pgd Z.2.1 ∧ (∀ w, w < 30 → Z.2.1.2.2.2 w = zcnt Z.1 w) ∧ Z.2.1.1 + zcap Z.1 + psum Z.2.1.2.2.1 = pw
def zget (Z : zst) (i : Nat) : pcs := Z.1.getD i (0, 0, [], [], [])
theorem zget_mem {Z : zst} {i : Nat} (h : i < Z.1.length) : zget Z i ∈ Z.1 := by
  unfold zget
  rw [List.getD_eq_getElem?_getD, List.getElem?_eq_getElem h]
  exact List.getElem_mem h
theorem sum_set (f : pcs → Nat) : ∀ {L : List pcs} {i : Nat} {P : pcs}, i < L.length → ((L.set i P).map f).sum + f (L.getD i (0, 0, [], [], [])) = (L.map f).sum + f P
  | [], i, P, h => by simp at h
  | a :: L, 0, P, _ => by
    rw [List.set_cons_zero, List.map_cons, List.map_cons, List.sum_cons, List.sum_cons]
    show f P + _ + f a = _
    omega
  | a :: L, i + 1, P, h => by
    rw [List.set_cons_succ, List.map_cons, List.map_cons, List.sum_cons, List.sum_cons]
    have := sum_set f (L := L) (i := i) (P := P) (by simpa using h)
    show f a + _ + f (L.getD i (0, 0, [], [], [])) = _
    omega
/-- those left behind -/
def lft (P : pcs) : List Nat := lf P.2.2.2.2 (fun i => decide (i ∉ rts P)) P.2.2.2.2.length 0
def zcol (Z : zst) (i : Nat) : zst := (Z.1.set i (colP (zget Z i)), (lft (zget Z i)).foldl pdr Z.2.1, Z.2.2.1, Z.2.2.2 + 1)
theorem lf_30 {P : Nat → Bool} (h : hbl B) : ∀ {n i : Nat}, i + n ≤ B.length → ∀ v ∈ lf B P n i, v < 30
  | 0, i, _, v, hv => by simp [lf] at hv
  | n + 1, i, hn, v, hv => by
    have hv2 : v ∈ (if (hb B i).1 = 5 ∧ P i = true then bw B i :: lf B P n (i + 1) else lf B P n (i + 1)) := hv
    by_cases h5 : (hb B i).1 = 5 ∧ P i = true
    · rw [if_pos h5] at hv2
      rcases List.mem_cons.mp hv2 with e | e
      · rw [e]; exact (h i (by omega) h5.1).2
      · exact lf_30 h (by omega) v e
    · rw [if_neg h5] at hv2
      exact lf_30 h (by omega) v hv2
theorem zcnt_le {L : List pcs} {P : pcs} (h : P ∈ L) : (hnd P.2.2.2.2).count w ≤ zcnt L w := by
  unfold zcnt
  induction L with
  | nil => simp at h
  | cons a L ih =>
    rw [List.map_cons, List.sum_cons]
    rcases List.mem_cons.mp h with e | e
    · rw [e]; omega
    · have := ih e
      omega
theorem lft_cnt {Z : zst} (h : zok pw Z) {i : Nat} (hi : i < Z.1.length) : ∀ w, (lft (zget Z i)).count w ≤ Z.2.1.2.2.2 w := by
  intro w
  have hm := zget_mem hi
  have hk := h.1 _ hm
  rcases Nat.lt_or_ge w 30 with hw | hw
  · have h1 := cnt_left (w := w) (rts_ok (P := zget Z i))
    have h2 := zcnt_le (w := w) hm
    rw [h.2.2.2.2.2.1 w hw]
    unfold lft
    omega
  · have : (lft (zget Z i)).count w = 0 := List.count_eq_zero.mpr (fun z => by
      have := lf_30 hk.2.2.2.2.2.2.1 (n := (zget Z i).2.2.2.2.length) (i := 0) (by omega) w z
      omega)
    omega
theorem map_set_num {L : List pcs} {i : Nat} {P : pcs} (e : P.1 = (L.getD i (0, 0, [], [], [])).1) (hi : i < L.length) : (L.set i P).map (fun P => P.1) = L.map (fun P => P.1) := by
  apply List.ext_getElem
  · simp
  · intro k h1 h2
    simp only [List.getElem_map, List.getElem_set]
    split
    · rename_i hk
      subst hk
      rw [e, List.getD_eq_getElem?_getD, List.getElem?_eq_getElem hi]
      rfl
    · rfl
theorem zcol_ok {Z : zst} (h : zok pw Z) {i : Nat} (hi : i < Z.1.length) : zok pw (zcol Z i) := by
  have hm := zget_mem hi
  have hk := h.1 _ hm
  have hc := lft_cnt h hi
  obtain ⟨h1, h2, h3, h4, h5, h6, h7⟩ := h
  have hg := pdr_gds (ws := lft (zget Z i)) (p := Z.2.1) h5 (fun w hw => lf_30 hk.2.2.2.2.2.2.1 (n := (zget Z i).2.2.2.2.length) (i := 0) (by omega) w hw) hc
  refine ⟨fun P hP => ?_, ?_, ?_, fun P hP => ?_, hg.1, fun w hw => ?_, ?_⟩
  · rcases List.mem_or_eq_of_mem_set hP with e | e
    · exact h1 P e
    · rw [e]; exact col_ok hk
  · show (Z.1.set i _).length ≤ 8
    rw [List.length_set]; exact h2
  · show ((Z.1.set i (colP (zget Z i))).map (fun P => P.1)).Pairwise _
    rw [map_set_num (by rfl) hi]
    exact h3
  · rcases List.mem_or_eq_of_mem_set hP with e | e
    · exact h4 P e
    · rw [e]
      exact h4 (zget Z i) hm
  · show ((lft (zget Z i)).foldl pdr Z.2.1).2.2.2 w = zcnt (Z.1.set i (colP (zget Z i))) w
    rw [pdr_cnt hc, h6 w hw]
    have e1 := sum_set (fun P => (hnd P.2.2.2.2).count w) (L := Z.1) (P := colP (zget Z i)) hi
    have e2 := cnt_left (w := w) (rts_ok (P := zget Z i))
    have e3 : (hnd (colP (zget Z i)).2.2.2.2).count w = (hnd (qB (zget Z i).2.2.2.2 (rts (zget Z i)))).count w := by
      show (hnd (cpd _ [] _)).count w = _
      rw [hnd_cpd]
      rfl
    have e4 : (hnd (Z.1.getD i (0, 0, [], [], [])).2.2.2.2).count w = (hnd (zget Z i).2.2.2.2).count w := rfl
    simp only [e3, e4] at e1
    unfold zcnt lft
    omega
  · show ((lft (zget Z i)).foldl pdr Z.2.1).1 + zcap (Z.1.set i (colP (zget Z i))) + psum ((lft (zget Z i)).foldl pdr Z.2.1).2.2.1 = pw
    have e1 := sum_set (fun P => P.2.1) (L := Z.1) (P := colP (zget Z i)) hi
    have e2 : (colP (zget Z i)).2.1 = (Z.1.getD i (0, 0, [], [], [])).2.1 := rfl
    simp only [e2] at e1
    have e3 := hg.2
    unfold zcap at *
    omega
end M19
