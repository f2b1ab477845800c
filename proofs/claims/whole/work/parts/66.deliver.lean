/-! ===== a message is delivered: the state ===== -/
section M23
variable {M : mm} {pw w : Nat} {D : Nat → Prop} {ow sl : Nat → Nat} {Z : zst} {p : pp} {B B0 : List bk} {Q : List Nat}
theorem zget_set_ne {L : List pcs} {x y i j : Nat} {P : pcs} (hi : i < L.length) (h : j ≠ i) : zget (L.set i P, p, x, y) j = L.getD j (0, 0, [], [], []) := by rw [zget_set hi, if_neg h]
theorem zcol_ne {i j : Nat} (hi : i < Z.1.length) (h : j ≠ i) : zget (zcol Z i) j = zget Z j := by
  unfold zcol
  rw [zget_set_ne hi h]
  rfl
theorem zroom_ne {i j n : Nat} (hi : i < Z.1.length) (h : j ≠ i) : zget (zroom Z i n).2 j = zget Z j := by
  unfold zroom
  split
  · rfl
  · split
    · unfold zgrow
      rw [zget_set_ne (by rw [zcol_len]; exact hi) h]
      exact zcol_ne hi h
    · exact zcol_ne hi h
theorem stp_ge {n : Nat} : n ≤ stp n := by unfold stp; omega
/-- behind it there is room -/
theorem zroom_fit {i n : Nat} (hi : i < Z.1.length) (h : (zroom Z i n).1 = true) : hsz (zget (zroom Z i n).2 i).2.2.2.2 + n ≤ (zget (zroom Z i n).2 i).2.1 := by
  unfold zroom at *
  split
  · assumption
  · rename_i h1
    rw [if_neg h1] at h
    split
    · rename_i h2
      unfold zgrow
      rw [zget_set (by rw [zcol_len]; exact hi), if_pos rfl]
      show hsz (zget (zcol Z i) i).2.2.2.2 + n ≤ (zget (zcol Z i) i).2.1 + stp _
      have := stp_ge (n := hsz (zget (zcol Z i) i).2.2.2.2 + n - (zget (zcol Z i) i).2.1)
      omega
    · rename_i h2
      rw [if_neg h2] at h
      exact absurd (show false = true from h) (by decide)
/-- what is taken in -/
def tak (P : pcs) (B : List bk) (t : Int32) : pcs := (P.1, P.2.1, P.2.2.1, P.2.2.2.1 ++ [rel B (hsz P.2.2.2.2) (led B t) t], cpd B P.2.2.2.2 (led B t))
def ztak (Z : zst) (r : Nat) (B : List bk) (t : Int32) : zst := (Z.1.set r (tak (zget Z r) B t), (hnd (qB B (led B t))).foldl pct Z.2.1, Z.2.2.1, Z.2.2.2)
def zdel (Z : zst) (s r : Nat) (t : Int32) : Bool × zst := if (zroom Z r (hsz (qB (zget Z s).2.2.2.2 (led (zget Z s).2.2.2.2 t)))).1 = true then (true, ztak (zroom Z r (hsz (qB (zget Z s).2.2.2.2 (led (zget Z s).2.2.2.2 t)))).2 r (zget Z s).2.2.2.2 t) else (false, (zroom Z r (hsz (qB (zget Z s).2.2.2.2 (led (zget Z s).2.2.2.2 t)))).2)
def zown (Z : zst) (r : Nat) (t : Int32) : zst := (Z.1.set r ((zget Z r).1, (zget Z r).2.1, (zget Z r).2.2.1, (zget Z r).2.2.2.1 ++ [t], (zget Z r).2.2.2.2), Z.2.1, Z.2.2.1, Z.2.2.2)
theorem led_cls {t : Int32} : cls B (led B t) := bfs_closed (vis_ok qok_nil t)
theorem led_top {t : Int32} {i : Nat} (hi : hix B t = some i) : i ∈ led B t := by
  obtain ⟨r, e⟩ := bfs_pre (B := B) (n := B.length) (j := 0) (q := vis B [] t)
  unfold led
  rw [e]
  exact List.mem_append_left _ (vis_mem hi)
theorem tak_ok {P : pcs} {t : Int32} (h : pok P) (h2 : hok B) (hv : hval B) (hb1 : hbl B) (hr : rkd B) (ht : vt B t) (hc : P.2.1 ≤ 600) (hs : hsz P.2.2.2.2 + hsz (qB B (led B t)) ≤ P.2.1) : pok (tak P B t) := by
  obtain ⟨k1, k2, k3, k4, k5, k6, k7, k8⟩ := h
  have hq := led_ok (B := B) (t := t)
  refine ⟨k1, cpd_ok k2 h2 hq (by omega), by show hsz (cpd _ _ _) ≤ P.2.1; rw [cpd_sz]; exact hs, fun t1 h1 => vt_old (k4 t1 h1), fun t1 h1 => ?_, cpd_val h2 hq led_cls k6 hv, cpd_bl hq k7 hb1, cpd_rk k2 h2 hq led_cls (by omega) k6 hv k8 hr⟩
  rcases List.mem_append.mp h1 with e | e
  · exact vt_old (k5 t1 e)
  · rw [List.mem_singleton.mp e]
    exact vt_rel h2 ht (fun i hi => led_top hi)
theorem pct_fold {z : Nat → Int32} : ∀ {ws : List Nat} {f b : Int32} {C : Nat → Int32} {p : pp}, PR z (f, b, C) p → (∀ w ∈ ws, w < 30 ∧ 0 < p.2.2.2 w) → PR z (f, b, ws.foldl cnh C) (ws.foldl pct p)
  | [], f, b, C, p, h, _ => h
  | a :: ws, f, b, C, p, h, hw => by
    refine pct_fold (ws := ws) (C := cnh C a) (p := pct p a) ⟨h.1, h.2.1, fun v hv => ?_⟩ (fun w hm => ?_)
    · obtain ⟨d1, d2⟩ := h.2.2 v hv
      obtain ⟨a1, a2⟩ := hw a (by simp)
      show upd C a (C a + 1) v = nI (un p.2.2.2 a (p.2.2.2 a + 1) v) ∧ (0 < un p.2.2.2 a (p.2.2.2 a + 1) v → z v = nI (p.2.2.1 v))
      unfold upd un
      by_cases e : v = a
      · subst e
        rw [if_pos rfl, if_pos rfl]
        have d1' : C v = nI (p.2.2.2 v) := d1
        exact ⟨by rw [d1', nI_1], fun _ => d2 a2⟩
      · rw [if_neg e, if_neg e]
        exact ⟨d1, d2⟩
    · obtain ⟨b1, b2⟩ := hw w (List.mem_cons_of_mem _ hm)
      refine ⟨b1, ?_⟩
      show 0 < un p.2.2.2 a (p.2.2.2 a + 1) w
      unfold un
      split
      · omega
      · exact b2
theorem pct_cnt : ∀ {ws : List Nat} {p : pp}, ((ws.foldl pct p).2.2.2 w = p.2.2.2 w + ws.count w) ∧ (ws.foldl pct p).1 = p.1 ∧ (ws.foldl pct p).2.1 = p.2.1 ∧ (ws.foldl pct p).2.2.1 = p.2.2.1
  | [], p => ⟨rfl, rfl, rfl, rfl⟩
  | a :: ws, p => by
    obtain ⟨h1, h2, h3, h4⟩ := pct_cnt (ws := ws) (p := pct p a)
    refine ⟨?_, h2, h3, h4⟩
    show (ws.foldl pct (pct p a)).2.2.2 w = _
    rw [h1]
    show un p.2.2.2 a (p.2.2.2 a + 1) w + ws.count w = _
    unfold un
    by_cases e : w = a
    · subst e
      rw [if_pos rfl, List.count_cons_self]
      omega
    · rw [if_neg e, List.count_cons_of_ne (fun y => e y.symm)]
theorem hnd_len : ∀ {B : List bk}, (hnd B).length ≤ B.length
  | [] => Nat.le_refl _
  | b :: B => by
    rw [hnd_cons, List.length_append, List.length_cons]
    have := hnd_len (B := B)
    split
    · simp; omega
    · simp; omega
theorem hnd_30 : ∀ {B : List bk}, hbl B → ∀ v ∈ hnd B, v < 30 := by
  intro B h v hv
  have e : hnd B = lf B (fun _ => true) B.length 0 := by rw [lf_all (by omega)]; rfl
  rw [e] at hv
  exact lf_30 h (by omega) v hv
/-- every handle of what is copied is a handle of the heap -/
theorem hnd_sub (hq : qok B Q) {v : Nat} (h : v ∈ hnd (qB B Q)) : v ∈ hnd B := by
  have h1 := cnt_left (w := v) hq
  have h2 : 0 < (hnd (qB B Q)).count v := List.count_pos_iff.mpr h
  exact List.count_pos_iff.mp (by omega)
theorem zcnt_cap : ∀ {L : List pcs}, (∀ P ∈ L, pok P) → zcnt L w ≤ zcap L
  | [], _ => Nat.le_refl _
  | P :: L, h => by
    have h1 := zcnt_cap (L := L) (fun P' hP => h P' (List.mem_cons_of_mem _ hP))
    have h2 := (h P (by simp)).2.2.1
    have h3 := len_le_hsz P.2.2.2.2
    have h4 := hnd_len (B := P.2.2.2.2)
    have h5 := List.count_le_length (a := w) (l := hnd P.2.2.2.2)
    unfold zcnt zcap at *
    rw [List.map_cons, List.map_cons, List.sum_cons, List.sum_cons]
    omega
theorem ztak_ok (h : zok pw Z) (hp6 : pw ≤ 600) {r s : Nat} (hr : r < Z.1.length) (hs : s < Z.1.length) {t : Int32} (ht : vt (zget Z s).2.2.2.2 t) (hf : hsz (zget Z r).2.2.2.2 + hsz (qB (zget Z s).2.2.2.2 (led (zget Z s).2.2.2.2 t)) ≤ (zget Z r).2.1) : zok pw (ztak Z r (zget Z s).2.2.2.2 t) := by
  have hm := zget_mem hr
  have hms := zget_mem hs
  have hc := cap_le h hr
  have hcs := cap_le h hs
  obtain ⟨h1, h2, h3, h4, h5, h6, h7⟩ := h
  obtain ⟨s1, s2, s3, s4, s5, s6, s7, s8⟩ := h1 _ hms
  have htk := tak_ok (h1 _ hm) s2 s6 s7 s8 ht (by omega) hf
  have hq := led_ok (B := (zget Z s).2.2.2.2) (t := t)
  have hpc := fun w => pct_cnt (w := w) (ws := hnd (qB (zget Z s).2.2.2.2 (led (zget Z s).2.2.2.2 t))) (p := Z.2.1)
  have hall : ∀ P ∈ Z.1.set r (tak (zget Z r) (zget Z s).2.2.2.2 t), pok P := fun P hP => by
    rcases List.mem_or_eq_of_mem_set hP with e | e
    · exact h1 P e
    · rw [e]; exact htk
  have hcap : zcap (Z.1.set r (tak (zget Z r) (zget Z s).2.2.2.2 t)) = zcap Z.1 := by
    have e1 := sum_set (fun P => P.2.1) (L := Z.1) (P := tak (zget Z r) (zget Z s).2.2.2.2 t) hr
    have e2 : (tak (zget Z r) (zget Z s).2.2.2.2 t).2.1 = (Z.1.getD r (0, 0, [], [], [])).2.1 := rfl
    simp only [e2] at e1
    unfold zcap
    omega
  have hcw : ∀ w, w < 30 → ((hnd (qB (zget Z s).2.2.2.2 (led (zget Z s).2.2.2.2 t))).foldl pct Z.2.1).2.2.2 w = zcnt (Z.1.set r (tak (zget Z r) (zget Z s).2.2.2.2 t)) w := by
    intro w hw
    rw [(hpc w).1, h6 w hw]
    have e1 := sum_set (fun P => (hnd P.2.2.2.2).count w) (L := Z.1) (P := tak (zget Z r) (zget Z s).2.2.2.2 t) hr
    have e3 : (hnd (tak (zget Z r) (zget Z s).2.2.2.2 t).2.2.2.2).count w = (hnd (zget Z r).2.2.2.2).count w + (hnd (qB (zget Z s).2.2.2.2 (led (zget Z s).2.2.2.2 t))).count w := by
      show (hnd (cpd _ _ _)).count w = _
      rw [hnd_cpd, List.count_append]
    have e4 : (hnd (Z.1.getD r (0, 0, [], [], [])).2.2.2.2).count w = (hnd (zget Z r).2.2.2.2).count w := rfl
    simp only [e3, e4] at e1
    unfold zcnt
    omega
  have hpos : ∀ w, w < 30 → (0 < ((hnd (qB (zget Z s).2.2.2.2 (led (zget Z s).2.2.2.2 t))).foldl pct Z.2.1).2.2.2 w ↔ 0 < Z.2.1.2.2.2 w) := by
    intro w hw
    rw [(hpc w).1]
    constructor
    · intro hh
      rcases Nat.eq_zero_or_pos ((hnd (qB (zget Z s).2.2.2.2 (led (zget Z s).2.2.2.2 t))).count w) with e | e
      · omega
      · have hin := hnd_sub hq (List.count_pos_iff.mp e)
        have := List.count_pos_iff.mpr hin
        have := zcnt_le (w := w) hms
        rw [h6 w hw]
        omega
    · intro hh
      omega
  have h30 : ∀ w, 30 ≤ w → ((hnd (qB (zget Z s).2.2.2.2 (led (zget Z s).2.2.2.2 t))).foldl pct Z.2.1).2.2.2 w = 0 := by
    intro w hw
    rw [(hpc w).1, h5.2.2 w hw]
    rw [List.count_eq_zero.mpr (fun z => by
      have := hnd_30 s7 w (hnd_sub hq z)
      omega)]
  refine ⟨hall, by show (Z.1.set r _).length ≤ 8; rw [List.length_set]; exact h2, ?_, fun P hP => ?_, ⟨⟨?_, fun w => ?_⟩, fun w hw => ?_, h30⟩, hcw, ?_⟩
  · show ((Z.1.set r _).map (fun P => P.1)).Pairwise _
    rw [map_set_num (by rfl) hr]
    exact h3
  · rcases List.mem_or_eq_of_mem_set hP with e | e
    · exact h4 P e
    · rw [e]
      exact h4 (zget Z r) hm
  · show ((hnd _).foldl pct Z.2.1).2.1 = nz ((hnd _).foldl pct Z.2.1).2.2.2 _
    rw [(hpc 0).2.2.1, h5.1.1]
    exact nz_same (fun w hw => (hpos w (by simpa using hw)).symm)
  · show ((hnd _).foldl pct Z.2.1).2.2.2 w < 2 ^ 31
    rcases Nat.lt_or_ge w 30 with hw | hw
    · rw [hcw w hw]
      have := zcnt_cap (w := w) hall
      rw [hcap] at this
      omega
    · rw [h30 w hw]
      decide
  · show (0 < ((hnd _).foldl pct Z.2.1).2.2.2 w ↔ 0 < ((hnd _).foldl pct Z.2.1).2.2.1 w)
    rw [hpos w hw, (hpc 0).2.2.2]
    exact h5.2.1 w hw
  · show ((hnd _).foldl pct Z.2.1).1 + zcap (Z.1.set r _) + psum ((hnd _).foldl pct Z.2.1).2.2.1 = pw
    rw [(hpc 0).2.1, (hpc 0).2.2.2, hcap]
    exact h7
theorem zdel_ok (h : zok pw Z) (hp6 : pw ≤ 600) {r s : Nat} (hr : r < Z.1.length) (hs : s < Z.1.length) (hne : s ≠ r) {t : Int32} (ht : vt (zget Z s).2.2.2.2 t) : zok pw (zdel Z s r t).2 := by
  unfold zdel
  split
  · rename_i h1
    have e := zroom_ne (n := hsz (qB (zget Z s).2.2.2.2 (led (zget Z s).2.2.2.2 t))) hr hne
    have hfit := zroom_fit hr h1
    have := ztak_ok (zroom_ok (n := hsz (qB (zget Z s).2.2.2.2 (led (zget Z s).2.2.2.2 t))) h hr) hp6 (r := r) (s := s) (by rw [zroom_len]; exact hr) (by rw [zroom_len]; exact hs) (t := t) (by rw [e]; exact ht) (by rw [e]; exact hfit)
    rw [e] at this
    exact this
  · exact zroom_ok h hr
end M23
