/-! ===== the reference and the state ===== -/
section M51
variable {g : gg} {X : State → Prop} {t0 : Nat} {l : Launch} {M : mm} {M1 M2 : mm} {pw : Nat} {D : Nat → Prop} {ow sl : Nat → Nat} {mo : Nat} {Ki Ka : List Nat} {k : Nat} {pl : List Nat} {Z : zst} {A A1 : Nat → Nat → Int32}
def RP (A : Nat → Nat → Int32) (p : Nat) (P : pcs) : Prop := (A 5 p = nI P.1 ∧ A 6 p = nI P.2.1 ∧ A 7 p = nI (hsz P.2.2.2.2)) ∧ (∀ j, j < 4 → A 8 (4 * p + j) = P.2.2.1.getD j 0) ∧ (A 9 p = nI P.2.2.2.1.length ∧ ∀ k, k < P.2.2.2.1.length → A 10 (520 * p + k) = P.2.2.2.1.getD k 0) ∧ wv P.2.2.2.2 (fun a => A 11 (600 * p + a)) ∧ kv P.2.2.2.2 (fun a => A 12 (600 * p + a))
def RQ (M : mm) (mo : Nat) (p : pp) : Prop := ri M mo 13 = nI p.2.1 ∧ ∀ w, w < 30 → ra M mo 14 w = nI (p.2.2.1 w) ∧ ra M mo 15 w = nI (p.2.2.2 w)
/-- the reference holds the state: process i at the place pl i -/
def MI (pw : Nat) (D : Nat → Prop) (ow sl : Nat → Nat) (M : mm) (mo : Nat) (pl : List Nat) (Z : zst) : Prop := rs pw D ow sl M mo ∧ (ri M mo 1 = nI pw ∧ ri M mo 2 = nI Z.2.2.1 ∧ ri M mo 3 = nI Z.1.length ∧ ri M mo 4 = nI Z.2.2.2) ∧ (pl.length = Z.1.length ∧ pl.Nodup ∧ ∀ p ∈ pl, p < 8) ∧ (∀ i, i < Z.1.length → RP (ra M mo) (pl.getD i 0) (zget Z i)) ∧ (∀ p, p < 8 → p ∉ pl → ra M mo 5 p = 0) ∧ RQ M mo Z.2.1
/-- a place is as it was -/
def sameP (A A1 : Nat → Nat → Int32) (p : Nat) : Prop := A1 5 p = A 5 p ∧ A1 6 p = A 6 p ∧ A1 7 p = A 7 p ∧ (∀ j, j < 4 → A1 8 (4 * p + j) = A 8 (4 * p + j)) ∧ A1 9 p = A 9 p ∧ (∀ k, k < 520 → A1 10 (520 * p + k) = A 10 (520 * p + k)) ∧ (∀ a, a < 600 → A1 11 (600 * p + a) = A 11 (600 * p + a)) ∧ ∀ a, a < 600 → A1 12 (600 * p + a) = A 12 (600 * p + a)
theorem sameP.rf {p : Nat} : sameP A A p := ⟨rfl, rfl, rfl, fun _ _ => rfl, rfl, fun _ _ => rfl, fun _ _ => rfl, fun _ _ => rfl⟩
theorem wv_same {B : List bk} {W W2 : Nat → Int32} (H : hok B) (h : wv B W) (e : ∀ a, a < 600 → W2 a = W a) : wv B W2 := fun i hi j hj h5 => by
  have := hok_bnd H hi
  rw [e _ (by omega)]
  exact h i hi j hj h5
theorem kv_same {B : List bk} {W W2 : Nat → Int32} (H : hok B) (h : kv B W) (e : ∀ a, a < 600 → W2 a = W a) : kv B W2 := fun i hi => by
  have := hok_bnd H hi
  have bp := bsz_pos (hb B i)
  refine ⟨by rw [e _ (by omega)]; exact (h i hi).1, fun j h1 h2 => ?_⟩
  rw [e _ (by omega)]
  exact (h i hi).2 j h1 h2
theorem RP.same {p : Nat} {P : pcs} (h : RP A p P) (s : sameP A A1 p) (H : hok P.2.2.2.2) (hm : P.2.2.2.1.length ≤ 512) : RP A1 p P := by
  obtain ⟨⟨h1, h2, h3⟩, h4, ⟨h5, h6⟩, h7, h8⟩ := h
  obtain ⟨s1, s2, s3, s4, s5, s6, s7, s8⟩ := s
  refine ⟨⟨s1.trans h1, s2.trans h2, s3.trans h3⟩, fun j hj => (s4 j hj).trans (h4 j hj), ⟨s5.trans h5, fun k hk => (s6 k (by omega)).trans (h6 k hk)⟩, wv_same H h7 s7, kv_same H h8 s8⟩
theorem pl_ne (h : pl.Nodup) {i j : Nat} (hi : i < pl.length) (hj : j < pl.length) (e : j ≠ i) : pl.getD j 0 ≠ pl.getD i 0 := fun z => by
  simp only [List.getD_eq_getElem?_getD, List.getElem?_eq_getElem hi, List.getElem?_eq_getElem hj] at z
  exact e ((List.getElem_inj h).mp z)
theorem MI_step {i : Nat} {P' : pcs} {p' : pp} {x y : Nat} (h : MI pw D ow sl M mo pl Z) (hZ : ∀ P ∈ Z.1, hok P.2.2.2.2 ∧ P.2.2.2.1.length ≤ 512) (F : rx Ki Ka mo M M1) (hi : i < Z.1.length) (ho : ∀ p, p < 8 → p ≠ pl.getD i 0 → sameP (ra M mo) (ra M1 mo) p) (hP : RP (ra M1 mo) (pl.getD i 0) P') (h1 : ri M1 mo 1 = ri M mo 1) (h2 : ri M1 mo 2 = nI x) (h3 : ri M1 mo 3 = ri M mo 3) (h4 : ri M1 mo 4 = nI y) (hq : RQ M1 mo p') : MI pw D ow sl M1 mo pl (Z.1.set i P', p', x, y) := by
  obtain ⟨R, ⟨i1, i2, i3, i4⟩, ⟨l1, l2, l3⟩, hA, hE, -⟩ := h
  refine ⟨F.to R, ⟨h1.trans i1, h2, ?_, h4⟩, ⟨?_, l2, l3⟩, fun j hj => ?_, fun p hp hn => ?_, hq⟩
  · show _ = nI (Z.1.set i P').length
    rw [List.length_set]; exact h3.trans i3
  · show _ = (Z.1.set i P').length
    rw [List.length_set]; exact l1
  · have hj2 : j < Z.1.length := by simpa using hj
    rw [zget_set hi]
    by_cases e : j = i
    · rw [if_pos e, e]; exact hP
    · rw [if_neg e]
      have hm := zget_mem hj2
      exact (hA j hj2).same (ho _ (l3 _ (getD_memN (by omega))) (pl_ne l2 (by omega) (by omega) e)) (hZ _ hm).1 (hZ _ hm).2
  · rw [(ho p hp (fun z => hn (by rw [z]; exact getD_memN (by omega)))).1]
    exact hE p hp hn
/-- only what is noted beside the state has changed -/
theorem MI_scr (h : MI pw D ow sl M mo pl Z) (F : rx [0, 16] [17, 18, 19, 20, 21, 22] mo M M1) : MI pw D ow sl M1 mo pl Z := by
  obtain ⟨R, ⟨i1, i2, i3, i4⟩, hl, hA, hE, q1, q2⟩ := h
  have e : ∀ k, k ∈ RA → k ∉ [17, 18, 19, 20, 21, 22] → ra M1 mo k = ra M mo k := fun k h1 h2 => F.a R h1 (by decide) h2
  refine ⟨F.to R, ⟨?_, ?_, ?_, ?_⟩, hl, fun i hi => ?_, fun p hp hn => ?_, ?_, fun w hw => ?_⟩
  · rw [F.i (by decide)]; exact i1
  · rw [F.i (by decide)]; exact i2
  · rw [F.i (by decide)]; exact i3
  · rw [F.i (by decide)]; exact i4
  · have h9 := hA i hi
    unfold RP at h9 ⊢
    rw [e 5 (by decide) (by decide), e 6 (by decide) (by decide), e 7 (by decide) (by decide), e 8 (by decide) (by decide), e 9 (by decide) (by decide), e 10 (by decide) (by decide), e 11 (by decide) (by decide), e 12 (by decide) (by decide)]
    exact h9
  · rw [e 5 (by decide) (by decide)]; exact hE p hp hn
  · rw [F.i (by decide)]; exact q1
  · rw [e 14 (by decide) (by decide), e 15 (by decide) (by decide)]; exact q2 w hw
/-! sums over places -/
def sr (f : Nat → Nat) (n : Nat) : Nat := ((List.range n).map f).sum
theorem sr_s {f : Nat → Nat} {n : Nat} : sr f (n + 1) = sr f n + f n := by
  unfold sr
  rw [List.range_succ, List.map_append, List.sum_append]
  simp
theorem sr_le {f : Nat → Nat} {n m : Nat} (h : n ≤ m) : sr f n ≤ sr f m := by
  induction m with
  | zero =>
    have : n = 0 := by omega
    rw [this]
    exact Nat.le_refl _
  | succ m ih =>
    rw [sr_s]
    by_cases e : n = m + 1
    · rw [e, sr_s]
      exact Nat.le_refl _
    · have := ih (by omega)
      omega
theorem sum_filter (f : Nat → Nat) (pl : List Nat) : ∀ l : List Nat, (l.map (fun p => if p ∈ pl then f p else 0)).sum = ((l.filter (fun p => decide (p ∈ pl))).map f).sum
  | [] => rfl
  | a :: l => by
    rw [List.map_cons, List.sum_cons, sum_filter f pl l, List.filter_cons]
    by_cases h : a ∈ pl
    · rw [if_pos h, if_pos (decide_eq_true h), List.map_cons, List.sum_cons]
    · rw [if_neg h, if_neg (by simpa using h), Nat.zero_add]
theorem sum_pl (f : Nat → Nat) (h : pl.Nodup) (h8 : ∀ p ∈ pl, p < 8) : sr (fun p => if p ∈ pl then f p else 0) 8 = (pl.map f).sum := by
  unfold sr
  rw [sum_filter]
  have hp : ((List.range 8).filter (fun p => decide (p ∈ pl))).Perm pl := by
    rw [List.perm_ext_iff_of_nodup (List.nodup_range.filter _) h]
    intro a
    rw [List.mem_filter, List.mem_range]
    constructor
    · rintro ⟨_, h2⟩; exact of_decide_eq_true h2
    · intro h2; exact ⟨h8 a h2, decide_eq_true h2⟩
  exact (hp.map f).sum_nat
def plP (Z : zst) (pl : List Nat) (p : Nat) : pcs := zget Z (pl.idxOf p)
theorem pl_idx (h : pl.Nodup) {i : Nat} (hi : i < pl.length) : pl.idxOf (pl.getD i 0) = i := by
  obtain ⟨x1, x2⟩ := idx_getD (getD_memN hi)
  exact Classical.byContradiction (fun z => pl_ne h hi x1 z x2)
theorem pl_at {p : Nat} (hp : p ∈ pl) : pl.idxOf p < pl.length ∧ pl.getD (pl.idxOf p) 0 = p := idx_getD hp
theorem sum_cap (l1 : pl.length = Z.1.length) (l2 : pl.Nodup) (l3 : ∀ p ∈ pl, p < 8) : sr (fun p => if p ∈ pl then (plP Z pl p).2.1 else 0) 8 = zcap Z.1 := by
  rw [sum_pl (fun p => (plP Z pl p).2.1) l2 l3]
  unfold zcap
  congr 1
  apply List.ext_getElem
  · simp [l1]
  · intro i h1 h2
    simp only [List.getElem_map]
    have hi : i < pl.length := by simpa using h1
    have hi2 : i < Z.1.length := by omega
    have e := pl_idx l2 hi
    rw [List.getD_eq_getElem?_getD, List.getElem?_eq_getElem hi] at e
    unfold plP zget
    rw [show pl.idxOf pl[i] = i from e, List.getD_eq_getElem?_getD, List.getElem?_eq_getElem hi2]
    rfl
set_option maxRecDepth 100000 in
set_option maxHeartbeats 1000000 in
theorem R_free (G : gc g X t0 l) (h : MI pw D ow sl M mo pl Z) (hsum : Z.2.1.1 + zcap Z.1 + psum Z.2.1.2.2.1 = pw) (hnm : ∀ P ∈ Z.1, 1 ≤ P.1 ∧ P.1 < 2 ^ 31) : Ok g X l yy_Mo_free cc_Mo_free 3 (some .int) 0 0 0 0 [.ref mo] M (fun v M' => v = some (.int (nI Z.2.1.1)) ∧ M' = M) := by
  refine ok_start (by decide) (Nat.le_of_ble_eq_true rfl) (by simp [Value.category]) ?_
  intro p e s m args below meth c9 x
  obtain ⟨R, ⟨i1, -, -, -⟩, ⟨l1, l2, l3⟩, hA, hE, q1, q2⟩ := h
  have hcap := sum_cap l1 l2 l3
  have hps : sr Z.2.1.2.2.1 30 = psum Z.2.1.2.2.1 := rfl
  have n5 : mm_n M (mm_f M 7 5 mo) = 8 := R.n 5 (by decide)
  have n6 : mm_n M (mm_f M 7 6 mo) = 8 := R.n 6 (by decide)
  have n14 : mm_n M (mm_f M 7 14 mo) = 30 := R.n 14 (by decide)
  have hl2 : ∀ (n i : Nat), i + n = 30 → vv g 3 p l e (rm 0 0 0 0) s m args below meth c9 (MQ below (ok_Q g (fun v M' => v = some (.int (nI Z.2.1.1)) ∧ M' = M)) args s 0 0 (ok_F g)) 0 0 43 [some (.ref mo), some (.int (nI (pw - zcap Z.1 - sr Z.2.1.2.2.1 i))), some (.int (nI i))] [] (M) := by
    intro n
    induction n with
    | zero =>
      intro i hi
      have e30 : i = 30 := by omega
      refine vv_iload_n (pc := 43) x dd_Mo_free_43 rfl ?_
      refine vv_bipush (pc := 44) x dd_Mo_free_44 (30) (by decide) ?_
      refine vv_icmp_ge (pc := 46) x dd_Mo_free_46 (tgt := 64) (by decide) (fun h46 => ?_) (fun h46 => absurd h46 (fun z => z (nI_le (a := 30) (b := i) (by omega) (by omega))))
      refine vv_iload_n (pc := 64) x dd_Mo_free_64 rfl ?_
      exact vv_iret (pc := 65) x dd_Mo_free_65 rfl (by decide) (by decide) ⟨by rw [show pw - zcap Z.1 - sr Z.2.1.2.2.1 i = Z.2.1.1 by rw [e30, hps]; omega], rfl⟩
    | succ n ih =>
      intro i hi
      have h14 : mm_a M (mm_f M 7 14 mo) i = nI (Z.2.1.2.2.1 i) := (q2 i (by omega)).1
      have hs := sr_s (f := Z.2.1.2.2.1) (n := i)
      have hsl := sr_le (f := Z.2.1.2.2.1) (n := i + 1) (m := 30) (by omega)
      refine vv_iload_n (pc := 43) x dd_Mo_free_43 rfl ?_
      refine vv_bipush (pc := 44) x dd_Mo_free_44 (30) (by decide) ?_
      refine vv_icmp_ge (pc := 46) x dd_Mo_free_46 (tgt := 64) (by decide) (fun h46 => absurd h46 (nI_ge (a := i) (b := 30) (by omega) (by decide))) (fun h46 => ?_)
      refine vv_iload_n (pc := 49) x dd_Mo_free_49 rfl ?_
      refine vv_aload_n (pc := 50) x dd_Mo_free_50 rfl ?_
      refine lg_Mo_34 (pc := 51) G x dd_Mo_free_51 R.2.2 (R.r 14 (by decide)) ?_
      refine vv_iload_n (pc := 54) x dd_Mo_free_54 rfl ?_
      refine vv_iald (pc := 55) x dd_Mo_free_55 (R.t 14 (by decide)) (in_n (by omega) n14 (by decide)) ?_
      rw [nI_clamp (n := i) (by omega), h14]
      refine vv_isub (pc := 56) x dd_Mo_free_56 ?_
      rw [pk_sub (by omega), show pw - zcap Z.1 - sr Z.2.1.2.2.1 i - Z.2.1.2.2.1 i = pw - zcap Z.1 - sr Z.2.1.2.2.1 (i + 1) by omega]
      refine vv_istore_n (pc := 57) x dd_Mo_free_57 (by decide) (ls2 := [_, _, _]) rfl ?_
      refine vv_iinc (pc := 58) x dd_Mo_free_58 rfl (nI_1 i) (by decide) (ls2 := [_, _, _]) rfl ?_
      refine vv_goto (pc := 61) x dd_Mo_free_61 (tgt := 43) (by decide) ?_
      exact ih (i + 1) (by omega)
  have hl1 : ∀ (n i : Nat), i + n = 8 → vv g 3 p l e (rm 0 0 0 0) s m args below meth c9 (MQ below (ok_Q g (fun v M' => v = some (.int (nI Z.2.1.1)) ∧ M' = M)) args s 0 0 (ok_F g)) 0 0 7 [some (.ref mo), some (.int (nI (pw - sr (fun p => if p ∈ pl then (plP Z pl p).2.1 else 0) i))), some (.int (nI i))] [] (M) := by
    intro n
    induction n with
    | zero =>
      intro i hi
      have e8 : i = 8 := by omega
      subst e8
      refine vv_iload_n (pc := 7) x dd_Mo_free_7 rfl ?_
      refine vv_bipush (pc := 8) x dd_Mo_free_8 (8) (by decide) ?_
      refine vv_icmp_ge (pc := 10) x dd_Mo_free_10 (tgt := 41) (by decide) (fun h10 => ?_) (fun h10 => absurd h10 (fun z => z (nI_le (a := 8) (b := 8) (by omega) (by omega))))
      refine vv_iconst (pc := 41) x dd_Mo_free_41 (0) (by decide) ?_
      refine vv_istore_n (pc := 42) x dd_Mo_free_42 (by decide) (ls2 := [_, _, _]) rfl ?_
      have h0 := hl2 30 0 (by omega)
      rw [show pw - zcap Z.1 - sr Z.2.1.2.2.1 0 = pw - sr (fun p => if p ∈ pl then (plP Z pl p).2.1 else 0) 8 by rw [hcap]; rfl] at h0
      exact h0
    | succ n ih =>
      intro i hi
      have hs := sr_s (f := (fun p => if p ∈ pl then (plP Z pl p).2.1 else 0)) (n := i)
      have hsl := sr_le (f := (fun p => if p ∈ pl then (plP Z pl p).2.1 else 0)) (n := i + 1) (m := 8) (by omega)
      have hci : (nI i).toNatClampNeg = i := nI_clamp (by omega)
      by_cases hp : i ∈ pl
      · have hs2 : sr (fun p => if p ∈ pl then (plP Z pl p).2.1 else 0) (i + 1) = sr (fun p => if p ∈ pl then (plP Z pl p).2.1 else 0) i + (plP Z pl i).2.1 := by rw [hs]; show _ + (if i ∈ pl then _ else 0) = _; rw [if_pos hp]
        obtain ⟨x1, x2⟩ := pl_at hp
        have hRP := hA (pl.idxOf i) (by omega)
        rw [x2] at hRP
        have h5 : mm_a M (mm_f M 7 5 mo) i = nI (plP Z pl i).1 := hRP.1.1
        have h6 : mm_a M (mm_f M 7 6 mo) i = nI (plP Z pl i).2.1 := hRP.1.2.1
        have hnum := hnm (plP Z pl i) (zget_mem (by omega))
        refine vv_iload_n (pc := 7) x dd_Mo_free_7 rfl ?_
        refine vv_bipush (pc := 8) x dd_Mo_free_8 (8) (by decide) ?_
        refine vv_icmp_ge (pc := 10) x dd_Mo_free_10 (tgt := 41) (by decide) (fun h10 => absurd h10 (nI_ge (a := i) (b := 8) (by omega) (by decide))) (fun h10 => ?_)
        refine vv_iload_n (pc := 13) x dd_Mo_free_13 rfl ?_
        refine vv_aload_n (pc := 14) x dd_Mo_free_14 rfl ?_
        refine lg_Mo_7 (pc := 15) G x dd_Mo_free_15 R.2.2 (R.r 5 (by decide)) ?_
        refine vv_iload_n (pc := 18) x dd_Mo_free_18 rfl ?_
        refine vv_iald (pc := 19) x dd_Mo_free_19 (R.t 5 (by decide)) (in_n (by omega) n5 (by decide)) ?_
        rw [hci, h5]
        refine vv_if_le (pc := 20) x dd_Mo_free_20 (tgt := 32) (by decide) (fun h20 => absurd h20 (fun z => by have := (nI_leI (b := 0) (by omega) (by decide)).mp z; omega)) (fun h20 => ?_)
        refine vv_aload_n (pc := 23) x dd_Mo_free_23 rfl ?_
        refine lg_Mo_13 (pc := 24) G x dd_Mo_free_24 R.2.2 (R.r 6 (by decide)) ?_
        refine vv_iload_n (pc := 27) x dd_Mo_free_27 rfl ?_
        refine vv_iald (pc := 28) x dd_Mo_free_28 (R.t 6 (by decide)) (in_n (by omega) n6 (by decide)) ?_
        rw [hci, h6]
        refine vv_goto (pc := 29) x dd_Mo_free_29 (tgt := 33) (by decide) ?_
        refine vv_isub (pc := 33) x dd_Mo_free_33 ?_
        rw [pk_sub (by omega), show pw - sr (fun p => if p ∈ pl then (plP Z pl p).2.1 else 0) i - (plP Z pl i).2.1 = pw - sr (fun p => if p ∈ pl then (plP Z pl p).2.1 else 0) (i + 1) by omega]
        refine vv_istore_n (pc := 34) x dd_Mo_free_34 (by decide) (ls2 := [_, _, _]) rfl ?_
        refine vv_iinc (pc := 35) x dd_Mo_free_35 rfl (nI_1 i) (by decide) (ls2 := [_, _, _]) rfl ?_
        refine vv_goto (pc := 38) x dd_Mo_free_38 (tgt := 7) (by decide) ?_
        exact ih (i + 1) (by omega)
      · have hs2 : sr (fun p => if p ∈ pl then (plP Z pl p).2.1 else 0) (i + 1) = sr (fun p => if p ∈ pl then (plP Z pl p).2.1 else 0) i := by rw [hs]; show _ + (if i ∈ pl then _ else 0) = _; rw [if_neg hp]; rfl
        have h5 : mm_a M (mm_f M 7 5 mo) i = 0 := hE i (by omega) hp
        refine vv_iload_n (pc := 7) x dd_Mo_free_7 rfl ?_
        refine vv_bipush (pc := 8) x dd_Mo_free_8 (8) (by decide) ?_
        refine vv_icmp_ge (pc := 10) x dd_Mo_free_10 (tgt := 41) (by decide) (fun h10 => absurd h10 (nI_ge (a := i) (b := 8) (by omega) (by decide))) (fun h10 => ?_)
        refine vv_iload_n (pc := 13) x dd_Mo_free_13 rfl ?_
        refine vv_aload_n (pc := 14) x dd_Mo_free_14 rfl ?_
        refine lg_Mo_7 (pc := 15) G x dd_Mo_free_15 R.2.2 (R.r 5 (by decide)) ?_
        refine vv_iload_n (pc := 18) x dd_Mo_free_18 rfl ?_
        refine vv_iald (pc := 19) x dd_Mo_free_19 (R.t 5 (by decide)) (in_n (by omega) n5 (by decide)) ?_
        rw [hci, h5]
        refine vv_if_le (pc := 20) x dd_Mo_free_20 (tgt := 32) (by decide) (fun h20 => ?_) (fun h20 => absurd h20 (fun z => z (by decide)))
        refine vv_iconst (pc := 32) x dd_Mo_free_32 (0) (by decide) ?_
        refine vv_isub (pc := 33) x dd_Mo_free_33 ?_
        rw [show nI (pw - sr (fun p => if p ∈ pl then (plP Z pl p).2.1 else 0) i) - 0 = nI (pw - sr (fun p => if p ∈ pl then (plP Z pl p).2.1 else 0) (i + 1)) from by rw [hs2]; exact pk_sub (b := 0) (Nat.zero_le _)]
        refine vv_istore_n (pc := 34) x dd_Mo_free_34 (by decide) (ls2 := [_, _, _]) rfl ?_
        refine vv_iinc (pc := 35) x dd_Mo_free_35 rfl (nI_1 i) (by decide) (ls2 := [_, _, _]) rfl ?_
        refine vv_goto (pc := 38) x dd_Mo_free_38 (tgt := 7) (by decide) ?_
        exact ih (i + 1) (by omega)
  refine vv_aload_n (pc := 0) x dd_Mo_free_0 rfl ?_
  refine lg_Mo_58 (pc := 1) G x dd_Mo_free_1 R.2.2 ?_
  rw [show mm_i M 7 1 mo = nI pw from i1]
  refine vv_istore_n (pc := 4) x dd_Mo_free_4 (by decide) (ls2 := [_, _, none]) rfl ?_
  refine vv_iconst (pc := 5) x dd_Mo_free_5 (0) (by decide) ?_
  refine vv_istore_n (pc := 6) x dd_Mo_free_6 (by decide) (ls2 := [_, _, _]) rfl ?_
  have h0 := hl1 8 0 (by omega)
  rw [show pw - sr (fun p => if p ∈ pl then (plP Z pl p).2.1 else 0) 0 = pw from rfl] at h0
  exact h0
theorem pf_first {xv : Int32} : ∀ {n i j : Nat}, i ≤ j → j < i + n → nI (zget Z j).1 = xv → pf Z xv n i ≤ j
  | 0, i, j, h1, h2, _ => by omega
  | n + 1, i, j, h1, h2, h3 => by
    show (if nI (zget Z i).1 = xv then i else pf Z xv n (i + 1)) ≤ j
    by_cases e : nI (zget Z i).1 = xv
    · rw [if_pos e]; exact h1
    · rw [if_neg e]
      have : i ≠ j := fun z => e (by rw [z]; exact h3)
      exact pf_first (by omega) (by omega) h3
theorem num_lt (hp : (Z.1.map (fun P => P.1)).Pairwise (· < ·)) {i j : Nat} (hij : i < j) (hj : j < Z.1.length) : (zget Z i).1 < (zget Z j).1 := by
  have h9 := List.pairwise_iff_getElem.mp hp i j (by simp; omega) (by simpa using hj) hij
  simp only [List.getElem_map] at h9
  unfold zget
  rw [List.getD_eq_getElem?_getD, List.getD_eq_getElem?_getD, List.getElem?_eq_getElem (by omega), List.getElem?_eq_getElem hj]
  exact h9
theorem plc_eq (hp : (Z.1.map (fun P => P.1)).Pairwise (· < ·)) (hnm : ∀ P ∈ Z.1, 1 ≤ P.1 ∧ P.1 < 2 ^ 31) {xv : Int32} {i : Nat} (hi : i < Z.1.length) (h : nI (zget Z i).1 = xv) : plc Z xv = i := by
  have h1 : plc Z xv ≤ i := pf_first (Nat.zero_le _) (by omega) h
  have h2 : nI (zget Z (plc Z xv)).1 = xv := pf_eq (show pf Z xv Z.1.length 0 < 0 + Z.1.length by
    have : pf Z xv Z.1.length 0 ≤ i := h1
    omega)
  rcases Nat.lt_or_ge (plc Z xv) i with h3 | h3
  · have h4 := num_lt hp h3 hi
    have a1 := hnm _ (zget_mem (Z := Z) (i := plc Z xv) (by omega))
    have a2 := hnm _ (zget_mem hi)
    have h5 := (nI_eq a1.2 a2.2).mp (h2.trans h.symm)
    omega
  · omega
set_option maxRecDepth 100000 in
set_option maxHeartbeats 1000000 in
theorem R_place (G : gc g X t0 l) (h : MI pw D ow sl M mo pl Z) (hp : (Z.1.map (fun P => P.1)).Pairwise (· < ·)) (hnm : ∀ P ∈ Z.1, 1 ≤ P.1 ∧ P.1 < 2 ^ 31) {xv : Int32} (k9 : Nat) (hk9 : plc Z xv = k9) : Ok g X l yy_Mo_placeOf cc_Mo_placeOf 3 (some .int) 0 0 0 0 [.ref mo, .int xv] M (fun v M' => v = some (.int (if k9 < Z.1.length then nI (pl.getD k9 0) else -1)) ∧ M' = M) := by
  refine ok_start (by decide) (Nat.le_of_ble_eq_true rfl) (by simp [Value.category]) ?_
  intro p e s m args below meth c9 x
  obtain ⟨R, -, ⟨l1, l2, l3⟩, hA, hE, -⟩ := h
  have n5 : mm_n M (mm_f M 7 5 mo) = 8 := R.n 5 (by decide)
  have hl : ∀ (n i : Nat), i + n = 8 → (∀ p, p < i → ¬ (0 < xv ∧ ra M mo 5 p = xv)) → vv g 3 p l e (rm 0 0 0 0) s m args below meth c9 (MQ below (ok_Q g (fun v M' => v = some (.int (if k9 < Z.1.length then nI (pl.getD k9 0) else -1)) ∧ M' = M)) args s 0 0 (ok_F g)) 0 0 2 [some (.ref mo), some (.int xv), some (.int (nI i))] [] (M) := by
    intro n
    induction n with
    | zero =>
      intro i hi hno
      have hk : ¬ k9 < Z.1.length := fun hk => by
        have hp8 := l3 _ (getD_memN (L := pl) (k := k9) (by omega))
        have e1 : nI (zget Z k9).1 = xv := by rw [← hk9]; exact pf_eq (show pf Z xv Z.1.length 0 < 0 + Z.1.length by have : pf Z xv Z.1.length 0 = k9 := hk9; omega)
        have a1 := hnm _ (zget_mem hk)
        refine hno (pl.getD k9 0) (by omega) ⟨?_, (hA k9 hk).1.1.trans e1⟩
        rw [← e1]
        exact nI_lt (a := 0) (by omega) a1.2
      refine vv_iload_n (pc := 2) x dd_Mo_placeOf_2 rfl ?_
      refine vv_bipush (pc := 3) x dd_Mo_placeOf_3 (8) (by decide) ?_
      refine vv_icmp_ge (pc := 5) x dd_Mo_placeOf_5 (tgt := 30) (by decide) (fun h5 => ?_) (fun h5 => absurd h5 (fun z => z (nI_le (a := 8) (b := i) (by omega) (by omega))))
      refine vv_iconst (pc := 30) x dd_Mo_placeOf_30 (-1) (by decide) ?_
      exact vv_iret (pc := 31) x dd_Mo_placeOf_31 rfl (by decide) (by decide) ⟨by rw [if_neg hk], rfl⟩
    | succ n ih =>
      intro i hi hno
      have hci : (nI i).toNatClampNeg = i := nI_clamp (by omega)
      refine vv_iload_n (pc := 2) x dd_Mo_placeOf_2 rfl ?_
      refine vv_bipush (pc := 3) x dd_Mo_placeOf_3 (8) (by decide) ?_
      refine vv_icmp_ge (pc := 5) x dd_Mo_placeOf_5 (tgt := 30) (by decide) (fun h5 => absurd h5 (nI_ge (a := i) (b := 8) (by omega) (by decide))) (fun h5 => ?_)
      refine vv_iload_n (pc := 8) x dd_Mo_placeOf_8 rfl ?_
      refine vv_if_le (pc := 9) x dd_Mo_placeOf_9 (tgt := 24) (by decide) (fun h9 => ?_) (fun h9 => ?_)
      · refine vv_iinc (pc := 24) x dd_Mo_placeOf_24 rfl (nI_1 i) (by decide) (ls2 := [_, _, _]) rfl ?_
        refine vv_goto (pc := 27) x dd_Mo_placeOf_27 (tgt := 2) (by decide) ?_
        exact ih (i + 1) (by omega) (fun p hp z => by exact absurd h9 (Int32.not_le.mpr z.1))
      · refine vv_aload_n (pc := 12) x dd_Mo_placeOf_12 rfl ?_
        refine lg_Mo_7 (pc := 13) G x dd_Mo_placeOf_13 R.2.2 (R.r 5 (by decide)) ?_
        refine vv_iload_n (pc := 16) x dd_Mo_placeOf_16 rfl ?_
        refine vv_iald (pc := 17) x dd_Mo_placeOf_17 (R.t 5 (by decide)) (in_n (by omega) n5 (by decide)) ?_
        rw [hci]
        refine vv_iload_n (pc := 18) x dd_Mo_placeOf_18 rfl ?_
        refine vv_icmp_ne (pc := 19) x dd_Mo_placeOf_19 (tgt := 24) (by decide) (fun h19 => ?_) (fun h19 => ?_)
        · refine vv_iinc (pc := 24) x dd_Mo_placeOf_24 rfl (nI_1 i) (by decide) (ls2 := [_, _, _]) rfl ?_
          refine vv_goto (pc := 27) x dd_Mo_placeOf_27 (tgt := 2) (by decide) ?_
          exact ih (i + 1) (by omega) (fun p hp z => by
            by_cases e9 : p = i
            · exact h19 (by rw [← e9]; exact z.2)
            · exact hno p (by omega) z)
        · refine vv_iload_n (pc := 22) x dd_Mo_placeOf_22 rfl ?_
          have hx : 0 < xv := Int32.not_le.mp h9
          have hin : i ∈ pl := Classical.byContradiction (fun z => by
            have h8 : mm_a M (mm_f M 7 5 mo) i = 0 := hE i (by omega) z
            rw [h19] at h8
            rw [h8] at hx
            exact absurd hx (by decide))
          obtain ⟨x1, x2⟩ := pl_at hin
          have e1 : nI (zget Z (pl.idxOf i)).1 = xv := by
            have h8 := (hA (pl.idxOf i) (by omega)).1.1
            rw [x2] at h8
            rw [← h8]
            exact h19
          have e2 := plc_eq hp hnm (by omega) e1
          rw [hk9] at e2
          exact vv_iret (pc := 23) x dd_Mo_placeOf_23 rfl (by decide) (by decide) ⟨by rw [if_pos (by omega), e2, x2], rfl⟩
  refine vv_iconst (pc := 0) x dd_Mo_placeOf_0 (0) (by decide) ?_
  refine vv_istore_n (pc := 1) x dd_Mo_placeOf_1 (by decide) (ls2 := [_, _, _]) rfl ?_
  exact hl 8 0 (by omega) (fun p hp => by omega)
theorem nI_dec1 {n : Nat} (h : 1 ≤ n) : nI n - 1 = nI (n - 1) := nI_dec h
set_option maxRecDepth 100000 in
set_option maxHeartbeats 1000000 in
theorem R_release (G : gc g X t0 l) (R : rs pw D ow sl M mo) {pq : pp} (hq : RQ M mo pq) {w : Nat} (hw : w < 30) (hc : 1 ≤ pq.2.2.2 w) (hc2 : pq.2.2.2 w < 2 ^ 31) (hb : 1 ≤ pq.2.1) : Ok g X l yy_Mo_release cc_Mo_release 2 none 0 0 0 0 [.ref mo, .int (nI w)] M (fun v M' => v = none ∧ rx [13] [14, 15] mo M M' ∧ RQ M' mo (pdr pq w)) := by
  refine ok_start (by decide) (Nat.le_of_ble_eq_true rfl) (by simp [Value.category]) ?_
  intro p e s m args below meth c9 x
  obtain ⟨q1, q2⟩ := hq
  have hcw : (nI w).toNatClampNeg = w := nI_clamp (by omega)
  have h15 : mm_a M (mm_f M 7 15 mo) w = nI (pq.2.2.2 w) := (q2 w hw).2
  have n15 : mm_n M (mm_f M 7 15 mo) = 30 := R.n 15 (by decide)
  have F1 : rx [13] [14, 15] mo M (mw M mo 15 (upd (ra M mo 15) w (nI (pq.2.2.2 w - 1)))) := rx_mw.mono (by simp) (by simp)
  have R1 := F1.to R
  have b15 : ra (mw M mo 15 (upd (ra M mo 15) w (nI (pq.2.2.2 w - 1)))) mo 15 = upd (ra M mo 15) w (nI (pq.2.2.2 w - 1)) := ra_mw
  have b14 : ra (mw M mo 15 (upd (ra M mo 15) w (nI (pq.2.2.2 w - 1)))) mo 14 = ra M mo 14 := ra_mw_n R (by decide) (by decide) (by decide)
  have c15 : mm_a (mw M mo 15 (upd (ra M mo 15) w (nI (pq.2.2.2 w - 1)))) (mm_f (mw M mo 15 (upd (ra M mo 15) w (nI (pq.2.2.2 w - 1)))) 7 15 mo) w = nI (pq.2.2.2 w - 1) := by
    show ra _ mo 15 w = _
    rw [b15]
    unfold upd
    rw [if_pos rfl]
  have i13 : mm_i (mw M mo 15 (upd (ra M mo 15) w (nI (pq.2.2.2 w - 1)))) 7 13 mo = nI pq.2.1 := q1
  refine vv_aload_n (pc := 0) x dd_Mo_release_0 rfl ?_
  refine lg_Mo_37 (pc := 1) G x dd_Mo_release_1 R.2.2 (R.r 15 (by decide)) ?_
  refine vv_iload_n (pc := 4) x dd_Mo_release_4 rfl ?_
  refine vv_dup2 (pc := 5) x dd_Mo_release_5 rfl rfl ?_
  refine vv_iald (pc := 6) x dd_Mo_release_6 (R.t 15 (by decide)) (in_n (by omega) n15 (by decide)) ?_
  rw [hcw, h15]
  refine vv_iconst (pc := 7) x dd_Mo_release_7 (1) (by decide) ?_
  refine vv_isub (pc := 8) x dd_Mo_release_8 ?_
  rw [nI_dec1 hc]
  refine vv_iast (pc := 9) x dd_Mo_release_9 (R.t 15 (by decide)) (in_n (by omega) n15 (by decide)) ?_
  rw [hcw, show mm_sa M (mm_f M 7 15 mo) (upd (mm_a M (mm_f M 7 15 mo)) w (nI (pq.2.2.2 w - 1))) = mw M mo 15 (upd (ra M mo 15) w (nI (pq.2.2.2 w - 1))) from rfl]
  generalize hN : mw M mo 15 (upd (ra M mo 15) w (nI (pq.2.2.2 w - 1))) = N at *
  refine vv_aload_n (pc := 10) x dd_Mo_release_10 rfl ?_
  refine lg_Mo_37 (pc := 11) G x dd_Mo_release_11 R1.2.2 (R1.r 15 (by decide)) ?_
  refine vv_iload_n (pc := 14) x dd_Mo_release_14 rfl ?_
  refine vv_iald (pc := 15) x dd_Mo_release_15 (R1.t 15 (by decide)) (in_n (N := 30) (by omega) (R1.n 15 (by decide)) (by decide)) ?_
  rw [hcw, c15]
  refine vv_if_ne (pc := 16) x dd_Mo_release_16 (tgt := 36) (by decide) (fun h16 => ?_) (fun h16 => ?_)
  · exact vv_vret (pc := 36) x dd_Mo_release_36 rfl (by decide) (by decide) ⟨rfl, F1, by
        have h1 : pq.2.2.2 w ≠ 1 := fun z => h16 (by rw [z]; rfl)
        unfold pdr
        rw [if_neg h1]
        refine ⟨i13, fun v hv => ?_⟩
        rw [b14, b15]
        refine ⟨(q2 v hv).1, ?_⟩
        show upd (ra M mo 15) w _ v = nI (un pq.2.2.2 w (pq.2.2.2 w - 1) v)
        unfold upd un
        by_cases e9 : v = w
        · rw [if_pos e9, if_pos e9]
        · rw [if_neg e9, if_neg e9]; exact (q2 v hv).2⟩
  · refine vv_aload_n (pc := 19) x dd_Mo_release_19 rfl ?_
    refine lg_Mo_34 (pc := 20) G x dd_Mo_release_20 R1.2.2 (R1.r 14 (by decide)) ?_
    refine vv_iload_n (pc := 23) x dd_Mo_release_23 rfl ?_
    refine vv_iconst (pc := 24) x dd_Mo_release_24 (0) (by decide) ?_
    refine vv_iast (pc := 25) x dd_Mo_release_25 (R1.t 14 (by decide)) (in_n (N := 30) (by omega) (R1.n 14 (by decide)) (by decide)) ?_
    rw [hcw]
    have F2 : rx [13] [14, 15] mo N (mw N mo 14 (upd (ra N mo 14) w 0)) := rx_mw.mono (by simp) (by simp)
    have R2 := F2.to R1
    refine vv_aload_n (pc := 26) x dd_Mo_release_26 rfl ?_
    refine vv_dup (pc := 27) x dd_Mo_release_27 rfl ?_
    refine lg_Mo_65 (pc := 28) G x dd_Mo_release_28 R2.2.2 ?_
    rw [show mm_i (mm_sa N (mm_f N 7 14 mo) (upd (mm_a N (mm_f N 7 14 mo)) w 0)) 7 13 mo = nI pq.2.1 from i13]
    refine vv_iconst (pc := 31) x dd_Mo_release_31 (1) (by decide) ?_
    refine vv_isub (pc := 32) x dd_Mo_release_32 ?_
    rw [nI_dec1 hb]
    refine lp_Mo_65 (pc := 33) G x dd_Mo_release_33 R2.2.2 ?_
    exact vv_vret (pc := 36) x dd_Mo_release_36 rfl (by decide) (by decide) ⟨rfl, (F1.trans F2).trans (rx_mi.mono (by simp) (by simp)), by
        have h1 : pq.2.2.2 w = 1 := by
          have h9 := (nI_eq (b := 0) (by omega) (by decide)).mp h16
          omega
        unfold pdr
        rw [if_pos h1]
        refine ⟨ri_mi, fun v hv => ?_⟩
        show ra (mw N mo 14 (upd (ra N mo 14) w 0)) mo 14 v = nI (un pq.2.2.1 w 0 v) ∧ ra (mw N mo 14 (upd (ra N mo 14) w 0)) mo 15 v = nI (un pq.2.2.2 w 0 v)
        rw [ra_mw, ra_mw_n R1 (by decide) (by decide) (by decide), b14, b15]
        unfold upd un
        by_cases e9 : v = w
        · rw [if_pos e9, if_pos e9, if_pos e9, if_pos e9, h1]; exact ⟨rfl, rfl⟩
        · rw [if_neg e9, if_neg e9, if_neg e9, if_neg e9]; exact q2 v hv⟩
end M51
