/-! ===== the reference: a term is passed ===== -/
section M64
variable {g : gg} {X : State → Prop} {t0 : Nat} {l : Launch} {M : mm} {M1 M2 : mm} {pw : Nat} {D : Nat → Prop} {ow sl : Nat → Nat} {mo : Nat} {Ki Ka : List Nat} {k : Nat} {pl : List Nat} {Z : zst} {B B0 : List bk} {b : bk}
theorem TT_cat {fw j kk : Nat} {q : List Nat} : TT B fw B0 j kk q = B0 ++ TT B fw [] j kk q := by
  unfold TT
  rw [List.nil_append]
theorem wv_cat {X : List bk} {W W2 : Nat → Int32} (h0 : wv B0 W) (hx : wv X W2) (e : ∀ x, x < hsz X → W (hsz B0 + x) = W2 x) : wv (B0 ++ X) W := by
  intro i hi j hj h5
  rw [List.length_append] at hi
  by_cases z : i < B0.length
  · rw [hb_app z] at hj h5 ⊢
    rw [had_app (by omega)]
    exact h0 i z j hj h5
  · obtain ⟨m, rfl⟩ : ∃ m, i = B0.length + m := ⟨i - B0.length, by omega⟩
    rw [hb_app2] at hj h5 ⊢
    have hm : m < X.length := by omega
    have h9 := had_blk hm
    rw [had_app2, Nat.add_assoc, e _ (by omega)]
    exact hx m hm j hj h5
theorem kv_cat {X : List bk} {W W2 : Nat → Int32} (h0 : kv B0 W) (hx : kv X W2) (e : ∀ x, x < hsz X → W (hsz B0 + x) = W2 x) : kv (B0 ++ X) W := by
  intro i hi
  rw [List.length_append] at hi
  by_cases z : i < B0.length
  · rw [hb_app z, had_app (by omega)]
    exact h0 i z
  · obtain ⟨m, rfl⟩ : ∃ m, i = B0.length + m := ⟨i - B0.length, by omega⟩
    rw [hb_app2, had_app2]
    have hm : m < X.length := by omega
    have h9 := had_blk hm
    have bp := bsz_pos (hb X m)
    refine ⟨by rw [e _ (by omega)]; exact (hx m hm).1, fun j h1 h2 => ?_⟩
    rw [Nat.add_assoc, e _ (by omega)]
    exact (hx m hm).2 j h1 h2
theorem zroom_mlen {i n : Nat} (hi : i < Z.1.length) : (zget (zroom Z i n).2 i).2.2.2.1.length = (zget Z i).2.2.2.1.length := by
  have hc : (zget (zcol Z i) i).2.2.2.1.length = (zget Z i).2.2.2.1.length := by
    unfold zcol
    rw [zget_set hi, if_pos rfl]
    show (List.map _ _).length = _
    rw [List.length_map]
  unfold zroom
  split
  · rfl
  · split
    · unfold zgrow
      rw [zget_set (by rw [zcol_len]; exact hi), if_pos rfl]
      exact hc
    · exact hc
theorem MI_tak {i : Nat} {t : Int32} (h : MI pw D ow sl M mo pl Z) (hZ : ∀ P ∈ Z.1, hok P.2.2.2.2 ∧ P.2.2.2.1.length ≤ 512) (hi : i < Z.1.length) (hs : hsz (zget Z i).2.2.2.2 + hsz (qB B (led B t)) ≤ 600) (hm5 : (zget Z i).2.2.2.1.length < 512) (F : rx [16] [7, 9, 10, 11, 12, 15, 17, 18, 19] mo M M1) (h7 : ra M1 mo 7 = upd (ra M mo 7) (pl.getD i 0) (nI (hsz (zget Z i).2.2.2.2 + hsz (qB B (led B t))))) (h9 : ra M1 mo 9 = upd (ra M mo 9) (pl.getD i 0) (nI ((zget Z i).2.2.2.1.length + 1))) (h10 : ra M1 mo 10 = upd (ra M mo 10) (520 * pl.getD i 0 + (zget Z i).2.2.2.1.length) (rel B (hsz (zget Z i).2.2.2.2) (led B t) t)) {W K : Nat → Int32} (hW : wv (TT B (hsz (zget Z i).2.2.2.2) [] (led B t).length 0 (led B t)) W) (hK : kv (TT B (hsz (zget Z i).2.2.2.2) [] (led B t).length 0 (led B t)) K) (h11 : ∀ x, x < hsz (qB B (led B t)) → ra M1 mo 11 (600 * pl.getD i 0 + hsz (zget Z i).2.2.2.2 + x) = W x ∧ ra M1 mo 12 (600 * pl.getD i 0 + hsz (zget Z i).2.2.2.2 + x) = K x) (h11o : ∀ x, ¬ (600 * pl.getD i 0 + hsz (zget Z i).2.2.2.2 ≤ x ∧ x < 600 * pl.getD i 0 + hsz (zget Z i).2.2.2.2 + hsz (qB B (led B t))) → ra M1 mo 11 x = ra M mo 11 x ∧ ra M1 mo 12 x = ra M mo 12 x) (hq : RQ M1 mo ((hnd (qB B (led B t))).foldl pct Z.2.1)) : MI pw D ow sl M1 mo pl (ztak Z i B t) := by
  obtain ⟨R, ⟨i1, i2, i3, i4⟩, ⟨l1, l2, l3⟩, hA, hE, -⟩ := id h
  have e : ∀ k, k ∈ RA → k ∉ [7, 9, 10, 11, 12, 15, 17, 18, 19] → ra M1 mo k = ra M mo k := fun k h1 h2 => F.a R h1 (by decide) h2
  obtain ⟨⟨a1, a2, a3⟩, a4, ⟨a5, a6⟩, a7, a8⟩ := hA i hi
  refine (MI_step (Z := Z) (P' := tak (zget Z i) B t) (p' := (hnd (qB B (led B t))).foldl pct Z.2.1) (x := Z.2.2.1) (y := Z.2.2.2) h hZ F hi (fun p hp hne => ?_) ?_ (F.i (by decide)) ((F.i (by decide)).trans i2) (F.i (by decide)) ((F.i (by decide)).trans i4) hq : _)
  · unfold sameP
    rw [e 5 (by decide) (by decide), e 6 (by decide) (by decide), e 8 (by decide) (by decide), h7, h9, h10, upd_ne hne, upd_ne hne]
    exact ⟨rfl, rfl, rfl, fun _ _ => rfl, rfl, fun x hx => upd_ne (by omega), fun x hx => (h11o _ (by omega)).1, fun x hx => (h11o _ (by omega)).2⟩
  · unfold RP
    rw [e 5 (by decide) (by decide), e 6 (by decide) (by decide), e 8 (by decide) (by decide), h7, h9, h10, upd_eq rfl, upd_eq rfl]
    refine ⟨⟨a1, a2, ?_⟩, a4, ⟨?_, fun x hx => ?_⟩, ?_, ?_⟩
    · show _ = nI (hsz (cpd B (zget Z i).2.2.2.2 (led B t)))
      rw [cpd_sz]
    · show _ = nI ((zget Z i).2.2.2.1 ++ [_]).length
      simp
    · have hx2 : x < (zget Z i).2.2.2.1.length + 1 := by
        have : x < ((zget Z i).2.2.2.1 ++ [rel B (hsz (zget Z i).2.2.2.2) (led B t) t]).length := hx
        simpa using this
      show _ = ((zget Z i).2.2.2.1 ++ [rel B (hsz (zget Z i).2.2.2.2) (led B t) t]).getD x 0
      by_cases z : x = (zget Z i).2.2.2.1.length
      · rw [upd_eq (by omega), z, List.getD_eq_getElem?_getD, List.getElem?_append_right (by omega)]
        simp
      · rw [upd_ne (by omega), a6 x (by omega), List.getD_eq_getElem?_getD, List.getD_eq_getElem?_getD, List.getElem?_append_left (by omega)]
    · show wv (cpd B (zget Z i).2.2.2.2 (led B t)) _
      unfold cpd
      rw [TT_cat]
      refine wv_cat (W2 := W) (fun j hj x hx h5 => ?_) hW (fun x hx => ?_)
      · have hb9 := had_blk hj
        show ra M1 mo 11 (600 * pl.getD i 0 + (had _ j + x)) = _
        rw [(h11o _ (by omega)).1]
        exact a7 j hj x hx h5
      · rw [T0_sz] at hx
        show ra M1 mo 11 (600 * pl.getD i 0 + (hsz (zget Z i).2.2.2.2 + x)) = _
        rw [← Nat.add_assoc]; exact (h11 x hx).1
    · show kv (cpd B (zget Z i).2.2.2.2 (led B t)) _
      unfold cpd
      rw [TT_cat]
      refine kv_cat (W2 := K) (fun j hj => ?_) hK (fun x hx => ?_)
      · have hb9 := had_blk hj
        have bp := bsz_pos (hb (zget Z i).2.2.2.2 j)
        refine ⟨?_, fun x h1 h2 => ?_⟩
        · show ra M1 mo 12 (600 * pl.getD i 0 + had _ j) = _
          rw [(h11o _ (by omega)).2]
          exact (a8 j hj).1
        · show ra M1 mo 12 (600 * pl.getD i 0 + (had _ j + x)) = _
          rw [(h11o _ (by omega)).2]
          exact (a8 j hj).2 x h1 h2
      · rw [T0_sz] at hx
        show ra M1 mo 12 (600 * pl.getD i 0 + (hsz (zget Z i).2.2.2.2 + x)) = _
        rw [← Nat.add_assoc]; exact (h11 x hx).2
theorem hnd_drop {q : List Nat} {j : Nat} (hj : j < q.length) : hnd ((qB B q).drop j) = (if (hb B (q.getD j 0)).1 = 5 then [bw B (q.getD j 0)] else []) ++ hnd ((qB B q).drop (j + 1)) := by
  have h1 : (qB B q).drop j = hb B (q.getD j 0) :: (qB B q).drop (j + 1) := by
    rw [drop_hb (by rw [qB_len]; exact hj), qB_hb hj]
  rw [h1, hnd_cons]
  rfl
end M64
