/-! ===== capacities stay in steps; trim keeps the state sound ===== -/
section M37
variable {pw : Nat} {Z : zst}
theorem z8_set {p : pp} {x y i : Nat} {P : pcs} (h : z8 Z) (h1 : 8 ≤ P.2.1 ∧ P.2.1 % 8 = 0) : z8 (Z.1.set i P, p, x, y) := by
  intro P2 hP
  rcases List.mem_or_eq_of_mem_set hP with e | e
  · exact h P2 e
  · rw [e]; exact h1
theorem stp_mod {n : Nat} : stp n % 8 = 0 := by unfold stp; omega
theorem z8_col (h : z8 Z) {i : Nat} (hi : i < Z.1.length) : z8 (zcol Z i) := z8_set h (h (zget Z i) (zget_mem hi))
theorem z8_room (h : z8 Z) {i n : Nat} (hi : i < Z.1.length) : z8 (zroom Z i n).2 := by
  have h1 := z8_col h hi
  unfold zroom
  split
  · exact h
  · split
    · have h2 := h1 _ (zget_mem (Z := zcol Z i) (i := i) (by rw [zcol_len]; exact hi))
      have h3 := stp_mod (n := hsz (zget (zcol Z i) i).2.2.2.2 + n - (zget (zcol Z i) i).2.1)
      refine z8_set h1 ⟨?_, ?_⟩
      · show 8 ≤ (zget (zcol Z i) i).2.1 + stp _
        omega
      · show ((zget (zcol Z i) i).2.1 + stp _) % 8 = 0
        omega
    · exact h1
theorem z8_reg (h : z8 Z) {i j : Nat} {t : Int32} (hi : i < Z.1.length) : z8 (zreg Z i j t) := z8_set h (h (zget Z i) (zget_mem hi))
theorem z8_pop (h : z8 Z) {i : Nat} (hi : i < Z.1.length) : z8 (zpop Z i) := z8_set h (h (zget Z i) (zget_mem hi))
theorem z8_bk (h : z8 Z) {i : Nat} {b : bk} (hi : i < Z.1.length) : z8 (zbk Z i b) := z8_set h (h (zget Z i) (zget_mem hi))
theorem z8_own (h : z8 Z) {i : Nat} {t : Int32} (hi : i < Z.1.length) : z8 (zown Z i t) := z8_set h (h (zget Z i) (zget_mem hi))
theorem lst8_ge {n : Nat} : n ≤ lst8 n ∧ 8 ≤ lst8 n ∧ lst8 n % 8 = 0 := by
  unfold lst8 stp
  split <;> omega
theorem z8_trim (h : z8 Z) {i : Nat} (hi : i < Z.1.length) : z8 (ztrim Z i) := z8_set (z8_col h hi) ⟨lst8_ge.2.1, lst8_ge.2.2⟩
theorem ztrim_ok (h : zok pw Z) (h8 : z8 Z) {i : Nat} (hi : i < Z.1.length) : zok pw (ztrim Z i) := by
  have hc8 := h8 _ (zget_mem hi)
  have hcc := zcol_cap hi
  have hZ1 := zcol_ok h hi
  have hk1 : i < (zcol Z i).1.length := by rw [zcol_len]; exact hi
  unfold ztrim
  generalize zcol Z i = Z1 at *
  have hm := zget_mem hk1
  have hus1 := (hZ1.1 _ hm).2.2.1
  have hle8 := lst8_le (n := hsz (zget Z1 i).2.2.2.2) (c := (zget Z1 i).2.1) (by rw [hcc]; exact hc8.1) (by rw [hcc]; exact hc8.2) hus1
  obtain ⟨h1, h2, h3, h4, h5, h6, h7⟩ := hZ1
  refine ⟨fun P hP => ?_, ?_, ?_, fun P hP => ?_, h5, fun w hw => ?_, ?_⟩
  · rcases List.mem_or_eq_of_mem_set hP with e | e
    · exact h1 P e
    · rw [e]
      obtain ⟨k1, k2, k3, k4⟩ := h1 _ hm
      exact ⟨k1, k2, lst8_ge.1, k4⟩
  · show (Z1.1.set i _).length ≤ 8
    rw [List.length_set]; exact h2
  · show ((Z1.1.set i _).map (fun P => P.1)).Pairwise _
    rw [map_set_num (by rfl) hk1]
    exact h3
  · rcases List.mem_or_eq_of_mem_set hP with e | e
    · exact h4 P e
    · rw [e]
      exact h4 (zget Z1 i) hm
  · show Z1.2.1.2.2.2 w = zcnt (Z1.1.set i _) w
    rw [h6 w hw]
    have e1 := sum_set (fun P => (hnd P.2.2.2.2).count w) (L := Z1.1) (P := ((zget Z1 i).1, lst8 (hsz (zget Z1 i).2.2.2.2), (zget Z1 i).2.2)) hk1
    have e4 : (hnd (Z1.1.getD i (0, 0, [], [], [])).2.2.2.2).count w = (hnd (zget Z1 i).2.2.2.2).count w := rfl
    simp only [e4] at e1
    unfold zcnt
    omega
  · show Z1.2.1.1 + ((zget Z1 i).2.1 - lst8 (hsz (zget Z1 i).2.2.2.2)) + zcap (Z1.1.set i _) + psum Z1.2.1.2.2.1 = pw
    have e1 := sum_set (fun P => P.2.1) (L := Z1.1) (P := ((zget Z1 i).1, lst8 (hsz (zget Z1 i).2.2.2.2), (zget Z1 i).2.2)) hk1
    have e2 : (Z1.1.getD i (0, 0, [], [], [])).2.1 = (zget Z1 i).2.1 := rfl
    simp only [e2] at e1
    unfold zcap at *
    omega
end M37
