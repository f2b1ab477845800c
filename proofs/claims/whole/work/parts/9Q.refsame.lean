/-! ===== the reference's answers in the same words ===== -/
section M73
variable {g : gg} {X : State → Prop} {t0 : Nat} {l : Launch} {M M1 : mm} {pw n : Nat} {D : Nat → Prop} {ow sl : Nat → Nat} {mo : Nat} {pl : List Nat} {Z : zst}
def NP (pw : Nat) (D : Nat → Prop) (ow sl : Nat → Nat) (M : mm) (mo : Nat) (M' : mm) (F : Int32 × Int32 × zst) : Prop := rx RI9 RA mo M M' ∧ ri M' mo 0 = F.1 ∧ ∃ pl2, MI pw D ow sl M' mo pl2 F.2.2
theorem n10 : ¬ (1 : Int32) = 0 := by decide
theorem n20 : ¬ (2 : Int32) = 0 := by decide
theorem N_spawn (G : gc g X t0 l) (h : MI pw D ow sl M mo pl Z) (I : zi pw n Z) (hn : n < 512) (hp6 : pw ≤ 600) : Ok g X l yy_Mo_spawn cc_Mo_spawn 3 (some .int) 1 22 0 0 [.ref mo] M (fun v M' => (∃ bv, v = some (.int bv) ∧ ((F_spawn Z ).1 = 0 → bv = (F_spawn Z ).2.1)) ∧ NP pw D ow sl M mo M' (F_spawn Z )) := by
  refine (R_spawn G h I.1 hp6 (by have := I.2.2.2; omega) (fun P hP => by have := I.2.2.1 P hP; omega)).mono ?_
  rintro v M' ⟨F1, q1⟩
  rw [F_spawn]
  rcases q1 with ⟨c1, hv, e1, e2⟩ | ⟨c1, hv, e1, e2⟩
  · rw [cif_t c1]
    exact ⟨⟨_, hv, fun _ => rfl⟩, F1, e1, e2⟩
  · rw [cif_f c1]
    obtain ⟨z9, hv⟩ := hv
    exact ⟨⟨z9, hv, fun w => absurd w (by first | exact n10 | exact n20)⟩, F1, e1, ⟨_, e2⟩⟩
theorem N_exit (G : gc g X t0 l) (h : MI pw D ow sl M mo pl Z) (I : zi pw n Z) (hn : n < 512) (hp6 : pw ≤ 600) {xv : Int32} : Ok g X l yy_Mo_exit cc_Mo_exit 5 (some .int) 1 22 0 0 [.ref mo, .int xv] M (fun v M' => (∃ bv, v = some (.int bv) ∧ ((F_exit Z xv).1 = 0 → bv = (F_exit Z xv).2.1)) ∧ NP pw D ow sl M mo M' (F_exit Z xv)) := by
  refine (R_exit G h I.1 hp6 (by have := I.2.2.2; omega) (fun P hP => by have := I.2.2.1 P hP; omega) (plc Z xv) rfl).mono ?_
  rintro v M' ⟨F1, q1⟩
  rw [F_exit]
  rcases q1 with ⟨c1, hv, e1, e2⟩ | ⟨c1, hv, e1, e2⟩
  · rw [cif_t c1]
    exact ⟨⟨_, hv, fun _ => rfl⟩, F1, e1, ⟨_, e2⟩⟩
  · rw [cif_f c1]
    obtain ⟨z9, hv⟩ := hv
    exact ⟨⟨z9, hv, fun w => absurd w (by first | exact n10 | exact n20)⟩, F1, e1, ⟨_, e2⟩⟩
theorem N_nil (G : gc g X t0 l) (h : MI pw D ow sl M mo pl Z) (I : zi pw n Z) (hn : n < 512) (hp6 : pw ≤ 600) {xv rv : Int32} : Ok g X l yy_Mo_nil cc_Mo_nil 4 none 1 22 0 0 [.ref mo, .int xv, .int rv] M (fun v M' => v = none ∧ NP pw D ow sl M mo M' (F_nil Z xv rv)) := by
  refine (R_nil G h I.1 hp6 (by have := I.2.2.2; omega) (fun P hP => by have := I.2.2.1 P hP; omega) (plc Z xv) rfl).mono ?_
  rintro v M' ⟨F1, q1⟩
  rw [F_nil]
  rcases q1 with ⟨c1, hv, e1, e2⟩ | ⟨c1, hv, e1, e2⟩
  · rw [cif_t c1]
    exact ⟨hv, F1, e1, ⟨_, e2⟩⟩
  · rw [cif_f c1]
    exact ⟨hv, F1, e1, ⟨_, e2⟩⟩
theorem N_integer (G : gc g X t0 l) (h : MI pw D ow sl M mo pl Z) (I : zi pw n Z) (hn : n < 512) (hp6 : pw ≤ 600) {xv rv nv : Int32} : Ok g X l yy_Mo_integer cc_Mo_integer 5 none 1 22 0 0 [.ref mo, .int xv, .int rv, .int nv] M (fun v M' => v = none ∧ NP pw D ow sl M mo M' (F_integer Z xv rv nv)) := by
  refine (R_integer G h I.1 hp6 (by have := I.2.2.2; omega) (fun P hP => by have := I.2.2.1 P hP; omega) (plc Z xv) rfl).mono ?_
  rintro v M' ⟨F1, q1⟩
  rw [F_integer]
  rcases q1 with ⟨c1, c2, hv, e1, e2⟩ | ⟨c1, hv, e1, e2⟩ | ⟨c1, c2, hv, e1, e2⟩
  · rw [cif_f (fun z => z c1), cif_f (fun z => z c2)]
    exact ⟨hv, F1, e1, ⟨_, e2⟩⟩
  · rw [cif_t c1]
    exact ⟨hv, F1, e1, ⟨_, e2⟩⟩
  · rw [cif_f (fun z => z c1), cif_t c2]
    exact ⟨hv, F1, e1, ⟨_, e2⟩⟩
theorem N_name (G : gc g X t0 l) (h : MI pw D ow sl M mo pl Z) (I : zi pw n Z) (hn : n < 512) (hp6 : pw ≤ 600) {xv rv nv : Int32} : Ok g X l yy_Mo_name cc_Mo_name 5 none 1 22 0 0 [.ref mo, .int xv, .int rv, .int nv] M (fun v M' => v = none ∧ NP pw D ow sl M mo M' (F_name Z xv rv nv)) := by
  refine (R_name G h I.1 hp6 (by have := I.2.2.2; omega) (fun P hP => by have := I.2.2.1 P hP; omega) (plc Z xv) rfl).mono ?_
  rintro v M' ⟨F1, q1⟩
  rw [F_name]
  rcases q1 with ⟨c1, c2, hv, e1, e2⟩ | ⟨c1, hv, e1, e2⟩ | ⟨c1, c2, hv, e1, e2⟩
  · rw [cif_f (fun z => z c1), cif_f (fun z => z c2)]
    exact ⟨hv, F1, e1, ⟨_, e2⟩⟩
  · rw [cif_t c1]
    exact ⟨hv, F1, e1, ⟨_, e2⟩⟩
  · rw [cif_f (fun z => z c1), cif_t c2]
    exact ⟨hv, F1, e1, ⟨_, e2⟩⟩
theorem N_move (G : gc g X t0 l) (h : MI pw D ow sl M mo pl Z) (I : zi pw n Z) (hn : n < 512) (hp6 : pw ≤ 600) {xv rv av : Int32} : Ok g X l yy_Mo_move cc_Mo_move 5 none 1 22 0 0 [.ref mo, .int xv, .int rv, .int av] M (fun v M' => v = none ∧ NP pw D ow sl M mo M' (F_move Z xv rv av)) := by
  refine (R_move G h I.1 hp6 (by have := I.2.2.2; omega) (fun P hP => by have := I.2.2.1 P hP; omega) (plc Z xv) rfl).mono ?_
  rintro v M' ⟨F1, q1⟩
  rw [F_move]
  rcases q1 with ⟨c1, hv, e1, e2⟩ | ⟨c1, hv, e1, e2⟩
  · rw [cif_t c1]
    exact ⟨hv, F1, e1, ⟨_, e2⟩⟩
  · rw [cif_f c1]
    exact ⟨hv, F1, e1, ⟨_, e2⟩⟩
theorem N_pair (G : gc g X t0 l) (h : MI pw D ow sl M mo pl Z) (I : zi pw n Z) (hn : n < 512) (hp6 : pw ≤ 600) {xv rv av bv : Int32} : Ok g X l yy_Mo_pair cc_Mo_pair 7 none 7 162 0 0 [.ref mo, .int xv, .int rv, .int av, .int bv] M (fun v M' => v = none ∧ NP pw D ow sl M mo M' (F_pair Z xv rv av bv)) := by
  refine (R_pair G h I.1 hp6 (by have := I.2.2.2; omega) (fun P hP => by have := I.2.2.1 P hP; omega) (plc Z xv) rfl).mono ?_
  rintro v M' ⟨F1, q1⟩
  rw [F_pair]
  rcases q1 with ⟨c1, c2, hv, e1, e2⟩ | ⟨c1, hv, e1, e2⟩ | ⟨c1, c2, hv, e1, e2⟩
  · rw [cif_f (fun z => z c1), cif_f (fun z => z c2)]
    exact ⟨hv, F1, e1, ⟨_, e2⟩⟩
  · rw [cif_t c1]
    exact ⟨hv, F1, e1, ⟨_, e2⟩⟩
  · rw [cif_f (fun z => z c1), cif_t c2]
    exact ⟨hv, F1, e1, ⟨_, e2⟩⟩
theorem N_tuple (G : gc g X t0 l) (h : MI pw D ow sl M mo pl Z) (I : zi pw n Z) (hn : n < 512) (hp6 : pw ≤ 600) {xv rv nv : Int32} : Ok g X l yy_Mo_tuple cc_Mo_tuple 7 none 7 162 0 0 [.ref mo, .int xv, .int rv, .int nv] M (fun v M' => v = none ∧ NP pw D ow sl M mo M' (F_tuple Z xv rv nv)) := by
  refine (R_tuple G h I.1 hp6 (by have := I.2.2.2; omega) (fun P hP => by have := I.2.2.1 P hP; omega) (plc Z xv) rfl).mono ?_
  rintro v M' ⟨F1, q1⟩
  rw [F_tuple]
  rcases q1 with ⟨c1, c2, c3, hv, e1, e2⟩ | ⟨c1, hv, e1, e2⟩ | ⟨c1, c2, hv, e1, e2⟩ | ⟨c1, c2, c3, hv, e1, e2⟩
  · rw [cif_f (fun z => z c1), cif_f (fun z => z c2), cif_f (fun z => z c3)]
    exact ⟨hv, F1, e1, ⟨_, e2⟩⟩
  · rw [cif_t c1]
    exact ⟨hv, F1, e1, ⟨_, e2⟩⟩
  · rw [cif_f (fun z => z c1), cif_t c2]
    exact ⟨hv, F1, e1, ⟨_, e2⟩⟩
  · rw [cif_f (fun z => z c1), cif_f (fun z => z c2), cif_t c3]
    exact ⟨hv, F1, e1, ⟨_, e2⟩⟩
theorem N_blob (G : gc g X t0 l) (h : MI pw D ow sl M mo pl Z) (I : zi pw n Z) (hn : n < 512) (hp6 : pw ≤ 600) {xv rv nv : Int32} : Ok g X l yy_Mo_blob cc_Mo_blob 7 none 7 162 0 0 [.ref mo, .int xv, .int rv, .int nv] M (fun v M' => v = none ∧ NP pw D ow sl M mo M' (F_blob Z xv rv nv)) := by
  refine (R_blob G h I.1 hp6 (by have := I.2.2.2; omega) (fun P hP => by have := I.2.2.1 P hP; omega) (plc Z xv) rfl).mono ?_
  rintro v M' ⟨F1, q1⟩
  rw [F_blob]
  rcases q1 with ⟨c1, c2, c3, c4, hv, e1, e2⟩ | ⟨c1, hv, e1, e2⟩ | ⟨c1, c2, hv, e1, e2⟩ | ⟨c1, c2, c3, hv, e1, e2⟩ | ⟨c1, c2, c3, c4, hv, e1, e2⟩
  · rw [cif_f (fun z => z c1), cif_f (fun z => z c2), cif_f (fun z => z c3), cif_f (fun z => z c4)]
    exact ⟨hv, F1, e1, ⟨_, e2⟩⟩
  · rw [cif_t c1]
    exact ⟨hv, F1, e1, ⟨_, e2⟩⟩
  · rw [cif_f (fun z => z c1), cif_t c2]
    exact ⟨hv, F1, e1, ⟨_, e2⟩⟩
  · rw [cif_f (fun z => z c1), cif_f (fun z => z c2), cif_t c3]
    exact ⟨hv, F1, e1, ⟨_, e2⟩⟩
  · rw [cif_f (fun z => z c1), cif_f (fun z => z c2), cif_f (fun z => z c3), cif_t c4]
    exact ⟨hv, F1, e1, ⟨_, e2⟩⟩
theorem N_part (G : gc g X t0 l) (h : MI pw D ow sl M mo pl Z) (I : zi pw n Z) (hn : n < 512) (hp6 : pw ≤ 600) {xv rv av kv : Int32} : Ok g X l yy_Mo_part cc_Mo_part 7 none 2 44 0 0 [.ref mo, .int xv, .int rv, .int av, .int kv] M (fun v M' => v = none ∧ NP pw D ow sl M mo M' (F_part Z xv rv av kv)) := by
  refine (R_part G h I.1 hp6 (by have := I.2.2.2; omega) (fun P hP => by have := I.2.2.1 P hP; omega) (plc Z xv) rfl).mono ?_
  rintro v M' ⟨F1, q1⟩
  rw [F_part]
  rcases q1 with ⟨c1, c2, hv, e1, e2⟩ | ⟨c1, hv, e1, e2⟩ | ⟨c1, c2, hv, e1, e2⟩
  · rw [cif_f (fun z => z c1), cif_f (fun z => z c2)]
    exact ⟨hv, F1, e1, ⟨_, e2⟩⟩
  · rw [cif_t c1]
    exact ⟨hv, F1, e1, ⟨_, e2⟩⟩
  · rw [cif_f (fun z => z c1), cif_t c2]
    exact ⟨hv, F1, e1, ⟨_, e2⟩⟩
theorem N_send (G : gc g X t0 l) (h : MI pw D ow sl M mo pl Z) (I : zi pw n Z) (hn : n < 512) (hp6 : pw ≤ 600) {xv rv tv : Int32} : Ok g X l yy_Mo_send cc_Mo_send 6 (some .boolean) 8 188 0 0 [.ref mo, .int xv, .int rv, .int tv] M (fun v M' => (∃ bv, v = some (.int bv) ∧ ((F_send Z xv rv tv).1 = 0 → bv = (F_send Z xv rv tv).2.1)) ∧ NP pw D ow sl M mo M' (F_send Z xv rv tv)) := by
  refine (R_send G h I.1 hp6 (by have := I.2.2.2; omega) (fun P hP => by have := I.2.2.1 P hP; omega) (plc Z xv) rfl (fun P hP => by have := I.2.2.1 P hP; omega) (plc Z tv) rfl (zsend Z (plc Z xv) (plc Z tv) (zrg Z (plc Z xv) rv)) (fun _ => rfl)).mono ?_
  rintro v M' ⟨F1, q1⟩
  rw [F_send]
  rcases q1 with ⟨c1, c2, c3, hv, e1, e2⟩ | ⟨c1, c2, hv, e1, e2⟩ | ⟨c1, hv, e1, e2⟩ | ⟨c1, c2, c3, hv, e1, e2⟩
  · rw [cif_f (fun z => z c1), cif_f (fun z => z c2), cif_f (fun z => z c3)]
    exact ⟨⟨_, hv, fun _ => rfl⟩, F1, e1, ⟨_, e2⟩⟩
  · rw [cif_f (fun z => z c1), cif_t c2]
    exact ⟨⟨_, hv, fun _ => rfl⟩, F1, e1, ⟨_, e2⟩⟩
  · rw [cif_t c1]
    obtain ⟨z9, hv⟩ := hv
    exact ⟨⟨z9, hv, fun w => absurd w (by first | exact n10 | exact n20)⟩, F1, e1, ⟨_, e2⟩⟩
  · rw [cif_f (fun z => z c1), cif_f (fun z => z c2), cif_t c3]
    obtain ⟨z9, hv⟩ := hv
    exact ⟨⟨z9, hv, fun w => absurd w (by first | exact n10 | exact n20)⟩, F1, e1, ⟨_, e2⟩⟩
theorem N_broadcast (G : gc g X t0 l) (h : MI pw D ow sl M mo pl Z) (I : zi pw n Z) (hn : n < 512) (hp6 : pw ≤ 600) {xv rv : Int32} : Ok g X l yy_Mo_broadcast cc_Mo_broadcast 8 (some .int) 8 188 0 0 [.ref mo, .int xv, .int rv] M (fun v M' => (∃ bv, v = some (.int bv) ∧ ((F_broadcast Z xv rv).1 = 0 → bv = (F_broadcast Z xv rv).2.1)) ∧ NP pw D ow sl M mo M' (F_broadcast Z xv rv)) := by
  refine (R_broadcast G h I.1 hp6 (by have := I.2.2.2; omega) (fun P hP => by have := I.2.2.1 P hP; omega) (plc Z xv) rfl (fun P hP => by have := I.2.2.1 P hP; omega) (zbc (plc Z xv) (zrg Z (plc Z xv) rv) Z.1.length 0 0 Z) (fun _ => rfl)).mono ?_
  rintro v M' ⟨F1, q1⟩
  rw [F_broadcast]
  rcases q1 with ⟨c1, hv, e1, e2⟩ | ⟨c1, hv, e1, e2⟩
  · rw [cif_t c1]
    exact ⟨⟨_, hv, fun _ => rfl⟩, F1, e1, ⟨_, e2⟩⟩
  · rw [cif_f c1]
    obtain ⟨z9, hv⟩ := hv
    exact ⟨⟨z9, hv, fun w => absurd w (by first | exact n10 | exact n20)⟩, F1, e1, ⟨_, e2⟩⟩
theorem N_receive (G : gc g X t0 l) (h : MI pw D ow sl M mo pl Z) (I : zi pw n Z) (hn : n < 512) (hp6 : pw ≤ 600) {xv rv : Int32} : Ok g X l yy_Mo_receive cc_Mo_receive 5 (some .int) 1 22 0 0 [.ref mo, .int xv, .int rv] M (fun v M' => (∃ bv, v = some (.int bv) ∧ ((F_receive Z xv rv).1 = 0 → bv = (F_receive Z xv rv).2.1)) ∧ NP pw D ow sl M mo M' (F_receive Z xv rv)) := by
  refine (R_receive G h I.1 hp6 (by have := I.2.2.2; omega) (fun P hP => by have := I.2.2.1 P hP; omega) (plc Z xv) rfl).mono ?_
  rintro v M' ⟨F1, q1⟩
  rw [F_receive]
  rcases q1 with ⟨c1, c2, hv, e1, e2⟩ | ⟨c1, hv, e1, e2⟩ | ⟨c1, c2, hv, e1, e2⟩
  · rw [cif_f (fun z => z c1), cif_f (fun z => by omega)]
    exact ⟨⟨_, hv, fun _ => rfl⟩, F1, e1, ⟨_, e2⟩⟩
  · rw [cif_t c1]
    obtain ⟨z9, hv⟩ := hv
    exact ⟨⟨z9, hv, fun w => absurd w (by first | exact n10 | exact n20)⟩, F1, e1, ⟨_, e2⟩⟩
  · rw [cif_f (fun z => z c1), cif_t c2]
    obtain ⟨z9, hv⟩ := hv
    exact ⟨⟨z9, hv, fun w => absurd w (by first | exact n10 | exact n20)⟩, F1, e1, ⟨_, e2⟩⟩
theorem N_collect (G : gc g X t0 l) (h : MI pw D ow sl M mo pl Z) (I : zi pw n Z) (hn : n < 512) (hp6 : pw ≤ 600) {xv : Int32} : Ok g X l yy_Mo_collect cc_Mo_collect 4 (some .int) 6 139 0 0 [.ref mo, .int xv] M (fun v M' => (∃ bv, v = some (.int bv) ∧ ((F_collect Z xv).1 = 0 → bv = (F_collect Z xv).2.1)) ∧ NP pw D ow sl M mo M' (F_collect Z xv)) := by
  refine (R_collect G h I.1 hp6 (by have := I.2.2.2; omega) (fun P hP => by have := I.2.2.1 P hP; omega) (plc Z xv) rfl).mono ?_
  rintro v M' ⟨F1, q1⟩
  rw [F_collect]
  rcases q1 with ⟨c1, hv, e1, e2⟩ | ⟨c1, hv, e1, e2⟩
  · rw [cif_t c1]
    exact ⟨⟨_, hv, fun _ => rfl⟩, F1, e1, ⟨_, e2⟩⟩
  · rw [cif_f c1]
    obtain ⟨z9, hv⟩ := hv
    exact ⟨⟨z9, hv, fun w => absurd w (by first | exact n10 | exact n20)⟩, F1, e1, ⟨_, e2⟩⟩
theorem N_trim (G : gc g X t0 l) (h : MI pw D ow sl M mo pl Z) (I : zi pw n Z) (hn : n < 512) (hp6 : pw ≤ 600) {xv : Int32} : Ok g X l yy_Mo_trim cc_Mo_trim 3 (some .int) 6 139 0 0 [.ref mo, .int xv] M (fun v M' => (∃ bv, v = some (.int bv) ∧ ((F_trim Z xv).1 = 0 → bv = (F_trim Z xv).2.1)) ∧ NP pw D ow sl M mo M' (F_trim Z xv)) := by
  refine (R_trim G h I.1 hp6 (by have := I.2.2.2; omega) (fun P hP => by have := I.2.2.1 P hP; omega) (plc Z xv) rfl).mono ?_
  rintro v M' ⟨F1, q1⟩
  rw [F_trim]
  rcases q1 with ⟨c1, hv, e1, e2⟩ | ⟨c1, hv, e1, e2⟩
  · rw [cif_t c1]
    exact ⟨⟨_, hv, fun _ => rfl⟩, F1, e1, ⟨_, e2⟩⟩
  · rw [cif_f c1]
    obtain ⟨z9, hv⟩ := hv
    exact ⟨⟨z9, hv, fun w => absurd w (by first | exact n10 | exact n20)⟩, F1, e1, ⟨_, e2⟩⟩
theorem N_count (G : gc g X t0 l) (h : MI pw D ow sl M mo pl Z) (I : zi pw n Z) (hn : n < 512) (hp6 : pw ≤ 600) {wq : Int32} : Ok g X l yy_Mo_count cc_Mo_count 2 (some .int) 1 22 0 0 [.ref mo, .int wq] M (fun v M' => (∃ bv, v = some (.int bv) ∧ ((F_count Z wq).1 = 0 → bv = (F_count Z wq).2.1)) ∧ NP pw D ow sl M mo M' (F_count Z wq)) := by
  refine (R_count G h I.1 (by have := I.2.2.2; omega)).mono ?_
  rintro v M' ⟨F1, q1⟩
  rw [F_count]
  rcases q1 with ⟨c1, hv, e1, e2⟩ | ⟨c1, hv, e1, e2⟩
  · rw [cif_t c1]
    exact ⟨⟨_, hv, fun _ => rfl⟩, F1, e1, ⟨_, e2⟩⟩
  · rw [cif_f c1]
    obtain ⟨z9, hv⟩ := hv
    exact ⟨⟨z9, hv, fun w => absurd w (by first | exact n10 | exact n20)⟩, F1, e1, ⟨_, e2⟩⟩
theorem N_of (G : gc g X t0 l) (h : MI pw D ow sl M mo pl Z) (I : zi pw n Z) (hn : n < 512) (hp6 : pw ≤ 600) {xv wq : Int32} : Ok g X l yy_Mo_of cc_Mo_of 4 (some .int) 1 22 0 0 [.ref mo, .int xv, .int wq] M (fun v M' => (∃ bv, v = some (.int bv) ∧ ((F_of Z xv wq).1 = 0 → bv = (F_of Z xv wq).2.1)) ∧ NP pw D ow sl M mo M' (F_of Z xv wq)) := by
  refine (R_of G h I.1 hp6 (by have := I.2.2.2; omega) (fun P hP => by have := I.2.2.1 P hP; omega) (plc Z xv) rfl).mono ?_
  rintro v M' ⟨F1, q1⟩
  rw [F_of]
  rcases q1 with ⟨c1, c2, hv, e1, e2⟩ | ⟨c1, hv, e1, e2⟩ | ⟨c1, c2, hv, e1, e2⟩
  · rw [cif_f (fun z => z c1), cif_f (fun z => z c2)]
    exact ⟨⟨_, hv, fun _ => rfl⟩, F1, e1, ⟨_, e2⟩⟩
  · rw [cif_t c1]
    obtain ⟨z9, hv⟩ := hv
    exact ⟨⟨z9, hv, fun w => absurd w (by first | exact n10 | exact n20)⟩, F1, e1, ⟨_, e2⟩⟩
  · rw [cif_f (fun z => z c1), cif_t c2]
    obtain ⟨z9, hv⟩ := hv
    exact ⟨⟨z9, hv, fun w => absurd w (by first | exact n10 | exact n20)⟩, F1, e1, ⟨_, e2⟩⟩
theorem N_kind (G : gc g X t0 l) (h : MI pw D ow sl M mo pl Z) (I : zi pw n Z) (hn : n < 512) (hp6 : pw ≤ 600) {xv rv : Int32} : Ok g X l yy_Mo_kind cc_Mo_kind 3 (some .int) 2 45 0 0 [.ref mo, .int xv, .int rv] M (fun v M' => (∃ bv, v = some (.int bv) ∧ ((F_kind Z xv rv).1 = 0 → bv = (F_kind Z xv rv).2.1)) ∧ NP pw D ow sl M mo M' (F_kind Z xv rv)) := by
  refine (R_kind G h I.1 hp6 (by have := I.2.2.2; omega) (fun P hP => by have := I.2.2.1 P hP; omega) (plc Z xv) rfl).mono ?_
  rintro v M' ⟨F1, q1⟩
  rw [F_kind]
  rcases q1 with ⟨c1, hv, e1, e2⟩ | ⟨c1, hv, e1, e2⟩
  · rw [cif_t c1]
    exact ⟨⟨_, hv, fun _ => rfl⟩, F1, e1, ⟨_, e2⟩⟩
  · rw [cif_f c1]
    obtain ⟨z9, hv⟩ := hv
    exact ⟨⟨z9, hv, fun w => absurd w (by first | exact n10 | exact n20)⟩, F1, e1, ⟨_, e2⟩⟩
theorem N_value (G : gc g X t0 l) (h : MI pw D ow sl M mo pl Z) (I : zi pw n Z) (hn : n < 512) (hp6 : pw ≤ 600) {xv rv : Int32} : Ok g X l yy_Mo_value cc_Mo_value 5 (some .int) 2 45 0 0 [.ref mo, .int xv, .int rv] M (fun v M' => (∃ bv, v = some (.int bv) ∧ ((F_value Z xv rv).1 = 0 → bv = (F_value Z xv rv).2.1)) ∧ NP pw D ow sl M mo M' (F_value Z xv rv)) := by
  refine (R_value G h I.1 hp6 (by have := I.2.2.2; omega) (fun P hP => by have := I.2.2.1 P hP; omega) (plc Z xv) rfl).mono ?_
  rintro v M' ⟨F1, q1⟩
  rw [F_value]
  rcases q1 with ⟨c1, hv, e1, e2⟩ | ⟨c1, hv, e1, e2⟩
  · rw [cif_t c1]
    exact ⟨⟨_, hv, fun _ => rfl⟩, F1, e1, ⟨_, e2⟩⟩
  · rw [cif_f c1]
    obtain ⟨z9, hv⟩ := hv
    exact ⟨⟨z9, hv, fun w => absurd w (by first | exact n10 | exact n20)⟩, F1, e1, ⟨_, e2⟩⟩
theorem N_address (G : gc g X t0 l) (h : MI pw D ow sl M mo pl Z) (I : zi pw n Z) (hn : n < 512) (hp6 : pw ≤ 600) {xv rv : Int32} : Ok g X l yy_Mo_address cc_Mo_address 4 (some .int) 2 45 0 0 [.ref mo, .int xv, .int rv] M (fun v M' => (∃ bv, v = some (.int bv) ∧ ((F_address Z xv rv).1 = 0 → bv = (F_address Z xv rv).2.1)) ∧ NP pw D ow sl M mo M' (F_address Z xv rv)) := by
  refine (R_address G h I.1 hp6 (by have := I.2.2.2; omega) (fun P hP => by have := I.2.2.1 P hP; omega) (plc Z xv) rfl).mono ?_
  rintro v M' ⟨F1, q1⟩
  rw [F_address]
  rcases q1 with ⟨c1, hv, e1, e2⟩ | ⟨c1, hv, e1, e2⟩
  · rw [cif_t c1]
    exact ⟨⟨_, hv, fun _ => rfl⟩, F1, e1, ⟨_, e2⟩⟩
  · rw [cif_f c1]
    obtain ⟨z9, hv⟩ := hv
    exact ⟨⟨z9, hv, fun w => absurd w (by first | exact n10 | exact n20)⟩, F1, e1, ⟨_, e2⟩⟩
theorem N_words (G : gc g X t0 l) (h : MI pw D ow sl M mo pl Z) (I : zi pw n Z) (hn : n < 512) (hp6 : pw ≤ 600) {xv rv : Int32} : Ok g X l yy_Mo_words cc_Mo_words 4 (some .int) 6 140 0 0 [.ref mo, .int xv, .int rv] M (fun v M' => (∃ bv, v = some (.int bv) ∧ ((F_words Z xv rv).1 = 0 → bv = (F_words Z xv rv).2.1)) ∧ NP pw D ow sl M mo M' (F_words Z xv rv)) := by
  refine (R_words G h I.1 hp6 (by have := I.2.2.2; omega) (fun P hP => by have := I.2.2.1 P hP; omega) (plc Z xv) rfl).mono ?_
  rintro v M' ⟨F1, q1⟩
  rw [F_words]
  rcases q1 with ⟨c1, hv, e1, e2⟩ | ⟨c1, hv, e1, e2⟩
  · rw [cif_t c1]
    exact ⟨⟨_, hv, fun _ => rfl⟩, F1, e1, ⟨_, e2⟩⟩
  · rw [cif_f c1]
    obtain ⟨z9, hv⟩ := hv
    exact ⟨⟨z9, hv, fun w => absurd w (by first | exact n10 | exact n20)⟩, F1, e1, ⟨_, e2⟩⟩
theorem N_handles (G : gc g X t0 l) (h : MI pw D ow sl M mo pl Z) (I : zi pw n Z) (hn : n < 512) (hp6 : pw ≤ 600) {xv rv : Int32} : Ok g X l yy_Mo_handles cc_Mo_handles 4 (some .int) 2 45 0 0 [.ref mo, .int xv, .int rv] M (fun v M' => (∃ bv, v = some (.int bv) ∧ ((F_handles Z xv rv).1 = 0 → bv = (F_handles Z xv rv).2.1)) ∧ NP pw D ow sl M mo M' (F_handles Z xv rv)) := by
  refine (R_handles G h I.1 hp6 (by have := I.2.2.2; omega) (fun P hP => by have := I.2.2.1 P hP; omega) (plc Z xv) rfl).mono ?_
  rintro v M' ⟨F1, q1⟩
  rw [F_handles]
  rcases q1 with ⟨c1, hv, e1, e2⟩ | ⟨c1, hv, e1, e2⟩
  · rw [cif_t c1]
    exact ⟨⟨_, hv, fun _ => rfl⟩, F1, e1, ⟨_, e2⟩⟩
  · rw [cif_f c1]
    obtain ⟨z9, hv⟩ := hv
    exact ⟨⟨z9, hv, fun w => absurd w (by first | exact n10 | exact n20)⟩, F1, e1, ⟨_, e2⟩⟩
theorem N_equal (G : gc g X t0 l) (h : MI pw D ow sl M mo pl Z) (I : zi pw n Z) (hn : n < 512) (hp6 : pw ≤ 600) {xv rv ov sv : Int32} : Ok g X l yy_Mo_equal cc_Mo_equal 12 (some .boolean) 3 67 0 0 [.ref mo, .int xv, .int rv, .int ov, .int sv] M (fun v M' => (∃ bv, v = some (.int bv) ∧ ((F_equal Z xv rv ov sv).1 = 0 → bv = (F_equal Z xv rv ov sv).2.1)) ∧ NP pw D ow sl M mo M' (F_equal Z xv rv ov sv)) := by
  refine (R_equal G h I.1 hp6 (by have := I.2.2.2; omega) (fun P hP => by have := I.2.2.1 P hP; omega) (plc Z xv) rfl (plc Z ov) rfl (cmpr (zget Z (plc Z xv)).2.2.2.2 (zget Z (plc Z ov)).2.2.2.2 2000 [(zrg Z (plc Z xv) rv, zrg Z (plc Z ov) sv)]) rfl).mono ?_
  rintro v M' ⟨F1, q1⟩
  rw [F_equal]
  rcases q1 with ⟨c1, c2, hv, e1, e2⟩ | ⟨c1, hv, e1, e2⟩ | ⟨c1, c2, c3, hv, e1, e2⟩
  · rw [cif_f (fun z => z c1), cif_f (fun z => z.2 (c2 z.1))]
    exact ⟨⟨_, hv, fun _ => rfl⟩, F1, e1, ⟨_, e2⟩⟩
  · rw [cif_t c1]
    obtain ⟨z9, hv⟩ := hv
    exact ⟨⟨z9, hv, fun w => absurd w (by first | exact n10 | exact n20)⟩, F1, e1, ⟨_, e2⟩⟩
  · rw [cif_f (fun z => z c1), cif_t ⟨c2, c3⟩]
    obtain ⟨z9, hv⟩ := hv
    exact ⟨⟨z9, hv, fun w => absurd w (by first | exact n10 | exact n20)⟩, F1, e1, ⟨_, e2⟩⟩
end M73
