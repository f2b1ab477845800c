/-! ===== words led to ===== -/
section M9
variable {g : gg} {X : State → Prop} {t0 : Nat} {l : Launch} {M : mm} {pw : Nat} {D : Nat → Prop} {ow sl : Nat → Nat} {B B0 T : List bk} {c hf ht hs o : Nat} {q : List Nat}
/-- what the carrier and the spare heap are made of -/
def scI (c hs : Nat) : Nat → Nat → Nat → Prop := fun c' k a => (c' = 0 ∧ k = 2 ∧ a = c) ∨ (c' = 2 ∧ k < 2 ∧ a = hs)
def scR (c : Nat) : Nat → Nat → Nat → Prop := fun c' k a => c' = 0 ∧ k < 2 ∧ a = c
def scA (M : mm) (c hs : Nat) : Nat → Prop := fun a => a = mm_f M 0 3 c ∨ a = mm_f M 2 2 hs ∨ a = mm_f M 2 3 hs
theorem scR_ok : frR (scR c) pw := by
  rintro c' k a ⟨rfl, hk, -⟩
  rcases k with _ | _ | k
  · exact ⟨rfl, rfl⟩
  · exact ⟨rfl, rfl⟩
  · omega
/-- the blocks that a term leads to -/
def led (B : List bk) (t : Int32) : List Nat := bfs B B.length 0 (vis B [] t)
def hval (B : List bk) : Prop := ∀ i, i < B.length → ∀ t ∈ bpt (hb B i), vt B t
theorem qok_nil : qok B [] := ⟨List.nodup_nil, fun i hi => by simp at hi⟩
theorem led_ok {t : Int32} : qok B (led B t) := bfs_ok (vis_ok qok_nil t)
set_option maxRecDepth 100000 in
set_option maxHeartbeats 4000000 in
theorem K_words (G : gc g X t0 l) (S : sh pw D ow sl M) (hp : pw ≠ 0) (hp6 : pw ≤ 600) (hDo : D o) (hTo : mm_t M o = 7) (hDf : D hf) (hTf : mm_t M hf = 3) (ec : mm_f M 6 4 o = c) (es : mm_f M 6 6 o = hs) (hne : hf ≠ hs) (Hf : HeapIs pw M hf B) {t : Int32} (ht0 : vt B t) (hv0 : hval B) : Ok g X l yy_CH_wordsLedTo cc_CH_wordsLedTo 3 (some .int) 4 95 0 0 [.ref o, .ref hf, .int t] M (fun v M' => v = some (.int (nI (hsz (qB B (led B t))))) ∧ fr (scI c hs) (scR c) (scA M c hs) M M' ∧ ∃ T, HeapIs pw M' hs T) := by
  refine ok_start (by decide) (Nat.le_of_ble_eq_true rfl) (by simp [Value.category]) ?_
  intro p e s m args below meth c9 x
  have hDc : D c := by rw [← ec]; exact S.od hDo hTo 4 (by decide)
  have hTc : mm_t M c = 1 := by rw [← ec]; exact S.ot hDo hTo 4 (by decide)
  have hDs : D hs := by rw [← es]; exact S.od hDo hTo 6 (by decide)
  have hTs : mm_t M hs = 3 := by rw [← es]; exact S.ot hDo hTo 6 (by decide)
  have hcs : c ≠ hs := fun e9 => by rw [e9, hTs] at hTc; exact absurd hTc (by decide)
  have rs := S.or hDo hTo 6 (by decide)
  refine vv_aload_n (pc := 0) x dd_CH_wordsLedTo_0 rfl ?_
  refine lg_CH_58 (pc := 1) G x dd_CH_wordsLedTo_1 (by assumption) rs ?_
  rw [es]
  refine lv_CH_238 (pc := 4) G x dd_CH_wordsLedTo_4 (K_clear G S hp hDs hTs) hTs ⟨by decide, by decide⟩ (by decide) (by decide) (Nat.le_of_ble_eq_true rfl) (fun v4 M4 q4 => ?_)
  obtain ⟨rfl, F1, Hs1⟩ := q4
  have S1 := F1.sh (fun c' k a z => z.elim) S
  have F1' : fr (scI c hs) (scR c) (scA M c hs) M M4 := F1.mono (fun c' k a z => Or.inr z) (fun c' k a z => z.elim) (fun a z => z.elim)
  have e1 := fun k => F1.f (c := 6) (k := k) (a := o) (fun z => z)
  have Hf1 : HeapIs pw M4 hf B := HeapIs.fr F1 Hf (fun z => hne z.2.2) (fun z => hne z.2.2) (fun z => z) (fun z => z) (fun z => z) (fun z => z)
  refine vv_aload_n (pc := 7) x dd_CH_wordsLedTo_7 rfl ?_
  refine lg_CH_44 (pc := 8) G x dd_CH_wordsLedTo_8 (by rw [F1.1]; exact hTo) (S1.or hDo (by rw [F1.1]; exact hTo) 4 (by decide)) ?_
  refine vv_aload_n (pc := 11) x dd_CH_wordsLedTo_11 rfl ?_
  refine vv_aload_n (pc := 12) x dd_CH_wordsLedTo_12 rfl ?_
  refine lg_CH_58 (pc := 13) G x dd_CH_wordsLedTo_13 (by rw [F1.1]; exact hTo) (S1.or hDo (by rw [F1.1]; exact hTo) 6 (by decide)) ?_
  rw [e1 4, ec, e1 6, es]
  refine lv_CH_100 (pc := 16) G x dd_CH_wordsLedTo_16 (K_start G S1 hp hp6 hDc (by rw [F1.1]; exact hTc) hne hDf (by rw [F1.1]; exact hTf) hDs (by rw [F1.1]; exact hTs) Hf1 Hs1) (by rw [F1.1]; exact hTc) ⟨by decide, by decide⟩ (by decide) (by decide) (Nat.le_of_ble_eq_true rfl) (fun v16 M16 q16 => ?_)
  obtain ⟨rfl, F2, K2, i2⟩ := q16
  have S2 := F2.sh scR_ok S1
  have t2 : mm_t M16 = mm_t M := F2.1.trans F1.1
  have g1 : mm_f M4 0 3 c = mm_f M 0 3 c := F1.f (fun z => z)
  have F2' : fr (scI c hs) (scR c) (scA M c hs) M M16 := F1'.trans (F2.mono (fun c' k a z => Or.inl z) (fun c' k a z => z) (fun a z => Or.inl (by rw [z, g1])))
  have e2 := fun k => F2'.f (c := 6) (k := k) (a := o) (fun z => absurd z.1 (by decide))
  refine vv_aload_n (pc := 19) x dd_CH_wordsLedTo_19 rfl ?_
  refine lg_CH_44 (pc := 20) G x dd_CH_wordsLedTo_20 (by rw [t2]; exact hTo) (S2.or hDo (by rw [t2]; exact hTo) 4 (by decide)) ?_
  refine vv_iload_n (pc := 23) x dd_CH_wordsLedTo_23 rfl ?_
  rw [e2 4, ec]
  refine lv_CH_241 (pc := 24) G x dd_CH_wordsLedTo_24 (K_carry G S2 hp hp6 K2 ht0 (by have := qB_le (B := B) (vis_ok qok_nil t); have := Hf.2.2.1; show 0 + _ ≤ pw; omega)) K2.1.1 ⟨by decide, by decide⟩ (by decide) (by decide) (Nat.le_of_ble_eq_true rfl) (fun v24 M24 q24 => ?_)
  obtain ⟨rfl, C3, K3⟩ := q24
  have S3 := C3.sh S2
  have t3 : mm_t M24 = mm_t M := C3.t.trans t2
  have g2 := fun k => F2'.f (c := 2) (k := k) (a := hs) (fun z => absurd z.1 (by decide))
  have g3 : mm_f M16 0 3 c = mm_f M 0 3 c := F2'.f (fun z => absurd z.2.1 (by decide))
  have F3' : fr (scI c hs) (scR c) (scA M c hs) M M24 := F2'.trans (C3.fr.mono (fun c' k a z => Or.inr z) (fun c' k a z => z.elim) (fun a z => by rw [g2 2, g2 3, g3] at z; exact z))
  have e3 := fun k => F3'.f (c := 6) (k := k) (a := o) (fun z => absurd z.1 (by decide))
  have i3 : mm_i M24 0 2 c = nI 0 := (C3.i (by decide)).trans i2
  refine vv_pop (pc := 27) x dd_CH_wordsLedTo_27 rfl ?_
  refine vv_aload_n (pc := 28) x dd_CH_wordsLedTo_28 rfl ?_
  refine lg_CH_44 (pc := 29) G x dd_CH_wordsLedTo_29 (by rw [t3]; exact hTo) (S3.or hDo (by rw [t3]; exact hTo) 4 (by decide)) ?_
  rw [e3 4, ec]
  refine lv_CH_250 (pc := 32) G x dd_CH_wordsLedTo_32 (K_parts (B0 := []) G S3 hp hp6 (by exact K3) (by exact i3) hv0 (led B t) rfl (by have := qB_le (B := B) (led_ok (B := B) (t := t)); have := Hf.2.2.1; show 0 + _ ≤ pw; omega)) K3.1.1 ⟨by decide, by decide⟩ (by decide) (by decide) (Nat.le_of_ble_eq_true rfl) (fun v32 M32 q32 => ?_)
  obtain ⟨rfl, C4, K4⟩ := q32
  have S4 := C4.sh S3
  have t4 : mm_t M32 = mm_t M := C4.t.trans t3
  have g4 := fun k => F3'.f (c := 2) (k := k) (a := hs) (fun z => absurd z.1 (by decide))
  have g5 : mm_f M24 0 3 c = mm_f M 0 3 c := F3'.f (fun z => absurd z.2.1 (by decide))
  have F4' : fr (scI c hs) (scR c) (scA M c hs) M M32 := F3'.trans (C4.fr.mono (fun c' k a z => Or.inr z) (fun c' k a z => z.elim) (fun a z => by rw [g4 2, g4 3, g5] at z; exact z))
  have e4 := fun k => F4'.f (c := 6) (k := k) (a := o) (fun z => absurd z.1 (by decide))
  refine vv_aload_n (pc := 35) x dd_CH_wordsLedTo_35 rfl ?_
  refine lg_CH_58 (pc := 36) G x dd_CH_wordsLedTo_36 (by rw [t4]; exact hTo) (S4.or hDo (by rw [t4]; exact hTo) 6 (by decide)) ?_
  rw [e4 6, es]
  refine lg_CH_180 (pc := 39) G x dd_CH_wordsLedTo_39 (by rw [t4]; exact hTs) ?_
  exact vv_iret (pc := 42) x dd_CH_wordsLedTo_42 rfl (by decide) (by decide) ⟨by rw [K4.2.2.2.1.1, TT_sz]; show some (Value.int (nI (0 + _))) = _; rw [Nat.zero_add], F4', _, K4.2.2.2.1⟩
end M9
