/-! ===== one call of the law ===== -/
section M75
variable {g : gg} {X : State → Prop} {t0 : Nat} {l : Launch} {M : mm} {pw n : Nat} {o mo out : Nat} {b L : Nat} {xs : Nat → Int32} {nm : String} {ret : Option FieldType} {p : Program} {e : Env} {R : Room} {s : State} {m : MethodId} {args : Array Value} {below : List Frame} {meth : Method} {c9 : Code} {Q : State → Prop} {cells slots i : Nat} {Z : zst}
theorem FB_send {xv rv tv : Int32} (h : (F_send Z xv rv tv).1 = 0) : (F_send Z xv rv tv).2.1 = 0 ∨ (F_send Z xv rv tv).2.1 = 1 := by
  unfold F_send
  by_cases c0 : ¬ ((plc Z xv) < Z.1.length ∧ rok rv)
  · rw [cif_t c0]; exact Or.inl rfl
  rw [cif_f c0]
  by_cases c1 : ¬ plc Z tv < Z.1.length
  · rw [cif_t c1]; exact Or.inl rfl
  rw [cif_f c1]
  by_cases c2 : ¬ (zsend Z (plc Z xv) (plc Z tv) (zrg Z (plc Z xv) rv)).1 = true
  · rw [cif_t c2]; exact Or.inl rfl
  rw [cif_f c2]; exact Or.inr rfl
theorem FB_equal {xv rv ov sv : Int32} (h : (F_equal Z xv rv ov sv).1 = 0) : (F_equal Z xv rv ov sv).2.1 = 0 ∨ (F_equal Z xv rv ov sv).2.1 = 1 := by
  unfold F_equal
  by_cases c0 : ¬ (((plc Z xv) < Z.1.length ∧ rok rv) ∧ plc Z ov < Z.1.length ∧ rok sv)
  · rw [cif_t c0]; exact Or.inl rfl
  rw [cif_f c0]
  by_cases c1 : (cmpr (zget Z (plc Z xv)).2.2.2.2 (zget Z (plc Z ov)).2.2.2.2 2000 [(zrg Z (plc Z xv) rv, zrg Z (plc Z ov) sv)]).1 = true ∧ ¬ (cmpr (zget Z (plc Z xv)).2.2.2.2 (zget Z (plc Z ov)).2.2.2.2 2000 [(zrg Z (plc Z xv) rv, zrg Z (plc Z ov) sv)]).2 = []
  · rw [cif_t c1]; exact Or.inl rfl
  rw [cif_f c1]
  by_cases c2 : (cmpr (zget Z (plc Z xv)).2.2.2.2 (zget Z (plc Z ov)).2.2.2.2 2000 [(zrg Z (plc Z xv) rv, zrg Z (plc Z ov) sv)]).1 = true
  · exact Or.inr (if_pos c2)
  · exact Or.inl (if_neg c2)
set_option maxRecDepth 100000 in
set_option maxHeartbeats 1000000 in
theorem arm_spawn (G : gc g X t0 l) (x : cx g X "CopyHeapsLaw" nm cc_La_law 7 ret 12 436 601024 7293000 p R s m meth c9) (A : LI pw t0 n M o mo out) (hn : n < 512) (hX : sX g b L xs s) (hi : i + 4 < L) (hL : L ≤ 2561) (hc : cells + 10 ≤ 601024) (hs : slots + 1760 ≤ 7293000) {u5 u6 : Option Value} (kk : ∀ (M' : mm) (w5 w6 : Option Value), LI pw t0 (n + 1) M' o mo out → vv g 7 p l e R s m args below meth c9 Q (cells + 10) (slots + 1760) 1646 [some (.ref b), some (.ref o), some (.ref mo), some (.ref out), some (.int (nI i)), w5, w6] [] M') : vv g 7 p l e R s m args below meth c9 Q cells slots 156 [some (.ref b), some (.ref o), some (.ref mo), some (.ref out), some (.int (nI i)), u5, u6] [] M := by
  obtain ⟨D, ow, sl, La, Le, pl, Z, C, B, I, hs0, hDl, hto, hno⟩ := A
  have hp6 := C.2.1.2.2.2
  refine vv_aload_n (pc := 156) x dd_La_law_156 rfl ?_
  refine vv_aload_n (pc := 157) x dd_La_law_157 rfl ?_
  refine ly_La_spawn (pc := 158) G x dd_La_law_158 (W_spawn G C I hn hDl hs0 hto hno) ⟨by decide, by decide⟩ (by omega) (by omega) (Nat.le_of_ble_eq_true rfl) (fun v1 M1 q1 => ?_)
  obtain ⟨rfl, ⟨K1, D1, ow1, sl1, La1, Le1, s1, s2, s3, C1⟩, hv⟩ := q1
  have B1 := MI_kq B K1 C1.1 s1
  have hT1 : mm_t M1 mo = 8 := B1.1.2.2
  have to1 : mm_t M1 out = 101 := (K1.1 out (by rw [hto]; decide)).1.trans hto
  have no1 : mm_n M1 out = 1 := (K1.1 out (by rw [hto]; decide)).2.trans hno
  have IZ := FZ_spawn I hp6 
  refine vv_istore (pc := 161) x dd_La_law_161 (by decide) (ls2 := [_, _, _, _, _, _, _]) rfl ?_
  refine vv_aload_n (pc := 163) x dd_La_law_163 rfl ?_
  refine lv_La_109 (pc := 164) G x dd_La_law_164 (N_spawn G B1 I hn hp6) hT1 ⟨by decide, by decide⟩ (by omega) (by omega) (Nat.le_of_ble_eq_true rfl) (fun v164 M164 q164 => ?_)
  obtain ⟨⟨bv, rfl, hb⟩, R2, t2, pl2, B2⟩ := q164
  have C2 := CI_rx C1 B1.1.2.1 B1.1.2.2 R2
  have hT2 : mm_t M164 mo = 8 := B2.1.2.2
  have to2 : mm_t M164 out = 101 := by rw [R2.1]; exact to1
  have no2 : mm_n M164 out = 1 := by rw [R2.2.1]; exact no1
  have LF : LI pw t0 (n + 1) M164 o mo out := ⟨D1, ow1, sl1, La1, Le1, pl2, _, C2, B2, IZ, s3, fun a ha => by rw [R2.1]; exact s2 a ha, to2, no2⟩
  refine vv_istore (pc := 167) x dd_La_law_167 (by decide) (ls2 := [_, _, _, _, _, _, _]) rfl ?_
  refine vv_aload_n (pc := 169) x dd_La_law_169 rfl ?_
  refine lv_La_110 (pc := 170) G x dd_La_law_170 (k_rthrown G hT2) hT2 ⟨by decide, by decide⟩ (by omega) (by omega) (Nat.le_of_ble_eq_true rfl) (fun v170 M170 q170 => ?_)
  obtain ⟨rfl, hm170⟩ := q170
  have hm170 := hm170.symm
  subst hm170
  rw [t2]
  refine vv_iload (pc := 173) x dd_La_law_173 rfl ?_
  refine vv_icmp_eq (pc := 175) x dd_La_law_175 (tgt := 180) (by decide) (fun h175 => ?_) (fun h175 => absurd h175 (fun z => z rfl))
  refine vv_iload (pc := 180) x dd_La_law_180 rfl ?_
  refine vv_if_ne (pc := 182) x dd_La_law_182 (tgt := 197) (by decide) (fun h182 => ?_) (fun h182 => ?_)
  · refine vv_goto (pc := 197) x dd_La_law_197 (tgt := 1646) (by decide) ?_
    exact vv_wide (by omega) (by omega) (kk _ _ _ LF)
  · refine vv_aload_n (pc := 185) x dd_La_law_185 rfl ?_
    refine vv_iconst (pc := 186) x dd_La_law_186 (0) (by decide) ?_
    refine vv_lald (pc := 187) x dd_La_law_187 to2 (in_n (i := 0) (N := 1) (by decide) no2 (by decide)) ?_
    refine vv_iload (pc := 188) x dd_La_law_188 rfl ?_
    refine vv_i2l (pc := 190) x dd_La_law_190 ?_
    rw [show mm_l M164 out (0 : Int32).toNatClampNeg = bv.toInt64 from by rw [R2.2.2.1, hb h182]; exact hv h182]
    refine vv_lcmp (pc := 191) x dd_La_law_191 ?_
    rw [lcmp_self]
    refine vv_if_eq (pc := 192) x dd_La_law_192 (tgt := 197) (by decide) (fun h192 => ?_) (fun h192 => absurd h192 (fun z => z rfl))
    refine vv_goto (pc := 197) x dd_La_law_197 (tgt := 1646) (by decide) ?_
    exact vv_wide (by omega) (by omega) (kk _ _ _ LF)
set_option maxRecDepth 100000 in
set_option maxHeartbeats 1000000 in
theorem arm_exit (G : gc g X t0 l) (x : cx g X "CopyHeapsLaw" nm cc_La_law 7 ret 12 436 601024 7293000 p R s m meth c9) (A : LI pw t0 n M o mo out) (hn : n < 512) (hX : sX g b L xs s) (hi : i + 4 < L) (hL : L ≤ 2561) (hc : cells + 10 ≤ 601024) (hs : slots + 1760 ≤ 7293000) {u5 u6 : Option Value} (kk : ∀ (M' : mm) (w5 w6 : Option Value), LI pw t0 (n + 1) M' o mo out → vv g 7 p l e R s m args below meth c9 Q (cells + 10) (slots + 1760) 1646 [some (.ref b), some (.ref o), some (.ref mo), some (.ref out), some (.int (nI i)), w5, w6] [] M') : vv g 7 p l e R s m args below meth c9 Q cells slots 200 [some (.ref b), some (.ref o), some (.ref mo), some (.ref out), some (.int (nI i)), u5, u6] [] M := by
  obtain ⟨D, ow, sl, La, Le, pl, Z, C, B, I, hs0, hDl, hto, hno⟩ := A
  have hp6 := C.2.1.2.2.2
  have hin1 : vp_in (nI i + 1) L := by rw [show nI i + 1 = nI (i + 1) from nI_add i 1]; exact vp_in_nI (by omega) (by omega)
  refine vv_aload_n (pc := 200) x dd_La_law_200 rfl ?_
  refine vv_aload_n (pc := 201) x dd_La_law_201 rfl ?_
  refine vv_iload (pc := 202) x dd_La_law_202 rfl ?_
  refine vv_iconst (pc := 204) x dd_La_law_204 (1) (by decide) ?_
  refine vv_iadd (pc := 205) x dd_La_law_205 ?_
  refine vv_sld (pc := 206) x dd_La_law_206 hX hin1 ?_
  refine vv_aload_n (pc := 207) x dd_La_law_207 rfl ?_
  refine ly_La_exit (pc := 208) G x dd_La_law_208 (W_exit G C I hn hDl hs0 hto hno) ⟨by decide, by decide⟩ (by omega) (by omega) (Nat.le_of_ble_eq_true rfl) (fun v1 M1 q1 => ?_)
  obtain ⟨rfl, ⟨K1, D1, ow1, sl1, La1, Le1, s1, s2, s3, C1⟩, hv⟩ := q1
  have B1 := MI_kq B K1 C1.1 s1
  have hT1 : mm_t M1 mo = 8 := B1.1.2.2
  have to1 : mm_t M1 out = 101 := (K1.1 out (by rw [hto]; decide)).1.trans hto
  have no1 : mm_n M1 out = 1 := (K1.1 out (by rw [hto]; decide)).2.trans hno
  have IZ := FZ_exit I hp6 (xv := (xs (nI i + 1).toNatClampNeg))
  refine vv_istore (pc := 211) x dd_La_law_211 (by decide) (ls2 := [_, _, _, _, _, _, _]) rfl ?_
  refine vv_aload_n (pc := 213) x dd_La_law_213 rfl ?_
  refine vv_aload_n (pc := 214) x dd_La_law_214 rfl ?_
  refine vv_iload (pc := 215) x dd_La_law_215 rfl ?_
  refine vv_iconst (pc := 217) x dd_La_law_217 (1) (by decide) ?_
  refine vv_iadd (pc := 218) x dd_La_law_218 ?_
  refine vv_sld (pc := 219) x dd_La_law_219 hX hin1 ?_
  refine lv_La_116 (pc := 220) G x dd_La_law_220 (N_exit G B1 I hn hp6) hT1 ⟨by decide, by decide⟩ (by omega) (by omega) (Nat.le_of_ble_eq_true rfl) (fun v220 M220 q220 => ?_)
  obtain ⟨⟨bv, rfl, hb⟩, R2, t2, pl2, B2⟩ := q220
  have C2 := CI_rx C1 B1.1.2.1 B1.1.2.2 R2
  have hT2 : mm_t M220 mo = 8 := B2.1.2.2
  have to2 : mm_t M220 out = 101 := by rw [R2.1]; exact to1
  have no2 : mm_n M220 out = 1 := by rw [R2.2.1]; exact no1
  have LF : LI pw t0 (n + 1) M220 o mo out := ⟨D1, ow1, sl1, La1, Le1, pl2, _, C2, B2, IZ, s3, fun a ha => by rw [R2.1]; exact s2 a ha, to2, no2⟩
  refine vv_istore (pc := 223) x dd_La_law_223 (by decide) (ls2 := [_, _, _, _, _, _, _]) rfl ?_
  refine vv_aload_n (pc := 225) x dd_La_law_225 rfl ?_
  refine lv_La_110 (pc := 226) G x dd_La_law_226 (k_rthrown G hT2) hT2 ⟨by decide, by decide⟩ (by omega) (by omega) (Nat.le_of_ble_eq_true rfl) (fun v226 M226 q226 => ?_)
  obtain ⟨rfl, hm226⟩ := q226
  have hm226 := hm226.symm
  subst hm226
  rw [t2]
  refine vv_iload (pc := 229) x dd_La_law_229 rfl ?_
  refine vv_icmp_eq (pc := 231) x dd_La_law_231 (tgt := 236) (by decide) (fun h231 => ?_) (fun h231 => absurd h231 (fun z => z rfl))
  refine vv_iload (pc := 236) x dd_La_law_236 rfl ?_
  refine vv_if_ne (pc := 238) x dd_La_law_238 (tgt := 253) (by decide) (fun h238 => ?_) (fun h238 => ?_)
  · refine vv_goto (pc := 253) x dd_La_law_253 (tgt := 1646) (by decide) ?_
    exact vv_wide (by omega) (by omega) (kk _ _ _ LF)
  · refine vv_aload_n (pc := 241) x dd_La_law_241 rfl ?_
    refine vv_iconst (pc := 242) x dd_La_law_242 (0) (by decide) ?_
    refine vv_lald (pc := 243) x dd_La_law_243 to2 (in_n (i := 0) (N := 1) (by decide) no2 (by decide)) ?_
    refine vv_iload (pc := 244) x dd_La_law_244 rfl ?_
    refine vv_i2l (pc := 246) x dd_La_law_246 ?_
    rw [show mm_l M220 out (0 : Int32).toNatClampNeg = bv.toInt64 from by rw [R2.2.2.1, hb h238]; exact hv h238]
    refine vv_lcmp (pc := 247) x dd_La_law_247 ?_
    rw [lcmp_self]
    refine vv_if_eq (pc := 248) x dd_La_law_248 (tgt := 253) (by decide) (fun h248 => ?_) (fun h248 => absurd h248 (fun z => z rfl))
    refine vv_goto (pc := 253) x dd_La_law_253 (tgt := 1646) (by decide) ?_
    exact vv_wide (by omega) (by omega) (kk _ _ _ LF)
set_option maxRecDepth 100000 in
set_option maxHeartbeats 1000000 in
theorem arm_nil (G : gc g X t0 l) (x : cx g X "CopyHeapsLaw" nm cc_La_law 7 ret 12 436 601024 7293000 p R s m meth c9) (A : LI pw t0 n M o mo out) (hn : n < 512) (hX : sX g b L xs s) (hi : i + 4 < L) (hL : L ≤ 2561) (hc : cells + 10 ≤ 601024) (hs : slots + 1760 ≤ 7293000) {u5 u6 : Option Value} (kk : ∀ (M' : mm) (w5 w6 : Option Value), LI pw t0 (n + 1) M' o mo out → vv g 7 p l e R s m args below meth c9 Q (cells + 10) (slots + 1760) 1646 [some (.ref b), some (.ref o), some (.ref mo), some (.ref out), some (.int (nI i)), w5, w6] [] M') : vv g 7 p l e R s m args below meth c9 Q cells slots 256 [some (.ref b), some (.ref o), some (.ref mo), some (.ref out), some (.int (nI i)), u5, u6] [] M := by
  obtain ⟨D, ow, sl, La, Le, pl, Z, C, B, I, hs0, hDl, hto, hno⟩ := A
  have hp6 := C.2.1.2.2.2
  have hin1 : vp_in (nI i + 1) L := by rw [show nI i + 1 = nI (i + 1) from nI_add i 1]; exact vp_in_nI (by omega) (by omega)
  have hin2 : vp_in (nI i + 2) L := by rw [show nI i + 2 = nI (i + 2) from nI_add i 2]; exact vp_in_nI (by omega) (by omega)
  refine vv_aload_n (pc := 256) x dd_La_law_256 rfl ?_
  refine vv_aload_n (pc := 257) x dd_La_law_257 rfl ?_
  refine vv_iload (pc := 258) x dd_La_law_258 rfl ?_
  refine vv_iconst (pc := 260) x dd_La_law_260 (1) (by decide) ?_
  refine vv_iadd (pc := 261) x dd_La_law_261 ?_
  refine vv_sld (pc := 262) x dd_La_law_262 hX hin1 ?_
  refine vv_aload_n (pc := 263) x dd_La_law_263 rfl ?_
  refine vv_iload (pc := 264) x dd_La_law_264 rfl ?_
  refine vv_iconst (pc := 266) x dd_La_law_266 (2) (by decide) ?_
  refine vv_iadd (pc := 267) x dd_La_law_267 ?_
  refine vv_sld (pc := 268) x dd_La_law_268 hX hin2 ?_
  refine ly_La_nil (pc := 269) G x dd_La_law_269 (W_nil G C I hn hDl hs0) ⟨by decide, by decide⟩ (by omega) (by omega) (Nat.le_of_ble_eq_true rfl) (fun v1 M1 q1 => ?_)
  obtain ⟨rfl, ⟨K1, D1, ow1, sl1, La1, Le1, s1, s2, s3, C1⟩⟩ := q1
  have B1 := MI_kq B K1 C1.1 s1
  have hT1 : mm_t M1 mo = 8 := B1.1.2.2
  have to1 : mm_t M1 out = 101 := (K1.1 out (by rw [hto]; decide)).1.trans hto
  have no1 : mm_n M1 out = 1 := (K1.1 out (by rw [hto]; decide)).2.trans hno
  have IZ := FZ_nil I hp6 (xv := (xs (nI i + 1).toNatClampNeg)) (rv := (xs (nI i + 2).toNatClampNeg))
  refine vv_istore (pc := 272) x dd_La_law_272 (by decide) (ls2 := [_, _, _, _, _, _, _]) rfl ?_
  refine vv_aload_n (pc := 274) x dd_La_law_274 rfl ?_
  refine vv_aload_n (pc := 275) x dd_La_law_275 rfl ?_
  refine vv_iload (pc := 276) x dd_La_law_276 rfl ?_
  refine vv_iconst (pc := 278) x dd_La_law_278 (1) (by decide) ?_
  refine vv_iadd (pc := 279) x dd_La_law_279 ?_
  refine vv_sld (pc := 280) x dd_La_law_280 hX hin1 ?_
  refine vv_aload_n (pc := 281) x dd_La_law_281 rfl ?_
  refine vv_iload (pc := 282) x dd_La_law_282 rfl ?_
  refine vv_iconst (pc := 284) x dd_La_law_284 (2) (by decide) ?_
  refine vv_iadd (pc := 285) x dd_La_law_285 ?_
  refine vv_sld (pc := 286) x dd_La_law_286 hX hin2 ?_
  refine lv_La_120 (pc := 287) G x dd_La_law_287 (N_nil G B1 I hn hp6) hT1 ⟨by decide, by decide⟩ (by omega) (by omega) (Nat.le_of_ble_eq_true rfl) (fun v287 M287 q287 => ?_)
  obtain ⟨rfl, R2, t2, pl2, B2⟩ := q287
  have C2 := CI_rx C1 B1.1.2.1 B1.1.2.2 R2
  have hT2 : mm_t M287 mo = 8 := B2.1.2.2
  have to2 : mm_t M287 out = 101 := by rw [R2.1]; exact to1
  have no2 : mm_n M287 out = 1 := by rw [R2.2.1]; exact no1
  have LF : LI pw t0 (n + 1) M287 o mo out := ⟨D1, ow1, sl1, La1, Le1, pl2, _, C2, B2, IZ, s3, fun a ha => by rw [R2.1]; exact s2 a ha, to2, no2⟩
  refine vv_aload_n (pc := 290) x dd_La_law_290 rfl ?_
  refine lv_La_110 (pc := 291) G x dd_La_law_291 (k_rthrown G hT2) hT2 ⟨by decide, by decide⟩ (by omega) (by omega) (Nat.le_of_ble_eq_true rfl) (fun v291 M291 q291 => ?_)
  obtain ⟨rfl, hm291⟩ := q291
  have hm291 := hm291.symm
  subst hm291
  rw [t2]
  refine vv_iload (pc := 294) x dd_La_law_294 rfl ?_
  refine vv_icmp_eq (pc := 296) x dd_La_law_296 (tgt := 301) (by decide) (fun h296 => ?_) (fun h296 => absurd h296 (fun z => z rfl))
  refine vv_goto (pc := 301) x dd_La_law_301 (tgt := 1646) (by decide) ?_
  exact vv_wide (by omega) (by omega) (kk _ _ _ LF)
set_option maxRecDepth 100000 in
set_option maxHeartbeats 1000000 in
theorem arm_integer (G : gc g X t0 l) (x : cx g X "CopyHeapsLaw" nm cc_La_law 7 ret 12 436 601024 7293000 p R s m meth c9) (A : LI pw t0 n M o mo out) (hn : n < 512) (hX : sX g b L xs s) (hi : i + 4 < L) (hL : L ≤ 2561) (hc : cells + 10 ≤ 601024) (hs : slots + 1760 ≤ 7293000) {u5 u6 : Option Value} (kk : ∀ (M' : mm) (w5 w6 : Option Value), LI pw t0 (n + 1) M' o mo out → vv g 7 p l e R s m args below meth c9 Q (cells + 10) (slots + 1760) 1646 [some (.ref b), some (.ref o), some (.ref mo), some (.ref out), some (.int (nI i)), w5, w6] [] M') : vv g 7 p l e R s m args below meth c9 Q cells slots 304 [some (.ref b), some (.ref o), some (.ref mo), some (.ref out), some (.int (nI i)), u5, u6] [] M := by
  obtain ⟨D, ow, sl, La, Le, pl, Z, C, B, I, hs0, hDl, hto, hno⟩ := A
  have hp6 := C.2.1.2.2.2
  have hin1 : vp_in (nI i + 1) L := by rw [show nI i + 1 = nI (i + 1) from nI_add i 1]; exact vp_in_nI (by omega) (by omega)
  have hin2 : vp_in (nI i + 2) L := by rw [show nI i + 2 = nI (i + 2) from nI_add i 2]; exact vp_in_nI (by omega) (by omega)
  have hin3 : vp_in (nI i + 3) L := by rw [show nI i + 3 = nI (i + 3) from nI_add i 3]; exact vp_in_nI (by omega) (by omega)
  refine vv_aload_n (pc := 304) x dd_La_law_304 rfl ?_
  refine vv_aload_n (pc := 305) x dd_La_law_305 rfl ?_
  refine vv_iload (pc := 306) x dd_La_law_306 rfl ?_
  refine vv_iconst (pc := 308) x dd_La_law_308 (1) (by decide) ?_
  refine vv_iadd (pc := 309) x dd_La_law_309 ?_
  refine vv_sld (pc := 310) x dd_La_law_310 hX hin1 ?_
  refine vv_aload_n (pc := 311) x dd_La_law_311 rfl ?_
  refine vv_iload (pc := 312) x dd_La_law_312 rfl ?_
  refine vv_iconst (pc := 314) x dd_La_law_314 (2) (by decide) ?_
  refine vv_iadd (pc := 315) x dd_La_law_315 ?_
  refine vv_sld (pc := 316) x dd_La_law_316 hX hin2 ?_
  refine vv_aload_n (pc := 317) x dd_La_law_317 rfl ?_
  refine vv_iload (pc := 318) x dd_La_law_318 rfl ?_
  refine vv_iconst (pc := 320) x dd_La_law_320 (3) (by decide) ?_
  refine vv_iadd (pc := 321) x dd_La_law_321 ?_
  refine vv_sld (pc := 322) x dd_La_law_322 hX hin3 ?_
  refine ly_La_integer (pc := 323) G x dd_La_law_323 (W_integer G C I hn hDl hs0) ⟨by decide, by decide⟩ (by omega) (by omega) (Nat.le_of_ble_eq_true rfl) (fun v1 M1 q1 => ?_)
  obtain ⟨rfl, ⟨K1, D1, ow1, sl1, La1, Le1, s1, s2, s3, C1⟩⟩ := q1
  have B1 := MI_kq B K1 C1.1 s1
  have hT1 : mm_t M1 mo = 8 := B1.1.2.2
  have to1 : mm_t M1 out = 101 := (K1.1 out (by rw [hto]; decide)).1.trans hto
  have no1 : mm_n M1 out = 1 := (K1.1 out (by rw [hto]; decide)).2.trans hno
  have IZ := FZ_integer I hp6 (xv := (xs (nI i + 1).toNatClampNeg)) (rv := (xs (nI i + 2).toNatClampNeg)) (nv := (xs (nI i + 3).toNatClampNeg))
  refine vv_istore (pc := 326) x dd_La_law_326 (by decide) (ls2 := [_, _, _, _, _, _, _]) rfl ?_
  refine vv_aload_n (pc := 328) x dd_La_law_328 rfl ?_
  refine vv_aload_n (pc := 329) x dd_La_law_329 rfl ?_
  refine vv_iload (pc := 330) x dd_La_law_330 rfl ?_
  refine vv_iconst (pc := 332) x dd_La_law_332 (1) (by decide) ?_
  refine vv_iadd (pc := 333) x dd_La_law_333 ?_
  refine vv_sld (pc := 334) x dd_La_law_334 hX hin1 ?_
  refine vv_aload_n (pc := 335) x dd_La_law_335 rfl ?_
  refine vv_iload (pc := 336) x dd_La_law_336 rfl ?_
  refine vv_iconst (pc := 338) x dd_La_law_338 (2) (by decide) ?_
  refine vv_iadd (pc := 339) x dd_La_law_339 ?_
  refine vv_sld (pc := 340) x dd_La_law_340 hX hin2 ?_
  refine vv_aload_n (pc := 341) x dd_La_law_341 rfl ?_
  refine vv_iload (pc := 342) x dd_La_law_342 rfl ?_
  refine vv_iconst (pc := 344) x dd_La_law_344 (3) (by decide) ?_
  refine vv_iadd (pc := 345) x dd_La_law_345 ?_
  refine vv_sld (pc := 346) x dd_La_law_346 hX hin3 ?_
  refine lv_La_124 (pc := 347) G x dd_La_law_347 (N_integer G B1 I hn hp6) hT1 ⟨by decide, by decide⟩ (by omega) (by omega) (Nat.le_of_ble_eq_true rfl) (fun v347 M347 q347 => ?_)
  obtain ⟨rfl, R2, t2, pl2, B2⟩ := q347
  have C2 := CI_rx C1 B1.1.2.1 B1.1.2.2 R2
  have hT2 : mm_t M347 mo = 8 := B2.1.2.2
  have to2 : mm_t M347 out = 101 := by rw [R2.1]; exact to1
  have no2 : mm_n M347 out = 1 := by rw [R2.2.1]; exact no1
  have LF : LI pw t0 (n + 1) M347 o mo out := ⟨D1, ow1, sl1, La1, Le1, pl2, _, C2, B2, IZ, s3, fun a ha => by rw [R2.1]; exact s2 a ha, to2, no2⟩
  refine vv_aload_n (pc := 350) x dd_La_law_350 rfl ?_
  refine lv_La_110 (pc := 351) G x dd_La_law_351 (k_rthrown G hT2) hT2 ⟨by decide, by decide⟩ (by omega) (by omega) (Nat.le_of_ble_eq_true rfl) (fun v351 M351 q351 => ?_)
  obtain ⟨rfl, hm351⟩ := q351
  have hm351 := hm351.symm
  subst hm351
  rw [t2]
  refine vv_iload (pc := 354) x dd_La_law_354 rfl ?_
  refine vv_icmp_eq (pc := 356) x dd_La_law_356 (tgt := 361) (by decide) (fun h356 => ?_) (fun h356 => absurd h356 (fun z => z rfl))
  refine vv_goto (pc := 361) x dd_La_law_361 (tgt := 1646) (by decide) ?_
  exact vv_wide (by omega) (by omega) (kk _ _ _ LF)
set_option maxRecDepth 100000 in
set_option maxHeartbeats 1000000 in
theorem arm_name (G : gc g X t0 l) (x : cx g X "CopyHeapsLaw" nm cc_La_law 7 ret 12 436 601024 7293000 p R s m meth c9) (A : LI pw t0 n M o mo out) (hn : n < 512) (hX : sX g b L xs s) (hi : i + 4 < L) (hL : L ≤ 2561) (hc : cells + 10 ≤ 601024) (hs : slots + 1760 ≤ 7293000) {u5 u6 : Option Value} (kk : ∀ (M' : mm) (w5 w6 : Option Value), LI pw t0 (n + 1) M' o mo out → vv g 7 p l e R s m args below meth c9 Q (cells + 10) (slots + 1760) 1646 [some (.ref b), some (.ref o), some (.ref mo), some (.ref out), some (.int (nI i)), w5, w6] [] M') : vv g 7 p l e R s m args below meth c9 Q cells slots 364 [some (.ref b), some (.ref o), some (.ref mo), some (.ref out), some (.int (nI i)), u5, u6] [] M := by
  obtain ⟨D, ow, sl, La, Le, pl, Z, C, B, I, hs0, hDl, hto, hno⟩ := A
  have hp6 := C.2.1.2.2.2
  have hin1 : vp_in (nI i + 1) L := by rw [show nI i + 1 = nI (i + 1) from nI_add i 1]; exact vp_in_nI (by omega) (by omega)
  have hin2 : vp_in (nI i + 2) L := by rw [show nI i + 2 = nI (i + 2) from nI_add i 2]; exact vp_in_nI (by omega) (by omega)
  have hin3 : vp_in (nI i + 3) L := by rw [show nI i + 3 = nI (i + 3) from nI_add i 3]; exact vp_in_nI (by omega) (by omega)
  refine vv_aload_n (pc := 364) x dd_La_law_364 rfl ?_
  refine vv_aload_n (pc := 365) x dd_La_law_365 rfl ?_
  refine vv_iload (pc := 366) x dd_La_law_366 rfl ?_
  refine vv_iconst (pc := 368) x dd_La_law_368 (1) (by decide) ?_
  refine vv_iadd (pc := 369) x dd_La_law_369 ?_
  refine vv_sld (pc := 370) x dd_La_law_370 hX hin1 ?_
  refine vv_aload_n (pc := 371) x dd_La_law_371 rfl ?_
  refine vv_iload (pc := 372) x dd_La_law_372 rfl ?_
  refine vv_iconst (pc := 374) x dd_La_law_374 (2) (by decide) ?_
  refine vv_iadd (pc := 375) x dd_La_law_375 ?_
  refine vv_sld (pc := 376) x dd_La_law_376 hX hin2 ?_
  refine vv_aload_n (pc := 377) x dd_La_law_377 rfl ?_
  refine vv_iload (pc := 378) x dd_La_law_378 rfl ?_
  refine vv_iconst (pc := 380) x dd_La_law_380 (3) (by decide) ?_
  refine vv_iadd (pc := 381) x dd_La_law_381 ?_
  refine vv_sld (pc := 382) x dd_La_law_382 hX hin3 ?_
  refine ly_La_name (pc := 383) G x dd_La_law_383 (W_name G C I hn hDl hs0) ⟨by decide, by decide⟩ (by omega) (by omega) (Nat.le_of_ble_eq_true rfl) (fun v1 M1 q1 => ?_)
  obtain ⟨rfl, ⟨K1, D1, ow1, sl1, La1, Le1, s1, s2, s3, C1⟩⟩ := q1
  have B1 := MI_kq B K1 C1.1 s1
  have hT1 : mm_t M1 mo = 8 := B1.1.2.2
  have to1 : mm_t M1 out = 101 := (K1.1 out (by rw [hto]; decide)).1.trans hto
  have no1 : mm_n M1 out = 1 := (K1.1 out (by rw [hto]; decide)).2.trans hno
  have IZ := FZ_name I hp6 (xv := (xs (nI i + 1).toNatClampNeg)) (rv := (xs (nI i + 2).toNatClampNeg)) (nv := (xs (nI i + 3).toNatClampNeg))
  refine vv_istore (pc := 386) x dd_La_law_386 (by decide) (ls2 := [_, _, _, _, _, _, _]) rfl ?_
  refine vv_aload_n (pc := 388) x dd_La_law_388 rfl ?_
  refine vv_aload_n (pc := 389) x dd_La_law_389 rfl ?_
  refine vv_iload (pc := 390) x dd_La_law_390 rfl ?_
  refine vv_iconst (pc := 392) x dd_La_law_392 (1) (by decide) ?_
  refine vv_iadd (pc := 393) x dd_La_law_393 ?_
  refine vv_sld (pc := 394) x dd_La_law_394 hX hin1 ?_
  refine vv_aload_n (pc := 395) x dd_La_law_395 rfl ?_
  refine vv_iload (pc := 396) x dd_La_law_396 rfl ?_
  refine vv_iconst (pc := 398) x dd_La_law_398 (2) (by decide) ?_
  refine vv_iadd (pc := 399) x dd_La_law_399 ?_
  refine vv_sld (pc := 400) x dd_La_law_400 hX hin2 ?_
  refine vv_aload_n (pc := 401) x dd_La_law_401 rfl ?_
  refine vv_iload (pc := 402) x dd_La_law_402 rfl ?_
  refine vv_iconst (pc := 404) x dd_La_law_404 (3) (by decide) ?_
  refine vv_iadd (pc := 405) x dd_La_law_405 ?_
  refine vv_sld (pc := 406) x dd_La_law_406 hX hin3 ?_
  refine lv_La_127 (pc := 407) G x dd_La_law_407 (N_name G B1 I hn hp6) hT1 ⟨by decide, by decide⟩ (by omega) (by omega) (Nat.le_of_ble_eq_true rfl) (fun v407 M407 q407 => ?_)
  obtain ⟨rfl, R2, t2, pl2, B2⟩ := q407
  have C2 := CI_rx C1 B1.1.2.1 B1.1.2.2 R2
  have hT2 : mm_t M407 mo = 8 := B2.1.2.2
  have to2 : mm_t M407 out = 101 := by rw [R2.1]; exact to1
  have no2 : mm_n M407 out = 1 := by rw [R2.2.1]; exact no1
  have LF : LI pw t0 (n + 1) M407 o mo out := ⟨D1, ow1, sl1, La1, Le1, pl2, _, C2, B2, IZ, s3, fun a ha => by rw [R2.1]; exact s2 a ha, to2, no2⟩
  refine vv_aload_n (pc := 410) x dd_La_law_410 rfl ?_
  refine lv_La_110 (pc := 411) G x dd_La_law_411 (k_rthrown G hT2) hT2 ⟨by decide, by decide⟩ (by omega) (by omega) (Nat.le_of_ble_eq_true rfl) (fun v411 M411 q411 => ?_)
  obtain ⟨rfl, hm411⟩ := q411
  have hm411 := hm411.symm
  subst hm411
  rw [t2]
  refine vv_iload (pc := 414) x dd_La_law_414 rfl ?_
  refine vv_icmp_eq (pc := 416) x dd_La_law_416 (tgt := 421) (by decide) (fun h416 => ?_) (fun h416 => absurd h416 (fun z => z rfl))
  refine vv_goto (pc := 421) x dd_La_law_421 (tgt := 1646) (by decide) ?_
  exact vv_wide (by omega) (by omega) (kk _ _ _ LF)
set_option maxRecDepth 100000 in
set_option maxHeartbeats 1000000 in
theorem arm_move (G : gc g X t0 l) (x : cx g X "CopyHeapsLaw" nm cc_La_law 7 ret 12 436 601024 7293000 p R s m meth c9) (A : LI pw t0 n M o mo out) (hn : n < 512) (hX : sX g b L xs s) (hi : i + 4 < L) (hL : L ≤ 2561) (hc : cells + 10 ≤ 601024) (hs : slots + 1760 ≤ 7293000) {u5 u6 : Option Value} (kk : ∀ (M' : mm) (w5 w6 : Option Value), LI pw t0 (n + 1) M' o mo out → vv g 7 p l e R s m args below meth c9 Q (cells + 10) (slots + 1760) 1646 [some (.ref b), some (.ref o), some (.ref mo), some (.ref out), some (.int (nI i)), w5, w6] [] M') : vv g 7 p l e R s m args below meth c9 Q cells slots 424 [some (.ref b), some (.ref o), some (.ref mo), some (.ref out), some (.int (nI i)), u5, u6] [] M := by
  obtain ⟨D, ow, sl, La, Le, pl, Z, C, B, I, hs0, hDl, hto, hno⟩ := A
  have hp6 := C.2.1.2.2.2
  have hin1 : vp_in (nI i + 1) L := by rw [show nI i + 1 = nI (i + 1) from nI_add i 1]; exact vp_in_nI (by omega) (by omega)
  have hin2 : vp_in (nI i + 2) L := by rw [show nI i + 2 = nI (i + 2) from nI_add i 2]; exact vp_in_nI (by omega) (by omega)
  have hin3 : vp_in (nI i + 3) L := by rw [show nI i + 3 = nI (i + 3) from nI_add i 3]; exact vp_in_nI (by omega) (by omega)
  refine vv_aload_n (pc := 424) x dd_La_law_424 rfl ?_
  refine vv_aload_n (pc := 425) x dd_La_law_425 rfl ?_
  refine vv_iload (pc := 426) x dd_La_law_426 rfl ?_
  refine vv_iconst (pc := 428) x dd_La_law_428 (1) (by decide) ?_
  refine vv_iadd (pc := 429) x dd_La_law_429 ?_
  refine vv_sld (pc := 430) x dd_La_law_430 hX hin1 ?_
  refine vv_aload_n (pc := 431) x dd_La_law_431 rfl ?_
  refine vv_iload (pc := 432) x dd_La_law_432 rfl ?_
  refine vv_iconst (pc := 434) x dd_La_law_434 (2) (by decide) ?_
  refine vv_iadd (pc := 435) x dd_La_law_435 ?_
  refine vv_sld (pc := 436) x dd_La_law_436 hX hin2 ?_
  refine vv_aload_n (pc := 437) x dd_La_law_437 rfl ?_
  refine vv_iload (pc := 438) x dd_La_law_438 rfl ?_
  refine vv_iconst (pc := 440) x dd_La_law_440 (3) (by decide) ?_
  refine vv_iadd (pc := 441) x dd_La_law_441 ?_
  refine vv_sld (pc := 442) x dd_La_law_442 hX hin3 ?_
  refine ly_La_move (pc := 443) G x dd_La_law_443 (W_move G C I hn hDl hs0) ⟨by decide, by decide⟩ (by omega) (by omega) (Nat.le_of_ble_eq_true rfl) (fun v1 M1 q1 => ?_)
  obtain ⟨rfl, ⟨K1, D1, ow1, sl1, La1, Le1, s1, s2, s3, C1⟩⟩ := q1
  have B1 := MI_kq B K1 C1.1 s1
  have hT1 : mm_t M1 mo = 8 := B1.1.2.2
  have to1 : mm_t M1 out = 101 := (K1.1 out (by rw [hto]; decide)).1.trans hto
  have no1 : mm_n M1 out = 1 := (K1.1 out (by rw [hto]; decide)).2.trans hno
  have IZ := FZ_move I hp6 (xv := (xs (nI i + 1).toNatClampNeg)) (rv := (xs (nI i + 2).toNatClampNeg)) (av := (xs (nI i + 3).toNatClampNeg))
  refine vv_istore (pc := 446) x dd_La_law_446 (by decide) (ls2 := [_, _, _, _, _, _, _]) rfl ?_
  refine vv_aload_n (pc := 448) x dd_La_law_448 rfl ?_
  refine vv_aload_n (pc := 449) x dd_La_law_449 rfl ?_
  refine vv_iload (pc := 450) x dd_La_law_450 rfl ?_
  refine vv_iconst (pc := 452) x dd_La_law_452 (1) (by decide) ?_
  refine vv_iadd (pc := 453) x dd_La_law_453 ?_
  refine vv_sld (pc := 454) x dd_La_law_454 hX hin1 ?_
  refine vv_aload_n (pc := 455) x dd_La_law_455 rfl ?_
  refine vv_iload (pc := 456) x dd_La_law_456 rfl ?_
  refine vv_iconst (pc := 458) x dd_La_law_458 (2) (by decide) ?_
  refine vv_iadd (pc := 459) x dd_La_law_459 ?_
  refine vv_sld (pc := 460) x dd_La_law_460 hX hin2 ?_
  refine vv_aload_n (pc := 461) x dd_La_law_461 rfl ?_
  refine vv_iload (pc := 462) x dd_La_law_462 rfl ?_
  refine vv_iconst (pc := 464) x dd_La_law_464 (3) (by decide) ?_
  refine vv_iadd (pc := 465) x dd_La_law_465 ?_
  refine vv_sld (pc := 466) x dd_La_law_466 hX hin3 ?_
  refine lv_La_130 (pc := 467) G x dd_La_law_467 (N_move G B1 I hn hp6) hT1 ⟨by decide, by decide⟩ (by omega) (by omega) (Nat.le_of_ble_eq_true rfl) (fun v467 M467 q467 => ?_)
  obtain ⟨rfl, R2, t2, pl2, B2⟩ := q467
  have C2 := CI_rx C1 B1.1.2.1 B1.1.2.2 R2
  have hT2 : mm_t M467 mo = 8 := B2.1.2.2
  have to2 : mm_t M467 out = 101 := by rw [R2.1]; exact to1
  have no2 : mm_n M467 out = 1 := by rw [R2.2.1]; exact no1
  have LF : LI pw t0 (n + 1) M467 o mo out := ⟨D1, ow1, sl1, La1, Le1, pl2, _, C2, B2, IZ, s3, fun a ha => by rw [R2.1]; exact s2 a ha, to2, no2⟩
  refine vv_aload_n (pc := 470) x dd_La_law_470 rfl ?_
  refine lv_La_110 (pc := 471) G x dd_La_law_471 (k_rthrown G hT2) hT2 ⟨by decide, by decide⟩ (by omega) (by omega) (Nat.le_of_ble_eq_true rfl) (fun v471 M471 q471 => ?_)
  obtain ⟨rfl, hm471⟩ := q471
  have hm471 := hm471.symm
  subst hm471
  rw [t2]
  refine vv_iload (pc := 474) x dd_La_law_474 rfl ?_
  refine vv_icmp_eq (pc := 476) x dd_La_law_476 (tgt := 481) (by decide) (fun h476 => ?_) (fun h476 => absurd h476 (fun z => z rfl))
  refine vv_goto (pc := 481) x dd_La_law_481 (tgt := 1646) (by decide) ?_
  exact vv_wide (by omega) (by omega) (kk _ _ _ LF)
set_option maxRecDepth 100000 in
set_option maxHeartbeats 1000000 in
theorem arm_pair (G : gc g X t0 l) (x : cx g X "CopyHeapsLaw" nm cc_La_law 7 ret 12 436 601024 7293000 p R s m meth c9) (A : LI pw t0 n M o mo out) (hn : n < 512) (hX : sX g b L xs s) (hi : i + 4 < L) (hL : L ≤ 2561) (hc : cells + 10 ≤ 601024) (hs : slots + 1760 ≤ 7293000) {u5 u6 : Option Value} (kk : ∀ (M' : mm) (w5 w6 : Option Value), LI pw t0 (n + 1) M' o mo out → vv g 7 p l e R s m args below meth c9 Q (cells + 10) (slots + 1760) 1646 [some (.ref b), some (.ref o), some (.ref mo), some (.ref out), some (.int (nI i)), w5, w6] [] M') : vv g 7 p l e R s m args below meth c9 Q cells slots 484 [some (.ref b), some (.ref o), some (.ref mo), some (.ref out), some (.int (nI i)), u5, u6] [] M := by
  obtain ⟨D, ow, sl, La, Le, pl, Z, C, B, I, hs0, hDl, hto, hno⟩ := A
  have hp6 := C.2.1.2.2.2
  have hin1 : vp_in (nI i + 1) L := by rw [show nI i + 1 = nI (i + 1) from nI_add i 1]; exact vp_in_nI (by omega) (by omega)
  have hin2 : vp_in (nI i + 2) L := by rw [show nI i + 2 = nI (i + 2) from nI_add i 2]; exact vp_in_nI (by omega) (by omega)
  have hin3 : vp_in (nI i + 3) L := by rw [show nI i + 3 = nI (i + 3) from nI_add i 3]; exact vp_in_nI (by omega) (by omega)
  have hin4 : vp_in (nI i + 4) L := by rw [show nI i + 4 = nI (i + 4) from nI_add i 4]; exact vp_in_nI (by omega) (by omega)
  refine vv_aload_n (pc := 484) x dd_La_law_484 rfl ?_
  refine vv_aload_n (pc := 485) x dd_La_law_485 rfl ?_
  refine vv_iload (pc := 486) x dd_La_law_486 rfl ?_
  refine vv_iconst (pc := 488) x dd_La_law_488 (1) (by decide) ?_
  refine vv_iadd (pc := 489) x dd_La_law_489 ?_
  refine vv_sld (pc := 490) x dd_La_law_490 hX hin1 ?_
  refine vv_aload_n (pc := 491) x dd_La_law_491 rfl ?_
  refine vv_iload (pc := 492) x dd_La_law_492 rfl ?_
  refine vv_iconst (pc := 494) x dd_La_law_494 (2) (by decide) ?_
  refine vv_iadd (pc := 495) x dd_La_law_495 ?_
  refine vv_sld (pc := 496) x dd_La_law_496 hX hin2 ?_
  refine vv_aload_n (pc := 497) x dd_La_law_497 rfl ?_
  refine vv_iload (pc := 498) x dd_La_law_498 rfl ?_
  refine vv_iconst (pc := 500) x dd_La_law_500 (3) (by decide) ?_
  refine vv_iadd (pc := 501) x dd_La_law_501 ?_
  refine vv_sld (pc := 502) x dd_La_law_502 hX hin3 ?_
  refine vv_aload_n (pc := 503) x dd_La_law_503 rfl ?_
  refine vv_iload (pc := 504) x dd_La_law_504 rfl ?_
  refine vv_iconst (pc := 506) x dd_La_law_506 (4) (by decide) ?_
  refine vv_iadd (pc := 507) x dd_La_law_507 ?_
  refine vv_sld (pc := 508) x dd_La_law_508 hX hin4 ?_
  refine ly_La_pair (pc := 509) G x dd_La_law_509 (W_pair G C I hn hDl hs0) ⟨by decide, by decide⟩ (by omega) (by omega) (Nat.le_of_ble_eq_true rfl) (fun v1 M1 q1 => ?_)
  obtain ⟨rfl, ⟨K1, D1, ow1, sl1, La1, Le1, s1, s2, s3, C1⟩⟩ := q1
  have B1 := MI_kq B K1 C1.1 s1
  have hT1 : mm_t M1 mo = 8 := B1.1.2.2
  have to1 : mm_t M1 out = 101 := (K1.1 out (by rw [hto]; decide)).1.trans hto
  have no1 : mm_n M1 out = 1 := (K1.1 out (by rw [hto]; decide)).2.trans hno
  have IZ := FZ_pair I hp6 (xv := (xs (nI i + 1).toNatClampNeg)) (rv := (xs (nI i + 2).toNatClampNeg)) (av := (xs (nI i + 3).toNatClampNeg)) (bv := (xs (nI i + 4).toNatClampNeg))
  refine vv_istore (pc := 512) x dd_La_law_512 (by decide) (ls2 := [_, _, _, _, _, _, _]) rfl ?_
  refine vv_aload_n (pc := 514) x dd_La_law_514 rfl ?_
  refine vv_aload_n (pc := 515) x dd_La_law_515 rfl ?_
  refine vv_iload (pc := 516) x dd_La_law_516 rfl ?_
  refine vv_iconst (pc := 518) x dd_La_law_518 (1) (by decide) ?_
  refine vv_iadd (pc := 519) x dd_La_law_519 ?_
  refine vv_sld (pc := 520) x dd_La_law_520 hX hin1 ?_
  refine vv_aload_n (pc := 521) x dd_La_law_521 rfl ?_
  refine vv_iload (pc := 522) x dd_La_law_522 rfl ?_
  refine vv_iconst (pc := 524) x dd_La_law_524 (2) (by decide) ?_
  refine vv_iadd (pc := 525) x dd_La_law_525 ?_
  refine vv_sld (pc := 526) x dd_La_law_526 hX hin2 ?_
  refine vv_aload_n (pc := 527) x dd_La_law_527 rfl ?_
  refine vv_iload (pc := 528) x dd_La_law_528 rfl ?_
  refine vv_iconst (pc := 530) x dd_La_law_530 (3) (by decide) ?_
  refine vv_iadd (pc := 531) x dd_La_law_531 ?_
  refine vv_sld (pc := 532) x dd_La_law_532 hX hin3 ?_
  refine vv_aload_n (pc := 533) x dd_La_law_533 rfl ?_
  refine vv_iload (pc := 534) x dd_La_law_534 rfl ?_
  refine vv_iconst (pc := 536) x dd_La_law_536 (4) (by decide) ?_
  refine vv_iadd (pc := 537) x dd_La_law_537 ?_
  refine vv_sld (pc := 538) x dd_La_law_538 hX hin4 ?_
  refine lv_La_134 (pc := 539) G x dd_La_law_539 (N_pair G B1 I hn hp6) hT1 ⟨by decide, by decide⟩ (by omega) (by omega) (Nat.le_of_ble_eq_true rfl) (fun v539 M539 q539 => ?_)
  obtain ⟨rfl, R2, t2, pl2, B2⟩ := q539
  have C2 := CI_rx C1 B1.1.2.1 B1.1.2.2 R2
  have hT2 : mm_t M539 mo = 8 := B2.1.2.2
  have to2 : mm_t M539 out = 101 := by rw [R2.1]; exact to1
  have no2 : mm_n M539 out = 1 := by rw [R2.2.1]; exact no1
  have LF : LI pw t0 (n + 1) M539 o mo out := ⟨D1, ow1, sl1, La1, Le1, pl2, _, C2, B2, IZ, s3, fun a ha => by rw [R2.1]; exact s2 a ha, to2, no2⟩
  refine vv_aload_n (pc := 542) x dd_La_law_542 rfl ?_
  refine lv_La_110 (pc := 543) G x dd_La_law_543 (k_rthrown G hT2) hT2 ⟨by decide, by decide⟩ (by omega) (by omega) (Nat.le_of_ble_eq_true rfl) (fun v543 M543 q543 => ?_)
  obtain ⟨rfl, hm543⟩ := q543
  have hm543 := hm543.symm
  subst hm543
  rw [t2]
  refine vv_iload (pc := 546) x dd_La_law_546 rfl ?_
  refine vv_icmp_eq (pc := 548) x dd_La_law_548 (tgt := 553) (by decide) (fun h548 => ?_) (fun h548 => absurd h548 (fun z => z rfl))
  refine vv_goto (pc := 553) x dd_La_law_553 (tgt := 1646) (by decide) ?_
  exact vv_wide (by omega) (by omega) (kk _ _ _ LF)
set_option maxRecDepth 100000 in
set_option maxHeartbeats 1000000 in
theorem arm_tuple (G : gc g X t0 l) (x : cx g X "CopyHeapsLaw" nm cc_La_law 7 ret 12 436 601024 7293000 p R s m meth c9) (A : LI pw t0 n M o mo out) (hn : n < 512) (hX : sX g b L xs s) (hi : i + 4 < L) (hL : L ≤ 2561) (hc : cells + 10 ≤ 601024) (hs : slots + 1760 ≤ 7293000) {u5 u6 : Option Value} (kk : ∀ (M' : mm) (w5 w6 : Option Value), LI pw t0 (n + 1) M' o mo out → vv g 7 p l e R s m args below meth c9 Q (cells + 10) (slots + 1760) 1646 [some (.ref b), some (.ref o), some (.ref mo), some (.ref out), some (.int (nI i)), w5, w6] [] M') : vv g 7 p l e R s m args below meth c9 Q cells slots 556 [some (.ref b), some (.ref o), some (.ref mo), some (.ref out), some (.int (nI i)), u5, u6] [] M := by
  obtain ⟨D, ow, sl, La, Le, pl, Z, C, B, I, hs0, hDl, hto, hno⟩ := A
  have hp6 := C.2.1.2.2.2
  have hin1 : vp_in (nI i + 1) L := by rw [show nI i + 1 = nI (i + 1) from nI_add i 1]; exact vp_in_nI (by omega) (by omega)
  have hin2 : vp_in (nI i + 2) L := by rw [show nI i + 2 = nI (i + 2) from nI_add i 2]; exact vp_in_nI (by omega) (by omega)
  have hin3 : vp_in (nI i + 3) L := by rw [show nI i + 3 = nI (i + 3) from nI_add i 3]; exact vp_in_nI (by omega) (by omega)
  refine vv_aload_n (pc := 556) x dd_La_law_556 rfl ?_
  refine vv_aload_n (pc := 557) x dd_La_law_557 rfl ?_
  refine vv_iload (pc := 558) x dd_La_law_558 rfl ?_
  refine vv_iconst (pc := 560) x dd_La_law_560 (1) (by decide) ?_
  refine vv_iadd (pc := 561) x dd_La_law_561 ?_
  refine vv_sld (pc := 562) x dd_La_law_562 hX hin1 ?_
  refine vv_aload_n (pc := 563) x dd_La_law_563 rfl ?_
  refine vv_iload (pc := 564) x dd_La_law_564 rfl ?_
  refine vv_iconst (pc := 566) x dd_La_law_566 (2) (by decide) ?_
  refine vv_iadd (pc := 567) x dd_La_law_567 ?_
  refine vv_sld (pc := 568) x dd_La_law_568 hX hin2 ?_
  refine vv_aload_n (pc := 569) x dd_La_law_569 rfl ?_
  refine vv_iload (pc := 570) x dd_La_law_570 rfl ?_
  refine vv_iconst (pc := 572) x dd_La_law_572 (3) (by decide) ?_
  refine vv_iadd (pc := 573) x dd_La_law_573 ?_
  refine vv_sld (pc := 574) x dd_La_law_574 hX hin3 ?_
  refine ly_La_tuple (pc := 575) G x dd_La_law_575 (W_tuple G C I hn hDl hs0) ⟨by decide, by decide⟩ (by omega) (by omega) (Nat.le_of_ble_eq_true rfl) (fun v1 M1 q1 => ?_)
  obtain ⟨rfl, ⟨K1, D1, ow1, sl1, La1, Le1, s1, s2, s3, C1⟩⟩ := q1
  have B1 := MI_kq B K1 C1.1 s1
  have hT1 : mm_t M1 mo = 8 := B1.1.2.2
  have to1 : mm_t M1 out = 101 := (K1.1 out (by rw [hto]; decide)).1.trans hto
  have no1 : mm_n M1 out = 1 := (K1.1 out (by rw [hto]; decide)).2.trans hno
  have IZ := FZ_tuple I hp6 (xv := (xs (nI i + 1).toNatClampNeg)) (rv := (xs (nI i + 2).toNatClampNeg)) (nv := (xs (nI i + 3).toNatClampNeg))
  refine vv_istore (pc := 578) x dd_La_law_578 (by decide) (ls2 := [_, _, _, _, _, _, _]) rfl ?_
  refine vv_aload_n (pc := 580) x dd_La_law_580 rfl ?_
  refine vv_aload_n (pc := 581) x dd_La_law_581 rfl ?_
  refine vv_iload (pc := 582) x dd_La_law_582 rfl ?_
  refine vv_iconst (pc := 584) x dd_La_law_584 (1) (by decide) ?_
  refine vv_iadd (pc := 585) x dd_La_law_585 ?_
  refine vv_sld (pc := 586) x dd_La_law_586 hX hin1 ?_
  refine vv_aload_n (pc := 587) x dd_La_law_587 rfl ?_
  refine vv_iload (pc := 588) x dd_La_law_588 rfl ?_
  refine vv_iconst (pc := 590) x dd_La_law_590 (2) (by decide) ?_
  refine vv_iadd (pc := 591) x dd_La_law_591 ?_
  refine vv_sld (pc := 592) x dd_La_law_592 hX hin2 ?_
  refine vv_aload_n (pc := 593) x dd_La_law_593 rfl ?_
  refine vv_iload (pc := 594) x dd_La_law_594 rfl ?_
  refine vv_iconst (pc := 596) x dd_La_law_596 (3) (by decide) ?_
  refine vv_iadd (pc := 597) x dd_La_law_597 ?_
  refine vv_sld (pc := 598) x dd_La_law_598 hX hin3 ?_
  refine lv_La_137 (pc := 599) G x dd_La_law_599 (N_tuple G B1 I hn hp6) hT1 ⟨by decide, by decide⟩ (by omega) (by omega) (Nat.le_of_ble_eq_true rfl) (fun v599 M599 q599 => ?_)
  obtain ⟨rfl, R2, t2, pl2, B2⟩ := q599
  have C2 := CI_rx C1 B1.1.2.1 B1.1.2.2 R2
  have hT2 : mm_t M599 mo = 8 := B2.1.2.2
  have to2 : mm_t M599 out = 101 := by rw [R2.1]; exact to1
  have no2 : mm_n M599 out = 1 := by rw [R2.2.1]; exact no1
  have LF : LI pw t0 (n + 1) M599 o mo out := ⟨D1, ow1, sl1, La1, Le1, pl2, _, C2, B2, IZ, s3, fun a ha => by rw [R2.1]; exact s2 a ha, to2, no2⟩
  refine vv_aload_n (pc := 602) x dd_La_law_602 rfl ?_
  refine lv_La_110 (pc := 603) G x dd_La_law_603 (k_rthrown G hT2) hT2 ⟨by decide, by decide⟩ (by omega) (by omega) (Nat.le_of_ble_eq_true rfl) (fun v603 M603 q603 => ?_)
  obtain ⟨rfl, hm603⟩ := q603
  have hm603 := hm603.symm
  subst hm603
  rw [t2]
  refine vv_iload (pc := 606) x dd_La_law_606 rfl ?_
  refine vv_icmp_eq (pc := 608) x dd_La_law_608 (tgt := 613) (by decide) (fun h608 => ?_) (fun h608 => absurd h608 (fun z => z rfl))
  refine vv_goto (pc := 613) x dd_La_law_613 (tgt := 1646) (by decide) ?_
  exact vv_wide (by omega) (by omega) (kk _ _ _ LF)
set_option maxRecDepth 100000 in
set_option maxHeartbeats 1000000 in
theorem arm_blob (G : gc g X t0 l) (x : cx g X "CopyHeapsLaw" nm cc_La_law 7 ret 12 436 601024 7293000 p R s m meth c9) (A : LI pw t0 n M o mo out) (hn : n < 512) (hX : sX g b L xs s) (hi : i + 4 < L) (hL : L ≤ 2561) (hc : cells + 10 ≤ 601024) (hs : slots + 1760 ≤ 7293000) {u5 u6 : Option Value} (kk : ∀ (M' : mm) (w5 w6 : Option Value), LI pw t0 (n + 1) M' o mo out → vv g 7 p l e R s m args below meth c9 Q (cells + 10) (slots + 1760) 1646 [some (.ref b), some (.ref o), some (.ref mo), some (.ref out), some (.int (nI i)), w5, w6] [] M') : vv g 7 p l e R s m args below meth c9 Q cells slots 616 [some (.ref b), some (.ref o), some (.ref mo), some (.ref out), some (.int (nI i)), u5, u6] [] M := by
  obtain ⟨D, ow, sl, La, Le, pl, Z, C, B, I, hs0, hDl, hto, hno⟩ := A
  have hp6 := C.2.1.2.2.2
  have hin1 : vp_in (nI i + 1) L := by rw [show nI i + 1 = nI (i + 1) from nI_add i 1]; exact vp_in_nI (by omega) (by omega)
  have hin2 : vp_in (nI i + 2) L := by rw [show nI i + 2 = nI (i + 2) from nI_add i 2]; exact vp_in_nI (by omega) (by omega)
  have hin3 : vp_in (nI i + 3) L := by rw [show nI i + 3 = nI (i + 3) from nI_add i 3]; exact vp_in_nI (by omega) (by omega)
  refine vv_aload_n (pc := 616) x dd_La_law_616 rfl ?_
  refine vv_aload_n (pc := 617) x dd_La_law_617 rfl ?_
  refine vv_iload (pc := 618) x dd_La_law_618 rfl ?_
  refine vv_iconst (pc := 620) x dd_La_law_620 (1) (by decide) ?_
  refine vv_iadd (pc := 621) x dd_La_law_621 ?_
  refine vv_sld (pc := 622) x dd_La_law_622 hX hin1 ?_
  refine vv_aload_n (pc := 623) x dd_La_law_623 rfl ?_
  refine vv_iload (pc := 624) x dd_La_law_624 rfl ?_
  refine vv_iconst (pc := 626) x dd_La_law_626 (2) (by decide) ?_
  refine vv_iadd (pc := 627) x dd_La_law_627 ?_
  refine vv_sld (pc := 628) x dd_La_law_628 hX hin2 ?_
  refine vv_aload_n (pc := 629) x dd_La_law_629 rfl ?_
  refine vv_iload (pc := 630) x dd_La_law_630 rfl ?_
  refine vv_iconst (pc := 632) x dd_La_law_632 (3) (by decide) ?_
  refine vv_iadd (pc := 633) x dd_La_law_633 ?_
  refine vv_sld (pc := 634) x dd_La_law_634 hX hin3 ?_
  refine ly_La_blob (pc := 635) G x dd_La_law_635 (W_blob G C I hn hDl hs0) ⟨by decide, by decide⟩ (by omega) (by omega) (Nat.le_of_ble_eq_true rfl) (fun v1 M1 q1 => ?_)
  obtain ⟨rfl, ⟨K1, D1, ow1, sl1, La1, Le1, s1, s2, s3, C1⟩⟩ := q1
  have B1 := MI_kq B K1 C1.1 s1
  have hT1 : mm_t M1 mo = 8 := B1.1.2.2
  have to1 : mm_t M1 out = 101 := (K1.1 out (by rw [hto]; decide)).1.trans hto
  have no1 : mm_n M1 out = 1 := (K1.1 out (by rw [hto]; decide)).2.trans hno
  have IZ := FZ_blob I hp6 (xv := (xs (nI i + 1).toNatClampNeg)) (rv := (xs (nI i + 2).toNatClampNeg)) (nv := (xs (nI i + 3).toNatClampNeg))
  refine vv_istore (pc := 638) x dd_La_law_638 (by decide) (ls2 := [_, _, _, _, _, _, _]) rfl ?_
  refine vv_aload_n (pc := 640) x dd_La_law_640 rfl ?_
  refine vv_aload_n (pc := 641) x dd_La_law_641 rfl ?_
  refine vv_iload (pc := 642) x dd_La_law_642 rfl ?_
  refine vv_iconst (pc := 644) x dd_La_law_644 (1) (by decide) ?_
  refine vv_iadd (pc := 645) x dd_La_law_645 ?_
  refine vv_sld (pc := 646) x dd_La_law_646 hX hin1 ?_
  refine vv_aload_n (pc := 647) x dd_La_law_647 rfl ?_
  refine vv_iload (pc := 648) x dd_La_law_648 rfl ?_
  refine vv_iconst (pc := 650) x dd_La_law_650 (2) (by decide) ?_
  refine vv_iadd (pc := 651) x dd_La_law_651 ?_
  refine vv_sld (pc := 652) x dd_La_law_652 hX hin2 ?_
  refine vv_aload_n (pc := 653) x dd_La_law_653 rfl ?_
  refine vv_iload (pc := 654) x dd_La_law_654 rfl ?_
  refine vv_iconst (pc := 656) x dd_La_law_656 (3) (by decide) ?_
  refine vv_iadd (pc := 657) x dd_La_law_657 ?_
  refine vv_sld (pc := 658) x dd_La_law_658 hX hin3 ?_
  refine lv_La_140 (pc := 659) G x dd_La_law_659 (N_blob G B1 I hn hp6) hT1 ⟨by decide, by decide⟩ (by omega) (by omega) (Nat.le_of_ble_eq_true rfl) (fun v659 M659 q659 => ?_)
  obtain ⟨rfl, R2, t2, pl2, B2⟩ := q659
  have C2 := CI_rx C1 B1.1.2.1 B1.1.2.2 R2
  have hT2 : mm_t M659 mo = 8 := B2.1.2.2
  have to2 : mm_t M659 out = 101 := by rw [R2.1]; exact to1
  have no2 : mm_n M659 out = 1 := by rw [R2.2.1]; exact no1
  have LF : LI pw t0 (n + 1) M659 o mo out := ⟨D1, ow1, sl1, La1, Le1, pl2, _, C2, B2, IZ, s3, fun a ha => by rw [R2.1]; exact s2 a ha, to2, no2⟩
  refine vv_aload_n (pc := 662) x dd_La_law_662 rfl ?_
  refine lv_La_110 (pc := 663) G x dd_La_law_663 (k_rthrown G hT2) hT2 ⟨by decide, by decide⟩ (by omega) (by omega) (Nat.le_of_ble_eq_true rfl) (fun v663 M663 q663 => ?_)
  obtain ⟨rfl, hm663⟩ := q663
  have hm663 := hm663.symm
  subst hm663
  rw [t2]
  refine vv_iload (pc := 666) x dd_La_law_666 rfl ?_
  refine vv_icmp_eq (pc := 668) x dd_La_law_668 (tgt := 673) (by decide) (fun h668 => ?_) (fun h668 => absurd h668 (fun z => z rfl))
  refine vv_goto (pc := 673) x dd_La_law_673 (tgt := 1646) (by decide) ?_
  exact vv_wide (by omega) (by omega) (kk _ _ _ LF)
set_option maxRecDepth 100000 in
set_option maxHeartbeats 1000000 in
theorem arm_part (G : gc g X t0 l) (x : cx g X "CopyHeapsLaw" nm cc_La_law 7 ret 12 436 601024 7293000 p R s m meth c9) (A : LI pw t0 n M o mo out) (hn : n < 512) (hX : sX g b L xs s) (hi : i + 4 < L) (hL : L ≤ 2561) (hc : cells + 10 ≤ 601024) (hs : slots + 1760 ≤ 7293000) {u5 u6 : Option Value} (kk : ∀ (M' : mm) (w5 w6 : Option Value), LI pw t0 (n + 1) M' o mo out → vv g 7 p l e R s m args below meth c9 Q (cells + 10) (slots + 1760) 1646 [some (.ref b), some (.ref o), some (.ref mo), some (.ref out), some (.int (nI i)), w5, w6] [] M') : vv g 7 p l e R s m args below meth c9 Q cells slots 676 [some (.ref b), some (.ref o), some (.ref mo), some (.ref out), some (.int (nI i)), u5, u6] [] M := by
  obtain ⟨D, ow, sl, La, Le, pl, Z, C, B, I, hs0, hDl, hto, hno⟩ := A
  have hp6 := C.2.1.2.2.2
  have hin1 : vp_in (nI i + 1) L := by rw [show nI i + 1 = nI (i + 1) from nI_add i 1]; exact vp_in_nI (by omega) (by omega)
  have hin2 : vp_in (nI i + 2) L := by rw [show nI i + 2 = nI (i + 2) from nI_add i 2]; exact vp_in_nI (by omega) (by omega)
  have hin3 : vp_in (nI i + 3) L := by rw [show nI i + 3 = nI (i + 3) from nI_add i 3]; exact vp_in_nI (by omega) (by omega)
  have hin4 : vp_in (nI i + 4) L := by rw [show nI i + 4 = nI (i + 4) from nI_add i 4]; exact vp_in_nI (by omega) (by omega)
  refine vv_aload_n (pc := 676) x dd_La_law_676 rfl ?_
  refine vv_aload_n (pc := 677) x dd_La_law_677 rfl ?_
  refine vv_iload (pc := 678) x dd_La_law_678 rfl ?_
  refine vv_iconst (pc := 680) x dd_La_law_680 (1) (by decide) ?_
  refine vv_iadd (pc := 681) x dd_La_law_681 ?_
  refine vv_sld (pc := 682) x dd_La_law_682 hX hin1 ?_
  refine vv_aload_n (pc := 683) x dd_La_law_683 rfl ?_
  refine vv_iload (pc := 684) x dd_La_law_684 rfl ?_
  refine vv_iconst (pc := 686) x dd_La_law_686 (2) (by decide) ?_
  refine vv_iadd (pc := 687) x dd_La_law_687 ?_
  refine vv_sld (pc := 688) x dd_La_law_688 hX hin2 ?_
  refine vv_aload_n (pc := 689) x dd_La_law_689 rfl ?_
  refine vv_iload (pc := 690) x dd_La_law_690 rfl ?_
  refine vv_iconst (pc := 692) x dd_La_law_692 (3) (by decide) ?_
  refine vv_iadd (pc := 693) x dd_La_law_693 ?_
  refine vv_sld (pc := 694) x dd_La_law_694 hX hin3 ?_
  refine vv_aload_n (pc := 695) x dd_La_law_695 rfl ?_
  refine vv_iload (pc := 696) x dd_La_law_696 rfl ?_
  refine vv_iconst (pc := 698) x dd_La_law_698 (4) (by decide) ?_
  refine vv_iadd (pc := 699) x dd_La_law_699 ?_
  refine vv_sld (pc := 700) x dd_La_law_700 hX hin4 ?_
  refine ly_La_part (pc := 701) G x dd_La_law_701 (W_part G C I hn hDl hs0) ⟨by decide, by decide⟩ (by omega) (by omega) (Nat.le_of_ble_eq_true rfl) (fun v1 M1 q1 => ?_)
  obtain ⟨rfl, ⟨K1, D1, ow1, sl1, La1, Le1, s1, s2, s3, C1⟩⟩ := q1
  have B1 := MI_kq B K1 C1.1 s1
  have hT1 : mm_t M1 mo = 8 := B1.1.2.2
  have to1 : mm_t M1 out = 101 := (K1.1 out (by rw [hto]; decide)).1.trans hto
  have no1 : mm_n M1 out = 1 := (K1.1 out (by rw [hto]; decide)).2.trans hno
  have IZ := FZ_part I hp6 (xv := (xs (nI i + 1).toNatClampNeg)) (rv := (xs (nI i + 2).toNatClampNeg)) (av := (xs (nI i + 3).toNatClampNeg)) (kv := (xs (nI i + 4).toNatClampNeg))
  refine vv_istore (pc := 704) x dd_La_law_704 (by decide) (ls2 := [_, _, _, _, _, _, _]) rfl ?_
  refine vv_aload_n (pc := 706) x dd_La_law_706 rfl ?_
  refine vv_aload_n (pc := 707) x dd_La_law_707 rfl ?_
  refine vv_iload (pc := 708) x dd_La_law_708 rfl ?_
  refine vv_iconst (pc := 710) x dd_La_law_710 (1) (by decide) ?_
  refine vv_iadd (pc := 711) x dd_La_law_711 ?_
  refine vv_sld (pc := 712) x dd_La_law_712 hX hin1 ?_
  refine vv_aload_n (pc := 713) x dd_La_law_713 rfl ?_
  refine vv_iload (pc := 714) x dd_La_law_714 rfl ?_
  refine vv_iconst (pc := 716) x dd_La_law_716 (2) (by decide) ?_
  refine vv_iadd (pc := 717) x dd_La_law_717 ?_
  refine vv_sld (pc := 718) x dd_La_law_718 hX hin2 ?_
  refine vv_aload_n (pc := 719) x dd_La_law_719 rfl ?_
  refine vv_iload (pc := 720) x dd_La_law_720 rfl ?_
  refine vv_iconst (pc := 722) x dd_La_law_722 (3) (by decide) ?_
  refine vv_iadd (pc := 723) x dd_La_law_723 ?_
  refine vv_sld (pc := 724) x dd_La_law_724 hX hin3 ?_
  refine vv_aload_n (pc := 725) x dd_La_law_725 rfl ?_
  refine vv_iload (pc := 726) x dd_La_law_726 rfl ?_
  refine vv_iconst (pc := 728) x dd_La_law_728 (4) (by decide) ?_
  refine vv_iadd (pc := 729) x dd_La_law_729 ?_
  refine vv_sld (pc := 730) x dd_La_law_730 hX hin4 ?_
  refine lv_La_143 (pc := 731) G x dd_La_law_731 (N_part G B1 I hn hp6) hT1 ⟨by decide, by decide⟩ (by omega) (by omega) (Nat.le_of_ble_eq_true rfl) (fun v731 M731 q731 => ?_)
  obtain ⟨rfl, R2, t2, pl2, B2⟩ := q731
  have C2 := CI_rx C1 B1.1.2.1 B1.1.2.2 R2
  have hT2 : mm_t M731 mo = 8 := B2.1.2.2
  have to2 : mm_t M731 out = 101 := by rw [R2.1]; exact to1
  have no2 : mm_n M731 out = 1 := by rw [R2.2.1]; exact no1
  have LF : LI pw t0 (n + 1) M731 o mo out := ⟨D1, ow1, sl1, La1, Le1, pl2, _, C2, B2, IZ, s3, fun a ha => by rw [R2.1]; exact s2 a ha, to2, no2⟩
  refine vv_aload_n (pc := 734) x dd_La_law_734 rfl ?_
  refine lv_La_110 (pc := 735) G x dd_La_law_735 (k_rthrown G hT2) hT2 ⟨by decide, by decide⟩ (by omega) (by omega) (Nat.le_of_ble_eq_true rfl) (fun v735 M735 q735 => ?_)
  obtain ⟨rfl, hm735⟩ := q735
  have hm735 := hm735.symm
  subst hm735
  rw [t2]
  refine vv_iload (pc := 738) x dd_La_law_738 rfl ?_
  refine vv_icmp_eq (pc := 740) x dd_La_law_740 (tgt := 745) (by decide) (fun h740 => ?_) (fun h740 => absurd h740 (fun z => z rfl))
  refine vv_goto (pc := 745) x dd_La_law_745 (tgt := 1646) (by decide) ?_
  exact vv_wide (by omega) (by omega) (kk _ _ _ LF)
set_option maxRecDepth 100000 in
set_option maxHeartbeats 1000000 in
theorem arm_send (G : gc g X t0 l) (x : cx g X "CopyHeapsLaw" nm cc_La_law 7 ret 12 436 601024 7293000 p R s m meth c9) (A : LI pw t0 n M o mo out) (hn : n < 512) (hX : sX g b L xs s) (hi : i + 4 < L) (hL : L ≤ 2561) (hc : cells + 10 ≤ 601024) (hs : slots + 1760 ≤ 7293000) {u5 u6 : Option Value} (kk : ∀ (M' : mm) (w5 w6 : Option Value), LI pw t0 (n + 1) M' o mo out → vv g 7 p l e R s m args below meth c9 Q (cells + 10) (slots + 1760) 1646 [some (.ref b), some (.ref o), some (.ref mo), some (.ref out), some (.int (nI i)), w5, w6] [] M') : vv g 7 p l e R s m args below meth c9 Q cells slots 748 [some (.ref b), some (.ref o), some (.ref mo), some (.ref out), some (.int (nI i)), u5, u6] [] M := by
  obtain ⟨D, ow, sl, La, Le, pl, Z, C, B, I, hs0, hDl, hto, hno⟩ := A
  have hp6 := C.2.1.2.2.2
  have hin1 : vp_in (nI i + 1) L := by rw [show nI i + 1 = nI (i + 1) from nI_add i 1]; exact vp_in_nI (by omega) (by omega)
  have hin2 : vp_in (nI i + 2) L := by rw [show nI i + 2 = nI (i + 2) from nI_add i 2]; exact vp_in_nI (by omega) (by omega)
  have hin3 : vp_in (nI i + 3) L := by rw [show nI i + 3 = nI (i + 3) from nI_add i 3]; exact vp_in_nI (by omega) (by omega)
  refine vv_aload_n (pc := 748) x dd_La_law_748 rfl ?_
  refine vv_aload_n (pc := 749) x dd_La_law_749 rfl ?_
  refine vv_iload (pc := 750) x dd_La_law_750 rfl ?_
  refine vv_iconst (pc := 752) x dd_La_law_752 (1) (by decide) ?_
  refine vv_iadd (pc := 753) x dd_La_law_753 ?_
  refine vv_sld (pc := 754) x dd_La_law_754 hX hin1 ?_
  refine vv_aload_n (pc := 755) x dd_La_law_755 rfl ?_
  refine vv_iload (pc := 756) x dd_La_law_756 rfl ?_
  refine vv_iconst (pc := 758) x dd_La_law_758 (2) (by decide) ?_
  refine vv_iadd (pc := 759) x dd_La_law_759 ?_
  refine vv_sld (pc := 760) x dd_La_law_760 hX hin2 ?_
  refine vv_aload_n (pc := 761) x dd_La_law_761 rfl ?_
  refine vv_iload (pc := 762) x dd_La_law_762 rfl ?_
  refine vv_iconst (pc := 764) x dd_La_law_764 (3) (by decide) ?_
  refine vv_iadd (pc := 765) x dd_La_law_765 ?_
  refine vv_sld (pc := 766) x dd_La_law_766 hX hin3 ?_
  refine vv_aload_n (pc := 767) x dd_La_law_767 rfl ?_
  refine ly_La_send (pc := 768) G x dd_La_law_768 (W_send G C I hn hDl hs0 hto hno) ⟨by decide, by decide⟩ (by omega) (by omega) (Nat.le_of_ble_eq_true rfl) (fun v1 M1 q1 => ?_)
  obtain ⟨rfl, ⟨K1, D1, ow1, sl1, La1, Le1, s1, s2, s3, C1⟩, hv⟩ := q1
  have B1 := MI_kq B K1 C1.1 s1
  have hT1 : mm_t M1 mo = 8 := B1.1.2.2
  have to1 : mm_t M1 out = 101 := (K1.1 out (by rw [hto]; decide)).1.trans hto
  have no1 : mm_n M1 out = 1 := (K1.1 out (by rw [hto]; decide)).2.trans hno
  have IZ := FZ_send I hp6 (xv := (xs (nI i + 1).toNatClampNeg)) (rv := (xs (nI i + 2).toNatClampNeg)) (tv := (xs (nI i + 3).toNatClampNeg))
  have FB := FB_send (Z := Z) (xv := (xs (nI i + 1).toNatClampNeg)) (rv := (xs (nI i + 2).toNatClampNeg)) (tv := (xs (nI i + 3).toNatClampNeg))
  refine vv_istore (pc := 771) x dd_La_law_771 (by decide) (ls2 := [_, _, _, _, _, _, _]) rfl ?_
  refine vv_aload_n (pc := 773) x dd_La_law_773 rfl ?_
  refine vv_aload_n (pc := 774) x dd_La_law_774 rfl ?_
  refine vv_iload (pc := 775) x dd_La_law_775 rfl ?_
  refine vv_iconst (pc := 777) x dd_La_law_777 (1) (by decide) ?_
  refine vv_iadd (pc := 778) x dd_La_law_778 ?_
  refine vv_sld (pc := 779) x dd_La_law_779 hX hin1 ?_
  refine vv_aload_n (pc := 780) x dd_La_law_780 rfl ?_
  refine vv_iload (pc := 781) x dd_La_law_781 rfl ?_
  refine vv_iconst (pc := 783) x dd_La_law_783 (2) (by decide) ?_
  refine vv_iadd (pc := 784) x dd_La_law_784 ?_
  refine vv_sld (pc := 785) x dd_La_law_785 hX hin2 ?_
  refine vv_aload_n (pc := 786) x dd_La_law_786 rfl ?_
  refine vv_iload (pc := 787) x dd_La_law_787 rfl ?_
  refine vv_iconst (pc := 789) x dd_La_law_789 (3) (by decide) ?_
  refine vv_iadd (pc := 790) x dd_La_law_790 ?_
  refine vv_sld (pc := 791) x dd_La_law_791 hX hin3 ?_
  refine lv_La_147 (pc := 792) G x dd_La_law_792 (N_send G B1 I hn hp6) hT1 ⟨by decide, by decide⟩ (by omega) (by omega) (Nat.le_of_ble_eq_true rfl) (fun v792 M792 q792 => ?_)
  obtain ⟨⟨bv, rfl, hb⟩, R2, t2, pl2, B2⟩ := q792
  have C2 := CI_rx C1 B1.1.2.1 B1.1.2.2 R2
  have hT2 : mm_t M792 mo = 8 := B2.1.2.2
  have to2 : mm_t M792 out = 101 := by rw [R2.1]; exact to1
  have no2 : mm_n M792 out = 1 := by rw [R2.2.1]; exact no1
  have LF : LI pw t0 (n + 1) M792 o mo out := ⟨D1, ow1, sl1, La1, Le1, pl2, _, C2, B2, IZ, s3, fun a ha => by rw [R2.1]; exact s2 a ha, to2, no2⟩
  refine vv_istore (pc := 795) x dd_La_law_795 (by decide) (ls2 := [_, _, _, _, _, _, _]) rfl ?_
  refine vv_aload_n (pc := 797) x dd_La_law_797 rfl ?_
  refine lv_La_110 (pc := 798) G x dd_La_law_798 (k_rthrown G hT2) hT2 ⟨by decide, by decide⟩ (by omega) (by omega) (Nat.le_of_ble_eq_true rfl) (fun v798 M798 q798 => ?_)
  obtain ⟨rfl, hm798⟩ := q798
  have hm798 := hm798.symm
  subst hm798
  rw [t2]
  refine vv_iload (pc := 801) x dd_La_law_801 rfl ?_
  refine vv_icmp_eq (pc := 803) x dd_La_law_803 (tgt := 808) (by decide) (fun h803 => ?_) (fun h803 => absurd h803 (fun z => z rfl))
  refine vv_iload (pc := 808) x dd_La_law_808 rfl ?_
  refine vv_if_ne (pc := 810) x dd_La_law_810 (tgt := 832) (by decide) (fun h810 => ?_) (fun h810 => ?_)
  · refine vv_goto (pc := 832) x dd_La_law_832 (tgt := 1646) (by decide) ?_
    exact vv_wide (by omega) (by omega) (kk _ _ _ LF)
  · refine vv_aload_n (pc := 813) x dd_La_law_813 rfl ?_
    refine vv_iconst (pc := 814) x dd_La_law_814 (0) (by decide) ?_
    refine vv_lald (pc := 815) x dd_La_law_815 to2 (in_n (i := 0) (N := 1) (by decide) no2 (by decide)) ?_
    refine vv_iload (pc := 816) x dd_La_law_816 rfl ?_
    refine vv_if_eq (pc := 818) x dd_La_law_818 (tgt := 825) (by decide) (fun h818 => ?_) (fun h818 => ?_)
    · refine vv_lconst (pc := 825) x dd_La_law_825 (v := 0) (by decide) ?_
      have hbv : (F_send Z (xs (nI i + 1).toNatClampNeg) (xs (nI i + 2).toNatClampNeg) (xs (nI i + 3).toNatClampNeg)).2.1 = 0 := (hb h810).symm.trans h818
      rw [show mm_l M792 out (0 : Int32).toNatClampNeg = (0 : Int64) from by rw [R2.2.2.1]; exact (hv h810).trans (by rw [hbv]; decide)]
      refine vv_lcmp (pc := 826) x dd_La_law_826 ?_
      rw [lcmp_self]
      refine vv_if_eq (pc := 827) x dd_La_law_827 (tgt := 832) (by decide) (fun h827 => ?_) (fun h827 => absurd h827 (fun z => z rfl))
      refine vv_goto (pc := 832) x dd_La_law_832 (tgt := 1646) (by decide) ?_
      exact vv_wide (by omega) (by omega) (kk _ _ _ LF)
    · refine vv_lconst (pc := 821) x dd_La_law_821 (v := 1) (by decide) ?_
      refine vv_goto (pc := 822) x dd_La_law_822 (tgt := 826) (by decide) ?_
      have hbv : (F_send Z (xs (nI i + 1).toNatClampNeg) (xs (nI i + 2).toNatClampNeg) (xs (nI i + 3).toNatClampNeg)).2.1 = 1 := (FB h810).resolve_left (fun z => h818 ((hb h810).trans z))
      rw [show mm_l M792 out (0 : Int32).toNatClampNeg = (1 : Int64) from by rw [R2.2.2.1]; exact (hv h810).trans (by rw [hbv]; decide)]
      refine vv_lcmp (pc := 826) x dd_La_law_826 ?_
      rw [lcmp_self]
      refine vv_if_eq (pc := 827) x dd_La_law_827 (tgt := 832) (by decide) (fun h827 => ?_) (fun h827 => absurd h827 (fun z => z rfl))
      refine vv_goto (pc := 832) x dd_La_law_832 (tgt := 1646) (by decide) ?_
      exact vv_wide (by omega) (by omega) (kk _ _ _ LF)
set_option maxRecDepth 100000 in
set_option maxHeartbeats 1000000 in
theorem arm_broadcast (G : gc g X t0 l) (x : cx g X "CopyHeapsLaw" nm cc_La_law 7 ret 12 436 601024 7293000 p R s m meth c9) (A : LI pw t0 n M o mo out) (hn : n < 512) (hX : sX g b L xs s) (hi : i + 4 < L) (hL : L ≤ 2561) (hc : cells + 10 ≤ 601024) (hs : slots + 1760 ≤ 7293000) {u5 u6 : Option Value} (kk : ∀ (M' : mm) (w5 w6 : Option Value), LI pw t0 (n + 1) M' o mo out → vv g 7 p l e R s m args below meth c9 Q (cells + 10) (slots + 1760) 1646 [some (.ref b), some (.ref o), some (.ref mo), some (.ref out), some (.int (nI i)), w5, w6] [] M') : vv g 7 p l e R s m args below meth c9 Q cells slots 835 [some (.ref b), some (.ref o), some (.ref mo), some (.ref out), some (.int (nI i)), u5, u6] [] M := by
  obtain ⟨D, ow, sl, La, Le, pl, Z, C, B, I, hs0, hDl, hto, hno⟩ := A
  have hp6 := C.2.1.2.2.2
  have hin1 : vp_in (nI i + 1) L := by rw [show nI i + 1 = nI (i + 1) from nI_add i 1]; exact vp_in_nI (by omega) (by omega)
  have hin2 : vp_in (nI i + 2) L := by rw [show nI i + 2 = nI (i + 2) from nI_add i 2]; exact vp_in_nI (by omega) (by omega)
  refine vv_aload_n (pc := 835) x dd_La_law_835 rfl ?_
  refine vv_aload_n (pc := 836) x dd_La_law_836 rfl ?_
  refine vv_iload (pc := 837) x dd_La_law_837 rfl ?_
  refine vv_iconst (pc := 839) x dd_La_law_839 (1) (by decide) ?_
  refine vv_iadd (pc := 840) x dd_La_law_840 ?_
  refine vv_sld (pc := 841) x dd_La_law_841 hX hin1 ?_
  refine vv_aload_n (pc := 842) x dd_La_law_842 rfl ?_
  refine vv_iload (pc := 843) x dd_La_law_843 rfl ?_
  refine vv_iconst (pc := 845) x dd_La_law_845 (2) (by decide) ?_
  refine vv_iadd (pc := 846) x dd_La_law_846 ?_
  refine vv_sld (pc := 847) x dd_La_law_847 hX hin2 ?_
  refine vv_aload_n (pc := 848) x dd_La_law_848 rfl ?_
  refine ly_La_broadcast (pc := 849) G x dd_La_law_849 (W_broadcast G C I hn hDl hs0 hto hno) ⟨by decide, by decide⟩ (by omega) (by omega) (Nat.le_of_ble_eq_true rfl) (fun v1 M1 q1 => ?_)
  obtain ⟨rfl, ⟨K1, D1, ow1, sl1, La1, Le1, s1, s2, s3, C1⟩, hv⟩ := q1
  have B1 := MI_kq B K1 C1.1 s1
  have hT1 : mm_t M1 mo = 8 := B1.1.2.2
  have to1 : mm_t M1 out = 101 := (K1.1 out (by rw [hto]; decide)).1.trans hto
  have no1 : mm_n M1 out = 1 := (K1.1 out (by rw [hto]; decide)).2.trans hno
  have IZ := FZ_broadcast I hp6 (xv := (xs (nI i + 1).toNatClampNeg)) (rv := (xs (nI i + 2).toNatClampNeg))
  refine vv_istore (pc := 852) x dd_La_law_852 (by decide) (ls2 := [_, _, _, _, _, _, _]) rfl ?_
  refine vv_aload_n (pc := 854) x dd_La_law_854 rfl ?_
  refine vv_aload_n (pc := 855) x dd_La_law_855 rfl ?_
  refine vv_iload (pc := 856) x dd_La_law_856 rfl ?_
  refine vv_iconst (pc := 858) x dd_La_law_858 (1) (by decide) ?_
  refine vv_iadd (pc := 859) x dd_La_law_859 ?_
  refine vv_sld (pc := 860) x dd_La_law_860 hX hin1 ?_
  refine vv_aload_n (pc := 861) x dd_La_law_861 rfl ?_
  refine vv_iload (pc := 862) x dd_La_law_862 rfl ?_
  refine vv_iconst (pc := 864) x dd_La_law_864 (2) (by decide) ?_
  refine vv_iadd (pc := 865) x dd_La_law_865 ?_
  refine vv_sld (pc := 866) x dd_La_law_866 hX hin2 ?_
  refine lv_La_151 (pc := 867) G x dd_La_law_867 (N_broadcast G B1 I hn hp6) hT1 ⟨by decide, by decide⟩ (by omega) (by omega) (Nat.le_of_ble_eq_true rfl) (fun v867 M867 q867 => ?_)
  obtain ⟨⟨bv, rfl, hb⟩, R2, t2, pl2, B2⟩ := q867
  have C2 := CI_rx C1 B1.1.2.1 B1.1.2.2 R2
  have hT2 : mm_t M867 mo = 8 := B2.1.2.2
  have to2 : mm_t M867 out = 101 := by rw [R2.1]; exact to1
  have no2 : mm_n M867 out = 1 := by rw [R2.2.1]; exact no1
  have LF : LI pw t0 (n + 1) M867 o mo out := ⟨D1, ow1, sl1, La1, Le1, pl2, _, C2, B2, IZ, s3, fun a ha => by rw [R2.1]; exact s2 a ha, to2, no2⟩
  refine vv_istore (pc := 870) x dd_La_law_870 (by decide) (ls2 := [_, _, _, _, _, _, _]) rfl ?_
  refine vv_aload_n (pc := 872) x dd_La_law_872 rfl ?_
  refine lv_La_110 (pc := 873) G x dd_La_law_873 (k_rthrown G hT2) hT2 ⟨by decide, by decide⟩ (by omega) (by omega) (Nat.le_of_ble_eq_true rfl) (fun v873 M873 q873 => ?_)
  obtain ⟨rfl, hm873⟩ := q873
  have hm873 := hm873.symm
  subst hm873
  rw [t2]
  refine vv_iload (pc := 876) x dd_La_law_876 rfl ?_
  refine vv_icmp_eq (pc := 878) x dd_La_law_878 (tgt := 883) (by decide) (fun h878 => ?_) (fun h878 => absurd h878 (fun z => z rfl))
  refine vv_iload (pc := 883) x dd_La_law_883 rfl ?_
  refine vv_if_ne (pc := 885) x dd_La_law_885 (tgt := 900) (by decide) (fun h885 => ?_) (fun h885 => ?_)
  · refine vv_goto (pc := 900) x dd_La_law_900 (tgt := 1646) (by decide) ?_
    exact vv_wide (by omega) (by omega) (kk _ _ _ LF)
  · refine vv_aload_n (pc := 888) x dd_La_law_888 rfl ?_
    refine vv_iconst (pc := 889) x dd_La_law_889 (0) (by decide) ?_
    refine vv_lald (pc := 890) x dd_La_law_890 to2 (in_n (i := 0) (N := 1) (by decide) no2 (by decide)) ?_
    refine vv_iload (pc := 891) x dd_La_law_891 rfl ?_
    refine vv_i2l (pc := 893) x dd_La_law_893 ?_
    rw [show mm_l M867 out (0 : Int32).toNatClampNeg = bv.toInt64 from by rw [R2.2.2.1, hb h885]; exact hv h885]
    refine vv_lcmp (pc := 894) x dd_La_law_894 ?_
    rw [lcmp_self]
    refine vv_if_eq (pc := 895) x dd_La_law_895 (tgt := 900) (by decide) (fun h895 => ?_) (fun h895 => absurd h895 (fun z => z rfl))
    refine vv_goto (pc := 900) x dd_La_law_900 (tgt := 1646) (by decide) ?_
    exact vv_wide (by omega) (by omega) (kk _ _ _ LF)
set_option maxRecDepth 100000 in
set_option maxHeartbeats 1000000 in
theorem arm_receive (G : gc g X t0 l) (x : cx g X "CopyHeapsLaw" nm cc_La_law 7 ret 12 436 601024 7293000 p R s m meth c9) (A : LI pw t0 n M o mo out) (hn : n < 512) (hX : sX g b L xs s) (hi : i + 4 < L) (hL : L ≤ 2561) (hc : cells + 10 ≤ 601024) (hs : slots + 1760 ≤ 7293000) {u5 u6 : Option Value} (kk : ∀ (M' : mm) (w5 w6 : Option Value), LI pw t0 (n + 1) M' o mo out → vv g 7 p l e R s m args below meth c9 Q (cells + 10) (slots + 1760) 1646 [some (.ref b), some (.ref o), some (.ref mo), some (.ref out), some (.int (nI i)), w5, w6] [] M') : vv g 7 p l e R s m args below meth c9 Q cells slots 903 [some (.ref b), some (.ref o), some (.ref mo), some (.ref out), some (.int (nI i)), u5, u6] [] M := by
  obtain ⟨D, ow, sl, La, Le, pl, Z, C, B, I, hs0, hDl, hto, hno⟩ := A
  have hp6 := C.2.1.2.2.2
  have hin1 : vp_in (nI i + 1) L := by rw [show nI i + 1 = nI (i + 1) from nI_add i 1]; exact vp_in_nI (by omega) (by omega)
  have hin2 : vp_in (nI i + 2) L := by rw [show nI i + 2 = nI (i + 2) from nI_add i 2]; exact vp_in_nI (by omega) (by omega)
  refine vv_aload_n (pc := 903) x dd_La_law_903 rfl ?_
  refine vv_aload_n (pc := 904) x dd_La_law_904 rfl ?_
  refine vv_iload (pc := 905) x dd_La_law_905 rfl ?_
  refine vv_iconst (pc := 907) x dd_La_law_907 (1) (by decide) ?_
  refine vv_iadd (pc := 908) x dd_La_law_908 ?_
  refine vv_sld (pc := 909) x dd_La_law_909 hX hin1 ?_
  refine vv_aload_n (pc := 910) x dd_La_law_910 rfl ?_
  refine vv_iload (pc := 911) x dd_La_law_911 rfl ?_
  refine vv_iconst (pc := 913) x dd_La_law_913 (2) (by decide) ?_
  refine vv_iadd (pc := 914) x dd_La_law_914 ?_
  refine vv_sld (pc := 915) x dd_La_law_915 hX hin2 ?_
  refine vv_aload_n (pc := 916) x dd_La_law_916 rfl ?_
  refine ly_La_receive (pc := 917) G x dd_La_law_917 (W_receive G C I hn hDl hs0 hto hno) ⟨by decide, by decide⟩ (by omega) (by omega) (Nat.le_of_ble_eq_true rfl) (fun v1 M1 q1 => ?_)
  obtain ⟨rfl, ⟨K1, D1, ow1, sl1, La1, Le1, s1, s2, s3, C1⟩, hv⟩ := q1
  have B1 := MI_kq B K1 C1.1 s1
  have hT1 : mm_t M1 mo = 8 := B1.1.2.2
  have to1 : mm_t M1 out = 101 := (K1.1 out (by rw [hto]; decide)).1.trans hto
  have no1 : mm_n M1 out = 1 := (K1.1 out (by rw [hto]; decide)).2.trans hno
  have IZ := FZ_receive I hp6 (xv := (xs (nI i + 1).toNatClampNeg)) (rv := (xs (nI i + 2).toNatClampNeg))
  refine vv_istore (pc := 920) x dd_La_law_920 (by decide) (ls2 := [_, _, _, _, _, _, _]) rfl ?_
  refine vv_aload_n (pc := 922) x dd_La_law_922 rfl ?_
  refine vv_aload_n (pc := 923) x dd_La_law_923 rfl ?_
  refine vv_iload (pc := 924) x dd_La_law_924 rfl ?_
  refine vv_iconst (pc := 926) x dd_La_law_926 (1) (by decide) ?_
  refine vv_iadd (pc := 927) x dd_La_law_927 ?_
  refine vv_sld (pc := 928) x dd_La_law_928 hX hin1 ?_
  refine vv_aload_n (pc := 929) x dd_La_law_929 rfl ?_
  refine vv_iload (pc := 930) x dd_La_law_930 rfl ?_
  refine vv_iconst (pc := 932) x dd_La_law_932 (2) (by decide) ?_
  refine vv_iadd (pc := 933) x dd_La_law_933 ?_
  refine vv_sld (pc := 934) x dd_La_law_934 hX hin2 ?_
  refine lv_La_154 (pc := 935) G x dd_La_law_935 (N_receive G B1 I hn hp6) hT1 ⟨by decide, by decide⟩ (by omega) (by omega) (Nat.le_of_ble_eq_true rfl) (fun v935 M935 q935 => ?_)
  obtain ⟨⟨bv, rfl, hb⟩, R2, t2, pl2, B2⟩ := q935
  have C2 := CI_rx C1 B1.1.2.1 B1.1.2.2 R2
  have hT2 : mm_t M935 mo = 8 := B2.1.2.2
  have to2 : mm_t M935 out = 101 := by rw [R2.1]; exact to1
  have no2 : mm_n M935 out = 1 := by rw [R2.2.1]; exact no1
  have LF : LI pw t0 (n + 1) M935 o mo out := ⟨D1, ow1, sl1, La1, Le1, pl2, _, C2, B2, IZ, s3, fun a ha => by rw [R2.1]; exact s2 a ha, to2, no2⟩
  refine vv_istore (pc := 938) x dd_La_law_938 (by decide) (ls2 := [_, _, _, _, _, _, _]) rfl ?_
  refine vv_aload_n (pc := 940) x dd_La_law_940 rfl ?_
  refine lv_La_110 (pc := 941) G x dd_La_law_941 (k_rthrown G hT2) hT2 ⟨by decide, by decide⟩ (by omega) (by omega) (Nat.le_of_ble_eq_true rfl) (fun v941 M941 q941 => ?_)
  obtain ⟨rfl, hm941⟩ := q941
  have hm941 := hm941.symm
  subst hm941
  rw [t2]
  refine vv_iload (pc := 944) x dd_La_law_944 rfl ?_
  refine vv_icmp_eq (pc := 946) x dd_La_law_946 (tgt := 951) (by decide) (fun h946 => ?_) (fun h946 => absurd h946 (fun z => z rfl))
  refine vv_iload (pc := 951) x dd_La_law_951 rfl ?_
  refine vv_if_ne (pc := 953) x dd_La_law_953 (tgt := 968) (by decide) (fun h953 => ?_) (fun h953 => ?_)
  · refine vv_goto (pc := 968) x dd_La_law_968 (tgt := 1646) (by decide) ?_
    exact vv_wide (by omega) (by omega) (kk _ _ _ LF)
  · refine vv_aload_n (pc := 956) x dd_La_law_956 rfl ?_
    refine vv_iconst (pc := 957) x dd_La_law_957 (0) (by decide) ?_
    refine vv_lald (pc := 958) x dd_La_law_958 to2 (in_n (i := 0) (N := 1) (by decide) no2 (by decide)) ?_
    refine vv_iload (pc := 959) x dd_La_law_959 rfl ?_
    refine vv_i2l (pc := 961) x dd_La_law_961 ?_
    rw [show mm_l M935 out (0 : Int32).toNatClampNeg = bv.toInt64 from by rw [R2.2.2.1, hb h953]; exact hv h953]
    refine vv_lcmp (pc := 962) x dd_La_law_962 ?_
    rw [lcmp_self]
    refine vv_if_eq (pc := 963) x dd_La_law_963 (tgt := 968) (by decide) (fun h963 => ?_) (fun h963 => absurd h963 (fun z => z rfl))
    refine vv_goto (pc := 968) x dd_La_law_968 (tgt := 1646) (by decide) ?_
    exact vv_wide (by omega) (by omega) (kk _ _ _ LF)
set_option maxRecDepth 100000 in
set_option maxHeartbeats 1000000 in
theorem arm_collect (G : gc g X t0 l) (x : cx g X "CopyHeapsLaw" nm cc_La_law 7 ret 12 436 601024 7293000 p R s m meth c9) (A : LI pw t0 n M o mo out) (hn : n < 512) (hX : sX g b L xs s) (hi : i + 4 < L) (hL : L ≤ 2561) (hc : cells + 10 ≤ 601024) (hs : slots + 1760 ≤ 7293000) {u5 u6 : Option Value} (kk : ∀ (M' : mm) (w5 w6 : Option Value), LI pw t0 (n + 1) M' o mo out → vv g 7 p l e R s m args below meth c9 Q (cells + 10) (slots + 1760) 1646 [some (.ref b), some (.ref o), some (.ref mo), some (.ref out), some (.int (nI i)), w5, w6] [] M') : vv g 7 p l e R s m args below meth c9 Q cells slots 971 [some (.ref b), some (.ref o), some (.ref mo), some (.ref out), some (.int (nI i)), u5, u6] [] M := by
  obtain ⟨D, ow, sl, La, Le, pl, Z, C, B, I, hs0, hDl, hto, hno⟩ := A
  have hp6 := C.2.1.2.2.2
  have hin1 : vp_in (nI i + 1) L := by rw [show nI i + 1 = nI (i + 1) from nI_add i 1]; exact vp_in_nI (by omega) (by omega)
  refine vv_aload_n (pc := 971) x dd_La_law_971 rfl ?_
  refine vv_aload_n (pc := 972) x dd_La_law_972 rfl ?_
  refine vv_iload (pc := 973) x dd_La_law_973 rfl ?_
  refine vv_iconst (pc := 975) x dd_La_law_975 (1) (by decide) ?_
  refine vv_iadd (pc := 976) x dd_La_law_976 ?_
  refine vv_sld (pc := 977) x dd_La_law_977 hX hin1 ?_
  refine vv_aload_n (pc := 978) x dd_La_law_978 rfl ?_
  refine ly_La_collect (pc := 979) G x dd_La_law_979 (W_collect G C I hn hDl hs0 hto hno) ⟨by decide, by decide⟩ (by omega) (by omega) (Nat.le_of_ble_eq_true rfl) (fun v1 M1 q1 => ?_)
  obtain ⟨rfl, ⟨K1, D1, ow1, sl1, La1, Le1, s1, s2, s3, C1⟩, hv⟩ := q1
  have B1 := MI_kq B K1 C1.1 s1
  have hT1 : mm_t M1 mo = 8 := B1.1.2.2
  have to1 : mm_t M1 out = 101 := (K1.1 out (by rw [hto]; decide)).1.trans hto
  have no1 : mm_n M1 out = 1 := (K1.1 out (by rw [hto]; decide)).2.trans hno
  have IZ := FZ_collect I hp6 (xv := (xs (nI i + 1).toNatClampNeg))
  refine vv_istore (pc := 982) x dd_La_law_982 (by decide) (ls2 := [_, _, _, _, _, _, _]) rfl ?_
  refine vv_aload_n (pc := 984) x dd_La_law_984 rfl ?_
  refine vv_aload_n (pc := 985) x dd_La_law_985 rfl ?_
  refine vv_iload (pc := 986) x dd_La_law_986 rfl ?_
  refine vv_iconst (pc := 988) x dd_La_law_988 (1) (by decide) ?_
  refine vv_iadd (pc := 989) x dd_La_law_989 ?_
  refine vv_sld (pc := 990) x dd_La_law_990 hX hin1 ?_
  refine lv_La_157 (pc := 991) G x dd_La_law_991 (N_collect G B1 I hn hp6) hT1 ⟨by decide, by decide⟩ (by omega) (by omega) (Nat.le_of_ble_eq_true rfl) (fun v991 M991 q991 => ?_)
  obtain ⟨⟨bv, rfl, hb⟩, R2, t2, pl2, B2⟩ := q991
  have C2 := CI_rx C1 B1.1.2.1 B1.1.2.2 R2
  have hT2 : mm_t M991 mo = 8 := B2.1.2.2
  have to2 : mm_t M991 out = 101 := by rw [R2.1]; exact to1
  have no2 : mm_n M991 out = 1 := by rw [R2.2.1]; exact no1
  have LF : LI pw t0 (n + 1) M991 o mo out := ⟨D1, ow1, sl1, La1, Le1, pl2, _, C2, B2, IZ, s3, fun a ha => by rw [R2.1]; exact s2 a ha, to2, no2⟩
  refine vv_istore (pc := 994) x dd_La_law_994 (by decide) (ls2 := [_, _, _, _, _, _, _]) rfl ?_
  refine vv_aload_n (pc := 996) x dd_La_law_996 rfl ?_
  refine lv_La_110 (pc := 997) G x dd_La_law_997 (k_rthrown G hT2) hT2 ⟨by decide, by decide⟩ (by omega) (by omega) (Nat.le_of_ble_eq_true rfl) (fun v997 M997 q997 => ?_)
  obtain ⟨rfl, hm997⟩ := q997
  have hm997 := hm997.symm
  subst hm997
  rw [t2]
  refine vv_iload (pc := 1000) x dd_La_law_1000 rfl ?_
  refine vv_icmp_eq (pc := 1002) x dd_La_law_1002 (tgt := 1007) (by decide) (fun h1002 => ?_) (fun h1002 => absurd h1002 (fun z => z rfl))
  refine vv_iload (pc := 1007) x dd_La_law_1007 rfl ?_
  refine vv_if_ne (pc := 1009) x dd_La_law_1009 (tgt := 1024) (by decide) (fun h1009 => ?_) (fun h1009 => ?_)
  · refine vv_goto (pc := 1024) x dd_La_law_1024 (tgt := 1646) (by decide) ?_
    exact vv_wide (by omega) (by omega) (kk _ _ _ LF)
  · refine vv_aload_n (pc := 1012) x dd_La_law_1012 rfl ?_
    refine vv_iconst (pc := 1013) x dd_La_law_1013 (0) (by decide) ?_
    refine vv_lald (pc := 1014) x dd_La_law_1014 to2 (in_n (i := 0) (N := 1) (by decide) no2 (by decide)) ?_
    refine vv_iload (pc := 1015) x dd_La_law_1015 rfl ?_
    refine vv_i2l (pc := 1017) x dd_La_law_1017 ?_
    rw [show mm_l M991 out (0 : Int32).toNatClampNeg = bv.toInt64 from by rw [R2.2.2.1, hb h1009]; exact hv h1009]
    refine vv_lcmp (pc := 1018) x dd_La_law_1018 ?_
    rw [lcmp_self]
    refine vv_if_eq (pc := 1019) x dd_La_law_1019 (tgt := 1024) (by decide) (fun h1019 => ?_) (fun h1019 => absurd h1019 (fun z => z rfl))
    refine vv_goto (pc := 1024) x dd_La_law_1024 (tgt := 1646) (by decide) ?_
    exact vv_wide (by omega) (by omega) (kk _ _ _ LF)
set_option maxRecDepth 100000 in
set_option maxHeartbeats 1000000 in
theorem arm_trim (G : gc g X t0 l) (x : cx g X "CopyHeapsLaw" nm cc_La_law 7 ret 12 436 601024 7293000 p R s m meth c9) (A : LI pw t0 n M o mo out) (hn : n < 512) (hX : sX g b L xs s) (hi : i + 4 < L) (hL : L ≤ 2561) (hc : cells + 10 ≤ 601024) (hs : slots + 1760 ≤ 7293000) {u5 u6 : Option Value} (kk : ∀ (M' : mm) (w5 w6 : Option Value), LI pw t0 (n + 1) M' o mo out → vv g 7 p l e R s m args below meth c9 Q (cells + 10) (slots + 1760) 1646 [some (.ref b), some (.ref o), some (.ref mo), some (.ref out), some (.int (nI i)), w5, w6] [] M') : vv g 7 p l e R s m args below meth c9 Q cells slots 1027 [some (.ref b), some (.ref o), some (.ref mo), some (.ref out), some (.int (nI i)), u5, u6] [] M := by
  obtain ⟨D, ow, sl, La, Le, pl, Z, C, B, I, hs0, hDl, hto, hno⟩ := A
  have hp6 := C.2.1.2.2.2
  have hin1 : vp_in (nI i + 1) L := by rw [show nI i + 1 = nI (i + 1) from nI_add i 1]; exact vp_in_nI (by omega) (by omega)
  refine vv_aload_n (pc := 1027) x dd_La_law_1027 rfl ?_
  refine vv_aload_n (pc := 1028) x dd_La_law_1028 rfl ?_
  refine vv_iload (pc := 1029) x dd_La_law_1029 rfl ?_
  refine vv_iconst (pc := 1031) x dd_La_law_1031 (1) (by decide) ?_
  refine vv_iadd (pc := 1032) x dd_La_law_1032 ?_
  refine vv_sld (pc := 1033) x dd_La_law_1033 hX hin1 ?_
  refine vv_aload_n (pc := 1034) x dd_La_law_1034 rfl ?_
  refine ly_La_trim (pc := 1035) G x dd_La_law_1035 (W_trim G C I hn hDl hs0 hto hno) ⟨by decide, by decide⟩ (by omega) (by omega) (Nat.le_of_ble_eq_true rfl) (fun v1 M1 q1 => ?_)
  obtain ⟨rfl, ⟨K1, D1, ow1, sl1, La1, Le1, s1, s2, s3, C1⟩, hv⟩ := q1
  have B1 := MI_kq B K1 C1.1 s1
  have hT1 : mm_t M1 mo = 8 := B1.1.2.2
  have to1 : mm_t M1 out = 101 := (K1.1 out (by rw [hto]; decide)).1.trans hto
  have no1 : mm_n M1 out = 1 := (K1.1 out (by rw [hto]; decide)).2.trans hno
  have IZ := FZ_trim I hp6 (xv := (xs (nI i + 1).toNatClampNeg))
  refine vv_istore (pc := 1038) x dd_La_law_1038 (by decide) (ls2 := [_, _, _, _, _, _, _]) rfl ?_
  refine vv_aload_n (pc := 1040) x dd_La_law_1040 rfl ?_
  refine vv_aload_n (pc := 1041) x dd_La_law_1041 rfl ?_
  refine vv_iload (pc := 1042) x dd_La_law_1042 rfl ?_
  refine vv_iconst (pc := 1044) x dd_La_law_1044 (1) (by decide) ?_
  refine vv_iadd (pc := 1045) x dd_La_law_1045 ?_
  refine vv_sld (pc := 1046) x dd_La_law_1046 hX hin1 ?_
  refine lv_La_160 (pc := 1047) G x dd_La_law_1047 (N_trim G B1 I hn hp6) hT1 ⟨by decide, by decide⟩ (by omega) (by omega) (Nat.le_of_ble_eq_true rfl) (fun v1047 M1047 q1047 => ?_)
  obtain ⟨⟨bv, rfl, hb⟩, R2, t2, pl2, B2⟩ := q1047
  have C2 := CI_rx C1 B1.1.2.1 B1.1.2.2 R2
  have hT2 : mm_t M1047 mo = 8 := B2.1.2.2
  have to2 : mm_t M1047 out = 101 := by rw [R2.1]; exact to1
  have no2 : mm_n M1047 out = 1 := by rw [R2.2.1]; exact no1
  have LF : LI pw t0 (n + 1) M1047 o mo out := ⟨D1, ow1, sl1, La1, Le1, pl2, _, C2, B2, IZ, s3, fun a ha => by rw [R2.1]; exact s2 a ha, to2, no2⟩
  refine vv_istore (pc := 1050) x dd_La_law_1050 (by decide) (ls2 := [_, _, _, _, _, _, _]) rfl ?_
  refine vv_aload_n (pc := 1052) x dd_La_law_1052 rfl ?_
  refine lv_La_110 (pc := 1053) G x dd_La_law_1053 (k_rthrown G hT2) hT2 ⟨by decide, by decide⟩ (by omega) (by omega) (Nat.le_of_ble_eq_true rfl) (fun v1053 M1053 q1053 => ?_)
  obtain ⟨rfl, hm1053⟩ := q1053
  have hm1053 := hm1053.symm
  subst hm1053
  rw [t2]
  refine vv_iload (pc := 1056) x dd_La_law_1056 rfl ?_
  refine vv_icmp_eq (pc := 1058) x dd_La_law_1058 (tgt := 1063) (by decide) (fun h1058 => ?_) (fun h1058 => absurd h1058 (fun z => z rfl))
  refine vv_iload (pc := 1063) x dd_La_law_1063 rfl ?_
  refine vv_if_ne (pc := 1065) x dd_La_law_1065 (tgt := 1080) (by decide) (fun h1065 => ?_) (fun h1065 => ?_)
  · refine vv_goto (pc := 1080) x dd_La_law_1080 (tgt := 1646) (by decide) ?_
    exact vv_wide (by omega) (by omega) (kk _ _ _ LF)
  · refine vv_aload_n (pc := 1068) x dd_La_law_1068 rfl ?_
    refine vv_iconst (pc := 1069) x dd_La_law_1069 (0) (by decide) ?_
    refine vv_lald (pc := 1070) x dd_La_law_1070 to2 (in_n (i := 0) (N := 1) (by decide) no2 (by decide)) ?_
    refine vv_iload (pc := 1071) x dd_La_law_1071 rfl ?_
    refine vv_i2l (pc := 1073) x dd_La_law_1073 ?_
    rw [show mm_l M1047 out (0 : Int32).toNatClampNeg = bv.toInt64 from by rw [R2.2.2.1, hb h1065]; exact hv h1065]
    refine vv_lcmp (pc := 1074) x dd_La_law_1074 ?_
    rw [lcmp_self]
    refine vv_if_eq (pc := 1075) x dd_La_law_1075 (tgt := 1080) (by decide) (fun h1075 => ?_) (fun h1075 => absurd h1075 (fun z => z rfl))
    refine vv_goto (pc := 1080) x dd_La_law_1080 (tgt := 1646) (by decide) ?_
    exact vv_wide (by omega) (by omega) (kk _ _ _ LF)
set_option maxRecDepth 100000 in
set_option maxHeartbeats 1000000 in
theorem arm_count (G : gc g X t0 l) (x : cx g X "CopyHeapsLaw" nm cc_La_law 7 ret 12 436 601024 7293000 p R s m meth c9) (A : LI pw t0 n M o mo out) (hn : n < 512) (hX : sX g b L xs s) (hi : i + 4 < L) (hL : L ≤ 2561) (hc : cells + 10 ≤ 601024) (hs : slots + 1760 ≤ 7293000) {u5 u6 : Option Value} (kk : ∀ (M' : mm) (w5 w6 : Option Value), LI pw t0 (n + 1) M' o mo out → vv g 7 p l e R s m args below meth c9 Q (cells + 10) (slots + 1760) 1646 [some (.ref b), some (.ref o), some (.ref mo), some (.ref out), some (.int (nI i)), w5, w6] [] M') : vv g 7 p l e R s m args below meth c9 Q cells slots 1083 [some (.ref b), some (.ref o), some (.ref mo), some (.ref out), some (.int (nI i)), u5, u6] [] M := by
  obtain ⟨D, ow, sl, La, Le, pl, Z, C, B, I, hs0, hDl, hto, hno⟩ := A
  have hp6 := C.2.1.2.2.2
  have hin1 : vp_in (nI i + 1) L := by rw [show nI i + 1 = nI (i + 1) from nI_add i 1]; exact vp_in_nI (by omega) (by omega)
  refine vv_aload_n (pc := 1083) x dd_La_law_1083 rfl ?_
  refine vv_aload_n (pc := 1084) x dd_La_law_1084 rfl ?_
  refine vv_iload (pc := 1085) x dd_La_law_1085 rfl ?_
  refine vv_iconst (pc := 1087) x dd_La_law_1087 (1) (by decide) ?_
  refine vv_iadd (pc := 1088) x dd_La_law_1088 ?_
  refine vv_sld (pc := 1089) x dd_La_law_1089 hX hin1 ?_
  refine vv_aload_n (pc := 1090) x dd_La_law_1090 rfl ?_
  refine ly_La_count (pc := 1091) G x dd_La_law_1091 (W_count G C I hn hDl hs0 hto hno) ⟨by decide, by decide⟩ (by omega) (by omega) (Nat.le_of_ble_eq_true rfl) (fun v1 M1 q1 => ?_)
  obtain ⟨rfl, ⟨K1, D1, ow1, sl1, La1, Le1, s1, s2, s3, C1⟩, hv⟩ := q1
  have B1 := MI_kq B K1 C1.1 s1
  have hT1 : mm_t M1 mo = 8 := B1.1.2.2
  have to1 : mm_t M1 out = 101 := (K1.1 out (by rw [hto]; decide)).1.trans hto
  have no1 : mm_n M1 out = 1 := (K1.1 out (by rw [hto]; decide)).2.trans hno
  have IZ := FZ_count I hp6 (wq := (xs (nI i + 1).toNatClampNeg))
  refine vv_istore (pc := 1094) x dd_La_law_1094 (by decide) (ls2 := [_, _, _, _, _, _, _]) rfl ?_
  refine vv_aload_n (pc := 1096) x dd_La_law_1096 rfl ?_
  refine vv_aload_n (pc := 1097) x dd_La_law_1097 rfl ?_
  refine vv_iload (pc := 1098) x dd_La_law_1098 rfl ?_
  refine vv_iconst (pc := 1100) x dd_La_law_1100 (1) (by decide) ?_
  refine vv_iadd (pc := 1101) x dd_La_law_1101 ?_
  refine vv_sld (pc := 1102) x dd_La_law_1102 hX hin1 ?_
  refine lv_La_163 (pc := 1103) G x dd_La_law_1103 (N_count G B1 I hn hp6) hT1 ⟨by decide, by decide⟩ (by omega) (by omega) (Nat.le_of_ble_eq_true rfl) (fun v1103 M1103 q1103 => ?_)
  obtain ⟨⟨bv, rfl, hb⟩, R2, t2, pl2, B2⟩ := q1103
  have C2 := CI_rx C1 B1.1.2.1 B1.1.2.2 R2
  have hT2 : mm_t M1103 mo = 8 := B2.1.2.2
  have to2 : mm_t M1103 out = 101 := by rw [R2.1]; exact to1
  have no2 : mm_n M1103 out = 1 := by rw [R2.2.1]; exact no1
  have LF : LI pw t0 (n + 1) M1103 o mo out := ⟨D1, ow1, sl1, La1, Le1, pl2, _, C2, B2, IZ, s3, fun a ha => by rw [R2.1]; exact s2 a ha, to2, no2⟩
  refine vv_istore (pc := 1106) x dd_La_law_1106 (by decide) (ls2 := [_, _, _, _, _, _, _]) rfl ?_
  refine vv_aload_n (pc := 1108) x dd_La_law_1108 rfl ?_
  refine lv_La_110 (pc := 1109) G x dd_La_law_1109 (k_rthrown G hT2) hT2 ⟨by decide, by decide⟩ (by omega) (by omega) (Nat.le_of_ble_eq_true rfl) (fun v1109 M1109 q1109 => ?_)
  obtain ⟨rfl, hm1109⟩ := q1109
  have hm1109 := hm1109.symm
  subst hm1109
  rw [t2]
  refine vv_iload (pc := 1112) x dd_La_law_1112 rfl ?_
  refine vv_icmp_eq (pc := 1114) x dd_La_law_1114 (tgt := 1119) (by decide) (fun h1114 => ?_) (fun h1114 => absurd h1114 (fun z => z rfl))
  refine vv_iload (pc := 1119) x dd_La_law_1119 rfl ?_
  refine vv_if_ne (pc := 1121) x dd_La_law_1121 (tgt := 1136) (by decide) (fun h1121 => ?_) (fun h1121 => ?_)
  · refine vv_goto (pc := 1136) x dd_La_law_1136 (tgt := 1646) (by decide) ?_
    exact vv_wide (by omega) (by omega) (kk _ _ _ LF)
  · refine vv_aload_n (pc := 1124) x dd_La_law_1124 rfl ?_
    refine vv_iconst (pc := 1125) x dd_La_law_1125 (0) (by decide) ?_
    refine vv_lald (pc := 1126) x dd_La_law_1126 to2 (in_n (i := 0) (N := 1) (by decide) no2 (by decide)) ?_
    refine vv_iload (pc := 1127) x dd_La_law_1127 rfl ?_
    refine vv_i2l (pc := 1129) x dd_La_law_1129 ?_
    rw [show mm_l M1103 out (0 : Int32).toNatClampNeg = bv.toInt64 from by rw [R2.2.2.1, hb h1121]; exact hv h1121]
    refine vv_lcmp (pc := 1130) x dd_La_law_1130 ?_
    rw [lcmp_self]
    refine vv_if_eq (pc := 1131) x dd_La_law_1131 (tgt := 1136) (by decide) (fun h1131 => ?_) (fun h1131 => absurd h1131 (fun z => z rfl))
    refine vv_goto (pc := 1136) x dd_La_law_1136 (tgt := 1646) (by decide) ?_
    exact vv_wide (by omega) (by omega) (kk _ _ _ LF)
set_option maxRecDepth 100000 in
set_option maxHeartbeats 1000000 in
theorem arm_of (G : gc g X t0 l) (x : cx g X "CopyHeapsLaw" nm cc_La_law 7 ret 12 436 601024 7293000 p R s m meth c9) (A : LI pw t0 n M o mo out) (hn : n < 512) (hX : sX g b L xs s) (hi : i + 4 < L) (hL : L ≤ 2561) (hc : cells + 10 ≤ 601024) (hs : slots + 1760 ≤ 7293000) {u5 u6 : Option Value} (kk : ∀ (M' : mm) (w5 w6 : Option Value), LI pw t0 (n + 1) M' o mo out → vv g 7 p l e R s m args below meth c9 Q (cells + 10) (slots + 1760) 1646 [some (.ref b), some (.ref o), some (.ref mo), some (.ref out), some (.int (nI i)), w5, w6] [] M') : vv g 7 p l e R s m args below meth c9 Q cells slots 1139 [some (.ref b), some (.ref o), some (.ref mo), some (.ref out), some (.int (nI i)), u5, u6] [] M := by
  obtain ⟨D, ow, sl, La, Le, pl, Z, C, B, I, hs0, hDl, hto, hno⟩ := A
  have hp6 := C.2.1.2.2.2
  have hin1 : vp_in (nI i + 1) L := by rw [show nI i + 1 = nI (i + 1) from nI_add i 1]; exact vp_in_nI (by omega) (by omega)
  have hin2 : vp_in (nI i + 2) L := by rw [show nI i + 2 = nI (i + 2) from nI_add i 2]; exact vp_in_nI (by omega) (by omega)
  refine vv_aload_n (pc := 1139) x dd_La_law_1139 rfl ?_
  refine vv_aload_n (pc := 1140) x dd_La_law_1140 rfl ?_
  refine vv_iload (pc := 1141) x dd_La_law_1141 rfl ?_
  refine vv_iconst (pc := 1143) x dd_La_law_1143 (1) (by decide) ?_
  refine vv_iadd (pc := 1144) x dd_La_law_1144 ?_
  refine vv_sld (pc := 1145) x dd_La_law_1145 hX hin1 ?_
  refine vv_aload_n (pc := 1146) x dd_La_law_1146 rfl ?_
  refine vv_iload (pc := 1147) x dd_La_law_1147 rfl ?_
  refine vv_iconst (pc := 1149) x dd_La_law_1149 (2) (by decide) ?_
  refine vv_iadd (pc := 1150) x dd_La_law_1150 ?_
  refine vv_sld (pc := 1151) x dd_La_law_1151 hX hin2 ?_
  refine vv_aload_n (pc := 1152) x dd_La_law_1152 rfl ?_
  refine ly_La_of (pc := 1153) G x dd_La_law_1153 (W_of G C I hn hDl hs0 hto hno) ⟨by decide, by decide⟩ (by omega) (by omega) (Nat.le_of_ble_eq_true rfl) (fun v1 M1 q1 => ?_)
  obtain ⟨rfl, ⟨K1, D1, ow1, sl1, La1, Le1, s1, s2, s3, C1⟩, hv⟩ := q1
  have B1 := MI_kq B K1 C1.1 s1
  have hT1 : mm_t M1 mo = 8 := B1.1.2.2
  have to1 : mm_t M1 out = 101 := (K1.1 out (by rw [hto]; decide)).1.trans hto
  have no1 : mm_n M1 out = 1 := (K1.1 out (by rw [hto]; decide)).2.trans hno
  have IZ := FZ_of I hp6 (xv := (xs (nI i + 1).toNatClampNeg)) (wq := (xs (nI i + 2).toNatClampNeg))
  refine vv_istore (pc := 1156) x dd_La_law_1156 (by decide) (ls2 := [_, _, _, _, _, _, _]) rfl ?_
  refine vv_aload_n (pc := 1158) x dd_La_law_1158 rfl ?_
  refine vv_aload_n (pc := 1159) x dd_La_law_1159 rfl ?_
  refine vv_iload (pc := 1160) x dd_La_law_1160 rfl ?_
  refine vv_iconst (pc := 1162) x dd_La_law_1162 (1) (by decide) ?_
  refine vv_iadd (pc := 1163) x dd_La_law_1163 ?_
  refine vv_sld (pc := 1164) x dd_La_law_1164 hX hin1 ?_
  refine vv_aload_n (pc := 1165) x dd_La_law_1165 rfl ?_
  refine vv_iload (pc := 1166) x dd_La_law_1166 rfl ?_
  refine vv_iconst (pc := 1168) x dd_La_law_1168 (2) (by decide) ?_
  refine vv_iadd (pc := 1169) x dd_La_law_1169 ?_
  refine vv_sld (pc := 1170) x dd_La_law_1170 hX hin2 ?_
  refine lv_La_166 (pc := 1171) G x dd_La_law_1171 (N_of G B1 I hn hp6) hT1 ⟨by decide, by decide⟩ (by omega) (by omega) (Nat.le_of_ble_eq_true rfl) (fun v1171 M1171 q1171 => ?_)
  obtain ⟨⟨bv, rfl, hb⟩, R2, t2, pl2, B2⟩ := q1171
  have C2 := CI_rx C1 B1.1.2.1 B1.1.2.2 R2
  have hT2 : mm_t M1171 mo = 8 := B2.1.2.2
  have to2 : mm_t M1171 out = 101 := by rw [R2.1]; exact to1
  have no2 : mm_n M1171 out = 1 := by rw [R2.2.1]; exact no1
  have LF : LI pw t0 (n + 1) M1171 o mo out := ⟨D1, ow1, sl1, La1, Le1, pl2, _, C2, B2, IZ, s3, fun a ha => by rw [R2.1]; exact s2 a ha, to2, no2⟩
  refine vv_istore (pc := 1174) x dd_La_law_1174 (by decide) (ls2 := [_, _, _, _, _, _, _]) rfl ?_
  refine vv_aload_n (pc := 1176) x dd_La_law_1176 rfl ?_
  refine lv_La_110 (pc := 1177) G x dd_La_law_1177 (k_rthrown G hT2) hT2 ⟨by decide, by decide⟩ (by omega) (by omega) (Nat.le_of_ble_eq_true rfl) (fun v1177 M1177 q1177 => ?_)
  obtain ⟨rfl, hm1177⟩ := q1177
  have hm1177 := hm1177.symm
  subst hm1177
  rw [t2]
  refine vv_iload (pc := 1180) x dd_La_law_1180 rfl ?_
  refine vv_icmp_eq (pc := 1182) x dd_La_law_1182 (tgt := 1187) (by decide) (fun h1182 => ?_) (fun h1182 => absurd h1182 (fun z => z rfl))
  refine vv_iload (pc := 1187) x dd_La_law_1187 rfl ?_
  refine vv_if_ne (pc := 1189) x dd_La_law_1189 (tgt := 1204) (by decide) (fun h1189 => ?_) (fun h1189 => ?_)
  · refine vv_goto (pc := 1204) x dd_La_law_1204 (tgt := 1646) (by decide) ?_
    exact vv_wide (by omega) (by omega) (kk _ _ _ LF)
  · refine vv_aload_n (pc := 1192) x dd_La_law_1192 rfl ?_
    refine vv_iconst (pc := 1193) x dd_La_law_1193 (0) (by decide) ?_
    refine vv_lald (pc := 1194) x dd_La_law_1194 to2 (in_n (i := 0) (N := 1) (by decide) no2 (by decide)) ?_
    refine vv_iload (pc := 1195) x dd_La_law_1195 rfl ?_
    refine vv_i2l (pc := 1197) x dd_La_law_1197 ?_
    rw [show mm_l M1171 out (0 : Int32).toNatClampNeg = bv.toInt64 from by rw [R2.2.2.1, hb h1189]; exact hv h1189]
    refine vv_lcmp (pc := 1198) x dd_La_law_1198 ?_
    rw [lcmp_self]
    refine vv_if_eq (pc := 1199) x dd_La_law_1199 (tgt := 1204) (by decide) (fun h1199 => ?_) (fun h1199 => absurd h1199 (fun z => z rfl))
    refine vv_goto (pc := 1204) x dd_La_law_1204 (tgt := 1646) (by decide) ?_
    exact vv_wide (by omega) (by omega) (kk _ _ _ LF)
set_option maxRecDepth 100000 in
set_option maxHeartbeats 1000000 in
theorem arm_kind (G : gc g X t0 l) (x : cx g X "CopyHeapsLaw" nm cc_La_law 7 ret 12 436 601024 7293000 p R s m meth c9) (A : LI pw t0 n M o mo out) (hn : n < 512) (hX : sX g b L xs s) (hi : i + 4 < L) (hL : L ≤ 2561) (hc : cells + 10 ≤ 601024) (hs : slots + 1760 ≤ 7293000) {u5 u6 : Option Value} (kk : ∀ (M' : mm) (w5 w6 : Option Value), LI pw t0 (n + 1) M' o mo out → vv g 7 p l e R s m args below meth c9 Q (cells + 10) (slots + 1760) 1646 [some (.ref b), some (.ref o), some (.ref mo), some (.ref out), some (.int (nI i)), w5, w6] [] M') : vv g 7 p l e R s m args below meth c9 Q cells slots 1207 [some (.ref b), some (.ref o), some (.ref mo), some (.ref out), some (.int (nI i)), u5, u6] [] M := by
  obtain ⟨D, ow, sl, La, Le, pl, Z, C, B, I, hs0, hDl, hto, hno⟩ := A
  have hp6 := C.2.1.2.2.2
  have hin1 : vp_in (nI i + 1) L := by rw [show nI i + 1 = nI (i + 1) from nI_add i 1]; exact vp_in_nI (by omega) (by omega)
  have hin2 : vp_in (nI i + 2) L := by rw [show nI i + 2 = nI (i + 2) from nI_add i 2]; exact vp_in_nI (by omega) (by omega)
  refine vv_aload_n (pc := 1207) x dd_La_law_1207 rfl ?_
  refine vv_aload_n (pc := 1208) x dd_La_law_1208 rfl ?_
  refine vv_iload (pc := 1209) x dd_La_law_1209 rfl ?_
  refine vv_iconst (pc := 1211) x dd_La_law_1211 (1) (by decide) ?_
  refine vv_iadd (pc := 1212) x dd_La_law_1212 ?_
  refine vv_sld (pc := 1213) x dd_La_law_1213 hX hin1 ?_
  refine vv_aload_n (pc := 1214) x dd_La_law_1214 rfl ?_
  refine vv_iload (pc := 1215) x dd_La_law_1215 rfl ?_
  refine vv_iconst (pc := 1217) x dd_La_law_1217 (2) (by decide) ?_
  refine vv_iadd (pc := 1218) x dd_La_law_1218 ?_
  refine vv_sld (pc := 1219) x dd_La_law_1219 hX hin2 ?_
  refine vv_aload_n (pc := 1220) x dd_La_law_1220 rfl ?_
  refine ly_La_kind (pc := 1221) G x dd_La_law_1221 (W_kind G C I hn hDl hs0 hto hno) ⟨by decide, by decide⟩ (by omega) (by omega) (Nat.le_of_ble_eq_true rfl) (fun v1 M1 q1 => ?_)
  obtain ⟨rfl, ⟨K1, D1, ow1, sl1, La1, Le1, s1, s2, s3, C1⟩, hv⟩ := q1
  have B1 := MI_kq B K1 C1.1 s1
  have hT1 : mm_t M1 mo = 8 := B1.1.2.2
  have to1 : mm_t M1 out = 101 := (K1.1 out (by rw [hto]; decide)).1.trans hto
  have no1 : mm_n M1 out = 1 := (K1.1 out (by rw [hto]; decide)).2.trans hno
  have IZ := FZ_kind I hp6 (xv := (xs (nI i + 1).toNatClampNeg)) (rv := (xs (nI i + 2).toNatClampNeg))
  refine vv_istore (pc := 1224) x dd_La_law_1224 (by decide) (ls2 := [_, _, _, _, _, _, _]) rfl ?_
  refine vv_aload_n (pc := 1226) x dd_La_law_1226 rfl ?_
  refine vv_aload_n (pc := 1227) x dd_La_law_1227 rfl ?_
  refine vv_iload (pc := 1228) x dd_La_law_1228 rfl ?_
  refine vv_iconst (pc := 1230) x dd_La_law_1230 (1) (by decide) ?_
  refine vv_iadd (pc := 1231) x dd_La_law_1231 ?_
  refine vv_sld (pc := 1232) x dd_La_law_1232 hX hin1 ?_
  refine vv_aload_n (pc := 1233) x dd_La_law_1233 rfl ?_
  refine vv_iload (pc := 1234) x dd_La_law_1234 rfl ?_
  refine vv_iconst (pc := 1236) x dd_La_law_1236 (2) (by decide) ?_
  refine vv_iadd (pc := 1237) x dd_La_law_1237 ?_
  refine vv_sld (pc := 1238) x dd_La_law_1238 hX hin2 ?_
  refine lv_La_169 (pc := 1239) G x dd_La_law_1239 (N_kind G B1 I hn hp6) hT1 ⟨by decide, by decide⟩ (by omega) (by omega) (Nat.le_of_ble_eq_true rfl) (fun v1239 M1239 q1239 => ?_)
  obtain ⟨⟨bv, rfl, hb⟩, R2, t2, pl2, B2⟩ := q1239
  have C2 := CI_rx C1 B1.1.2.1 B1.1.2.2 R2
  have hT2 : mm_t M1239 mo = 8 := B2.1.2.2
  have to2 : mm_t M1239 out = 101 := by rw [R2.1]; exact to1
  have no2 : mm_n M1239 out = 1 := by rw [R2.2.1]; exact no1
  have LF : LI pw t0 (n + 1) M1239 o mo out := ⟨D1, ow1, sl1, La1, Le1, pl2, _, C2, B2, IZ, s3, fun a ha => by rw [R2.1]; exact s2 a ha, to2, no2⟩
  refine vv_istore (pc := 1242) x dd_La_law_1242 (by decide) (ls2 := [_, _, _, _, _, _, _]) rfl ?_
  refine vv_aload_n (pc := 1244) x dd_La_law_1244 rfl ?_
  refine lv_La_110 (pc := 1245) G x dd_La_law_1245 (k_rthrown G hT2) hT2 ⟨by decide, by decide⟩ (by omega) (by omega) (Nat.le_of_ble_eq_true rfl) (fun v1245 M1245 q1245 => ?_)
  obtain ⟨rfl, hm1245⟩ := q1245
  have hm1245 := hm1245.symm
  subst hm1245
  rw [t2]
  refine vv_iload (pc := 1248) x dd_La_law_1248 rfl ?_
  refine vv_icmp_eq (pc := 1250) x dd_La_law_1250 (tgt := 1255) (by decide) (fun h1250 => ?_) (fun h1250 => absurd h1250 (fun z => z rfl))
  refine vv_iload (pc := 1255) x dd_La_law_1255 rfl ?_
  refine vv_if_ne (pc := 1257) x dd_La_law_1257 (tgt := 1272) (by decide) (fun h1257 => ?_) (fun h1257 => ?_)
  · refine vv_goto (pc := 1272) x dd_La_law_1272 (tgt := 1646) (by decide) ?_
    exact vv_wide (by omega) (by omega) (kk _ _ _ LF)
  · refine vv_aload_n (pc := 1260) x dd_La_law_1260 rfl ?_
    refine vv_iconst (pc := 1261) x dd_La_law_1261 (0) (by decide) ?_
    refine vv_lald (pc := 1262) x dd_La_law_1262 to2 (in_n (i := 0) (N := 1) (by decide) no2 (by decide)) ?_
    refine vv_iload (pc := 1263) x dd_La_law_1263 rfl ?_
    refine vv_i2l (pc := 1265) x dd_La_law_1265 ?_
    rw [show mm_l M1239 out (0 : Int32).toNatClampNeg = bv.toInt64 from by rw [R2.2.2.1, hb h1257]; exact hv h1257]
    refine vv_lcmp (pc := 1266) x dd_La_law_1266 ?_
    rw [lcmp_self]
    refine vv_if_eq (pc := 1267) x dd_La_law_1267 (tgt := 1272) (by decide) (fun h1267 => ?_) (fun h1267 => absurd h1267 (fun z => z rfl))
    refine vv_goto (pc := 1272) x dd_La_law_1272 (tgt := 1646) (by decide) ?_
    exact vv_wide (by omega) (by omega) (kk _ _ _ LF)
set_option maxRecDepth 100000 in
set_option maxHeartbeats 1000000 in
theorem arm_value (G : gc g X t0 l) (x : cx g X "CopyHeapsLaw" nm cc_La_law 7 ret 12 436 601024 7293000 p R s m meth c9) (A : LI pw t0 n M o mo out) (hn : n < 512) (hX : sX g b L xs s) (hi : i + 4 < L) (hL : L ≤ 2561) (hc : cells + 10 ≤ 601024) (hs : slots + 1760 ≤ 7293000) {u5 u6 : Option Value} (kk : ∀ (M' : mm) (w5 w6 : Option Value), LI pw t0 (n + 1) M' o mo out → vv g 7 p l e R s m args below meth c9 Q (cells + 10) (slots + 1760) 1646 [some (.ref b), some (.ref o), some (.ref mo), some (.ref out), some (.int (nI i)), w5, w6] [] M') : vv g 7 p l e R s m args below meth c9 Q cells slots 1275 [some (.ref b), some (.ref o), some (.ref mo), some (.ref out), some (.int (nI i)), u5, u6] [] M := by
  obtain ⟨D, ow, sl, La, Le, pl, Z, C, B, I, hs0, hDl, hto, hno⟩ := A
  have hp6 := C.2.1.2.2.2
  have hin1 : vp_in (nI i + 1) L := by rw [show nI i + 1 = nI (i + 1) from nI_add i 1]; exact vp_in_nI (by omega) (by omega)
  have hin2 : vp_in (nI i + 2) L := by rw [show nI i + 2 = nI (i + 2) from nI_add i 2]; exact vp_in_nI (by omega) (by omega)
  refine vv_aload_n (pc := 1275) x dd_La_law_1275 rfl ?_
  refine vv_aload_n (pc := 1276) x dd_La_law_1276 rfl ?_
  refine vv_iload (pc := 1277) x dd_La_law_1277 rfl ?_
  refine vv_iconst (pc := 1279) x dd_La_law_1279 (1) (by decide) ?_
  refine vv_iadd (pc := 1280) x dd_La_law_1280 ?_
  refine vv_sld (pc := 1281) x dd_La_law_1281 hX hin1 ?_
  refine vv_aload_n (pc := 1282) x dd_La_law_1282 rfl ?_
  refine vv_iload (pc := 1283) x dd_La_law_1283 rfl ?_
  refine vv_iconst (pc := 1285) x dd_La_law_1285 (2) (by decide) ?_
  refine vv_iadd (pc := 1286) x dd_La_law_1286 ?_
  refine vv_sld (pc := 1287) x dd_La_law_1287 hX hin2 ?_
  refine vv_aload_n (pc := 1288) x dd_La_law_1288 rfl ?_
  refine ly_La_value (pc := 1289) G x dd_La_law_1289 (W_value G C I hn hDl hs0 hto hno) ⟨by decide, by decide⟩ (by omega) (by omega) (Nat.le_of_ble_eq_true rfl) (fun v1 M1 q1 => ?_)
  obtain ⟨rfl, ⟨K1, D1, ow1, sl1, La1, Le1, s1, s2, s3, C1⟩, hv⟩ := q1
  have B1 := MI_kq B K1 C1.1 s1
  have hT1 : mm_t M1 mo = 8 := B1.1.2.2
  have to1 : mm_t M1 out = 101 := (K1.1 out (by rw [hto]; decide)).1.trans hto
  have no1 : mm_n M1 out = 1 := (K1.1 out (by rw [hto]; decide)).2.trans hno
  have IZ := FZ_value I hp6 (xv := (xs (nI i + 1).toNatClampNeg)) (rv := (xs (nI i + 2).toNatClampNeg))
  refine vv_istore (pc := 1292) x dd_La_law_1292 (by decide) (ls2 := [_, _, _, _, _, _, _]) rfl ?_
  refine vv_aload_n (pc := 1294) x dd_La_law_1294 rfl ?_
  refine vv_aload_n (pc := 1295) x dd_La_law_1295 rfl ?_
  refine vv_iload (pc := 1296) x dd_La_law_1296 rfl ?_
  refine vv_iconst (pc := 1298) x dd_La_law_1298 (1) (by decide) ?_
  refine vv_iadd (pc := 1299) x dd_La_law_1299 ?_
  refine vv_sld (pc := 1300) x dd_La_law_1300 hX hin1 ?_
  refine vv_aload_n (pc := 1301) x dd_La_law_1301 rfl ?_
  refine vv_iload (pc := 1302) x dd_La_law_1302 rfl ?_
  refine vv_iconst (pc := 1304) x dd_La_law_1304 (2) (by decide) ?_
  refine vv_iadd (pc := 1305) x dd_La_law_1305 ?_
  refine vv_sld (pc := 1306) x dd_La_law_1306 hX hin2 ?_
  refine lv_La_172 (pc := 1307) G x dd_La_law_1307 (N_value G B1 I hn hp6) hT1 ⟨by decide, by decide⟩ (by omega) (by omega) (Nat.le_of_ble_eq_true rfl) (fun v1307 M1307 q1307 => ?_)
  obtain ⟨⟨bv, rfl, hb⟩, R2, t2, pl2, B2⟩ := q1307
  have C2 := CI_rx C1 B1.1.2.1 B1.1.2.2 R2
  have hT2 : mm_t M1307 mo = 8 := B2.1.2.2
  have to2 : mm_t M1307 out = 101 := by rw [R2.1]; exact to1
  have no2 : mm_n M1307 out = 1 := by rw [R2.2.1]; exact no1
  have LF : LI pw t0 (n + 1) M1307 o mo out := ⟨D1, ow1, sl1, La1, Le1, pl2, _, C2, B2, IZ, s3, fun a ha => by rw [R2.1]; exact s2 a ha, to2, no2⟩
  refine vv_istore (pc := 1310) x dd_La_law_1310 (by decide) (ls2 := [_, _, _, _, _, _, _]) rfl ?_
  refine vv_aload_n (pc := 1312) x dd_La_law_1312 rfl ?_
  refine lv_La_110 (pc := 1313) G x dd_La_law_1313 (k_rthrown G hT2) hT2 ⟨by decide, by decide⟩ (by omega) (by omega) (Nat.le_of_ble_eq_true rfl) (fun v1313 M1313 q1313 => ?_)
  obtain ⟨rfl, hm1313⟩ := q1313
  have hm1313 := hm1313.symm
  subst hm1313
  rw [t2]
  refine vv_iload (pc := 1316) x dd_La_law_1316 rfl ?_
  refine vv_icmp_eq (pc := 1318) x dd_La_law_1318 (tgt := 1323) (by decide) (fun h1318 => ?_) (fun h1318 => absurd h1318 (fun z => z rfl))
  refine vv_iload (pc := 1323) x dd_La_law_1323 rfl ?_
  refine vv_if_ne (pc := 1325) x dd_La_law_1325 (tgt := 1340) (by decide) (fun h1325 => ?_) (fun h1325 => ?_)
  · refine vv_goto (pc := 1340) x dd_La_law_1340 (tgt := 1646) (by decide) ?_
    exact vv_wide (by omega) (by omega) (kk _ _ _ LF)
  · refine vv_aload_n (pc := 1328) x dd_La_law_1328 rfl ?_
    refine vv_iconst (pc := 1329) x dd_La_law_1329 (0) (by decide) ?_
    refine vv_lald (pc := 1330) x dd_La_law_1330 to2 (in_n (i := 0) (N := 1) (by decide) no2 (by decide)) ?_
    refine vv_iload (pc := 1331) x dd_La_law_1331 rfl ?_
    refine vv_i2l (pc := 1333) x dd_La_law_1333 ?_
    rw [show mm_l M1307 out (0 : Int32).toNatClampNeg = bv.toInt64 from by rw [R2.2.2.1, hb h1325]; exact hv h1325]
    refine vv_lcmp (pc := 1334) x dd_La_law_1334 ?_
    rw [lcmp_self]
    refine vv_if_eq (pc := 1335) x dd_La_law_1335 (tgt := 1340) (by decide) (fun h1335 => ?_) (fun h1335 => absurd h1335 (fun z => z rfl))
    refine vv_goto (pc := 1340) x dd_La_law_1340 (tgt := 1646) (by decide) ?_
    exact vv_wide (by omega) (by omega) (kk _ _ _ LF)
set_option maxRecDepth 100000 in
set_option maxHeartbeats 1000000 in
theorem arm_address (G : gc g X t0 l) (x : cx g X "CopyHeapsLaw" nm cc_La_law 7 ret 12 436 601024 7293000 p R s m meth c9) (A : LI pw t0 n M o mo out) (hn : n < 512) (hX : sX g b L xs s) (hi : i + 4 < L) (hL : L ≤ 2561) (hc : cells + 10 ≤ 601024) (hs : slots + 1760 ≤ 7293000) {u5 u6 : Option Value} (kk : ∀ (M' : mm) (w5 w6 : Option Value), LI pw t0 (n + 1) M' o mo out → vv g 7 p l e R s m args below meth c9 Q (cells + 10) (slots + 1760) 1646 [some (.ref b), some (.ref o), some (.ref mo), some (.ref out), some (.int (nI i)), w5, w6] [] M') : vv g 7 p l e R s m args below meth c9 Q cells slots 1343 [some (.ref b), some (.ref o), some (.ref mo), some (.ref out), some (.int (nI i)), u5, u6] [] M := by
  obtain ⟨D, ow, sl, La, Le, pl, Z, C, B, I, hs0, hDl, hto, hno⟩ := A
  have hp6 := C.2.1.2.2.2
  have hin1 : vp_in (nI i + 1) L := by rw [show nI i + 1 = nI (i + 1) from nI_add i 1]; exact vp_in_nI (by omega) (by omega)
  have hin2 : vp_in (nI i + 2) L := by rw [show nI i + 2 = nI (i + 2) from nI_add i 2]; exact vp_in_nI (by omega) (by omega)
  refine vv_aload_n (pc := 1343) x dd_La_law_1343 rfl ?_
  refine vv_aload_n (pc := 1344) x dd_La_law_1344 rfl ?_
  refine vv_iload (pc := 1345) x dd_La_law_1345 rfl ?_
  refine vv_iconst (pc := 1347) x dd_La_law_1347 (1) (by decide) ?_
  refine vv_iadd (pc := 1348) x dd_La_law_1348 ?_
  refine vv_sld (pc := 1349) x dd_La_law_1349 hX hin1 ?_
  refine vv_aload_n (pc := 1350) x dd_La_law_1350 rfl ?_
  refine vv_iload (pc := 1351) x dd_La_law_1351 rfl ?_
  refine vv_iconst (pc := 1353) x dd_La_law_1353 (2) (by decide) ?_
  refine vv_iadd (pc := 1354) x dd_La_law_1354 ?_
  refine vv_sld (pc := 1355) x dd_La_law_1355 hX hin2 ?_
  refine vv_aload_n (pc := 1356) x dd_La_law_1356 rfl ?_
  refine ly_La_address (pc := 1357) G x dd_La_law_1357 (W_address G C I hn hDl hs0 hto hno) ⟨by decide, by decide⟩ (by omega) (by omega) (Nat.le_of_ble_eq_true rfl) (fun v1 M1 q1 => ?_)
  obtain ⟨rfl, ⟨K1, D1, ow1, sl1, La1, Le1, s1, s2, s3, C1⟩, hv⟩ := q1
  have B1 := MI_kq B K1 C1.1 s1
  have hT1 : mm_t M1 mo = 8 := B1.1.2.2
  have to1 : mm_t M1 out = 101 := (K1.1 out (by rw [hto]; decide)).1.trans hto
  have no1 : mm_n M1 out = 1 := (K1.1 out (by rw [hto]; decide)).2.trans hno
  have IZ := FZ_address I hp6 (xv := (xs (nI i + 1).toNatClampNeg)) (rv := (xs (nI i + 2).toNatClampNeg))
  refine vv_istore (pc := 1360) x dd_La_law_1360 (by decide) (ls2 := [_, _, _, _, _, _, _]) rfl ?_
  refine vv_aload_n (pc := 1362) x dd_La_law_1362 rfl ?_
  refine vv_aload_n (pc := 1363) x dd_La_law_1363 rfl ?_
  refine vv_iload (pc := 1364) x dd_La_law_1364 rfl ?_
  refine vv_iconst (pc := 1366) x dd_La_law_1366 (1) (by decide) ?_
  refine vv_iadd (pc := 1367) x dd_La_law_1367 ?_
  refine vv_sld (pc := 1368) x dd_La_law_1368 hX hin1 ?_
  refine vv_aload_n (pc := 1369) x dd_La_law_1369 rfl ?_
  refine vv_iload (pc := 1370) x dd_La_law_1370 rfl ?_
  refine vv_iconst (pc := 1372) x dd_La_law_1372 (2) (by decide) ?_
  refine vv_iadd (pc := 1373) x dd_La_law_1373 ?_
  refine vv_sld (pc := 1374) x dd_La_law_1374 hX hin2 ?_
  refine lv_La_175 (pc := 1375) G x dd_La_law_1375 (N_address G B1 I hn hp6) hT1 ⟨by decide, by decide⟩ (by omega) (by omega) (Nat.le_of_ble_eq_true rfl) (fun v1375 M1375 q1375 => ?_)
  obtain ⟨⟨bv, rfl, hb⟩, R2, t2, pl2, B2⟩ := q1375
  have C2 := CI_rx C1 B1.1.2.1 B1.1.2.2 R2
  have hT2 : mm_t M1375 mo = 8 := B2.1.2.2
  have to2 : mm_t M1375 out = 101 := by rw [R2.1]; exact to1
  have no2 : mm_n M1375 out = 1 := by rw [R2.2.1]; exact no1
  have LF : LI pw t0 (n + 1) M1375 o mo out := ⟨D1, ow1, sl1, La1, Le1, pl2, _, C2, B2, IZ, s3, fun a ha => by rw [R2.1]; exact s2 a ha, to2, no2⟩
  refine vv_istore (pc := 1378) x dd_La_law_1378 (by decide) (ls2 := [_, _, _, _, _, _, _]) rfl ?_
  refine vv_aload_n (pc := 1380) x dd_La_law_1380 rfl ?_
  refine lv_La_110 (pc := 1381) G x dd_La_law_1381 (k_rthrown G hT2) hT2 ⟨by decide, by decide⟩ (by omega) (by omega) (Nat.le_of_ble_eq_true rfl) (fun v1381 M1381 q1381 => ?_)
  obtain ⟨rfl, hm1381⟩ := q1381
  have hm1381 := hm1381.symm
  subst hm1381
  rw [t2]
  refine vv_iload (pc := 1384) x dd_La_law_1384 rfl ?_
  refine vv_icmp_eq (pc := 1386) x dd_La_law_1386 (tgt := 1391) (by decide) (fun h1386 => ?_) (fun h1386 => absurd h1386 (fun z => z rfl))
  refine vv_iload (pc := 1391) x dd_La_law_1391 rfl ?_
  refine vv_if_ne (pc := 1393) x dd_La_law_1393 (tgt := 1408) (by decide) (fun h1393 => ?_) (fun h1393 => ?_)
  · refine vv_goto (pc := 1408) x dd_La_law_1408 (tgt := 1646) (by decide) ?_
    exact vv_wide (by omega) (by omega) (kk _ _ _ LF)
  · refine vv_aload_n (pc := 1396) x dd_La_law_1396 rfl ?_
    refine vv_iconst (pc := 1397) x dd_La_law_1397 (0) (by decide) ?_
    refine vv_lald (pc := 1398) x dd_La_law_1398 to2 (in_n (i := 0) (N := 1) (by decide) no2 (by decide)) ?_
    refine vv_iload (pc := 1399) x dd_La_law_1399 rfl ?_
    refine vv_i2l (pc := 1401) x dd_La_law_1401 ?_
    rw [show mm_l M1375 out (0 : Int32).toNatClampNeg = bv.toInt64 from by rw [R2.2.2.1, hb h1393]; exact hv h1393]
    refine vv_lcmp (pc := 1402) x dd_La_law_1402 ?_
    rw [lcmp_self]
    refine vv_if_eq (pc := 1403) x dd_La_law_1403 (tgt := 1408) (by decide) (fun h1403 => ?_) (fun h1403 => absurd h1403 (fun z => z rfl))
    refine vv_goto (pc := 1408) x dd_La_law_1408 (tgt := 1646) (by decide) ?_
    exact vv_wide (by omega) (by omega) (kk _ _ _ LF)
set_option maxRecDepth 100000 in
set_option maxHeartbeats 1000000 in
theorem arm_words (G : gc g X t0 l) (x : cx g X "CopyHeapsLaw" nm cc_La_law 7 ret 12 436 601024 7293000 p R s m meth c9) (A : LI pw t0 n M o mo out) (hn : n < 512) (hX : sX g b L xs s) (hi : i + 4 < L) (hL : L ≤ 2561) (hc : cells + 10 ≤ 601024) (hs : slots + 1760 ≤ 7293000) {u5 u6 : Option Value} (kk : ∀ (M' : mm) (w5 w6 : Option Value), LI pw t0 (n + 1) M' o mo out → vv g 7 p l e R s m args below meth c9 Q (cells + 10) (slots + 1760) 1646 [some (.ref b), some (.ref o), some (.ref mo), some (.ref out), some (.int (nI i)), w5, w6] [] M') : vv g 7 p l e R s m args below meth c9 Q cells slots 1411 [some (.ref b), some (.ref o), some (.ref mo), some (.ref out), some (.int (nI i)), u5, u6] [] M := by
  obtain ⟨D, ow, sl, La, Le, pl, Z, C, B, I, hs0, hDl, hto, hno⟩ := A
  have hp6 := C.2.1.2.2.2
  have hin1 : vp_in (nI i + 1) L := by rw [show nI i + 1 = nI (i + 1) from nI_add i 1]; exact vp_in_nI (by omega) (by omega)
  have hin2 : vp_in (nI i + 2) L := by rw [show nI i + 2 = nI (i + 2) from nI_add i 2]; exact vp_in_nI (by omega) (by omega)
  refine vv_aload_n (pc := 1411) x dd_La_law_1411 rfl ?_
  refine vv_aload_n (pc := 1412) x dd_La_law_1412 rfl ?_
  refine vv_iload (pc := 1413) x dd_La_law_1413 rfl ?_
  refine vv_iconst (pc := 1415) x dd_La_law_1415 (1) (by decide) ?_
  refine vv_iadd (pc := 1416) x dd_La_law_1416 ?_
  refine vv_sld (pc := 1417) x dd_La_law_1417 hX hin1 ?_
  refine vv_aload_n (pc := 1418) x dd_La_law_1418 rfl ?_
  refine vv_iload (pc := 1419) x dd_La_law_1419 rfl ?_
  refine vv_iconst (pc := 1421) x dd_La_law_1421 (2) (by decide) ?_
  refine vv_iadd (pc := 1422) x dd_La_law_1422 ?_
  refine vv_sld (pc := 1423) x dd_La_law_1423 hX hin2 ?_
  refine vv_aload_n (pc := 1424) x dd_La_law_1424 rfl ?_
  refine ly_La_words (pc := 1425) G x dd_La_law_1425 (W_words G C I hn hDl hs0 hto hno) ⟨by decide, by decide⟩ (by omega) (by omega) (Nat.le_of_ble_eq_true rfl) (fun v1 M1 q1 => ?_)
  obtain ⟨rfl, ⟨K1, D1, ow1, sl1, La1, Le1, s1, s2, s3, C1⟩, hv⟩ := q1
  have B1 := MI_kq B K1 C1.1 s1
  have hT1 : mm_t M1 mo = 8 := B1.1.2.2
  have to1 : mm_t M1 out = 101 := (K1.1 out (by rw [hto]; decide)).1.trans hto
  have no1 : mm_n M1 out = 1 := (K1.1 out (by rw [hto]; decide)).2.trans hno
  have IZ := FZ_words I hp6 (xv := (xs (nI i + 1).toNatClampNeg)) (rv := (xs (nI i + 2).toNatClampNeg))
  refine vv_istore (pc := 1428) x dd_La_law_1428 (by decide) (ls2 := [_, _, _, _, _, _, _]) rfl ?_
  refine vv_aload_n (pc := 1430) x dd_La_law_1430 rfl ?_
  refine vv_aload_n (pc := 1431) x dd_La_law_1431 rfl ?_
  refine vv_iload (pc := 1432) x dd_La_law_1432 rfl ?_
  refine vv_iconst (pc := 1434) x dd_La_law_1434 (1) (by decide) ?_
  refine vv_iadd (pc := 1435) x dd_La_law_1435 ?_
  refine vv_sld (pc := 1436) x dd_La_law_1436 hX hin1 ?_
  refine vv_aload_n (pc := 1437) x dd_La_law_1437 rfl ?_
  refine vv_iload (pc := 1438) x dd_La_law_1438 rfl ?_
  refine vv_iconst (pc := 1440) x dd_La_law_1440 (2) (by decide) ?_
  refine vv_iadd (pc := 1441) x dd_La_law_1441 ?_
  refine vv_sld (pc := 1442) x dd_La_law_1442 hX hin2 ?_
  refine lv_La_178 (pc := 1443) G x dd_La_law_1443 (N_words G B1 I hn hp6) hT1 ⟨by decide, by decide⟩ (by omega) (by omega) (Nat.le_of_ble_eq_true rfl) (fun v1443 M1443 q1443 => ?_)
  obtain ⟨⟨bv, rfl, hb⟩, R2, t2, pl2, B2⟩ := q1443
  have C2 := CI_rx C1 B1.1.2.1 B1.1.2.2 R2
  have hT2 : mm_t M1443 mo = 8 := B2.1.2.2
  have to2 : mm_t M1443 out = 101 := by rw [R2.1]; exact to1
  have no2 : mm_n M1443 out = 1 := by rw [R2.2.1]; exact no1
  have LF : LI pw t0 (n + 1) M1443 o mo out := ⟨D1, ow1, sl1, La1, Le1, pl2, _, C2, B2, IZ, s3, fun a ha => by rw [R2.1]; exact s2 a ha, to2, no2⟩
  refine vv_istore (pc := 1446) x dd_La_law_1446 (by decide) (ls2 := [_, _, _, _, _, _, _]) rfl ?_
  refine vv_aload_n (pc := 1448) x dd_La_law_1448 rfl ?_
  refine lv_La_110 (pc := 1449) G x dd_La_law_1449 (k_rthrown G hT2) hT2 ⟨by decide, by decide⟩ (by omega) (by omega) (Nat.le_of_ble_eq_true rfl) (fun v1449 M1449 q1449 => ?_)
  obtain ⟨rfl, hm1449⟩ := q1449
  have hm1449 := hm1449.symm
  subst hm1449
  rw [t2]
  refine vv_iload (pc := 1452) x dd_La_law_1452 rfl ?_
  refine vv_icmp_eq (pc := 1454) x dd_La_law_1454 (tgt := 1459) (by decide) (fun h1454 => ?_) (fun h1454 => absurd h1454 (fun z => z rfl))
  refine vv_iload (pc := 1459) x dd_La_law_1459 rfl ?_
  refine vv_if_ne (pc := 1461) x dd_La_law_1461 (tgt := 1476) (by decide) (fun h1461 => ?_) (fun h1461 => ?_)
  · refine vv_goto (pc := 1476) x dd_La_law_1476 (tgt := 1646) (by decide) ?_
    exact vv_wide (by omega) (by omega) (kk _ _ _ LF)
  · refine vv_aload_n (pc := 1464) x dd_La_law_1464 rfl ?_
    refine vv_iconst (pc := 1465) x dd_La_law_1465 (0) (by decide) ?_
    refine vv_lald (pc := 1466) x dd_La_law_1466 to2 (in_n (i := 0) (N := 1) (by decide) no2 (by decide)) ?_
    refine vv_iload (pc := 1467) x dd_La_law_1467 rfl ?_
    refine vv_i2l (pc := 1469) x dd_La_law_1469 ?_
    rw [show mm_l M1443 out (0 : Int32).toNatClampNeg = bv.toInt64 from by rw [R2.2.2.1, hb h1461]; exact hv h1461]
    refine vv_lcmp (pc := 1470) x dd_La_law_1470 ?_
    rw [lcmp_self]
    refine vv_if_eq (pc := 1471) x dd_La_law_1471 (tgt := 1476) (by decide) (fun h1471 => ?_) (fun h1471 => absurd h1471 (fun z => z rfl))
    refine vv_goto (pc := 1476) x dd_La_law_1476 (tgt := 1646) (by decide) ?_
    exact vv_wide (by omega) (by omega) (kk _ _ _ LF)
set_option maxRecDepth 100000 in
set_option maxHeartbeats 1000000 in
theorem arm_handles (G : gc g X t0 l) (x : cx g X "CopyHeapsLaw" nm cc_La_law 7 ret 12 436 601024 7293000 p R s m meth c9) (A : LI pw t0 n M o mo out) (hn : n < 512) (hX : sX g b L xs s) (hi : i + 4 < L) (hL : L ≤ 2561) (hc : cells + 10 ≤ 601024) (hs : slots + 1760 ≤ 7293000) {u5 u6 : Option Value} (kk : ∀ (M' : mm) (w5 w6 : Option Value), LI pw t0 (n + 1) M' o mo out → vv g 7 p l e R s m args below meth c9 Q (cells + 10) (slots + 1760) 1646 [some (.ref b), some (.ref o), some (.ref mo), some (.ref out), some (.int (nI i)), w5, w6] [] M') : vv g 7 p l e R s m args below meth c9 Q cells slots 1479 [some (.ref b), some (.ref o), some (.ref mo), some (.ref out), some (.int (nI i)), u5, u6] [] M := by
  obtain ⟨D, ow, sl, La, Le, pl, Z, C, B, I, hs0, hDl, hto, hno⟩ := A
  have hp6 := C.2.1.2.2.2
  have hin1 : vp_in (nI i + 1) L := by rw [show nI i + 1 = nI (i + 1) from nI_add i 1]; exact vp_in_nI (by omega) (by omega)
  have hin2 : vp_in (nI i + 2) L := by rw [show nI i + 2 = nI (i + 2) from nI_add i 2]; exact vp_in_nI (by omega) (by omega)
  refine vv_aload_n (pc := 1479) x dd_La_law_1479 rfl ?_
  refine vv_aload_n (pc := 1480) x dd_La_law_1480 rfl ?_
  refine vv_iload (pc := 1481) x dd_La_law_1481 rfl ?_
  refine vv_iconst (pc := 1483) x dd_La_law_1483 (1) (by decide) ?_
  refine vv_iadd (pc := 1484) x dd_La_law_1484 ?_
  refine vv_sld (pc := 1485) x dd_La_law_1485 hX hin1 ?_
  refine vv_aload_n (pc := 1486) x dd_La_law_1486 rfl ?_
  refine vv_iload (pc := 1487) x dd_La_law_1487 rfl ?_
  refine vv_iconst (pc := 1489) x dd_La_law_1489 (2) (by decide) ?_
  refine vv_iadd (pc := 1490) x dd_La_law_1490 ?_
  refine vv_sld (pc := 1491) x dd_La_law_1491 hX hin2 ?_
  refine vv_aload_n (pc := 1492) x dd_La_law_1492 rfl ?_
  refine ly_La_handles (pc := 1493) G x dd_La_law_1493 (W_handles G C I hn hDl hs0 hto hno) ⟨by decide, by decide⟩ (by omega) (by omega) (Nat.le_of_ble_eq_true rfl) (fun v1 M1 q1 => ?_)
  obtain ⟨rfl, ⟨K1, D1, ow1, sl1, La1, Le1, s1, s2, s3, C1⟩, hv⟩ := q1
  have B1 := MI_kq B K1 C1.1 s1
  have hT1 : mm_t M1 mo = 8 := B1.1.2.2
  have to1 : mm_t M1 out = 101 := (K1.1 out (by rw [hto]; decide)).1.trans hto
  have no1 : mm_n M1 out = 1 := (K1.1 out (by rw [hto]; decide)).2.trans hno
  have IZ := FZ_handles I hp6 (xv := (xs (nI i + 1).toNatClampNeg)) (rv := (xs (nI i + 2).toNatClampNeg))
  refine vv_istore (pc := 1496) x dd_La_law_1496 (by decide) (ls2 := [_, _, _, _, _, _, _]) rfl ?_
  refine vv_aload_n (pc := 1498) x dd_La_law_1498 rfl ?_
  refine vv_aload_n (pc := 1499) x dd_La_law_1499 rfl ?_
  refine vv_iload (pc := 1500) x dd_La_law_1500 rfl ?_
  refine vv_iconst (pc := 1502) x dd_La_law_1502 (1) (by decide) ?_
  refine vv_iadd (pc := 1503) x dd_La_law_1503 ?_
  refine vv_sld (pc := 1504) x dd_La_law_1504 hX hin1 ?_
  refine vv_aload_n (pc := 1505) x dd_La_law_1505 rfl ?_
  refine vv_iload (pc := 1506) x dd_La_law_1506 rfl ?_
  refine vv_iconst (pc := 1508) x dd_La_law_1508 (2) (by decide) ?_
  refine vv_iadd (pc := 1509) x dd_La_law_1509 ?_
  refine vv_sld (pc := 1510) x dd_La_law_1510 hX hin2 ?_
  refine lv_La_181 (pc := 1511) G x dd_La_law_1511 (N_handles G B1 I hn hp6) hT1 ⟨by decide, by decide⟩ (by omega) (by omega) (Nat.le_of_ble_eq_true rfl) (fun v1511 M1511 q1511 => ?_)
  obtain ⟨⟨bv, rfl, hb⟩, R2, t2, pl2, B2⟩ := q1511
  have C2 := CI_rx C1 B1.1.2.1 B1.1.2.2 R2
  have hT2 : mm_t M1511 mo = 8 := B2.1.2.2
  have to2 : mm_t M1511 out = 101 := by rw [R2.1]; exact to1
  have no2 : mm_n M1511 out = 1 := by rw [R2.2.1]; exact no1
  have LF : LI pw t0 (n + 1) M1511 o mo out := ⟨D1, ow1, sl1, La1, Le1, pl2, _, C2, B2, IZ, s3, fun a ha => by rw [R2.1]; exact s2 a ha, to2, no2⟩
  refine vv_istore (pc := 1514) x dd_La_law_1514 (by decide) (ls2 := [_, _, _, _, _, _, _]) rfl ?_
  refine vv_aload_n (pc := 1516) x dd_La_law_1516 rfl ?_
  refine lv_La_110 (pc := 1517) G x dd_La_law_1517 (k_rthrown G hT2) hT2 ⟨by decide, by decide⟩ (by omega) (by omega) (Nat.le_of_ble_eq_true rfl) (fun v1517 M1517 q1517 => ?_)
  obtain ⟨rfl, hm1517⟩ := q1517
  have hm1517 := hm1517.symm
  subst hm1517
  rw [t2]
  refine vv_iload (pc := 1520) x dd_La_law_1520 rfl ?_
  refine vv_icmp_eq (pc := 1522) x dd_La_law_1522 (tgt := 1527) (by decide) (fun h1522 => ?_) (fun h1522 => absurd h1522 (fun z => z rfl))
  refine vv_iload (pc := 1527) x dd_La_law_1527 rfl ?_
  refine vv_if_ne (pc := 1529) x dd_La_law_1529 (tgt := 1544) (by decide) (fun h1529 => ?_) (fun h1529 => ?_)
  · refine vv_goto (pc := 1544) x dd_La_law_1544 (tgt := 1646) (by decide) ?_
    exact vv_wide (by omega) (by omega) (kk _ _ _ LF)
  · refine vv_aload_n (pc := 1532) x dd_La_law_1532 rfl ?_
    refine vv_iconst (pc := 1533) x dd_La_law_1533 (0) (by decide) ?_
    refine vv_lald (pc := 1534) x dd_La_law_1534 to2 (in_n (i := 0) (N := 1) (by decide) no2 (by decide)) ?_
    refine vv_iload (pc := 1535) x dd_La_law_1535 rfl ?_
    refine vv_i2l (pc := 1537) x dd_La_law_1537 ?_
    rw [show mm_l M1511 out (0 : Int32).toNatClampNeg = bv.toInt64 from by rw [R2.2.2.1, hb h1529]; exact hv h1529]
    refine vv_lcmp (pc := 1538) x dd_La_law_1538 ?_
    rw [lcmp_self]
    refine vv_if_eq (pc := 1539) x dd_La_law_1539 (tgt := 1544) (by decide) (fun h1539 => ?_) (fun h1539 => absurd h1539 (fun z => z rfl))
    refine vv_goto (pc := 1544) x dd_La_law_1544 (tgt := 1646) (by decide) ?_
    exact vv_wide (by omega) (by omega) (kk _ _ _ LF)
set_option maxRecDepth 100000 in
set_option maxHeartbeats 1000000 in
theorem arm_equal (G : gc g X t0 l) (x : cx g X "CopyHeapsLaw" nm cc_La_law 7 ret 12 436 601024 7293000 p R s m meth c9) (A : LI pw t0 n M o mo out) (hn : n < 512) (hX : sX g b L xs s) (hi : i + 4 < L) (hL : L ≤ 2561) (hc : cells + 10 ≤ 601024) (hs : slots + 1760 ≤ 7293000) {u5 u6 : Option Value} (kk : ∀ (M' : mm) (w5 w6 : Option Value), LI pw t0 (n + 1) M' o mo out → vv g 7 p l e R s m args below meth c9 Q (cells + 10) (slots + 1760) 1646 [some (.ref b), some (.ref o), some (.ref mo), some (.ref out), some (.int (nI i)), w5, w6] [] M') : vv g 7 p l e R s m args below meth c9 Q cells slots 1547 [some (.ref b), some (.ref o), some (.ref mo), some (.ref out), some (.int (nI i)), u5, u6] [] M := by
  obtain ⟨D, ow, sl, La, Le, pl, Z, C, B, I, hs0, hDl, hto, hno⟩ := A
  have hp6 := C.2.1.2.2.2
  have hin1 : vp_in (nI i + 1) L := by rw [show nI i + 1 = nI (i + 1) from nI_add i 1]; exact vp_in_nI (by omega) (by omega)
  have hin2 : vp_in (nI i + 2) L := by rw [show nI i + 2 = nI (i + 2) from nI_add i 2]; exact vp_in_nI (by omega) (by omega)
  have hin3 : vp_in (nI i + 3) L := by rw [show nI i + 3 = nI (i + 3) from nI_add i 3]; exact vp_in_nI (by omega) (by omega)
  have hin4 : vp_in (nI i + 4) L := by rw [show nI i + 4 = nI (i + 4) from nI_add i 4]; exact vp_in_nI (by omega) (by omega)
  refine vv_aload_n (pc := 1547) x dd_La_law_1547 rfl ?_
  refine vv_aload_n (pc := 1548) x dd_La_law_1548 rfl ?_
  refine vv_iload (pc := 1549) x dd_La_law_1549 rfl ?_
  refine vv_iconst (pc := 1551) x dd_La_law_1551 (1) (by decide) ?_
  refine vv_iadd (pc := 1552) x dd_La_law_1552 ?_
  refine vv_sld (pc := 1553) x dd_La_law_1553 hX hin1 ?_
  refine vv_aload_n (pc := 1554) x dd_La_law_1554 rfl ?_
  refine vv_iload (pc := 1555) x dd_La_law_1555 rfl ?_
  refine vv_iconst (pc := 1557) x dd_La_law_1557 (2) (by decide) ?_
  refine vv_iadd (pc := 1558) x dd_La_law_1558 ?_
  refine vv_sld (pc := 1559) x dd_La_law_1559 hX hin2 ?_
  refine vv_aload_n (pc := 1560) x dd_La_law_1560 rfl ?_
  refine vv_iload (pc := 1561) x dd_La_law_1561 rfl ?_
  refine vv_iconst (pc := 1563) x dd_La_law_1563 (3) (by decide) ?_
  refine vv_iadd (pc := 1564) x dd_La_law_1564 ?_
  refine vv_sld (pc := 1565) x dd_La_law_1565 hX hin3 ?_
  refine vv_aload_n (pc := 1566) x dd_La_law_1566 rfl ?_
  refine vv_iload (pc := 1567) x dd_La_law_1567 rfl ?_
  refine vv_iconst (pc := 1569) x dd_La_law_1569 (4) (by decide) ?_
  refine vv_iadd (pc := 1570) x dd_La_law_1570 ?_
  refine vv_sld (pc := 1571) x dd_La_law_1571 hX hin4 ?_
  refine vv_aload_n (pc := 1572) x dd_La_law_1572 rfl ?_
  refine ly_La_equal (pc := 1573) G x dd_La_law_1573 (W_equal G C I hn hDl hs0 hto hno) ⟨by decide, by decide⟩ (by omega) (by omega) (Nat.le_of_ble_eq_true rfl) (fun v1 M1 q1 => ?_)
  obtain ⟨rfl, ⟨K1, D1, ow1, sl1, La1, Le1, s1, s2, s3, C1⟩, hv⟩ := q1
  have B1 := MI_kq B K1 C1.1 s1
  have hT1 : mm_t M1 mo = 8 := B1.1.2.2
  have to1 : mm_t M1 out = 101 := (K1.1 out (by rw [hto]; decide)).1.trans hto
  have no1 : mm_n M1 out = 1 := (K1.1 out (by rw [hto]; decide)).2.trans hno
  have IZ := FZ_equal I hp6 (xv := (xs (nI i + 1).toNatClampNeg)) (rv := (xs (nI i + 2).toNatClampNeg)) (ov := (xs (nI i + 3).toNatClampNeg)) (sv := (xs (nI i + 4).toNatClampNeg))
  have FB := FB_equal (Z := Z) (xv := (xs (nI i + 1).toNatClampNeg)) (rv := (xs (nI i + 2).toNatClampNeg)) (ov := (xs (nI i + 3).toNatClampNeg)) (sv := (xs (nI i + 4).toNatClampNeg))
  refine vv_istore (pc := 1576) x dd_La_law_1576 (by decide) (ls2 := [_, _, _, _, _, _, _]) rfl ?_
  refine vv_aload_n (pc := 1578) x dd_La_law_1578 rfl ?_
  refine vv_aload_n (pc := 1579) x dd_La_law_1579 rfl ?_
  refine vv_iload (pc := 1580) x dd_La_law_1580 rfl ?_
  refine vv_iconst (pc := 1582) x dd_La_law_1582 (1) (by decide) ?_
  refine vv_iadd (pc := 1583) x dd_La_law_1583 ?_
  refine vv_sld (pc := 1584) x dd_La_law_1584 hX hin1 ?_
  refine vv_aload_n (pc := 1585) x dd_La_law_1585 rfl ?_
  refine vv_iload (pc := 1586) x dd_La_law_1586 rfl ?_
  refine vv_iconst (pc := 1588) x dd_La_law_1588 (2) (by decide) ?_
  refine vv_iadd (pc := 1589) x dd_La_law_1589 ?_
  refine vv_sld (pc := 1590) x dd_La_law_1590 hX hin2 ?_
  refine vv_aload_n (pc := 1591) x dd_La_law_1591 rfl ?_
  refine vv_iload (pc := 1592) x dd_La_law_1592 rfl ?_
  refine vv_iconst (pc := 1594) x dd_La_law_1594 (3) (by decide) ?_
  refine vv_iadd (pc := 1595) x dd_La_law_1595 ?_
  refine vv_sld (pc := 1596) x dd_La_law_1596 hX hin3 ?_
  refine vv_aload_n (pc := 1597) x dd_La_law_1597 rfl ?_
  refine vv_iload (pc := 1598) x dd_La_law_1598 rfl ?_
  refine vv_iconst (pc := 1600) x dd_La_law_1600 (4) (by decide) ?_
  refine vv_iadd (pc := 1601) x dd_La_law_1601 ?_
  refine vv_sld (pc := 1602) x dd_La_law_1602 hX hin4 ?_
  refine lv_La_185 (pc := 1603) G x dd_La_law_1603 (N_equal G B1 I hn hp6) hT1 ⟨by decide, by decide⟩ (by omega) (by omega) (Nat.le_of_ble_eq_true rfl) (fun v1603 M1603 q1603 => ?_)
  obtain ⟨⟨bv, rfl, hb⟩, R2, t2, pl2, B2⟩ := q1603
  have C2 := CI_rx C1 B1.1.2.1 B1.1.2.2 R2
  have hT2 : mm_t M1603 mo = 8 := B2.1.2.2
  have to2 : mm_t M1603 out = 101 := by rw [R2.1]; exact to1
  have no2 : mm_n M1603 out = 1 := by rw [R2.2.1]; exact no1
  have LF : LI pw t0 (n + 1) M1603 o mo out := ⟨D1, ow1, sl1, La1, Le1, pl2, _, C2, B2, IZ, s3, fun a ha => by rw [R2.1]; exact s2 a ha, to2, no2⟩
  refine vv_istore (pc := 1606) x dd_La_law_1606 (by decide) (ls2 := [_, _, _, _, _, _, _]) rfl ?_
  refine vv_aload_n (pc := 1608) x dd_La_law_1608 rfl ?_
  refine lv_La_110 (pc := 1609) G x dd_La_law_1609 (k_rthrown G hT2) hT2 ⟨by decide, by decide⟩ (by omega) (by omega) (Nat.le_of_ble_eq_true rfl) (fun v1609 M1609 q1609 => ?_)
  obtain ⟨rfl, hm1609⟩ := q1609
  have hm1609 := hm1609.symm
  subst hm1609
  rw [t2]
  refine vv_iload (pc := 1612) x dd_La_law_1612 rfl ?_
  refine vv_icmp_eq (pc := 1614) x dd_La_law_1614 (tgt := 1619) (by decide) (fun h1614 => ?_) (fun h1614 => absurd h1614 (fun z => z rfl))
  refine vv_iload (pc := 1619) x dd_La_law_1619 rfl ?_
  refine vv_if_ne (pc := 1621) x dd_La_law_1621 (tgt := 1643) (by decide) (fun h1621 => ?_) (fun h1621 => ?_)
  · refine vv_goto (pc := 1643) x dd_La_law_1643 (tgt := 1646) (by decide) ?_
    exact vv_wide (by omega) (by omega) (kk _ _ _ LF)
  · refine vv_aload_n (pc := 1624) x dd_La_law_1624 rfl ?_
    refine vv_iconst (pc := 1625) x dd_La_law_1625 (0) (by decide) ?_
    refine vv_lald (pc := 1626) x dd_La_law_1626 to2 (in_n (i := 0) (N := 1) (by decide) no2 (by decide)) ?_
    refine vv_iload (pc := 1627) x dd_La_law_1627 rfl ?_
    refine vv_if_eq (pc := 1629) x dd_La_law_1629 (tgt := 1636) (by decide) (fun h1629 => ?_) (fun h1629 => ?_)
    · refine vv_lconst (pc := 1636) x dd_La_law_1636 (v := 0) (by decide) ?_
      have hbv : (F_equal Z (xs (nI i + 1).toNatClampNeg) (xs (nI i + 2).toNatClampNeg) (xs (nI i + 3).toNatClampNeg) (xs (nI i + 4).toNatClampNeg)).2.1 = 0 := (hb h1621).symm.trans h1629
      rw [show mm_l M1603 out (0 : Int32).toNatClampNeg = (0 : Int64) from by rw [R2.2.2.1]; exact (hv h1621).trans (by rw [hbv]; decide)]
      refine vv_lcmp (pc := 1637) x dd_La_law_1637 ?_
      rw [lcmp_self]
      refine vv_if_eq (pc := 1638) x dd_La_law_1638 (tgt := 1643) (by decide) (fun h1638 => ?_) (fun h1638 => absurd h1638 (fun z => z rfl))
      refine vv_goto (pc := 1643) x dd_La_law_1643 (tgt := 1646) (by decide) ?_
      exact vv_wide (by omega) (by omega) (kk _ _ _ LF)
    · refine vv_lconst (pc := 1632) x dd_La_law_1632 (v := 1) (by decide) ?_
      refine vv_goto (pc := 1633) x dd_La_law_1633 (tgt := 1637) (by decide) ?_
      have hbv : (F_equal Z (xs (nI i + 1).toNatClampNeg) (xs (nI i + 2).toNatClampNeg) (xs (nI i + 3).toNatClampNeg) (xs (nI i + 4).toNatClampNeg)).2.1 = 1 := (FB h1621).resolve_left (fun z => h1629 ((hb h1621).trans z))
      rw [show mm_l M1603 out (0 : Int32).toNatClampNeg = (1 : Int64) from by rw [R2.2.2.1]; exact (hv h1621).trans (by rw [hbv]; decide)]
      refine vv_lcmp (pc := 1637) x dd_La_law_1637 ?_
      rw [lcmp_self]
      refine vv_if_eq (pc := 1638) x dd_La_law_1638 (tgt := 1643) (by decide) (fun h1638 => ?_) (fun h1638 => absurd h1638 (fun z => z rfl))
      refine vv_goto (pc := 1643) x dd_La_law_1643 (tgt := 1646) (by decide) ?_
      exact vv_wide (by omega) (by omega) (kk _ _ _ LF)
end M75
