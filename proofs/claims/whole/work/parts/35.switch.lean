/-! ===== switches (by program) ===== -/
section LK
variable {g : gg} {X : State → Prop} {t0 : Nat} {nm : String} {cc : ByteArray} {nL : Nat} {ret : Option FieldType} {d lo mc ms : Nat} {p : Program} {l : Launch} {e : Env} {R : Room} {s : State} {m : MethodId} {args : Array Value} {below : List Frame} {meth : Method} {c : Code} {Q : State → Prop} {cells slots pc : Nat} {ls : List (Option Value)} {rest : List Value} {M : mm}
variable {d2 lo2 mc2 ms2 : Nat} {Qr Qr2 : Option Value → mm → Prop} {Qx Qx2 : String → mm → Prop}
theorem sw_He_lengthOf_1 (x : cx g X "CopyHeaps$Heap" nm cc_He_lengthOf nL ret d lo mc ms p R s m meth c) {a : Int32} (k0 : a = 3 → vv g nL p l e R s m args below meth c Q cells slots 28 ls rest M) (k1 : a = 4 → vv g nL p l e R s m args below meth c Q cells slots 30 ls rest M) (kd : ¬ a = 3 → ¬ a = 4 → vv g nL p l e R s m args below meth c Q cells slots 34 ls rest M) : vv g nL p l e R s m args below meth c Q cells slots 1 ls (.int a :: rest) M := by
  by_cases h0 : a = 3
  · exact vv_lookup (pc := 1) x dd_He_lengthOf_1 (by decide) (by rw [h0]; decide) (tgt := 28) (off := 27) (by decide) (k0 h0)
  by_cases h1 : a = 4
  · exact vv_lookup (pc := 1) x dd_He_lengthOf_1 (by decide) (by rw [h1]; decide) (tgt := 30) (off := 29) (by decide) (k1 h1)
  exact vv_lookup (pc := 1) x dd_He_lengthOf_1 (by decide) ((lv_osw h0 (by decide)).trans ((lv_osw h1 (by decide)).trans rfl)) (off := 33) (tgt := 34) (by decide) (kd h0 h1)
theorem sw_He_partCount_4 (x : cx g X "CopyHeaps$Heap" nm cc_He_partCount nL ret d lo mc ms p R s m meth c) {a : Int32} (k0 : a = 3 → vv g nL p l e R s m args below meth c Q cells slots 32 ls rest M) (k1 : a = 4 → vv g nL p l e R s m args below meth c Q cells slots 34 ls rest M) (kd : ¬ a = 3 → ¬ a = 4 → vv g nL p l e R s m args below meth c Q cells slots 44 ls rest M) : vv g nL p l e R s m args below meth c Q cells slots 4 ls (.int a :: rest) M := by
  by_cases h0 : a = 3
  · exact vv_lookup (pc := 4) x dd_He_partCount_4 (by decide) (by rw [h0]; decide) (tgt := 32) (off := 28) (by decide) (k0 h0)
  by_cases h1 : a = 4
  · exact vv_lookup (pc := 4) x dd_He_partCount_4 (by decide) (by rw [h1]; decide) (tgt := 34) (off := 30) (by decide) (k1 h1)
  exact vv_lookup (pc := 4) x dd_He_partCount_4 (by decide) ((lv_osw h0 (by decide)).trans ((lv_osw h1 (by decide)).trans rfl)) (off := 40) (tgt := 44) (by decide) (kd h0 h1)
theorem sw_CH_count_1 (x : cx g X "CopyHeaps" nm cc_CH_count nL ret d lo mc ms p R s m meth c) {a : Int32} (k0 : a = 0 → vv g nL p l e R s m args below meth c Q cells slots 36 ls rest M) (k1 : a = 1 → vv g nL p l e R s m args below meth c Q cells slots 44 ls rest M) (k2 : a = 2 → vv g nL p l e R s m args below meth c Q cells slots 52 ls rest M) (k3 : a = 3 → vv g nL p l e R s m args below meth c Q cells slots 60 ls rest M) (k4 : a = 4 → vv g nL p l e R s m args below meth c Q cells slots 65 ls rest M) (kd : ¬ a = 0 → ¬ a = 1 → ¬ a = 2 → ¬ a = 3 → ¬ a = 4 → vv g nL p l e R s m args below meth c Q cells slots 70 ls rest M) : vv g nL p l e R s m args below meth c Q cells slots 1 ls (.int a :: rest) M := by
  by_cases h0 : a = 0
  · exact vv_tableIn (pc := 1) x dd_CH_count_1 (by rw [h0]; decide) (by rw [h0]; decide) (by rw [h0]; decide) (tgt := 36) (off := 35) (by decide) (k0 h0)
  by_cases h1 : a = 1
  · exact vv_tableIn (pc := 1) x dd_CH_count_1 (by rw [h1]; decide) (by rw [h1]; decide) (by rw [h1]; decide) (tgt := 44) (off := 43) (by decide) (k1 h1)
  by_cases h2 : a = 2
  · exact vv_tableIn (pc := 1) x dd_CH_count_1 (by rw [h2]; decide) (by rw [h2]; decide) (by rw [h2]; decide) (tgt := 52) (off := 51) (by decide) (k2 h2)
  by_cases h3 : a = 3
  · exact vv_tableIn (pc := 1) x dd_CH_count_1 (by rw [h3]; decide) (by rw [h3]; decide) (by rw [h3]; decide) (tgt := 60) (off := 59) (by decide) (k3 h3)
  by_cases h4 : a = 4
  · exact vv_tableIn (pc := 1) x dd_CH_count_1 (by rw [h4]; decide) (by rw [h4]; decide) (by rw [h4]; decide) (tgt := 65) (off := 64) (by decide) (k4 h4)
  have hh : a.toInt < 0 ∨ 4 < a.toInt := by
    have e0 := lv_neT (a := 0) h0 (by decide)
    have e1 := lv_neT (a := 1) h1 (by decide)
    have e2 := lv_neT (a := 2) h2 (by decide)
    have e3 := lv_neT (a := 3) h3 (by decide)
    have e4 := lv_neT (a := 4) h4 (by decide)
    omega
  exact vv_tableOut (pc := 1) x dd_CH_count_1 hh (tgt := 70) (by decide) (kd h0 h1 h2 h3 h4)
theorem sw_CH_of_7 (x : cx g X "CopyHeaps" nm cc_CH_of nL ret d lo mc ms p R s m meth c) {a : Int32} (k0 : a = 0 → vv g nL p l e R s m args below meth c Q cells slots 32 ls rest M) (k1 : a = 1 → vv g nL p l e R s m args below meth c Q cells slots 37 ls rest M) (k2 : a = 2 → vv g nL p l e R s m args below meth c Q cells slots 45 ls rest M) (kd : ¬ a = 0 → ¬ a = 1 → ¬ a = 2 → vv g nL p l e R s m args below meth c Q cells slots 53 ls rest M) : vv g nL p l e R s m args below meth c Q cells slots 7 ls (.int a :: rest) M := by
  by_cases h0 : a = 0
  · exact vv_tableIn (pc := 7) x dd_CH_of_7 (by rw [h0]; decide) (by rw [h0]; decide) (by rw [h0]; decide) (tgt := 32) (off := 25) (by decide) (k0 h0)
  by_cases h1 : a = 1
  · exact vv_tableIn (pc := 7) x dd_CH_of_7 (by rw [h1]; decide) (by rw [h1]; decide) (by rw [h1]; decide) (tgt := 37) (off := 30) (by decide) (k1 h1)
  by_cases h2 : a = 2
  · exact vv_tableIn (pc := 7) x dd_CH_of_7 (by rw [h2]; decide) (by rw [h2]; decide) (by rw [h2]; decide) (tgt := 45) (off := 38) (by decide) (k2 h2)
  have hh : a.toInt < 0 ∨ 2 < a.toInt := by
    have e0 := lv_neT (a := 0) h0 (by decide)
    have e1 := lv_neT (a := 1) h1 (by decide)
    have e2 := lv_neT (a := 2) h2 (by decide)
    omega
  exact vv_tableOut (pc := 7) x dd_CH_of_7 hh (tgt := 53) (by decide) (kd h0 h1 h2)
theorem sw_CH_value_20 (x : cx g X "CopyHeaps" nm cc_CH_value nL ret d lo mc ms p R s m meth c) {a : Int32} (k0 : a = 1 → vv g nL p l e R s m args below meth c Q cells slots 56 ls rest M) (k1 : a = 2 → vv g nL p l e R s m args below meth c Q cells slots 56 ls rest M) (k2 : a = 3 → vv g nL p l e R s m args below meth c Q cells slots 80 ls rest M) (k3 : a = 4 → vv g nL p l e R s m args below meth c Q cells slots 80 ls rest M) (k4 : a = 5 → vv g nL p l e R s m args below meth c Q cells slots 62 ls rest M) (kd : ¬ a = 1 → ¬ a = 2 → ¬ a = 3 → ¬ a = 4 → ¬ a = 5 → vv g nL p l e R s m args below meth c Q cells slots 80 ls rest M) : vv g nL p l e R s m args below meth c Q cells slots 20 ls (.int a :: rest) M := by
  by_cases h0 : a = 1
  · exact vv_tableIn (pc := 20) x dd_CH_value_20 (by rw [h0]; decide) (by rw [h0]; decide) (by rw [h0]; decide) (tgt := 56) (off := 36) (by decide) (k0 h0)
  by_cases h1 : a = 2
  · exact vv_tableIn (pc := 20) x dd_CH_value_20 (by rw [h1]; decide) (by rw [h1]; decide) (by rw [h1]; decide) (tgt := 56) (off := 36) (by decide) (k1 h1)
  by_cases h2 : a = 3
  · exact vv_tableIn (pc := 20) x dd_CH_value_20 (by rw [h2]; decide) (by rw [h2]; decide) (by rw [h2]; decide) (tgt := 80) (off := 60) (by decide) (k2 h2)
  by_cases h3 : a = 4
  · exact vv_tableIn (pc := 20) x dd_CH_value_20 (by rw [h3]; decide) (by rw [h3]; decide) (by rw [h3]; decide) (tgt := 80) (off := 60) (by decide) (k3 h3)
  by_cases h4 : a = 5
  · exact vv_tableIn (pc := 20) x dd_CH_value_20 (by rw [h4]; decide) (by rw [h4]; decide) (by rw [h4]; decide) (tgt := 62) (off := 42) (by decide) (k4 h4)
  have hh : a.toInt < 1 ∨ 5 < a.toInt := by
    have e0 := lv_neT (a := 1) h0 (by decide)
    have e1 := lv_neT (a := 2) h1 (by decide)
    have e2 := lv_neT (a := 3) h2 (by decide)
    have e3 := lv_neT (a := 4) h3 (by decide)
    have e4 := lv_neT (a := 5) h4 (by decide)
    omega
  exact vv_tableOut (pc := 20) x dd_CH_value_20 hh (tgt := 80) (by decide) (kd h0 h1 h2 h3 h4)
theorem sw_Mo_value_19 (x : cx g X "CopyHeapsModel" nm cc_Mo_value nL ret d lo mc ms p R s m meth c) {a : Int32} (k0 : a = 1 → vv g nL p l e R s m args below meth c Q cells slots 52 ls rest M) (k1 : a = 2 → vv g nL p l e R s m args below meth c Q cells slots 52 ls rest M) (k2 : a = 3 → vv g nL p l e R s m args below meth c Q cells slots 56 ls rest M) (k3 : a = 4 → vv g nL p l e R s m args below meth c Q cells slots 56 ls rest M) (k4 : a = 5 → vv g nL p l e R s m args below meth c Q cells slots 64 ls rest M) (kd : ¬ a = 1 → ¬ a = 2 → ¬ a = 3 → ¬ a = 4 → ¬ a = 5 → vv g nL p l e R s m args below meth c Q cells slots 87 ls rest M) : vv g nL p l e R s m args below meth c Q cells slots 19 ls (.int a :: rest) M := by
  by_cases h0 : a = 1
  · exact vv_tableIn (pc := 19) x dd_Mo_value_19 (by rw [h0]; decide) (by rw [h0]; decide) (by rw [h0]; decide) (tgt := 52) (off := 33) (by decide) (k0 h0)
  by_cases h1 : a = 2
  · exact vv_tableIn (pc := 19) x dd_Mo_value_19 (by rw [h1]; decide) (by rw [h1]; decide) (by rw [h1]; decide) (tgt := 52) (off := 33) (by decide) (k1 h1)
  by_cases h2 : a = 3
  · exact vv_tableIn (pc := 19) x dd_Mo_value_19 (by rw [h2]; decide) (by rw [h2]; decide) (by rw [h2]; decide) (tgt := 56) (off := 37) (by decide) (k2 h2)
  by_cases h3 : a = 4
  · exact vv_tableIn (pc := 19) x dd_Mo_value_19 (by rw [h3]; decide) (by rw [h3]; decide) (by rw [h3]; decide) (tgt := 56) (off := 37) (by decide) (k3 h3)
  by_cases h4 : a = 5
  · exact vv_tableIn (pc := 19) x dd_Mo_value_19 (by rw [h4]; decide) (by rw [h4]; decide) (by rw [h4]; decide) (tgt := 64) (off := 45) (by decide) (k4 h4)
  have hh : a.toInt < 1 ∨ 5 < a.toInt := by
    have e0 := lv_neT (a := 1) h0 (by decide)
    have e1 := lv_neT (a := 2) h1 (by decide)
    have e2 := lv_neT (a := 3) h2 (by decide)
    have e3 := lv_neT (a := 4) h3 (by decide)
    have e4 := lv_neT (a := 5) h4 (by decide)
    omega
  exact vv_tableOut (pc := 19) x dd_Mo_value_19 hh (tgt := 87) (by decide) (kd h0 h1 h2 h3 h4)
theorem sw_La_law_49 (x : cx g X "CopyHeapsLaw" nm cc_La_law nL ret d lo mc ms p R s m meth c) {a : Int32} (k0 : a = 0 → vv g nL p l e R s m args below meth c Q cells slots 156 ls rest M) (k1 : a = 1 → vv g nL p l e R s m args below meth c Q cells slots 200 ls rest M) (k2 : a = 2 → vv g nL p l e R s m args below meth c Q cells slots 256 ls rest M) (k3 : a = 3 → vv g nL p l e R s m args below meth c Q cells slots 304 ls rest M) (k4 : a = 4 → vv g nL p l e R s m args below meth c Q cells slots 364 ls rest M) (k5 : a = 5 → vv g nL p l e R s m args below meth c Q cells slots 424 ls rest M) (k6 : a = 6 → vv g nL p l e R s m args below meth c Q cells slots 484 ls rest M) (k7 : a = 7 → vv g nL p l e R s m args below meth c Q cells slots 556 ls rest M) (k8 : a = 8 → vv g nL p l e R s m args below meth c Q cells slots 616 ls rest M) (k9 : a = 9 → vv g nL p l e R s m args below meth c Q cells slots 676 ls rest M) (k10 : a = 10 → vv g nL p l e R s m args below meth c Q cells slots 748 ls rest M) (k11 : a = 11 → vv g nL p l e R s m args below meth c Q cells slots 835 ls rest M) (k12 : a = 12 → vv g nL p l e R s m args below meth c Q cells slots 903 ls rest M) (k13 : a = 13 → vv g nL p l e R s m args below meth c Q cells slots 971 ls rest M) (k14 : a = 14 → vv g nL p l e R s m args below meth c Q cells slots 1027 ls rest M) (k15 : a = 15 → vv g nL p l e R s m args below meth c Q cells slots 1083 ls rest M) (k16 : a = 16 → vv g nL p l e R s m args below meth c Q cells slots 1139 ls rest M) (k17 : a = 17 → vv g nL p l e R s m args below meth c Q cells slots 1207 ls rest M) (k18 : a = 18 → vv g nL p l e R s m args below meth c Q cells slots 1275 ls rest M) (k19 : a = 19 → vv g nL p l e R s m args below meth c Q cells slots 1343 ls rest M) (k20 : a = 20 → vv g nL p l e R s m args below meth c Q cells slots 1411 ls rest M) (k21 : a = 21 → vv g nL p l e R s m args below meth c Q cells slots 1479 ls rest M) (k22 : a = 22 → vv g nL p l e R s m args below meth c Q cells slots 1547 ls rest M) (kd : ¬ a = 0 → ¬ a = 1 → ¬ a = 2 → ¬ a = 3 → ¬ a = 4 → ¬ a = 5 → ¬ a = 6 → ¬ a = 7 → ¬ a = 8 → ¬ a = 9 → ¬ a = 10 → ¬ a = 11 → ¬ a = 12 → ¬ a = 13 → ¬ a = 14 → ¬ a = 15 → ¬ a = 16 → ¬ a = 17 → ¬ a = 18 → ¬ a = 19 → ¬ a = 20 → ¬ a = 21 → ¬ a = 22 → vv g nL p l e R s m args below meth c Q cells slots 1646 ls rest M) : vv g nL p l e R s m args below meth c Q cells slots 49 ls (.int a :: rest) M := by
  by_cases h0 : a = 0
  · exact vv_tableIn (pc := 49) x dd_La_law_49 (by rw [h0]; decide) (by rw [h0]; decide) (by rw [h0]; decide) (tgt := 156) (off := 107) (by decide) (k0 h0)
  by_cases h1 : a = 1
  · exact vv_tableIn (pc := 49) x dd_La_law_49 (by rw [h1]; decide) (by rw [h1]; decide) (by rw [h1]; decide) (tgt := 200) (off := 151) (by decide) (k1 h1)
  by_cases h2 : a = 2
  · exact vv_tableIn (pc := 49) x dd_La_law_49 (by rw [h2]; decide) (by rw [h2]; decide) (by rw [h2]; decide) (tgt := 256) (off := 207) (by decide) (k2 h2)
  by_cases h3 : a = 3
  · exact vv_tableIn (pc := 49) x dd_La_law_49 (by rw [h3]; decide) (by rw [h3]; decide) (by rw [h3]; decide) (tgt := 304) (off := 255) (by decide) (k3 h3)
  by_cases h4 : a = 4
  · exact vv_tableIn (pc := 49) x dd_La_law_49 (by rw [h4]; decide) (by rw [h4]; decide) (by rw [h4]; decide) (tgt := 364) (off := 315) (by decide) (k4 h4)
  by_cases h5 : a = 5
  · exact vv_tableIn (pc := 49) x dd_La_law_49 (by rw [h5]; decide) (by rw [h5]; decide) (by rw [h5]; decide) (tgt := 424) (off := 375) (by decide) (k5 h5)
  by_cases h6 : a = 6
  · exact vv_tableIn (pc := 49) x dd_La_law_49 (by rw [h6]; decide) (by rw [h6]; decide) (by rw [h6]; decide) (tgt := 484) (off := 435) (by decide) (k6 h6)
  by_cases h7 : a = 7
  · exact vv_tableIn (pc := 49) x dd_La_law_49 (by rw [h7]; decide) (by rw [h7]; decide) (by rw [h7]; decide) (tgt := 556) (off := 507) (by decide) (k7 h7)
  by_cases h8 : a = 8
  · exact vv_tableIn (pc := 49) x dd_La_law_49 (by rw [h8]; decide) (by rw [h8]; decide) (by rw [h8]; decide) (tgt := 616) (off := 567) (by decide) (k8 h8)
  by_cases h9 : a = 9
  · exact vv_tableIn (pc := 49) x dd_La_law_49 (by rw [h9]; decide) (by rw [h9]; decide) (by rw [h9]; decide) (tgt := 676) (off := 627) (by decide) (k9 h9)
  by_cases h10 : a = 10
  · exact vv_tableIn (pc := 49) x dd_La_law_49 (by rw [h10]; decide) (by rw [h10]; decide) (by rw [h10]; decide) (tgt := 748) (off := 699) (by decide) (k10 h10)
  by_cases h11 : a = 11
  · exact vv_tableIn (pc := 49) x dd_La_law_49 (by rw [h11]; decide) (by rw [h11]; decide) (by rw [h11]; decide) (tgt := 835) (off := 786) (by decide) (k11 h11)
  by_cases h12 : a = 12
  · exact vv_tableIn (pc := 49) x dd_La_law_49 (by rw [h12]; decide) (by rw [h12]; decide) (by rw [h12]; decide) (tgt := 903) (off := 854) (by decide) (k12 h12)
  by_cases h13 : a = 13
  · exact vv_tableIn (pc := 49) x dd_La_law_49 (by rw [h13]; decide) (by rw [h13]; decide) (by rw [h13]; decide) (tgt := 971) (off := 922) (by decide) (k13 h13)
  by_cases h14 : a = 14
  · exact vv_tableIn (pc := 49) x dd_La_law_49 (by rw [h14]; decide) (by rw [h14]; decide) (by rw [h14]; decide) (tgt := 1027) (off := 978) (by decide) (k14 h14)
  by_cases h15 : a = 15
  · exact vv_tableIn (pc := 49) x dd_La_law_49 (by rw [h15]; decide) (by rw [h15]; decide) (by rw [h15]; decide) (tgt := 1083) (off := 1034) (by decide) (k15 h15)
  by_cases h16 : a = 16
  · exact vv_tableIn (pc := 49) x dd_La_law_49 (by rw [h16]; decide) (by rw [h16]; decide) (by rw [h16]; decide) (tgt := 1139) (off := 1090) (by decide) (k16 h16)
  by_cases h17 : a = 17
  · exact vv_tableIn (pc := 49) x dd_La_law_49 (by rw [h17]; decide) (by rw [h17]; decide) (by rw [h17]; decide) (tgt := 1207) (off := 1158) (by decide) (k17 h17)
  by_cases h18 : a = 18
  · exact vv_tableIn (pc := 49) x dd_La_law_49 (by rw [h18]; decide) (by rw [h18]; decide) (by rw [h18]; decide) (tgt := 1275) (off := 1226) (by decide) (k18 h18)
  by_cases h19 : a = 19
  · exact vv_tableIn (pc := 49) x dd_La_law_49 (by rw [h19]; decide) (by rw [h19]; decide) (by rw [h19]; decide) (tgt := 1343) (off := 1294) (by decide) (k19 h19)
  by_cases h20 : a = 20
  · exact vv_tableIn (pc := 49) x dd_La_law_49 (by rw [h20]; decide) (by rw [h20]; decide) (by rw [h20]; decide) (tgt := 1411) (off := 1362) (by decide) (k20 h20)
  by_cases h21 : a = 21
  · exact vv_tableIn (pc := 49) x dd_La_law_49 (by rw [h21]; decide) (by rw [h21]; decide) (by rw [h21]; decide) (tgt := 1479) (off := 1430) (by decide) (k21 h21)
  by_cases h22 : a = 22
  · exact vv_tableIn (pc := 49) x dd_La_law_49 (by rw [h22]; decide) (by rw [h22]; decide) (by rw [h22]; decide) (tgt := 1547) (off := 1498) (by decide) (k22 h22)
  have hh : a.toInt < 0 ∨ 22 < a.toInt := by
    have e0 := lv_neT (a := 0) h0 (by decide)
    have e1 := lv_neT (a := 1) h1 (by decide)
    have e2 := lv_neT (a := 2) h2 (by decide)
    have e3 := lv_neT (a := 3) h3 (by decide)
    have e4 := lv_neT (a := 4) h4 (by decide)
    have e5 := lv_neT (a := 5) h5 (by decide)
    have e6 := lv_neT (a := 6) h6 (by decide)
    have e7 := lv_neT (a := 7) h7 (by decide)
    have e8 := lv_neT (a := 8) h8 (by decide)
    have e9 := lv_neT (a := 9) h9 (by decide)
    have e10 := lv_neT (a := 10) h10 (by decide)
    have e11 := lv_neT (a := 11) h11 (by decide)
    have e12 := lv_neT (a := 12) h12 (by decide)
    have e13 := lv_neT (a := 13) h13 (by decide)
    have e14 := lv_neT (a := 14) h14 (by decide)
    have e15 := lv_neT (a := 15) h15 (by decide)
    have e16 := lv_neT (a := 16) h16 (by decide)
    have e17 := lv_neT (a := 17) h17 (by decide)
    have e18 := lv_neT (a := 18) h18 (by decide)
    have e19 := lv_neT (a := 19) h19 (by decide)
    have e20 := lv_neT (a := 20) h20 (by decide)
    have e21 := lv_neT (a := 21) h21 (by decide)
    have e22 := lv_neT (a := 22) h22 (by decide)
    omega
  exact vv_tableOut (pc := 49) x dd_La_law_49 hh (tgt := 1646) (by decide) (kd h0 h1 h2 h3 h4 h5 h6 h7 h8 h9 h10 h11 h12 h13 h14 h15 h16 h17 h18 h19 h20 h21 h22)
end LK
