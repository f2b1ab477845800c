section

def lw_okq (q : MethodName × Nat) : Prop := (q.1.cls ≠ "java/lang/invoke/MethodHandle" ∧ q.1.cls ≠ "java/lang/invoke/VarHandle") ∧ Cond.instantiable q.1.cls q.2 ∈ tables_1 ∧ Cond.privateMethod q.1 ∈ tables_1 ∧ Cond.instanceMethod q.1 ∈ tables_1
theorem lw_p0 : lw_okq (⟨"java/lang/Throwable", "fillInStackTrace", "(I)Ljava/lang/Throwable;"⟩, 6) := ⟨⟨by decide +kernel, by decide +kernel⟩, List.mem_of_getElem? (i := 236) (by decide +kernel), List.mem_of_getElem? (i := 234) (by decide +kernel), List.mem_of_getElem? (i := 235) (by decide +kernel)⟩
theorem lw_p1 : lw_okq (⟨"java/util/ArrayList", "fastRemove", "([Ljava/lang/Object;I)V"⟩, 3) := ⟨⟨by decide +kernel, by decide +kernel⟩, List.mem_of_getElem? (i := 64) (by decide +kernel), List.mem_of_getElem? (i := 321) (by decide +kernel), List.mem_of_getElem? (i := 322) (by decide +kernel)⟩
theorem lw_p2 : lw_okq (⟨"java/util/ArrayList", "add", "(Ljava/lang/Object;[Ljava/lang/Object;I)V"⟩, 3) := ⟨⟨by decide +kernel, by decide +kernel⟩, List.mem_of_getElem? (i := 64) (by decide +kernel), List.mem_of_getElem? (i := 347) (by decide +kernel), List.mem_of_getElem? (i := 348) (by decide +kernel)⟩
theorem lw_p3 : lw_okq (⟨"java/util/ArrayList", "grow", "()[Ljava/lang/Object;"⟩, 3) := ⟨⟨by decide +kernel, by decide +kernel⟩, List.mem_of_getElem? (i := 64) (by decide +kernel), List.mem_of_getElem? (i := 351) (by decide +kernel), List.mem_of_getElem? (i := 352) (by decide +kernel)⟩
theorem lw_p4 : lw_okq (⟨"java/util/ArrayList", "grow", "(I)[Ljava/lang/Object;"⟩, 3) := ⟨⟨by decide +kernel, by decide +kernel⟩, List.mem_of_getElem? (i := 64) (by decide +kernel), List.mem_of_getElem? (i := 355) (by decide +kernel), List.mem_of_getElem? (i := 356) (by decide +kernel)⟩
theorem lw_p5 : lw_okq (⟨"CopyHeaps", "living", "(I)LCopyHeaps$HeapProcess;"⟩, 9) := ⟨⟨by decide +kernel, by decide +kernel⟩, List.mem_of_getElem? (i := 26) (by decide +kernel), List.mem_of_getElem? (i := 405) (by decide +kernel), List.mem_of_getElem? (i := 406) (by decide +kernel)⟩
theorem lw_p6 : lw_okq (⟨"CopyHeaps", "placeOf", "(I)I"⟩, 9) := ⟨⟨by decide +kernel, by decide +kernel⟩, List.mem_of_getElem? (i := 26) (by decide +kernel), List.mem_of_getElem? (i := 409) (by decide +kernel), List.mem_of_getElem? (i := 410) (by decide +kernel)⟩
theorem lw_p7 : lw_okq (⟨"CopyHeaps", "living", "(II)LCopyHeaps$HeapProcess;"⟩, 9) := ⟨⟨by decide +kernel, by decide +kernel⟩, List.mem_of_getElem? (i := 26) (by decide +kernel), List.mem_of_getElem? (i := 467) (by decide +kernel), List.mem_of_getElem? (i := 468) (by decide +kernel)⟩
theorem lw_p8 : lw_okq (⟨"CopyHeaps", "needRoom", "(LCopyHeaps$HeapProcess;I)V"⟩, 9) := ⟨⟨by decide +kernel, by decide +kernel⟩, List.mem_of_getElem? (i := 26) (by decide +kernel), List.mem_of_getElem? (i := 523) (by decide +kernel), List.mem_of_getElem? (i := 524) (by decide +kernel)⟩
theorem lw_p9 : lw_okq (⟨"CopyHeaps", "makeRoom", "(LCopyHeaps$HeapProcess;I)Z"⟩, 9) := ⟨⟨by decide +kernel, by decide +kernel⟩, List.mem_of_getElem? (i := 26) (by decide +kernel), List.mem_of_getElem? (i := 527) (by decide +kernel), List.mem_of_getElem? (i := 528) (by decide +kernel)⟩
theorem lw_p10 : lw_okq (⟨"CopyHeaps", "collectHeap", "(LCopyHeaps$HeapProcess;)V"⟩, 9) := ⟨⟨by decide +kernel, by decide +kernel⟩, List.mem_of_getElem? (i := 26) (by decide +kernel), List.mem_of_getElem? (i := 535) (by decide +kernel), List.mem_of_getElem? (i := 536) (by decide +kernel)⟩
theorem lw_p11 : lw_okq (⟨"CopyHeaps$Heap", "place", "(II)I"⟩, 4) := ⟨⟨by decide +kernel, by decide +kernel⟩, List.mem_of_getElem? (i := 131) (by decide +kernel), List.mem_of_getElem? (i := 558) (by decide +kernel), List.mem_of_getElem? (i := 559) (by decide +kernel)⟩
theorem lw_p12 : lw_okq (⟨"CopyHeaps$Mailbox", "placeInRing", "(I)I"⟩, 3) := ⟨⟨by decide +kernel, by decide +kernel⟩, List.mem_of_getElem? (i := 271) (by decide +kernel), List.mem_of_getElem? (i := 566) (by decide +kernel), List.mem_of_getElem? (i := 567) (by decide +kernel)⟩
theorem lw_p13 : lw_okq (⟨"CopyHeaps", "deliver", "(LCopyHeaps$HeapProcess;ILCopyHeaps$HeapProcess;)Z"⟩, 9) := ⟨⟨by decide +kernel, by decide +kernel⟩, List.mem_of_getElem? (i := 26) (by decide +kernel), List.mem_of_getElem? (i := 659) (by decide +kernel), List.mem_of_getElem? (i := 660) (by decide +kernel)⟩
theorem lw_p14 : lw_okq (⟨"CopyHeaps", "wordsLedTo", "(LCopyHeaps$Heap;I)I"⟩, 9) := ⟨⟨by decide +kernel, by decide +kernel⟩, List.mem_of_getElem? (i := 26) (by decide +kernel), List.mem_of_getElem? (i := 672) (by decide +kernel), List.mem_of_getElem? (i := 673) (by decide +kernel)⟩
theorem lw_p15 : lw_okq (⟨"CopyHeaps$Comparison", "push", "(II)V"⟩, 5) := ⟨⟨by decide +kernel, by decide +kernel⟩, List.mem_of_getElem? (i := 109) (by decide +kernel), List.mem_of_getElem? (i := 780) (by decide +kernel), List.mem_of_getElem? (i := 781) (by decide +kernel)⟩
def lw_privs_1 : List (MethodName × Nat) := [(⟨"java/lang/Throwable", "fillInStackTrace", "(I)Ljava/lang/Throwable;"⟩, 6), (⟨"java/util/ArrayList", "fastRemove", "([Ljava/lang/Object;I)V"⟩, 3), (⟨"java/util/ArrayList", "add", "(Ljava/lang/Object;[Ljava/lang/Object;I)V"⟩, 3), (⟨"java/util/ArrayList", "grow", "()[Ljava/lang/Object;"⟩, 3), (⟨"java/util/ArrayList", "grow", "(I)[Ljava/lang/Object;"⟩, 3), (⟨"CopyHeaps", "living", "(I)LCopyHeaps$HeapProcess;"⟩, 9), (⟨"CopyHeaps", "placeOf", "(I)I"⟩, 9), (⟨"CopyHeaps", "living", "(II)LCopyHeaps$HeapProcess;"⟩, 9), (⟨"CopyHeaps", "needRoom", "(LCopyHeaps$HeapProcess;I)V"⟩, 9), (⟨"CopyHeaps", "makeRoom", "(LCopyHeaps$HeapProcess;I)Z"⟩, 9), (⟨"CopyHeaps", "collectHeap", "(LCopyHeaps$HeapProcess;)V"⟩, 9), (⟨"CopyHeaps$Heap", "place", "(II)I"⟩, 4), (⟨"CopyHeaps$Mailbox", "placeInRing", "(I)I"⟩, 3), (⟨"CopyHeaps", "deliver", "(LCopyHeaps$HeapProcess;ILCopyHeaps$HeapProcess;)Z"⟩, 9), (⟨"CopyHeaps", "wordsLedTo", "(LCopyHeaps$Heap;I)I"⟩, 9), (⟨"CopyHeaps$Comparison", "push", "(II)V"⟩, 5)]
theorem lw_r1 : ∀ q ∈ lw_privs_1, lw_okq q := List.forall_mem_cons.mpr ⟨lw_p0, List.forall_mem_cons.mpr ⟨lw_p1, List.forall_mem_cons.mpr ⟨lw_p2, List.forall_mem_cons.mpr ⟨lw_p3, List.forall_mem_cons.mpr ⟨lw_p4, List.forall_mem_cons.mpr ⟨lw_p5, List.forall_mem_cons.mpr ⟨lw_p6, List.forall_mem_cons.mpr ⟨lw_p7, List.forall_mem_cons.mpr ⟨lw_p8, List.forall_mem_cons.mpr ⟨lw_p9, List.forall_mem_cons.mpr ⟨lw_p10, List.forall_mem_cons.mpr ⟨lw_p11, List.forall_mem_cons.mpr ⟨lw_p12, List.forall_mem_cons.mpr ⟨lw_p13, List.forall_mem_cons.mpr ⟨lw_p14, List.forall_mem_cons.mpr ⟨lw_p15, fun _ h => absurd h List.not_mem_nil⟩⟩⟩⟩⟩⟩⟩⟩⟩⟩⟩⟩⟩⟩⟩⟩
theorem lw_p16 : lw_okq (⟨"CopyHeaps$Comparison", "areAlike", "(II)Z"⟩, 5) := ⟨⟨by decide +kernel, by decide +kernel⟩, List.mem_of_getElem? (i := 109) (by decide +kernel), List.mem_of_getElem? (i := 788) (by decide +kernel), List.mem_of_getElem? (i := 789) (by decide +kernel)⟩
theorem lw_p17 : lw_okq (⟨"CopyHeaps$Comparison", "pushParts", "(II)V"⟩, 5) := ⟨⟨by decide +kernel, by decide +kernel⟩, List.mem_of_getElem? (i := 109) (by decide +kernel), List.mem_of_getElem? (i := 796) (by decide +kernel), List.mem_of_getElem? (i := 797) (by decide +kernel)⟩
theorem lw_p18 : lw_okq (⟨"CopyHeapsModel", "free", "()I"⟩, 23) := ⟨⟨by decide +kernel, by decide +kernel⟩, List.mem_of_getElem? (i := 805) (by decide +kernel), List.mem_of_getElem? (i := 889) (by decide +kernel), List.mem_of_getElem? (i := 890) (by decide +kernel)⟩
theorem lw_p19 : lw_okq (⟨"CopyHeapsModel", "placeOf", "(I)I"⟩, 23) := ⟨⟨by decide +kernel, by decide +kernel⟩, List.mem_of_getElem? (i := 805) (by decide +kernel), List.mem_of_getElem? (i := 897) (by decide +kernel), List.mem_of_getElem? (i := 898) (by decide +kernel)⟩
theorem lw_p20 : lw_okq (⟨"CopyHeapsModel", "release", "(I)V"⟩, 23) := ⟨⟨by decide +kernel, by decide +kernel⟩, List.mem_of_getElem? (i := 805) (by decide +kernel), List.mem_of_getElem? (i := 901) (by decide +kernel), List.mem_of_getElem? (i := 902) (by decide +kernel)⟩
theorem lw_p21 : lw_okq (⟨"CopyHeapsModel", "noRegister", "(I)Z"⟩, 23) := ⟨⟨by decide +kernel, by decide +kernel⟩, List.mem_of_getElem? (i := 805) (by decide +kernel), List.mem_of_getElem? (i := 909) (by decide +kernel), List.mem_of_getElem? (i := 910) (by decide +kernel)⟩
theorem lw_p22 : lw_okq (⟨"CopyHeapsModel", "room", "(II)Z"⟩, 23) := ⟨⟨by decide +kernel, by decide +kernel⟩, List.mem_of_getElem? (i := 805) (by decide +kernel), List.mem_of_getElem? (i := 931) (by decide +kernel), List.mem_of_getElem? (i := 932) (by decide +kernel)⟩
theorem lw_p23 : lw_okq (⟨"CopyHeapsModel", "gather", "(I)V"⟩, 23) := ⟨⟨by decide +kernel, by decide +kernel⟩, List.mem_of_getElem? (i := 805) (by decide +kernel), List.mem_of_getElem? (i := 935) (by decide +kernel), List.mem_of_getElem? (i := 936) (by decide +kernel)⟩
theorem lw_p24 : lw_okq (⟨"CopyHeapsModel", "begin", "()V"⟩, 23) := ⟨⟨by decide +kernel, by decide +kernel⟩, List.mem_of_getElem? (i := 805) (by decide +kernel), List.mem_of_getElem? (i := 939) (by decide +kernel), List.mem_of_getElem? (i := 940) (by decide +kernel)⟩
theorem lw_p25 : lw_okq (⟨"CopyHeapsModel", "put", "(III)I"⟩, 23) := ⟨⟨by decide +kernel, by decide +kernel⟩, List.mem_of_getElem? (i := 805) (by decide +kernel), List.mem_of_getElem? (i := 943) (by decide +kernel), List.mem_of_getElem? (i := 944) (by decide +kernel)⟩
theorem lw_p26 : lw_okq (⟨"CopyHeapsModel", "isHeaped", "(I)Z"⟩, 23) := ⟨⟨by decide +kernel, by decide +kernel⟩, List.mem_of_getElem? (i := 805) (by decide +kernel), List.mem_of_getElem? (i := 947) (by decide +kernel), List.mem_of_getElem? (i := 948) (by decide +kernel)⟩
theorem lw_p27 : lw_okq (⟨"CopyHeapsModel", "at", "(I)I"⟩, 23) := ⟨⟨by decide +kernel, by decide +kernel⟩, List.mem_of_getElem? (i := 805) (by decide +kernel), List.mem_of_getElem? (i := 951) (by decide +kernel), List.mem_of_getElem? (i := 952) (by decide +kernel)⟩
theorem lw_p28 : lw_okq (⟨"CopyHeapsModel", "kindOf", "(I)I"⟩, 23) := ⟨⟨by decide +kernel, by decide +kernel⟩, List.mem_of_getElem? (i := 805) (by decide +kernel), List.mem_of_getElem? (i := 955) (by decide +kernel), List.mem_of_getElem? (i := 956) (by decide +kernel)⟩
theorem lw_p29 : lw_okq (⟨"CopyHeapsModel", "sizeOf", "(II)I"⟩, 23) := ⟨⟨by decide +kernel, by decide +kernel⟩, List.mem_of_getElem? (i := 805) (by decide +kernel), List.mem_of_getElem? (i := 959) (by decide +kernel), List.mem_of_getElem? (i := 960) (by decide +kernel)⟩
theorem lw_p30 : lw_okq (⟨"CopyHeapsModel", "partsOf", "(II)I"⟩, 23) := ⟨⟨by decide +kernel, by decide +kernel⟩, List.mem_of_getElem? (i := 805) (by decide +kernel), List.mem_of_getElem? (i := 963) (by decide +kernel), List.mem_of_getElem? (i := 964) (by decide +kernel)⟩
theorem lw_p31 : lw_okq (⟨"CopyHeapsModel", "follow", "(II)V"⟩, 23) := ⟨⟨by decide +kernel, by decide +kernel⟩, List.mem_of_getElem? (i := 805) (by decide +kernel), List.mem_of_getElem? (i := 967) (by decide +kernel), List.mem_of_getElem? (i := 968) (by decide +kernel)⟩
def lw_privs_2 : List (MethodName × Nat) := [(⟨"CopyHeaps$Comparison", "areAlike", "(II)Z"⟩, 5), (⟨"CopyHeaps$Comparison", "pushParts", "(II)V"⟩, 5), (⟨"CopyHeapsModel", "free", "()I"⟩, 23), (⟨"CopyHeapsModel", "placeOf", "(I)I"⟩, 23), (⟨"CopyHeapsModel", "release", "(I)V"⟩, 23), (⟨"CopyHeapsModel", "noRegister", "(I)Z"⟩, 23), (⟨"CopyHeapsModel", "room", "(II)Z"⟩, 23), (⟨"CopyHeapsModel", "gather", "(I)V"⟩, 23), (⟨"CopyHeapsModel", "begin", "()V"⟩, 23), (⟨"CopyHeapsModel", "put", "(III)I"⟩, 23), (⟨"CopyHeapsModel", "isHeaped", "(I)Z"⟩, 23), (⟨"CopyHeapsModel", "at", "(I)I"⟩, 23), (⟨"CopyHeapsModel", "kindOf", "(I)I"⟩, 23), (⟨"CopyHeapsModel", "sizeOf", "(II)I"⟩, 23), (⟨"CopyHeapsModel", "partsOf", "(II)I"⟩, 23), (⟨"CopyHeapsModel", "follow", "(II)V"⟩, 23)]
theorem lw_r2 : ∀ q ∈ lw_privs_2, lw_okq q := List.forall_mem_cons.mpr ⟨lw_p16, List.forall_mem_cons.mpr ⟨lw_p17, List.forall_mem_cons.mpr ⟨lw_p18, List.forall_mem_cons.mpr ⟨lw_p19, List.forall_mem_cons.mpr ⟨lw_p20, List.forall_mem_cons.mpr ⟨lw_p21, List.forall_mem_cons.mpr ⟨lw_p22, List.forall_mem_cons.mpr ⟨lw_p23, List.forall_mem_cons.mpr ⟨lw_p24, List.forall_mem_cons.mpr ⟨lw_p25, List.forall_mem_cons.mpr ⟨lw_p26, List.forall_mem_cons.mpr ⟨lw_p27, List.forall_mem_cons.mpr ⟨lw_p28, List.forall_mem_cons.mpr ⟨lw_p29, List.forall_mem_cons.mpr ⟨lw_p30, List.forall_mem_cons.mpr ⟨lw_p31, fun _ h => absurd h List.not_mem_nil⟩⟩⟩⟩⟩⟩⟩⟩⟩⟩⟩⟩⟩⟩⟩⟩
theorem lw_p32 : lw_okq (⟨"CopyHeapsModel", "open", "(III)I"⟩, 23) := ⟨⟨by decide +kernel, by decide +kernel⟩, List.mem_of_getElem? (i := 805) (by decide +kernel), List.mem_of_getElem? (i := 971) (by decide +kernel), List.mem_of_getElem? (i := 972) (by decide +kernel)⟩
theorem lw_p33 : lw_okq (⟨"CopyHeapsModel", "partOf", "(III)I"⟩, 23) := ⟨⟨by decide +kernel, by decide +kernel⟩, List.mem_of_getElem? (i := 805) (by decide +kernel), List.mem_of_getElem? (i := 987) (by decide +kernel), List.mem_of_getElem? (i := 988) (by decide +kernel)⟩
theorem lw_p34 : lw_okq (⟨"CopyHeapsModel", "pass", "(III)Z"⟩, 23) := ⟨⟨by decide +kernel, by decide +kernel⟩, List.mem_of_getElem? (i := 805) (by decide +kernel), List.mem_of_getElem? (i := 995) (by decide +kernel), List.mem_of_getElem? (i := 996) (by decide +kernel)⟩
theorem lw_p35 : lw_okq (⟨"CopyHeapsModel", "reach", "(II)I"⟩, 23) := ⟨⟨by decide +kernel, by decide +kernel⟩, List.mem_of_getElem? (i := 805) (by decide +kernel), List.mem_of_getElem? (i := 999) (by decide +kernel), List.mem_of_getElem? (i := 1000) (by decide +kernel)⟩
theorem lw_p36 : lw_okq (⟨"CopyHeapsModel", "termOf", "(II)I"⟩, 23) := ⟨⟨by decide +kernel, by decide +kernel⟩, List.mem_of_getElem? (i := 805) (by decide +kernel), List.mem_of_getElem? (i := 1031) (by decide +kernel), List.mem_of_getElem? (i := 1032) (by decide +kernel)⟩
theorem lw_p37 : lw_okq (⟨"CopyHeapsModel", "alike", "(IIII)Z"⟩, 23) := ⟨⟨by decide +kernel, by decide +kernel⟩, List.mem_of_getElem? (i := 805) (by decide +kernel), List.mem_of_getElem? (i := 1055) (by decide +kernel), List.mem_of_getElem? (i := 1056) (by decide +kernel)⟩
def lw_privs_3 : List (MethodName × Nat) := [(⟨"CopyHeapsModel", "open", "(III)I"⟩, 23), (⟨"CopyHeapsModel", "partOf", "(III)I"⟩, 23), (⟨"CopyHeapsModel", "pass", "(III)Z"⟩, 23), (⟨"CopyHeapsModel", "reach", "(II)I"⟩, 23), (⟨"CopyHeapsModel", "termOf", "(II)I"⟩, 23), (⟨"CopyHeapsModel", "alike", "(IIII)Z"⟩, 23)]
theorem lw_r3 : ∀ q ∈ lw_privs_3, lw_okq q := List.forall_mem_cons.mpr ⟨lw_p32, List.forall_mem_cons.mpr ⟨lw_p33, List.forall_mem_cons.mpr ⟨lw_p34, List.forall_mem_cons.mpr ⟨lw_p35, List.forall_mem_cons.mpr ⟨lw_p36, List.forall_mem_cons.mpr ⟨lw_p37, fun _ h => absurd h List.not_mem_nil⟩⟩⟩⟩⟩⟩
def lw_privs : List (MethodName × Nat) := lw_privs_1 ++ (lw_privs_2 ++ (lw_privs_3))
def lw_tbl : List Cond := k2_sels lw_privs ++ tables_1
theorem lw_privs_ok : ∀ q ∈ lw_privs, lw_okq q := by
  show ∀ q ∈ lw_privs_1 ++ (lw_privs_2 ++ (lw_privs_3)), lw_okq q
  exact List.forall_mem_append.mpr ⟨lw_r1, List.forall_mem_append.mpr ⟨lw_r2, lw_r3⟩⟩
end
section
theorem goodIn_r {big : List Cond} (ws : List Cond) (ps : List Nat) (hp : ws = ps.filterMap (fun i => big[i]?)) (h : ws.all goodWord = true) : GoodIn big ws := by
  intro w hw
  have h1 := List.all_eq_true.mp h w hw
  rw [hp] at hw
  obtain ⟨i, -, hi⟩ := List.mem_filterMap.mp hw
  have hm : w ∈ big := by first | exact List.mem_of_getElem? hi | exact List.getElem?_mem hi
  exact ⟨hm, good_of_word h1⟩
theorem goodIn_app {big a b : List Cond} (ha : GoodIn big a) (hb : GoodIn big b) : GoodIn big (a ++ b) := fun w h => (List.mem_append.mp h).elim (ha w) (hb w)
theorem goodIn_ca {big a b : List Cond} {c : Cond} (ha : GoodIn big (c :: a)) (hb : GoodIn big b) : GoodIn big (c :: (a ++ b)) := fun w h => (List.mem_cons.mp h).elim (fun e => ha w (List.mem_cons.mpr (Or.inl e))) (fun h => (List.mem_append.mp h).elim (fun h => ha w (List.mem_cons.mpr (Or.inr h))) (hb w))
theorem goodIn_sub {big ws : List Cond} (hm : ∀ w ∈ ws, w ∈ big) (h : ws.all goodWord = true) : GoodIn big ws := fun w hw => ⟨hm w hw, good_of_word (List.all_eq_true.mp h w hw)⟩

section VXA
def vx_T (XC : String → State → State → Prop) (st : State) (q : Addr) (t : State) (mc ms : Nat) (free : Addr → Prop) : Prop :=
  ∃ (E : String) (ce : Cell) (L : List Loc), XC E st t ∧ t.heap[q]? = some ce ∧ ce.vm = .none ∧ st.vm.findClass E = some ce.cls ∧ st.WarmedH t.vm ∧ st.sameButNew ({ t with vm := st.vm } : State) L mc ms ∧ ∀ z ∈ L, free z.base
def vx_Q (Qc : Array Value → State → Outcome → State → Prop) (XC : String → State → State → Prop) (mc ms : Nat) (free : Addr → Prop) : Array Value → State → Outcome → State → Prop := fun a st o t =>
  (Qc a st o t ∧ ∃ L, FrameEnd st o t L mc ms ∧ ∀ q ∈ L, free q.base) ∨ ∃ q, o = .threw q ∧ vx_T XC st q t mc ms free
def vx_Met (l : Launch) (y : MethodName) (ws : List Cond) (rm : Room) (Pc : Array Value → State → Prop) (Qc : Array Value → State → Outcome → State → Prop) (XC : String → State → State → Prop) (mc ms : Nat) (free : Addr → Prop) : Prop :=
  MetFree l y (headSpec ws rm) Pc (fun _ _ _ _ _ => True) (vx_Q Qc XC mc ms free)
def vx_Post (XC : String → State → State → Prop) (mc ms : Nat) (free : Addr → Prop) : Pt → Array Value → Addr → Pt → Prop := fun A a q B =>
  ∃ (g : JFrame) (mk : MethodId) (t : State) (L : List Loc) (E : String) (ce : Cell), B.U.heap = t.heap ∧ B.U.vm = t.vm ∧ XC E (A.U.calling g mk a) t ∧ t.heap[q]? = some ce ∧ ce.vm = .none ∧ A.U.vm.findClass E = some ce.cls ∧ B.locs = A.locs ++ L ∧ (∀ z ∈ L, free z.base) ∧ B.cells = A.cells + mc ∧ B.slots = A.slots + ms
def vx_Back (l : Launch) (R : Room) (p : Program) (e : Env) (below : List Frame) (s : State) (sargs : Array Value) (y : MethodName) (len W9 : Nat)
    (Pre : Pt → Array Value → Prop) (Post : Pt → Array Value → Option Value → Pt → Prop) (PostX : Pt → Array Value → Addr → Pt → Prop) : Prop :=
  ∀ (m : MethodId) (meth : Method) (c : Code) (A : Pt) (g : JFrame) (ig : Instr) (mk : MethodId) (a : Array Value),
    Stand p l e R s m sargs below meth c A.U A.locs A.cells A.slots → g.method = m → g.locals.size = c.maxLocals → decode c.code g.pc = .ok (ig, len) →
    2 * g.monitorRoom + (g.stack.map fun v => v.category).sum ≤ W9 → A.U.methodNamed? y = some mk → Pre A a →
    (∃ (v : Option Value) (B : Pt), Stand p l e R s m sargs below meth c B.U B.locs B.cells B.slots ∧ Post A a v B ∧
      Steps p.tables e below (doInvoke e (A.U.setTop g) [] mk a).1 (B.U.setTop { g with pc := g.pc + len, stack := v.toList ++ g.stack })) ∨
    (∃ (q : Addr) (B : Pt), Stand p l e R s m sargs below meth c B.U B.locs B.cells B.slots ∧ PostX A a q B ∧
      Steps p.tables e below (doInvoke e (A.U.setTop g) [] mk a).1 ((B.U.setTop g).pushFrame (.throwing q)))
section Payer
variable {l : Launch} {R : Room} {p : Program} {e : Env} {below : List Frame} {s : State} {sargs : Array Value} {y : MethodName} {len W9 : Nat}
theorem vx_back {ws : List Cond} {rm : Room} {Pc : Array Value → State → Prop} {Qc : Array Value → State → Outcome → State → Prop} {XC : String → State → State → Prop} {mc ms : Nat} {free : Addr → Prop} {bytes : ByteArray} {maxL : Nat} {ret : Option FieldType}
    (hM : vx_Met l y ws rm Pc Qc XC mc ms free) (hblind : FrameBlind Pc) (hrc : rm.cells = mc) (hrs : rm.slots = ms)
    (hframes : rm.frames + 1 ≤ R.frames) (hlocals : W9 + (maxL + 11) + rm.locals ≤ R.locals)
    (hws : ∀ w ∈ ws, ∀ a' U, s.WarmedH U.vm → w.before a' U = true) (hcode : Cond.code y bytes maxL ret ∈ ws) (hinit : ∀ a' U, s.WarmedH U.vm → (Cond.initialized y.cls).before a' U = true) :
    vx_Back l R p e below s sargs y len W9 (PreOf R mc ms Pc) (PostOf Qc mc ms free) (vx_Post XC mc ms free) := by
  intro m meth c A g ig mk a X hg hsize hdg hW hn hp
  have h1 : (headSpec ws rm).pre.before a A.U = true := atoms_intro fun w hw => hws w hw _ _ X.warmed
  have h2 : (Cond.code y bytes maxL ret).before a A.U = true := hws _ hcode _ _ X.warmed
  have h3 : (Cond.initialized y.cls).before a A.U = true := hinit _ _ X.warmed
  have h4 : A.cells + (headSpec ws rm).room.cells ≤ R.cells := by rw [show (headSpec ws rm).room.cells = mc from hrc]; exact hp.1
  have h5 : A.slots + (headSpec ws rm).room.slots ≤ R.slots := by rw [show (headSpec ws rm).room.slots = ms from hrs]; exact hp.2.1
  have hPc : Pc a (A.U.calling g mk a) := hblind _ _ _ _ hp.2.2
  obtain ⟨U, Ls, c0, s0⟩ := A
  dsimp only [Pt.U, Pt.locs, Pt.cells, Pt.slots] at h1 h2 h3 h4 h5 X hn hPc ⊢
  obtain ⟨methY, cY, hmY, hcY, -, hlY, -, -, -, -⟩ := Cond.code_spec hn h2
  obtain ⟨kY, hkY, -⟩ := className_of_methodNamed hn
  have hinitY : kY.init = .initialized := Cond.initialized_spec (findClass_of_methodNamed hn) hkY h3
  have h : At U g.method c below := by rw [hg]; exact X.here
  have hlocals9 : W9 + (maxL + 11) + (headSpec ws rm).room.locals ≤ R.locals := hlocals
  have happ : (headSpec ws rm).appliesLoose y e.platform (U.calling g mk a) = true :=
    Spec.appliesLoose_calling (g := g) h hdg hn hkY hinitY
      (X.room_calling (g := g) (R' := (headSpec ws rm).room) hsize hmY hcY hframes (by rw [hlY]; omega) h4 h5) h1
  obtain ⟨mid, hmid⟩ := h.above
  have hfr : (U.setTop g).frames = (.java g :: mid) ++ below := by rw [State.frames_setTop' g h.top, hmid]; rfl
  obtain ⟨o, s₂, hsteps, -, hend, hq⟩ := Steps.callFree hM p X.admits X.cas X.clock (acts := []) hfr happ hPc trivial
  have hq' : vx_Q Qc XC mc ms free a (U.calling g mk a) o s₂ := hq
  rw [State.frames_setTop' g h.top] at hend
  obtain ⟨g₀, hg0⟩ := Option.isSome_iff_exists.mp h.top
  obtain ⟨r, hr⟩ := State.topJava?_eq_some.mp hg0
  have hr' : (({ U with heap := s₂.heap, slotsUsed := s₂.slotsUsed } : State).setVm s₂.vm).frames = .java g₀ :: r := hr
  rcases hq' with ⟨hqc, L, hfe, hL⟩ | ⟨q, rfl, E, ce, L, hx, hce, hcv, hcl, hW₂, hsm, hL⟩
  · obtain ⟨⟨v, rfl⟩, hW₂, e2, q2, q3, q4, q5, q6⟩ := id hfe
    have e3 : s₂ = ({ (U.calling g mk a).setFrames s₂.frames with heap := s₂.heap, slotsUsed := s₂.slotsUsed } : State).setVm s₂.vm := by
      have : s₂ = ({ s₂ with vm := (U.calling g mk a).vm } : State).setVm s₂.vm := rfl
      rw [e2] at this
      exact this
    obtain ⟨c₂, i₂, len₂, hc₂, hd₂, hf₂⟩ := hend
    have hW' : U.WarmedH s₂.vm := hW₂
    have hcc : c₂ = c := by
      have h1 : s₂.code? g.method = U.code? g.method := by
        rw [State.code?_eq, State.code?_eq, hW'.alike.method?]
      exact Option.some.inj (hc₂.symm.trans (h1.trans h.code))
    subst hcc
    have hlen : len₂ = len := by rw [hdg] at hd₂; cases hd₂; rfl
    subst hlen
    have hs₂ : s₂ = (({ U with heap := s₂.heap, slotsUsed := s₂.slotsUsed } : State).setVm s₂.vm).setTop { g with pc := g.pc + len₂, stack := v.toList ++ g.stack } := by
      refine e3.trans ?_
      rw [hf₂, State.calling_eq h.top, State.setFrames_setFrames, State.setTop_of_frames _ hr', hr]
      rfl
    have hsame : U.sameButNew ({ U with heap := s₂.heap, slotsUsed := s₂.slotsUsed } : State) L mc ms := by
      refine ⟨?_, q2, q3, q4, q5, q6⟩
      obtain ⟨t, ht, -⟩ := State.frames_cons hr
      show ({ U with heap := s₂.heap, slotsUsed := s₂.slotsUsed } : State) = { U.setFrames U.frames with heap := s₂.heap, slotsUsed := s₂.slotsUsed }
      rw [State.setFrames_self ht]
    subst hg
    refine Or.inl ⟨v, ⟨(({ U with heap := s₂.heap, slotsUsed := s₂.slotsUsed } : State).setVm s₂.vm), Ls ++ L, c0 + mc, s0 + ms⟩,
      ⟨X.admits, X.cas, X.clock, X.frames, X.room, X.hears, X.method, X.code, (X.here.setHeapUsed s₂.heap s₂.slotsUsed).setVm hW'.alike, X.tail, State.WarmedH.trans X.warmed hW', X.limits, X.bytes, X.same.trans (hsame.setVm s.vm)⟩,
      ⟨g, mk, s₂, L, rfl, rfl, hqc, rfl, hL, rfl, rfl⟩, ?_⟩
    show Steps p.tables e below _ ((({ U with heap := s₂.heap, slotsUsed := s₂.slotsUsed } : State).setVm s₂.vm).setTop { g with pc := g.pc + len₂, stack := v.toList ++ g.stack })
    rw [← hs₂]
    exact hsteps
  · obtain ⟨e2, q2, q3, q4, q5, q6⟩ := id hsm
    have e3 : s₂ = ({ (U.calling g mk a).setFrames s₂.frames with heap := s₂.heap, slotsUsed := s₂.slotsUsed } : State).setVm s₂.vm := by
      have : s₂ = ({ s₂ with vm := (U.calling g mk a).vm } : State).setVm s₂.vm := rfl
      rw [e2] at this
      exact this
    have hf₂ : s₂.frames = .throwing q :: .java g :: U.frames.tail := hend
    have hW' : U.WarmedH s₂.vm := hW₂
    have hs₂ : s₂ = ((({ U with heap := s₂.heap, slotsUsed := s₂.slotsUsed } : State).setVm s₂.vm).setTop g).pushFrame (.throwing q) := by
      refine e3.trans ?_
      rw [hf₂, State.calling_eq h.top, State.setFrames_setFrames, State.pushFrame, State.frames_setTop _ hr', State.setTop_of_frames _ hr', State.setFrames_setFrames, hr]
      rfl
    have hsame : U.sameButNew ({ U with heap := s₂.heap, slotsUsed := s₂.slotsUsed } : State) L mc ms := by
      refine ⟨?_, q2, q3, q4, q5, q6⟩
      obtain ⟨t, ht, -⟩ := State.frames_cons hr
      show ({ U with heap := s₂.heap, slotsUsed := s₂.slotsUsed } : State) = { U.setFrames U.frames with heap := s₂.heap, slotsUsed := s₂.slotsUsed }
      rw [State.setFrames_self ht]
    subst hg
    refine Or.inr ⟨q, ⟨(({ U with heap := s₂.heap, slotsUsed := s₂.slotsUsed } : State).setVm s₂.vm), Ls ++ L, c0 + mc, s0 + ms⟩,
      ⟨X.admits, X.cas, X.clock, X.frames, X.room, X.hears, X.method, X.code, (X.here.setHeapUsed s₂.heap s₂.slotsUsed).setVm hW'.alike, X.tail, State.WarmedH.trans X.warmed hW', X.limits, X.bytes, X.same.trans (hsame.setVm s.vm)⟩,
      ⟨g, mk, s₂, L, E, ce, rfl, rfl, hx, hce, hcv, hcl, rfl, hL, rfl, rfl⟩, ?_⟩
    show Steps p.tables e below _ (((({ U with heap := s₂.heap, slotsUsed := s₂.slotsUsed } : State).setVm s₂.vm).setTop g).pushFrame (.throwing q))
    rw [← hs₂]
    exact hsteps
end Payer
section Calls
variable {p : Program} {l : Launch} {e : Env} {R : Room} {s : State} {m : MethodId} {args : Array Value} {below : List Frame} {meth : Method} {c : Code} {T : State} {locs : List Loc} {cells slots : Nat}
theorem vx_callV (X : Stand p l e R s m args below meth c T locs cells slots) (hexec : p.tables.exec = Jvm.exec) {own C : String} {index : Nat} {y : MethodName} {bytes : ByteArray} {maxL : Nat} {ret : Option FieldType}
    (hown : s.vm.findClass own = some m.cls) (hlink : (Cond.methodLink own index y).before args s = true) (hinst : (Cond.instanceMethod y).before args s = true) (hsel : (Cond.selects C y y).before args s = true)
    (hcode : (Cond.code y bytes maxL ret).before args s = true) (hy : y.cls ≠ "java/lang/invoke/MethodHandle" ∧ y.cls ≠ "java/lang/invoke/VarHandle")
    {W9 : Nat} {Pre : Pt → Array Value → Prop} {Post : Pt → Array Value → Option Value → Pt → Prop} {PostX : Pt → Array Value → Addr → Pt → Prop} (hK : vx_Back l R p e below s args y 3 W9 Pre Post PostX)
    {b : Addr} {cellB : Cell} (hcell : T.heap[b]? = some cellB) (hobj : cellB.vm.isStatics = false) (hcls : s.vm.findClass C = some cellB.cls)
    {g : JFrame} (hg : g.method = m) (hsize : g.locals.size = c.maxLocals) {argsL rest : List Value} (hlen : ∀ sig, parseMethodDescriptor y.desc = some sig → argsL.length = sig.parameters.length)
    (hstack : g.stack = argsL.reverse ++ .ref b :: rest) (hW : 2 * g.monitorRoom + (rest.map fun v => v.category).sum ≤ W9) (hdg : decode c.code g.pc = .ok (.invokevirtual index, 3))
    (hpre : ∀ vm₁, s.WarmedH vm₁ → Pre ⟨T.setVm vm₁, locs, cells, slots⟩ (Value.ref b :: argsL).toArray) :
    (∃ (v : Option Value) (vm₁ : Vm) (B : Pt), s.WarmedH vm₁ ∧ Stand p l e R s m args below meth c B.U B.locs B.cells B.slots ∧ Post ⟨T.setVm vm₁, locs, cells, slots⟩ (Value.ref b :: argsL).toArray v B ∧
      ∀ target, Steps p.tables e below (B.U.setTop { g with pc := g.pc + 3, stack := v.toList ++ rest }) target → Steps p.tables e below (T.setTop g) target) ∨
    (∃ (q : Addr) (vm₁ : Vm) (B : Pt), s.WarmedH vm₁ ∧ Stand p l e R s m args below meth c B.U B.locs B.cells B.slots ∧ PostX ⟨T.setVm vm₁, locs, cells, slots⟩ (Value.ref b :: argsL).toArray q B ∧
      Steps p.tables e below (T.setTop g) ((B.U.setTop { g with stack := rest }).pushFrame (.throwing q))) := by
  obtain ⟨mk, methM, hnamed, hmethM, hstM, habM⟩ := Cond.instanceMethod_spec hinst
  obtain ⟨methM', cM, hmethM', -, -, -, -, -, -, hsigM⟩ := Cond.code_spec hnamed hcode
  cases hmethM.symm.trans hmethM'
  obtain ⟨c2, r2, m2, q1, q2, q3, q4, kP, hkP, hkPi⟩ := Cond.selects_spec hsel
  cases hcls.symm.trans q1
  cases (State.methodFound?_of_named hnamed hy).symm.trans q2
  cases hnamed.symm.trans q3
  have hselP : selectMethod e.platform s.vm cellB.cls mk = .method mk := by rw [Launch.admits_selectMethod X.admits]; exact q4
  obtain ⟨vm₁, X₁, hstep₁⟩ := X.invokevirtual hexec hown hlink hnamed hmethM hstM hkP hkPi hy (a := b) (cell := cellB) hcell
    (fun z h => by rw [h] at hobj; cases hobj) hselP hmethM habM hkP hkPi (g := g) hg (argsL := argsL) (rest := rest) (hlen _ hsigM) hstack hdg
  rcases hK m meth c ⟨T.setVm vm₁, locs, cells, slots⟩ { g with stack := rest } (.invokevirtual index) mk (Value.ref b :: argsL).toArray X₁ hg hsize hdg hW (X₁.named hnamed) (hpre vm₁ X₁.warmed) with ⟨v, B, X', hpost, hsteps⟩ | ⟨q, B, X', hpost, hsteps⟩
  · exact Or.inl ⟨v, vm₁, B, X₁.warmed, X', hpost, fun target h => hstep₁ _ fun acts => by rw [doInvoke_state]; exact hsteps.trans h⟩
  · exact Or.inr ⟨q, vm₁, B, X₁.warmed, X', hpost, hstep₁ _ fun acts => by rw [doInvoke_state]; exact hsteps⟩
theorem vx_callS (X : Stand p l e R s m args below meth c T locs cells slots) (hexec : p.tables.exec = Jvm.exec) {own : String} {index : Nat} {y : MethodName} {bytes : ByteArray} {maxL : Nat} {ret : Option FieldType}
    (hown : s.vm.findClass own = some m.cls) (hlink : (Cond.methodLink own index y).before args s = true) (hstat : (Cond.static y).before args s = true) (hinit : (Cond.initialized y.cls).before args s = true)
    (hcode : (Cond.code y bytes maxL ret).before args s = true) (hy : y.cls ≠ "java/lang/invoke/MethodHandle" ∧ y.cls ≠ "java/lang/invoke/VarHandle")
    {W9 : Nat} {Pre : Pt → Array Value → Prop} {Post : Pt → Array Value → Option Value → Pt → Prop} {PostX : Pt → Array Value → Addr → Pt → Prop} (hK : vx_Back l R p e below s args y 3 W9 Pre Post PostX)
    {g : JFrame} (hg : g.method = m) (hsize : g.locals.size = c.maxLocals) {argsL rest : List Value} (hlen : ∀ sig, parseMethodDescriptor y.desc = some sig → argsL.length = sig.parameters.length)
    (hstack : g.stack = argsL.reverse ++ rest) (hW : 2 * g.monitorRoom + (rest.map fun v => v.category).sum ≤ W9) (hdg : decode c.code g.pc = .ok (.invokestatic index, 3))
    (hpre : ∀ vm₁, s.WarmedH vm₁ → Pre ⟨T.setVm vm₁, locs, cells, slots⟩ argsL.toArray) :
    (∃ (v : Option Value) (vm₁ : Vm) (B : Pt), s.WarmedH vm₁ ∧ Stand p l e R s m args below meth c B.U B.locs B.cells B.slots ∧ Post ⟨T.setVm vm₁, locs, cells, slots⟩ argsL.toArray v B ∧
      ∀ target, Steps p.tables e below (B.U.setTop { g with pc := g.pc + 3, stack := v.toList ++ rest }) target → Steps p.tables e below (T.setTop g) target) ∨
    (∃ (q : Addr) (vm₁ : Vm) (B : Pt), s.WarmedH vm₁ ∧ Stand p l e R s m args below meth c B.U B.locs B.cells B.slots ∧ PostX ⟨T.setVm vm₁, locs, cells, slots⟩ argsL.toArray q B ∧
      Steps p.tables e below (T.setTop g) ((B.U.setTop { g with stack := rest }).pushFrame (.throwing q))) := by
  obtain ⟨mk, hnamed⟩ := Cond.code_named hcode
  obtain ⟨methM, cM, hmethM, -, -, -, -, -, -, hsigM⟩ := Cond.code_spec hnamed hcode
  have hstatic : methM.isStatic = true := Cond.static_spec hnamed hmethM hstat
  obtain ⟨kP, hkP, -⟩ := className_of_methodNamed hnamed
  have hinitP : kP.init = .initialized := Cond.initialized_spec (findClass_of_methodNamed hnamed) hkP hinit
  obtain ⟨vm₁, X₁, hstep₁⟩ := X.invokestatic hexec hown hlink hnamed hmethM hstatic hkP hinitP hy (g := g) hg (argsL := argsL) (rest := rest) (hlen _ hsigM) hstack hdg
  rcases hK m meth c ⟨T.setVm vm₁, locs, cells, slots⟩ { g with stack := rest } (.invokestatic index) mk argsL.toArray X₁ hg hsize hdg hW (X₁.named hnamed) (hpre vm₁ X₁.warmed) with ⟨v, B, X', hpost, hsteps⟩ | ⟨q, B, X', hpost, hsteps⟩
  · exact Or.inl ⟨v, vm₁, B, X₁.warmed, X', hpost, fun target h => hstep₁ _ fun acts => by rw [doInvoke_state]; exact hsteps.trans h⟩
  · exact Or.inr ⟨q, vm₁, B, X₁.warmed, X', hpost, hstep₁ _ fun acts => by rw [doInvoke_state]; exact hsteps⟩
end Calls
theorem vx_cls {s : State} {T : State} {vm₁ : Vm} {E : String} {k : ClassId} (hW : s.WarmedH vm₁) (h : (T.setVm vm₁).vm.findClass E = some k) : s.vm.findClass E = some k := by
  have h1 : vm₁.findClass E = some k := h
  rw [hW.alike.findClass] at h1
  exact h1
def vx_W (p : Program) (l : Launch) (e : Env) (R : Room) (s : State) (m : MethodId) (args : Array Value) (below : List Frame) (meth : Method) (c : Code) (H : Heap) (locs : List Loc) (cells slots : Nat) (Q : State → Prop) (g : JFrame) (q : Addr) : Prop :=
  ∀ T : State, T.heap = H → Stand p l e R s m args below meth c T locs cells slots → ∃ t, Steps p.tables e below ((T.setTop g).pushFrame (.throwing q)) t ∧ Q t
def vx_Run (p : Program) (l : Launch) (e : Env) (R : Room) (s : State) (m : MethodId) (args : Array Value) (below : List Frame) (meth : Method) (c : Code) (H : Heap) (locs : List Loc) (cells slots mc ms : Nat) (g : JFrame) (rest : List Value) (Qa : State → Outcome → State → Prop) (XC : String → State → State → Prop) (free : Addr → Prop) : Prop :=
  ∀ T : State, T.heap = H → Stand p l e R s m args below meth c T locs cells slots →
    (∃ (v : Option Value) (st₀ t T' : State) (L : List Loc), st₀.heap = H ∧ Stand p l e R s m args below meth c T' (locs ++ L) (cells + mc) (slots + ms) ∧ (∀ q ∈ L, free q.base) ∧ T'.heap = t.heap ∧ T'.vm = t.vm ∧ Qa st₀ (.returned v) t ∧
      Goes p e below T g T' { g with pc := g.pc + 3, stack := v.toList ++ rest }) ∨
    (∃ (q : Addr) (st₀ t T' : State) (L : List Loc) (E : String) (ce : Cell), st₀.heap = H ∧ Stand p l e R s m args below meth c T' (locs ++ L) (cells + mc) (slots + ms) ∧ (∀ z ∈ L, free z.base) ∧ T'.heap = t.heap ∧ T'.vm = t.vm ∧ XC E st₀ t ∧ t.heap[q]? = some ce ∧ ce.vm = .none ∧ s.vm.findClass E = some ce.cls ∧
      Steps p.tables e below (T.setTop g) ((T'.setTop { g with stack := rest }).pushFrame (.throwing q)))
def vx_X {S : Type} (px : S → Prop) (B : String → S → State → Prop) (A : Nat → Prop) : String → State → State → Prop := fun E st t => ∃ u : S, px u ∧ B E u t ∧ va_F A st t
section Runs
variable {p : Program} {l : Launch} {e : Env} {R : Room} {s : State} {m : MethodId} {args : Array Value} {below : List Frame} {meth : Method} {c : Code} {H : Heap} {locs : List Loc} {cells slots : Nat}
variable {y : MethodName} {bytes cc : ByteArray} {maxL nL mc ms n index : Nat} {ret : Option FieldType} {ws : List Cond} {rm : Room} {Pc : Array Value → State → Prop} {Qc : Array Value → State → Outcome → State → Prop} {XC : String → State → State → Prop} {free : Addr → Prop} {Ts : List Cond} {own C : String} {b : Addr} {As rest : List Value} {g : JFrame}
theorem vx_callBack (cb : CallB R s args own index y bytes maxL ret ws rm mc ms n) (hM : vx_Met l y ws rm Pc Qc XC mc ms free) (hbl : FrameBlind Pc) : vx_Back l R p e below s args y 3 8 (PreOf R mc ms Pc) (PostOf Qc mc ms free) (vx_Post XC mc ms free) := by
  obtain ⟨hrc, hrs, hfr, hlo, hws, hcw, -, hini, -⟩ := cb
  exact vx_back (bytes := bytes) (maxL := maxL) (ret := ret) hM hbl hrc hrs hfr hlo hws hcw (fun a' U hW => word_at hW (Or.inl (by first | rfl | simp [Cond.onTables, Cond.keeps, Cond.steady])) hini)
theorem vx_runV (S : CallFix p m c cc nL s args Ts own) (hM : vx_Met l y ws rm Pc Qc XC mc ms free) (cw : CallW R s args own C index y bytes maxL ret ws rm mc ms n) (hp : PreV s H C b Pc As)
    (hg : g.method = m) (hn : As.length = n) (hsize : g.locals.size = nL) (hstack : g.stack = As.reverse ++ .ref b :: rest) (hW : 2 * g.monitorRoom + (rest.map fun v => v.category).sum ≤ 8) (hdg : decode cc g.pc = .ok (.invokevirtual index, 3)) (hf : cells + mc ≤ R.cells ∧ slots + ms ≤ R.slots) :
    vx_Run p l e R s m args below meth c H locs cells slots mc ms g rest (Qc (Value.ref b :: As).toArray) XC free := by
  have hK : vx_Back l R p e below s args y 3 8 (PreOf R mc ms Pc) (PostOf Qc mc ms free) (vx_Post XC mc ms free) := vx_callBack cw.1 hM hp.1
  obtain ⟨⟨-, -, -, -, -, -, hcode, -, hy, hlen, hl⟩, hin, hse⟩ := cw
  obtain ⟨hx, hb, hml, ho, -⟩ := S
  obtain ⟨-, ⟨cellB, hcB, hoB, hclB⟩, hPc⟩ := hp
  intro T hT X
  rcases vx_callV X hx (C := C) (bytes := bytes) (maxL := maxL) (ret := ret) ho hl hin hse hcode hy hK (by rw [hT]; exact hcB) hoB hclB hg (hsize.trans hml.symm) (argsL := As) (rest := rest) (fun sig h => hn.trans (hlen sig h)) hstack hW (by rw [hb]; exact hdg)
    (fun vm₁ hW₁ => ⟨hf.1, hf.2, hPc (T.setVm vm₁) hT hW₁⟩) with ⟨v, vm₁, ⟨U', l2, c2, s2⟩, hW₁, X', ⟨g', mk, t, L, e1, e2, hq, h1, hL, h2, h3⟩, st⟩ | ⟨q, vm₁, ⟨U', l2, c2, s2⟩, hW₁, X', ⟨g', mk, t, L, E, ce, e1, e2, hq, hce, hcv, hcl, h1, hL, h2, h3⟩, st⟩
  · dsimp only [Pt.U, Pt.locs, Pt.cells, Pt.slots] at X' e1 e2 h1 h2 h3 st
    subst h1; subst h2; subst h3
    exact Or.inl ⟨v, (T.setVm vm₁).calling g' mk (Value.ref b :: As).toArray, t, U', L, hT, X', hL, e1, e2, hq, st⟩
  · dsimp only [Pt.U, Pt.locs, Pt.cells, Pt.slots] at X' e1 e2 h1 h2 h3 st hcl
    subst h1; subst h2; subst h3
    exact Or.inr ⟨q, (T.setVm vm₁).calling g' mk (Value.ref b :: As).toArray, t, U', L, E, ce, hT, X', hL, e1, e2, hq, hce, hcv, vx_cls hW₁ hcl, st⟩
theorem vx_runS (S : CallFix p m c cc nL s args Ts own) (hM : vx_Met l y ws rm Pc Qc XC mc ms free) (cw : CallB R s args own index y bytes maxL ret ws rm mc ms n ∧ (Cond.static y).before args s = true) (hp : PreS s H Pc As)
    (hg : g.method = m) (hn : As.length = n) (hsize : g.locals.size = nL) (hstack : g.stack = As.reverse ++ rest) (hW : 2 * g.monitorRoom + (rest.map fun v => v.category).sum ≤ 8) (hdg : decode cc g.pc = .ok (.invokestatic index, 3)) (hf : cells + mc ≤ R.cells ∧ slots + ms ≤ R.slots) :
    vx_Run p l e R s m args below meth c H locs cells slots mc ms g rest (Qc As.toArray) XC free := by
  have hK : vx_Back l R p e below s args y 3 8 (PreOf R mc ms Pc) (PostOf Qc mc ms free) (vx_Post XC mc ms free) := vx_callBack cw.1 hM hp.1
  obtain ⟨⟨-, -, -, -, -, -, hcode, hini, hy, hlen, hl⟩, hstt⟩ := cw
  obtain ⟨hx, hb, hml, ho, -⟩ := S
  intro T hT X
  rcases vx_callS X hx (bytes := bytes) (maxL := maxL) (ret := ret) ho hl hstt hini hcode hy hK hg (hsize.trans hml.symm) (argsL := As) (rest := rest) (fun sig h => hn.trans (hlen sig h)) hstack hW (by rw [hb]; exact hdg)
    (fun vm₁ hW₁ => ⟨hf.1, hf.2, hp.2 (T.setVm vm₁) hT hW₁⟩) with ⟨v, vm₁, ⟨U', l2, c2, s2⟩, hW₁, X', ⟨g', mk, t, L, e1, e2, hq, h1, hL, h2, h3⟩, st⟩ | ⟨q, vm₁, ⟨U', l2, c2, s2⟩, hW₁, X', ⟨g', mk, t, L, E, ce, e1, e2, hq, hce, hcv, hcl, h1, hL, h2, h3⟩, st⟩
  · dsimp only [Pt.U, Pt.locs, Pt.cells, Pt.slots] at X' e1 e2 h1 h2 h3 st
    subst h1; subst h2; subst h3
    exact Or.inl ⟨v, (T.setVm vm₁).calling g' mk As.toArray, t, U', L, hT, X', hL, e1, e2, hq, st⟩
  · dsimp only [Pt.U, Pt.locs, Pt.cells, Pt.slots] at X' e1 e2 h1 h2 h3 st hcl
    subst h1; subst h2; subst h3
    exact Or.inr ⟨q, (T.setVm vm₁).calling g' mk As.toArray, t, U', L, E, ce, hT, X', hL, e1, e2, hq, hce, hcv, vx_cls hW₁ hcl, st⟩
end Runs
section Rows
variable {p : Program} {l : Launch} {e : Env} {R : Room} {s : State} {m : MethodId} {args : Array Value} {below : List Frame} {meth : Method} {c : Code} {H : Heap} {locs : List Loc} {cells slots : Nat} {Q : State → Prop}
variable {mc ms : Nat} {free : Addr → Prop} {A0 A1 : Nat → Prop} {H0 : Heap} {a : Array Value} {pc : Nat} {ls : Array Slot} {st0 rest : List Value}
theorem vx_keep {st₀ t T' : State} {L : List Loc} (h0 : st₀.heap = H) (e1 : T'.heap = t.heap) (hS : va_S A0 H0 H locs) (hA : ∀ q, q < H.size → A1 q → A0 q) (hf : ∀ q, free q → A0 q) (hL : ∀ q ∈ L, free q.base) (hF : va_F A1 st₀ t) :
    H.size ≤ T'.heap.size ∧ (∀ q : Nat, q < H.size → ¬ A1 q → T'.heap[q]? = H[q]?) ∧ va_S A0 H0 T'.heap (locs ++ L) := by
  obtain ⟨hz, hk⟩ := hF
  rw [h0] at hz hk
  exact ⟨by rw [e1]; exact hz, fun q h1 h2 => by rw [e1]; exact hk q h1 h2,
    ⟨Nat.le_trans hS.1 (by rw [e1]; exact hz), fun q h1 h2 => by rw [e1, hk q (Nat.lt_of_lt_of_le h1 hS.1) (fun z => h2 (hA q (Nat.lt_of_lt_of_le h1 hS.1) z))]; exact hS.2.1 q h1 h2, fun q hq => by
      rcases List.mem_append.mp hq with h | h
      · exact hS.2.2 q h
      · exact hf _ (hL q h)⟩⟩
theorem vx_calli {S SX : Type} {post : Int32 → S → Prop} {px : SX → Prop} {B : S → State → Prop} {BX : String → SX → State → Prop} {AX : Nat → Prop} (hr : vx_Run p l e R s m args below meth c H locs cells slots mc ms (F0 m pc ls st0) rest (va_Qi post B A1 a) (vx_X px BX AX) free) (hS : va_S A0 H0 H locs) (hA : ∀ q, q < H.size → A1 q → A0 q) (hf : ∀ q, free q → A0 q) (hAX : ∀ q, q < H.size → AX q → A0 q)
    (kx : ∀ (E : String) (ce : Cell) (q9 : Addr) (u : SX) (t : State) (H1 : Heap) (locs1 : List Loc), t.heap = H1 → s.vm.Alike t.vm → px u → BX E u t → H.size ≤ H1.size → (∀ q : Nat, q < H.size → ¬ AX q → H1[q]? = H[q]?) → va_S A0 H0 H1 locs1 → H1[q9]? = some ce → ce.vm = .none → s.vm.findClass E = some ce.cls → vx_W p l e R s m args below meth c H1 locs1 (cells + mc) (slots + ms) Q (F0 m pc ls rest) q9)
    (kk : ∀ (r : Int32) (u : S) (t : State) (H1 : Heap) (locs1 : List Loc), t.heap = H1 → s.vm.Alike t.vm → post r u → B u t → H.size ≤ H1.size → (∀ q : Nat, q < H.size → ¬ A1 q → H1[q]? = H[q]?) → va_S A0 H0 H1 locs1 → W p l e R s m args below meth c H1 locs1 (cells + mc) (slots + ms) Q (F0 m (pc + 3) ls (.int r :: rest))) : W p l e R s m args below meth c H locs cells slots Q (F0 m pc ls st0) := by
  intro T hT X
  rcases hr T hT X with ⟨v, st₀, t, T', L, h0, X', hL, e1, e2, ⟨⟨r, u, hv, hp, hb⟩, hF⟩, st⟩ | ⟨q, st₀, t, T', L, E, ce, h0, X', hL, e1, e2, ⟨u, hp, hb, hF⟩, hce, hcv, hcl, st⟩
  · cases hv
    obtain ⟨k1, k2, k3⟩ := vx_keep h0 e1 hS hA hf hL hF
    obtain ⟨t2, a1, b1⟩ := kk r u t T'.heap (locs ++ L) e1.symm (by rw [← e2]; exact X'.warmed.alike) hp hb k1 k2 k3 T' rfl X'
    exact ⟨t2, st t2 a1, b1⟩
  · obtain ⟨k1, k2, k3⟩ := vx_keep h0 e1 hS hAX hf hL hF
    obtain ⟨t2, a1, b1⟩ := kx E ce q u t T'.heap (locs ++ L) e1.symm (by rw [← e2]; exact X'.warmed.alike) hp hb k1 k2 k3 (by rw [e1]; exact hce) hcv hcl T' rfl X'
    exact ⟨t2, st.trans a1, b1⟩
theorem vx_calll {S SX : Type} {post : Int64 → S → Prop} {px : SX → Prop} {B : S → State → Prop} {BX : String → SX → State → Prop} {AX : Nat → Prop} (hr : vx_Run p l e R s m args below meth c H locs cells slots mc ms (F0 m pc ls st0) rest (va_Ql post B A1 a) (vx_X px BX AX) free) (hS : va_S A0 H0 H locs) (hA : ∀ q, q < H.size → A1 q → A0 q) (hf : ∀ q, free q → A0 q) (hAX : ∀ q, q < H.size → AX q → A0 q)
    (kx : ∀ (E : String) (ce : Cell) (q9 : Addr) (u : SX) (t : State) (H1 : Heap) (locs1 : List Loc), t.heap = H1 → s.vm.Alike t.vm → px u → BX E u t → H.size ≤ H1.size → (∀ q : Nat, q < H.size → ¬ AX q → H1[q]? = H[q]?) → va_S A0 H0 H1 locs1 → H1[q9]? = some ce → ce.vm = .none → s.vm.findClass E = some ce.cls → vx_W p l e R s m args below meth c H1 locs1 (cells + mc) (slots + ms) Q (F0 m pc ls rest) q9)
    (kk : ∀ (r : Int64) (u : S) (t : State) (H1 : Heap) (locs1 : List Loc), t.heap = H1 → s.vm.Alike t.vm → post r u → B u t → H.size ≤ H1.size → (∀ q : Nat, q < H.size → ¬ A1 q → H1[q]? = H[q]?) → va_S A0 H0 H1 locs1 → W p l e R s m args below meth c H1 locs1 (cells + mc) (slots + ms) Q (F0 m (pc + 3) ls (.long r :: rest))) : W p l e R s m args below meth c H locs cells slots Q (F0 m pc ls st0) := by
  intro T hT X
  rcases hr T hT X with ⟨v, st₀, t, T', L, h0, X', hL, e1, e2, ⟨⟨r, u, hv, hp, hb⟩, hF⟩, st⟩ | ⟨q, st₀, t, T', L, E, ce, h0, X', hL, e1, e2, ⟨u, hp, hb, hF⟩, hce, hcv, hcl, st⟩
  · cases hv
    obtain ⟨k1, k2, k3⟩ := vx_keep h0 e1 hS hA hf hL hF
    obtain ⟨t2, a1, b1⟩ := kk r u t T'.heap (locs ++ L) e1.symm (by rw [← e2]; exact X'.warmed.alike) hp hb k1 k2 k3 T' rfl X'
    exact ⟨t2, st t2 a1, b1⟩
  · obtain ⟨k1, k2, k3⟩ := vx_keep h0 e1 hS hAX hf hL hF
    obtain ⟨t2, a1, b1⟩ := kx E ce q u t T'.heap (locs ++ L) e1.symm (by rw [← e2]; exact X'.warmed.alike) hp hb k1 k2 k3 (by rw [e1]; exact hce) hcv hcl T' rfl X'
    exact ⟨t2, st.trans a1, b1⟩
theorem vx_callf {S SX : Type} {post : UInt32 → S → Prop} {px : SX → Prop} {B : S → State → Prop} {BX : String → SX → State → Prop} {AX : Nat → Prop} (hr : vx_Run p l e R s m args below meth c H locs cells slots mc ms (F0 m pc ls st0) rest (va_Qf post B A1 a) (vx_X px BX AX) free) (hS : va_S A0 H0 H locs) (hA : ∀ q, q < H.size → A1 q → A0 q) (hf : ∀ q, free q → A0 q) (hAX : ∀ q, q < H.size → AX q → A0 q)
    (kx : ∀ (E : String) (ce : Cell) (q9 : Addr) (u : SX) (t : State) (H1 : Heap) (locs1 : List Loc), t.heap = H1 → s.vm.Alike t.vm → px u → BX E u t → H.size ≤ H1.size → (∀ q : Nat, q < H.size → ¬ AX q → H1[q]? = H[q]?) → va_S A0 H0 H1 locs1 → H1[q9]? = some ce → ce.vm = .none → s.vm.findClass E = some ce.cls → vx_W p l e R s m args below meth c H1 locs1 (cells + mc) (slots + ms) Q (F0 m pc ls rest) q9)
    (kk : ∀ (r : UInt32) (u : S) (t : State) (H1 : Heap) (locs1 : List Loc), t.heap = H1 → s.vm.Alike t.vm → post r u → B u t → H.size ≤ H1.size → (∀ q : Nat, q < H.size → ¬ A1 q → H1[q]? = H[q]?) → va_S A0 H0 H1 locs1 → W p l e R s m args below meth c H1 locs1 (cells + mc) (slots + ms) Q (F0 m (pc + 3) ls (.float r :: rest))) : W p l e R s m args below meth c H locs cells slots Q (F0 m pc ls st0) := by
  intro T hT X
  rcases hr T hT X with ⟨v, st₀, t, T', L, h0, X', hL, e1, e2, ⟨⟨r, u, hv, hp, hb⟩, hF⟩, st⟩ | ⟨q, st₀, t, T', L, E, ce, h0, X', hL, e1, e2, ⟨u, hp, hb, hF⟩, hce, hcv, hcl, st⟩
  · cases hv
    obtain ⟨k1, k2, k3⟩ := vx_keep h0 e1 hS hA hf hL hF
    obtain ⟨t2, a1, b1⟩ := kk r u t T'.heap (locs ++ L) e1.symm (by rw [← e2]; exact X'.warmed.alike) hp hb k1 k2 k3 T' rfl X'
    exact ⟨t2, st t2 a1, b1⟩
  · obtain ⟨k1, k2, k3⟩ := vx_keep h0 e1 hS hAX hf hL hF
    obtain ⟨t2, a1, b1⟩ := kx E ce q u t T'.heap (locs ++ L) e1.symm (by rw [← e2]; exact X'.warmed.alike) hp hb k1 k2 k3 (by rw [e1]; exact hce) hcv hcl T' rfl X'
    exact ⟨t2, st.trans a1, b1⟩
theorem vx_calld {S SX : Type} {post : UInt64 → S → Prop} {px : SX → Prop} {B : S → State → Prop} {BX : String → SX → State → Prop} {AX : Nat → Prop} (hr : vx_Run p l e R s m args below meth c H locs cells slots mc ms (F0 m pc ls st0) rest (va_Qd post B A1 a) (vx_X px BX AX) free) (hS : va_S A0 H0 H locs) (hA : ∀ q, q < H.size → A1 q → A0 q) (hf : ∀ q, free q → A0 q) (hAX : ∀ q, q < H.size → AX q → A0 q)
    (kx : ∀ (E : String) (ce : Cell) (q9 : Addr) (u : SX) (t : State) (H1 : Heap) (locs1 : List Loc), t.heap = H1 → s.vm.Alike t.vm → px u → BX E u t → H.size ≤ H1.size → (∀ q : Nat, q < H.size → ¬ AX q → H1[q]? = H[q]?) → va_S A0 H0 H1 locs1 → H1[q9]? = some ce → ce.vm = .none → s.vm.findClass E = some ce.cls → vx_W p l e R s m args below meth c H1 locs1 (cells + mc) (slots + ms) Q (F0 m pc ls rest) q9)
    (kk : ∀ (r : UInt64) (u : S) (t : State) (H1 : Heap) (locs1 : List Loc), t.heap = H1 → s.vm.Alike t.vm → post r u → B u t → H.size ≤ H1.size → (∀ q : Nat, q < H.size → ¬ A1 q → H1[q]? = H[q]?) → va_S A0 H0 H1 locs1 → W p l e R s m args below meth c H1 locs1 (cells + mc) (slots + ms) Q (F0 m (pc + 3) ls (.double r :: rest))) : W p l e R s m args below meth c H locs cells slots Q (F0 m pc ls st0) := by
  intro T hT X
  rcases hr T hT X with ⟨v, st₀, t, T', L, h0, X', hL, e1, e2, ⟨⟨r, u, hv, hp, hb⟩, hF⟩, st⟩ | ⟨q, st₀, t, T', L, E, ce, h0, X', hL, e1, e2, ⟨u, hp, hb, hF⟩, hce, hcv, hcl, st⟩
  · cases hv
    obtain ⟨k1, k2, k3⟩ := vx_keep h0 e1 hS hA hf hL hF
    obtain ⟨t2, a1, b1⟩ := kk r u t T'.heap (locs ++ L) e1.symm (by rw [← e2]; exact X'.warmed.alike) hp hb k1 k2 k3 T' rfl X'
    exact ⟨t2, st t2 a1, b1⟩
  · obtain ⟨k1, k2, k3⟩ := vx_keep h0 e1 hS hAX hf hL hF
    obtain ⟨t2, a1, b1⟩ := kx E ce q u t T'.heap (locs ++ L) e1.symm (by rw [← e2]; exact X'.warmed.alike) hp hb k1 k2 k3 (by rw [e1]; exact hce) hcv hcl T' rfl X'
    exact ⟨t2, st.trans a1, b1⟩
theorem vx_callv {S SX : Type} {post : S → Prop} {px : SX → Prop} {B : S → State → Prop} {BX : String → SX → State → Prop} {AX : Nat → Prop} (hr : vx_Run p l e R s m args below meth c H locs cells slots mc ms (F0 m pc ls st0) rest (va_Qv post B A1 a) (vx_X px BX AX) free) (hS : va_S A0 H0 H locs) (hA : ∀ q, q < H.size → A1 q → A0 q) (hf : ∀ q, free q → A0 q) (hAX : ∀ q, q < H.size → AX q → A0 q)
    (kx : ∀ (E : String) (ce : Cell) (q9 : Addr) (u : SX) (t : State) (H1 : Heap) (locs1 : List Loc), t.heap = H1 → s.vm.Alike t.vm → px u → BX E u t → H.size ≤ H1.size → (∀ q : Nat, q < H.size → ¬ AX q → H1[q]? = H[q]?) → va_S A0 H0 H1 locs1 → H1[q9]? = some ce → ce.vm = .none → s.vm.findClass E = some ce.cls → vx_W p l e R s m args below meth c H1 locs1 (cells + mc) (slots + ms) Q (F0 m pc ls rest) q9)
    (kk : ∀ (u : S) (t : State) (H1 : Heap) (locs1 : List Loc), t.heap = H1 → s.vm.Alike t.vm → post u → B u t → H.size ≤ H1.size → (∀ q : Nat, q < H.size → ¬ A1 q → H1[q]? = H[q]?) → va_S A0 H0 H1 locs1 → W p l e R s m args below meth c H1 locs1 (cells + mc) (slots + ms) Q (F0 m (pc + 3) ls (rest))) : W p l e R s m args below meth c H locs cells slots Q (F0 m pc ls st0) := by
  intro T hT X
  rcases hr T hT X with ⟨v, st₀, t, T', L, h0, X', hL, e1, e2, ⟨⟨u, hv, hp, hb⟩, hF⟩, st⟩ | ⟨q, st₀, t, T', L, E, ce, h0, X', hL, e1, e2, ⟨u, hp, hb, hF⟩, hce, hcv, hcl, st⟩
  · cases hv
    obtain ⟨k1, k2, k3⟩ := vx_keep h0 e1 hS hA hf hL hF
    obtain ⟨t2, a1, b1⟩ := kk u t T'.heap (locs ++ L) e1.symm (by rw [← e2]; exact X'.warmed.alike) hp hb k1 k2 k3 T' rfl X'
    exact ⟨t2, st t2 a1, b1⟩
  · obtain ⟨k1, k2, k3⟩ := vx_keep h0 e1 hS hAX hf hL hF
    obtain ⟨t2, a1, b1⟩ := kx E ce q u t T'.heap (locs ++ L) e1.symm (by rw [← e2]; exact X'.warmed.alike) hp hb k1 k2 k3 (by rw [e1]; exact hce) hcv hcl T' rfl X'
    exact ⟨t2, st.trans a1, b1⟩
theorem vx_catch {own name : String} {E : String} {ce : Cell} {q : Addr} (hown : s.vm.findClass own = some m.cls) (pre : List ExceptionTableEntry) (x : ExceptionTableEntry) (suf : List ExceptionTableEntry) (hsplit : c.exceptionTable.toList = pre ++ x :: suf)
    (hpass : ∀ z ∈ pre, covers z pc = false ∨ (z.catchType ≠ 0 ∧ ∃ nm : String, (Cond.classLink own z.catchType nm).before args s = true ∧ va_Nc E nm s)) (hx : covers x pc = true) (h0 : x.catchType ≠ 0)
    (hlink : (Cond.classLink own x.catchType name).before args s = true) (hcast : (Cond.castable E name).before args s = true) (hcell : H[q]? = some ce) (hv : ce.vm = .none) (hcl : s.vm.findClass E = some ce.cls)
    (kk : W p l e R s m args below meth c H locs cells slots Q (F0 m x.handlerPc ls [.ref q])) : vx_W p l e R s m args below meth c H locs cells slots Q (F0 m pc ls rest) q := by
  intro T hT X
  have hpl : e.platform.magicAccessors = ({} : Platform).magicAccessors := by rw [X.admits.platform]
  obtain ⟨c3, c4, hc3, hc4, hasg⟩ := Cond.castable_spec hcast
  cases Option.some.inj (hc3.symm.trans hcl)
  obtain ⟨c5, hc5, hcl5⟩ := Cond.classLink_spec hown hlink e.platform hpl
  cases Option.some.inj (hc4.symm.trans hc5)
  obtain ⟨vm', X', st⟩ := X.thenCaughtThrough q (g := F0 m pc ls rest) rfl (Steps.refl _) (by rw [hT]; exact hcell) (by rw [hv]; rfl) (by obtain ⟨k9, h9, -⟩ := Vm.findClass_spec hcl; exact ⟨k9, h9⟩) pre x suf hsplit
    (fun z hz => by
      rcases hpass z hz with h | ⟨hz0, nm, hl1, hn1⟩
      · exact Or.inl h
      · obtain ⟨c6, hc6, hcl6⟩ := Cond.classLink_spec hown hl1 e.platform hpl
        obtain ⟨a8, b8, h1, h2, h3⟩ := hn1
        cases Option.some.inj (h1.symm.trans hcl)
        cases Option.some.inj (h2.symm.trans hc6)
        exact Or.inr ⟨hz0, _, hcl6, h3⟩) hx (Or.inr ⟨h0, c4, hcl5, hasg⟩)
  obtain ⟨t, a1, b1⟩ := kk (T.setVm vm') hT X'
  exact ⟨t, st.trans a1, b1⟩
end Rows
section Ends
variable {p : Program} {l : Launch} {e : Env} {R : Room} {s : State} {m : MethodId} {args : Array Value} {below : List Frame} {meth : Method} {c : Code} {H : Heap} {locs : List Loc} {cells slots : Nat} {Q : State → Prop}
variable {mc ms : Nat} {free : Addr → Prop} {A0 A1 : Nat → Prop} {H0 : Heap} {a : Array Value} {ls : Array Slot} {st0 rest : List Value}
variable {Qc : Array Value → State → Outcome → State → Prop} {XC : String → State → State → Prop}
def vx_MQ (below : List Frame) (Qc : Array Value → State → Outcome → State → Prop) (XC : String → State → State → Prop) (a : Array Value) (s : State) (mc ms : Nat) (free : Addr → Prop) : State → Prop := fun t =>
  ∃ o, t.status = .running ∧ Ended t below o ∧ vx_Q Qc XC mc ms free a s o t
theorem vx_ret {g : JFrame} {mc ms : Nat} (k : W p l e R s m args below meth c H locs cells slots (MQ below Qc args s mc ms free) g) : W p l e R s m args below meth c H locs cells slots (vx_MQ below Qc XC args s mc ms free) g := by
  intro T hT X
  obtain ⟨t, a1, o, b1, b2, b3, b4⟩ := k T hT X
  exact ⟨t, a1, o, b1, b2, Or.inl ⟨b3, b4⟩⟩
theorem vx_widen {g : JFrame} {q : Addr} {k n : Nat} (h1 : cells ≤ k) (h2 : slots ≤ n) (kk : vx_W p l e R s m args below meth c H locs k n Q g q) : vx_W p l e R s m args below meth c H locs cells slots Q g q := fun T hT X => kk T hT (stand_widen X h1 h2)
theorem vx_out {pc : Nat} {E : String} {ce : Cell} {q : Addr} {mc ms : Nat} (hout : ∀ x ∈ c.exceptionTable.toList, covers x pc = false) (hlocks : meth.locks = false) (hcell : H[q]? = some ce) (hv : ce.vm = .none) (hcl : s.vm.findClass E = some ce.cls)
    (hx : ∀ t : State, t.heap = H → s.vm.Alike t.vm → XC E s t) (hf : ∀ z ∈ locs, free z.base) (hc : cells ≤ mc) (hs : slots ≤ ms) :
    vx_W p l e R s m args below meth c H locs cells slots (vx_MQ below Qc XC args s mc ms free) (F0 m pc ls rest) q := by
  intro T hT X
  obtain ⟨st1, hrun, hend, hW, hsm⟩ := X.leaveThrown q (g := F0 m pc ls rest) rfl rfl rfl hout hlocks
  have hcell9 : (T.setFrames (.throwing q :: below)).heap[q]? = some ce := by
    show T.heap[q]? = some ce
    rw [hT]; exact hcell
  exact ⟨_, st1, .threw q, hrun, hend, Or.inr ⟨q, rfl, E, ce, locs, hx _ hT hW.alike, hcell9, hv, hcl, hW, hsm.mono hc hs, hf⟩⟩
theorem vx_frame {U : State} {k n : Nat} (h : s.sameButNew ({ U with vm := s.vm } : State) locs k n) : s.heap.size ≤ U.heap.size ∧ ∀ q : Nat, q < s.heap.size → (∀ z ∈ locs, z.base ≠ q) → U.heap[q]? = s.heap[q]? := by
  obtain ⟨-, h2, -, -, -, h6⟩ := h
  refine ⟨h2, fun q hq hz => ?_⟩
  obtain ⟨c9, e1, e2, e3, e4⟩ := h6 q _ (Array.getElem?_eq_getElem hq)
  have hs : c9.slots = (s.heap[q]).slots := Array.ext_getElem? fun i => e4 i fun hm => hz _ hm rfl
  have h9 : c9 = s.heap[q] := by
    rw [hs] at e2
    exact e2
  have e5 : U.heap[q]? = some c9 := e1
  rw [e5, h9, Array.getElem?_eq_getElem hq]
def vx_no (w : Cond) : Bool := decide (w ≠ .isRef (.static Bundle.tN "UNASSIGNED_STACK" Bundle.steD)) && decide (w ≠ .isRef (.static Bundle.tN "SUPPRESSED_SENTINEL" Bundle.listD)) && decide (w ≠ .laysStatic Bundle.tN "UNASSIGNED_STACK" Bundle.steD) && decide (w ≠ .laysStatic Bundle.tN "SUPPRESSED_SENTINEL" Bundle.listD)
def vx_at0 (own : String) (ic : Nat) (X : String) (names : List String) : List Cond := (Bundle.ownAtoms0 own ic X names).filter vx_no
def vx_atS (own : String) (ic : Nat) (X : String) (names : List String) : List Cond := (Bundle.ownAtoms own ic X names).filter vx_no
def vx_ot (w : Cond) : Bool := w.onTables || goodWord w
theorem vx_ot_at {args a' : Array Value} {s U : State} {w : Cond} (hW : s.WarmedH U.vm) (hvm : s.vm = U.vm) (hg : vx_ot w = true) (h : w.before args s = true) : w.before a' U = true := by
  simp only [vx_ot, Bool.or_eq_true] at hg
  rcases hg with hg | hg
  · exact va_tabs hg hvm h
  · exact word_at hW (good_of_word hg) h
theorem vx_hat {args : Array Value} {s : State} {L B : List Cond} (h1 : ∀ w ∈ L.filter goodWord, w.before args s = true) (h2 : ∀ w ∈ L.filter (fun w => !goodWord w), w ∈ B) (h3 : ∀ w ∈ B, w.before args s = true) : ∀ w ∈ L, w.before args s = true := by
  intro w hw
  by_cases g : goodWord w = true
  · exact h1 w (List.mem_filter.mpr ⟨hw, g⟩)
  · refine h3 w (h2 w (List.mem_filter.mpr ⟨hw, ?_⟩))
    show (!goodWord w) = true
    cases hgw : goodWord w
    · rfl
    · exact absurd hgw g
theorem vx_c {args : Array Value} {s : State} {w : Cond} {B : List Cond} (h : w.before args s = true) (t : ∀ w ∈ B, w.before args s = true) : ∀ w' ∈ w :: B, w'.before args s = true := fun w' h' => (List.mem_cons.mp h').elim (fun e => by rw [e]; exact h) (t w')
theorem vx_n {args : Array Value} {s : State} : ∀ w ∈ ([] : List Cond), w.before args s = true := fun _ h => nomatch h
theorem vx_own {args : Array Value} {s : State} {L : List Cond} (h1 : ∀ w ∈ L.filter vx_no, w.before args s = true)
    (hU : (Cond.isRef (.static Bundle.tN "UNASSIGNED_STACK" Bundle.steD)).before args s = true) (hN : (Cond.isRef (.static Bundle.tN "SUPPRESSED_SENTINEL" Bundle.listD)).before args s = true)
    (lU : (Cond.laysStatic Bundle.tN "UNASSIGNED_STACK" Bundle.steD).before args s = true) (lN : (Cond.laysStatic Bundle.tN "SUPPRESSED_SENTINEL" Bundle.listD).before args s = true) : ∀ w ∈ L, w.before args s = true := by
  intro w hw
  by_cases e1 : w = .isRef (.static Bundle.tN "UNASSIGNED_STACK" Bundle.steD)
  · rw [e1]; exact hU
  · by_cases e2 : w = .isRef (.static Bundle.tN "SUPPRESSED_SENTINEL" Bundle.listD)
    · rw [e2]; exact hN
    · by_cases e3 : w = .laysStatic Bundle.tN "UNASSIGNED_STACK" Bundle.steD
      · rw [e3]; exact lU
      · by_cases e4 : w = .laysStatic Bundle.tN "SUPPRESSED_SENTINEL" Bundle.listD
        · rw [e4]; exact lN
        · exact h1 w (List.mem_filter.mpr ⟨hw, by unfold vx_no; rw [decide_eq_true e1, decide_eq_true e2, decide_eq_true e3, decide_eq_true e4]; rfl⟩)
def vx_L (C n d : String) (A : Nat → Prop) (U : State) (H : Heap) : Prop := ∃ (c : ClassId) (k : Class) (i : Nat) (f : Field) (a : Nat) (cell : Cell), U.vm.findClass C = some c ∧ U.fieldFound? C n d = some (c, k, i, f) ∧ f.isStatic = true ∧ k.statics = some a ∧ H[a]? = some cell ∧ cell.vm.isStatics = true ∧ cell.cls = c ∧ f.slot < cell.slots.size ∧ k.staticTypes[f.slot]? = some f.type ∧ ¬ A a
theorem vx_L.moved {C n d : String} {A : Nat → Prop} {u U : State} {H : Heap} (hvm : u.vm.Alike U.vm) (h : vx_L C n d A u H) : vx_L C n d A U H := by
  obtain ⟨c, k, i, f, a, cell, h1, h2, h3, h4, h5, h6, h7, h8, h9, h10⟩ := h
  obtain ⟨k', hi', he⟩ := State.fieldFound?_setVm hvm h2
  exact ⟨c, k', i, f, a, cell, by rw [hvm.findClass]; exact h1, hi', h3, by rw [he]; exact h4, h5, h6, h7, h8, by rw [he]; exact h9, h10⟩
theorem vx_L.kept {C n d : String} {A : Nat → Prop} {U : State} {H H1 : Heap} (h : vx_L C n d A U H) (hq : ∀ a : Nat, a < H.size → ¬ A a → H1[a]? = H[a]?) : vx_L C n d A U H1 := by
  obtain ⟨c, k, i, f, a, cell, h1, h2, h3, h4, h5, h6, h7, h8, h9, h10⟩ := h
  exact ⟨c, k, i, f, a, cell, h1, h2, h3, h4, by rw [hq a (Array.getElem?_eq_some_iff.mp h5).1 h10]; exact h5, h6, h7, h8, h9, h10⟩
theorem vx_L.narrow {C n d : String} {A B : Nat → Prop} {U : State} {H : Heap} (h : vx_L C n d A U H) (hAB : ∀ q, B q → A q) : vx_L C n d B U H := by
  obtain ⟨c, k, i, f, a, cell, h1, h2, h3, h4, h5, h6, h7, h8, h9, h10⟩ := h
  exact ⟨c, k, i, f, a, cell, h1, h2, h3, h4, h5, h6, h7, h8, h9, fun z => h10 (hAB _ z)⟩
theorem vx_L.word {C n d : String} {A : Nat → Prop} {s : State} {args : Array Value} (h : vx_L C n d A s s.heap) : (Cond.laysStatic C n d).before args s = true := by
  obtain ⟨c, k, i, f, a, cell, h1, h2, h3, h4, h5, h6, h7, h8, h9, -⟩ := h
  show (Cond.laysStatic C n d).holds args s none s [] = true
  exact Cond.laysStatic_of h1 h2 h3 h4 h5 h6 h7 h8 h9
def vx_Zq (C n d : String) (A : Nat → Prop) (U : State) (H : Heap) : Prop := va_Zq C n d A U H ∧ vx_L C n d A U H
theorem vx_Zq.moved {C n d : String} {A : Nat → Prop} {u U : State} {H : Heap} (hvm : u.vm.Alike U.vm) (h : vx_Zq C n d A u H) : vx_Zq C n d A U H := ⟨va_Zq.moved hvm h.1, vx_L.moved hvm h.2⟩
theorem vx_Zq.kept {C n d : String} {A : Nat → Prop} {U : State} {H H1 : Heap} (h : vx_Zq C n d A U H) (hq : ∀ a : Nat, a < H.size → ¬ A a → H1[a]? = H[a]?) : vx_Zq C n d A U H1 := ⟨va_Zq.kept h.1 hq, vx_L.kept h.2 hq⟩
theorem vx_Zq.narrow {C n d : String} {A B : Nat → Prop} {U : State} {H : Heap} (h : vx_Zq C n d A U H) (hAB : ∀ q, B q → A q) : vx_Zq C n d B U H := ⟨va_Zq.narrow h.1 hAB, vx_L.narrow h.2 hAB⟩
theorem vx_Zqof {args : Array Value} {s : State} {C n d : String} {A : Nat → Prop} (hl : (Cond.laysStatic C n d).before args s = true) (hini : (Cond.initialized C).before args s = true) (h : (Cond.isRef (.static C n d)).before args s = true) (hA : ∀ a : Nat, a < s.heap.size → ¬ A a) : vx_Zq C n d A s s.heap := by
  refine ⟨va_Zqof hl hini h hA, ?_⟩
  obtain ⟨c, k, i, f, a, cell, h1, h2, h3, h4, h5, h6, h7, h8, h9⟩ := Cond.laysStatic_spec hl
  exact ⟨c, k, i, f, a, cell, h1, h2, h3, h4, h5, h6, h7, h8, h9, hA a (Array.getElem?_eq_some_iff.mp h5).1⟩
theorem vx_isRef {C n d : String} {v : Value} {A : Nat → Prop} {s : State} {args : Array Value} (h : va_Z C n d v A s s.heap) (hv : v.isRef = true) : (Cond.isRef (.static C n d)).before args s = true := by
  obtain ⟨cf, kf, fi, f, a, cell, h1, h2, h3, h4, h5, h6, h7, -⟩ := h
  have he : (Term.static C n d).eval args s none [] s = some v := by
    simp [Term.eval, State.fieldNamed?, h1, h2, h4, h5, h6, h7]
  simp only [Cond.before, Cond.holds, Cond.value, he]
  cases v <;> simp_all [Value.isRef]
theorem vx_isRefq {C n d : String} {A : Nat → Prop} {s : State} {args : Array Value} (h : va_Zq C n d A s s.heap) : (Cond.isRef (.static C n d)).before args s = true := by
  rcases h with h | ⟨t, h⟩
  · exact vx_isRef h rfl
  · exact vx_isRef h rfl
theorem vx_rebase {T : State} (X : Stand p l e R s m args below meth c T locs cells slots) {R' : Room} (hf : R'.frames ≤ R.frames) (hl : R'.locals ≤ R.locals) (hc : cells + R'.cells ≤ R.cells) (hs : slots + R'.slots ≤ R.slots) :
    Stand p l e R' ((T.setVm s.vm).setFrames (.invoking m args :: below)) m args below meth c T [] 0 0 := by
  have htop : (T.setVm s.vm).topJava?.isSome := X.here.top
  have hF : ((T.setVm s.vm).setFrames (.invoking m args :: below)).frames = .invoking m args :: below := State.frames_setFrames _ (State.cur_lt_of_top htop)
  obtain ⟨g₀, hg0⟩ := Option.isSome_iff_exists.mp htop
  obtain ⟨r, hr⟩ := State.topJava?_eq_some.mp hg0
  have hl9 : e.platform.stackLimits (T.setVm s.vm).me = e.platform.stackLimits s.me := X.limits
  have hb9 : (T.setVm s.vm).me.stackBytes = s.me.stackBytes := X.bytes
  refine ⟨X.admits, X.cas, X.clock, hF, ?_, X.hears, X.method, X.code, X.here, X.tail, X.warmed, ?_, ?_, ?_⟩
  · have h := X.room
    have hU : ((T.setVm s.vm).setFrames (.invoking m args :: below)).localsInUse = s.localsInUse := by
      rw [State.localsInUse_invoking hF (meth := meth) (c := c) X.method X.code, State.localsInUse_invoking X.frames X.method X.code]
    simp only [State.hasRoom, Bool.and_eq_true, decide_eq_true_eq] at h ⊢
    obtain ⟨⟨⟨⟨h1, h2, h3, h4, h5, h6⟩, h7⟩, h8⟩, h9⟩ := h
    rw [X.frames, List.length_cons] at h2 h3
    have q1 := X.heapSize
    have q2 := X.used
    simp only [hF, hU, List.length_cons, State.stackLimits_setFrames, State.stackBytes_setFrames, hl9, hb9]
    refine ⟨⟨⟨⟨by omega, by omega, by omega, by omega, by omega, h6⟩, ?_⟩, ?_⟩, X.book⟩
    · show T.heap.size + R'.cells ≤ e.platform.maxCells
      omega
    · show T.slotsUsed + R'.slots ≤ e.platform.maxSlots
      omega
  · rw [State.stackLimits_setFrames]; rfl
  · rw [State.stackBytes_setFrames]; rfl
  · refine ⟨?_, Nat.le_refl _, Nat.le_refl _, ?_, ?_, fun a c9 h9 => ⟨c9, h9, rfl, rfl, fun _ _ => rfl⟩⟩
    · obtain ⟨t, ht, -⟩ := State.frames_cons hr
      show T.setVm s.vm = { ((T.setVm s.vm).setFrames (.invoking m args :: below)).setFrames (T.setVm s.vm).frames with heap := T.heap, slotsUsed := T.slotsUsed }
      rw [State.setFrames_setFrames, State.setFrames_self ht]
      rfl
    · show T.slotsUsed = T.slotsUsed + ((T.heap.toList.drop T.heap.size).map (·.slots.size)).sum
      rw [List.drop_eq_nil_of_le (Nat.le_of_eq Array.length_toList)]
      rfl
    · show ((T.heap.toList.drop T.heap.size).map (·.slots.size)).sum ≤ 0
      rw [List.drop_eq_nil_of_le (Nat.le_of_eq Array.length_toList)]
      exact Nat.le_refl _
theorem vx_throw0 {cc : ByteArray} {pc : Nat} (hexec : p.tables.exec = Jvm.exec) (hb : c.code = cc) (hl : l.stackTraces = false) {own cls : String} {names : List String} {ik ic mc ms : Nat} {A : Nat → Prop}
    (hown : s.vm.findClass own = some m.cls) (hcls : Bundle.fit cls = true) (hnames : ∀ n ∈ names, Bundle.fit n = true)
    (hk : (Cond.classLink own ik cls).before args s = true) (hini : (Cond.initialized cls).before args s = true) (hat : ∀ w ∈ vx_at0 own ic cls names, w.before args s = true)
    (hgood : ∀ w ∈ Cond.classLink own ik cls :: Cond.initialized cls :: vx_at0 own ic cls names, vx_ot w = true)
    (hU : vx_Zq Bundle.tN "UNASSIGNED_STACK" Bundle.steD A s s.heap) (hN : vx_Zq Bundle.tN "SUPPRESSED_SENTINEL" Bundle.listD A s s.heap) (hS : va_S A s.heap H locs) (hsize : ls.size = c.maxLocals)
    (d0 : decode cc pc = .ok (.new ik, 3)) (d3 : decode cc (pc + 3) = .ok (.dup, 1)) (d4 : decode cc (pc + 4) = .ok (.invokespecial ic, 3)) (d7 : decode cc (pc + 7) = .ok (.athrow, 1))
    (hout : ∀ x ∈ c.exceptionTable.toList, covers x (pc + 7) = false)
    (hRframes : names.length + 3 < R.frames) (hRlocals : (rest.map fun v => v.category).sum + (13 * (names.length + 1) + 42) ≤ R.locals) (hRcells : cells + 1 ≤ R.cells) (hRslots : slots + 6 ≤ R.slots) (hlocks : meth.locks = false)
    (hx : ∀ t : State, s.vm.Alike t.vm → H.size ≤ t.heap.size → (∀ q : Nat, q < H.size → t.heap[q]? = H[q]?) → XC cls s t)
    (hf : ∀ z ∈ locs, free z.base) (hc : cells + 1 ≤ mc) (hs : slots + 6 ≤ ms) :
    W p l e R s m args below meth c H locs cells slots (vx_MQ below Qc XC args s mc ms free) (F0 m pc ls rest) := by
  intro T hT X
  have htr : e.platform.stackTraces = false := (show e.platform.stackTraces = l.stackTraces by rw [X.admits.platform]).trans hl
  have Y := vx_rebase X (R' := { frames := R.frames, locals := R.locals, cells := 1, slots := 6 }) (Nat.le_refl _) (Nat.le_refl _) hRcells hRslots
  obtain ⟨s', hA⟩ : ∃ z, z = (T.setVm s.vm).setFrames (.invoking m args :: below) := ⟨_, rfl⟩
  rw [← hA] at Y
  have hvm : s'.vm = s.vm := by rw [hA]; rfl
  have hhp : s'.heap = H := by rw [hA]; exact hT
  have hW0 : s.WarmedH s'.vm := by rw [hvm]; exact State.WarmedH.refl s
  have hat' : ∀ w ∈ vx_at0 own ic cls names, w.before args s' = true := fun w hw => vx_ot_at hW0 hvm.symm (hgood w (List.mem_cons_of_mem _ (List.mem_cons_of_mem _ hw))) (hat w hw)
  have hk' : (Cond.classLink own ik cls).before args s' = true := vx_ot_at hW0 hvm.symm (hgood _ List.mem_cons_self) hk
  have hini' : (Cond.initialized cls).before args s' = true := vx_ot_at hW0 hvm.symm (hgood _ (List.mem_cons_of_mem _ List.mem_cons_self)) hini
  have hU' : vx_Zq Bundle.tN "UNASSIGNED_STACK" Bundle.steD A s' s'.heap := by rw [hhp]; exact vx_Zq.moved hW0.alike (hU.kept hS.2.1)
  have hN' : vx_Zq Bundle.tN "SUPPRESSED_SENTINEL" Bundle.listD A s' s'.heap := by rw [hhp]; exact vx_Zq.moved hW0.alike (hN.kept hS.2.1)
  have h : ∀ w ∈ Bundle.ownAtoms0 own ic cls names, w.before args s' = true := vx_own hat' (vx_isRefq hU'.1) (vx_isRefq hN'.1) hU'.2.word hN'.2.word
  have hown' : s'.vm.findClass own = some m.cls := by rw [hvm]; exact hown
  have hins : (Cond.instantiable cls 6).before args s' = true := h _ (by simp [Bundle.ownAtoms0])
  obtain ⟨vm₁, cX, kX, hfX, hkX, -, -, X₁, st1⟩ := Y.newCold hexec (own := own) (C := cls) (index := ik) (n := 6) hown' hk' hins hini'
    (g := F0 m pc ls rest) rfl (by rw [hb]; exact d0) (Nat.le_refl _) (Nat.le_refl _)
  generalize hT1 : (T.setVm vm₁).pushCell { cls := cX, slots := kX.instanceTypes.map defaultValue, vm := .none } = T1 at X₁ st1
  have hcat : (Value.ref T.heap.size).category = 1 := rfl
  have hcellA : T1.heap[T.heap.size]? = some (freshCell cX kX) := by rw [← hT1]; exact State.heap_pushCell_size _ _
  have d3' : decode c.code (pc + 3) = .ok (.dup, 1) := by rw [hb]; exact d3
  obtain ⟨U, hsteps, hrun, hend, hW, hsame, ce, hce, hO⟩ := X₁.ctorThrow0 hexec htr (own := own) (cls := cls) (names := names) (ic := ic) hown' hcls hnames h (fun x hx => nomatch hx) hfX hkX hcellA (by rw [hhp, hT]; exact Nat.le_refl _)
    (g := { method := m, pc := pc + 4, locals := ls, stack := .ref T.heap.size :: .ref T.heap.size :: rest, locked := none }) rfl hsize rfl rfl (rest := rest) rfl
    (by rw [hb]; exact d4) (by rw [hb]; exact d7) hout hRframes (by simp only [List.map_cons, List.sum_cons, hcat]; omega) hlocks
  obtain ⟨f1, f2⟩ := vx_frame hsame
  rw [hhp] at f1 f2
  have hWs : s.WarmedH U.vm := State.WarmedH.trans hW0 hW
  have hcl : s.vm.findClass cls = some ce.cls := by
    have h9 := hO.cls
    rw [hvm] at h9
    exact h9
  have hall : s.sameButNew ({ U with vm := s.vm } : State) locs mc ms := by
    subst hA
    obtain ⟨e1, e2⟩ := hsame
    rw [State.setFrames_setFrames] at e1
    have h2 : (T.setVm s.vm).sameButNew ({ U with vm := s.vm } : State) [] (0 + 1) (0 + 6) := ⟨e1, e2⟩
    have h3 := X.same.trans h2
    rw [List.append_nil] at h3
    exact h3.mono hc hs
  refine ⟨U, ?_, .threw T.heap.size, hrun, hend, Or.inr ⟨T.heap.size, rfl, cls, ce, locs, hx U hWs.alike f1 (fun q hq => f2 q hq (fun z hz => nomatch hz)), hce, hO.vm, hcl, hWs, hall, hf⟩⟩
  refine st1 _ ?_
  show Steps p.tables e below (T1.setTop { method := m, pc := pc + 3, locals := ls, stack := .ref T.heap.size :: rest, locked := none }) _
  jvm_step X₁.here [X₁.here.top, hexec, d3', Value.category]
  exact hsteps
theorem vx_throwS {cc : ByteArray} {pc : Nat} (hexec : p.tables.exec = Jvm.exec) (hb : c.code = cc) (hl : l.stackTraces = false) {own cls text : String} {names : List String} {ik is ic mc ms sa : Nat} {A : Nat → Prop}
    (hown : s.vm.findClass own = some m.cls) (hcls : Bundle.fit cls = true) (hnames : ∀ n ∈ names, Bundle.fit n = true)
    (hk : (Cond.classLink own ik cls).before args s = true) (hini : (Cond.initialized cls).before args s = true) (hstr : vk_R own is text sa s) (hat : ∀ w ∈ vx_atS own ic cls names, w.before args s = true)
    (hgood : ∀ w ∈ Cond.classLink own ik cls :: Cond.initialized cls :: vx_atS own ic cls names, vx_ot w = true)
    (hU : vx_Zq Bundle.tN "UNASSIGNED_STACK" Bundle.steD A s s.heap) (hN : vx_Zq Bundle.tN "SUPPRESSED_SENTINEL" Bundle.listD A s s.heap) (hS : va_S A s.heap H locs) (hsize : ls.size = c.maxLocals)
    (d0 : decode cc pc = .ok (.new ik, 3)) (d3 : decode cc (pc + 3) = .ok (.dup, 1)) (d4 : decode cc (pc + 4) = .ok (.ldc is, 2)) (d6 : decode cc (pc + 6) = .ok (.invokespecial ic, 3)) (d9 : decode cc (pc + 9) = .ok (.athrow, 1))
    (hout : ∀ x ∈ c.exceptionTable.toList, covers x (pc + 9) = false)
    (hRframes : names.length + 3 < R.frames) (hRlocals : (rest.map fun v => v.category).sum + (13 * (names.length + 1) + 43) ≤ R.locals) (hRcells : cells + 1 ≤ R.cells) (hRslots : slots + 6 ≤ R.slots) (hlocks : meth.locks = false)
    (hx : ∀ t : State, s.vm.Alike t.vm → H.size ≤ t.heap.size → (∀ q : Nat, q < H.size → t.heap[q]? = H[q]?) → XC cls s t)
    (hf : ∀ z ∈ locs, free z.base) (hc : cells + 1 ≤ mc) (hs : slots + 6 ≤ ms) :
    W p l e R s m args below meth c H locs cells slots (vx_MQ below Qc XC args s mc ms free) (F0 m pc ls rest) := by
  intro T hT X
  have htr : e.platform.stackTraces = false := (show e.platform.stackTraces = l.stackTraces by rw [X.admits.platform]).trans hl
  have Y := vx_rebase X (R' := { frames := R.frames, locals := R.locals, cells := 1, slots := 6 }) (Nat.le_refl _) (Nat.le_refl _) hRcells hRslots
  obtain ⟨s', hA⟩ : ∃ z, z = (T.setVm s.vm).setFrames (.invoking m args :: below) := ⟨_, rfl⟩
  rw [← hA] at Y
  have hvm : s'.vm = s.vm := by rw [hA]; rfl
  have hhp : s'.heap = H := by rw [hA]; exact hT
  have hW0 : s.WarmedH s'.vm := by rw [hvm]; exact State.WarmedH.refl s
  have hat' : ∀ w ∈ vx_atS own ic cls names, w.before args s' = true := fun w hw => vx_ot_at hW0 hvm.symm (hgood w (List.mem_cons_of_mem _ (List.mem_cons_of_mem _ hw))) (hat w hw)
  have hk' : (Cond.classLink own ik cls).before args s' = true := vx_ot_at hW0 hvm.symm (hgood _ List.mem_cons_self) hk
  have hini' : (Cond.initialized cls).before args s' = true := vx_ot_at hW0 hvm.symm (hgood _ (List.mem_cons_of_mem _ List.mem_cons_self)) hini
  have hU' : vx_Zq Bundle.tN "UNASSIGNED_STACK" Bundle.steD A s' s'.heap := by rw [hhp]; exact vx_Zq.moved hW0.alike (hU.kept hS.2.1)
  have hN' : vx_Zq Bundle.tN "SUPPRESSED_SENTINEL" Bundle.listD A s' s'.heap := by rw [hhp]; exact vx_Zq.moved hW0.alike (hN.kept hS.2.1)
  have h : ∀ w ∈ Bundle.ownAtoms own ic cls names, w.before args s' = true := vx_own hat' (vx_isRefq hU'.1) (vx_isRefq hN'.1) hU'.2.word hN'.2.word
  have hown' : s'.vm.findClass own = some m.cls := by rw [hvm]; exact hown
  have hins : (Cond.instantiable cls 6).before args s' = true := h _ (by simp [Bundle.ownAtoms])
  obtain ⟨vm₁, cX, kX, hfX, hkX, -, -, X₁, st1⟩ := Y.newCold hexec (own := own) (C := cls) (index := ik) (n := 6) hown' hk' hins hini'
    (g := F0 m pc ls rest) rfl (by rw [hb]; exact d0) (Nat.le_refl _) (Nat.le_refl _)
  generalize hT1 : (T.setVm vm₁).pushCell { cls := cX, slots := kX.instanceTypes.map defaultValue, vm := .none } = T1 at X₁ st1
  have hcat : (Value.ref T.heap.size).category = 1 := rfl
  have hcellA : T1.heap[T.heap.size]? = some (freshCell cX kX) := by rw [← hT1]; exact State.heap_pushCell_size _ _
  have d3' : decode c.code (pc + 3) = .ok (.dup, 1) := by rw [hb]; exact d3
  have d4' : decode c.code (pc + 4) = .ok (.ldc is, 2) := by rw [hb]; exact d4
  have hstr' : vk_R own is text sa s' := vk_R.warm hW0 hstr
  obtain ⟨U, hsteps, hrun, hend, hW, hsame, ce, hce, hO⟩ := X₁.ctorThrowS hexec htr (own := own) (cls := cls) (names := names) (ic := ic) hown' hcls hnames h (fun x hx => nomatch hx) hfX hkX hcellA (by rw [hhp, hT]; exact Nat.le_refl _) (msg := .ref sa) rfl
    (g := { method := m, pc := pc + 6, locals := ls, stack := .ref sa :: .ref T.heap.size :: .ref T.heap.size :: rest, locked := none }) rfl hsize rfl rfl (rest := rest) rfl
    (by rw [hb]; exact d6) (by rw [hb]; exact d9) hout hRframes (by simp only [List.map_cons, List.sum_cons, hcat]; omega) hlocks
  obtain ⟨f1, f2⟩ := vx_frame hsame
  rw [hhp] at f1 f2
  have hWs : s.WarmedH U.vm := State.WarmedH.trans hW0 hW
  have hcl : s.vm.findClass cls = some ce.cls := by
    have h9 := hO.cls
    rw [hvm] at h9
    exact h9
  have hall : s.sameButNew ({ U with vm := s.vm } : State) locs mc ms := by
    subst hA
    obtain ⟨e1, e2⟩ := hsame
    rw [State.setFrames_setFrames] at e1
    have h2 : (T.setVm s.vm).sameButNew ({ U with vm := s.vm } : State) [] (0 + 1) (0 + 6) := ⟨e1, e2⟩
    have h3 := X.same.trans h2
    rw [List.append_nil] at h3
    exact h3.mono hc hs
  refine ⟨U, ?_, .threw T.heap.size, hrun, hend, Or.inr ⟨T.heap.size, rfl, cls, ce, locs, hx U hWs.alike f1 (fun q hq => f2 q hq (fun z hz => nomatch hz)), hce, hO.vm, hcl, hWs, hall, hf⟩⟩
  refine st1 _ ?_
  show Steps p.tables e below (T1.setTop { method := m, pc := pc + 3, locals := ls, stack := .ref T.heap.size :: rest, locked := none }) _
  jvm_step X₁.here [X₁.here.top, hexec, d3', Value.category]
  exact X₁.ldcString hexec (own := own) (text := text) (index := is) (a := sa) hown' hstr'.1 hstr'.2
    (g := { method := m, pc := pc + 4, locals := ls, stack := .ref T.heap.size :: .ref T.heap.size :: rest, locked := none }) rfl d4' _ hsteps
theorem vx_throwSW {cc : ByteArray} {pc : Nat} (hexec : p.tables.exec = Jvm.exec) (hb : c.code = cc) (hl : l.stackTraces = false) {own cls text : String} {names : List String} {ik is ic mc ms sa : Nat} {A : Nat → Prop}
    (hown : s.vm.findClass own = some m.cls) (hcls : Bundle.fit cls = true) (hnames : ∀ n ∈ names, Bundle.fit n = true)
    (hk : (Cond.classLink own ik cls).before args s = true) (hini : (Cond.initialized cls).before args s = true) (hstr : vk_R own is text sa s) (hat : ∀ w ∈ vx_atS own ic cls names, w.before args s = true)
    (hgood : ∀ w ∈ Cond.classLink own ik cls :: Cond.initialized cls :: vx_atS own ic cls names, vx_ot w = true)
    (hU : vx_Zq Bundle.tN "UNASSIGNED_STACK" Bundle.steD A s s.heap) (hN : vx_Zq Bundle.tN "SUPPRESSED_SENTINEL" Bundle.listD A s s.heap) (hS : va_S A s.heap H locs) (hsize : ls.size = c.maxLocals)
    (d0 : decode cc pc = .ok (.new ik, 3)) (d3 : decode cc (pc + 3) = .ok (.dup, 1)) (d4 : decode cc (pc + 4) = .ok (.ldc_w is, 3)) (d7 : decode cc (pc + 7) = .ok (.invokespecial ic, 3)) (d10 : decode cc (pc + 10) = .ok (.athrow, 1))
    (hout : ∀ x ∈ c.exceptionTable.toList, covers x (pc + 10) = false)
    (hRframes : names.length + 3 < R.frames) (hRlocals : (rest.map fun v => v.category).sum + (13 * (names.length + 1) + 43) ≤ R.locals) (hRcells : cells + 1 ≤ R.cells) (hRslots : slots + 6 ≤ R.slots) (hlocks : meth.locks = false)
    (hx : ∀ t : State, s.vm.Alike t.vm → H.size ≤ t.heap.size → (∀ q : Nat, q < H.size → t.heap[q]? = H[q]?) → XC cls s t)
    (hf : ∀ z ∈ locs, free z.base) (hc : cells + 1 ≤ mc) (hs : slots + 6 ≤ ms) :
    W p l e R s m args below meth c H locs cells slots (vx_MQ below Qc XC args s mc ms free) (F0 m pc ls rest) := by
  intro T hT X
  have htr : e.platform.stackTraces = false := (show e.platform.stackTraces = l.stackTraces by rw [X.admits.platform]).trans hl
  have Y := vx_rebase X (R' := { frames := R.frames, locals := R.locals, cells := 1, slots := 6 }) (Nat.le_refl _) (Nat.le_refl _) hRcells hRslots
  obtain ⟨s', hA⟩ : ∃ z, z = (T.setVm s.vm).setFrames (.invoking m args :: below) := ⟨_, rfl⟩
  rw [← hA] at Y
  have hvm : s'.vm = s.vm := by rw [hA]; rfl
  have hhp : s'.heap = H := by rw [hA]; exact hT
  have hW0 : s.WarmedH s'.vm := by rw [hvm]; exact State.WarmedH.refl s
  have hat' : ∀ w ∈ vx_atS own ic cls names, w.before args s' = true := fun w hw => vx_ot_at hW0 hvm.symm (hgood w (List.mem_cons_of_mem _ (List.mem_cons_of_mem _ hw))) (hat w hw)
  have hk' : (Cond.classLink own ik cls).before args s' = true := vx_ot_at hW0 hvm.symm (hgood _ List.mem_cons_self) hk
  have hini' : (Cond.initialized cls).before args s' = true := vx_ot_at hW0 hvm.symm (hgood _ (List.mem_cons_of_mem _ List.mem_cons_self)) hini
  have hU' : vx_Zq Bundle.tN "UNASSIGNED_STACK" Bundle.steD A s' s'.heap := by rw [hhp]; exact vx_Zq.moved hW0.alike (hU.kept hS.2.1)
  have hN' : vx_Zq Bundle.tN "SUPPRESSED_SENTINEL" Bundle.listD A s' s'.heap := by rw [hhp]; exact vx_Zq.moved hW0.alike (hN.kept hS.2.1)
  have h : ∀ w ∈ Bundle.ownAtoms own ic cls names, w.before args s' = true := vx_own hat' (vx_isRefq hU'.1) (vx_isRefq hN'.1) hU'.2.word hN'.2.word
  have hown' : s'.vm.findClass own = some m.cls := by rw [hvm]; exact hown
  have hins : (Cond.instantiable cls 6).before args s' = true := h _ (by simp [Bundle.ownAtoms])
  obtain ⟨vm₁, cX, kX, hfX, hkX, -, -, X₁, st1⟩ := Y.newCold hexec (own := own) (C := cls) (index := ik) (n := 6) hown' hk' hins hini'
    (g := F0 m pc ls rest) rfl (by rw [hb]; exact d0) (Nat.le_refl _) (Nat.le_refl _)
  generalize hT1 : (T.setVm vm₁).pushCell { cls := cX, slots := kX.instanceTypes.map defaultValue, vm := .none } = T1 at X₁ st1
  have hcat : (Value.ref T.heap.size).category = 1 := rfl
  have hcellA : T1.heap[T.heap.size]? = some (freshCell cX kX) := by rw [← hT1]; exact State.heap_pushCell_size _ _
  have d3' : decode c.code (pc + 3) = .ok (.dup, 1) := by rw [hb]; exact d3
  have d4' : decode c.code (pc + 4) = .ok (.ldc_w is, 3) := by rw [hb]; exact d4
  have hstr' : vk_R own is text sa s' := vk_R.warm hW0 hstr
  obtain ⟨U, hsteps, hrun, hend, hW, hsame, ce, hce, hO⟩ := X₁.ctorThrowS hexec htr (own := own) (cls := cls) (names := names) (ic := ic) hown' hcls hnames h (fun x hx => nomatch hx) hfX hkX hcellA (by rw [hhp, hT]; exact Nat.le_refl _) (msg := .ref sa) rfl
    (g := { method := m, pc := pc + 7, locals := ls, stack := .ref sa :: .ref T.heap.size :: .ref T.heap.size :: rest, locked := none }) rfl hsize rfl rfl (rest := rest) rfl
    (by rw [hb]; exact d7) (by rw [hb]; exact d10) hout hRframes (by simp only [List.map_cons, List.sum_cons, hcat]; omega) hlocks
  obtain ⟨f1, f2⟩ := vx_frame hsame
  rw [hhp] at f1 f2
  have hWs : s.WarmedH U.vm := State.WarmedH.trans hW0 hW
  have hcl : s.vm.findClass cls = some ce.cls := by
    have h9 := hO.cls
    rw [hvm] at h9
    exact h9
  have hall : s.sameButNew ({ U with vm := s.vm } : State) locs mc ms := by
    subst hA
    obtain ⟨e1, e2⟩ := hsame
    rw [State.setFrames_setFrames] at e1
    have h2 : (T.setVm s.vm).sameButNew ({ U with vm := s.vm } : State) [] (0 + 1) (0 + 6) := ⟨e1, e2⟩
    have h3 := X.same.trans h2
    rw [List.append_nil] at h3
    exact h3.mono hc hs
  refine ⟨U, ?_, .threw T.heap.size, hrun, hend, Or.inr ⟨T.heap.size, rfl, cls, ce, locs, hx U hWs.alike f1 (fun q hq => f2 q hq (fun z hz => nomatch hz)), hce, hO.vm, hcl, hWs, hall, hf⟩⟩
  refine st1 _ ?_
  show Steps p.tables e below (T1.setTop { method := m, pc := pc + 3, locals := ls, stack := .ref T.heap.size :: rest, locked := none }) _
  jvm_step X₁.here [X₁.here.top, hexec, d3', Value.category]
  exact X₁.ldcStringW hexec (own := own) (text := text) (index := is) (a := sa) hown' hstr'.1 hstr'.2
    (g := { method := m, pc := pc + 4, locals := ls, stack := .ref T.heap.size :: .ref T.heap.size :: rest, locked := none }) rfl d4' _ hsteps
end Ends
section Bodies
variable {l : Launch}
theorem vx_ofW {y : MethodName} {ws ws' : List Cond} {rm : Room} {Pc : Array Value → State → Prop} {Qc : Array Value → State → Outcome → State → Prop} {XC : String → State → State → Prop} {mc ms : Nat} {free : Addr → Prop} {cc : ByteArray} {maxL : Nat} {ret : Option FieldType}
    (hy : plainName y.cls = true) (hw : ws = Cond.code y cc maxL ret :: ws')
    (body : ∀ p e s m args below meth c s₁, BodyLoose p l y (headSpec ws rm) cc maxL ret e s m args below meth c s₁ → c.maxLocals = maxL → (∀ x ∈ c.exceptionTable.toList, False) → Pc args s →
      W p l e (headSpec ws rm).room s m args below meth c s.heap [] 0 0 (vx_MQ below Qc XC args s mc ms free) (entryFrame m args maxL)) : vx_Met l y ws rm Pc Qc XC mc ms free := by
  refine MetFree.of_bodyS (code := cc) (maxLocals := maxL) (ret := ret) hy ?_ ?_
  · intro args s m h hn
    obtain ⟨meth, c, h1, h2, h3, h4, h5, h6, -, -⟩ := Cond.code_spec hn (atoms_spec (ws := ws) h _ (by rw [hw]; exact List.mem_cons_self))
    exact ⟨meth, c, h1, h2, h3, h4, h5, h6⟩
  · intro p e s m args below meth c s₁ B hml hP _
    have hh0 : s₁.heap = s.heap := by rw [B.state]; rfl
    have ht : ∀ x ∈ c.exceptionTable.toList, False := by
      obtain ⟨meth9, c9, h1, h2, -, -, -, -, h7, -⟩ := Cond.code_spec B.named (atoms_spec (ws := ws) B.pre _ (by rw [hw]; exact List.mem_cons_self))
      cases Option.some.inj (h1.symm.trans B.method)
      cases Option.some.inj (h2.symm.trans (Stand.of_body B).code)
      intro x hx
      rw [Array.isEmpty_iff.mp h7] at hx
      cases hx
    obtain ⟨t, a1, o, b1, b2, b3⟩ := body p e s m args below meth c s₁ B hml ht hP s₁ hh0 (Stand.of_body B)
    exact ⟨t, o, a1, b1, b2, b3⟩
theorem vx_table {p : Program} {x y : MethodName} {S : Spec} {cc bytes : ByteArray} {maxL maxL' : Nat} {ret ret' : Option FieldType} {e : Env} {s s₁ : State} {m : MethodId} {args : Array Value} {below : List Frame} {meth : Method} {c : Code} {hh : List (Nat × Nat × Nat × Nat)}
    (B : BodyLoose p l y S cc maxL ret e s m args below meth c s₁) (h : (Cond.codeWith y bytes maxL' ret' hh).before args s = true) : c.exceptionTable.toList = tableOf hh := by
  obtain ⟨m9, meth9, c9, hn9, h1, h2, -, -, h6, -⟩ := Cond.codeWith_spec h
  cases Option.some.inj (hn9.symm.trans B.named)
  cases Option.some.inj (h1.symm.trans B.method)
  cases Option.some.inj (h2.symm.trans (Stand.of_body B).code)
  rw [← h6, table_eq]
end Bodies
end VXA
section VXS
variable {p : Program} {l : Launch} {e : Env} {R : Room} {s : State} {m : MethodId} {args : Array Value} {below : List Frame} {meth : Method} {c : Code} {T : State} {H : Heap} {locs : List Loc} {cells slots : Nat}
abbrev vx_CSW (R : Room) (s : State) (args : Array Value) (own : String) (index : Nat) (y : MethodName) (bytes : ByteArray) (maxL : Nat) (ret : Option FieldType) (hh : List (Nat × Nat × Nat × Nat)) (ws : List Cond) (rm : Room) (mc ms n : Nat) : Prop :=
  (rm.cells = mc ∧ rm.slots = ms ∧ rm.frames + 1 ≤ R.frames ∧ 8 + (maxL + 11) + rm.locals ≤ R.locals ∧ (∀ w ∈ ws, ∀ (a' : Array Value) (U : State), s.WarmedH U.vm → w.before a' U = true) ∧ Cond.codeWith y bytes maxL ret hh ∈ ws) ∧
  (Cond.codeWith y bytes maxL ret hh).before args s = true ∧ (Cond.initialized y.cls).before args s = true ∧ (y.cls ≠ "java/lang/invoke/MethodHandle" ∧ y.cls ≠ "java/lang/invoke/VarHandle") ∧
  (∀ sig, parseMethodDescriptor y.desc = some sig → n = sig.parameters.length) ∧ (Cond.methodLink own index y).before args s = true ∧ (Cond.static y).before args s = true
theorem vx_cwSW {own : String} {index maxL mc ms : Nat} {y : MethodName} {bytes : ByteArray} {ret : Option FieldType} {hh : List (Nat × Nat × Nat × Nat)} {Ts ws ws' : List Cond} {rm : Room} (n : Nat) (ht : ∀ w ∈ Ts, w.before args s = true) (hT : GoodIn Ts (va_wsS own index y ws)) (hw : ws = Cond.codeWith y bytes maxL ret hh :: ws') (hrc : rm.cells = mc) (hrs : rm.slots = ms)
    (hd : y.cls ≠ "java/lang/invoke/MethodHandle" ∧ y.cls ≠ "java/lang/invoke/VarHandle" ∧ (parseMethodDescriptor y.desc).map (fun d => d.parameters.length) = some n) (hR : rm.frames + 1 ≤ R.frames ∧ 8 + (maxL + 11) + rm.locals ≤ R.locals) :
    vx_CSW R s args own index y bytes maxL ret hh ws rm mc ms n := by
  have ok : ∀ w ∈ va_wsS own index y ws, w.before args s = true := fun w h => ht w (hT w h).1
  have hG : GoodIn Ts ws := fun w h => hT w (by unfold va_wsS; exact List.mem_append_right _ h)
  have hc : Cond.codeWith y bytes maxL ret hh ∈ ws := by rw [hw]; exact List.mem_cons_self
  refine ⟨⟨hrc, hrs, hR.1, hR.2, pay_in ht hG, hc⟩, ht _ (hG _ hc).1, ok _ (by simp [va_wsS]), ⟨hd.1, hd.2.1⟩, fun sig h => ?_, ok _ (by simp [va_wsS]), ok _ (by simp [va_wsS])⟩
  have h2 := hd.2.2
  rw [h] at h2
  exact (Option.some.inj h2).symm
theorem vx_callSW (X : Stand p l e R s m args below meth c T locs cells slots) (hexec : p.tables.exec = Jvm.exec) {own : String} {index : Nat} {y : MethodName} {bytes : ByteArray} {maxL : Nat} {ret : Option FieldType} {hh : List (Nat × Nat × Nat × Nat)}
    (hown : s.vm.findClass own = some m.cls) (hlink : (Cond.methodLink own index y).before args s = true) (hstat : (Cond.static y).before args s = true) (hinit : (Cond.initialized y.cls).before args s = true)
    (hcode : (Cond.codeWith y bytes maxL ret hh).before args s = true) (hy : y.cls ≠ "java/lang/invoke/MethodHandle" ∧ y.cls ≠ "java/lang/invoke/VarHandle")
    {W9 : Nat} {Pre : Pt → Array Value → Prop} {Post : Pt → Array Value → Option Value → Pt → Prop} (hK : Back l R p e below s args y 3 W9 Pre Post)
    {g : JFrame} (hg : g.method = m) (hsize : g.locals.size = c.maxLocals) {argsL rest : List Value} (hlen : ∀ sig, parseMethodDescriptor y.desc = some sig → argsL.length = sig.parameters.length)
    (hstack : g.stack = argsL.reverse ++ rest) (hW : 2 * g.monitorRoom + (rest.map fun v => v.category).sum ≤ W9) (hdg : decode c.code g.pc = .ok (.invokestatic index, 3))
    (hpre : ∀ vm₁, s.WarmedH vm₁ → Pre ⟨T.setVm vm₁, locs, cells, slots⟩ argsL.toArray) :
    ∃ (v : Option Value) (vm₁ : Vm) (B : Pt), s.WarmedH vm₁ ∧ Stand p l e R s m args below meth c B.U B.locs B.cells B.slots ∧ Post ⟨T.setVm vm₁, locs, cells, slots⟩ argsL.toArray v B ∧
      ∀ target, Steps p.tables e below (B.U.setTop { g with pc := g.pc + 3, stack := v.toList ++ rest }) target → Steps p.tables e below (T.setTop g) target := by
  obtain ⟨mk, methM, cM, hnamed, hmethM, -, -, -, -, -, -, hsigM⟩ := Cond.codeWith_spec hcode
  have hstatic : methM.isStatic = true := Cond.static_spec hnamed hmethM hstat
  obtain ⟨kP, hkP, -⟩ := className_of_methodNamed hnamed
  have hinitP : kP.init = .initialized := Cond.initialized_spec (findClass_of_methodNamed hnamed) hkP hinit
  obtain ⟨vm₁, X₁, hstep₁⟩ := X.invokestatic hexec hown hlink hnamed hmethM hstatic hkP hinitP hy (g := g) hg (argsL := argsL) (rest := rest) (hlen _ hsigM) hstack hdg
  obtain ⟨v, B, X', hpost, hsteps⟩ := hK m meth c ⟨T.setVm vm₁, locs, cells, slots⟩ { g with stack := rest } (.invokestatic index) mk argsL.toArray X₁ hg hsize hdg hW (X₁.named hnamed) (hpre vm₁ X₁.warmed)
  exact ⟨v, vm₁, B, X₁.warmed, X', hpost, fun target h => hstep₁ _ fun acts => by rw [doInvoke_state]; exact hsteps.trans h⟩
theorem vx_runSW {y : MethodName} {bytes cc : ByteArray} {maxL nL mc ms n index : Nat} {ret : Option FieldType} {hh : List (Nat × Nat × Nat × Nat)} {ws : List Cond} {rm : Room} {Pc : Array Value → State → Prop} {Qc : Array Value → State → Outcome → State → Prop} {free : Addr → Prop} {Ts : List Cond} {own : String} {As rest : List Value} {g : JFrame}
    (S : CallFix p m c cc nL s args Ts own) (hM : Met l y ws rm Pc Qc mc ms free) (cw : vx_CSW R s args own index y bytes maxL ret hh ws rm mc ms n) (hp : PreS s H Pc As)
    (hg : g.method = m) (hn : As.length = n) (hsize : g.locals.size = nL) (hstack : g.stack = As.reverse ++ rest) (hW : 2 * g.monitorRoom + (rest.map fun v => v.category).sum ≤ 8) (hdg : decode cc g.pc = .ok (.invokestatic index, 3)) (hf : cells + mc ≤ R.cells ∧ slots + ms ≤ R.slots) :
    va_Run p l e R s m args below meth c H locs cells slots mc ms g rest (Qc As.toArray) (free) := by
  obtain ⟨⟨hrc, hrs, hfr, hlo, hws, hcw⟩, hcode, hini, hy, hlen, hl, hstt⟩ := cw
  have hK : Back l R p e below s args y 3 8 (PreOf R mc ms Pc) (PostOf Qc mc ms free) := va_backW (hh := hh) (bytes := bytes) (maxL := maxL) (ret := ret) hM hp.1 hrc hrs hfr hlo hws hcw (fun a' U hW => word_at hW (Or.inl (by first | rfl | simp [Cond.onTables, Cond.keeps, Cond.steady])) hini)
  obtain ⟨hx, hb, hml, ho, -⟩ := S
  intro T hT X
  obtain ⟨v, vm₁, ⟨U', l2, c2, s2⟩, hW₁, X', ⟨g', mk, t, L, e1, e2, hq, h1, hL, h2, h3⟩, st⟩ := vx_callSW X hx (hh := hh) (bytes := bytes) (maxL := maxL) (ret := ret) ho hl hstt hini hcode hy hK hg (hsize.trans hml.symm) (argsL := As) (rest := rest) (fun sig h => hn.trans (hlen sig h)) hstack hW (by rw [hb]; exact hdg)
    (fun vm₁ hW₁ => ⟨hf.1, hf.2, hp.2 (T.setVm vm₁) hT hW₁⟩)
  dsimp only [Pt.U, Pt.locs, Pt.cells, Pt.slots] at X' e1 e2 h1 h2 h3 st
  subst h1; subst h2; subst h3
  exact ⟨v, (T.setVm vm₁).calling g' mk As.toArray, t, U', L, hT, X', hL, e1, e2, hq, st⟩
theorem vx_outP {p : Program} {l : Launch} {e : Env} {R : Room} {s : State} {m : MethodId} {args : Array Value} {below : List Frame} {meth : Method} {c : Code} {H : Heap} {locs : List Loc} {cells slots : Nat} {free : Addr → Prop} {ls : Array Slot} {rest : List Value} {Qc : Array Value → State → Outcome → State → Prop} {XC : String → State → State → Prop}
    {pc : Nat} {own E : String} {ce : Cell} {q : Addr} {mc ms : Nat} (hown : s.vm.findClass own = some m.cls) (hlocks : meth.locks = false)
    (hpass : ∀ z ∈ c.exceptionTable.toList, covers z pc = false ∨ (z.catchType ≠ 0 ∧ ∃ nm : String, (Cond.classLink own z.catchType nm).before args s = true ∧ va_Nc E nm s)) (hcell : H[q]? = some ce) (hv : ce.vm = .none) (hcl : s.vm.findClass E = some ce.cls)
    (hx : ∀ t : State, t.heap = H → s.vm.Alike t.vm → XC E s t) (hf : ∀ z ∈ locs, free z.base) (hc : cells ≤ mc) (hs : slots ≤ ms) :
    vx_W p l e R s m args below meth c H locs cells slots (vx_MQ below Qc XC args s mc ms free) (F0 m pc ls rest) q := by
  intro T hT X
  have hpl : e.platform.magicAccessors = ({} : Platform).magicAccessors := by rw [X.admits.platform]
  obtain ⟨vm', hW', X', st⟩ := X.outThrough hlocks q (g := F0 m pc ls rest) rfl rfl rfl (cell := ce) (by rw [hT]; exact hcell) (by rw [hv]; rfl)
    (by obtain ⟨k9, h9, -⟩ := Vm.findClass_spec hcl; exact ⟨k9, h9⟩) (fun z hz => by
      rcases hpass z hz with h | ⟨hz0, nm, hl1, hn1⟩
      · exact Or.inl h
      · obtain ⟨c6, hc6, hcl6⟩ := Cond.classLink_spec hown hl1 e.platform hpl
        obtain ⟨a8, b8, h1, h2, h3⟩ := hn1
        cases Option.some.inj (h1.symm.trans hcl)
        cases Option.some.inj (h2.symm.trans hc6)
        exact Or.inr ⟨hz0, _, hcl6, h3⟩)
  obtain ⟨g₀, hfr⟩ := X'.frames_eq
  have hcell9 : ((T.setVm vm').setFrames (.throwing q :: below)).heap[q]? = some ce := by
    show T.heap[q]? = some ce
    rw [hT]; exact hcell
  have hend : Ended ((T.setVm vm').setFrames (.throwing q :: below)) below (.threw q) := State.frames_setFrames _ (State.cur_lt_of_frames hfr)
  refine ⟨(T.setVm vm').setFrames (.throwing q :: below), ?_, .threw q, X'.here.running, hend, Or.inr ⟨q, rfl, E, ce, locs, hx _ hT (X'.ends _).1.alike, hcell9, hv, hcl, (X'.ends _).1, (X'.ends _).2.mono hc hs, hf⟩⟩
  rw [X.pushThrowing_eq]
  exact st
theorem vx_lt {D : va_G} {cl : List vw_C} {ws : va_W} {H1 : Heap} (h : va_P D cl ws H1) {k : Nat} {q : Nat × va_E} (hk : ws[k]? = some q) : q.1 < H1.size := (h k q hk).lt
end VXS
section VXH
section
variable {l : Launch} {R : Room} {p : Program} {e : Env} {below : List Frame} {s : State} {sargs : Array Value} {y : MethodName} {len W9 : Nat}
theorem vx_backW {ws : List Cond} {rm : Room} {Pc : Array Value → State → Prop} {Qc : Array Value → State → Outcome → State → Prop} {XC : String → State → State → Prop} {mc ms : Nat} {free : Addr → Prop} {bytes : ByteArray} {maxL : Nat} {ret : Option FieldType} {hh : List (Nat × Nat × Nat × Nat)}
    (hM : vx_Met l y ws rm Pc Qc XC mc ms free) (hblind : FrameBlind Pc) (hrc : rm.cells = mc) (hrs : rm.slots = ms)
    (hframes : rm.frames + 1 ≤ R.frames) (hlocals : W9 + (maxL + 11) + rm.locals ≤ R.locals)
    (hws : ∀ w ∈ ws, ∀ a' U, s.WarmedH U.vm → w.before a' U = true) (hcode : Cond.codeWith y bytes maxL ret hh ∈ ws) (hinit : ∀ a' U, s.WarmedH U.vm → (Cond.initialized y.cls).before a' U = true) :
    vx_Back l R p e below s sargs y len W9 (PreOf R mc ms Pc) (PostOf Qc mc ms free) (vx_Post XC mc ms free) := by
  intro m meth c A g ig mk a X hg hsize hdg hW hn hp
  have h1 : (headSpec ws rm).pre.before a A.U = true := atoms_intro fun w hw => hws w hw _ _ X.warmed
  have h2 : (Cond.codeWith y bytes maxL ret hh).before a A.U = true := hws _ hcode _ _ X.warmed
  have h3 : (Cond.initialized y.cls).before a A.U = true := hinit _ _ X.warmed
  have h4 : A.cells + (headSpec ws rm).room.cells ≤ R.cells := by rw [show (headSpec ws rm).room.cells = mc from hrc]; exact hp.1
  have h5 : A.slots + (headSpec ws rm).room.slots ≤ R.slots := by rw [show (headSpec ws rm).room.slots = ms from hrs]; exact hp.2.1
  have hPc : Pc a (A.U.calling g mk a) := hblind _ _ _ _ hp.2.2
  obtain ⟨U, Ls, c0, s0⟩ := A
  dsimp only [Pt.U, Pt.locs, Pt.cells, Pt.slots] at h1 h2 h3 h4 h5 X hn hPc ⊢
  obtain ⟨m9, methY, cY, hn9, hmY, hcY, -, hlY, -⟩ := Cond.codeWith_spec h2
  cases Option.some.inj (hn9.symm.trans hn)
  obtain ⟨kY, hkY, -⟩ := className_of_methodNamed hn
  have hinitY : kY.init = .initialized := Cond.initialized_spec (findClass_of_methodNamed hn) hkY h3
  have h : At U g.method c below := by rw [hg]; exact X.here
  have hlocals9 : W9 + (maxL + 11) + (headSpec ws rm).room.locals ≤ R.locals := hlocals
  have happ : (headSpec ws rm).appliesLoose y e.platform (U.calling g mk a) = true :=
    Spec.appliesLoose_calling (g := g) h hdg hn hkY hinitY
      (X.room_calling (g := g) (R' := (headSpec ws rm).room) hsize hmY hcY hframes (by rw [hlY]; omega) h4 h5) h1
  obtain ⟨mid, hmid⟩ := h.above
  have hfr : (U.setTop g).frames = (.java g :: mid) ++ below := by rw [State.frames_setTop' g h.top, hmid]; rfl
  obtain ⟨o, s₂, hsteps, -, hend, hq⟩ := Steps.callFree hM p X.admits X.cas X.clock (acts := []) hfr happ hPc trivial
  have hq' : vx_Q Qc XC mc ms free a (U.calling g mk a) o s₂ := hq
  rw [State.frames_setTop' g h.top] at hend
  obtain ⟨g₀, hg0⟩ := Option.isSome_iff_exists.mp h.top
  obtain ⟨r, hr⟩ := State.topJava?_eq_some.mp hg0
  have hr' : (({ U with heap := s₂.heap, slotsUsed := s₂.slotsUsed } : State).setVm s₂.vm).frames = .java g₀ :: r := hr
  rcases hq' with ⟨hqc, L, hfe, hL⟩ | ⟨q, rfl, E, ce, L, hx, hce, hcv, hcl, hW₂, hsm, hL⟩
  · obtain ⟨⟨v, rfl⟩, hW₂, e2, q2, q3, q4, q5, q6⟩ := id hfe
    have e3 : s₂ = ({ (U.calling g mk a).setFrames s₂.frames with heap := s₂.heap, slotsUsed := s₂.slotsUsed } : State).setVm s₂.vm := by
      have : s₂ = ({ s₂ with vm := (U.calling g mk a).vm } : State).setVm s₂.vm := rfl
      rw [e2] at this
      exact this
    obtain ⟨c₂, i₂, len₂, hc₂, hd₂, hf₂⟩ := hend
    have hW' : U.WarmedH s₂.vm := hW₂
    have hcc : c₂ = c := by
      have h1 : s₂.code? g.method = U.code? g.method := by
        rw [State.code?_eq, State.code?_eq, hW'.alike.method?]
      exact Option.some.inj (hc₂.symm.trans (h1.trans h.code))
    subst hcc
    have hlen : len₂ = len := by rw [hdg] at hd₂; cases hd₂; rfl
    subst hlen
    have hs₂ : s₂ = (({ U with heap := s₂.heap, slotsUsed := s₂.slotsUsed } : State).setVm s₂.vm).setTop { g with pc := g.pc + len₂, stack := v.toList ++ g.stack } := by
      refine e3.trans ?_
      rw [hf₂, State.calling_eq h.top, State.setFrames_setFrames, State.setTop_of_frames _ hr', hr]
      rfl
    have hsame : U.sameButNew ({ U with heap := s₂.heap, slotsUsed := s₂.slotsUsed } : State) L mc ms := by
      refine ⟨?_, q2, q3, q4, q5, q6⟩
      obtain ⟨t, ht, -⟩ := State.frames_cons hr
      show ({ U with heap := s₂.heap, slotsUsed := s₂.slotsUsed } : State) = { U.setFrames U.frames with heap := s₂.heap, slotsUsed := s₂.slotsUsed }
      rw [State.setFrames_self ht]
    subst hg
    refine Or.inl ⟨v, ⟨(({ U with heap := s₂.heap, slotsUsed := s₂.slotsUsed } : State).setVm s₂.vm), Ls ++ L, c0 + mc, s0 + ms⟩,
      ⟨X.admits, X.cas, X.clock, X.frames, X.room, X.hears, X.method, X.code, (X.here.setHeapUsed s₂.heap s₂.slotsUsed).setVm hW'.alike, X.tail, State.WarmedH.trans X.warmed hW', X.limits, X.bytes, X.same.trans (hsame.setVm s.vm)⟩,
      ⟨g, mk, s₂, L, rfl, rfl, hqc, rfl, hL, rfl, rfl⟩, ?_⟩
    show Steps p.tables e below _ ((({ U with heap := s₂.heap, slotsUsed := s₂.slotsUsed } : State).setVm s₂.vm).setTop { g with pc := g.pc + len₂, stack := v.toList ++ g.stack })
    rw [← hs₂]
    exact hsteps
  · obtain ⟨e2, q2, q3, q4, q5, q6⟩ := id hsm
    have e3 : s₂ = ({ (U.calling g mk a).setFrames s₂.frames with heap := s₂.heap, slotsUsed := s₂.slotsUsed } : State).setVm s₂.vm := by
      have : s₂ = ({ s₂ with vm := (U.calling g mk a).vm } : State).setVm s₂.vm := rfl
      rw [e2] at this
      exact this
    have hf₂ : s₂.frames = .throwing q :: .java g :: U.frames.tail := hend
    have hW' : U.WarmedH s₂.vm := hW₂
    have hs₂ : s₂ = ((({ U with heap := s₂.heap, slotsUsed := s₂.slotsUsed } : State).setVm s₂.vm).setTop g).pushFrame (.throwing q) := by
      refine e3.trans ?_
      rw [hf₂, State.calling_eq h.top, State.setFrames_setFrames, State.pushFrame, State.frames_setTop _ hr', State.setTop_of_frames _ hr', State.setFrames_setFrames, hr]
      rfl
    have hsame : U.sameButNew ({ U with heap := s₂.heap, slotsUsed := s₂.slotsUsed } : State) L mc ms := by
      refine ⟨?_, q2, q3, q4, q5, q6⟩
      obtain ⟨t, ht, -⟩ := State.frames_cons hr
      show ({ U with heap := s₂.heap, slotsUsed := s₂.slotsUsed } : State) = { U.setFrames U.frames with heap := s₂.heap, slotsUsed := s₂.slotsUsed }
      rw [State.setFrames_self ht]
    subst hg
    refine Or.inr ⟨q, ⟨(({ U with heap := s₂.heap, slotsUsed := s₂.slotsUsed } : State).setVm s₂.vm), Ls ++ L, c0 + mc, s0 + ms⟩,
      ⟨X.admits, X.cas, X.clock, X.frames, X.room, X.hears, X.method, X.code, (X.here.setHeapUsed s₂.heap s₂.slotsUsed).setVm hW'.alike, X.tail, State.WarmedH.trans X.warmed hW', X.limits, X.bytes, X.same.trans (hsame.setVm s.vm)⟩,
      ⟨g, mk, s₂, L, E, ce, rfl, rfl, hx, hce, hcv, hcl, rfl, hL, rfl, rfl⟩, ?_⟩
    show Steps p.tables e below _ (((({ U with heap := s₂.heap, slotsUsed := s₂.slotsUsed } : State).setVm s₂.vm).setTop g).pushFrame (.throwing q))
    rw [← hs₂]
    exact hsteps
end
variable {p : Program} {l : Launch} {e : Env} {R : Room} {s : State} {m : MethodId} {args : Array Value} {below : List Frame} {meth : Method} {c : Code} {T : State} {H : Heap} {locs : List Loc} {cells slots : Nat}
theorem vx_callVX (X : Stand p l e R s m args below meth c T locs cells slots) (hexec : p.tables.exec = Jvm.exec) {own C : String} {index : Nat} {y : MethodName} {bytes : ByteArray} {maxL : Nat} {ret : Option FieldType} {hh : List (Nat × Nat × Nat × Nat)}
    (hown : s.vm.findClass own = some m.cls) (hlink : (Cond.methodLink own index y).before args s = true) (hinst : (Cond.instanceMethod y).before args s = true) (hsel : (Cond.selects C y y).before args s = true)
    (hcode : (Cond.codeWith y bytes maxL ret hh).before args s = true) (hy : y.cls ≠ "java/lang/invoke/MethodHandle" ∧ y.cls ≠ "java/lang/invoke/VarHandle")
    {W9 : Nat} {Pre : Pt → Array Value → Prop} {Post : Pt → Array Value → Option Value → Pt → Prop} {PostX : Pt → Array Value → Addr → Pt → Prop} (hK : vx_Back l R p e below s args y 3 W9 Pre Post PostX)
    {b : Addr} {cellB : Cell} (hcell : T.heap[b]? = some cellB) (hobj : cellB.vm.isStatics = false) (hcls : s.vm.findClass C = some cellB.cls)
    {g : JFrame} (hg : g.method = m) (hsize : g.locals.size = c.maxLocals) {argsL rest : List Value} (hlen : ∀ sig, parseMethodDescriptor y.desc = some sig → argsL.length = sig.parameters.length)
    (hstack : g.stack = argsL.reverse ++ .ref b :: rest) (hW : 2 * g.monitorRoom + (rest.map fun v => v.category).sum ≤ W9) (hdg : decode c.code g.pc = .ok (.invokevirtual index, 3))
    (hpre : ∀ vm₁, s.WarmedH vm₁ → Pre ⟨T.setVm vm₁, locs, cells, slots⟩ (Value.ref b :: argsL).toArray) :
    (∃ (v : Option Value) (vm₁ : Vm) (B : Pt), s.WarmedH vm₁ ∧ Stand p l e R s m args below meth c B.U B.locs B.cells B.slots ∧ Post ⟨T.setVm vm₁, locs, cells, slots⟩ (Value.ref b :: argsL).toArray v B ∧
      ∀ target, Steps p.tables e below (B.U.setTop { g with pc := g.pc + 3, stack := v.toList ++ rest }) target → Steps p.tables e below (T.setTop g) target) ∨
    (∃ (q : Addr) (vm₁ : Vm) (B : Pt), s.WarmedH vm₁ ∧ Stand p l e R s m args below meth c B.U B.locs B.cells B.slots ∧ PostX ⟨T.setVm vm₁, locs, cells, slots⟩ (Value.ref b :: argsL).toArray q B ∧
      Steps p.tables e below (T.setTop g) ((B.U.setTop { g with stack := rest }).pushFrame (.throwing q))) := by
  obtain ⟨mk, methM, hnamed, hmethM, hstM, habM⟩ := Cond.instanceMethod_spec hinst
  obtain ⟨m8, methM', cM, hn8, hmethM', -, -, -, -, -, -, hsigM⟩ := Cond.codeWith_spec hcode
  cases Option.some.inj (hn8.symm.trans hnamed)
  cases hmethM.symm.trans hmethM'
  obtain ⟨c2, r2, m2, q1, q2, q3, q4, kP, hkP, hkPi⟩ := Cond.selects_spec hsel
  cases hcls.symm.trans q1
  cases (State.methodFound?_of_named hnamed hy).symm.trans q2
  cases hnamed.symm.trans q3
  have hselP : selectMethod e.platform s.vm cellB.cls mk = .method mk := by rw [Launch.admits_selectMethod X.admits]; exact q4
  obtain ⟨vm₁, X₁, hstep₁⟩ := X.invokevirtual hexec hown hlink hnamed hmethM hstM hkP hkPi hy (a := b) (cell := cellB) hcell
    (fun z h => by rw [h] at hobj; cases hobj) hselP hmethM habM hkP hkPi (g := g) hg (argsL := argsL) (rest := rest) (hlen _ hsigM) hstack hdg
  rcases hK m meth c ⟨T.setVm vm₁, locs, cells, slots⟩ { g with stack := rest } (.invokevirtual index) mk (Value.ref b :: argsL).toArray X₁ hg hsize hdg hW (X₁.named hnamed) (hpre vm₁ X₁.warmed) with ⟨v, B, X', hpost, hsteps⟩ | ⟨q, B, X', hpost, hsteps⟩
  · exact Or.inl ⟨v, vm₁, B, X₁.warmed, X', hpost, fun target h => hstep₁ _ fun acts => by rw [doInvoke_state]; exact hsteps.trans h⟩
  · exact Or.inr ⟨q, vm₁, B, X₁.warmed, X', hpost, hstep₁ _ fun acts => by rw [doInvoke_state]; exact hsteps⟩
theorem vx_callSX (X : Stand p l e R s m args below meth c T locs cells slots) (hexec : p.tables.exec = Jvm.exec) {own : String} {index : Nat} {y : MethodName} {bytes : ByteArray} {maxL : Nat} {ret : Option FieldType} {hh : List (Nat × Nat × Nat × Nat)}
    (hown : s.vm.findClass own = some m.cls) (hlink : (Cond.methodLink own index y).before args s = true) (hstat : (Cond.static y).before args s = true) (hinit : (Cond.initialized y.cls).before args s = true)
    (hcode : (Cond.codeWith y bytes maxL ret hh).before args s = true) (hy : y.cls ≠ "java/lang/invoke/MethodHandle" ∧ y.cls ≠ "java/lang/invoke/VarHandle")
    {W9 : Nat} {Pre : Pt → Array Value → Prop} {Post : Pt → Array Value → Option Value → Pt → Prop} {PostX : Pt → Array Value → Addr → Pt → Prop} (hK : vx_Back l R p e below s args y 3 W9 Pre Post PostX)
    {g : JFrame} (hg : g.method = m) (hsize : g.locals.size = c.maxLocals) {argsL rest : List Value} (hlen : ∀ sig, parseMethodDescriptor y.desc = some sig → argsL.length = sig.parameters.length)
    (hstack : g.stack = argsL.reverse ++ rest) (hW : 2 * g.monitorRoom + (rest.map fun v => v.category).sum ≤ W9) (hdg : decode c.code g.pc = .ok (.invokestatic index, 3))
    (hpre : ∀ vm₁, s.WarmedH vm₁ → Pre ⟨T.setVm vm₁, locs, cells, slots⟩ argsL.toArray) :
    (∃ (v : Option Value) (vm₁ : Vm) (B : Pt), s.WarmedH vm₁ ∧ Stand p l e R s m args below meth c B.U B.locs B.cells B.slots ∧ Post ⟨T.setVm vm₁, locs, cells, slots⟩ argsL.toArray v B ∧
      ∀ target, Steps p.tables e below (B.U.setTop { g with pc := g.pc + 3, stack := v.toList ++ rest }) target → Steps p.tables e below (T.setTop g) target) ∨
    (∃ (q : Addr) (vm₁ : Vm) (B : Pt), s.WarmedH vm₁ ∧ Stand p l e R s m args below meth c B.U B.locs B.cells B.slots ∧ PostX ⟨T.setVm vm₁, locs, cells, slots⟩ argsL.toArray q B ∧
      Steps p.tables e below (T.setTop g) ((B.U.setTop { g with stack := rest }).pushFrame (.throwing q))) := by
  obtain ⟨mk, methM, cM, hnamed, hmethM, -, -, -, -, -, -, hsigM⟩ := Cond.codeWith_spec hcode
  have hstatic : methM.isStatic = true := Cond.static_spec hnamed hmethM hstat
  obtain ⟨kP, hkP, -⟩ := className_of_methodNamed hnamed
  have hinitP : kP.init = .initialized := Cond.initialized_spec (findClass_of_methodNamed hnamed) hkP hinit
  obtain ⟨vm₁, X₁, hstep₁⟩ := X.invokestatic hexec hown hlink hnamed hmethM hstatic hkP hinitP hy (g := g) hg (argsL := argsL) (rest := rest) (hlen _ hsigM) hstack hdg
  rcases hK m meth c ⟨T.setVm vm₁, locs, cells, slots⟩ { g with stack := rest } (.invokestatic index) mk argsL.toArray X₁ hg hsize hdg hW (X₁.named hnamed) (hpre vm₁ X₁.warmed) with ⟨v, B, X', hpost, hsteps⟩ | ⟨q, B, X', hpost, hsteps⟩
  · exact Or.inl ⟨v, vm₁, B, X₁.warmed, X', hpost, fun target h => hstep₁ _ fun acts => by rw [doInvoke_state]; exact hsteps.trans h⟩
  · exact Or.inr ⟨q, vm₁, B, X₁.warmed, X', hpost, hstep₁ _ fun acts => by rw [doInvoke_state]; exact hsteps⟩
theorem vx_callVW (X : Stand p l e R s m args below meth c T locs cells slots) (hexec : p.tables.exec = Jvm.exec) {own C : String} {index : Nat} {y : MethodName} {bytes : ByteArray} {maxL : Nat} {ret : Option FieldType} {hh : List (Nat × Nat × Nat × Nat)}
    (hown : s.vm.findClass own = some m.cls) (hlink : (Cond.methodLink own index y).before args s = true) (hinst : (Cond.instanceMethod y).before args s = true) (hsel : (Cond.selects C y y).before args s = true)
    (hcode : (Cond.codeWith y bytes maxL ret hh).before args s = true) (hy : y.cls ≠ "java/lang/invoke/MethodHandle" ∧ y.cls ≠ "java/lang/invoke/VarHandle")
    {W9 : Nat} {Pre : Pt → Array Value → Prop} {Post : Pt → Array Value → Option Value → Pt → Prop} (hK : Back l R p e below s args y 3 W9 Pre Post)
    {b : Addr} {cellB : Cell} (hcell : T.heap[b]? = some cellB) (hobj : cellB.vm.isStatics = false) (hcls : s.vm.findClass C = some cellB.cls)
    {g : JFrame} (hg : g.method = m) (hsize : g.locals.size = c.maxLocals) {argsL rest : List Value} (hlen : ∀ sig, parseMethodDescriptor y.desc = some sig → argsL.length = sig.parameters.length)
    (hstack : g.stack = argsL.reverse ++ .ref b :: rest) (hW : 2 * g.monitorRoom + (rest.map fun v => v.category).sum ≤ W9) (hdg : decode c.code g.pc = .ok (.invokevirtual index, 3))
    (hpre : ∀ vm₁, s.WarmedH vm₁ → Pre ⟨T.setVm vm₁, locs, cells, slots⟩ (Value.ref b :: argsL).toArray) :
    ∃ (v : Option Value) (vm₁ : Vm) (B : Pt), s.WarmedH vm₁ ∧ Stand p l e R s m args below meth c B.U B.locs B.cells B.slots ∧ Post ⟨T.setVm vm₁, locs, cells, slots⟩ (Value.ref b :: argsL).toArray v B ∧
      ∀ target, Steps p.tables e below (B.U.setTop { g with pc := g.pc + 3, stack := v.toList ++ rest }) target → Steps p.tables e below (T.setTop g) target := by
  obtain ⟨mk, methM, hnamed, hmethM, hstM, habM⟩ := Cond.instanceMethod_spec hinst
  obtain ⟨m8, methM', cM, hn8, hmethM', -, -, -, -, -, -, hsigM⟩ := Cond.codeWith_spec hcode
  cases Option.some.inj (hn8.symm.trans hnamed)
  cases hmethM.symm.trans hmethM'
  obtain ⟨c2, r2, m2, q1, q2, q3, q4, kP, hkP, hkPi⟩ := Cond.selects_spec hsel
  cases hcls.symm.trans q1
  cases (State.methodFound?_of_named hnamed hy).symm.trans q2
  cases hnamed.symm.trans q3
  have hselP : selectMethod e.platform s.vm cellB.cls mk = .method mk := by rw [Launch.admits_selectMethod X.admits]; exact q4
  obtain ⟨vm₁, X₁, hstep₁⟩ := X.invokevirtual hexec hown hlink hnamed hmethM hstM hkP hkPi hy (a := b) (cell := cellB) hcell
    (fun z h => by rw [h] at hobj; cases hobj) hselP hmethM habM hkP hkPi (g := g) hg (argsL := argsL) (rest := rest) (hlen _ hsigM) hstack hdg
  obtain ⟨v, B, X', hpost, hsteps⟩ := hK m meth c ⟨T.setVm vm₁, locs, cells, slots⟩ { g with stack := rest } (.invokevirtual index) mk (Value.ref b :: argsL).toArray X₁ hg hsize hdg hW (X₁.named hnamed) (hpre vm₁ X₁.warmed)
  exact ⟨v, vm₁, B, X₁.warmed, X', hpost, fun target h => hstep₁ _ fun acts => by rw [doInvoke_state]; exact hsteps.trans h⟩
abbrev vx_CVW (R : Room) (s : State) (args : Array Value) (own C : String) (index : Nat) (y : MethodName) (bytes : ByteArray) (maxL : Nat) (ret : Option FieldType) (hh : List (Nat × Nat × Nat × Nat)) (ws : List Cond) (rm : Room) (mc ms n : Nat) : Prop :=
  (rm.cells = mc ∧ rm.slots = ms ∧ rm.frames + 1 ≤ R.frames ∧ 8 + (maxL + 11) + rm.locals ≤ R.locals ∧ (∀ w ∈ ws, ∀ (a' : Array Value) (U : State), s.WarmedH U.vm → w.before a' U = true) ∧ Cond.codeWith y bytes maxL ret hh ∈ ws) ∧
  (Cond.codeWith y bytes maxL ret hh).before args s = true ∧ (Cond.initialized y.cls).before args s = true ∧ (y.cls ≠ "java/lang/invoke/MethodHandle" ∧ y.cls ≠ "java/lang/invoke/VarHandle") ∧
  (∀ sig, parseMethodDescriptor y.desc = some sig → n = sig.parameters.length) ∧ (Cond.methodLink own index y).before args s = true ∧ (Cond.instanceMethod y).before args s = true ∧ (Cond.selects C y y).before args s = true
theorem vx_cwVW {own C : String} {index maxL mc ms : Nat} {y : MethodName} {bytes : ByteArray} {ret : Option FieldType} {hh : List (Nat × Nat × Nat × Nat)} {Ts ws ws' : List Cond} {rm : Room} (n : Nat) (ht : ∀ w ∈ Ts, w.before args s = true) (hT : GoodIn Ts (wsV own index C y ws)) (hw : ws = Cond.codeWith y bytes maxL ret hh :: ws') (hrc : rm.cells = mc) (hrs : rm.slots = ms)
    (hd : y.cls = C ∧ y.cls ≠ "java/lang/invoke/MethodHandle" ∧ y.cls ≠ "java/lang/invoke/VarHandle" ∧ (parseMethodDescriptor y.desc).map (fun d => d.parameters.length) = some n) (hR : rm.frames + 1 ≤ R.frames ∧ 8 + (maxL + 11) + rm.locals ≤ R.locals) :
    vx_CVW R s args own C index y bytes maxL ret hh ws rm mc ms n := by
  obtain ⟨hC, hd⟩ := hd
  subst hC
  have ok : ∀ w ∈ wsV own index y.cls y ws, w.before args s = true := fun w h => ht w (hT w h).1
  have hG : GoodIn Ts ws := fun w h => hT w (by unfold wsV; exact List.mem_append_right _ h)
  have hc : Cond.codeWith y bytes maxL ret hh ∈ ws := by rw [hw]; exact List.mem_cons_self
  refine ⟨⟨hrc, hrs, hR.1, hR.2, pay_in ht hG, hc⟩, ht _ (hG _ hc).1, ok _ (by simp [wsV]), ⟨hd.1, hd.2.1⟩, fun sig h => ?_, ok _ (by simp [wsV]), ok _ (by simp [wsV]), ok _ (by simp [wsV])⟩
  have h2 := hd.2.2
  rw [h] at h2
  exact (Option.some.inj h2).symm
theorem vx_runVW {y : MethodName} {bytes cc : ByteArray} {maxL nL mc ms n index : Nat} {ret : Option FieldType} {hh : List (Nat × Nat × Nat × Nat)} {ws : List Cond} {rm : Room} {Pc : Array Value → State → Prop} {Qc : Array Value → State → Outcome → State → Prop} {free : Addr → Prop} {Ts : List Cond} {own C : String} {b : Addr} {As rest : List Value} {g : JFrame}
    (S : CallFix p m c cc nL s args Ts own) (hM : Met l y ws rm Pc Qc mc ms free) (cw : vx_CVW R s args own C index y bytes maxL ret hh ws rm mc ms n) (hp : PreV s H C b Pc As)
    (hg : g.method = m) (hn : As.length = n) (hsize : g.locals.size = nL) (hstack : g.stack = As.reverse ++ .ref b :: rest) (hW : 2 * g.monitorRoom + (rest.map fun v => v.category).sum ≤ 8) (hdg : decode cc g.pc = .ok (.invokevirtual index, 3)) (hf : cells + mc ≤ R.cells ∧ slots + ms ≤ R.slots) :
    va_Run p l e R s m args below meth c H locs cells slots mc ms g rest (Qc (Value.ref b :: As).toArray) free := by
  obtain ⟨⟨hrc, hrs, hfr, hlo, hws, hcw⟩, hcode, hini, hy, hlen, hl, hin, hse⟩ := cw
  have hK : Back l R p e below s args y 3 8 (PreOf R mc ms Pc) (PostOf Qc mc ms free) := va_backW (hh := hh) (bytes := bytes) (maxL := maxL) (ret := ret) hM hp.1 hrc hrs hfr hlo hws hcw (fun a' U hW => word_at hW (Or.inl (by first | rfl | simp [Cond.onTables, Cond.keeps, Cond.steady])) hini)
  obtain ⟨hx, hb, hml, ho, -⟩ := S
  obtain ⟨-, ⟨cellB, hcB, hoB, hclB⟩, hPc⟩ := hp
  intro T hT X
  obtain ⟨v, vm₁, ⟨U', l2, c2, s2⟩, hW₁, X', ⟨g', mk, t, L, e1, e2, hq, h1, hL, h2, h3⟩, st⟩ := vx_callVW X hx (C := C) (hh := hh) (bytes := bytes) (maxL := maxL) (ret := ret) ho hl hin hse hcode hy hK (by rw [hT]; exact hcB) hoB hclB hg (hsize.trans hml.symm) (argsL := As) (rest := rest) (fun sig h => hn.trans (hlen sig h)) hstack hW (by rw [hb]; exact hdg)
    (fun vm₁ hW₁ => ⟨hf.1, hf.2, hPc (T.setVm vm₁) hT hW₁⟩)
  dsimp only [Pt.U, Pt.locs, Pt.cells, Pt.slots] at X' e1 e2 h1 h2 h3 st
  subst h1; subst h2; subst h3
  exact ⟨v, (T.setVm vm₁).calling g' mk (Value.ref b :: As).toArray, t, U', L, hT, X', hL, e1, e2, hq, st⟩
section
variable {y : MethodName} {bytes cc : ByteArray} {maxL nL mc ms n index : Nat} {ret : Option FieldType} {ws : List Cond} {rm : Room} {Pc : Array Value → State → Prop} {Qc : Array Value → State → Outcome → State → Prop} {XC : String → State → State → Prop} {free : Addr → Prop} {Ts : List Cond} {own C : String} {b : Addr} {As rest : List Value} {g : JFrame}
theorem vx_runVX {hh : List (Nat × Nat × Nat × Nat)} (S : CallFix p m c cc nL s args Ts own) (hM : vx_Met l y ws rm Pc Qc XC mc ms free) (cw : vx_CVW R s args own C index y bytes maxL ret hh ws rm mc ms n) (hp : PreV s H C b Pc As)
    (hg : g.method = m) (hn : As.length = n) (hsize : g.locals.size = nL) (hstack : g.stack = As.reverse ++ .ref b :: rest) (hW : 2 * g.monitorRoom + (rest.map fun v => v.category).sum ≤ 8) (hdg : decode cc g.pc = .ok (.invokevirtual index, 3)) (hf : cells + mc ≤ R.cells ∧ slots + ms ≤ R.slots) :
    vx_Run p l e R s m args below meth c H locs cells slots mc ms g rest (Qc (Value.ref b :: As).toArray) XC free := by
  obtain ⟨⟨hrc, hrs, hfr, hlo, hws, hcw⟩, hcode, hini, hy, hlen, hl, hin, hse⟩ := cw
  have hK : vx_Back l R p e below s args y 3 8 (PreOf R mc ms Pc) (PostOf Qc mc ms free) (vx_Post XC mc ms free) := vx_backW (hh := hh) (bytes := bytes) (maxL := maxL) (ret := ret) hM hp.1 hrc hrs hfr hlo hws hcw (fun a' U hW => word_at hW (Or.inl (by first | rfl | simp [Cond.onTables, Cond.keeps, Cond.steady])) hini)
  obtain ⟨hx, hb, hml, ho, -⟩ := S
  obtain ⟨-, ⟨cellB, hcB, hoB, hclB⟩, hPc⟩ := hp
  intro T hT X
  rcases vx_callVX X hx (C := C) (hh := hh) (bytes := bytes) (maxL := maxL) (ret := ret) ho hl hin hse hcode hy hK (by rw [hT]; exact hcB) hoB hclB hg (hsize.trans hml.symm) (argsL := As) (rest := rest) (fun sig h => hn.trans (hlen sig h)) hstack hW (by rw [hb]; exact hdg)
    (fun vm₁ hW₁ => ⟨hf.1, hf.2, hPc (T.setVm vm₁) hT hW₁⟩) with ⟨v, vm₁, ⟨U', l2, c2, s2⟩, hW₁, X', ⟨g', mk, t, L, e1, e2, hq, h1, hL, h2, h3⟩, st⟩ | ⟨q, vm₁, ⟨U', l2, c2, s2⟩, hW₁, X', ⟨g', mk, t, L, E, ce, e1, e2, hq, hce, hcv, hcl, h1, hL, h2, h3⟩, st⟩
  · dsimp only [Pt.U, Pt.locs, Pt.cells, Pt.slots] at X' e1 e2 h1 h2 h3 st
    subst h1; subst h2; subst h3
    exact Or.inl ⟨v, (T.setVm vm₁).calling g' mk (Value.ref b :: As).toArray, t, U', L, hT, X', hL, e1, e2, hq, st⟩
  · dsimp only [Pt.U, Pt.locs, Pt.cells, Pt.slots] at X' e1 e2 h1 h2 h3 st hcl
    subst h1; subst h2; subst h3
    exact Or.inr ⟨q, (T.setVm vm₁).calling g' mk (Value.ref b :: As).toArray, t, U', L, E, ce, hT, X', hL, e1, e2, hq, hce, hcv, vx_cls hW₁ hcl, st⟩
theorem vx_runSX {hh : List (Nat × Nat × Nat × Nat)} (S : CallFix p m c cc nL s args Ts own) (hM : vx_Met l y ws rm Pc Qc XC mc ms free) (cw : vx_CSW R s args own index y bytes maxL ret hh ws rm mc ms n) (hp : PreS s H Pc As)
    (hg : g.method = m) (hn : As.length = n) (hsize : g.locals.size = nL) (hstack : g.stack = As.reverse ++ rest) (hW : 2 * g.monitorRoom + (rest.map fun v => v.category).sum ≤ 8) (hdg : decode cc g.pc = .ok (.invokestatic index, 3)) (hf : cells + mc ≤ R.cells ∧ slots + ms ≤ R.slots) :
    vx_Run p l e R s m args below meth c H locs cells slots mc ms g rest (Qc As.toArray) XC free := by
  obtain ⟨⟨hrc, hrs, hfr, hlo, hws, hcw⟩, hcode, hini, hy, hlen, hl, hstt⟩ := cw
  have hK : vx_Back l R p e below s args y 3 8 (PreOf R mc ms Pc) (PostOf Qc mc ms free) (vx_Post XC mc ms free) := vx_backW (hh := hh) (bytes := bytes) (maxL := maxL) (ret := ret) hM hp.1 hrc hrs hfr hlo hws hcw (fun a' U hW => word_at hW (Or.inl (by first | rfl | simp [Cond.onTables, Cond.keeps, Cond.steady])) hini)
  obtain ⟨hx, hb, hml, ho, -⟩ := S
  intro T hT X
  rcases vx_callSX X hx (hh := hh) (bytes := bytes) (maxL := maxL) (ret := ret) ho hl hstt hini hcode hy hK hg (hsize.trans hml.symm) (argsL := As) (rest := rest) (fun sig h => hn.trans (hlen sig h)) hstack hW (by rw [hb]; exact hdg)
    (fun vm₁ hW₁ => ⟨hf.1, hf.2, hp.2 (T.setVm vm₁) hT hW₁⟩) with ⟨v, vm₁, ⟨U', l2, c2, s2⟩, hW₁, X', ⟨g', mk, t, L, e1, e2, hq, h1, hL, h2, h3⟩, st⟩ | ⟨q, vm₁, ⟨U', l2, c2, s2⟩, hW₁, X', ⟨g', mk, t, L, E, ce, e1, e2, hq, hce, hcv, hcl, h1, hL, h2, h3⟩, st⟩
  · dsimp only [Pt.U, Pt.locs, Pt.cells, Pt.slots] at X' e1 e2 h1 h2 h3 st
    subst h1; subst h2; subst h3
    exact Or.inl ⟨v, (T.setVm vm₁).calling g' mk As.toArray, t, U', L, hT, X', hL, e1, e2, hq, st⟩
  · dsimp only [Pt.U, Pt.locs, Pt.cells, Pt.slots] at X' e1 e2 h1 h2 h3 st hcl
    subst h1; subst h2; subst h3
    exact Or.inr ⟨q, (T.setVm vm₁).calling g' mk As.toArray, t, U', L, E, ce, hT, X', hL, e1, e2, hq, hce, hcv, vx_cls hW₁ hcl, st⟩
end
end VXH
theorem vx_ofWH {l : Launch} {y : MethodName} {ws ws' : List Cond} {rm : Room} {Pc : Array Value → State → Prop} {Qc : Array Value → State → Outcome → State → Prop} {XC : String → State → State → Prop} {mc ms : Nat} {free : Addr → Prop} {cc : ByteArray} {maxL : Nat} {ret : Option FieldType} {hh : List (Nat × Nat × Nat × Nat)}
    (hy : plainName y.cls = true) (hw : ws = Cond.codeWith y cc maxL ret hh :: ws')
    (body : ∀ p e s m args below meth c s₁, BodyLoose p l y (headSpec ws rm) cc maxL ret e s m args below meth c s₁ → c.maxLocals = maxL → Pc args s →
      W p l e (headSpec ws rm).room s m args below meth c s.heap [] 0 0 (vx_MQ below Qc XC args s mc ms free) (entryFrame m args maxL)) : vx_Met l y ws rm Pc Qc XC mc ms free := by
  refine MetFree.of_bodyS (code := cc) (maxLocals := maxL) (ret := ret) hy ?_ ?_
  · intro args s m h hn
    obtain ⟨m9, meth, c, hn9, h1, h2, h3, h4, -, h5, h6, -⟩ := Cond.codeWith_spec (atoms_spec (ws := ws) h _ (by rw [hw]; exact List.mem_cons_self))
    cases hn.symm.trans hn9
    exact ⟨meth, c, h1, h2, h3, h4, h5, h6⟩
  · intro p e s m args below meth c s₁ B hml hP _
    have hh0 : s₁.heap = s.heap := by rw [B.state]; rfl
    obtain ⟨t, a1, o, b1, b2, b3⟩ := body p e s m args below meth c s₁ B hml hP s₁ hh0 (Stand.of_body B)
    exact ⟨t, o, a1, b1, b2, b3⟩
end
section
/-! ===== the memory as the proofs see it: tags, int fields, reference fields, lengths, int arrays, long arrays, reference arrays ===== -/
abbrev mm : Type := (Nat → Nat) × (Nat → Nat → Nat → Int32) × (Nat → Nat → Nat → Nat) × (Nat → Nat) × (Nat → Nat → Int32) × (Nat → Nat → Int64) × (Nat → Nat → Nat)
/-- what lies there: 0 nothing known, c + 1 an object of class c, 100 an int array, 101 a long array, 102 an array of objects -/
def mm_t (M : mm) : Nat → Nat := M.1
def mm_i (M : mm) : Nat → Nat → Nat → Int32 := M.2.1
def mm_r (M : mm) : Nat → Nat → Nat → Nat := M.2.2.1
def mm_n (M : mm) : Nat → Nat := M.2.2.2.1
def mm_a (M : mm) : Nat → Nat → Int32 := M.2.2.2.2.1
def mm_l (M : mm) : Nat → Nat → Int64 := M.2.2.2.2.2.1
def mm_q (M : mm) : Nat → Nat → Nat := M.2.2.2.2.2.2
/-- an int field of class c, place k, of the object at a -/
def mm_si (M : mm) (c k a : Nat) (v : Int32) : mm := (mm_t M, fun c' k' a' => if c' = c ∧ k' = k ∧ a' = a then v else mm_i M c' k' a', mm_r M, mm_n M, mm_a M, mm_l M, mm_q M)
def mm_sr (M : mm) (c k a r : Nat) : mm := (mm_t M, mm_i M, fun c' k' a' => if c' = c ∧ k' = k ∧ a' = a then r + 1 else mm_r M c' k' a', mm_n M, mm_a M, mm_l M, mm_q M)
/-- the whole contents of an array -/
def mm_sa (M : mm) (a : Nat) (f : Nat → Int32) : mm := (mm_t M, mm_i M, mm_r M, mm_n M, fun b => if b = a then f else mm_a M b, mm_l M, mm_q M)
def mm_sl (M : mm) (a : Nat) (f : Nat → Int64) : mm := (mm_t M, mm_i M, mm_r M, mm_n M, mm_a M, fun b => if b = a then f else mm_l M b, mm_q M)
def mm_sq (M : mm) (a : Nat) (f : Nat → Nat) : mm := (mm_t M, mm_i M, mm_r M, mm_n M, mm_a M, mm_l M, fun b => if b = a then f else mm_q M b)
/-- what is made: all zero -/
def mm_nw (M : mm) (a t n : Nat) : mm := (fun b => if b = a then t else mm_t M b, fun c k b => if b = a then 0 else mm_i M c k b, fun c k b => if b = a then 0 else mm_r M c k b, fun b => if b = a then n else mm_n M b, fun b => if b = a then fun _ => 0 else mm_a M b, fun b => if b = a then fun _ => 0 else mm_l M b, fun b => if b = a then fun _ => 0 else mm_q M b)
/-- a reference: 0 is null, r + 1 the address r -/
def mm_rv (r : Nat) : Value := if r = 0 then .null else .ref (r - 1)
def mm_f (M : mm) (c k a : Nat) : Nat := mm_r M c k a - 1
def mm_e (M : mm) (a i : Nat) : Nat := mm_q M a i - 1
/-- a field's value: ik says which fields are ints -/
def mm_v (ik : Nat → Nat → Bool) (M : mm) (c k a : Nat) : Value := if ik c k = true then .int (mm_i M c k a) else mm_rv (mm_r M c k a)
/-- what does not change in a claim: slots of the classes, the classes, which fields are ints, the array classes, the words, the heap at the start -/
abbrev gg : Type := va_G × List vw_C × (Nat → Nat → Bool) × (ClassId × ClassId × ClassId) × List Cond × Heap
def gg_D (g : gg) : va_G := g.1
def gg_cl (g : gg) : List vw_C := g.2.1
def gg_ik (g : gg) : Nat → Nat → Bool := g.2.2.1
def gg_I (g : gg) : ClassId := g.2.2.2.1.1
def gg_L (g : gg) : ClassId := g.2.2.2.1.2.1
def gg_Q (g : gg) : ClassId := g.2.2.2.1.2.2
def gg_W (g : gg) : List Cond := g.2.2.2.2.1
def gg_H (g : gg) : Heap := g.2.2.2.2.2
/-- the heap holds at a what the memory says -/
def mm_at (g : gg) (M : mm) (H : Heap) (a : Nat) : Prop :=
  (mm_t M a = 100 → (gg_H g).size ≤ a ∧ H[a]? = some (arrV (gg_I g) (mm_n M a) (fun j => .int (mm_a M a j)))) ∧
  (mm_t M a = 101 → (gg_H g).size ≤ a ∧ H[a]? = some (arrV (gg_L g) (mm_n M a) (fun j => .long (mm_l M a j)))) ∧
  (mm_t M a = 102 → (gg_H g).size ≤ a ∧ H[a]? = some (arrV (gg_Q g) (mm_n M a) (fun j => mm_rv (mm_q M a j)))) ∧
  (∀ (c : Nat) (r : vw_C), mm_t M a = c + 1 → (gg_cl g)[c]? = some r → (gg_H g).size ≤ a ∧ t_OB a ((gg_D g).1 c) r.2.2 ((gg_D g).2 c) H (fun k => mm_v (gg_ik g) M c k a)) ∧
  (mm_t M a ≠ 0 → (gg_H g).size ≤ a ∧ a < H.size)
def mm_R (g : gg) (M : mm) (H : Heap) : Prop :=
  (∀ a, mm_at g M H a) ∧ (gg_cl g).length ≤ 99 ∧ 0 < (gg_H g).size ∧ (gg_H g).size ≤ H.size ∧ ∀ q : Nat, q < (gg_H g).size → H[q]? = (gg_H g)[q]?
/-- two memories that say the same of b -/
def mm_eq (M M' : mm) (b : Nat) : Prop := mm_t M' b = mm_t M b ∧ (∀ c k, mm_i M' c k b = mm_i M c k b) ∧ (∀ c k, mm_r M' c k b = mm_r M c k b) ∧ mm_n M' b = mm_n M b ∧ mm_a M' b = mm_a M b ∧ mm_l M' b = mm_l M b ∧ mm_q M' b = mm_q M b
theorem mm_at.kept {g : gg} {M M' : mm} {H H' : Heap} {b : Nat} (h : mm_at g M H b) (he : mm_eq M M' b) (hH : mm_t M b ≠ 0 → H'[b]? = H[b]?) : mm_at g M' H' b := by
  obtain ⟨e1, e2, e3, e4, e5, e6, e7⟩ := he
  obtain ⟨h1, h2, h3, h4, h5⟩ := h
  refine ⟨fun q => ?_, fun q => ?_, fun q => ?_, fun c r q hr => ?_, fun q => ?_⟩
  · rw [e1] at q
    obtain ⟨a1, a2⟩ := h1 q
    exact ⟨a1, by rw [hH (by omega), a2, e4, e5]⟩
  · rw [e1] at q
    obtain ⟨a1, a2⟩ := h2 q
    exact ⟨a1, by rw [hH (by omega), a2, e4, e6]⟩
  · rw [e1] at q
    obtain ⟨a1, a2⟩ := h3 q
    exact ⟨a1, by rw [hH (by omega), a2, e4, e7]⟩
  · rw [e1] at q
    obtain ⟨a1, a2⟩ := h4 c r q hr
    refine ⟨a1, (a2.kept (hH (by omega))).to (fun k _ => ?_)⟩
    simp only [mm_v, e2, e3]
  · rw [e1] at q
    have h6 := hH q
    have h7 := h5 q
    rw [Array.getElem?_eq_getElem h7.2] at h6
    exact ⟨h7.1, (Array.getElem?_eq_some_iff.mp h6).1⟩
/-- a write at a -/
theorem mm_R.put {g : gg} {M M' : mm} {H H' : Heap} {a : Nat} (h : mm_R g M H) (ha : (gg_H g).size ≤ a) (hz : H'.size = H.size) (ho : ∀ q : Nat, q ≠ a → H'[q]? = H[q]?) (he : ∀ b, b ≠ a → mm_eq M M' b) (hat : mm_at g M' H' a) : mm_R g M' H' := by
  obtain ⟨h1, h2, h3, h4, h5⟩ := h
  refine ⟨fun b => ?_, h2, h3, by rw [hz]; exact h4, fun q hq => by rw [ho q (by omega)]; exact h5 q hq⟩
  by_cases hb : b = a
  · rw [hb]; exact hat
  · exact (h1 b).kept (he b hb) (fun _ => ho b hb)
/-- a thing that is made, behind all others -/
theorem mm_R.push {g : gg} {M M' : mm} {H H' : Heap} {a : Nat} (h : mm_R g M H) (ha : H.size = a) (hz : H'.size = a + 1) (ho : ∀ q : Nat, q < a → H'[q]? = H[q]?) (he : ∀ b, b ≠ a → mm_eq M M' b) (hat : mm_at g M' H' a) : mm_R g M' H' := by
  obtain ⟨h1, h2, h3, h4, h5⟩ := h
  refine ⟨fun b => ?_, h2, h3, by omega, fun q hq => by rw [ho q (by omega)]; exact h5 q hq⟩
  by_cases hb : b = a
  · rw [hb]; exact hat
  · refine (h1 b).kept (he b hb) (fun hn => ho b ?_)
    have h6 := ((h1 b).2.2.2.2 hn).2
    omega
theorem mm_R.fresh {g : gg} {M : mm} {H : Heap} (h : mm_R g M H) : mm_t M H.size = 0 := by
  by_cases hn : mm_t M H.size = 0
  · exact hn
  · exact absurd ((h.1 H.size).2.2.2.2 hn).2 (Nat.lt_irrefl _)
/-- the heap has grown by things that the memory doesn't speak of -/
theorem mm_R.grow {g : gg} {M : mm} {H H' : Heap} (h : mm_R g M H) (hz : H.size ≤ H'.size) (ho : ∀ q : Nat, q < H.size → H'[q]? = H[q]?) : mm_R g M H' := by
  obtain ⟨h1, h2, h3, h4, h5⟩ := h
  refine ⟨fun b => ?_, h2, h3, by omega, fun q hq => by rw [ho q (by omega)]; exact h5 q hq⟩
  exact (h1 b).kept ⟨rfl, fun _ _ => rfl, fun _ _ => rfl, rfl, rfl, rfl, rfl⟩ (fun hn => ho b ((h1 b).2.2.2.2 hn).2)
theorem mm_eq.si {M : mm} {c k a b : Nat} {v : Int32} (h : b ≠ a) : mm_eq M (mm_si M c k a v) b :=
  ⟨rfl, fun c' k' => by show (if c' = c ∧ k' = k ∧ b = a then v else mm_i M c' k' b) = _; rw [if_neg (fun z => h z.2.2)], fun _ _ => rfl, rfl, rfl, rfl, rfl⟩
theorem mm_eq.sr {M : mm} {c k a b : Nat} {v : Nat} (h : b ≠ a) : mm_eq M (mm_sr M c k a v) b :=
  ⟨rfl, fun _ _ => rfl, fun c' k' => by show (if c' = c ∧ k' = k ∧ b = a then v + 1 else mm_r M c' k' b) = _; rw [if_neg (fun z => h z.2.2)], rfl, rfl, rfl, rfl⟩
theorem mm_eq.sa {M : mm} {a b : Nat} {f : Nat → Int32} (h : b ≠ a) : mm_eq M (mm_sa M a f) b :=
  ⟨rfl, fun _ _ => rfl, fun _ _ => rfl, rfl, by show (if b = a then f else mm_a M b) = _; rw [if_neg h], rfl, rfl⟩
theorem mm_eq.sl {M : mm} {a b : Nat} {f : Nat → Int64} (h : b ≠ a) : mm_eq M (mm_sl M a f) b :=
  ⟨rfl, fun _ _ => rfl, fun _ _ => rfl, rfl, rfl, by show (if b = a then f else mm_l M b) = _; rw [if_neg h], rfl⟩
theorem mm_eq.sq {M : mm} {a b : Nat} {f : Nat → Nat} (h : b ≠ a) : mm_eq M (mm_sq M a f) b :=
  ⟨rfl, fun _ _ => rfl, fun _ _ => rfl, rfl, rfl, rfl, by show (if b = a then f else mm_q M b) = _; rw [if_neg h]⟩
theorem mm_eq.nw {M : mm} {a b t n : Nat} (h : b ≠ a) : mm_eq M (mm_nw M a t n) b := by
  refine ⟨?_, fun c k => ?_, fun c k => ?_, ?_, ?_, ?_, ?_⟩ <;> simp [mm_nw, mm_t, mm_i, mm_r, mm_n, mm_a, mm_l, mm_q, h]
/-- the four kinds, at a place -/
theorem mm_atI {g : gg} {M : mm} {H : Heap} {a : Nat} (hl : (gg_cl g).length ≤ 99) (ht : mm_t M a = 100) (ha : (gg_H g).size ≤ a) (h : H[a]? = some (arrV (gg_I g) (mm_n M a) (fun j => .int (mm_a M a j)))) : mm_at g M H a := by
  refine ⟨fun _ => ⟨ha, h⟩, fun q => by omega, fun q => by omega, fun c r q hr => ?_, fun _ => ⟨ha, (Array.getElem?_eq_some_iff.mp h).1⟩⟩
  have h1 := (List.getElem?_eq_some_iff.mp hr).1
  omega
theorem mm_atL {g : gg} {M : mm} {H : Heap} {a : Nat} (hl : (gg_cl g).length ≤ 99) (ht : mm_t M a = 101) (ha : (gg_H g).size ≤ a) (h : H[a]? = some (arrV (gg_L g) (mm_n M a) (fun j => .long (mm_l M a j)))) : mm_at g M H a := by
  refine ⟨fun q => by omega, fun _ => ⟨ha, h⟩, fun q => by omega, fun c r q hr => ?_, fun _ => ⟨ha, (Array.getElem?_eq_some_iff.mp h).1⟩⟩
  have h1 := (List.getElem?_eq_some_iff.mp hr).1
  omega
theorem mm_atQ {g : gg} {M : mm} {H : Heap} {a : Nat} (hl : (gg_cl g).length ≤ 99) (ht : mm_t M a = 102) (ha : (gg_H g).size ≤ a) (h : H[a]? = some (arrV (gg_Q g) (mm_n M a) (fun j => mm_rv (mm_q M a j)))) : mm_at g M H a := by
  refine ⟨fun q => by omega, fun q => by omega, fun _ => ⟨ha, h⟩, fun c r q hr => ?_, fun _ => ⟨ha, (Array.getElem?_eq_some_iff.mp h).1⟩⟩
  have h1 := (List.getElem?_eq_some_iff.mp hr).1
  omega
theorem mm_atO {g : gg} {M : mm} {H : Heap} {a c : Nat} {r : vw_C} (hl : (gg_cl g).length ≤ 99) (ht : mm_t M a = c + 1) (hr : (gg_cl g)[c]? = some r) (ha : (gg_H g).size ≤ a) (h : t_OB a ((gg_D g).1 c) r.2.2 ((gg_D g).2 c) H (fun k => mm_v (gg_ik g) M c k a)) : mm_at g M H a := by
  have h1 := (List.getElem?_eq_some_iff.mp hr).1
  refine ⟨fun q => by omega, fun q => by omega, fun q => by omega, fun c' r' q hr' => ?_, fun _ => ?_⟩
  · have e1 : c' = c := by omega
    subst e1
    cases hr.symm.trans hr'
    exact ⟨ha, h⟩
  · obtain ⟨cell, q, -⟩ := h
    exact ⟨ha, (Array.getElem?_eq_some_iff.mp q).1⟩
end
section
/-! ===== the judgement: a method's body, at a place, with locals, stack and memory ===== -/
/-- words that stay: the good ones, a nest's links, arrays over a class -/
def ww_ok (w : Cond) : Bool := goodWord w || (match w with
  | .fieldLinkNest _ _ _ _ _ _ => true
  | .methodLinkNest _ _ _ _ => true
  | .arrayOver (.object _) => true
  | .castable _ _ => true
  | .declares _ => true
  | _ => false)
theorem ww_warm {w : Cond} {s U : State} (hw : ww_ok w = true) (hW : s.WarmedH U.vm) (h : ∀ a : Array Value, w.before a s = true) (a : Array Value) : w.before a U = true := by
  unfold ww_ok at hw
  rw [Bool.or_eq_true] at hw
  rcases hw with hw | hw
  · exact word_at hW (good_of_word hw) (h #[])
  · cases w with
    | fieldLinkNest c1 i1 r1 n1 d1 h1 => exact va_Nw.use rfl (va_Nw.warmF hW (va_Nw.of rfl (h #[])))
    | methodLinkNest c1 i1 x1 h1 => exact va_Nw.use rfl (va_Nw.warmM hW (va_Nw.of rfl (h #[])))
    | castable c1 t1 => exact va_tabs rfl (rfl : (s.setVm U.vm).vm = U.vm) (by rw [Cond.castable_setVm hW.alike]; exact h #[])
    | declares x1 => exact va_Nw.use rfl (va_Nw.warmD hW (va_Nw.of rfl (h #[])))
    | arrayOver ty =>
      cases ty with
      | object C => exact va_AO.use (va_AO.moved hW.alike (va_AO.of (h #[])))
      | _ => exact absurd hw (by simp)
    | _ => exact absurd hw (by simp)
/-- what holds in every state: the words, the classes, and what else is given -/
abbrev kk_T (g : gg) : List (ClassId × FieldType) := [(gg_I g, .int), (gg_L g, .long), (gg_Q g, .object "java/lang/Object")]
def kk_K (g : gg) (X : State → Prop) (U : State) : Prop := (∀ w ∈ gg_W g, ww_ok w = true ∧ ∀ a : Array Value, w.before a U = true) ∧ va_K (gg_D g) (gg_cl g) (kk_T g) U ∧ (∀ s U : State, s.WarmedH U.vm → X s → X U) ∧ X U
theorem kk_K.warm {g : gg} {X : State → Prop} {s U : State} (hW : s.WarmedH U.vm) (h : kk_K g X s) : kk_K g X U :=
  ⟨fun w hw => ⟨(h.1 w hw).1, ww_warm (h.1 w hw).1 hW (h.1 w hw).2⟩, va_K.moved hW.alike h.2.1, h.2.2.1, h.2.2.1 s U hW h.2.2.2⟩
abbrev rm (d lo mc ms : Nat) : Room := { frames := d, cells := mc, slots := ms, locals := lo }
/-- the locals by their places -/
def lz (ls : Array Slot) (nL : Nat) (l : List (Option Value)) : Prop := ls.size = nL ∧ lv_wf ls ∧ ∀ (i : Nat) (v : Value), l[i]? = some (some v) → v.category = 1 ∧ ls[i]? = some (.val v)
def lz_l (l : List (Option Value)) : List (Nat × Value) := (List.range l.length).filterMap (fun i => (l[i]?.join).map (fun v => (i, v)))
theorem lz_mem {l : List (Option Value)} {i : Nat} {v : Value} : (i, v) ∈ lz_l l ↔ l[i]? = some (some v) := by
  unfold lz_l
  rw [List.mem_filterMap]
  constructor
  · rintro ⟨j, -, h⟩
    cases h1 : l[j]? with
    | none => rw [h1] at h; cases h
    | some o =>
      rw [h1] at h
      cases o with
      | none => cases h
      | some w =>
        simp only [Option.join, Option.bind, Option.map, id] at h
        cases h
        exact h1
  · intro h
    exact ⟨i, List.mem_range.mpr (List.getElem?_eq_some_iff.mp h).1, by rw [h]; rfl⟩
theorem lz.has {ls : Array Slot} {nL : Nat} {l : List (Option Value)} (h : lz ls nL l) : lv_has ls nL (lz_l l) := ⟨h.1, h.2.1, fun q hq => (h.2.2 q.1 q.2 (lz_mem.mp hq)).2⟩
theorem lz.put {ls ls' : Array Slot} {nL i : Nat} {l : List (Option Value)} {v : Value} (h : lz ls nL l) (hc : v.category = 1)
    (h' : lv_has ls' nL ((i, v) :: (lz_l l).filter (fun q => !(q.1 == i) && !(q.1 + 1 == i && q.2.category == 2)))) : lz ls' nL (l.set i (some v)) := by
  refine ⟨h'.1, h'.2.1, fun j w hj => ?_⟩
  by_cases hji : j = i
  · subst hji
    rw [List.getElem?_set] at hj
    simp only [if_true] at hj
    split at hj
    · cases hj
      exact ⟨hc, h'.2.2 (j, v) List.mem_cons_self⟩
    · cases hj
  · rw [List.getElem?_set_ne (fun z => hji z.symm)] at hj
    have h1 := h.2.2 j w hj
    refine ⟨h1.1, h'.2.2 (j, w) (List.mem_cons_of_mem _ (List.mem_filter.mpr ⟨lz_mem.mpr hj, ?_⟩))⟩
    have e1 : (j == i) = false := by simp [hji]
    have e2 : (w.category == 2) = false := by rw [h1.1]; rfl
    simp [e1, e2]
/-- what a body knows of its method -/
def cx (g : gg) (X : State → Prop) (own nm : String) (cc : ByteArray) (nL : Nat) (ret : Option FieldType) (d lo mc ms : Nat) (p : Program) (R : Room) (s : State) (m : MethodId) (meth : Method) (c : Code) : Prop :=
  p.tables.exec = Jvm.exec ∧ c.code = cc ∧ c.maxLocals = nL ∧ s.vm.findClass own = some m.cls ∧ meth.locks = false ∧ kk_K g X s ∧ R = rm d lo mc ms ∧ meth.sig.returnType = ret ∧ meth.name = nm ∧ (gg_H g).size ≤ s.heap.size ∧ ∀ q : Nat, q < (gg_H g).size → s.heap[q]? = (gg_H g)[q]?
def vv (g : gg) (nL : Nat) (p : Program) (l : Launch) (e : Env) (R : Room) (s : State) (m : MethodId) (args : Array Value) (below : List Frame) (meth : Method) (c : Code) (Q : State → Prop) (cells slots pc : Nat) (ls : List (Option Value)) (st : List Value) (M : mm) : Prop :=
  ∀ (H : Heap) (locs : List Loc) (la : Array Slot), mm_R g M H → s.heap.size ≤ H.size → (∀ q ∈ locs, (gg_H g).size ≤ q.base) → lz la nL ls → W p l e R s m args below meth c H locs cells slots Q (F0 m pc la st)

section VV
variable {g : gg} {X : State → Prop} {own nm : String} {cc : ByteArray} {nL : Nat} {ret : Option FieldType} {d lo mc ms : Nat} {p : Program} {l : Launch} {e : Env} {R : Room} {s : State} {m : MethodId} {args : Array Value} {below : List Frame} {meth : Method} {c : Code} {Q : State → Prop} {cells slots pc : Nat} {ls : List (Option Value)} {rest : List Value} {M : mm}
theorem vv_iconst (x : cx g X own nm cc nL ret d lo mc ms p R s m meth c) {n : Int} (hd : decode cc pc = .ok (.iconst n, 1)) (v : Int32) (hv : Int32.ofInt n = v) (k : vv g nL p l e R s m args below meth c Q cells slots (pc + 1) ls (.int v :: rest) M) : vv g nL p l e R s m args below meth c Q cells slots (pc) ls (rest) M := fun H locs la hR hz hL hl => lv_iconst x.1 x.2.1 hd hv (k H locs la hR hz hL hl)
theorem vv_bipush (x : cx g X own nm cc nL ret d lo mc ms p R s m meth c) {n : Int} (hd : decode cc pc = .ok (.bipush n, 2)) (v : Int32) (hv : (Int8.ofInt n).toInt32 = v) (k : vv g nL p l e R s m args below meth c Q cells slots (pc + 2) ls (.int v :: rest) M) : vv g nL p l e R s m args below meth c Q cells slots (pc) ls (rest) M := fun H locs la hR hz hL hl => lv_bipush x.1 x.2.1 hd hv (k H locs la hR hz hL hl)
theorem vv_sipush (x : cx g X own nm cc nL ret d lo mc ms p R s m meth c) {n : Int} (hd : decode cc pc = .ok (.sipush n, 3)) (v : Int32) (hv : (Int16.ofInt n).toInt32 = v) (k : vv g nL p l e R s m args below meth c Q cells slots (pc + 3) ls (.int v :: rest) M) : vv g nL p l e R s m args below meth c Q cells slots (pc) ls (rest) M := fun H locs la hR hz hL hl => lv_sipush x.1 x.2.1 hd hv (k H locs la hR hz hL hl)
theorem vv_ldc (x : cx g X own nm cc nL ret d lo mc ms p R s m meth c) {n : Nat} {v : Int32} (hd : decode cc pc = .ok (.ldc n, 2)) (hw : Cond.constant own n v ∈ gg_W g) (k : vv g nL p l e R s m args below meth c Q cells slots (pc + 2) ls (.int v :: rest) M) : vv g nL p l e R s m args below meth c Q cells slots (pc) ls (rest) M := fun H locs la hR hz hL hl => lv_ldc x.1 x.2.1 x.2.2.2.1 ((x.2.2.2.2.2.1.1 _ hw).2 _) hd (k H locs la hR hz hL hl)
theorem vv_null (x : cx g X own nm cc nL ret d lo mc ms p R s m meth c)  (hd : decode cc pc = .ok (.aconst_null, 1)) (k : vv g nL p l e R s m args below meth c Q cells slots (pc + 1) ls (.null :: rest) M) : vv g nL p l e R s m args below meth c Q cells slots (pc) ls (rest) M := fun H locs la hR hz hL hl => lv_null x.1 x.2.1 hd (k H locs la hR hz hL hl)
theorem vv_iload_n (x : cx g X own nm cc nL ret d lo mc ms p R s m meth c) {i : Fin 4} {v : Int32} (hd : decode cc pc = .ok (.iload_n i, 1)) (hi : ls[(i : Nat)]? = some (some (.int v))) (k : vv g nL p l e R s m args below meth c Q cells slots (pc + 1) ls (.int v :: rest) M) : vv g nL p l e R s m args below meth c Q cells slots (pc) ls (rest) M := fun H locs la hR hz hL hl => lv_iload_n x.1 x.2.1 hd rfl (hl.2.2 _ _ hi).2 (k H locs la hR hz hL hl)
theorem vv_iload (x : cx g X own nm cc nL ret d lo mc ms p R s m meth c) {i : Nat} {v : Int32} (hd : decode cc pc = .ok (.iload i, 2)) (hi : ls[i]? = some (some (.int v))) (k : vv g nL p l e R s m args below meth c Q cells slots (pc + 2) ls (.int v :: rest) M) : vv g nL p l e R s m args below meth c Q cells slots (pc) ls (rest) M := fun H locs la hR hz hL hl => lv_iload x.1 x.2.1 hd (hl.2.2 _ _ hi).2 (k H locs la hR hz hL hl)
theorem vv_aload_n (x : cx g X own nm cc nL ret d lo mc ms p R s m meth c) {i : Fin 4} {v : Nat} (hd : decode cc pc = .ok (.aload_n i, 1)) (hi : ls[(i : Nat)]? = some (some (.ref v))) (k : vv g nL p l e R s m args below meth c Q cells slots (pc + 1) ls (.ref v :: rest) M) : vv g nL p l e R s m args below meth c Q cells slots (pc) ls (rest) M := fun H locs la hR hz hL hl => lv_aload_n x.1 x.2.1 hd rfl (hl.2.2 _ _ hi).2 (k H locs la hR hz hL hl)
theorem vv_aload (x : cx g X own nm cc nL ret d lo mc ms p R s m meth c) {i : Nat} {v : Nat} (hd : decode cc pc = .ok (.aload i, 2)) (hi : ls[i]? = some (some (.ref v))) (k : vv g nL p l e R s m args below meth c Q cells slots (pc + 2) ls (.ref v :: rest) M) : vv g nL p l e R s m args below meth c Q cells slots (pc) ls (rest) M := fun H locs la hR hz hL hl => lv_aload x.1 x.2.1 hd (hl.2.2 _ _ hi).2 (k H locs la hR hz hL hl)
theorem vv_istore_n (x : cx g X own nm cc nL ret d lo mc ms p R s m meth c) {i : Fin 4} {v : Int32} {ls2 : List (Option Value)} (hd : decode cc pc = .ok (.istore_n i, 1)) (hn : (i : Nat) < nL) (he : ls.set i (some (.int v)) = ls2) (k : vv g nL p l e R s m args below meth c Q cells slots (pc + 1) ls2 (rest) M) : vv g nL p l e R s m args below meth c Q cells slots (pc) ls (.int v :: rest) M := fun H locs la hR hz hL hl => lv_istore_n x.1 x.2.1 hd rfl hl.has hn rfl (fun la2 h2 => k H locs la2 hR hz hL (he ▸ hl.put rfl h2))
theorem vv_istore (x : cx g X own nm cc nL ret d lo mc ms p R s m meth c) {i : Nat} {v : Int32} {ls2 : List (Option Value)} (hd : decode cc pc = .ok (.istore i, 2)) (hn : i < nL) (he : ls.set i (some (.int v)) = ls2) (k : vv g nL p l e R s m args below meth c Q cells slots (pc + 2) ls2 (rest) M) : vv g nL p l e R s m args below meth c Q cells slots (pc) ls (.int v :: rest) M := fun H locs la hR hz hL hl => lv_istore x.1 x.2.1 hd hl.has hn rfl (fun la2 h2 => k H locs la2 hR hz hL (he ▸ hl.put rfl h2))
theorem vv_astore_n (x : cx g X own nm cc nL ret d lo mc ms p R s m meth c) {i : Fin 4} {v : Nat} {ls2 : List (Option Value)} (hd : decode cc pc = .ok (.astore_n i, 1)) (hn : (i : Nat) < nL) (he : ls.set i (some (.ref v)) = ls2) (k : vv g nL p l e R s m args below meth c Q cells slots (pc + 1) ls2 (rest) M) : vv g nL p l e R s m args below meth c Q cells slots (pc) ls (.ref v :: rest) M := fun H locs la hR hz hL hl => lv_astore_n x.1 x.2.1 hd rfl hl.has hn rfl (fun la2 h2 => k H locs la2 hR hz hL (he ▸ hl.put rfl h2))
theorem vv_astore (x : cx g X own nm cc nL ret d lo mc ms p R s m meth c) {i : Nat} {v : Nat} {ls2 : List (Option Value)} (hd : decode cc pc = .ok (.astore i, 2)) (hn : i < nL) (he : ls.set i (some (.ref v)) = ls2) (k : vv g nL p l e R s m args below meth c Q cells slots (pc + 2) ls2 (rest) M) : vv g nL p l e R s m args below meth c Q cells slots (pc) ls (.ref v :: rest) M := fun H locs la hR hz hL hl => lv_astore x.1 x.2.1 hd hl.has hn rfl (fun la2 h2 => k H locs la2 hR hz hL (he ▸ hl.put rfl h2))
theorem vv_iinc (x : cx g X own nm cc nL ret d lo mc ms p R s m meth c) {i : Nat} {n : Int} {v w : Int32} {ls2 : List (Option Value)} (hd : decode cc pc = .ok (.iinc i n, 3)) (hi : ls[i]? = some (some (.int v))) (hw : v + Int32.ofInt n = w) (hn : i < nL) (he : ls.set i (some (.int w)) = ls2) (k : vv g nL p l e R s m args below meth c Q cells slots (pc + 3) ls2 (rest) M) : vv g nL p l e R s m args below meth c Q cells slots (pc) ls (rest) M := by
  intro H locs la hR hz hL hl
  obtain ⟨j, hj⟩ := List.getElem?_of_mem (lz_mem.mpr hi)
  exact lv_iinc x.1 x.2.1 hd hl.has hj hw hn rfl (fun la2 h2 => k H locs la2 hR hz hL (he ▸ hl.put rfl h2))
theorem vv_iadd (x : cx g X own nm cc nL ret d lo mc ms p R s m meth c) {a b : Int32} (hd : decode cc pc = .ok (.iadd, 1)) (k : vv g nL p l e R s m args below meth c Q cells slots (pc + 1) ls (.int (a + b) :: rest) M) : vv g nL p l e R s m args below meth c Q cells slots (pc) ls (.int b :: .int a :: rest) M := fun H locs la hR hz hL hl => lv_iadd x.1 x.2.1 hd (k H locs la hR hz hL hl)
theorem vv_isub (x : cx g X own nm cc nL ret d lo mc ms p R s m meth c) {a b : Int32} (hd : decode cc pc = .ok (.isub, 1)) (k : vv g nL p l e R s m args below meth c Q cells slots (pc + 1) ls (.int (a - b) :: rest) M) : vv g nL p l e R s m args below meth c Q cells slots (pc) ls (.int b :: .int a :: rest) M := fun H locs la hR hz hL hl => lv_isub x.1 x.2.1 hd (k H locs la hR hz hL hl)
theorem vv_imul (x : cx g X own nm cc nL ret d lo mc ms p R s m meth c) {a b : Int32} (hd : decode cc pc = .ok (.imul, 1)) (k : vv g nL p l e R s m args below meth c Q cells slots (pc + 1) ls (.int (a * b) :: rest) M) : vv g nL p l e R s m args below meth c Q cells slots (pc) ls (.int b :: .int a :: rest) M := fun H locs la hR hz hL hl => lv_imul x.1 x.2.1 hd (k H locs la hR hz hL hl)
theorem vv_iand (x : cx g X own nm cc nL ret d lo mc ms p R s m meth c) {a b : Int32} (hd : decode cc pc = .ok (.iand, 1)) (k : vv g nL p l e R s m args below meth c Q cells slots (pc + 1) ls (.int (a &&& b) :: rest) M) : vv g nL p l e R s m args below meth c Q cells slots (pc) ls (.int b :: .int a :: rest) M := fun H locs la hR hz hL hl => lv_iand x.1 x.2.1 hd (k H locs la hR hz hL hl)
theorem vv_ior (x : cx g X own nm cc nL ret d lo mc ms p R s m meth c) {a b : Int32} (hd : decode cc pc = .ok (.ior, 1)) (k : vv g nL p l e R s m args below meth c Q cells slots (pc + 1) ls (.int (a ||| b) :: rest) M) : vv g nL p l e R s m args below meth c Q cells slots (pc) ls (.int b :: .int a :: rest) M := fun H locs la hR hz hL hl => lv_ior x.1 x.2.1 hd (k H locs la hR hz hL hl)
theorem vv_ishl (x : cx g X own nm cc nL ret d lo mc ms p R s m meth c) {a b : Int32} (hd : decode cc pc = .ok (.ishl, 1)) (k : vv g nL p l e R s m args below meth c Q cells slots (pc + 1) ls (.int (a <<< (b &&& 31)) :: rest) M) : vv g nL p l e R s m args below meth c Q cells slots (pc) ls (.int b :: .int a :: rest) M := fun H locs la hR hz hL hl => lv_ishl x.1 x.2.1 hd (k H locs la hR hz hL hl)
theorem vv_ishr (x : cx g X own nm cc nL ret d lo mc ms p R s m meth c) {a b : Int32} (hd : decode cc pc = .ok (.ishr, 1)) (k : vv g nL p l e R s m args below meth c Q cells slots (pc + 1) ls (.int (a >>> (b &&& 31)) :: rest) M) : vv g nL p l e R s m args below meth c Q cells slots (pc) ls (.int b :: .int a :: rest) M := fun H locs la hR hz hL hl => lv_ishr x.1 x.2.1 hd (k H locs la hR hz hL hl)
theorem vv_idiv (x : cx g X own nm cc nL ret d lo mc ms p R s m meth c) {a b : Int32} (hd : decode cc pc = .ok (.idiv, 1)) (hne : ¬ b = 0) (k : vv g nL p l e R s m args below meth c Q cells slots (pc + 1) ls (.int (a / b) :: rest) M) : vv g nL p l e R s m args below meth c Q cells slots (pc) ls (.int b :: .int a :: rest) M := fun H locs la hR hz hL hl => lv_idiv x.1 x.2.1 hd hne (k H locs la hR hz hL hl)
theorem vv_irem (x : cx g X own nm cc nL ret d lo mc ms p R s m meth c) {a b : Int32} (hd : decode cc pc = .ok (.irem, 1)) (hne : ¬ b = 0) (k : vv g nL p l e R s m args below meth c Q cells slots (pc + 1) ls (.int (a - a / b * b) :: rest) M) : vv g nL p l e R s m args below meth c Q cells slots (pc) ls (.int b :: .int a :: rest) M := fun H locs la hR hz hL hl => lv_irem x.1 x.2.1 hd hne (k H locs la hR hz hL hl)
theorem vv_i2l (x : cx g X own nm cc nL ret d lo mc ms p R s m meth c) {a : Int32} (hd : decode cc pc = .ok (.i2l, 1)) (k : vv g nL p l e R s m args below meth c Q cells slots (pc + 1) ls (.long a.toInt64 :: rest) M) : vv g nL p l e R s m args below meth c Q cells slots (pc) ls (.int a :: rest) M := fun H locs la hR hz hL hl => lv_i2l x.1 x.2.1 hd rfl (k H locs la hR hz hL hl)
theorem vv_lcmp (x : cx g X own nm cc nL ret d lo mc ms p R s m meth c) {a b : Int64} (hd : decode cc pc = .ok (.lcmp, 1)) (k : vv g nL p l e R s m args below meth c Q cells slots (pc + 1) ls (.int (lg_cmp a b) :: rest) M) : vv g nL p l e R s m args below meth c Q cells slots (pc) ls (.long b :: .long a :: rest) M := fun H locs la hR hz hL hl => W.lcmp x.1 x.2.1 hd (k H locs la hR hz hL hl)
theorem vv_lconst (x : cx g X own nm cc nL ret d lo mc ms p R s m meth c) {n : Fin 2} {v : Int64} (hd : decode cc pc = .ok (.lconst n, 1)) (hv : Int64.ofNat n = v) (k : vv g nL p l e R s m args below meth c Q cells slots (pc + 1) ls (.long v :: rest) M) : vv g nL p l e R s m args below meth c Q cells slots (pc) ls (rest) M := fun H locs la hR hz hL hl => lv_lconst x.1 x.2.1 hd hv (k H locs la hR hz hL hl)
theorem vv_dup (x : cx g X own nm cc nL ret d lo mc ms p R s m meth c) {a : Value} (hd : decode cc pc = .ok (.dup, 1)) (ha : a.category = 1) (k : vv g nL p l e R s m args below meth c Q cells slots (pc + 1) ls (a :: a :: rest) M) : vv g nL p l e R s m args below meth c Q cells slots (pc) ls (a :: rest) M := fun H locs la hR hz hL hl => lv_dup x.1 x.2.1 hd ha (k H locs la hR hz hL hl)
theorem vv_pop (x : cx g X own nm cc nL ret d lo mc ms p R s m meth c) {a : Value} (hd : decode cc pc = .ok (.pop, 1)) (ha : a.category = 1) (k : vv g nL p l e R s m args below meth c Q cells slots (pc + 1) ls (rest) M) : vv g nL p l e R s m args below meth c Q cells slots (pc) ls (a :: rest) M := fun H locs la hR hz hL hl => lv_pop x.1 x.2.1 hd ha (k H locs la hR hz hL hl)
theorem vv_dup_x1 (x : cx g X own nm cc nL ret d lo mc ms p R s m meth c) {a b : Value} (hd : decode cc pc = .ok (.dup_x1, 1)) (ha : a.category = 1) (hb : b.category = 1) (k : vv g nL p l e R s m args below meth c Q cells slots (pc + 1) ls (a :: b :: a :: rest) M) : vv g nL p l e R s m args below meth c Q cells slots (pc) ls (a :: b :: rest) M := fun H locs la hR hz hL hl => lv_dup_x1 x.1 x.2.1 hd ha hb (k H locs la hR hz hL hl)
theorem vv_dup2 (x : cx g X own nm cc nL ret d lo mc ms p R s m meth c) {a b : Value} (hd : decode cc pc = .ok (.dup2, 1)) (ha : a.category = 1) (hb : b.category = 1) (k : vv g nL p l e R s m args below meth c Q cells slots (pc + 1) ls (a :: b :: a :: b :: rest) M) : vv g nL p l e R s m args below meth c Q cells slots (pc) ls (a :: b :: rest) M := fun H locs la hR hz hL hl => lv_dup2_11 x.1 x.2.1 hd ha hb (k H locs la hR hz hL hl)
theorem vv_if_eq (x : cx g X own nm cc nL ret d lo mc ms p R s m meth c) {a : Int32} {off : Int} {tgt : Nat} (hd : decode cc pc = .ok (.ifCond .eq off, 3)) (ht : (pc : Int) + off = (tgt : Int)) (kt : a = 0 → vv g nL p l e R s m args below meth c Q cells slots (tgt) ls (rest) M) (kf : ¬ a = 0 → vv g nL p l e R s m args below meth c Q cells slots (pc + 3) ls (rest) M) : vv g nL p l e R s m args below meth c Q cells slots (pc) ls (.int a :: rest) M := fun H locs la hR hz hL hl => lv_if_eq x.1 x.2.1 hd ht (fun h => kt h H locs la hR hz hL hl) (fun h => kf h H locs la hR hz hL hl)
theorem vv_icmp_eq (x : cx g X own nm cc nL ret d lo mc ms p R s m meth c) {a b : Int32} {off : Int} {tgt : Nat} (hd : decode cc pc = .ok (.if_icmp .eq off, 3)) (ht : (pc : Int) + off = (tgt : Int)) (kt : a = b → vv g nL p l e R s m args below meth c Q cells slots (tgt) ls (rest) M) (kf : ¬ a = b → vv g nL p l e R s m args below meth c Q cells slots (pc + 3) ls (rest) M) : vv g nL p l e R s m args below meth c Q cells slots (pc) ls (.int b :: .int a :: rest) M := fun H locs la hR hz hL hl => lv_icmp_eq x.1 x.2.1 hd ht (fun h => kt h H locs la hR hz hL hl) (fun h => kf h H locs la hR hz hL hl)
theorem vv_if_ne (x : cx g X own nm cc nL ret d lo mc ms p R s m meth c) {a : Int32} {off : Int} {tgt : Nat} (hd : decode cc pc = .ok (.ifCond .ne off, 3)) (ht : (pc : Int) + off = (tgt : Int)) (kt : ¬ a = 0 → vv g nL p l e R s m args below meth c Q cells slots (tgt) ls (rest) M) (kf : a = 0 → vv g nL p l e R s m args below meth c Q cells slots (pc + 3) ls (rest) M) : vv g nL p l e R s m args below meth c Q cells slots (pc) ls (.int a :: rest) M := fun H locs la hR hz hL hl => lv_if_ne x.1 x.2.1 hd ht (fun h => kt h H locs la hR hz hL hl) (fun h => kf h H locs la hR hz hL hl)
theorem vv_icmp_ne (x : cx g X own nm cc nL ret d lo mc ms p R s m meth c) {a b : Int32} {off : Int} {tgt : Nat} (hd : decode cc pc = .ok (.if_icmp .ne off, 3)) (ht : (pc : Int) + off = (tgt : Int)) (kt : ¬ a = b → vv g nL p l e R s m args below meth c Q cells slots (tgt) ls (rest) M) (kf : a = b → vv g nL p l e R s m args below meth c Q cells slots (pc + 3) ls (rest) M) : vv g nL p l e R s m args below meth c Q cells slots (pc) ls (.int b :: .int a :: rest) M := fun H locs la hR hz hL hl => lv_icmp_ne x.1 x.2.1 hd ht (fun h => kt h H locs la hR hz hL hl) (fun h => kf h H locs la hR hz hL hl)
theorem vv_if_lt (x : cx g X own nm cc nL ret d lo mc ms p R s m meth c) {a : Int32} {off : Int} {tgt : Nat} (hd : decode cc pc = .ok (.ifCond .lt off, 3)) (ht : (pc : Int) + off = (tgt : Int)) (kt : a < 0 → vv g nL p l e R s m args below meth c Q cells slots (tgt) ls (rest) M) (kf : ¬ a < 0 → vv g nL p l e R s m args below meth c Q cells slots (pc + 3) ls (rest) M) : vv g nL p l e R s m args below meth c Q cells slots (pc) ls (.int a :: rest) M := fun H locs la hR hz hL hl => lv_if_lt x.1 x.2.1 hd ht (fun h => kt h H locs la hR hz hL hl) (fun h => kf h H locs la hR hz hL hl)
theorem vv_icmp_lt (x : cx g X own nm cc nL ret d lo mc ms p R s m meth c) {a b : Int32} {off : Int} {tgt : Nat} (hd : decode cc pc = .ok (.if_icmp .lt off, 3)) (ht : (pc : Int) + off = (tgt : Int)) (kt : a < b → vv g nL p l e R s m args below meth c Q cells slots (tgt) ls (rest) M) (kf : ¬ a < b → vv g nL p l e R s m args below meth c Q cells slots (pc + 3) ls (rest) M) : vv g nL p l e R s m args below meth c Q cells slots (pc) ls (.int b :: .int a :: rest) M := fun H locs la hR hz hL hl => lv_icmp_lt x.1 x.2.1 hd ht (fun h => kt h H locs la hR hz hL hl) (fun h => kf h H locs la hR hz hL hl)
theorem vv_if_ge (x : cx g X own nm cc nL ret d lo mc ms p R s m meth c) {a : Int32} {off : Int} {tgt : Nat} (hd : decode cc pc = .ok (.ifCond .ge off, 3)) (ht : (pc : Int) + off = (tgt : Int)) (kt : 0 ≤ a → vv g nL p l e R s m args below meth c Q cells slots (tgt) ls (rest) M) (kf : ¬ 0 ≤ a → vv g nL p l e R s m args below meth c Q cells slots (pc + 3) ls (rest) M) : vv g nL p l e R s m args below meth c Q cells slots (pc) ls (.int a :: rest) M := fun H locs la hR hz hL hl => lv_if_ge x.1 x.2.1 hd ht (fun h => kt h H locs la hR hz hL hl) (fun h => kf h H locs la hR hz hL hl)
theorem vv_icmp_ge (x : cx g X own nm cc nL ret d lo mc ms p R s m meth c) {a b : Int32} {off : Int} {tgt : Nat} (hd : decode cc pc = .ok (.if_icmp .ge off, 3)) (ht : (pc : Int) + off = (tgt : Int)) (kt : b ≤ a → vv g nL p l e R s m args below meth c Q cells slots (tgt) ls (rest) M) (kf : ¬ b ≤ a → vv g nL p l e R s m args below meth c Q cells slots (pc + 3) ls (rest) M) : vv g nL p l e R s m args below meth c Q cells slots (pc) ls (.int b :: .int a :: rest) M := fun H locs la hR hz hL hl => lv_icmp_ge x.1 x.2.1 hd ht (fun h => kt h H locs la hR hz hL hl) (fun h => kf h H locs la hR hz hL hl)
theorem vv_if_gt (x : cx g X own nm cc nL ret d lo mc ms p R s m meth c) {a : Int32} {off : Int} {tgt : Nat} (hd : decode cc pc = .ok (.ifCond .gt off, 3)) (ht : (pc : Int) + off = (tgt : Int)) (kt : 0 < a → vv g nL p l e R s m args below meth c Q cells slots (tgt) ls (rest) M) (kf : ¬ 0 < a → vv g nL p l e R s m args below meth c Q cells slots (pc + 3) ls (rest) M) : vv g nL p l e R s m args below meth c Q cells slots (pc) ls (.int a :: rest) M := fun H locs la hR hz hL hl => lv_if_gt x.1 x.2.1 hd ht (fun h => kt h H locs la hR hz hL hl) (fun h => kf h H locs la hR hz hL hl)
theorem vv_icmp_gt (x : cx g X own nm cc nL ret d lo mc ms p R s m meth c) {a b : Int32} {off : Int} {tgt : Nat} (hd : decode cc pc = .ok (.if_icmp .gt off, 3)) (ht : (pc : Int) + off = (tgt : Int)) (kt : b < a → vv g nL p l e R s m args below meth c Q cells slots (tgt) ls (rest) M) (kf : ¬ b < a → vv g nL p l e R s m args below meth c Q cells slots (pc + 3) ls (rest) M) : vv g nL p l e R s m args below meth c Q cells slots (pc) ls (.int b :: .int a :: rest) M := fun H locs la hR hz hL hl => lv_icmp_gt x.1 x.2.1 hd ht (fun h => kt h H locs la hR hz hL hl) (fun h => kf h H locs la hR hz hL hl)
theorem vv_if_le (x : cx g X own nm cc nL ret d lo mc ms p R s m meth c) {a : Int32} {off : Int} {tgt : Nat} (hd : decode cc pc = .ok (.ifCond .le off, 3)) (ht : (pc : Int) + off = (tgt : Int)) (kt : a ≤ 0 → vv g nL p l e R s m args below meth c Q cells slots (tgt) ls (rest) M) (kf : ¬ a ≤ 0 → vv g nL p l e R s m args below meth c Q cells slots (pc + 3) ls (rest) M) : vv g nL p l e R s m args below meth c Q cells slots (pc) ls (.int a :: rest) M := fun H locs la hR hz hL hl => lv_if_le x.1 x.2.1 hd ht (fun h => kt h H locs la hR hz hL hl) (fun h => kf h H locs la hR hz hL hl)
theorem vv_icmp_le (x : cx g X own nm cc nL ret d lo mc ms p R s m meth c) {a b : Int32} {off : Int} {tgt : Nat} (hd : decode cc pc = .ok (.if_icmp .le off, 3)) (ht : (pc : Int) + off = (tgt : Int)) (kt : a ≤ b → vv g nL p l e R s m args below meth c Q cells slots (tgt) ls (rest) M) (kf : ¬ a ≤ b → vv g nL p l e R s m args below meth c Q cells slots (pc + 3) ls (rest) M) : vv g nL p l e R s m args below meth c Q cells slots (pc) ls (.int b :: .int a :: rest) M := fun H locs la hR hz hL hl => lv_icmp_le x.1 x.2.1 hd ht (fun h => kt h H locs la hR hz hL hl) (fun h => kf h H locs la hR hz hL hl)
theorem vv_goto (x : cx g X own nm cc nL ret d lo mc ms p R s m meth c) {off : Int} {tgt : Nat} (hd : decode cc pc = .ok (.goto off, 3)) (ht : (pc : Int) + off = (tgt : Int)) (k : vv g nL p l e R s m args below meth c Q cells slots (tgt) ls (rest) M) : vv g nL p l e R s m args below meth c Q cells slots (pc) ls (rest) M := fun H locs la hR hz hL hl => lv_goto x.1 x.2.1 hd ht (k H locs la hR hz hL hl)
theorem vv_acmp_eq (x : cx g X own nm cc nL ret d lo mc ms p R s m meth c) {a b : Nat} {off : Int} {tgt : Nat} (hd : decode cc pc = .ok (.if_acmp .eq off, 3)) (ht : (pc : Int) + off = (tgt : Int)) (kt : a = b → vv g nL p l e R s m args below meth c Q cells slots (tgt) ls (rest) M) (kf : ¬ a = b → vv g nL p l e R s m args below meth c Q cells slots (pc + 3) ls (rest) M) : vv g nL p l e R s m args below meth c Q cells slots (pc) ls (.ref b :: .ref a :: rest) M := fun H locs la hR hz hL hl => lv_acmp_eq (rx := some a) (ry := some b) x.1 x.2.1 hd ht (fun h => kt (Option.some.inj h) H locs la hR hz hL hl) (fun h => kf (fun z => h (congrArg some z)) H locs la hR hz hL hl)
theorem vv_acmp_ne (x : cx g X own nm cc nL ret d lo mc ms p R s m meth c) {a b : Nat} {off : Int} {tgt : Nat} (hd : decode cc pc = .ok (.if_acmp .ne off, 3)) (ht : (pc : Int) + off = (tgt : Int)) (kt : ¬ a = b → vv g nL p l e R s m args below meth c Q cells slots (tgt) ls (rest) M) (kf : a = b → vv g nL p l e R s m args below meth c Q cells slots (pc + 3) ls (rest) M) : vv g nL p l e R s m args below meth c Q cells slots (pc) ls (.ref b :: .ref a :: rest) M := fun H locs la hR hz hL hl => lv_acmp_ne (rx := some a) (ry := some b) x.1 x.2.1 hd ht (fun h => kt (fun z => h (congrArg some z)) H locs la hR hz hL hl) (fun h => kf (Option.some.inj h) H locs la hR hz hL hl)
theorem vv_lookup (x : cx g X own nm cc nL ret d lo mc ms p R s m meth c) {dflt : Int} {ps : Array (Int × Int)} {len : Nat} {a : Int32} {off : Int} {tgt : Nat} (hd : decode cc pc = .ok (.lookupswitch dflt ps, len)) (hp : (ps.toList.zip (ps.toList.drop 1)).all (fun (a, next) => a.1 < next.1) = true) (ho : Op.lookupswitch.offset ps.toList dflt a.toInt = off) (ht : (pc : Int) + off = (tgt : Int)) (k : vv g nL p l e R s m args below meth c Q cells slots (tgt) ls (rest) M) : vv g nL p l e R s m args below meth c Q cells slots (pc) ls (.int a :: rest) M := fun H locs la hR hz hL hl => lv_lookup x.1 x.2.1 hd hp ho ht (k H locs la hR hz hL hl)
theorem vv_tableOut (x : cx g X own nm cc nL ret d lo mc ms p R s m meth c) {dflt lo hi : Int} {offs : Array Int} {len : Nat} {a : Int32} {tgt : Nat} (hd : decode cc pc = .ok (.tableswitch dflt lo hi offs, len)) (h : a.toInt < lo ∨ hi < a.toInt) (ht : (pc : Int) + dflt = (tgt : Int)) (k : vv g nL p l e R s m args below meth c Q cells slots (tgt) ls (rest) M) : vv g nL p l e R s m args below meth c Q cells slots (pc) ls (.int a :: rest) M := fun H locs la hR hz hL hl => lv_tableOut x.1 x.2.1 hd h ht (k H locs la hR hz hL hl)
theorem vv_tableIn (x : cx g X own nm cc nL ret d lo mc ms p R s m meth c) {dflt lo hi : Int} {offs : Array Int} {len : Nat} {a : Int32} {off : Int} {tgt : Nat} (hd : decode cc pc = .ok (.tableswitch dflt lo hi offs, len)) (h1 : ¬ a.toInt < lo) (h2 : ¬ hi < a.toInt) (ho : offs[(a.toInt - lo).toNat]? = some off) (ht : (pc : Int) + off = (tgt : Int)) (k : vv g nL p l e R s m args below meth c Q cells slots (tgt) ls (rest) M) : vv g nL p l e R s m args below meth c Q cells slots (pc) ls (.int a :: rest) M := fun H locs la hR hz hL hl => lv_tableIn x.1 x.2.1 hd h1 h2 ho ht (k H locs la hR hz hL hl)
theorem vv_iald (x : cx g X own nm cc nL ret d lo mc ms p R s m meth c) {a : Nat} {i : Int32} (hd : decode cc pc = .ok (.iaload, 1)) (ht : mm_t M a = 100) (hi : vp_in i (mm_n M a)) (k : vv g nL p l e R s m args below meth c Q cells slots (pc + 1) ls (.int (mm_a M a i.toNatClampNeg) :: rest) M) : vv g nL p l e R s m args below meth c Q cells slots (pc) ls (.int i :: .ref a :: rest) M := by
  intro H locs la hR hz hL hl
  have hlt : i.toNatClampNeg < mm_n M a := Nat.not_le.mp fun q => hi (Or.inr q)
  exact W.iald (v := .int (mm_a M a i.toNatClampNeg)) x.1 x.2.1 ((hR.1 a).1 ht).2 ((x.2.2.2.2.2.1.2.1.2 0 _ rfl).1 (mm_n M a) (fun j => .int (mm_a M a j))) (fun q => by cases q) (by rw [arrV_size]; exact hi) (by rw [arrV_read _ _ hlt]) rfl rfl hd (k H locs la hR hz hL hl)
theorem vv_lald (x : cx g X own nm cc nL ret d lo mc ms p R s m meth c) {a : Nat} {i : Int32} (hd : decode cc pc = .ok (.laload, 1)) (ht : mm_t M a = 101) (hi : vp_in i (mm_n M a)) (k : vv g nL p l e R s m args below meth c Q cells slots (pc + 1) ls (.long (mm_l M a i.toNatClampNeg) :: rest) M) : vv g nL p l e R s m args below meth c Q cells slots (pc) ls (.int i :: .ref a :: rest) M := by
  intro H locs la hR hz hL hl
  have hlt : i.toNatClampNeg < mm_n M a := Nat.not_le.mp fun q => hi (Or.inr q)
  exact W.lald (v := .long (mm_l M a i.toNatClampNeg)) x.1 x.2.1 ((hR.1 a).2.1 ht).2 ((x.2.2.2.2.2.1.2.1.2 1 _ rfl).1 (mm_n M a) (fun j => .long (mm_l M a j))) (fun q => by cases q) (by rw [arrV_size]; exact hi) (by rw [arrV_read _ _ hlt]) rfl rfl hd (k H locs la hR hz hL hl)
theorem vv_aald (x : cx g X own nm cc nL ret d lo mc ms p R s m meth c) {a : Nat} {i : Int32} (hd : decode cc pc = .ok (.aaload, 1)) (ht : mm_t M a = 102) (hi : vp_in i (mm_n M a)) (h0 : mm_q M a i.toNatClampNeg ≠ 0) (k : vv g nL p l e R s m args below meth c Q cells slots (pc + 1) ls (.ref (mm_e M a i.toNatClampNeg) :: rest) M) : vv g nL p l e R s m args below meth c Q cells slots (pc) ls (.int i :: .ref a :: rest) M := by
  intro H locs la hR hz hL hl
  have hlt : i.toNatClampNeg < mm_n M a := Nat.not_le.mp fun q => hi (Or.inr q)
  have hv : mm_rv (mm_q M a i.toNatClampNeg) = .ref (mm_e M a i.toNatClampNeg) := by rw [mm_rv, if_neg h0]; rfl
  exact W.aald (v := .ref (mm_e M a i.toNatClampNeg)) (ty := .object "java/lang/Object") x.1 x.2.1 ((hR.1 a).2.2.1 ht).2 ((x.2.2.2.2.2.1.2.1.2 2 _ rfl).1 (mm_n M a) (fun j => mm_rv (mm_q M a j))) rfl (fun q => by cases q) (by rw [arrV_size]; exact hi) (by rw [arrV_read _ _ hlt, hv]) rfl rfl hd (k H locs la hR hz hL hl)
theorem vv_alenI (x : cx g X own nm cc nL ret d lo mc ms p R s m meth c) {a : Nat} (hd : decode cc pc = .ok (.arraylength, 1)) (ht : mm_t M a = 100) (k : vv g nL p l e R s m args below meth c Q cells slots (pc + 1) ls (.int (nI (mm_n M a)) :: rest) M) : vv g nL p l e R s m args below meth c Q cells slots (pc) ls (.ref a :: rest) M := by
  intro H locs la hR hz hL hl
  exact W.alen (n := nI (mm_n M a)) x.1 x.2.1 ((hR.1 a).1 ht).2 ((x.2.2.2.2.2.1.2.1.2 0 _ rfl).1 (mm_n M a) (fun j => .int (mm_a M a j))) (by rw [arrV_size] <;> rfl) rfl rfl hd (k H locs la hR hz hL hl)
theorem vv_alenQ (x : cx g X own nm cc nL ret d lo mc ms p R s m meth c) {a : Nat} (hd : decode cc pc = .ok (.arraylength, 1)) (ht : mm_t M a = 102) (k : vv g nL p l e R s m args below meth c Q cells slots (pc + 1) ls (.int (nI (mm_n M a)) :: rest) M) : vv g nL p l e R s m args below meth c Q cells slots (pc) ls (.ref a :: rest) M := by
  intro H locs la hR hz hL hl
  exact W.alen (n := nI (mm_n M a)) x.1 x.2.1 ((hR.1 a).2.2.1 ht).2 ((x.2.2.2.2.2.1.2.1.2 2 _ rfl).1 (mm_n M a) (fun j => mm_rv (mm_q M a j))) (by rw [arrV_size] <;> rfl) rfl rfl hd (k H locs la hR hz hL hl)
theorem lc_put {g : gg} {locs : List Loc} {a i : Nat} (hL : ∀ q ∈ locs, (gg_H g).size ≤ q.base) (ha : (gg_H g).size ≤ a) : ∀ q ∈ locs ++ [(⟨a, i⟩ : Loc)], (gg_H g).size ≤ q.base := by
  intro q hq
  rcases List.mem_append.mp hq with h | h
  · exact hL q h
  · rw [List.mem_singleton.mp h]; exact ha
theorem vv_iast (x : cx g X own nm cc nL ret d lo mc ms p R s m meth c) {a : Nat} {i : Int32} {v : Int32} (hd : decode cc pc = .ok (.iastore, 1)) (ht : mm_t M a = 100) (hi : vp_in i (mm_n M a)) (k : vv g nL p l e R s m args below meth c Q cells slots (pc + 1) ls (rest) (mm_sa M a (upd (mm_a M a) i.toNatClampNeg v))) : vv g nL p l e R s m args below meth c Q cells slots (pc) ls (.int v :: .int i :: .ref a :: rest) M := by
  intro H locs la hR hz hL hl
  obtain ⟨ha, hc⟩ := (hR.1 a).1 ht
  refine W.iast x.1 x.2.1 hc ((x.2.2.2.2.2.1.2.1.2 0 _ rfl).1 (mm_n M a) (fun j => .int (mm_a M a j))) (fun q => by cases q) (by rw [arrV_size]; exact hi) rfl rfl hd fun H1 e1 z o => ?_
  refine k H1 _ la (hR.put ha z o (fun b hb => mm_eq.sa hb) (mm_atI hR.2.1 ht ha ?_)) (by rw [z]; exact hz) (lc_put hL ha) hl
  rw [e1, arrV_store]
  congr 2
  funext j
  show updV (fun j => .int (mm_a M a j)) i.toNatClampNeg (.int v) j = .int ((if a = a then upd (mm_a M a) i.toNatClampNeg v else mm_a M a) j)
  rw [if_pos rfl]
  by_cases hq : j = i.toNatClampNeg
  · subst hq
    simp [updV, upd]
  · simp [updV, upd, hq]
theorem vv_last (x : cx g X own nm cc nL ret d lo mc ms p R s m meth c) {a : Nat} {i : Int32} {v : Int64} (hd : decode cc pc = .ok (.lastore, 1)) (ht : mm_t M a = 101) (hi : vp_in i (mm_n M a)) (k : vv g nL p l e R s m args below meth c Q cells slots (pc + 1) ls (rest) (mm_sl M a (va_up (mm_l M a) i.toNatClampNeg v))) : vv g nL p l e R s m args below meth c Q cells slots (pc) ls (.long v :: .int i :: .ref a :: rest) M := by
  intro H locs la hR hz hL hl
  obtain ⟨ha, hc⟩ := (hR.1 a).2.1 ht
  refine W.last x.1 x.2.1 hc ((x.2.2.2.2.2.1.2.1.2 1 _ rfl).1 (mm_n M a) (fun j => .long (mm_l M a j))) (fun q => by cases q) (by rw [arrV_size]; exact hi) rfl rfl hd fun H1 e1 z o => ?_
  refine k H1 _ la (hR.put ha z o (fun b hb => mm_eq.sl hb) (mm_atL hR.2.1 ht ha ?_)) (by rw [z]; exact hz) (lc_put hL ha) hl
  rw [e1, arrV_store]
  congr 2
  funext j
  show updV (fun j => .long (mm_l M a j)) i.toNatClampNeg (.long v) j = .long ((if a = a then va_up (mm_l M a) i.toNatClampNeg v else mm_l M a) j)
  rw [if_pos rfl]
  by_cases hq : j = i.toNatClampNeg
  · subst hq
    simp [updV, va_up]
  · simp [updV, va_up, hq]
end VV
end
section
/-! ===== fields, objects, arrays that are made ===== -/
section VF
variable {g : gg} {X : State → Prop} {own nm : String} {cc : ByteArray} {nL : Nat} {ret : Option FieldType} {d lo mc ms : Nat} {p : Program} {l : Launch} {e : Env} {R : Room} {s : State} {m : MethodId} {args : Array Value} {below : List Frame} {meth : Method} {c : Code} {Q : State → Prop} {cells slots pc : Nat} {ls : List (Option Value)} {rest : List Value} {M : mm}
theorem cx.w (x : cx g X own nm cc nL ret d lo mc ms p R s m meth c) {w : Cond} (h : w ∈ gg_W g) {a : Array Value} : w.before a s = true := (x.2.2.2.2.2.1.1 w h).2 a
theorem cx.ts (x : cx g X own nm cc nL ret d lo mc ms p R s m meth c) {a : Array Value} : ∀ w ∈ gg_W g, w.before a s = true := fun _ h => x.w h
/-- a class of the claim: its row in the table, its words, its types, its names apart, which of its fields are ints -/
def cf (g : gg) (ci : Nat) (r : vw_C) (ty : Nat → FieldType) : Prop := (gg_cl g)[ci]? = some r ∧ (∀ w ∈ u_ws r.1 r.2.1 r.2.2, w ∈ gg_W g) ∧ (∀ k, k < r.2.2 → parseFieldDescriptor (r.2.1 k).2.2.1 = some (ty k)) ∧ (∀ a, a < r.2.2 → ∀ b, b < r.2.2 → a ≠ b → (r.2.1 a).2.1 ≠ (r.2.1 b).2.1) ∧ ∀ k, k < r.2.2 → defaultValue (ty k) = if gg_ik g ci k = true then .int 0 else .null
theorem mm_v_i {ik : Nat → Nat → Bool} {M : mm} {c k a : Nat} (h : ik c k = true) : mm_v ik M c k a = .int (mm_i M c k a) := by rw [mm_v, if_pos h]
theorem mm_v_r {ik : Nat → Nat → Bool} {M : mm} {c k a : Nat} (h : ik c k = false) (h0 : mm_r M c k a ≠ 0) : mm_v ik M c k a = .ref (mm_f M c k a) := by
  rw [mm_v, if_neg (by rw [h]; decide), mm_rv, if_neg h0]
  rfl
theorem vv_geti (x : cx g X own nm cc nL ret d lo mc ms p R s m meth c) {ci k idx a : Nat} {r : vw_C} {ty : Nat → FieldType} {ref : String} (hd : decode cc pc = .ok (.getfield idx, 3)) (hc : cf g ci r ty) (hk : k < r.2.2) (hw : Cond.fieldLink own idx ref (r.2.1 k).2.1 (r.2.1 k).2.2.1 ∈ gg_W g) (hsame : ref = (r.2.1 k).1 ∨ Cond.sameField ref (r.2.1 k).1 (r.2.1 k).2.1 (r.2.1 k).2.2.1 ∈ gg_W g) (hik : gg_ik g ci k = true) (ht : mm_t M a = ci + 1)
    (kk : vv g nL p l e R s m args below meth c Q cells slots (pc + 3) ls (.int (mm_i M ci k a) :: rest) M) : vv g nL p l e R s m args below meth c Q cells slots (pc) ls (.ref a :: rest) M := by
  intro H locs la hR hz hL hl
  obtain ⟨ha, cell, q1, q2, q3, q4⟩ := (hR.1 a).2.2.2.1 ci r ht hc.1
  obtain ⟨hS, hfc, kC, hkC, hkind⟩ := x.2.2.2.2.2.1.2.1.1 ci r hc.1
  obtain ⟨cf9, kf, fi, f, hi, hsl⟩ := hS k hk
  have hi2 : s.fieldFound? ref (r.2.1 k).2.1 (r.2.1 k).2.2.1 = some (cf9, kf, fi, f) := by
    rcases hsame with h | h
    · rw [h]; exact hi
    · exact u_same (x.w (a := args) h) _ hi
  refine W.getf x.1 x.2.1 x.2.2.2.1 (x.w hw) hi2 (u_facts (args := args) hfc hkC (u_lays x.ts hc.2.1 hk) hi).1 q1 (by rw [q3]; exact fun h => by cases h) (v := .int (mm_i M ci k a)) ?_ rfl rfl hd (kk H locs la hR hz hL hl)
  rw [hsl, q4 k hk]
  exact congrArg some (mm_v_i hik)
theorem vv_getr (x : cx g X own nm cc nL ret d lo mc ms p R s m meth c) {ci k idx a : Nat} {r : vw_C} {ty : Nat → FieldType} {ref : String} (hd : decode cc pc = .ok (.getfield idx, 3)) (hc : cf g ci r ty) (hk : k < r.2.2) (hw : Cond.fieldLink own idx ref (r.2.1 k).2.1 (r.2.1 k).2.2.1 ∈ gg_W g) (hsame : ref = (r.2.1 k).1 ∨ Cond.sameField ref (r.2.1 k).1 (r.2.1 k).2.1 (r.2.1 k).2.2.1 ∈ gg_W g) (hik : gg_ik g ci k = false) (h0 : mm_r M ci k a ≠ 0) (ht : mm_t M a = ci + 1)
    (kk : vv g nL p l e R s m args below meth c Q cells slots (pc + 3) ls (.ref (mm_f M ci k a) :: rest) M) : vv g nL p l e R s m args below meth c Q cells slots (pc) ls (.ref a :: rest) M := by
  intro H locs la hR hz hL hl
  obtain ⟨ha, cell, q1, q2, q3, q4⟩ := (hR.1 a).2.2.2.1 ci r ht hc.1
  obtain ⟨hS, hfc, kC, hkC, hkind⟩ := x.2.2.2.2.2.1.2.1.1 ci r hc.1
  obtain ⟨cf9, kf, fi, f, hi, hsl⟩ := hS k hk
  have hi2 : s.fieldFound? ref (r.2.1 k).2.1 (r.2.1 k).2.2.1 = some (cf9, kf, fi, f) := by
    rcases hsame with h | h
    · rw [h]; exact hi
    · exact u_same (x.w (a := args) h) _ hi
  refine W.getf x.1 x.2.1 x.2.2.2.1 (x.w hw) hi2 (u_facts (args := args) hfc hkC (u_lays x.ts hc.2.1 hk) hi).1 q1 (by rw [q3]; exact fun h => by cases h) (v := .ref (mm_f M ci k a)) ?_ rfl rfl hd (kk H locs la hR hz hL hl)
  rw [hsl, q4 k hk]
  exact congrArg some (mm_v_r hik h0)
theorem vv_puti (x : cx g X own nm cc nL ret d lo mc ms p R s m meth c) {ci k idx a : Nat} {r : vw_C} {ty : Nat → FieldType} {ref : String} {v : Int32} (hd : decode cc pc = .ok (.putfield idx, 3)) (hc : cf g ci r ty) (hk : k < r.2.2) (hw : Cond.fieldLink own idx ref (r.2.1 k).2.1 (r.2.1 k).2.2.1 ∈ gg_W g) (hsame : ref = (r.2.1 k).1 ∨ Cond.sameField ref (r.2.1 k).1 (r.2.1 k).2.1 (r.2.1 k).2.2.1 ∈ gg_W g) (hfin : (r.2.1 k).2.2.2 = false) (hn : narrow (ty k) (.int v) = .int v) (hfit : fits (ty k) (.int v) = true) (hik : gg_ik g ci k = true) (ht : mm_t M a = ci + 1)
    (kk : vv g nL p l e R s m args below meth c Q cells slots (pc + 3) ls (rest) (mm_si M ci k a v)) : vv g nL p l e R s m args below meth c Q cells slots (pc) ls (.int v :: .ref a :: rest) M := by
  intro H locs la hR hz hL hl
  obtain ⟨ha, cell, q1, q2, q3, q4⟩ := (hR.1 a).2.2.2.1 ci r ht hc.1
  have hap := va_apart (own := own) (args := args) x.ts hc.2.1 ty hc.2.2.1 hc.2.2.2.1 x.2.2.2.2.2.1.2.1 hc.1
  obtain ⟨hS, hfc, kC, hkC, hkind⟩ := x.2.2.2.2.2.1.2.1.1 ci r hc.1
  obtain ⟨cf9, kf, fi, f, hi, hsl⟩ := hS k hk
  have hi2 : s.fieldFound? ref (r.2.1 k).2.1 (r.2.1 k).2.2.1 = some (cf9, kf, fi, f) := by
    rcases hsame with h | h
    · rw [h]; exact hi
    · exact u_same (x.w (a := args) h) _ hi
  have hlay := x.w (a := args) (hc.2.1 _ (u_in_lay hk))
  unfold u_lay at hlay
  rw [if_neg (by rw [hfin]; decide)] at hlay
  have hst := (u_facts (args := args) hfc hkC (u_lays x.ts hc.2.1 hk) hi).1
  have h6 := u_store hfc hkC hkind hlay hi (hc.2.2.1 k hk) hn hfit
  refine W.putK x.1 x.2.1 (f := f) ⟨x.2.2.2.1, x.w hw, ⟨_, _, _, hi2⟩, hst⟩ (by rw [q2]; exact h6) q1 q3 (by rw [hsl]; exact k2_hasslot (q4 k hk)) rfl rfl hd fun H1 e1 e2 e3 => ?_
  rw [hsl] at e1 ⊢
  refine kk H1 _ la (hR.put ha e2 e3 (fun b hb => mm_eq.si hb) (mm_atO hR.2.1 ht hc.1 ha (t_OB.to (V := updV (fun k => mm_v (gg_ik g) M ci k a) k (.int v)) ⟨_, e1, q2, q3, t_set q4 hap hk (.int v)⟩ (fun j _ => ?_)))) (by rw [e2]; exact hz) (lc_put hL ha) hl
  by_cases hj : j = k
  · subst hj
    simp [updV, mm_v, mm_si, mm_i, hik, mm_rv]
  · have e9 : mm_v (gg_ik g) (mm_si M ci k a v) ci j a = mm_v (gg_ik g) M ci j a := by
      unfold mm_v
      rw [show mm_i (mm_si M ci k a v) ci j a = mm_i M ci j a from if_neg (fun z => hj z.2.1)]
      rfl
    rw [e9]
    simp [updV, hj]
theorem vv_putiF (x : cx g X own nm cc nL ret d lo mc ms p R s m meth c) {ci k idx a : Nat} {r : vw_C} {ty : Nat → FieldType} {ref : String} {v : Int32} (hd : decode cc pc = .ok (.putfield idx, 3)) (hc : cf g ci r ty) (hk : k < r.2.2) (hw : Cond.fieldLink own idx ref (r.2.1 k).2.1 (r.2.1 k).2.2.1 ∈ gg_W g) (hsame : ref = (r.2.1 k).1 ∨ Cond.sameField ref (r.2.1 k).1 (r.2.1 k).2.1 (r.2.1 k).2.2.1 ∈ gg_W g) (hfin : (r.2.1 k).2.2.2 = true) (hin2 : nm = "<init>") (hdecl : (r.2.1 k).1 = own) (hn : narrow (ty k) (.int v) = .int v) (hfit : fits (ty k) (.int v) = true) (hik : gg_ik g ci k = true) (ht : mm_t M a = ci + 1)
    (kk : vv g nL p l e R s m args below meth c Q cells slots (pc + 3) ls (rest) (mm_si M ci k a v)) : vv g nL p l e R s m args below meth c Q cells slots (pc) ls (.int v :: .ref a :: rest) M := by
  intro H locs la hR hz hL hl
  obtain ⟨ha, cell, q1, q2, q3, q4⟩ := (hR.1 a).2.2.2.1 ci r ht hc.1
  have hap := va_apart (own := own) (args := args) x.ts hc.2.1 ty hc.2.2.1 hc.2.2.2.1 x.2.2.2.2.2.1.2.1 hc.1
  obtain ⟨hS, hfc, kC, hkC, hkind⟩ := x.2.2.2.2.2.1.2.1.1 ci r hc.1
  obtain ⟨cf9, kf, fi, f, hi, hsl⟩ := hS k hk
  have hi2 : s.fieldFound? ref (r.2.1 k).2.1 (r.2.1 k).2.2.1 = some (cf9, kf, fi, f) := by
    rcases hsame with h | h
    · rw [h]; exact hi
    · exact u_same (x.w (a := args) h) _ hi
  have hlay := x.w (a := args) (hc.2.1 _ (u_in_lay hk))
  unfold u_lay at hlay
  rw [if_pos hfin] at hlay
  have hst := (u_facts (args := args) hfc hkC (u_lays x.ts hc.2.1 hk) hi).1
  have hcf : m.cls = cf9 := by
    obtain ⟨_, _, c', _, _, _, -, -, hf', -, -, -, hown2, -⟩ := Cond.laysFinal_spec hlay
    have e1 : c' = cf9 := by have := hi.symm.trans hf'; simp at this; exact this.1.symm
    rw [hdecl] at hown2
    rw [← e1]; exact Option.some.inj (x.2.2.2.1.symm.trans hown2)
  have h6 := u_fits hfc hkC hkind (Or.inr hlay) hi (hc.2.2.1 k hk) hn hfit
  refine W.putFinK x.1 x.2.1 x.2.2.2.1 (x.w hw) hi2 hst hcf (x.2.2.2.2.2.2.2.2.1.trans hin2) (by rw [q2]; exact h6) q1 q3 (by rw [hsl]; exact k2_hasslot (q4 k hk)) rfl rfl hd fun H1 e1 e2 e3 => ?_
  rw [hsl] at e1 ⊢
  refine kk H1 _ la (hR.put ha e2 e3 (fun b hb => mm_eq.si hb) (mm_atO hR.2.1 ht hc.1 ha (t_OB.to (V := updV (fun k => mm_v (gg_ik g) M ci k a) k (.int v)) ⟨_, e1, q2, q3, t_set q4 hap hk (.int v)⟩ (fun j _ => ?_)))) (by rw [e2]; exact hz) (lc_put hL ha) hl
  by_cases hj : j = k
  · subst hj
    simp [updV, mm_v, mm_si, mm_i, hik, mm_rv]
  · have e9 : mm_v (gg_ik g) (mm_si M ci k a v) ci j a = mm_v (gg_ik g) M ci j a := by
      unfold mm_v
      rw [show mm_i (mm_si M ci k a v) ci j a = mm_i M ci j a from if_neg (fun z => hj z.2.1)]
      rfl
    rw [e9]
    simp [updV, hj]
theorem vv_putr (x : cx g X own nm cc nL ret d lo mc ms p R s m meth c) {ci k idx a : Nat} {r : vw_C} {ty : Nat → FieldType} {ref : String} {v : Nat} (hd : decode cc pc = .ok (.putfield idx, 3)) (hc : cf g ci r ty) (hk : k < r.2.2) (hw : Cond.fieldLink own idx ref (r.2.1 k).2.1 (r.2.1 k).2.2.1 ∈ gg_W g) (hsame : ref = (r.2.1 k).1 ∨ Cond.sameField ref (r.2.1 k).1 (r.2.1 k).2.1 (r.2.1 k).2.2.1 ∈ gg_W g) (hfin : (r.2.1 k).2.2.2 = false) (hn : narrow (ty k) (.ref v) = .ref v) (hfit : fits (ty k) (.ref v) = true) (hik : gg_ik g ci k = false) (ht : mm_t M a = ci + 1)
    (kk : vv g nL p l e R s m args below meth c Q cells slots (pc + 3) ls (rest) (mm_sr M ci k a v)) : vv g nL p l e R s m args below meth c Q cells slots (pc) ls (.ref v :: .ref a :: rest) M := by
  intro H locs la hR hz hL hl
  obtain ⟨ha, cell, q1, q2, q3, q4⟩ := (hR.1 a).2.2.2.1 ci r ht hc.1
  have hap := va_apart (own := own) (args := args) x.ts hc.2.1 ty hc.2.2.1 hc.2.2.2.1 x.2.2.2.2.2.1.2.1 hc.1
  obtain ⟨hS, hfc, kC, hkC, hkind⟩ := x.2.2.2.2.2.1.2.1.1 ci r hc.1
  obtain ⟨cf9, kf, fi, f, hi, hsl⟩ := hS k hk
  have hi2 : s.fieldFound? ref (r.2.1 k).2.1 (r.2.1 k).2.2.1 = some (cf9, kf, fi, f) := by
    rcases hsame with h | h
    · rw [h]; exact hi
    · exact u_same (x.w (a := args) h) _ hi
  have hlay := x.w (a := args) (hc.2.1 _ (u_in_lay hk))
  unfold u_lay at hlay
  rw [if_neg (by rw [hfin]; decide)] at hlay
  have hst := (u_facts (args := args) hfc hkC (u_lays x.ts hc.2.1 hk) hi).1
  have h6 := u_store hfc hkC hkind hlay hi (hc.2.2.1 k hk) hn hfit
  refine W.putK x.1 x.2.1 (f := f) ⟨x.2.2.2.1, x.w hw, ⟨_, _, _, hi2⟩, hst⟩ (by rw [q2]; exact h6) q1 q3 (by rw [hsl]; exact k2_hasslot (q4 k hk)) rfl rfl hd fun H1 e1 e2 e3 => ?_
  rw [hsl] at e1 ⊢
  refine kk H1 _ la (hR.put ha e2 e3 (fun b hb => mm_eq.sr hb) (mm_atO hR.2.1 ht hc.1 ha (t_OB.to (V := updV (fun k => mm_v (gg_ik g) M ci k a) k (.ref v)) ⟨_, e1, q2, q3, t_set q4 hap hk (.ref v)⟩ (fun j _ => ?_)))) (by rw [e2]; exact hz) (lc_put hL ha) hl
  by_cases hj : j = k
  · subst hj
    simp [updV, mm_v, mm_sr, mm_r, hik, mm_rv]
  · have e9 : mm_v (gg_ik g) (mm_sr M ci k a v) ci j a = mm_v (gg_ik g) M ci j a := by
      unfold mm_v
      rw [show mm_r (mm_sr M ci k a v) ci j a = mm_r M ci j a from if_neg (fun z => hj z.2.1)]
      rfl
    rw [e9]
    simp [updV, hj]
theorem vv_putrF (x : cx g X own nm cc nL ret d lo mc ms p R s m meth c) {ci k idx a : Nat} {r : vw_C} {ty : Nat → FieldType} {ref : String} {v : Nat} (hd : decode cc pc = .ok (.putfield idx, 3)) (hc : cf g ci r ty) (hk : k < r.2.2) (hw : Cond.fieldLink own idx ref (r.2.1 k).2.1 (r.2.1 k).2.2.1 ∈ gg_W g) (hsame : ref = (r.2.1 k).1 ∨ Cond.sameField ref (r.2.1 k).1 (r.2.1 k).2.1 (r.2.1 k).2.2.1 ∈ gg_W g) (hfin : (r.2.1 k).2.2.2 = true) (hin2 : nm = "<init>") (hdecl : (r.2.1 k).1 = own) (hn : narrow (ty k) (.ref v) = .ref v) (hfit : fits (ty k) (.ref v) = true) (hik : gg_ik g ci k = false) (ht : mm_t M a = ci + 1)
    (kk : vv g nL p l e R s m args below meth c Q cells slots (pc + 3) ls (rest) (mm_sr M ci k a v)) : vv g nL p l e R s m args below meth c Q cells slots (pc) ls (.ref v :: .ref a :: rest) M := by
  intro H locs la hR hz hL hl
  obtain ⟨ha, cell, q1, q2, q3, q4⟩ := (hR.1 a).2.2.2.1 ci r ht hc.1
  have hap := va_apart (own := own) (args := args) x.ts hc.2.1 ty hc.2.2.1 hc.2.2.2.1 x.2.2.2.2.2.1.2.1 hc.1
  obtain ⟨hS, hfc, kC, hkC, hkind⟩ := x.2.2.2.2.2.1.2.1.1 ci r hc.1
  obtain ⟨cf9, kf, fi, f, hi, hsl⟩ := hS k hk
  have hi2 : s.fieldFound? ref (r.2.1 k).2.1 (r.2.1 k).2.2.1 = some (cf9, kf, fi, f) := by
    rcases hsame with h | h
    · rw [h]; exact hi
    · exact u_same (x.w (a := args) h) _ hi
  have hlay := x.w (a := args) (hc.2.1 _ (u_in_lay hk))
  unfold u_lay at hlay
  rw [if_pos hfin] at hlay
  have hst := (u_facts (args := args) hfc hkC (u_lays x.ts hc.2.1 hk) hi).1
  have hcf : m.cls = cf9 := by
    obtain ⟨_, _, c', _, _, _, -, -, hf', -, -, -, hown2, -⟩ := Cond.laysFinal_spec hlay
    have e1 : c' = cf9 := by have := hi.symm.trans hf'; simp at this; exact this.1.symm
    rw [hdecl] at hown2
    rw [← e1]; exact Option.some.inj (x.2.2.2.1.symm.trans hown2)
  have h6 := u_fits hfc hkC hkind (Or.inr hlay) hi (hc.2.2.1 k hk) hn hfit
  refine W.putFinK x.1 x.2.1 x.2.2.2.1 (x.w hw) hi2 hst hcf (x.2.2.2.2.2.2.2.2.1.trans hin2) (by rw [q2]; exact h6) q1 q3 (by rw [hsl]; exact k2_hasslot (q4 k hk)) rfl rfl hd fun H1 e1 e2 e3 => ?_
  rw [hsl] at e1 ⊢
  refine kk H1 _ la (hR.put ha e2 e3 (fun b hb => mm_eq.sr hb) (mm_atO hR.2.1 ht hc.1 ha (t_OB.to (V := updV (fun k => mm_v (gg_ik g) M ci k a) k (.ref v)) ⟨_, e1, q2, q3, t_set q4 hap hk (.ref v)⟩ (fun j _ => ?_)))) (by rw [e2]; exact hz) (lc_put hL ha) hl
  by_cases hj : j = k
  · subst hj
    simp [updV, mm_v, mm_sr, mm_r, hik, mm_rv]
  · have e9 : mm_v (gg_ik g) (mm_sr M ci k a v) ci j a = mm_v (gg_ik g) M ci j a := by
      unfold mm_v
      rw [show mm_r (mm_sr M ci k a v) ci j a = mm_r M ci j a from if_neg (fun z => hj z.2.1)]
      rfl
    rw [e9]
    simp [updV, hj]
theorem vv_new (x : cx g X own nm cc nL ret d lo mc ms p R s m meth c) {ci idx : Nat} {r : vw_C} {ty : Nat → FieldType} (hd : decode cc pc = .ok (.new idx, 3)) (hc : cf g ci r ty) (hw : Cond.classLink own idx r.1 ∈ gg_W g) (hw2 : Cond.instantiable r.1 r.2.2 ∈ gg_W g) (hw3 : Cond.initialized r.1 ∈ gg_W g) (h1 : cells + 1 ≤ mc) (h2 : slots + r.2.2 ≤ ms)
    (kk : ∀ q : Nat, mm_t M q = 0 → vv g nL p l e R s m args below meth c Q (cells + 1) (slots + r.2.2) (pc + 3) ls (.ref q :: rest) (mm_nw M q (ci + 1) 0)) : vv g nL p l e R s m args below meth c Q cells slots (pc) ls (rest) M := by
  intro H locs la hR hz hL hl
  have hKn := x.2.2.2.2.2.1.2.1.1 ci r hc.1
  have hRr := x.2.2.2.2.2.2.1
  refine W.newcK x.1 x.2.1 x.2.2.2.1 (x.w hw) (x.w hw2) (x.w hw3) rfl hd (by rw [hRr]; exact h1) (by rw [hRr]; exact h2) hKn.2.1 rfl fun H1 kC hkC e1 z1 o1 => ?_
  refine kk H.size hR.fresh H1 locs la (hR.push rfl z1 o1 (fun b hb => mm_eq.nw hb) (mm_atO (c := ci) hR.2.1 (by simp [mm_nw, mm_t]) hc.1 hR.2.2.2.1 ((u_born ty (args := args) x.ts hc.2.1 hKn hkC e1 hc.2.2.1).to (fun k hk => ?_)))) (by omega) hL hl
  rw [hc.2.2.2.2 k hk]
  simp [mm_v, mm_nw, mm_i, mm_r, mm_rv]
theorem vv_newI (x : cx g X own nm cc nL ret d lo mc ms p R s m meth c) {n : Int32} (hd : decode cc pc = .ok (.newarray .int, 2)) (hw : Cond.arrayClass .int ∈ gg_W g) (hn : ¬ n < 0) (hN : n.toNatClampNeg ≤ 100000) (h1 : cells + 1 ≤ mc) (h2 : slots + n.toNatClampNeg ≤ ms)
    (kk : ∀ q : Nat, mm_t M q = 0 → vv g nL p l e R s m args below meth c Q (cells + 1) (slots + n.toNatClampNeg) (pc + 2) ls (.ref q :: rest) (mm_nw M q 100 n.toNatClampNeg)) : vv g nL p l e R s m args below meth c Q cells slots (pc) ls (.int n :: rest) M := by
  intro H locs la hR hz hL hl
  have hRr := x.2.2.2.2.2.2.1
  have hRA : s.vm.findClass ("[" ++ (FieldType.toString .int)) = some (gg_I g) := (x.2.2.2.2.2.1.2.1.2 0 _ rfl).2
  refine va_newaK (atype := .int) x.1 x.2.1 (x.w hw) rfl hd rfl hn rfl (by show _ * componentBytes .int ≤ _; simp only [componentBytes]; omega) (by rw [hRr]; exact h1) (by rw [hRr]; exact h2) rfl fun H1 cA e1 z1 o1 hAr hNm => ?_
  have hcA : cA = gg_I g := Option.some.inj (hNm.symm.trans hRA)
  subst hcA
  refine kk H.size hR.fresh H1 locs la (hR.push rfl z1 o1 (fun b hb => mm_eq.nw hb) (mm_atI hR.2.1 (by simp [mm_nw, mm_t]) hR.2.2.2.1 ?_)) (by omega) hL hl
  rw [e1]
  simp [mm_nw, mm_n, mm_a, mm_l, newarray.typeOf, defaultValue]
theorem vv_newL (x : cx g X own nm cc nL ret d lo mc ms p R s m meth c) {n : Int32} (hd : decode cc pc = .ok (.newarray .long, 2)) (hw : Cond.arrayClass .long ∈ gg_W g) (hn : ¬ n < 0) (hN : n.toNatClampNeg ≤ 100000) (h1 : cells + 1 ≤ mc) (h2 : slots + n.toNatClampNeg ≤ ms)
    (kk : ∀ q : Nat, mm_t M q = 0 → vv g nL p l e R s m args below meth c Q (cells + 1) (slots + n.toNatClampNeg) (pc + 2) ls (.ref q :: rest) (mm_nw M q 101 n.toNatClampNeg)) : vv g nL p l e R s m args below meth c Q cells slots (pc) ls (.int n :: rest) M := by
  intro H locs la hR hz hL hl
  have hRr := x.2.2.2.2.2.2.1
  have hRA : s.vm.findClass ("[" ++ (FieldType.toString .long)) = some (gg_L g) := (x.2.2.2.2.2.1.2.1.2 1 _ rfl).2
  refine va_newaK (atype := .long) x.1 x.2.1 (x.w hw) rfl hd rfl hn rfl (by show _ * componentBytes .long ≤ _; simp only [componentBytes]; omega) (by rw [hRr]; exact h1) (by rw [hRr]; exact h2) rfl fun H1 cA e1 z1 o1 hAr hNm => ?_
  have hcA : cA = gg_L g := Option.some.inj (hNm.symm.trans hRA)
  subst hcA
  refine kk H.size hR.fresh H1 locs la (hR.push rfl z1 o1 (fun b hb => mm_eq.nw hb) (mm_atL hR.2.1 (by simp [mm_nw, mm_t]) hR.2.2.2.1 ?_)) (by omega) hL hl
  rw [e1]
  simp [mm_nw, mm_n, mm_a, mm_l, newarray.typeOf, defaultValue]
theorem vv_newQ (x : cx g X own nm cc nL ret d lo mc ms p R s m meth c) {n : Int32} {idx : Nat} (hd : decode cc pc = .ok (.anewarray idx, 3)) (hw : Cond.classLink own idx "java/lang/Object" ∈ gg_W g) (hw2 : Cond.arrayOver (.object "java/lang/Object") ∈ gg_W g) (hn : ¬ n < 0) (hN : n.toNatClampNeg ≤ 100000) (h1 : cells + 1 ≤ mc) (h2 : slots + n.toNatClampNeg ≤ ms)
    (kk : ∀ q : Nat, mm_t M q = 0 → vv g nL p l e R s m args below meth c Q (cells + 1) (slots + n.toNatClampNeg) (pc + 3) ls (.ref q :: rest) (mm_nw M q 102 n.toNatClampNeg)) : vv g nL p l e R s m args below meth c Q cells slots (pc) ls (.int n :: rest) M := by
  intro H locs la hR hz hL hl
  have hRr := x.2.2.2.2.2.2.1
  obtain ⟨kA9, comp9, -, -, -, hRA⟩ := (x.2.2.2.2.2.1.2.1.2 2 _ rfl).2
  refine W.anew x.1 x.2.1 x.2.2.2.1 (x.w hw) (x.w hw2) rfl hd rfl hn (by omega) (by rw [hRr]; exact h1) (by rw [hRr]; exact h2) fun cA kA comp f1 f2 f3 f4 => ?_
  have hcA : cA = gg_Q g := Option.some.inj (f1.symm.trans hRA)
  subst hcA
  refine kk H.size hR.fresh _ locs la (hR.push rfl (by rw [Array.size_push]) (fun q hq => by rw [Array.getElem?_push, if_neg (Nat.ne_of_lt hq)]) (fun b hb => mm_eq.nw hb) (mm_atQ hR.2.1 (by simp [mm_nw, mm_t]) hR.2.2.2.1 ?_)) (by rw [Array.size_push]; omega) hL hl
  have e9 : arrV (gg_Q g) (mm_n (mm_nw M H.size 102 n.toNatClampNeg) H.size) (fun j => mm_rv (mm_q (mm_nw M H.size 102 n.toNatClampNeg) H.size j)) = arrV (gg_Q g) n.toNatClampNeg (fun _ => .null) := by simp [mm_nw, mm_n, mm_q, mm_rv]
  rw [e9, Array.getElem?_push_size, ← arrV_new]
/-- an object of a class, as a receiver -/
theorem mm_recv (x : cx g X own nm cc nL ret d lo mc ms p R s m meth c) {ci a : Nat} {r : vw_C} {H : Heap} (hR : mm_R g M H) (hc : (gg_cl g)[ci]? = some r) (ht : mm_t M a = ci + 1) : ∃ cell : Cell, H[a]? = some cell ∧ cell.vm.isStatics = false ∧ s.vm.findClass r.1 = some cell.cls := by
  obtain ⟨ha, cell, q1, q2, q3, q4⟩ := (hR.1 a).2.2.2.1 ci r ht hc
  exact ⟨cell, q1, by rw [q3]; rfl, by rw [q2]; exact (x.2.2.2.2.2.1.2.1.1 ci r hc).2.1⟩
theorem vv_cast (x : cx g X own nm cc nL ret d lo mc ms p R s m meth c) {ci idx a : Nat} {r : vw_C} {ty : Nat → FieldType} (hd : decode cc pc = .ok (.checkcast idx, 3)) (hc : cf g ci r ty) (hw : Cond.classLink own idx r.1 ∈ gg_W g) (ht : mm_t M a = ci + 1)
    (kk : vv g nL p l e R s m args below meth c Q cells slots (pc + 3) ls (.ref a :: rest) M) : vv g nL p l e R s m args below meth c Q cells slots (pc) ls (.ref a :: rest) M :=
  fun H locs la hR hz hL hl => va_castS x.1 x.2.1 x.2.2.2.1 (x.w hw) (x.2.2.2.2.2.1.2.1.1 ci r hc.1).2 (mm_recv x hR hc.1 ht) hd (kk H locs la hR hz hL hl)
theorem vv_objInit (x : cx g X own nm cc nL ret d lo mc ms p R s m meth c) {idx a : Nat} (hd : decode cc pc = .ok (.invokespecial idx, 3)) (hw : Cond.methodLink own idx Lib.objectInit ∈ gg_W g) (hw2 : Cond.instanceMethod Lib.objectInit ∈ gg_W g) (hw3 : Cond.code Lib.objectInit ⟨#[0xb1]⟩ 1 none ∈ gg_W g) (hdd : 1 ≤ d ∧ 20 ≤ lo) (hr : (rest.map fun v => v.category).sum ≤ 8)
    (kk : vv g nL p l e R s m args below meth c Q cells slots (pc + 3) ls (rest) M) : vv g nL p l e R s m args below meth c Q cells slots (pc) ls (.ref a :: rest) M := by
  intro H locs la hR hz hL hl
  have hRr := x.2.2.2.2.2.2.1
  exact W.objInit x.1 x.2.1 x.2.2.2.1 (x.w hw) (x.w hw2) (x.w hw3) rfl (by rw [x.2.2.1]; exact hl.1) rfl hd (by rw [hRr]; exact hdd.1) (by rw [hRr]; show 2 * 0 + _ + 12 ≤ lo; omega) (kk H locs la hR hz hL hl)
end VF
/-! ===== contracts ===== -/
def ok_P (g : gg) (X : State → Prop) (av : List Value) (M : mm) : Array Value → State → Prop := fun a U => a = av.toArray ∧ mm_R g M U.heap ∧ kk_K g X U
def ok_Q (g : gg) (Qr : Option Value → mm → Prop) : Array Value → State → Outcome → State → Prop := fun _ st o t => ∃ (v : Option Value) (M' : mm), o = .returned v ∧ Qr v M' ∧ mm_R g M' t.heap ∧ st.heap.size ≤ t.heap.size
abbrev ok_F (g : gg) : Addr → Prop := fun q => (gg_H g).size ≤ q
/-- y, called with av in the memory M, returns: the answer and the memory are as Qr says -/
def Ok (g : gg) (X : State → Prop) (l : Launch) (y : MethodName) (cc : ByteArray) (nL : Nat) (ret : Option FieldType) (d lo mc ms : Nat) (av : List Value) (M : mm) (Qr : Option Value → mm → Prop) : Prop :=
  Met l y [.code y cc nL ret] (rm d lo mc ms) (ok_P g X av M) (ok_Q g Qr) mc ms (ok_F g)
theorem ok_blind {g : gg} {X : State → Prop} {av : List Value} {M : mm} : FrameBlind (ok_P g X av M) := fun a U _ mk q => ⟨q.1, q.2.1, kk_K.warm (State.WarmedH.refl U) q.2.2⟩
theorem ok_pre {g : gg} {X : State → Prop} {av : List Value} {M : mm} {s : State} {H : Heap} (hR : mm_R g M H) (hK : kk_K g X s) : ∀ U : State, U.heap = H → s.WarmedH U.vm → ok_P g X av M av.toArray U := fun U hU hW => ⟨rfl, by rw [hU]; exact hR, kk_K.warm hW hK⟩
def lz_en (av : List Value) (nL : Nat) : List (Option Value) := av.map some ++ List.replicate (nL - av.length) none
theorem lg_sl_1 : ∀ {av : List Value}, (∀ v ∈ av, v.category = 1) → lg_sl av = av.map Slot.val
  | [], _ => rfl
  | v :: vs, h => by
    have h1 : ¬ v.category = 2 := by rw [h v List.mem_cons_self]; decide
    have h2 := lg_sl_1 (av := vs) (fun w hw => h w (List.mem_cons_of_mem _ hw))
    simp only [lg_sl] at h2 ⊢
    simp [h1, h2]
theorem lz_entry {av : List Value} {nL : Nat} (hl : av.length ≤ nL) (hc : ∀ v ∈ av, v.category = 1) : lz ((lg_sl av ++ List.replicate (nL - (lg_sl av).length) Slot.unset).toArray) nL (lz_en av nL) := by
  have h0 := lv_entry av (n := nL) (by rw [lg_sl_1 hc, List.length_map]; exact hl)
  refine ⟨h0.1, h0.2.1, fun i v hi => ?_⟩
  unfold lz_en at hi
  by_cases h1 : i < av.length
  · rw [List.getElem?_append_left (by rw [List.length_map]; exact h1), List.getElem?_map] at hi
    have h2 : av[i]? = some v := by
      cases h3 : av[i]? with
      | none => rw [h3] at hi; cases hi
      | some w => rw [h3] at hi; simp at hi; rw [hi]
    refine ⟨hc v (List.mem_of_getElem? h2), ?_⟩
    rw [lg_sl_1 hc, List.getElem?_toArray, List.getElem?_append_left (by rw [List.length_map]; exact h1), List.getElem?_map, h2]
    rfl
  · rw [List.getElem?_append_right (by rw [List.length_map]; omega)] at hi
    have h2 := List.eq_of_mem_replicate (List.mem_of_getElem? hi)
    cases h2
section VC
variable {g : gg} {X : State → Prop} {own nm : String} {cc : ByteArray} {nL : Nat} {ret : Option FieldType} {d lo mc ms : Nat} {p : Program} {l : Launch} {e : Env} {R : Room} {s : State} {m : MethodId} {args : Array Value} {below : List Frame} {meth : Method} {c : Code} {Q : State → Prop} {cells slots pc : Nat} {ls : List (Option Value)} {rest : List Value} {M : mm}
variable {y : MethodName} {cc2 : ByteArray} {nL2 d2 lo2 mc2 ms2 idx : Nat} {ret2 : Option FieldType} {av : List Value} {Qr : Option Value → mm → Prop}
theorem ok_start (hy : plainName y.cls = true) (hl : av.length ≤ nL) (hav : ∀ v ∈ av, v.category = 1)
    (body : ∀ (p : Program) (e : Env) (s : State) (m : MethodId) (args : Array Value) (below : List Frame) (meth : Method) (c : Code), cx g X y.cls y.name cc nL ret d lo mc ms p (rm d lo mc ms) s m meth c → vv g nL p l e (rm d lo mc ms) s m args below meth c (MQ below (ok_Q g Qr) args s mc ms (ok_F g)) 0 0 0 (lz_en av nL) [] M) : Ok g X l y cc nL ret d lo mc ms av M Qr := by
  refine Met.ofW (cc := cc) (maxL := nL) (ret := ret) hy rfl ?_
  intro p e s m args below meth c s₁ B hml hv
  obtain ⟨rfl, hR, hK⟩ := hv
  rw [lg_entry_eq]
  exact body p e s m _ below meth c ⟨B.exec, B.bytes, hml, findClass_of_methodNamed B.named, B.notSynchronized, hK, rfl, B.returns, (name_of_methodNamed B.named B.method).1, hR.2.2.2.1, hR.2.2.2.2⟩ s.heap [] _ hR (Nat.le_refl _) (fun q h => nomatch h) (lz_entry hl hav)
theorem vv_iret (x : cx g X own nm cc nL ret d lo mc ms p R s m meth c) {v : Int32} (hd : decode cc pc = .ok (.ireturn, 1)) (hr : ret = some .int) (h1 : cells ≤ mc) (h2 : slots ≤ ms) (hq : Qr (some (.int v)) M) : vv g nL p l e R s m args below meth c (MQ below (ok_Q g Qr) args s mc ms (ok_F g)) cells slots pc ls [.int v] M :=
  fun H locs la hR hz hL hl => W.widen h1 h2 (W.iret x.1 x.2.1 (x.2.2.2.2.2.2.2.1.trans hr) (fun t ht _ => ⟨_, M, rfl, hq, by rw [ht]; exact hR, by rw [ht]; exact hz⟩) hL hd x.2.2.2.2.1)
theorem vv_zret (x : cx g X own nm cc nL ret d lo mc ms p R s m meth c) {v : Int32} (hd : decode cc pc = .ok (.ireturn, 1)) (hr : ret = some .boolean) (hv : v = 0 ∨ v = 1) (h1 : cells ≤ mc) (h2 : slots ≤ ms) (hq : Qr (some (.int v)) M) : vv g nL p l e R s m args below meth c (MQ below (ok_Q g Qr) args s mc ms (ok_F g)) cells slots pc ls [.int v] M :=
  fun H locs la hR hz hL hl => W.widen h1 h2 (W.zret x.1 x.2.1 (x.2.2.2.2.2.2.2.1.trans hr) (by rcases hv with rfl | rfl <;> decide) (fun t ht _ => ⟨_, M, rfl, hq, by rw [ht]; exact hR, by rw [ht]; exact hz⟩) hL hd x.2.2.2.2.1)
theorem vv_aret (x : cx g X own nm cc nL ret d lo mc ms p R s m meth c) {v : Nat} {n : String} (hd : decode cc pc = .ok (.areturn, 1)) (hr : ret = some (.object n)) (h1 : cells ≤ mc) (h2 : slots ≤ ms) (hq : Qr (some (.ref v)) M) : vv g nL p l e R s m args below meth c (MQ below (ok_Q g Qr) args s mc ms (ok_F g)) cells slots pc ls [.ref v] M :=
  fun H locs la hR hz hL hl => W.widen h1 h2 (W.aret x.1 x.2.1 (x.2.2.2.2.2.2.2.1.trans hr) (Or.inl ⟨n, rfl⟩) (Or.inr ⟨v, rfl⟩) (fun t ht _ => ⟨_, M, rfl, hq, by rw [ht]; exact hR, by rw [ht]; exact hz⟩) hL hd x.2.2.2.2.1)
theorem vv_vret (x : cx g X own nm cc nL ret d lo mc ms p R s m meth c) (hd : decode cc pc = .ok (.return_, 1)) (hr : ret = none) (h1 : cells ≤ mc) (h2 : slots ≤ ms) (hq : Qr none M) : vv g nL p l e R s m args below meth c (MQ below (ok_Q g Qr) args s mc ms (ok_F g)) cells slots pc ls [] M :=
  fun H locs la hR hz hL hl => W.widen h1 h2 (W.vret x.1 x.2.1 (x.2.2.2.2.2.2.2.1.trans hr) (fun t ht _ => ⟨_, M, rfl, hq, by rw [ht]; exact hR, by rw [ht]; exact hz⟩) hL hd x.2.2.2.2.1)
/-- what every call needs: words, room -/
def cw (g : gg) (own : String) (idx : Nat) (y : MethodName) (cc2 : ByteArray) (nL2 : Nat) (ret2 : Option FieldType) (n : Nat) : Prop := Cond.methodLink own idx y ∈ gg_W g ∧ Cond.initialized y.cls ∈ gg_W g ∧ Cond.code y cc2 nL2 ret2 ∈ gg_W g ∧ goodWord (Cond.code y cc2 nL2 ret2) = true ∧ (y.cls ≠ "java/lang/invoke/MethodHandle" ∧ y.cls ≠ "java/lang/invoke/VarHandle") ∧ (parseMethodDescriptor y.desc).map (fun d => d.parameters.length) = some n
theorem cw.B (x : cx g X own nm cc nL ret d lo mc ms p R s m meth c) {n : Nat} (h : cw g own idx y cc2 nL2 ret2 n) (hdd : d2 + 1 ≤ d ∧ 19 + nL2 + lo2 ≤ lo) : CallB R s args own idx y cc2 nL2 ret2 [.code y cc2 nL2 ret2] (rm d2 lo2 mc2 ms2) mc2 ms2 n := by
  obtain ⟨w1, w2, w3, w4, w5, w6⟩ := h
  have hRr := x.2.2.2.2.2.2.1
  refine ⟨rfl, rfl, by rw [hRr]; exact hdd.1, by rw [hRr]; show 8 + (nL2 + 11) + lo2 ≤ lo; omega, fun w hw a' U hW => ?_, List.mem_singleton.mpr rfl, x.w w3, x.w w2, w5, fun sig h => ?_, x.w w1⟩
  · rw [List.mem_singleton.mp hw]
    exact word_at hW (good_of_word w4) (x.w (a := #[]) w3)
  · rw [h] at w6
    exact (Option.some.inj w6).symm
/-- behind a call -/
theorem vv_back (x : cx g X own nm cc nL ret d lo mc ms p R s m meth c) {b : List Value} {av2 : Array Value} {H : Heap} (hz : s.heap.size ≤ H.size) {locs : List Loc} {la : Array Slot} (hL : ∀ q ∈ locs, (gg_H g).size ≤ q.base) (hl : lz la nL ls)
    (hr : va_Run p l e R s m args below meth c H locs cells slots mc2 ms2 (F0 m pc la b) rest (ok_Q g Qr av2) (ok_F g))
    (k : ∀ (v : Option Value) (M' : mm), Qr v M' → vv g nL p l e R s m args below meth c Q (cells + mc2) (slots + ms2) (pc + 3) ls (v.toList ++ rest) M') : W p l e R s m args below meth c H locs cells slots Q (F0 m pc la b) := by
  intro T hT XX
  obtain ⟨v, st₀, t, T', L, h0, X', hLL, e1, e2, ⟨v', M', hv, hq, hR', hz'⟩, go⟩ := hr T hT XX
  cases hv
  obtain ⟨t2, a1, b1⟩ := k v M' hq T'.heap (locs ++ L) la (by rw [e1]; exact hR') (by rw [e1]; rw [h0] at hz'; omega) (fun q hq9 => (List.mem_append.mp hq9).elim (hL q) (hLL q)) hl T' rfl X'
  exact ⟨t2, go t2 a1, b1⟩
theorem vv_callS (x : cx g X own nm cc nL ret d lo mc ms p R s m meth c) {b : List Value} (hd : decode cc pc = .ok (.invokestatic idx, 3)) (hM : Ok g X l y cc2 nL2 ret2 d2 lo2 mc2 ms2 av M Qr) (hw : cw g own idx y cc2 nL2 ret2 av.length) (hw2 : Cond.static y ∈ gg_W g) (hdd : d2 + 1 ≤ d ∧ 19 + nL2 + lo2 ≤ lo) (h1 : cells + mc2 ≤ mc) (h2 : slots + ms2 ≤ ms) (hst : b = av.reverse ++ rest) (hr : (rest.map fun v => v.category).sum ≤ 8)
    (k : ∀ (v : Option Value) (M' : mm), Qr v M' → vv g nL p l e R s m args below meth c Q (cells + mc2) (slots + ms2) (pc + 3) ls (v.toList ++ rest) M') : vv g nL p l e R s m args below meth c Q cells slots (pc) ls (b) M := by
  intro H locs la hR hz hL hl
  have hRr := x.2.2.2.2.2.2.1
  exact vv_back x hz hL hl (va_runS (As := av) (rest := rest) ⟨x.1, x.2.1, x.2.2.1, x.2.2.2.1, x.ts⟩ hM ⟨hw.B x hdd, x.w hw2⟩ ⟨ok_blind, ok_pre hR x.2.2.2.2.2.1⟩ rfl rfl hl.1 hst (lv_room hr) hd ⟨by rw [hRr]; exact h1, by rw [hRr]; exact h2⟩) k
theorem vv_callV (x : cx g X own nm cc nL ret d lo mc ms p R s m meth c) {b : List Value} {ci o : Nat} {r : vw_C} (hd : decode cc pc = .ok (.invokevirtual idx, 3)) (hM : Ok g X l y cc2 nL2 ret2 d2 lo2 mc2 ms2 (.ref o :: av) M Qr) (hw : cw g own idx y cc2 nL2 ret2 av.length) (hw2 : Cond.instanceMethod y ∈ gg_W g) (hw3 : Cond.selects r.1 y y ∈ gg_W g) (hc : (gg_cl g)[ci]? = some r) (ht : mm_t M o = ci + 1) (hdd : d2 + 1 ≤ d ∧ 19 + nL2 + lo2 ≤ lo) (h1 : cells + mc2 ≤ mc) (h2 : slots + ms2 ≤ ms) (hst : b = av.reverse ++ .ref o :: rest) (hr : (rest.map fun v => v.category).sum ≤ 8)
    (k : ∀ (v : Option Value) (M' : mm), Qr v M' → vv g nL p l e R s m args below meth c Q (cells + mc2) (slots + ms2) (pc + 3) ls (v.toList ++ rest) M') : vv g nL p l e R s m args below meth c Q cells slots (pc) ls (b) M := by
  intro H locs la hR hz hL hl
  have hRr := x.2.2.2.2.2.2.1
  exact vv_back x hz hL hl (va_runV (As := av) (rest := rest) ⟨x.1, x.2.1, x.2.2.1, x.2.2.2.1, x.ts⟩ hM ⟨hw.B x hdd, x.w hw2, x.w hw3⟩ ⟨ok_blind, mm_recv x hR hc ht, ok_pre hR x.2.2.2.2.2.1⟩ rfl rfl hl.1 hst (lv_room hr) hd ⟨by rw [hRr]; exact h1, by rw [hRr]; exact h2⟩) k
theorem vv_callI (x : cx g X own nm cc nL ret d lo mc ms p R s m meth c) {b : List Value} {o : Nat} (hd : decode cc pc = .ok (.invokespecial idx, 3)) (hM : Ok g X l y cc2 nL2 none d2 lo2 mc2 ms2 (.ref o :: av) M Qr) (hw : cw g own idx y cc2 nL2 none av.length) (hy : y.name = "<init>") (hw2 : Cond.instanceMethod y ∈ gg_W g) (hdd : d2 + 1 ≤ d ∧ 19 + nL2 + lo2 ≤ lo) (h1 : cells + mc2 ≤ mc) (h2 : slots + ms2 ≤ ms) (hst : b = av.reverse ++ .ref o :: rest) (hr : (rest.map fun v => v.category).sum ≤ 8)
    (k : ∀ (v : Option Value) (M' : mm), Qr v M' → vv g nL p l e R s m args below meth c Q (cells + mc2) (slots + ms2) (pc + 3) ls (v.toList ++ rest) M') : vv g nL p l e R s m args below meth c Q cells slots (pc) ls (b) M := by
  intro H locs la hR hz hL hl
  have hRr := x.2.2.2.2.2.2.1
  exact vv_back x hz hL hl (va_runI (As := av) (rest := rest) ⟨x.1, x.2.1, x.2.2.1, x.2.2.2.1, x.ts⟩ hM ⟨hw.B x hdd, hy, x.w hw2⟩ ⟨ok_blind, ok_pre hR x.2.2.2.2.2.1⟩ rfl rfl hl.1 hst (lv_room hr) hd ⟨by rw [hRr]; exact h1, by rw [hRr]; exact h2⟩) k
end VC
end
section
/-! ===== arraycopy, arrays of objects ===== -/
theorem nn_clamp {z : Int32} (hz : ¬ z < 0) : z.toInt = (z.toNatClampNeg : Int) := by
  have hz0 : (0 : Int) ≤ z.toInt := by
    have := Int32.not_lt.mp hz
    simpa using Int32.le_iff_toInt_le.mp this
  show z.toInt = ((z.toInt.toNat : Nat) : Int)
  omega
section VG
variable {g : gg} {X : State → Prop} {own nm : String} {cc : ByteArray} {nL : Nat} {ret : Option FieldType} {d lo mc ms : Nat} {p : Program} {l : Launch} {e : Env} {R : Room} {s : State} {m : MethodId} {args : Array Value} {below : List Frame} {meth : Method} {c : Code} {Q : State → Prop} {cells slots pc : Nat} {ls : List (Option Value)} {rest : List Value} {M : mm}
theorem vv_copyI (x : cx g X own nm cc nL ret d lo mc ms p R s m meth c) {idx a0 a : Nat} {sp dp n : Int32} (hd : decode cc pc = .ok (.invokestatic idx, 3)) (w1 : Cond.methodLink own idx arraycopyName ∈ gg_W g) (w2 : Cond.native arraycopyName ∈ gg_W g) (w3 : Cond.static arraycopyName ∈ gg_W g) (w4 : Cond.initialized "java/lang/System" ∈ gg_W g) (ht0 : mm_t M a0 = 100) (ht1 : mm_t M a = 100)
    (h1 : ¬ sp < 0) (h2 : ¬ dp < 0) (h3 : ¬ n < 0) (h4 : sp.toNatClampNeg + n.toNatClampNeg ≤ mm_n M a0) (h5 : dp.toNatClampNeg + n.toNatClampNeg ≤ mm_n M a) (hdd : 1 ≤ d ∧ 8 + (nativeFrameWords "java/lang/System" "arraycopy" 5 + 11) ≤ lo) (hr : (rest.map fun v => v.category).sum ≤ 8)
    (kk : vv g nL p l e R s m args below meth c Q cells slots (pc + 3) ls (rest) (mm_sa M a (va_cpy (mm_a M a0) (mm_a M a) sp.toNatClampNeg dp.toNatClampNeg n.toNatClampNeg))) : vv g nL p l e R s m args below meth c Q cells slots (pc) ls (.int n :: .int dp :: .ref a :: .int sp :: .ref a0 :: rest) M := by
  intro H locs la hR hz hL hl T hT XX
  have hRr := x.2.2.2.2.2.2.1
  obtain ⟨-, hc0⟩ := (hR.1 a0).1 ht0
  obtain ⟨ha, hc1⟩ := (hR.1 a).1 ht1
  obtain ⟨-, k0, hk0, cm0, hkk0⟩ := (x.2.2.2.2.2.1.2.1.2 0 _ rfl).1 (mm_n M a0) (fun j => Value.int (mm_a M a0 j))
  obtain ⟨-, k1, hk1, cm1, hkk1⟩ := (x.2.2.2.2.2.1.2.1.2 0 _ rfl).1 (mm_n M a) (fun j => Value.int (mm_a M a j))
  obtain ⟨vm', X', step⟩ := XX.arraycopy x.1 x.2.2.2.1 (x.w w1) (x.w w2) (x.w w3) (x.w w4) (src := a0) (dst := a) (cs := arrV (gg_I g) (mm_n M a0) (fun j => Value.int (mm_a M a0 j))) (cd := arrV (gg_I g) (mm_n M a) (fun j => Value.int (mm_a M a j))) (srcPos := sp) (destPos := dp) (n := n) (by rw [hT]; exact hc0) (by rw [hT]; exact hc1)
    (fun _ h => by cases h) (fun _ h => by cases h) (fun h => by cases h) (fun h => by cases h) hk0 hk1 hkk0 hkk1 (by simp [refKind]) h1 h2 h3
    (by rw [nn_clamp h1, nn_clamp h3, arrV_size]; omega)
    (by rw [nn_clamp h2, nn_clamp h3, arrV_size]; omega)
    (fun vm₁ _ i hi => by
      have e9 : (arrV (gg_I g) (mm_n M a0) (fun j => Value.int (mm_a M a0 j))).slots.getD (sp.toNatClampNeg + i) .null = Value.int (mm_a M a0 (sp.toNatClampNeg + i)) := by
        rw [Array.getD_eq_getD_getElem?, arrV_read _ _ (by omega)]
        rfl
      refine ⟨?_, ?_⟩
      · rw [e9]; rfl
      · rw [e9]; exact trivial)
    (g := F0 m pc la (.int n :: .int dp :: .ref a :: .int sp :: .ref a0 :: rest)) rfl (by rw [x.2.2.1]; exact hl.1) (rest := rest) rfl (by rw [x.2.1]; exact hd) (by rw [hRr]; exact hdd.1) (by rw [hRr]; show 2 * 0 + _ + (nativeFrameWords "java/lang/System" "arraycopy" 5 + 11) ≤ lo; omega)
  have e1 : copied (arrV (gg_I g) (mm_n M a0) (fun j => Value.int (mm_a M a0 j))) (arrV (gg_I g) (mm_n M a) (fun j => Value.int (mm_a M a j))) sp dp n = arrV (gg_I g) (mm_n M a) (fun j => Value.int (va_cpy (mm_a M a0) (mm_a M a) sp.toNatClampNeg dp.toNatClampNeg n.toNatClampNeg j)) := va_copied (fun z => Value.int z) _ _ _ _ h4
  rw [e1] at X' step
  have hla : a < H.size := (Array.getElem?_eq_some_iff.mp hc1).1
  have hheap : ((T.setVm vm').setCell a (arrV (gg_I g) (mm_n M a) (fun j => Value.int (va_cpy (mm_a M a0) (mm_a M a) sp.toNatClampNeg dp.toNatClampNeg n.toNatClampNeg j)))).heap = H.setIfInBounds a (arrV (gg_I g) (mm_n M a) (fun j => Value.int (va_cpy (mm_a M a0) (mm_a M a) sp.toNatClampNeg dp.toNatClampNeg n.toNatClampNeg j))) := by rw [← hT]; rfl
  have oq : ∀ q : Nat, q ≠ a → (H.setIfInBounds a (arrV (gg_I g) (mm_n M a) (fun j => Value.int (va_cpy (mm_a M a0) (mm_a M a) sp.toNatClampNeg dp.toNatClampNeg n.toNatClampNeg j))))[q]? = H[q]? := fun q hq => by simp [Array.getElem?_setIfInBounds, Ne.symm hq]
  obtain ⟨t, a1, b1⟩ := kk _ _ la (hR.put ha (by simp) oq (fun b hb => mm_eq.sa hb) (mm_atI hR.2.1 ht1 ha (by
      have e8 : mm_a (mm_sa M a (va_cpy (mm_a M a0) (mm_a M a) sp.toNatClampNeg dp.toNatClampNeg n.toNatClampNeg)) a = va_cpy (mm_a M a0) (mm_a M a) sp.toNatClampNeg dp.toNatClampNeg n.toNatClampNeg := if_pos rfl
      rw [e8, Array.getElem?_setIfInBounds, if_pos rfl, if_pos hla]
      rfl))) (by simp; exact hz) (fun q hq => by
      rcases List.mem_append.mp hq with h | h
      · exact hL q h
      · obtain ⟨z, -, hz9⟩ := List.mem_map.mp h
        rw [← hz9]
        exact ha) hl _ hheap X'
  exact ⟨t, step t a1, b1⟩
theorem vv_aast (x : cx g X own nm cc nL ret d lo mc ms p R s m meth c) {ci a v : Nat} {r : vw_C} {i : Int32} (hd : decode cc pc = .ok (.aastore, 1)) (ht : mm_t M a = 102) (hi : vp_in i (mm_n M a)) (hc : (gg_cl g)[ci]? = some r) (hv : mm_t M v = ci + 1) (hw : Cond.castable r.1 "java/lang/Object" ∈ gg_W g)
    (kk : vv g nL p l e R s m args below meth c Q cells slots (pc + 1) ls (rest) (mm_sq M a (va_up (mm_q M a) i.toNatClampNeg (v + 1)))) : vv g nL p l e R s m args below meth c Q cells slots (pc) ls (.ref v :: .int i :: .ref a :: rest) M := by
  intro H locs la hR hz hL hl
  obtain ⟨ha, hca⟩ := (hR.1 a).2.2.1 ht
  have hlt : i.toNatClampNeg < mm_n M a := Nat.not_le.mp fun q => hi (Or.inr q)
  obtain ⟨cellV, g1, g2, g3⟩ := mm_recv x hR hc hv
  obtain ⟨kA, comp, k1, k2, k3, -⟩ := (x.2.2.2.2.2.1.2.1.2 2 _ rfl).2
  obtain ⟨c0, t0, f1, f2, f3⟩ := Cond.castable_spec (x.w (a := args) hw)
  cases g3.symm.trans f1
  cases k3.symm.trans f2
  obtain ⟨kC, hkC, -⟩ := Vm.findClass_spec g3
  obtain ⟨kE, hkE, -⟩ := Vm.findClass_spec k3
  refine W.aast x.1 x.2.1 hca (fun q h => by cases h) (fun h => by cases h) k1 k2 rfl hkE ⟨fun q => hi (Or.inl q), by rw [arrV_size]; exact hlt⟩ g1 (fun q h => by rw [h] at g2; cases g2) hkC f3 rfl rfl hd fun H1 e1 z o => ?_
  refine kk H1 _ la (hR.put ha z o (fun b hb => mm_eq.sq hb) (mm_atQ hR.2.1 ht ha ?_)) (by rw [z]; exact hz) (lc_put hL ha) hl
  rw [e1, arrV_store]
  congr 2
  funext j
  show updV (fun j => mm_rv (mm_q M a j)) i.toNatClampNeg (.ref v) j = mm_rv ((if a = a then va_up (mm_q M a) i.toNatClampNeg (v + 1) else mm_q M a) j)
  rw [if_pos rfl]
  by_cases hq : j = i.toNatClampNeg
  · subst hq
    simp [updV, va_up, mm_rv]
  · simp [updV, va_up, hq]
theorem vv_aastN (x : cx g X own nm cc nL ret d lo mc ms p R s m meth c) {a : Nat} {i : Int32} (hd : decode cc pc = .ok (.aastore, 1)) (ht : mm_t M a = 102) (hi : vp_in i (mm_n M a))
    (kk : vv g nL p l e R s m args below meth c Q cells slots (pc + 1) ls (rest) (mm_sq M a (va_up (mm_q M a) i.toNatClampNeg 0))) : vv g nL p l e R s m args below meth c Q cells slots (pc) ls (.null :: .int i :: .ref a :: rest) M := by
  intro H locs la hR hz hL hl
  obtain ⟨ha, hca⟩ := (hR.1 a).2.2.1 ht
  refine va_WaastN (C := "java/lang/Object") x.1 x.2.1 hca ((x.2.2.2.2.2.1.2.1.2 2 _ rfl).1 (mm_n M a) (fun j => mm_rv (mm_q M a j))) (fun h => by cases h) (by rw [arrV_size]; exact hi) rfl rfl hd fun H1 e1 z o => ?_
  refine kk H1 _ la (hR.put ha z o (fun b hb => mm_eq.sq hb) (mm_atQ hR.2.1 ht ha ?_)) (by rw [z]; exact hz) (lc_put hL ha) hl
  rw [e1, arrV_store]
  congr 2
  funext j
  show updV (fun j => mm_rv (mm_q M a j)) i.toNatClampNeg .null j = mm_rv ((if a = a then va_up (mm_q M a) i.toNatClampNeg 0 else mm_q M a) j)
  rw [if_pos rfl]
  by_cases hq : j = i.toNatClampNeg
  · subst hq
    simp [updV, va_up, mm_rv]
  · simp [updV, va_up, hq]
end VG
end
section
/-! ===== reading behind a write ===== -/
section ML
variable {M : mm} {c k a c2 k2 a2 t n r : Nat} {v : Int32} {f : Nat → Int32} {fl : Nat → Int64} {fq : Nat → Nat}
theorem mt_si : mm_t (mm_si M c k a v) = mm_t M := rfl
theorem mr_si : mm_r (mm_si M c k a v) = mm_r M := rfl
theorem mn_si : mm_n (mm_si M c k a v) = mm_n M := rfl
theorem ma_si : mm_a (mm_si M c k a v) = mm_a M := rfl
theorem ml_si : mm_l (mm_si M c k a v) = mm_l M := rfl
theorem mq_si : mm_q (mm_si M c k a v) = mm_q M := rfl
theorem mf_si : mm_f (mm_si M c k a v) = mm_f M := rfl
theorem me_si : mm_e (mm_si M c k a v) = mm_e M := rfl
theorem mt_sr : mm_t (mm_sr M c k a r) = mm_t M := rfl
theorem mi_sr : mm_i (mm_sr M c k a r) = mm_i M := rfl
theorem mn_sr : mm_n (mm_sr M c k a r) = mm_n M := rfl
theorem ma_sr : mm_a (mm_sr M c k a r) = mm_a M := rfl
theorem ml_sr : mm_l (mm_sr M c k a r) = mm_l M := rfl
theorem mq_sr : mm_q (mm_sr M c k a r) = mm_q M := rfl
theorem me_sr : mm_e (mm_sr M c k a r) = mm_e M := rfl
theorem mt_sa : mm_t (mm_sa M a f) = mm_t M := rfl
theorem mi_sa : mm_i (mm_sa M a f) = mm_i M := rfl
theorem mr_sa : mm_r (mm_sa M a f) = mm_r M := rfl
theorem mn_sa : mm_n (mm_sa M a f) = mm_n M := rfl
theorem ml_sa : mm_l (mm_sa M a f) = mm_l M := rfl
theorem mq_sa : mm_q (mm_sa M a f) = mm_q M := rfl
theorem mf_sa : mm_f (mm_sa M a f) = mm_f M := rfl
theorem me_sa : mm_e (mm_sa M a f) = mm_e M := rfl
theorem mt_sl : mm_t (mm_sl M a fl) = mm_t M := rfl
theorem mi_sl : mm_i (mm_sl M a fl) = mm_i M := rfl
theorem mr_sl : mm_r (mm_sl M a fl) = mm_r M := rfl
theorem mn_sl : mm_n (mm_sl M a fl) = mm_n M := rfl
theorem ma_sl : mm_a (mm_sl M a fl) = mm_a M := rfl
theorem mq_sl : mm_q (mm_sl M a fl) = mm_q M := rfl
theorem mf_sl : mm_f (mm_sl M a fl) = mm_f M := rfl
theorem me_sl : mm_e (mm_sl M a fl) = mm_e M := rfl
theorem mt_sq : mm_t (mm_sq M a fq) = mm_t M := rfl
theorem mi_sq : mm_i (mm_sq M a fq) = mm_i M := rfl
theorem mr_sq : mm_r (mm_sq M a fq) = mm_r M := rfl
theorem mn_sq : mm_n (mm_sq M a fq) = mm_n M := rfl
theorem ma_sq : mm_a (mm_sq M a fq) = mm_a M := rfl
theorem ml_sq : mm_l (mm_sq M a fq) = mm_l M := rfl
theorem mf_sq : mm_f (mm_sq M a fq) = mm_f M := rfl
theorem mi_si : mm_i (mm_si M c k a v) c2 k2 a2 = if c2 = c ∧ k2 = k ∧ a2 = a then v else mm_i M c2 k2 a2 := rfl
theorem mi_si_s : mm_i (mm_si M c k a v) c k a = v := if_pos ⟨rfl, rfl, rfl⟩
theorem mi_si_k (h : k2 ≠ k) : mm_i (mm_si M c k a v) c k2 a2 = mm_i M c k2 a2 := if_neg (fun z => h z.2.1)
theorem mi_si_c (h : c2 ≠ c) : mm_i (mm_si M c k a v) c2 k2 a2 = mm_i M c2 k2 a2 := if_neg (fun z => h z.1)
theorem mi_si_a (h : a2 ≠ a) : mm_i (mm_si M c k a v) c k a2 = mm_i M c k a2 := if_neg (fun z => h z.2.2)
theorem mr_sr : mm_r (mm_sr M c k a r) c2 k2 a2 = if c2 = c ∧ k2 = k ∧ a2 = a then r + 1 else mm_r M c2 k2 a2 := rfl
theorem mf_sr : mm_f (mm_sr M c k a r) c2 k2 a2 = if c2 = c ∧ k2 = k ∧ a2 = a then r else mm_f M c2 k2 a2 := by
  unfold mm_f
  rw [mr_sr]
  split <;> rfl
theorem mf_sr_s : mm_f (mm_sr M c k a r) c k a = r := by rw [mf_sr, if_pos ⟨rfl, rfl, rfl⟩]
theorem mr_sr_s : mm_r (mm_sr M c k a r) c k a = r + 1 := by rw [mr_sr, if_pos ⟨rfl, rfl, rfl⟩]
theorem ma_sa : mm_a (mm_sa M a f) a2 = if a2 = a then f else mm_a M a2 := rfl
theorem ma_sa_s : mm_a (mm_sa M a f) a = f := if_pos rfl
theorem ma_sa_n (h : a2 ≠ a) : mm_a (mm_sa M a f) a2 = mm_a M a2 := if_neg h
theorem ml_sl : mm_l (mm_sl M a fl) a2 = if a2 = a then fl else mm_l M a2 := rfl
theorem ml_sl_s : mm_l (mm_sl M a fl) a = fl := if_pos rfl
theorem mq_sq : mm_q (mm_sq M a fq) a2 = if a2 = a then fq else mm_q M a2 := rfl
theorem mq_sq_s : mm_q (mm_sq M a fq) a = fq := if_pos rfl
theorem me_sq {i : Nat} : mm_e (mm_sq M a fq) a2 i = if a2 = a then fq i - 1 else mm_e M a2 i := by
  unfold mm_e
  rw [mq_sq]
  split <;> rfl
theorem mt_nw : mm_t (mm_nw M a t n) a2 = if a2 = a then t else mm_t M a2 := rfl
theorem mi_nw : mm_i (mm_nw M a t n) c2 k2 a2 = if a2 = a then 0 else mm_i M c2 k2 a2 := rfl
theorem mr_nw : mm_r (mm_nw M a t n) c2 k2 a2 = if a2 = a then 0 else mm_r M c2 k2 a2 := rfl
theorem mf_nw : mm_f (mm_nw M a t n) c2 k2 a2 = if a2 = a then 0 else mm_f M c2 k2 a2 := by
  unfold mm_f
  rw [mr_nw]
  split <;> rfl
theorem mn_nw : mm_n (mm_nw M a t n) a2 = if a2 = a then n else mm_n M a2 := rfl
theorem ma_nw : mm_a (mm_nw M a t n) a2 = if a2 = a then fun _ => 0 else mm_a M a2 := rfl
theorem ml_nw : mm_l (mm_nw M a t n) a2 = if a2 = a then fun _ => 0 else mm_l M a2 := rfl
theorem mq_nw : mm_q (mm_nw M a t n) a2 = if a2 = a then fun _ => 0 else mm_q M a2 := rfl
theorem me_nw {i : Nat} : mm_e (mm_nw M a t n) a2 i = if a2 = a then 0 else mm_e M a2 i := by
  unfold mm_e
  rw [mq_nw]
  split <;> rfl
/-! writes that undo each other -/
theorem si_si {w : Int32} : mm_si (mm_si M c k a v) c k a w = mm_si M c k a w := by
  show (_, _, _, _, _, _, _) = (_, _, _, _, _, _, _)
  refine congrArg (fun z => (mm_t M, z, mm_r M, mm_n M, mm_a M, mm_l M, mm_q M)) ?_
  funext c' k' a'
  by_cases h : c' = c ∧ k' = k ∧ a' = a
  · rw [if_pos h, if_pos h]
  · rw [if_neg h, if_neg h]; exact if_neg h
theorem si_id (h : mm_i M c k a = v) : mm_si M c k a v = M := by
  obtain ⟨t, i, r⟩ := M
  refine congrArg (fun z => (t, z, r)) ?_
  funext c' k' a'
  by_cases h2 : c' = c ∧ k' = k ∧ a' = a
  · rw [if_pos h2, ← h, h2.1, h2.2.1, h2.2.2]; rfl
  · rw [if_neg h2]; rfl
theorem sa_sa {f2 : Nat → Int32} : mm_sa (mm_sa M a f) a f2 = mm_sa M a f2 := by
  refine congrArg (fun z => (mm_t M, mm_i M, mm_r M, mm_n M, z, mm_l M, mm_q M)) ?_
  funext b
  by_cases h : b = a
  · rw [if_pos h, if_pos h]
  · rw [if_neg h, if_neg h]; exact if_neg h
theorem sa_id (h : mm_a M a = f) : mm_sa M a f = M := by
  obtain ⟨t, i, r, n, aa, rest⟩ := M
  refine congrArg (fun z => (t, i, r, n, z, rest)) ?_
  funext b
  by_cases h2 : b = a
  · rw [if_pos h2, ← h, h2]; rfl
  · rw [if_neg h2]; rfl
theorem sa_cm {b : Nat} {f2 : Nat → Int32} (h : a ≠ b) : mm_sa (mm_sa M a f) b f2 = mm_sa (mm_sa M b f2) a f := by
  refine congrArg (fun z => (mm_t M, mm_i M, mm_r M, mm_n M, z, mm_l M, mm_q M)) ?_
  funext q
  show (if q = b then f2 else if q = a then f else mm_a M q) = (if q = a then f else if q = b then f2 else mm_a M q)
  by_cases h1 : q = b
  · rw [if_pos h1, if_neg (fun z => h (z.symm.trans h1)), if_pos h1]
  · rw [if_neg h1, if_neg h1]
theorem si_cm {w : Int32} (h : ¬ (c = c2 ∧ k = k2 ∧ a = a2)) : mm_si (mm_si M c k a v) c2 k2 a2 w = mm_si (mm_si M c2 k2 a2 w) c k a v := by
  refine congrArg (fun z => (mm_t M, z, mm_r M, mm_n M, mm_a M, mm_l M, mm_q M)) ?_
  funext c' k' a'
  show (if c' = c2 ∧ k' = k2 ∧ a' = a2 then w else if c' = c ∧ k' = k ∧ a' = a then v else mm_i M c' k' a') = (if c' = c ∧ k' = k ∧ a' = a then v else if c' = c2 ∧ k' = k2 ∧ a' = a2 then w else mm_i M c' k' a')
  by_cases h1 : c' = c2 ∧ k' = k2 ∧ a' = a2
  · rw [if_pos h1, if_neg (fun z => h ⟨z.1.symm.trans h1.1, z.2.1.symm.trans h1.2.1, z.2.2.symm.trans h1.2.2⟩), if_pos h1]
  · rw [if_neg h1, if_neg h1]
theorem si_sa : mm_si (mm_sa M a f) c k a2 v = mm_sa (mm_si M c k a2 v) a f := rfl
theorem si_sr : mm_si (mm_sr M c k a r) c2 k2 a2 v = mm_sr (mm_si M c2 k2 a2 v) c k a r := rfl
theorem sr_sa : mm_sr (mm_sa M a f) c k a2 r = mm_sa (mm_sr M c k a2 r) a f := rfl
end ML
end
section
/-! ===== methods that may throw ===== -/
def ox_X (g : gg) (Qx : String → mm → Prop) : String → State → State → Prop := fun E st t => ∃ M' : mm, Qx E M' ∧ mm_R g M' t.heap ∧ st.heap.size ≤ t.heap.size
def OkX (g : gg) (X : State → Prop) (l : Launch) (y : MethodName) (cc : ByteArray) (nL : Nat) (ret : Option FieldType) (d lo mc ms : Nat) (av : List Value) (M : mm) (Qr : Option Value → mm → Prop) (Qx : String → mm → Prop) : Prop :=
  vx_Met l y [.code y cc nL ret] (rm d lo mc ms) (ok_P g X av M) (ok_Q g Qr) (ox_X g Qx) mc ms (ok_F g)
section VX
variable {g : gg} {X : State → Prop} {own nm : String} {cc : ByteArray} {nL : Nat} {ret : Option FieldType} {d lo mc ms : Nat} {p : Program} {l : Launch} {e : Env} {R : Room} {s : State} {m : MethodId} {args : Array Value} {below : List Frame} {meth : Method} {c : Code} {cells slots pc : Nat} {ls : List (Option Value)} {rest : List Value} {M : mm}
variable {y : MethodName} {cc2 : ByteArray} {nL2 d2 lo2 mc2 ms2 idx : Nat} {ret2 : Option FieldType} {av : List Value} {Qr Qr2 : Option Value → mm → Prop} {Qx Qx2 : String → mm → Prop}
theorem okx_start (hy : plainName y.cls = true) (hl : av.length ≤ nL) (hav : ∀ v ∈ av, v.category = 1)
    (body : ∀ (p : Program) (e : Env) (s : State) (m : MethodId) (args : Array Value) (below : List Frame) (meth : Method) (c : Code), cx g X y.cls y.name cc nL ret d lo mc ms p (rm d lo mc ms) s m meth c → (∀ x ∈ c.exceptionTable.toList, False) → vv g nL p l e (rm d lo mc ms) s m args below meth c (vx_MQ below (ok_Q g Qr) (ox_X g Qx) args s mc ms (ok_F g)) 0 0 0 (lz_en av nL) [] M) : OkX g X l y cc nL ret d lo mc ms av M Qr Qx := by
  refine vx_ofW (cc := cc) (maxL := nL) (ret := ret) hy rfl ?_
  intro p e s m args below meth c s₁ B hml ht0 hv
  obtain ⟨rfl, hR, hK⟩ := hv
  rw [lg_entry_eq]
  exact body p e s m _ below meth c ⟨B.exec, B.bytes, hml, findClass_of_methodNamed B.named, B.notSynchronized, hK, rfl, B.returns, (name_of_methodNamed B.named B.method).1, hR.2.2.2.1, hR.2.2.2.2⟩ ht0 s.heap [] _ hR (Nat.le_refl _) (fun q h => nomatch h) (lz_entry hl hav)
theorem vvx_ret {st : List Value} (k : vv g nL p l e R s m args below meth c (MQ below (ok_Q g Qr) args s mc ms (ok_F g)) cells slots pc ls st M) : vv g nL p l e R s m args below meth c (vx_MQ below (ok_Q g Qr) (ox_X g Qx) args s mc ms (ok_F g)) cells slots (pc) ls (st) M := fun H locs la hR hz hL hl => vx_ret (k H locs la hR hz hL hl)
/-- behind a call that may have thrown; nothing here catches -/
theorem vvx_back (x : cx g X own nm cc nL ret d lo mc ms p R s m meth c) (ht0 : ∀ x ∈ c.exceptionTable.toList, False) {b : List Value} {av2 : Array Value} {H : Heap} (hz : s.heap.size ≤ H.size) {locs : List Loc} {la : Array Slot} (hL : ∀ q ∈ locs, (gg_H g).size ≤ q.base) (hl : lz la nL ls) (h1 : cells + mc2 ≤ mc) (h2 : slots + ms2 ≤ ms)
    (hr : vx_Run p l e R s m args below meth c H locs cells slots mc2 ms2 (F0 m pc la b) rest (ok_Q g Qr2 av2) (ox_X g Qx2) (ok_F g))
    (k : ∀ (v : Option Value) (M' : mm), Qr2 v M' → vv g nL p l e R s m args below meth c (vx_MQ below (ok_Q g Qr) (ox_X g Qx) args s mc ms (ok_F g)) (cells + mc2) (slots + ms2) (pc + 3) ls (v.toList ++ rest) M') (kx : ∀ (E : String) (M' : mm), Qx2 E M' → Qx E M') : W p l e R s m args below meth c H locs cells slots (vx_MQ below (ok_Q g Qr) (ox_X g Qx) args s mc ms (ok_F g)) (F0 m pc la b) := by
  intro T hT XX
  rcases hr T hT XX with ⟨v, st₀, t, T', L, h0, X', hLL, e1, e2, ⟨v', M', hv, hq, hR', hz'⟩, go⟩ | ⟨q, st₀, t, T', L, E, ce, h0, X', hLL, e1, e2, ⟨M', hq, hR', hz'⟩, hce, hcv, hcl, go⟩
  · cases hv
    obtain ⟨t2, a1, b1⟩ := k v M' hq T'.heap (locs ++ L) la (by rw [e1]; exact hR') (by rw [e1]; rw [h0] at hz'; omega) (fun q hq9 => (List.mem_append.mp hq9).elim (hL q) (hLL q)) hl T' rfl X'
    exact ⟨t2, go t2 a1, b1⟩
  · obtain ⟨t2, a1, b1⟩ := vx_out (Qc := ok_Q g Qr) (XC := ox_X g Qx) (free := ok_F g) (H := T'.heap) (ls := la) (pc := pc) (rest := rest) (mc := mc) (ms := ms) (fun x hx => (ht0 x hx).elim) x.2.2.2.2.1 (by rw [e1]; exact hce) hcv hcl (fun t9 h9 _ => ⟨M', kx E M' hq, by rw [h9, e1]; exact hR', by rw [h9, e1]; rw [h0] at hz'; omega⟩) (fun q hq9 => (List.mem_append.mp hq9).elim (hL q) (hLL q)) h1 h2 T' rfl X'
    exact ⟨t2, go.trans a1, b1⟩
theorem vvx_callS (x : cx g X own nm cc nL ret d lo mc ms p R s m meth c) (ht0 : ∀ x ∈ c.exceptionTable.toList, False) {b : List Value} (hd : decode cc pc = .ok (.invokestatic idx, 3)) (hM : OkX g X l y cc2 nL2 ret2 d2 lo2 mc2 ms2 av M Qr2 Qx2) (hw : cw g own idx y cc2 nL2 ret2 av.length) (hw2 : Cond.static y ∈ gg_W g) (hdd : d2 + 1 ≤ d ∧ 19 + nL2 + lo2 ≤ lo) (h1 : cells + mc2 ≤ mc) (h2 : slots + ms2 ≤ ms) (hst : b = av.reverse ++ rest) (hr : (rest.map fun v => v.category).sum ≤ 8)
    (k : ∀ (v : Option Value) (M' : mm), Qr2 v M' → vv g nL p l e R s m args below meth c (vx_MQ below (ok_Q g Qr) (ox_X g Qx) args s mc ms (ok_F g)) (cells + mc2) (slots + ms2) (pc + 3) ls (v.toList ++ rest) M') (kx : ∀ (E : String) (M' : mm), Qx2 E M' → Qx E M') : vv g nL p l e R s m args below meth c (vx_MQ below (ok_Q g Qr) (ox_X g Qx) args s mc ms (ok_F g)) cells slots (pc) ls (b) M := by
  intro H locs la hR hz hL hl
  have hRr := x.2.2.2.2.2.2.1
  exact vvx_back x ht0 hz hL hl h1 h2 (vx_runS (As := av) (rest := rest) ⟨x.1, x.2.1, x.2.2.1, x.2.2.2.1, x.ts⟩ hM ⟨hw.B x hdd, x.w hw2⟩ ⟨ok_blind, ok_pre hR x.2.2.2.2.2.1⟩ rfl rfl hl.1 hst (lv_room hr) hd ⟨by rw [hRr]; exact h1, by rw [hRr]; exact h2⟩) k kx
theorem vvx_callV (x : cx g X own nm cc nL ret d lo mc ms p R s m meth c) (ht0 : ∀ x ∈ c.exceptionTable.toList, False) {b : List Value} {ci o : Nat} {r : vw_C} (hd : decode cc pc = .ok (.invokevirtual idx, 3)) (hM : OkX g X l y cc2 nL2 ret2 d2 lo2 mc2 ms2 (.ref o :: av) M Qr2 Qx2) (hw : cw g own idx y cc2 nL2 ret2 av.length) (hw2 : Cond.instanceMethod y ∈ gg_W g) (hw3 : Cond.selects r.1 y y ∈ gg_W g) (hc : (gg_cl g)[ci]? = some r) (ht : mm_t M o = ci + 1) (hdd : d2 + 1 ≤ d ∧ 19 + nL2 + lo2 ≤ lo) (h1 : cells + mc2 ≤ mc) (h2 : slots + ms2 ≤ ms) (hst : b = av.reverse ++ .ref o :: rest) (hr : (rest.map fun v => v.category).sum ≤ 8)
    (k : ∀ (v : Option Value) (M' : mm), Qr2 v M' → vv g nL p l e R s m args below meth c (vx_MQ below (ok_Q g Qr) (ox_X g Qx) args s mc ms (ok_F g)) (cells + mc2) (slots + ms2) (pc + 3) ls (v.toList ++ rest) M') (kx : ∀ (E : String) (M' : mm), Qx2 E M' → Qx E M') : vv g nL p l e R s m args below meth c (vx_MQ below (ok_Q g Qr) (ox_X g Qx) args s mc ms (ok_F g)) cells slots (pc) ls (b) M := by
  intro H locs la hR hz hL hl
  have hRr := x.2.2.2.2.2.2.1
  exact vvx_back x ht0 hz hL hl h1 h2 (vx_runV (As := av) (rest := rest) ⟨x.1, x.2.1, x.2.2.1, x.2.2.2.1, x.ts⟩ hM ⟨hw.B x hdd, x.w hw2, x.w hw3⟩ ⟨ok_blind, mm_recv x hR hc ht, ok_pre hR x.2.2.2.2.2.1⟩ rfl rfl hl.1 hst (lv_room hr) hd ⟨by rw [hRr]; exact h1, by rw [hRr]; exact h2⟩) k kx
/-- throw new E() -/
theorem vvx_throw (x : cx g X own nm cc nL ret d lo mc ms p R s m meth c) (ht0 : ∀ x ∈ c.exceptionTable.toList, False) (hl0 : l.stackTraces = false) {cls : String} {names : List String} {ik ic : Nat} (hcls : Bundle.fit cls = true) (hnames : ∀ n ∈ names, Bundle.fit n = true) (w1 : Cond.classLink own ik cls ∈ gg_W g) (w2 : Cond.initialized cls ∈ gg_W g) (w3 : ∀ w ∈ vx_at0 own ic cls names, w ∈ gg_W g)
    (hgood : ∀ w ∈ Cond.classLink own ik cls :: Cond.initialized cls :: vx_at0 own ic cls names, vx_ot w = true) (hX : ∀ U : State, X U → vx_Zq Bundle.tN "UNASSIGNED_STACK" Bundle.steD (ok_F g) U (gg_H g) ∧ vx_Zq Bundle.tN "SUPPRESSED_SENTINEL" Bundle.listD (ok_F g) U (gg_H g))
    (d0 : decode cc pc = .ok (.new ik, 3)) (d3 : decode cc (pc + 3) = .ok (.dup, 1)) (d4 : decode cc (pc + 4) = .ok (.invokespecial ic, 3)) (d7 : decode cc (pc + 7) = .ok (.athrow, 1)) (hdd : names.length + 3 < d ∧ 8 + (13 * (names.length + 1) + 42) ≤ lo) (hr : (rest.map fun v => v.category).sum ≤ 8) (h1 : cells + 1 ≤ mc) (h2 : slots + 6 ≤ ms) (hq : Qx cls M) : vv g nL p l e R s m args below meth c (vx_MQ below (ok_Q g Qr) (ox_X g Qx) args s mc ms (ok_F g)) cells slots (pc) ls (rest) M := by
  intro H locs la hR hz hL hl
  have hRr := x.2.2.2.2.2.2.1
  obtain ⟨hb1, hb2⟩ := x.2.2.2.2.2.2.2.2.2
  obtain ⟨z1, z2⟩ := hX s x.2.2.2.2.2.1.2.2.2
  have hk : ∀ a : Nat, a < (gg_H g).size → ¬ ok_F g a → s.heap[a]? = (gg_H g)[a]? := fun a h _ => hb2 a h
  exact vx_throw0 (cc := cc) (A := ok_F g) (own := own) (cls := cls) (names := names) (ik := ik) (ic := ic) x.1 x.2.1 hl0 x.2.2.2.1 hcls hnames (x.w w1) (x.w w2) (fun w hw => x.w (w3 w hw)) hgood (z1.kept hk) (z2.kept hk) ⟨hz, fun q _ h => by rw [hR.2.2.2.2 q (Nat.not_le.mp h), hb2 q (Nat.not_le.mp h)], hL⟩ (by rw [x.2.2.1]; exact hl.1) d0 d3 d4 d7 (fun x9 hx9 => (ht0 x9 hx9).elim)
    (by rw [hRr]; exact hdd.1) (by rw [hRr]; show _ ≤ lo; omega) (by rw [hRr]; exact h1) (by rw [hRr]; exact h2) x.2.2.2.2.1 (fun t _ h8 h9 => ⟨M, hq, hR.grow h8 h9, Nat.le_trans hz h8⟩) hL h1 h2
end VX
end
