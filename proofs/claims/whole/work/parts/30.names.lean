/-! ===== names: classes, fields, words, codes, decoded instructions (by program) ===== -/
def cn0 : String := "CopyHeaps$Carrier"
def ct0 : u_T := fun k => match k with
  | 0 => ("CopyHeaps$Carrier", "from", "LCopyHeaps$Heap;", false)
  | 1 => ("CopyHeaps$Carrier", "to", "LCopyHeaps$Heap;", false)
  | 2 => ("CopyHeaps$Carrier", "firstCarried", "I", false)
  | _ => ("CopyHeaps$Carrier", "carried", "[I", true)
def cy0 : Nat → FieldType := fun k => match k with
  | 0 => .object "CopyHeaps$Heap"
  | 1 => .object "CopyHeaps$Heap"
  | 2 => .int
  | _ => .array .int
def cn1 : String := "CopyHeaps$Comparison"
def ct1 : u_T := fun k => match k with
  | 0 => ("CopyHeaps$Comparison", "leftHeap", "LCopyHeaps$Heap;", false)
  | 1 => ("CopyHeaps$Comparison", "rightHeap", "LCopyHeaps$Heap;", false)
  | 2 => ("CopyHeaps$Comparison", "leftTerms", "[I", true)
  | 3 => ("CopyHeaps$Comparison", "rightTerms", "[I", true)
  | _ => ("CopyHeaps$Comparison", "pending", "I", false)
def cy1 : Nat → FieldType := fun k => match k with
  | 0 => .object "CopyHeaps$Heap"
  | 1 => .object "CopyHeaps$Heap"
  | 2 => .array .int
  | 3 => .array .int
  | _ => .int
def cn2 : String := "CopyHeaps$Heap"
def ct2 : u_T := fun k => match k with
  | 0 => ("CopyHeaps$Heap", "used", "I", false)
  | 1 => ("CopyHeaps$Heap", "structureCount", "I", false)
  | 2 => ("CopyHeaps$Heap", "structures", "[I", true)
  | _ => ("CopyHeaps$Heap", "cells", "[I", true)
def cy2 : Nat → FieldType := fun k => match k with
  | 0 => .int
  | 1 => .int
  | 2 => .array .int
  | _ => .array .int
def cn3 : String := "CopyHeaps$HeapProcess"
def ct3 : u_T := fun k => match k with
  | 0 => ("CopyHeaps$HeapProcess", "number", "I", false)
  | 1 => ("CopyHeaps$HeapProcess", "capacity", "I", false)
  | 2 => ("CopyHeaps$HeapProcess", "heap", "LCopyHeaps$Heap;", false)
  | 3 => ("CopyHeaps$HeapProcess", "registers", "[I", true)
  | _ => ("CopyHeaps$HeapProcess", "mailbox", "LCopyHeaps$Mailbox;", true)
def cy3 : Nat → FieldType := fun k => match k with
  | 0 => .int
  | 1 => .int
  | 2 => .object "CopyHeaps$Heap"
  | 3 => .array .int
  | _ => .object "CopyHeaps$Mailbox"
def cn4 : String := "CopyHeaps$Mailbox"
def ct4 : u_T := fun k => match k with
  | 0 => ("CopyHeaps$Mailbox", "size", "I", false)
  | 1 => ("CopyHeaps$Mailbox", "first", "I", false)
  | _ => ("CopyHeaps$Mailbox", "messages", "[I", true)
def cy4 : Nat → FieldType := fun k => match k with
  | 0 => .int
  | 1 => .int
  | _ => .array .int
def cn5 : String := "CopyHeaps$Pool"
def ct5 : u_T := fun k => match k with
  | 0 => ("CopyHeaps$Pool", "free", "I", false)
  | 1 => ("CopyHeaps$Pool", "blobs", "I", false)
  | 2 => ("CopyHeaps$Pool", "sizes", "[I", true)
  | _ => ("CopyHeaps$Pool", "handleCounts", "[I", true)
def cy5 : Nat → FieldType := fun k => match k with
  | 0 => .int
  | 1 => .int
  | 2 => .array .int
  | _ => .array .int
def cn6 : String := "CopyHeaps"
def ct6 : u_T := fun k => match k with
  | 0 => ("CopyHeaps", "poolWords", "I", true)
  | 1 => ("CopyHeaps", "pool", "LCopyHeaps$Pool;", true)
  | 2 => ("CopyHeaps", "alive", "Ljava/util/ArrayList;", true)
  | 3 => ("CopyHeaps", "ended", "Ljava/util/ArrayList;", true)
  | 4 => ("CopyHeaps", "carrier", "LCopyHeaps$Carrier;", true)
  | 5 => ("CopyHeaps", "comparison", "LCopyHeaps$Comparison;", true)
  | 6 => ("CopyHeaps", "spare", "LCopyHeaps$Heap;", false)
  | 7 => ("CopyHeaps", "latest", "I", false)
  | _ => ("CopyHeaps", "collections", "I", false)
def cy6 : Nat → FieldType := fun k => match k with
  | 0 => .int
  | 1 => .object "CopyHeaps$Pool"
  | 2 => .object "java/util/ArrayList"
  | 3 => .object "java/util/ArrayList"
  | 4 => .object "CopyHeaps$Carrier"
  | 5 => .object "CopyHeaps$Comparison"
  | 6 => .object "CopyHeaps$Heap"
  | 7 => .int
  | _ => .int
def cn7 : String := "CopyHeapsModel"
def ct7 : u_T := fun k => match k with
  | 0 => ("CopyHeapsModel", "thrown", "I", false)
  | 1 => ("CopyHeapsModel", "pool", "I", false)
  | 2 => ("CopyHeapsModel", "latest", "I", false)
  | 3 => ("CopyHeapsModel", "alive", "I", false)
  | 4 => ("CopyHeapsModel", "collections", "I", false)
  | 5 => ("CopyHeapsModel", "numbers", "[I", false)
  | 6 => ("CopyHeapsModel", "capacities", "[I", false)
  | 7 => ("CopyHeapsModel", "used", "[I", false)
  | 8 => ("CopyHeapsModel", "registers", "[I", false)
  | 9 => ("CopyHeapsModel", "mail", "[I", false)
  | 10 => ("CopyHeapsModel", "messages", "[I", false)
  | 11 => ("CopyHeapsModel", "words", "[I", false)
  | 12 => ("CopyHeapsModel", "begins", "[I", false)
  | 13 => ("CopyHeapsModel", "blobs", "I", false)
  | 14 => ("CopyHeapsModel", "sizes", "[I", false)
  | 15 => ("CopyHeapsModel", "counts", "[I", false)
  | 16 => ("CopyHeapsModel", "end", "I", false)
  | 17 => ("CopyHeapsModel", "fresh", "[I", false)
  | 18 => ("CopyHeapsModel", "kinds", "[I", false)
  | 19 => ("CopyHeapsModel", "moved", "[I", false)
  | 20 => ("CopyHeapsModel", "ones", "[I", false)
  | 21 => ("CopyHeapsModel", "others", "[I", false)
  | _ => ("CopyHeapsModel", "nexts", "[I", false)
def cy7 : Nat → FieldType := fun k => match k with
  | 0 => .int
  | 1 => .int
  | 2 => .int
  | 3 => .int
  | 4 => .int
  | 5 => .array .int
  | 6 => .array .int
  | 7 => .array .int
  | 8 => .array .int
  | 9 => .array .int
  | 10 => .array .int
  | 11 => .array .int
  | 12 => .array .int
  | 13 => .int
  | 14 => .array .int
  | 15 => .array .int
  | 16 => .int
  | 17 => .array .int
  | 18 => .array .int
  | 19 => .array .int
  | 20 => .array .int
  | 21 => .array .int
  | _ => .array .int
def cn8 : String := "java/util/ArrayList"
def ct8 : u_T := fun k => match k with
  | 0 => ("java/util/AbstractList", "modCount", "I", false)
  | 1 => ("java/util/ArrayList", "elementData", "[Ljava/lang/Object;", false)
  | _ => ("java/util/ArrayList", "size", "I", false)
def cy8 : Nat → FieldType := fun k => match k with
  | 0 => .int
  | 1 => .array (.object "java/lang/Object")
  | _ => .int
abbrev clS : List vw_C := [(cn0, ct0, 4), (cn1, ct1, 5), (cn2, ct2, 4), (cn3, ct3, 5), (cn4, ct4, 3), (cn5, ct5, 4), (cn6, ct6, 9), (cn7, ct7, 23), (cn8, ct8, 3)]
def ikL : List (List Bool) := [[false, false, true, false], [false, false, false, false, true], [true, true, false, false], [true, true, false, false, false], [true, true, false], [true, true, false, false], [true, false, false, false, false, false, false, true, true], [true, true, true, true, true, false, false, false, false, false, false, false, false, true, false, false, true, false, false, false, false, false, false], [true, false, true]]
def ikS : Nat → Nat → Bool := fun c k => (ikL.getD c []).getD k false
def WS : List Cond := lw_tbl.filter ww_ok
def ncL : List (String × String) := [("java/lang/IllegalStateException", "java/lang/IndexOutOfBoundsException"), ("java/lang/IllegalStateException", "java/lang/IllegalArgumentException"), ("java/lang/IllegalStateException", "java/lang/UnsupportedOperationException"), ("java/lang/IndexOutOfBoundsException", "java/lang/IllegalStateException"), ("java/lang/IndexOutOfBoundsException", "java/lang/IllegalArgumentException"), ("java/lang/IndexOutOfBoundsException", "java/lang/UnsupportedOperationException"), ("java/lang/IllegalArgumentException", "java/lang/IllegalStateException"), ("java/lang/IllegalArgumentException", "java/lang/IndexOutOfBoundsException"), ("java/lang/IllegalArgumentException", "java/lang/UnsupportedOperationException"), ("java/lang/UnsupportedOperationException", "java/lang/IllegalStateException"), ("java/lang/UnsupportedOperationException", "java/lang/IndexOutOfBoundsException"), ("java/lang/UnsupportedOperationException", "java/lang/IllegalArgumentException")]
/-- what else is given at the start: the statics, and which exceptions are no others -/
def xx (g : gg) (t0 : Nat) : State → Prop := fun U => vx_Zq Bundle.tN "UNASSIGNED_STACK" Bundle.steD (ok_F g) U (gg_H g) ∧ vx_Zq Bundle.tN "SUPPRESSED_SENTINEL" Bundle.listD (ok_F g) U (gg_H g) ∧ va_Z "java/util/ArrayList" "DEFAULTCAPACITY_EMPTY_ELEMENTDATA" "[Ljava/lang/Object;" (.ref t0) (ok_F g) U (gg_H g) ∧ va_T (.object "java/lang/Object") t0 0 (fun _ => .null) (ok_F g) U (gg_H g) ∧ ∀ q ∈ ncL, va_Nc q.1 q.2 U
def gc (g : gg) (X : State → Prop) (t0 : Nat) (l : Launch) : Prop := gg_cl g = clS ∧ gg_ik g = ikS ∧ gg_W g = WS ∧ X = xx g t0 ∧ l.stackTraces = false
theorem gc.w {g : gg} {X : State → Prop} {t0 : Nat} {l : Launch} (G : gc g X t0 l) {w : Cond} (h : w ∈ WS) : w ∈ gg_W g := by rw [G.2.2.1]; exact h
abbrev cc_CH_init : ByteArray := prog_1_method_1_code
abbrev yy_CH_init : MethodName := ⟨"CopyHeaps", "<init>", "(I)V"⟩
abbrev cc_Po_init : ByteArray := prog_7_method_1_code
abbrev yy_Po_init : MethodName := ⟨"CopyHeaps$Pool", "<init>", "(I)V"⟩
abbrev cc_AL_init : ByteArray := prog_24_method_2_code
abbrev yy_AL_init : MethodName := ⟨"java/util/ArrayList", "<init>", "()V"⟩
abbrev cc_Ab_init : ByteArray := prog_23_method_1_code
abbrev yy_Ab_init : MethodName := ⟨"java/util/AbstractList", "<init>", "()V"⟩
abbrev cc_Ac_init : ByteArray := prog_22_method_1_code
abbrev yy_Ac_init : MethodName := ⟨"java/util/AbstractCollection", "<init>", "()V"⟩
abbrev cc_Ca_init : ByteArray := prog_2_method_1_code
abbrev yy_Ca_init : MethodName := ⟨"CopyHeaps$Carrier", "<init>", "(I)V"⟩
abbrev cc_Co_init : ByteArray := prog_3_method_1_code
abbrev yy_Co_init : MethodName := ⟨"CopyHeaps$Comparison", "<init>", "(I)V"⟩
abbrev cc_He_init : ByteArray := prog_4_method_1_code
abbrev yy_He_init : MethodName := ⟨"CopyHeaps$Heap", "<init>", "(I)V"⟩
abbrev cc_La_cell : ByteArray := method_2_code
abbrev yy_La_cell : MethodName := ⟨"CopyHeapsLaw", "cell", "([II)I"⟩
abbrev cc_La_spawn : ByteArray := method_3_code
abbrev yy_La_spawn : MethodName := ⟨"CopyHeapsLaw", "spawn", "(LCopyHeaps;[J)I"⟩
abbrev cc_CH_spawn : ByteArray := prog_1_method_2_code
abbrev yy_CH_spawn : MethodName := ⟨"CopyHeaps", "spawn", "()I"⟩
abbrev cc_AL_size : ByteArray := prog_24_method_8_code
abbrev yy_AL_size : MethodName := ⟨"java/util/ArrayList", "size", "()I"⟩
abbrev cc_AL_isEmpty : ByteArray := prog_24_method_9_code
abbrev yy_AL_isEmpty : MethodName := ⟨"java/util/ArrayList", "isEmpty", "()Z"⟩
abbrev cc_Pr_init : ByteArray := prog_5_method_1_code
abbrev yy_Pr_init : MethodName := ⟨"CopyHeaps$HeapProcess", "<init>", "(I)V"⟩
abbrev cc_Ma_init : ByteArray := prog_6_method_1_code
abbrev yy_Ma_init : MethodName := ⟨"CopyHeaps$Mailbox", "<init>", "()V"⟩
abbrev cc_AL_remove1 : ByteArray := prog_24_method_29_code
abbrev yy_AL_remove1 : MethodName := ⟨"java/util/ArrayList", "remove", "(I)Ljava/lang/Object;"⟩
abbrev cc_Ob_checkIndex2 : ByteArray := prog_28_method_17_code
abbrev yy_Ob_checkIndex2 : MethodName := ⟨"java/util/Objects", "checkIndex", "(II)I"⟩
abbrev cc_Pc_checkIndex3 : ByteArray := prog_32_method_11_code
abbrev yy_Pc_checkIndex3 : MethodName := ⟨"jdk/internal/util/Preconditions", "checkIndex", "(IILjava/util/function/BiFunction;)I"⟩
abbrev cc_AL_fastRemove : ByteArray := prog_24_method_39_code
abbrev yy_AL_fastRemove : MethodName := ⟨"java/util/ArrayList", "fastRemove", "([Ljava/lang/Object;I)V"⟩
abbrev cc_Pr_begin : ByteArray := prog_5_method_2_code
abbrev yy_Pr_begin : MethodName := ⟨"CopyHeaps$HeapProcess", "begin", "(I)V"⟩
abbrev cc_He_clear : ByteArray := prog_4_method_2_code
abbrev yy_He_clear : MethodName := ⟨"CopyHeaps$Heap", "clear", "()V"⟩
abbrev cc_Ar_fill : ByteArray := prog_25_method_103_code
abbrev yy_Ar_fill : MethodName := ⟨"java/util/Arrays", "fill", "([II)V"⟩
abbrev cc_Ma_clear : ByteArray := prog_6_method_2_code
abbrev yy_Ma_clear : MethodName := ⟨"CopyHeaps$Mailbox", "clear", "()V"⟩
abbrev cc_AL_add1 : ByteArray := prog_24_method_25_code
abbrev yy_AL_add1 : MethodName := ⟨"java/util/ArrayList", "add", "(Ljava/lang/Object;)Z"⟩
abbrev cc_AL_add3 : ByteArray := prog_24_method_24_code
abbrev yy_AL_add3 : MethodName := ⟨"java/util/ArrayList", "add", "(Ljava/lang/Object;[Ljava/lang/Object;I)V"⟩
abbrev cc_AL_grow0 : ByteArray := prog_24_method_7_code
abbrev yy_AL_grow0 : MethodName := ⟨"java/util/ArrayList", "grow", "()[Ljava/lang/Object;"⟩
abbrev cc_AL_grow1 : ByteArray := prog_24_method_6_code
abbrev yy_AL_grow1 : MethodName := ⟨"java/util/ArrayList", "grow", "(I)[Ljava/lang/Object;"⟩
abbrev cc_La_exit : ByteArray := method_4_code
abbrev yy_La_exit : MethodName := ⟨"CopyHeapsLaw", "exit", "(LCopyHeaps;I[J)I"⟩
abbrev cc_CH_exit : ByteArray := prog_1_method_3_code
abbrev yy_CH_exit : MethodName := ⟨"CopyHeaps", "exit", "(I)I"⟩
abbrev cc_CH_living1 : ByteArray := prog_1_method_26_code
abbrev yy_CH_living1 : MethodName := ⟨"CopyHeaps", "living", "(I)LCopyHeaps$HeapProcess;"⟩
abbrev cc_CH_placeOf : ByteArray := prog_1_method_25_code
abbrev yy_CH_placeOf : MethodName := ⟨"CopyHeaps", "placeOf", "(I)I"⟩
abbrev cc_AL_get : ByteArray := prog_24_method_20_code
abbrev yy_AL_get : MethodName := ⟨"java/util/ArrayList", "get", "(I)Ljava/lang/Object;"⟩
abbrev cc_AL_elementData : ByteArray := prog_24_method_18_code
abbrev yy_AL_elementData : MethodName := ⟨"java/util/ArrayList", "elementData", "(I)Ljava/lang/Object;"⟩
abbrev cc_Ca_start : ByteArray := prog_2_method_2_code
abbrev yy_Ca_start : MethodName := ⟨"CopyHeaps$Carrier", "start", "(LCopyHeaps$Heap;LCopyHeaps$Heap;)V"⟩
abbrev cc_Ca_dropHandlesLeftBehind : ByteArray := prog_2_method_6_code
abbrev yy_Ca_dropHandlesLeftBehind : MethodName := ⟨"CopyHeaps$Carrier", "dropHandlesLeftBehind", "(LCopyHeaps$Pool;)V"⟩
abbrev cc_CH_kindOf : ByteArray := prog_1_method_36_code
abbrev yy_CH_kindOf : MethodName := ⟨"CopyHeaps", "kindOf", "(I)I"⟩
abbrev cc_CH_contentOf : ByteArray := prog_1_method_37_code
abbrev yy_CH_contentOf : MethodName := ⟨"CopyHeaps", "contentOf", "(I)I"⟩
abbrev cc_He_blobOf : ByteArray := prog_4_method_13_code
abbrev yy_He_blobOf : MethodName := ⟨"CopyHeaps$Heap", "blobOf", "(I)I"⟩
abbrev cc_Po_dropHandle : ByteArray := prog_7_method_4_code
abbrev yy_Po_dropHandle : MethodName := ⟨"CopyHeaps$Pool", "dropHandle", "(I)V"⟩
abbrev cc_La_nil : ByteArray := method_5_code
abbrev yy_La_nil : MethodName := ⟨"CopyHeapsLaw", "nil", "(LCopyHeaps;II)I"⟩
abbrev cc_CH_nil : ByteArray := prog_1_method_4_code
abbrev yy_CH_nil : MethodName := ⟨"CopyHeaps", "nil", "(II)V"⟩
abbrev cc_CH_living2 : ByteArray := prog_1_method_27_code
abbrev yy_CH_living2 : MethodName := ⟨"CopyHeaps", "living", "(II)LCopyHeaps$HeapProcess;"⟩
abbrev cc_CH_checkRegister : ByteArray := prog_1_method_28_code
abbrev yy_CH_checkRegister : MethodName := ⟨"CopyHeaps", "checkRegister", "(I)V"⟩
abbrev cc_La_integer : ByteArray := method_6_code
abbrev yy_La_integer : MethodName := ⟨"CopyHeapsLaw", "integer", "(LCopyHeaps;III)I"⟩
abbrev cc_CH_integer : ByteArray := prog_1_method_5_code
abbrev yy_CH_integer : MethodName := ⟨"CopyHeaps", "integer", "(III)V"⟩
abbrev cc_CH_termOf : ByteArray := prog_1_method_35_code
abbrev yy_CH_termOf : MethodName := ⟨"CopyHeaps", "termOf", "(II)I"⟩
abbrev cc_La_name : ByteArray := method_7_code
abbrev yy_La_name : MethodName := ⟨"CopyHeapsLaw", "name", "(LCopyHeaps;III)I"⟩
abbrev cc_CH_name : ByteArray := prog_1_method_6_code
abbrev yy_CH_name : MethodName := ⟨"CopyHeaps", "name", "(III)V"⟩
abbrev cc_La_move : ByteArray := method_8_code
abbrev yy_La_move : MethodName := ⟨"CopyHeapsLaw", "move", "(LCopyHeaps;III)I"⟩
abbrev cc_CH_move : ByteArray := prog_1_method_7_code
abbrev yy_CH_move : MethodName := ⟨"CopyHeaps", "move", "(III)V"⟩
abbrev cc_La_pair : ByteArray := method_9_code
abbrev yy_La_pair : MethodName := ⟨"CopyHeapsLaw", "pair", "(LCopyHeaps;IIII)I"⟩
abbrev cc_CH_pair : ByteArray := prog_1_method_8_code
abbrev yy_CH_pair : MethodName := ⟨"CopyHeaps", "pair", "(IIII)V"⟩
abbrev cc_CH_needRoom : ByteArray := prog_1_method_29_code
abbrev yy_CH_needRoom : MethodName := ⟨"CopyHeaps", "needRoom", "(LCopyHeaps$HeapProcess;I)V"⟩
abbrev cc_CH_makeRoom : ByteArray := prog_1_method_30_code
abbrev yy_CH_makeRoom : MethodName := ⟨"CopyHeaps", "makeRoom", "(LCopyHeaps$HeapProcess;I)Z"⟩
abbrev cc_Pr_lacks : ByteArray := prog_5_method_3_code
abbrev yy_Pr_lacks : MethodName := ⟨"CopyHeaps$HeapProcess", "lacks", "(I)I"⟩
abbrev cc_CH_collectHeap : ByteArray := prog_1_method_32_code
abbrev yy_CH_collectHeap : MethodName := ⟨"CopyHeaps", "collectHeap", "(LCopyHeaps$HeapProcess;)V"⟩
abbrev cc_Ca_carry : ByteArray := prog_2_method_3_code
abbrev yy_Ca_carry : MethodName := ⟨"CopyHeaps$Carrier", "carry", "(I)I"⟩
abbrev cc_CH_liesInHeap : ByteArray := prog_1_method_38_code
abbrev yy_CH_liesInHeap : MethodName := ⟨"CopyHeaps", "liesInHeap", "(I)Z"⟩
abbrev cc_He_addCopy : ByteArray := prog_4_method_6_code
abbrev yy_He_addCopy : MethodName := ⟨"CopyHeaps$Heap", "addCopy", "(LCopyHeaps$Heap;I)I"⟩
abbrev cc_He_lengthOf : ByteArray := prog_4_method_8_code
abbrev yy_He_lengthOf : MethodName := ⟨"CopyHeaps$Heap", "lengthOf", "(II)I"⟩
abbrev cc_He_place : ByteArray := prog_4_method_7_code
abbrev yy_He_place : MethodName := ⟨"CopyHeaps$Heap", "place", "(II)I"⟩
abbrev cc_Ma_get : ByteArray := prog_6_method_6_code
abbrev yy_Ma_get : MethodName := ⟨"CopyHeaps$Mailbox", "get", "(I)I"⟩
abbrev cc_Ma_placeInRing : ByteArray := prog_6_method_8_code
abbrev yy_Ma_placeInRing : MethodName := ⟨"CopyHeaps$Mailbox", "placeInRing", "(I)I"⟩
abbrev cc_Ma_set : ByteArray := prog_6_method_7_code
abbrev yy_Ma_set : MethodName := ⟨"CopyHeaps$Mailbox", "set", "(II)V"⟩
abbrev cc_Ca_carryPartsOfCarried : ByteArray := prog_2_method_4_code
abbrev yy_Ca_carryPartsOfCarried : MethodName := ⟨"CopyHeaps$Carrier", "carryPartsOfCarried", "()V"⟩
abbrev cc_He_partCount : ByteArray := prog_4_method_9_code
abbrev yy_He_partCount : MethodName := ⟨"CopyHeaps$Heap", "partCount", "(I)I"⟩
abbrev cc_He_partOf : ByteArray := prog_4_method_10_code
abbrev yy_He_partOf : MethodName := ⟨"CopyHeaps$Heap", "partOf", "(II)I"⟩
abbrev cc_He_firstPart : ByteArray := prog_4_method_12_code
abbrev yy_He_firstPart : MethodName := ⟨"CopyHeaps$Heap", "firstPart", "(I)I"⟩
abbrev cc_He_setPart : ByteArray := prog_4_method_11_code
abbrev yy_He_setPart : MethodName := ⟨"CopyHeaps$Heap", "setPart", "(III)V"⟩
abbrev cc_CH_inSteps : ByteArray := prog_1_method_31_code
abbrev yy_CH_inSteps : MethodName := ⟨"CopyHeaps", "inSteps", "(I)I"⟩
abbrev cc_He_addPair : ByteArray := prog_4_method_3_code
abbrev yy_He_addPair : MethodName := ⟨"CopyHeaps$Heap", "addPair", "(II)I"⟩
abbrev cc_La_tuple : ByteArray := method_10_code
abbrev yy_La_tuple : MethodName := ⟨"CopyHeapsLaw", "tuple", "(LCopyHeaps;III)I"⟩
abbrev cc_CH_tuple : ByteArray := prog_1_method_9_code
abbrev yy_CH_tuple : MethodName := ⟨"CopyHeaps", "tuple", "(III)V"⟩
abbrev cc_He_addTuple : ByteArray := prog_4_method_4_code
abbrev yy_He_addTuple : MethodName := ⟨"CopyHeaps$Heap", "addTuple", "([II)I"⟩
abbrev cc_La_blob : ByteArray := method_11_code
abbrev yy_La_blob : MethodName := ⟨"CopyHeapsLaw", "blob", "(LCopyHeaps;III)I"⟩
abbrev cc_CH_blob : ByteArray := prog_1_method_10_code
abbrev yy_CH_blob : MethodName := ⟨"CopyHeaps", "blob", "(III)V"⟩
abbrev cc_Po_makeBlob : ByteArray := prog_7_method_2_code
abbrev yy_Po_makeBlob : MethodName := ⟨"CopyHeaps$Pool", "makeBlob", "(I)I"⟩
abbrev cc_He_addHandle : ByteArray := prog_4_method_5_code
abbrev yy_He_addHandle : MethodName := ⟨"CopyHeaps$Heap", "addHandle", "(I)I"⟩
abbrev cc_La_part : ByteArray := method_12_code
abbrev yy_La_part : MethodName := ⟨"CopyHeapsLaw", "part", "(LCopyHeaps;IIII)I"⟩
abbrev cc_CH_part : ByteArray := prog_1_method_11_code
abbrev yy_CH_part : MethodName := ⟨"CopyHeaps", "part", "(IIII)V"⟩
abbrev cc_La_send : ByteArray := method_13_code
abbrev yy_La_send : MethodName := ⟨"CopyHeapsLaw", "send", "(LCopyHeaps;III[J)I"⟩
abbrev cc_CH_send : ByteArray := prog_1_method_12_code
abbrev yy_CH_send : MethodName := ⟨"CopyHeaps", "send", "(III)Z"⟩
abbrev cc_CH_deliver : ByteArray := prog_1_method_34_code
abbrev yy_CH_deliver : MethodName := ⟨"CopyHeaps", "deliver", "(LCopyHeaps$HeapProcess;ILCopyHeaps$HeapProcess;)Z"⟩
abbrev cc_Ma_isFull : ByteArray := prog_6_method_3_code
abbrev yy_Ma_isFull : MethodName := ⟨"CopyHeaps$Mailbox", "isFull", "()Z"⟩
abbrev cc_Ma_addLast : ByteArray := prog_6_method_4_code
abbrev yy_Ma_addLast : MethodName := ⟨"CopyHeaps$Mailbox", "addLast", "(I)V"⟩
abbrev cc_CH_wordsLedTo : ByteArray := prog_1_method_33_code
abbrev yy_CH_wordsLedTo : MethodName := ⟨"CopyHeaps", "wordsLedTo", "(LCopyHeaps$Heap;I)I"⟩
abbrev cc_Ca_countHandlesCarried : ByteArray := prog_2_method_5_code
abbrev yy_Ca_countHandlesCarried : MethodName := ⟨"CopyHeaps$Carrier", "countHandlesCarried", "(LCopyHeaps$Pool;)V"⟩
abbrev cc_Po_countHandle : ByteArray := prog_7_method_3_code
abbrev yy_Po_countHandle : MethodName := ⟨"CopyHeaps$Pool", "countHandle", "(I)V"⟩
abbrev cc_La_broadcast : ByteArray := method_14_code
abbrev yy_La_broadcast : MethodName := ⟨"CopyHeapsLaw", "broadcast", "(LCopyHeaps;II[J)I"⟩
abbrev cc_CH_broadcast : ByteArray := prog_1_method_13_code
abbrev yy_CH_broadcast : MethodName := ⟨"CopyHeaps", "broadcast", "(II)I"⟩
abbrev cc_La_receive : ByteArray := method_15_code
abbrev yy_La_receive : MethodName := ⟨"CopyHeapsLaw", "receive", "(LCopyHeaps;II[J)I"⟩
abbrev cc_CH_receive : ByteArray := prog_1_method_14_code
abbrev yy_CH_receive : MethodName := ⟨"CopyHeaps", "receive", "(II)I"⟩
abbrev cc_Ma_takeFirst : ByteArray := prog_6_method_5_code
abbrev yy_Ma_takeFirst : MethodName := ⟨"CopyHeaps$Mailbox", "takeFirst", "()I"⟩
abbrev cc_La_collect : ByteArray := method_16_code
abbrev yy_La_collect : MethodName := ⟨"CopyHeapsLaw", "collect", "(LCopyHeaps;I[J)I"⟩
abbrev cc_CH_collect : ByteArray := prog_1_method_15_code
abbrev yy_CH_collect : MethodName := ⟨"CopyHeaps", "collect", "(I)I"⟩
abbrev cc_La_trim : ByteArray := method_17_code
abbrev yy_La_trim : MethodName := ⟨"CopyHeapsLaw", "trim", "(LCopyHeaps;I[J)I"⟩
abbrev cc_CH_trim : ByteArray := prog_1_method_16_code
abbrev yy_CH_trim : MethodName := ⟨"CopyHeaps", "trim", "(I)I"⟩
abbrev cc_La_count : ByteArray := method_18_code
abbrev yy_La_count : MethodName := ⟨"CopyHeapsLaw", "count", "(LCopyHeaps;I[J)I"⟩
abbrev cc_CH_count : ByteArray := prog_1_method_17_code
abbrev yy_CH_count : MethodName := ⟨"CopyHeaps", "count", "(I)I"⟩
abbrev cc_La_of : ByteArray := method_19_code
abbrev yy_La_of : MethodName := ⟨"CopyHeapsLaw", "of", "(LCopyHeaps;II[J)I"⟩
abbrev cc_CH_of : ByteArray := prog_1_method_18_code
abbrev yy_CH_of : MethodName := ⟨"CopyHeaps", "of", "(II)I"⟩
abbrev cc_La_kind : ByteArray := method_20_code
abbrev yy_La_kind : MethodName := ⟨"CopyHeapsLaw", "kind", "(LCopyHeaps;II[J)I"⟩
abbrev cc_CH_kind : ByteArray := prog_1_method_19_code
abbrev yy_CH_kind : MethodName := ⟨"CopyHeaps", "kind", "(II)I"⟩
abbrev cc_La_value : ByteArray := method_21_code
abbrev yy_La_value : MethodName := ⟨"CopyHeapsLaw", "value", "(LCopyHeaps;II[J)I"⟩
abbrev cc_CH_value : ByteArray := prog_1_method_20_code
abbrev yy_CH_value : MethodName := ⟨"CopyHeaps", "value", "(II)I"⟩
abbrev cc_La_address : ByteArray := method_22_code
abbrev yy_La_address : MethodName := ⟨"CopyHeapsLaw", "address", "(LCopyHeaps;II[J)I"⟩
abbrev cc_CH_address : ByteArray := prog_1_method_21_code
abbrev yy_CH_address : MethodName := ⟨"CopyHeaps", "address", "(II)I"⟩
abbrev cc_La_words : ByteArray := method_23_code
abbrev yy_La_words : MethodName := ⟨"CopyHeapsLaw", "words", "(LCopyHeaps;II[J)I"⟩
abbrev cc_CH_words : ByteArray := prog_1_method_22_code
abbrev yy_CH_words : MethodName := ⟨"CopyHeaps", "words", "(II)I"⟩
abbrev cc_La_handles : ByteArray := method_24_code
abbrev yy_La_handles : MethodName := ⟨"CopyHeapsLaw", "handles", "(LCopyHeaps;II[J)I"⟩
abbrev cc_CH_handles : ByteArray := prog_1_method_23_code
abbrev yy_CH_handles : MethodName := ⟨"CopyHeaps", "handles", "(II)I"⟩
abbrev cc_La_equal : ByteArray := method_25_code
abbrev yy_La_equal : MethodName := ⟨"CopyHeapsLaw", "equal", "(LCopyHeaps;IIII[J)I"⟩
abbrev cc_CH_equal : ByteArray := prog_1_method_24_code
abbrev yy_CH_equal : MethodName := ⟨"CopyHeaps", "equal", "(IIII)Z"⟩
abbrev cc_Co_start : ByteArray := prog_3_method_2_code
abbrev yy_Co_start : MethodName := ⟨"CopyHeaps$Comparison", "start", "(LCopyHeaps$Heap;ILCopyHeaps$Heap;I)V"⟩
abbrev cc_Co_push : ByteArray := prog_3_method_7_code
abbrev yy_Co_push : MethodName := ⟨"CopyHeaps$Comparison", "push", "(II)V"⟩
abbrev cc_Co_findsAllAlike : ByteArray := prog_3_method_3_code
abbrev yy_Co_findsAllAlike : MethodName := ⟨"CopyHeaps$Comparison", "findsAllAlike", "()Z"⟩
abbrev cc_Co_areAlike : ByteArray := prog_3_method_5_code
abbrev yy_Co_areAlike : MethodName := ⟨"CopyHeaps$Comparison", "areAlike", "(II)Z"⟩
abbrev cc_Co_pushParts : ByteArray := prog_3_method_6_code
abbrev yy_Co_pushParts : MethodName := ⟨"CopyHeaps$Comparison", "pushParts", "(II)V"⟩
abbrev cc_Co_isUnfinished : ByteArray := prog_3_method_4_code
abbrev yy_Co_isUnfinished : MethodName := ⟨"CopyHeaps$Comparison", "isUnfinished", "()Z"⟩
abbrev cc_Mo_init : ByteArray := prog_9_method_1_code
abbrev yy_Mo_init : MethodName := ⟨"CopyHeapsModel", "<init>", "(I)V"⟩
abbrev cc_Mo_thrown : ByteArray := prog_9_method_2_code
abbrev yy_Mo_thrown : MethodName := ⟨"CopyHeapsModel", "thrown", "()I"⟩
abbrev cc_Mo_spawn : ByteArray := prog_9_method_19_code
abbrev yy_Mo_spawn : MethodName := ⟨"CopyHeapsModel", "spawn", "()I"⟩
abbrev cc_Mo_free : ByteArray := prog_9_method_3_code
abbrev yy_Mo_free : MethodName := ⟨"CopyHeapsModel", "free", "()I"⟩
abbrev cc_Mo_exit : ByteArray := prog_9_method_20_code
abbrev yy_Mo_exit : MethodName := ⟨"CopyHeapsModel", "exit", "(I)I"⟩
abbrev cc_Mo_placeOf : ByteArray := prog_9_method_4_code
abbrev yy_Mo_placeOf : MethodName := ⟨"CopyHeapsModel", "placeOf", "(I)I"⟩
abbrev cc_Mo_release : ByteArray := prog_9_method_6_code
abbrev yy_Mo_release : MethodName := ⟨"CopyHeapsModel", "release", "(I)V"⟩
abbrev cc_Mo_nil : ByteArray := prog_9_method_21_code
abbrev yy_Mo_nil : MethodName := ⟨"CopyHeapsModel", "nil", "(II)V"⟩
abbrev cc_Mo_noRegister : ByteArray := prog_9_method_5_code
abbrev yy_Mo_noRegister : MethodName := ⟨"CopyHeapsModel", "noRegister", "(I)Z"⟩
abbrev cc_Mo_integer : ByteArray := prog_9_method_22_code
abbrev yy_Mo_integer : MethodName := ⟨"CopyHeapsModel", "integer", "(III)V"⟩
abbrev cc_Mo_name : ByteArray := prog_9_method_23_code
abbrev yy_Mo_name : MethodName := ⟨"CopyHeapsModel", "name", "(III)V"⟩
abbrev cc_Mo_move : ByteArray := prog_9_method_24_code
abbrev yy_Mo_move : MethodName := ⟨"CopyHeapsModel", "move", "(III)V"⟩
abbrev cc_Mo_pair : ByteArray := prog_9_method_26_code
abbrev yy_Mo_pair : MethodName := ⟨"CopyHeapsModel", "pair", "(IIII)V"⟩
abbrev cc_Mo_room : ByteArray := prog_9_method_17_code
abbrev yy_Mo_room : MethodName := ⟨"CopyHeapsModel", "room", "(II)Z"⟩
abbrev cc_Mo_gather : ByteArray := prog_9_method_16_code
abbrev yy_Mo_gather : MethodName := ⟨"CopyHeapsModel", "gather", "(I)V"⟩
abbrev cc_Mo_begin : ByteArray := prog_9_method_13_code
abbrev yy_Mo_begin : MethodName := ⟨"CopyHeapsModel", "begin", "()V"⟩
abbrev cc_Mo_put : ByteArray := prog_9_method_14_code
abbrev yy_Mo_put : MethodName := ⟨"CopyHeapsModel", "put", "(III)I"⟩
abbrev cc_Mo_isHeaped : ByteArray := prog_9_method_7_code
abbrev yy_Mo_isHeaped : MethodName := ⟨"CopyHeapsModel", "isHeaped", "(I)Z"⟩
abbrev cc_Mo_at : ByteArray := prog_9_method_9_code
abbrev yy_Mo_at : MethodName := ⟨"CopyHeapsModel", "at", "(I)I"⟩
abbrev cc_Mo_kindOf : ByteArray := prog_9_method_8_code
abbrev yy_Mo_kindOf : MethodName := ⟨"CopyHeapsModel", "kindOf", "(I)I"⟩
abbrev cc_Mo_sizeOf : ByteArray := prog_9_method_12_code
abbrev yy_Mo_sizeOf : MethodName := ⟨"CopyHeapsModel", "sizeOf", "(II)I"⟩
abbrev cc_Mo_partsOf : ByteArray := prog_9_method_10_code
abbrev yy_Mo_partsOf : MethodName := ⟨"CopyHeapsModel", "partsOf", "(II)I"⟩
abbrev cc_Mo_follow : ByteArray := prog_9_method_15_code
abbrev yy_Mo_follow : MethodName := ⟨"CopyHeapsModel", "follow", "(II)V"⟩
abbrev cc_Mo_open : ByteArray := prog_9_method_25_code
abbrev yy_Mo_open : MethodName := ⟨"CopyHeapsModel", "open", "(III)I"⟩
abbrev cc_Mo_tuple : ByteArray := prog_9_method_27_code
abbrev yy_Mo_tuple : MethodName := ⟨"CopyHeapsModel", "tuple", "(III)V"⟩
abbrev cc_Mo_blob : ByteArray := prog_9_method_28_code
abbrev yy_Mo_blob : MethodName := ⟨"CopyHeapsModel", "blob", "(III)V"⟩
abbrev cc_Mo_part : ByteArray := prog_9_method_29_code
abbrev yy_Mo_part : MethodName := ⟨"CopyHeapsModel", "part", "(IIII)V"⟩
abbrev cc_Mo_partOf : ByteArray := prog_9_method_11_code
abbrev yy_Mo_partOf : MethodName := ⟨"CopyHeapsModel", "partOf", "(III)I"⟩
abbrev cc_Mo_send : ByteArray := prog_9_method_31_code
abbrev yy_Mo_send : MethodName := ⟨"CopyHeapsModel", "send", "(III)Z"⟩
abbrev cc_Mo_pass : ByteArray := prog_9_method_30_code
abbrev yy_Mo_pass : MethodName := ⟨"CopyHeapsModel", "pass", "(III)Z"⟩
abbrev cc_Mo_reach : ByteArray := prog_9_method_18_code
abbrev yy_Mo_reach : MethodName := ⟨"CopyHeapsModel", "reach", "(II)I"⟩
abbrev cc_Mo_broadcast : ByteArray := prog_9_method_32_code
abbrev yy_Mo_broadcast : MethodName := ⟨"CopyHeapsModel", "broadcast", "(II)I"⟩
abbrev cc_Mo_receive : ByteArray := prog_9_method_33_code
abbrev yy_Mo_receive : MethodName := ⟨"CopyHeapsModel", "receive", "(II)I"⟩
abbrev cc_Mo_collect : ByteArray := prog_9_method_34_code
abbrev yy_Mo_collect : MethodName := ⟨"CopyHeapsModel", "collect", "(I)I"⟩
abbrev cc_Mo_trim : ByteArray := prog_9_method_35_code
abbrev yy_Mo_trim : MethodName := ⟨"CopyHeapsModel", "trim", "(I)I"⟩
abbrev cc_Mo_count : ByteArray := prog_9_method_36_code
abbrev yy_Mo_count : MethodName := ⟨"CopyHeapsModel", "count", "(I)I"⟩
abbrev cc_Mo_of : ByteArray := prog_9_method_37_code
abbrev yy_Mo_of : MethodName := ⟨"CopyHeapsModel", "of", "(II)I"⟩
abbrev cc_Mo_kind : ByteArray := prog_9_method_39_code
abbrev yy_Mo_kind : MethodName := ⟨"CopyHeapsModel", "kind", "(II)I"⟩
abbrev cc_Mo_termOf : ByteArray := prog_9_method_38_code
abbrev yy_Mo_termOf : MethodName := ⟨"CopyHeapsModel", "termOf", "(II)I"⟩
abbrev cc_Mo_value : ByteArray := prog_9_method_40_code
abbrev yy_Mo_value : MethodName := ⟨"CopyHeapsModel", "value", "(II)I"⟩
abbrev cc_Mo_address : ByteArray := prog_9_method_41_code
abbrev yy_Mo_address : MethodName := ⟨"CopyHeapsModel", "address", "(II)I"⟩
abbrev cc_Mo_words : ByteArray := prog_9_method_42_code
abbrev yy_Mo_words : MethodName := ⟨"CopyHeapsModel", "words", "(II)I"⟩
abbrev cc_Mo_handles : ByteArray := prog_9_method_43_code
abbrev yy_Mo_handles : MethodName := ⟨"CopyHeapsModel", "handles", "(II)I"⟩
abbrev cc_Mo_equal : ByteArray := prog_9_method_45_code
abbrev yy_Mo_equal : MethodName := ⟨"CopyHeapsModel", "equal", "(IIII)Z"⟩
abbrev cc_Mo_alike : ByteArray := prog_9_method_44_code
abbrev yy_Mo_alike : MethodName := ⟨"CopyHeapsModel", "alike", "(IIII)Z"⟩
abbrev cc_La_law : ByteArray := code
abbrev yy_La_law : MethodName := ⟨"CopyHeapsLaw", "law", "([I)Z"⟩
theorem tw_0 : Cond.initialized "CopyHeapsLaw" ∈ WS := List.mem_filter.mpr ⟨List.mem_append_right _ (List.mem_of_getElem? (i := 0) rfl), rfl⟩
theorem tw_1 : Cond.initialized "CopyHeaps" ∈ WS := List.mem_filter.mpr ⟨List.mem_append_right _ (List.mem_of_getElem? (i := 1) rfl), rfl⟩
theorem tw_2 : Cond.initialized "java/lang/Math" ∈ WS := List.mem_filter.mpr ⟨List.mem_append_right _ (List.mem_of_getElem? (i := 2) rfl), rfl⟩
theorem tw_3 : Cond.initialized "CopyHeaps$Pool" ∈ WS := List.mem_filter.mpr ⟨List.mem_append_right _ (List.mem_of_getElem? (i := 3) rfl), rfl⟩
theorem tw_4 : Cond.initialized "java/util/AbstractCollection" ∈ WS := List.mem_filter.mpr ⟨List.mem_append_right _ (List.mem_of_getElem? (i := 4) rfl), rfl⟩
theorem tw_5 : Cond.initialized "java/util/AbstractList" ∈ WS := List.mem_filter.mpr ⟨List.mem_append_right _ (List.mem_of_getElem? (i := 5) rfl), rfl⟩
theorem tw_6 : Cond.initialized "java/util/ArrayList" ∈ WS := List.mem_filter.mpr ⟨List.mem_append_right _ (List.mem_of_getElem? (i := 6) rfl), rfl⟩
theorem tw_7 : Cond.initialized "CopyHeaps$Carrier" ∈ WS := List.mem_filter.mpr ⟨List.mem_append_right _ (List.mem_of_getElem? (i := 7) rfl), rfl⟩
theorem tw_8 : Cond.initialized "CopyHeaps$Comparison" ∈ WS := List.mem_filter.mpr ⟨List.mem_append_right _ (List.mem_of_getElem? (i := 8) rfl), rfl⟩
theorem tw_9 : Cond.initialized "CopyHeaps$Heap" ∈ WS := List.mem_filter.mpr ⟨List.mem_append_right _ (List.mem_of_getElem? (i := 9) rfl), rfl⟩
theorem tw_10 : Cond.initialized "CopyHeapsModel" ∈ WS := List.mem_filter.mpr ⟨List.mem_append_right _ (List.mem_of_getElem? (i := 10) rfl), rfl⟩
theorem tw_15 : Cond.initialized "CopyHeaps$HeapProcess" ∈ WS := List.mem_filter.mpr ⟨List.mem_append_right _ (List.mem_of_getElem? (i := 15) rfl), rfl⟩
theorem tw_16 : Cond.initialized "CopyHeaps$Mailbox" ∈ WS := List.mem_filter.mpr ⟨List.mem_append_right _ (List.mem_of_getElem? (i := 16) rfl), rfl⟩
theorem tw_17 : Cond.initialized "java/util/Objects" ∈ WS := List.mem_filter.mpr ⟨List.mem_append_right _ (List.mem_of_getElem? (i := 17) rfl), rfl⟩
theorem tw_18 : Cond.initialized "jdk/internal/util/Preconditions" ∈ WS := List.mem_filter.mpr ⟨List.mem_append_right _ (List.mem_of_getElem? (i := 18) rfl), rfl⟩
theorem tw_19 : Cond.initialized "java/lang/System" ∈ WS := List.mem_filter.mpr ⟨List.mem_append_right _ (List.mem_of_getElem? (i := 19) rfl), rfl⟩
theorem tw_20 : Cond.initialized "java/util/Arrays" ∈ WS := List.mem_filter.mpr ⟨List.mem_append_right _ (List.mem_of_getElem? (i := 20) rfl), rfl⟩
theorem tw_25 : Cond.classLink "CopyHeapsLaw" (8 : Nat) "CopyHeaps" ∈ WS := List.mem_filter.mpr ⟨List.mem_append_right _ (List.mem_of_getElem? (i := 25) rfl), rfl⟩
theorem tw_26 : Cond.instantiable "CopyHeaps" (9 : Nat) ∈ WS := List.mem_filter.mpr ⟨List.mem_append_right _ (List.mem_of_getElem? (i := 26) rfl), rfl⟩
theorem tw_27 : Cond.methodLink "CopyHeapsLaw" (100 : Nat) ({ cls := "CopyHeaps", name := "<init>", desc := "(I)V" } : MethodName) ∈ WS := List.mem_filter.mpr ⟨List.mem_append_right _ (List.mem_of_getElem? (i := 27) rfl), rfl⟩
theorem tw_28 : Cond.instanceMethod ({ cls := "CopyHeaps", name := "<init>", desc := "(I)V" } : MethodName) ∈ WS := List.mem_filter.mpr ⟨List.mem_append_right _ (List.mem_of_getElem? (i := 28) rfl), rfl⟩
theorem tw_29 : Cond.code ({ cls := "CopyHeaps", name := "<init>", desc := "(I)V" } : MethodName) prog_1_method_1_code (2 : Nat) (Option.none : Option FieldType) ∈ WS := List.mem_filter.mpr ⟨List.mem_append_right _ (List.mem_of_getElem? (i := 29) rfl), rfl⟩
theorem tw_30 : Cond.methodLink "CopyHeaps" (3 : Nat) ({ cls := "java/lang/Object", name := "<init>", desc := "()V" } : MethodName) ∈ WS := List.mem_filter.mpr ⟨List.mem_append_right _ (List.mem_of_getElem? (i := 30) rfl), rfl⟩
theorem tw_31 : Cond.instanceMethod ({ cls := "java/lang/Object", name := "<init>", desc := "()V" } : MethodName) ∈ WS := List.mem_filter.mpr ⟨List.mem_append_right _ (List.mem_of_getElem? (i := 31) rfl), rfl⟩
theorem tw_32 : Cond.code ({ cls := "java/lang/Object", name := "<init>", desc := "()V" } : MethodName) object_method_1_code (1 : Nat) (Option.none : Option FieldType) ∈ WS := List.mem_filter.mpr ⟨List.mem_append_right _ (List.mem_of_getElem? (i := 32) rfl), rfl⟩
theorem tw_33 : Cond.methodLink "CopyHeaps" (9 : Nat) ({ cls := "java/lang/Math", name := "min", desc := "(II)I" } : MethodName) ∈ WS := List.mem_filter.mpr ⟨List.mem_append_right _ (List.mem_of_getElem? (i := 33) rfl), rfl⟩
theorem tw_34 : Cond.static ({ cls := "java/lang/Math", name := "min", desc := "(II)I" } : MethodName) ∈ WS := List.mem_filter.mpr ⟨List.mem_append_right _ (List.mem_of_getElem? (i := 34) rfl), rfl⟩
theorem tw_35 : Cond.code ({ cls := "java/lang/Math", name := "min", desc := "(II)I" } : MethodName) prog_17_method_69_code (2 : Nat) (Option.some FieldType.int) ∈ WS := List.mem_filter.mpr ⟨List.mem_append_right _ (List.mem_of_getElem? (i := 35) rfl), rfl⟩
theorem tw_36 : Cond.methodLink "CopyHeaps" (15 : Nat) ({ cls := "java/lang/Math", name := "max", desc := "(II)I" } : MethodName) ∈ WS := List.mem_filter.mpr ⟨List.mem_append_right _ (List.mem_of_getElem? (i := 36) rfl), rfl⟩
theorem tw_37 : Cond.static ({ cls := "java/lang/Math", name := "max", desc := "(II)I" } : MethodName) ∈ WS := List.mem_filter.mpr ⟨List.mem_append_right _ (List.mem_of_getElem? (i := 37) rfl), rfl⟩
theorem tw_38 : Cond.code ({ cls := "java/lang/Math", name := "max", desc := "(II)I" } : MethodName) prog_17_method_65_code (2 : Nat) (Option.some FieldType.int) ∈ WS := List.mem_filter.mpr ⟨List.mem_append_right _ (List.mem_of_getElem? (i := 38) rfl), rfl⟩
theorem tw_39 : Cond.classLink "CopyHeaps" (22 : Nat) "CopyHeaps$Pool" ∈ WS := List.mem_filter.mpr ⟨List.mem_append_right _ (List.mem_of_getElem? (i := 39) rfl), rfl⟩
theorem tw_40 : Cond.instantiable "CopyHeaps$Pool" (4 : Nat) ∈ WS := List.mem_filter.mpr ⟨List.mem_append_right _ (List.mem_of_getElem? (i := 40) rfl), rfl⟩
theorem tw_41 : Cond.methodLink "CopyHeaps" (24 : Nat) ({ cls := "CopyHeaps$Pool", name := "<init>", desc := "(I)V" } : MethodName) ∈ WS := List.mem_filter.mpr ⟨List.mem_append_right _ (List.mem_of_getElem? (i := 41) rfl), rfl⟩
theorem tw_42 : Cond.instanceMethod ({ cls := "CopyHeaps$Pool", name := "<init>", desc := "(I)V" } : MethodName) ∈ WS := List.mem_filter.mpr ⟨List.mem_append_right _ (List.mem_of_getElem? (i := 42) rfl), rfl⟩
theorem tw_43 : Cond.code ({ cls := "CopyHeaps$Pool", name := "<init>", desc := "(I)V" } : MethodName) prog_7_method_1_code (2 : Nat) (Option.none : Option FieldType) ∈ WS := List.mem_filter.mpr ⟨List.mem_append_right _ (List.mem_of_getElem? (i := 43) rfl), rfl⟩
theorem tw_44 : Cond.methodLink "CopyHeaps$Pool" (3 : Nat) ({ cls := "java/lang/Object", name := "<init>", desc := "()V" } : MethodName) ∈ WS := List.mem_filter.mpr ⟨List.mem_append_right _ (List.mem_of_getElem? (i := 44) rfl), rfl⟩
theorem tw_45 : Cond.fieldLink "CopyHeaps$Pool" (18 : Nat) "CopyHeaps$Pool" "free" "I" ∈ WS := List.mem_filter.mpr ⟨List.mem_append_right _ (List.mem_of_getElem? (i := 45) rfl), rfl⟩
theorem tw_46 : Cond.fieldLink "CopyHeaps" (66 : Nat) "CopyHeaps$Pool" "free" "I" ∈ WS := List.mem_filter.mpr ⟨List.mem_append_right _ (List.mem_of_getElem? (i := 46) rfl), rfl⟩
theorem tw_47 : Cond.fieldLink "CopyHeaps$Pool" (22 : Nat) "CopyHeaps$Pool" "blobs" "I" ∈ WS := List.mem_filter.mpr ⟨List.mem_append_right _ (List.mem_of_getElem? (i := 47) rfl), rfl⟩
theorem tw_48 : Cond.fieldLink "CopyHeaps" (144 : Nat) "CopyHeaps$Pool" "blobs" "I" ∈ WS := List.mem_filter.mpr ⟨List.mem_append_right _ (List.mem_of_getElem? (i := 48) rfl), rfl⟩
theorem tw_49 : Cond.fieldLink "CopyHeaps$Pool" (9 : Nat) "CopyHeaps$Pool" "sizes" "[I" ∈ WS := List.mem_filter.mpr ⟨List.mem_append_right _ (List.mem_of_getElem? (i := 49) rfl), rfl⟩
theorem tw_50 : Cond.fieldLink "CopyHeaps" (199 : Nat) "CopyHeaps$Pool" "sizes" "[I" ∈ WS := List.mem_filter.mpr ⟨List.mem_append_right _ (List.mem_of_getElem? (i := 50) rfl), rfl⟩
theorem tw_51 : Cond.fieldLink "CopyHeaps$Pool" (15 : Nat) "CopyHeaps$Pool" "handleCounts" "[I" ∈ WS := List.mem_filter.mpr ⟨List.mem_append_right _ (List.mem_of_getElem? (i := 51) rfl), rfl⟩
theorem tw_52 : Cond.fieldLink "CopyHeaps" (213 : Nat) "CopyHeaps$Pool" "handleCounts" "[I" ∈ WS := List.mem_filter.mpr ⟨List.mem_append_right _ (List.mem_of_getElem? (i := 52) rfl), rfl⟩
theorem tw_53 : Cond.lays "CopyHeaps$Pool" "CopyHeaps$Pool" "free" "I" ∈ WS := List.mem_filter.mpr ⟨List.mem_append_right _ (List.mem_of_getElem? (i := 53) rfl), rfl⟩
theorem tw_55 : Cond.lays "CopyHeaps$Pool" "CopyHeaps$Pool" "blobs" "I" ∈ WS := List.mem_filter.mpr ⟨List.mem_append_right _ (List.mem_of_getElem? (i := 55) rfl), rfl⟩
theorem tw_57 : Cond.laysFinal "CopyHeaps$Pool" "CopyHeaps$Pool" "sizes" "[I" ∈ WS := List.mem_filter.mpr ⟨List.mem_append_right _ (List.mem_of_getElem? (i := 57) rfl), rfl⟩
theorem tw_59 : Cond.laysFinal "CopyHeaps$Pool" "CopyHeaps$Pool" "handleCounts" "[I" ∈ WS := List.mem_filter.mpr ⟨List.mem_append_right _ (List.mem_of_getElem? (i := 59) rfl), rfl⟩
theorem tw_63 : Cond.classLink "CopyHeaps" (31 : Nat) "java/util/ArrayList" ∈ WS := List.mem_filter.mpr ⟨List.mem_append_right _ (List.mem_of_getElem? (i := 63) rfl), rfl⟩
theorem tw_64 : Cond.instantiable "java/util/ArrayList" (3 : Nat) ∈ WS := List.mem_filter.mpr ⟨List.mem_append_right _ (List.mem_of_getElem? (i := 64) rfl), rfl⟩
theorem tw_65 : Cond.methodLink "CopyHeaps" (33 : Nat) ({ cls := "java/util/ArrayList", name := "<init>", desc := "()V" } : MethodName) ∈ WS := List.mem_filter.mpr ⟨List.mem_append_right _ (List.mem_of_getElem? (i := 65) rfl), rfl⟩
theorem tw_66 : Cond.instanceMethod ({ cls := "java/util/ArrayList", name := "<init>", desc := "()V" } : MethodName) ∈ WS := List.mem_filter.mpr ⟨List.mem_append_right _ (List.mem_of_getElem? (i := 66) rfl), rfl⟩
theorem tw_67 : Cond.code ({ cls := "java/util/ArrayList", name := "<init>", desc := "()V" } : MethodName) prog_24_method_2_code (1 : Nat) (Option.none : Option FieldType) ∈ WS := List.mem_filter.mpr ⟨List.mem_append_right _ (List.mem_of_getElem? (i := 67) rfl), rfl⟩
theorem tw_68 : Cond.methodLink "java/util/ArrayList" (1 : Nat) ({ cls := "java/util/AbstractList", name := "<init>", desc := "()V" } : MethodName) ∈ WS := List.mem_filter.mpr ⟨List.mem_append_right _ (List.mem_of_getElem? (i := 68) rfl), rfl⟩
theorem tw_69 : Cond.instanceMethod ({ cls := "java/util/AbstractList", name := "<init>", desc := "()V" } : MethodName) ∈ WS := List.mem_filter.mpr ⟨List.mem_append_right _ (List.mem_of_getElem? (i := 69) rfl), rfl⟩
theorem tw_70 : Cond.code ({ cls := "java/util/AbstractList", name := "<init>", desc := "()V" } : MethodName) prog_23_method_1_code (1 : Nat) (Option.none : Option FieldType) ∈ WS := List.mem_filter.mpr ⟨List.mem_append_right _ (List.mem_of_getElem? (i := 70) rfl), rfl⟩
theorem tw_71 : Cond.methodLink "java/util/AbstractList" (1 : Nat) ({ cls := "java/util/AbstractCollection", name := "<init>", desc := "()V" } : MethodName) ∈ WS := List.mem_filter.mpr ⟨List.mem_append_right _ (List.mem_of_getElem? (i := 71) rfl), rfl⟩
theorem tw_72 : Cond.instanceMethod ({ cls := "java/util/AbstractCollection", name := "<init>", desc := "()V" } : MethodName) ∈ WS := List.mem_filter.mpr ⟨List.mem_append_right _ (List.mem_of_getElem? (i := 72) rfl), rfl⟩
theorem tw_73 : Cond.code ({ cls := "java/util/AbstractCollection", name := "<init>", desc := "()V" } : MethodName) prog_22_method_1_code (1 : Nat) (Option.none : Option FieldType) ∈ WS := List.mem_filter.mpr ⟨List.mem_append_right _ (List.mem_of_getElem? (i := 73) rfl), rfl⟩
theorem tw_74 : Cond.methodLink "java/util/AbstractCollection" (1 : Nat) ({ cls := "java/lang/Object", name := "<init>", desc := "()V" } : MethodName) ∈ WS := List.mem_filter.mpr ⟨List.mem_append_right _ (List.mem_of_getElem? (i := 74) rfl), rfl⟩
theorem tw_75 : Cond.fieldLink "java/util/ArrayList" (39 : Nat) "java/util/ArrayList" "DEFAULTCAPACITY_EMPTY_ELEMENTDATA" "[Ljava/lang/Object;" ∈ WS := List.mem_filter.mpr ⟨List.mem_append_right _ (List.mem_of_getElem? (i := 75) rfl), rfl⟩
theorem tw_77 : Cond.fieldLink "java/util/ArrayList" (9 : Nat) "java/util/ArrayList" "elementData" "[Ljava/lang/Object;" ∈ WS := List.mem_filter.mpr ⟨List.mem_append_right _ (List.mem_of_getElem? (i := 77) rfl), rfl⟩
theorem tw_78 : Cond.fieldLink "java/util/ArrayList" (48 : Nat) "java/util/ArrayList" "size" "I" ∈ WS := List.mem_filter.mpr ⟨List.mem_append_right _ (List.mem_of_getElem? (i := 78) rfl), rfl⟩
theorem tw_79 : Cond.fieldLink "java/util/AbstractList" (7 : Nat) "java/util/AbstractList" "modCount" "I" ∈ WS := List.mem_filter.mpr ⟨List.mem_append_right _ (List.mem_of_getElem? (i := 79) rfl), rfl⟩
theorem tw_80 : Cond.fieldLink "java/util/ArrayList" (63 : Nat) "java/util/ArrayList" "modCount" "I" ∈ WS := List.mem_filter.mpr ⟨List.mem_append_right _ (List.mem_of_getElem? (i := 80) rfl), rfl⟩
theorem tw_81 : Cond.sameField "java/util/ArrayList" "java/util/AbstractList" "modCount" "I" ∈ WS := List.mem_filter.mpr ⟨List.mem_append_right _ (List.mem_of_getElem? (i := 81) rfl), rfl⟩
theorem tw_82 : Cond.lays "java/util/ArrayList" "java/util/ArrayList" "elementData" "[Ljava/lang/Object;" ∈ WS := List.mem_filter.mpr ⟨List.mem_append_right _ (List.mem_of_getElem? (i := 82) rfl), rfl⟩
theorem tw_84 : Cond.lays "java/util/ArrayList" "java/util/ArrayList" "size" "I" ∈ WS := List.mem_filter.mpr ⟨List.mem_append_right _ (List.mem_of_getElem? (i := 84) rfl), rfl⟩
theorem tw_86 : Cond.lays "java/util/ArrayList" "java/util/AbstractList" "modCount" "I" ∈ WS := List.mem_filter.mpr ⟨List.mem_append_right _ (List.mem_of_getElem? (i := 86) rfl), rfl⟩
theorem tw_89 : Cond.classLink "CopyHeaps" (41 : Nat) "CopyHeaps$Carrier" ∈ WS := List.mem_filter.mpr ⟨List.mem_append_right _ (List.mem_of_getElem? (i := 89) rfl), rfl⟩
theorem tw_90 : Cond.instantiable "CopyHeaps$Carrier" (4 : Nat) ∈ WS := List.mem_filter.mpr ⟨List.mem_append_right _ (List.mem_of_getElem? (i := 90) rfl), rfl⟩
theorem tw_91 : Cond.methodLink "CopyHeaps" (43 : Nat) ({ cls := "CopyHeaps$Carrier", name := "<init>", desc := "(I)V" } : MethodName) ∈ WS := List.mem_filter.mpr ⟨List.mem_append_right _ (List.mem_of_getElem? (i := 91) rfl), rfl⟩
theorem tw_92 : Cond.instanceMethod ({ cls := "CopyHeaps$Carrier", name := "<init>", desc := "(I)V" } : MethodName) ∈ WS := List.mem_filter.mpr ⟨List.mem_append_right _ (List.mem_of_getElem? (i := 92) rfl), rfl⟩
theorem tw_93 : Cond.code ({ cls := "CopyHeaps$Carrier", name := "<init>", desc := "(I)V" } : MethodName) prog_2_method_1_code (2 : Nat) (Option.none : Option FieldType) ∈ WS := List.mem_filter.mpr ⟨List.mem_append_right _ (List.mem_of_getElem? (i := 93) rfl), rfl⟩
theorem tw_94 : Cond.methodLink "CopyHeaps$Carrier" (3 : Nat) ({ cls := "java/lang/Object", name := "<init>", desc := "()V" } : MethodName) ∈ WS := List.mem_filter.mpr ⟨List.mem_append_right _ (List.mem_of_getElem? (i := 94) rfl), rfl⟩
theorem tw_95 : Cond.fieldLink "CopyHeaps$Carrier" (15 : Nat) "CopyHeaps$Carrier" "from" "LCopyHeaps$Heap;" ∈ WS := List.mem_filter.mpr ⟨List.mem_append_right _ (List.mem_of_getElem? (i := 95) rfl), rfl⟩
theorem tw_96 : Cond.fieldLink "CopyHeaps$Carrier" (19 : Nat) "CopyHeaps$Carrier" "to" "LCopyHeaps$Heap;" ∈ WS := List.mem_filter.mpr ⟨List.mem_append_right _ (List.mem_of_getElem? (i := 96) rfl), rfl⟩
theorem tw_97 : Cond.fieldLink "CopyHeaps$Carrier" (28 : Nat) "CopyHeaps$Carrier" "firstCarried" "I" ∈ WS := List.mem_filter.mpr ⟨List.mem_append_right _ (List.mem_of_getElem? (i := 97) rfl), rfl⟩
theorem tw_98 : Cond.fieldLink "CopyHeaps$Carrier" (9 : Nat) "CopyHeaps$Carrier" "carried" "[I" ∈ WS := List.mem_filter.mpr ⟨List.mem_append_right _ (List.mem_of_getElem? (i := 98) rfl), rfl⟩
theorem tw_99 : Cond.lays "CopyHeaps$Carrier" "CopyHeaps$Carrier" "from" "LCopyHeaps$Heap;" ∈ WS := List.mem_filter.mpr ⟨List.mem_append_right _ (List.mem_of_getElem? (i := 99) rfl), rfl⟩
theorem tw_101 : Cond.lays "CopyHeaps$Carrier" "CopyHeaps$Carrier" "to" "LCopyHeaps$Heap;" ∈ WS := List.mem_filter.mpr ⟨List.mem_append_right _ (List.mem_of_getElem? (i := 101) rfl), rfl⟩
theorem tw_103 : Cond.lays "CopyHeaps$Carrier" "CopyHeaps$Carrier" "firstCarried" "I" ∈ WS := List.mem_filter.mpr ⟨List.mem_append_right _ (List.mem_of_getElem? (i := 103) rfl), rfl⟩
theorem tw_105 : Cond.laysFinal "CopyHeaps$Carrier" "CopyHeaps$Carrier" "carried" "[I" ∈ WS := List.mem_filter.mpr ⟨List.mem_append_right _ (List.mem_of_getElem? (i := 105) rfl), rfl⟩
theorem tw_108 : Cond.classLink "CopyHeaps" (48 : Nat) "CopyHeaps$Comparison" ∈ WS := List.mem_filter.mpr ⟨List.mem_append_right _ (List.mem_of_getElem? (i := 108) rfl), rfl⟩
theorem tw_109 : Cond.instantiable "CopyHeaps$Comparison" (5 : Nat) ∈ WS := List.mem_filter.mpr ⟨List.mem_append_right _ (List.mem_of_getElem? (i := 109) rfl), rfl⟩
theorem tw_110 : Cond.methodLink "CopyHeaps" (50 : Nat) ({ cls := "CopyHeaps$Comparison", name := "<init>", desc := "(I)V" } : MethodName) ∈ WS := List.mem_filter.mpr ⟨List.mem_append_right _ (List.mem_of_getElem? (i := 110) rfl), rfl⟩
theorem tw_111 : Cond.instanceMethod ({ cls := "CopyHeaps$Comparison", name := "<init>", desc := "(I)V" } : MethodName) ∈ WS := List.mem_filter.mpr ⟨List.mem_append_right _ (List.mem_of_getElem? (i := 111) rfl), rfl⟩
theorem tw_112 : Cond.code ({ cls := "CopyHeaps$Comparison", name := "<init>", desc := "(I)V" } : MethodName) prog_3_method_1_code (2 : Nat) (Option.none : Option FieldType) ∈ WS := List.mem_filter.mpr ⟨List.mem_append_right _ (List.mem_of_getElem? (i := 112) rfl), rfl⟩
theorem tw_113 : Cond.methodLink "CopyHeaps$Comparison" (3 : Nat) ({ cls := "java/lang/Object", name := "<init>", desc := "()V" } : MethodName) ∈ WS := List.mem_filter.mpr ⟨List.mem_append_right _ (List.mem_of_getElem? (i := 113) rfl), rfl⟩
theorem tw_114 : Cond.fieldLink "CopyHeaps$Comparison" (18 : Nat) "CopyHeaps$Comparison" "leftHeap" "LCopyHeaps$Heap;" ∈ WS := List.mem_filter.mpr ⟨List.mem_append_right _ (List.mem_of_getElem? (i := 114) rfl), rfl⟩
theorem tw_115 : Cond.fieldLink "CopyHeaps$Comparison" (22 : Nat) "CopyHeaps$Comparison" "rightHeap" "LCopyHeaps$Heap;" ∈ WS := List.mem_filter.mpr ⟨List.mem_append_right _ (List.mem_of_getElem? (i := 115) rfl), rfl⟩
theorem tw_116 : Cond.fieldLink "CopyHeaps$Comparison" (9 : Nat) "CopyHeaps$Comparison" "leftTerms" "[I" ∈ WS := List.mem_filter.mpr ⟨List.mem_append_right _ (List.mem_of_getElem? (i := 116) rfl), rfl⟩
theorem tw_117 : Cond.fieldLink "CopyHeaps$Comparison" (15 : Nat) "CopyHeaps$Comparison" "rightTerms" "[I" ∈ WS := List.mem_filter.mpr ⟨List.mem_append_right _ (List.mem_of_getElem? (i := 117) rfl), rfl⟩
theorem tw_118 : Cond.fieldLink "CopyHeaps$Comparison" (25 : Nat) "CopyHeaps$Comparison" "pending" "I" ∈ WS := List.mem_filter.mpr ⟨List.mem_append_right _ (List.mem_of_getElem? (i := 118) rfl), rfl⟩
theorem tw_119 : Cond.lays "CopyHeaps$Comparison" "CopyHeaps$Comparison" "leftHeap" "LCopyHeaps$Heap;" ∈ WS := List.mem_filter.mpr ⟨List.mem_append_right _ (List.mem_of_getElem? (i := 119) rfl), rfl⟩
theorem tw_121 : Cond.lays "CopyHeaps$Comparison" "CopyHeaps$Comparison" "rightHeap" "LCopyHeaps$Heap;" ∈ WS := List.mem_filter.mpr ⟨List.mem_append_right _ (List.mem_of_getElem? (i := 121) rfl), rfl⟩
theorem tw_123 : Cond.laysFinal "CopyHeaps$Comparison" "CopyHeaps$Comparison" "leftTerms" "[I" ∈ WS := List.mem_filter.mpr ⟨List.mem_append_right _ (List.mem_of_getElem? (i := 123) rfl), rfl⟩
theorem tw_125 : Cond.laysFinal "CopyHeaps$Comparison" "CopyHeaps$Comparison" "rightTerms" "[I" ∈ WS := List.mem_filter.mpr ⟨List.mem_append_right _ (List.mem_of_getElem? (i := 125) rfl), rfl⟩
theorem tw_127 : Cond.lays "CopyHeaps$Comparison" "CopyHeaps$Comparison" "pending" "I" ∈ WS := List.mem_filter.mpr ⟨List.mem_append_right _ (List.mem_of_getElem? (i := 127) rfl), rfl⟩
theorem tw_130 : Cond.classLink "CopyHeaps" (55 : Nat) "CopyHeaps$Heap" ∈ WS := List.mem_filter.mpr ⟨List.mem_append_right _ (List.mem_of_getElem? (i := 130) rfl), rfl⟩
theorem tw_131 : Cond.instantiable "CopyHeaps$Heap" (4 : Nat) ∈ WS := List.mem_filter.mpr ⟨List.mem_append_right _ (List.mem_of_getElem? (i := 131) rfl), rfl⟩
theorem tw_132 : Cond.methodLink "CopyHeaps" (57 : Nat) ({ cls := "CopyHeaps$Heap", name := "<init>", desc := "(I)V" } : MethodName) ∈ WS := List.mem_filter.mpr ⟨List.mem_append_right _ (List.mem_of_getElem? (i := 132) rfl), rfl⟩
theorem tw_133 : Cond.instanceMethod ({ cls := "CopyHeaps$Heap", name := "<init>", desc := "(I)V" } : MethodName) ∈ WS := List.mem_filter.mpr ⟨List.mem_append_right _ (List.mem_of_getElem? (i := 133) rfl), rfl⟩
theorem tw_134 : Cond.code ({ cls := "CopyHeaps$Heap", name := "<init>", desc := "(I)V" } : MethodName) prog_4_method_1_code (2 : Nat) (Option.none : Option FieldType) ∈ WS := List.mem_filter.mpr ⟨List.mem_append_right _ (List.mem_of_getElem? (i := 134) rfl), rfl⟩
theorem tw_135 : Cond.methodLink "CopyHeaps$Heap" (3 : Nat) ({ cls := "java/lang/Object", name := "<init>", desc := "()V" } : MethodName) ∈ WS := List.mem_filter.mpr ⟨List.mem_append_right _ (List.mem_of_getElem? (i := 135) rfl), rfl⟩
theorem tw_136 : Cond.fieldLink "CopyHeaps$Heap" (18 : Nat) "CopyHeaps$Heap" "used" "I" ∈ WS := List.mem_filter.mpr ⟨List.mem_append_right _ (List.mem_of_getElem? (i := 136) rfl), rfl⟩
theorem tw_137 : Cond.fieldLink "CopyHeaps$HeapProcess" (48 : Nat) "CopyHeaps$Heap" "used" "I" ∈ WS := List.mem_filter.mpr ⟨List.mem_append_right _ (List.mem_of_getElem? (i := 137) rfl), rfl⟩
theorem tw_138 : Cond.fieldLink "CopyHeaps" (180 : Nat) "CopyHeaps$Heap" "used" "I" ∈ WS := List.mem_filter.mpr ⟨List.mem_append_right _ (List.mem_of_getElem? (i := 138) rfl), rfl⟩
theorem tw_139 : Cond.fieldLink "CopyHeaps$Heap" (22 : Nat) "CopyHeaps$Heap" "structureCount" "I" ∈ WS := List.mem_filter.mpr ⟨List.mem_append_right _ (List.mem_of_getElem? (i := 139) rfl), rfl⟩
theorem tw_140 : Cond.fieldLink "CopyHeaps$Carrier" (22 : Nat) "CopyHeaps$Heap" "structureCount" "I" ∈ WS := List.mem_filter.mpr ⟨List.mem_append_right _ (List.mem_of_getElem? (i := 140) rfl), rfl⟩
theorem tw_141 : Cond.fieldLink "CopyHeaps$Heap" (9 : Nat) "CopyHeaps$Heap" "structures" "[I" ∈ WS := List.mem_filter.mpr ⟨List.mem_append_right _ (List.mem_of_getElem? (i := 141) rfl), rfl⟩
theorem tw_142 : Cond.fieldLink "CopyHeaps$Carrier" (49 : Nat) "CopyHeaps$Heap" "structures" "[I" ∈ WS := List.mem_filter.mpr ⟨List.mem_append_right _ (List.mem_of_getElem? (i := 142) rfl), rfl⟩
theorem tw_143 : Cond.fieldLink "CopyHeaps$Heap" (15 : Nat) "CopyHeaps$Heap" "cells" "[I" ∈ WS := List.mem_filter.mpr ⟨List.mem_append_right _ (List.mem_of_getElem? (i := 143) rfl), rfl⟩
theorem tw_144 : Cond.lays "CopyHeaps$Heap" "CopyHeaps$Heap" "used" "I" ∈ WS := List.mem_filter.mpr ⟨List.mem_append_right _ (List.mem_of_getElem? (i := 144) rfl), rfl⟩
theorem tw_146 : Cond.lays "CopyHeaps$Heap" "CopyHeaps$Heap" "structureCount" "I" ∈ WS := List.mem_filter.mpr ⟨List.mem_append_right _ (List.mem_of_getElem? (i := 146) rfl), rfl⟩
theorem tw_148 : Cond.laysFinal "CopyHeaps$Heap" "CopyHeaps$Heap" "structures" "[I" ∈ WS := List.mem_filter.mpr ⟨List.mem_append_right _ (List.mem_of_getElem? (i := 148) rfl), rfl⟩
theorem tw_150 : Cond.laysFinal "CopyHeaps$Heap" "CopyHeaps$Heap" "cells" "[I" ∈ WS := List.mem_filter.mpr ⟨List.mem_append_right _ (List.mem_of_getElem? (i := 150) rfl), rfl⟩
theorem tw_153 : Cond.fieldLink "CopyHeaps" (18 : Nat) "CopyHeaps" "poolWords" "I" ∈ WS := List.mem_filter.mpr ⟨List.mem_append_right _ (List.mem_of_getElem? (i := 153) rfl), rfl⟩
theorem tw_154 : Cond.fieldLink "CopyHeaps" (27 : Nat) "CopyHeaps" "pool" "LCopyHeaps$Pool;" ∈ WS := List.mem_filter.mpr ⟨List.mem_append_right _ (List.mem_of_getElem? (i := 154) rfl), rfl⟩
theorem tw_155 : Cond.fieldLink "CopyHeaps" (34 : Nat) "CopyHeaps" "alive" "Ljava/util/ArrayList;" ∈ WS := List.mem_filter.mpr ⟨List.mem_append_right _ (List.mem_of_getElem? (i := 155) rfl), rfl⟩
theorem tw_156 : Cond.fieldLink "CopyHeaps" (38 : Nat) "CopyHeaps" "ended" "Ljava/util/ArrayList;" ∈ WS := List.mem_filter.mpr ⟨List.mem_append_right _ (List.mem_of_getElem? (i := 156) rfl), rfl⟩
theorem tw_157 : Cond.fieldLink "CopyHeaps" (44 : Nat) "CopyHeaps" "carrier" "LCopyHeaps$Carrier;" ∈ WS := List.mem_filter.mpr ⟨List.mem_append_right _ (List.mem_of_getElem? (i := 157) rfl), rfl⟩
theorem tw_158 : Cond.fieldLink "CopyHeaps" (51 : Nat) "CopyHeaps" "comparison" "LCopyHeaps$Comparison;" ∈ WS := List.mem_filter.mpr ⟨List.mem_append_right _ (List.mem_of_getElem? (i := 158) rfl), rfl⟩
theorem tw_159 : Cond.fieldLink "CopyHeaps" (58 : Nat) "CopyHeaps" "spare" "LCopyHeaps$Heap;" ∈ WS := List.mem_filter.mpr ⟨List.mem_append_right _ (List.mem_of_getElem? (i := 159) rfl), rfl⟩
theorem tw_160 : Cond.fieldLink "CopyHeaps" (83 : Nat) "CopyHeaps" "latest" "I" ∈ WS := List.mem_filter.mpr ⟨List.mem_append_right _ (List.mem_of_getElem? (i := 160) rfl), rfl⟩
theorem tw_161 : Cond.fieldLink "CopyHeaps" (190 : Nat) "CopyHeaps" "collections" "I" ∈ WS := List.mem_filter.mpr ⟨List.mem_append_right _ (List.mem_of_getElem? (i := 161) rfl), rfl⟩
theorem tw_162 : Cond.laysFinal "CopyHeaps" "CopyHeaps" "poolWords" "I" ∈ WS := List.mem_filter.mpr ⟨List.mem_append_right _ (List.mem_of_getElem? (i := 162) rfl), rfl⟩
theorem tw_164 : Cond.laysFinal "CopyHeaps" "CopyHeaps" "pool" "LCopyHeaps$Pool;" ∈ WS := List.mem_filter.mpr ⟨List.mem_append_right _ (List.mem_of_getElem? (i := 164) rfl), rfl⟩
theorem tw_166 : Cond.laysFinal "CopyHeaps" "CopyHeaps" "alive" "Ljava/util/ArrayList;" ∈ WS := List.mem_filter.mpr ⟨List.mem_append_right _ (List.mem_of_getElem? (i := 166) rfl), rfl⟩
theorem tw_168 : Cond.laysFinal "CopyHeaps" "CopyHeaps" "ended" "Ljava/util/ArrayList;" ∈ WS := List.mem_filter.mpr ⟨List.mem_append_right _ (List.mem_of_getElem? (i := 168) rfl), rfl⟩
theorem tw_170 : Cond.laysFinal "CopyHeaps" "CopyHeaps" "carrier" "LCopyHeaps$Carrier;" ∈ WS := List.mem_filter.mpr ⟨List.mem_append_right _ (List.mem_of_getElem? (i := 170) rfl), rfl⟩
theorem tw_172 : Cond.laysFinal "CopyHeaps" "CopyHeaps" "comparison" "LCopyHeaps$Comparison;" ∈ WS := List.mem_filter.mpr ⟨List.mem_append_right _ (List.mem_of_getElem? (i := 172) rfl), rfl⟩
theorem tw_174 : Cond.lays "CopyHeaps" "CopyHeaps" "spare" "LCopyHeaps$Heap;" ∈ WS := List.mem_filter.mpr ⟨List.mem_append_right _ (List.mem_of_getElem? (i := 174) rfl), rfl⟩
theorem tw_176 : Cond.lays "CopyHeaps" "CopyHeaps" "latest" "I" ∈ WS := List.mem_filter.mpr ⟨List.mem_append_right _ (List.mem_of_getElem? (i := 176) rfl), rfl⟩
theorem tw_178 : Cond.lays "CopyHeaps" "CopyHeaps" "collections" "I" ∈ WS := List.mem_filter.mpr ⟨List.mem_append_right _ (List.mem_of_getElem? (i := 178) rfl), rfl⟩
theorem tw_181 : Cond.methodLink "CopyHeapsLaw" (94 : Nat) ({ cls := "CopyHeapsLaw", name := "cell", desc := "([II)I" } : MethodName) ∈ WS := List.mem_filter.mpr ⟨List.mem_append_right _ (List.mem_of_getElem? (i := 181) rfl), rfl⟩
theorem tw_182 : Cond.static ({ cls := "CopyHeapsLaw", name := "cell", desc := "([II)I" } : MethodName) ∈ WS := List.mem_filter.mpr ⟨List.mem_append_right _ (List.mem_of_getElem? (i := 182) rfl), rfl⟩
theorem tw_183 : Cond.code ({ cls := "CopyHeapsLaw", name := "cell", desc := "([II)I" } : MethodName) method_2_code (2 : Nat) (Option.some FieldType.int) ∈ WS := List.mem_filter.mpr ⟨List.mem_append_right _ (List.mem_of_getElem? (i := 183) rfl), rfl⟩
theorem tw_188 : Cond.methodLink "CopyHeapsLaw" (7 : Nat) ({ cls := "CopyHeaps", name := "spawn", desc := "()I" } : MethodName) ∈ WS := List.mem_filter.mpr ⟨List.mem_append_right _ (List.mem_of_getElem? (i := 188) rfl), rfl⟩
theorem tw_189 : Cond.instanceMethod ({ cls := "CopyHeaps", name := "spawn", desc := "()I" } : MethodName) ∈ WS := List.mem_filter.mpr ⟨List.mem_append_right _ (List.mem_of_getElem? (i := 189) rfl), rfl⟩
theorem tw_190 : Cond.selects "CopyHeaps" ({ cls := "CopyHeaps", name := "spawn", desc := "()I" } : MethodName) ({ cls := "CopyHeaps", name := "spawn", desc := "()I" } : MethodName) ∈ WS := List.mem_filter.mpr ⟨List.mem_append_right _ (List.mem_of_getElem? (i := 190) rfl), rfl⟩
theorem tw_191 : Cond.code ({ cls := "CopyHeaps", name := "spawn", desc := "()I" } : MethodName) prog_1_method_2_code (2 : Nat) (Option.some FieldType.int) ∈ WS := List.mem_filter.mpr ⟨List.mem_append_right _ (List.mem_of_getElem? (i := 191) rfl), rfl⟩
theorem tw_192 : Cond.methodLink "CopyHeaps" (62 : Nat) ({ cls := "java/util/ArrayList", name := "size", desc := "()I" } : MethodName) ∈ WS := List.mem_filter.mpr ⟨List.mem_append_right _ (List.mem_of_getElem? (i := 192) rfl), rfl⟩
theorem tw_193 : Cond.instanceMethod ({ cls := "java/util/ArrayList", name := "size", desc := "()I" } : MethodName) ∈ WS := List.mem_filter.mpr ⟨List.mem_append_right _ (List.mem_of_getElem? (i := 193) rfl), rfl⟩
theorem tw_194 : Cond.selects "java/util/ArrayList" ({ cls := "java/util/ArrayList", name := "size", desc := "()I" } : MethodName) ({ cls := "java/util/ArrayList", name := "size", desc := "()I" } : MethodName) ∈ WS := List.mem_filter.mpr ⟨List.mem_append_right _ (List.mem_of_getElem? (i := 194) rfl), rfl⟩
theorem tw_195 : Cond.code ({ cls := "java/util/ArrayList", name := "size", desc := "()I" } : MethodName) prog_24_method_8_code (1 : Nat) (Option.some FieldType.int) ∈ WS := List.mem_filter.mpr ⟨List.mem_append_right _ (List.mem_of_getElem? (i := 195) rfl), rfl⟩
theorem tw_260 : Cond.methodLink "CopyHeaps" (72 : Nat) ({ cls := "java/util/ArrayList", name := "isEmpty", desc := "()Z" } : MethodName) ∈ WS := List.mem_filter.mpr ⟨List.mem_append_right _ (List.mem_of_getElem? (i := 260) rfl), rfl⟩
theorem tw_261 : Cond.instanceMethod ({ cls := "java/util/ArrayList", name := "isEmpty", desc := "()Z" } : MethodName) ∈ WS := List.mem_filter.mpr ⟨List.mem_append_right _ (List.mem_of_getElem? (i := 261) rfl), rfl⟩
theorem tw_262 : Cond.selects "java/util/ArrayList" ({ cls := "java/util/ArrayList", name := "isEmpty", desc := "()Z" } : MethodName) ({ cls := "java/util/ArrayList", name := "isEmpty", desc := "()Z" } : MethodName) ∈ WS := List.mem_filter.mpr ⟨List.mem_append_right _ (List.mem_of_getElem? (i := 262) rfl), rfl⟩
theorem tw_263 : Cond.code ({ cls := "java/util/ArrayList", name := "isEmpty", desc := "()Z" } : MethodName) prog_24_method_9_code (1 : Nat) (Option.some FieldType.boolean) ∈ WS := List.mem_filter.mpr ⟨List.mem_append_right _ (List.mem_of_getElem? (i := 263) rfl), rfl⟩
theorem tw_264 : Cond.classLink "CopyHeaps" (76 : Nat) "CopyHeaps$HeapProcess" ∈ WS := List.mem_filter.mpr ⟨List.mem_append_right _ (List.mem_of_getElem? (i := 264) rfl), rfl⟩
theorem tw_265 : Cond.instantiable "CopyHeaps$HeapProcess" (5 : Nat) ∈ WS := List.mem_filter.mpr ⟨List.mem_append_right _ (List.mem_of_getElem? (i := 265) rfl), rfl⟩
theorem tw_266 : Cond.methodLink "CopyHeaps" (78 : Nat) ({ cls := "CopyHeaps$HeapProcess", name := "<init>", desc := "(I)V" } : MethodName) ∈ WS := List.mem_filter.mpr ⟨List.mem_append_right _ (List.mem_of_getElem? (i := 266) rfl), rfl⟩
theorem tw_267 : Cond.instanceMethod ({ cls := "CopyHeaps$HeapProcess", name := "<init>", desc := "(I)V" } : MethodName) ∈ WS := List.mem_filter.mpr ⟨List.mem_append_right _ (List.mem_of_getElem? (i := 267) rfl), rfl⟩
theorem tw_268 : Cond.code ({ cls := "CopyHeaps$HeapProcess", name := "<init>", desc := "(I)V" } : MethodName) prog_5_method_1_code (2 : Nat) (Option.none : Option FieldType) ∈ WS := List.mem_filter.mpr ⟨List.mem_append_right _ (List.mem_of_getElem? (i := 268) rfl), rfl⟩
theorem tw_269 : Cond.methodLink "CopyHeaps$HeapProcess" (3 : Nat) ({ cls := "java/lang/Object", name := "<init>", desc := "()V" } : MethodName) ∈ WS := List.mem_filter.mpr ⟨List.mem_append_right _ (List.mem_of_getElem? (i := 269) rfl), rfl⟩
theorem tw_270 : Cond.classLink "CopyHeaps$HeapProcess" (15 : Nat) "CopyHeaps$Mailbox" ∈ WS := List.mem_filter.mpr ⟨List.mem_append_right _ (List.mem_of_getElem? (i := 270) rfl), rfl⟩
theorem tw_271 : Cond.instantiable "CopyHeaps$Mailbox" (3 : Nat) ∈ WS := List.mem_filter.mpr ⟨List.mem_append_right _ (List.mem_of_getElem? (i := 271) rfl), rfl⟩
theorem tw_272 : Cond.methodLinkNest "CopyHeaps$HeapProcess" (17 : Nat) ({ cls := "CopyHeaps$Mailbox", name := "<init>", desc := "()V" } : MethodName) "CopyHeaps" ∈ WS := List.mem_filter.mpr ⟨List.mem_append_right _ (List.mem_of_getElem? (i := 272) rfl), rfl⟩
theorem tw_273 : Cond.instanceMethod ({ cls := "CopyHeaps$Mailbox", name := "<init>", desc := "()V" } : MethodName) ∈ WS := List.mem_filter.mpr ⟨List.mem_append_right _ (List.mem_of_getElem? (i := 273) rfl), rfl⟩
theorem tw_274 : Cond.code ({ cls := "CopyHeaps$Mailbox", name := "<init>", desc := "()V" } : MethodName) prog_6_method_1_code (1 : Nat) (Option.none : Option FieldType) ∈ WS := List.mem_filter.mpr ⟨List.mem_append_right _ (List.mem_of_getElem? (i := 274) rfl), rfl⟩
theorem tw_275 : Cond.methodLink "CopyHeaps$Mailbox" (3 : Nat) ({ cls := "java/lang/Object", name := "<init>", desc := "()V" } : MethodName) ∈ WS := List.mem_filter.mpr ⟨List.mem_append_right _ (List.mem_of_getElem? (i := 275) rfl), rfl⟩
theorem tw_276 : Cond.fieldLink "CopyHeaps$Mailbox" (19 : Nat) "CopyHeaps$Mailbox" "size" "I" ∈ WS := List.mem_filter.mpr ⟨List.mem_append_right _ (List.mem_of_getElem? (i := 276) rfl), rfl⟩
theorem tw_277 : Cond.fieldLink "CopyHeaps" (173 : Nat) "CopyHeaps$Mailbox" "size" "I" ∈ WS := List.mem_filter.mpr ⟨List.mem_append_right _ (List.mem_of_getElem? (i := 277) rfl), rfl⟩
theorem tw_278 : Cond.fieldLink "CopyHeaps$Mailbox" (15 : Nat) "CopyHeaps$Mailbox" "first" "I" ∈ WS := List.mem_filter.mpr ⟨List.mem_append_right _ (List.mem_of_getElem? (i := 278) rfl), rfl⟩
theorem tw_279 : Cond.fieldLink "CopyHeaps$Mailbox" (9 : Nat) "CopyHeaps$Mailbox" "messages" "[I" ∈ WS := List.mem_filter.mpr ⟨List.mem_append_right _ (List.mem_of_getElem? (i := 279) rfl), rfl⟩
theorem tw_280 : Cond.lays "CopyHeaps$Mailbox" "CopyHeaps$Mailbox" "size" "I" ∈ WS := List.mem_filter.mpr ⟨List.mem_append_right _ (List.mem_of_getElem? (i := 280) rfl), rfl⟩
theorem tw_282 : Cond.lays "CopyHeaps$Mailbox" "CopyHeaps$Mailbox" "first" "I" ∈ WS := List.mem_filter.mpr ⟨List.mem_append_right _ (List.mem_of_getElem? (i := 282) rfl), rfl⟩
theorem tw_284 : Cond.laysFinal "CopyHeaps$Mailbox" "CopyHeaps$Mailbox" "messages" "[I" ∈ WS := List.mem_filter.mpr ⟨List.mem_append_right _ (List.mem_of_getElem? (i := 284) rfl), rfl⟩
theorem tw_287 : Cond.classLink "CopyHeaps$HeapProcess" (22 : Nat) "CopyHeaps$Heap" ∈ WS := List.mem_filter.mpr ⟨List.mem_append_right _ (List.mem_of_getElem? (i := 287) rfl), rfl⟩
theorem tw_288 : Cond.methodLink "CopyHeaps$HeapProcess" (24 : Nat) ({ cls := "CopyHeaps$Heap", name := "<init>", desc := "(I)V" } : MethodName) ∈ WS := List.mem_filter.mpr ⟨List.mem_append_right _ (List.mem_of_getElem? (i := 288) rfl), rfl⟩
theorem tw_289 : Cond.fieldLink "CopyHeaps$HeapProcess" (31 : Nat) "CopyHeaps$HeapProcess" "number" "I" ∈ WS := List.mem_filter.mpr ⟨List.mem_append_right _ (List.mem_of_getElem? (i := 289) rfl), rfl⟩
theorem tw_290 : Cond.fieldLink "CopyHeaps" (225 : Nat) "CopyHeaps$HeapProcess" "number" "I" ∈ WS := List.mem_filter.mpr ⟨List.mem_append_right _ (List.mem_of_getElem? (i := 290) rfl), rfl⟩
theorem tw_291 : Cond.fieldLink "CopyHeaps$HeapProcess" (35 : Nat) "CopyHeaps$HeapProcess" "capacity" "I" ∈ WS := List.mem_filter.mpr ⟨List.mem_append_right _ (List.mem_of_getElem? (i := 291) rfl), rfl⟩
theorem tw_292 : Cond.fieldLink "CopyHeaps" (108 : Nat) "CopyHeaps$HeapProcess" "capacity" "I" ∈ WS := List.mem_filter.mpr ⟨List.mem_append_right _ (List.mem_of_getElem? (i := 292) rfl), rfl⟩
theorem tw_293 : Cond.fieldLink "CopyHeaps$HeapProcess" (27 : Nat) "CopyHeaps$HeapProcess" "heap" "LCopyHeaps$Heap;" ∈ WS := List.mem_filter.mpr ⟨List.mem_append_right _ (List.mem_of_getElem? (i := 293) rfl), rfl⟩
theorem tw_294 : Cond.fieldLink "CopyHeaps" (97 : Nat) "CopyHeaps$HeapProcess" "heap" "LCopyHeaps$Heap;" ∈ WS := List.mem_filter.mpr ⟨List.mem_append_right _ (List.mem_of_getElem? (i := 294) rfl), rfl⟩
theorem tw_295 : Cond.fieldLink "CopyHeaps$HeapProcess" (9 : Nat) "CopyHeaps$HeapProcess" "registers" "[I" ∈ WS := List.mem_filter.mpr ⟨List.mem_append_right _ (List.mem_of_getElem? (i := 295) rfl), rfl⟩
theorem tw_296 : Cond.fieldLink "CopyHeaps" (118 : Nat) "CopyHeaps$HeapProcess" "registers" "[I" ∈ WS := List.mem_filter.mpr ⟨List.mem_append_right _ (List.mem_of_getElem? (i := 296) rfl), rfl⟩
theorem tw_297 : Cond.fieldLink "CopyHeaps$HeapProcess" (18 : Nat) "CopyHeaps$HeapProcess" "mailbox" "LCopyHeaps$Mailbox;" ∈ WS := List.mem_filter.mpr ⟨List.mem_append_right _ (List.mem_of_getElem? (i := 297) rfl), rfl⟩
theorem tw_298 : Cond.fieldLink "CopyHeaps" (169 : Nat) "CopyHeaps$HeapProcess" "mailbox" "LCopyHeaps$Mailbox;" ∈ WS := List.mem_filter.mpr ⟨List.mem_append_right _ (List.mem_of_getElem? (i := 298) rfl), rfl⟩
theorem tw_299 : Cond.lays "CopyHeaps$HeapProcess" "CopyHeaps$HeapProcess" "number" "I" ∈ WS := List.mem_filter.mpr ⟨List.mem_append_right _ (List.mem_of_getElem? (i := 299) rfl), rfl⟩
set_option maxRecDepth 100000 in
theorem tw_301 : Cond.lays "CopyHeaps$HeapProcess" "CopyHeaps$HeapProcess" "capacity" "I" ∈ WS := List.mem_filter.mpr ⟨List.mem_append_right _ (List.mem_of_getElem? (i := 301) rfl), rfl⟩
set_option maxRecDepth 100000 in
theorem tw_303 : Cond.lays "CopyHeaps$HeapProcess" "CopyHeaps$HeapProcess" "heap" "LCopyHeaps$Heap;" ∈ WS := List.mem_filter.mpr ⟨List.mem_append_right _ (List.mem_of_getElem? (i := 303) rfl), rfl⟩
set_option maxRecDepth 100000 in
theorem tw_305 : Cond.laysFinal "CopyHeaps$HeapProcess" "CopyHeaps$HeapProcess" "registers" "[I" ∈ WS := List.mem_filter.mpr ⟨List.mem_append_right _ (List.mem_of_getElem? (i := 305) rfl), rfl⟩
set_option maxRecDepth 100000 in
theorem tw_307 : Cond.laysFinal "CopyHeaps$HeapProcess" "CopyHeaps$HeapProcess" "mailbox" "LCopyHeaps$Mailbox;" ∈ WS := List.mem_filter.mpr ⟨List.mem_append_right _ (List.mem_of_getElem? (i := 307) rfl), rfl⟩
set_option maxRecDepth 100000 in
theorem tw_310 : Cond.methodLink "CopyHeaps" (79 : Nat) ({ cls := "java/util/ArrayList", name := "remove", desc := "(I)Ljava/lang/Object;" } : MethodName) ∈ WS := List.mem_filter.mpr ⟨List.mem_append_right _ (List.mem_of_getElem? (i := 310) rfl), rfl⟩
set_option maxRecDepth 100000 in
theorem tw_311 : Cond.instanceMethod ({ cls := "java/util/ArrayList", name := "remove", desc := "(I)Ljava/lang/Object;" } : MethodName) ∈ WS := List.mem_filter.mpr ⟨List.mem_append_right _ (List.mem_of_getElem? (i := 311) rfl), rfl⟩
set_option maxRecDepth 100000 in
theorem tw_312 : Cond.selects "java/util/ArrayList" ({ cls := "java/util/ArrayList", name := "remove", desc := "(I)Ljava/lang/Object;" } : MethodName) ({ cls := "java/util/ArrayList", name := "remove", desc := "(I)Ljava/lang/Object;" } : MethodName) ∈ WS := List.mem_filter.mpr ⟨List.mem_append_right _ (List.mem_of_getElem? (i := 312) rfl), rfl⟩
set_option maxRecDepth 100000 in
theorem tw_313 : Cond.code ({ cls := "java/util/ArrayList", name := "remove", desc := "(I)Ljava/lang/Object;" } : MethodName) prog_24_method_29_code (4 : Nat) (Option.some (FieldType.object "java/lang/Object")) ∈ WS := List.mem_filter.mpr ⟨List.mem_append_right _ (List.mem_of_getElem? (i := 313) rfl), rfl⟩
set_option maxRecDepth 100000 in
theorem tw_314 : Cond.methodLink "java/util/ArrayList" (118 : Nat) ({ cls := "java/util/Objects", name := "checkIndex", desc := "(II)I" } : MethodName) ∈ WS := List.mem_filter.mpr ⟨List.mem_append_right _ (List.mem_of_getElem? (i := 314) rfl), rfl⟩
set_option maxRecDepth 100000 in
theorem tw_315 : Cond.static ({ cls := "java/util/Objects", name := "checkIndex", desc := "(II)I" } : MethodName) ∈ WS := List.mem_filter.mpr ⟨List.mem_append_right _ (List.mem_of_getElem? (i := 315) rfl), rfl⟩
set_option maxRecDepth 100000 in
theorem tw_316 : Cond.code ({ cls := "java/util/Objects", name := "checkIndex", desc := "(II)I" } : MethodName) prog_28_method_17_code (2 : Nat) (Option.some FieldType.int) ∈ WS := List.mem_filter.mpr ⟨List.mem_append_right _ (List.mem_of_getElem? (i := 316) rfl), rfl⟩
set_option maxRecDepth 100000 in
theorem tw_317 : Cond.methodLink "java/util/Objects" (105 : Nat) ({ cls := "jdk/internal/util/Preconditions", name := "checkIndex", desc := "(IILjava/util/function/BiFunction;)I" } : MethodName) ∈ WS := List.mem_filter.mpr ⟨List.mem_append_right _ (List.mem_of_getElem? (i := 317) rfl), rfl⟩
set_option maxRecDepth 100000 in
theorem tw_318 : Cond.static ({ cls := "jdk/internal/util/Preconditions", name := "checkIndex", desc := "(IILjava/util/function/BiFunction;)I" } : MethodName) ∈ WS := List.mem_filter.mpr ⟨List.mem_append_right _ (List.mem_of_getElem? (i := 318) rfl), rfl⟩
set_option maxRecDepth 100000 in
theorem tw_319 : Cond.code ({ cls := "jdk/internal/util/Preconditions", name := "checkIndex", desc := "(IILjava/util/function/BiFunction;)I" } : MethodName) prog_32_method_11_code (3 : Nat) (Option.some FieldType.int) ∈ WS := List.mem_filter.mpr ⟨List.mem_append_right _ (List.mem_of_getElem? (i := 319) rfl), rfl⟩
set_option maxRecDepth 100000 in
theorem tw_320 : Cond.methodLink "java/util/ArrayList" (144 : Nat) ({ cls := "java/util/ArrayList", name := "fastRemove", desc := "([Ljava/lang/Object;I)V" } : MethodName) ∈ WS := List.mem_filter.mpr ⟨List.mem_append_right _ (List.mem_of_getElem? (i := 320) rfl), rfl⟩
set_option maxRecDepth 100000 in
theorem tw_322 : Cond.instanceMethod ({ cls := "java/util/ArrayList", name := "fastRemove", desc := "([Ljava/lang/Object;I)V" } : MethodName) ∈ WS := List.mem_filter.mpr ⟨List.mem_append_right _ (List.mem_of_getElem? (i := 322) rfl), rfl⟩
set_option maxRecDepth 100000 in
theorem tw_323 : Cond.code ({ cls := "java/util/ArrayList", name := "fastRemove", desc := "([Ljava/lang/Object;I)V" } : MethodName) prog_24_method_39_code (4 : Nat) (Option.none : Option FieldType) ∈ WS := List.mem_filter.mpr ⟨List.mem_append_right _ (List.mem_of_getElem? (i := 323) rfl), rfl⟩
set_option maxRecDepth 100000 in
theorem tw_324 : Cond.methodLink "java/util/ArrayList" (112 : Nat) ({ cls := "java/lang/System", name := "arraycopy", desc := "(Ljava/lang/Object;ILjava/lang/Object;II)V" } : MethodName) ∈ WS := List.mem_filter.mpr ⟨List.mem_append_right _ (List.mem_of_getElem? (i := 324) rfl), rfl⟩
set_option maxRecDepth 100000 in
theorem tw_325 : Cond.static ({ cls := "java/lang/System", name := "arraycopy", desc := "(Ljava/lang/Object;ILjava/lang/Object;II)V" } : MethodName) ∈ WS := List.mem_filter.mpr ⟨List.mem_append_right _ (List.mem_of_getElem? (i := 325) rfl), rfl⟩
set_option maxRecDepth 100000 in
theorem tw_326 : Cond.native ({ cls := "java/lang/System", name := "arraycopy", desc := "(Ljava/lang/Object;ILjava/lang/Object;II)V" } : MethodName) ∈ WS := List.mem_filter.mpr ⟨List.mem_append_right _ (List.mem_of_getElem? (i := 326) rfl), rfl⟩
set_option maxRecDepth 100000 in
theorem tw_327 : Cond.methodLink "CopyHeaps" (86 : Nat) ({ cls := "CopyHeaps$HeapProcess", name := "begin", desc := "(I)V" } : MethodName) ∈ WS := List.mem_filter.mpr ⟨List.mem_append_right _ (List.mem_of_getElem? (i := 327) rfl), rfl⟩
set_option maxRecDepth 100000 in
theorem tw_328 : Cond.instanceMethod ({ cls := "CopyHeaps$HeapProcess", name := "begin", desc := "(I)V" } : MethodName) ∈ WS := List.mem_filter.mpr ⟨List.mem_append_right _ (List.mem_of_getElem? (i := 328) rfl), rfl⟩
set_option maxRecDepth 100000 in
theorem tw_329 : Cond.selects "CopyHeaps$HeapProcess" ({ cls := "CopyHeaps$HeapProcess", name := "begin", desc := "(I)V" } : MethodName) ({ cls := "CopyHeaps$HeapProcess", name := "begin", desc := "(I)V" } : MethodName) ∈ WS := List.mem_filter.mpr ⟨List.mem_append_right _ (List.mem_of_getElem? (i := 329) rfl), rfl⟩
set_option maxRecDepth 100000 in
theorem tw_330 : Cond.code ({ cls := "CopyHeaps$HeapProcess", name := "begin", desc := "(I)V" } : MethodName) prog_5_method_2_code (2 : Nat) (Option.none : Option FieldType) ∈ WS := List.mem_filter.mpr ⟨List.mem_append_right _ (List.mem_of_getElem? (i := 330) rfl), rfl⟩
set_option maxRecDepth 100000 in
theorem tw_331 : Cond.methodLink "CopyHeaps$HeapProcess" (38 : Nat) ({ cls := "CopyHeaps$Heap", name := "clear", desc := "()V" } : MethodName) ∈ WS := List.mem_filter.mpr ⟨List.mem_append_right _ (List.mem_of_getElem? (i := 331) rfl), rfl⟩
set_option maxRecDepth 100000 in
theorem tw_332 : Cond.instanceMethod ({ cls := "CopyHeaps$Heap", name := "clear", desc := "()V" } : MethodName) ∈ WS := List.mem_filter.mpr ⟨List.mem_append_right _ (List.mem_of_getElem? (i := 332) rfl), rfl⟩
set_option maxRecDepth 100000 in
theorem tw_333 : Cond.selects "CopyHeaps$Heap" ({ cls := "CopyHeaps$Heap", name := "clear", desc := "()V" } : MethodName) ({ cls := "CopyHeaps$Heap", name := "clear", desc := "()V" } : MethodName) ∈ WS := List.mem_filter.mpr ⟨List.mem_append_right _ (List.mem_of_getElem? (i := 333) rfl), rfl⟩
set_option maxRecDepth 100000 in
theorem tw_334 : Cond.code ({ cls := "CopyHeaps$Heap", name := "clear", desc := "()V" } : MethodName) prog_4_method_2_code (1 : Nat) (Option.none : Option FieldType) ∈ WS := List.mem_filter.mpr ⟨List.mem_append_right _ (List.mem_of_getElem? (i := 334) rfl), rfl⟩
set_option maxRecDepth 100000 in
theorem tw_335 : Cond.methodLink "CopyHeaps$HeapProcess" (41 : Nat) ({ cls := "java/util/Arrays", name := "fill", desc := "([II)V" } : MethodName) ∈ WS := List.mem_filter.mpr ⟨List.mem_append_right _ (List.mem_of_getElem? (i := 335) rfl), rfl⟩
set_option maxRecDepth 100000 in
theorem tw_336 : Cond.static ({ cls := "java/util/Arrays", name := "fill", desc := "([II)V" } : MethodName) ∈ WS := List.mem_filter.mpr ⟨List.mem_append_right _ (List.mem_of_getElem? (i := 336) rfl), rfl⟩
set_option maxRecDepth 100000 in
theorem tw_337 : Cond.code ({ cls := "java/util/Arrays", name := "fill", desc := "([II)V" } : MethodName) prog_25_method_103_code (4 : Nat) (Option.none : Option FieldType) ∈ WS := List.mem_filter.mpr ⟨List.mem_append_right _ (List.mem_of_getElem? (i := 337) rfl), rfl⟩
set_option maxRecDepth 100000 in
theorem tw_338 : Cond.methodLink "CopyHeaps$HeapProcess" (47 : Nat) ({ cls := "CopyHeaps$Mailbox", name := "clear", desc := "()V" } : MethodName) ∈ WS := List.mem_filter.mpr ⟨List.mem_append_right _ (List.mem_of_getElem? (i := 338) rfl), rfl⟩
set_option maxRecDepth 100000 in
theorem tw_339 : Cond.instanceMethod ({ cls := "CopyHeaps$Mailbox", name := "clear", desc := "()V" } : MethodName) ∈ WS := List.mem_filter.mpr ⟨List.mem_append_right _ (List.mem_of_getElem? (i := 339) rfl), rfl⟩
set_option maxRecDepth 100000 in
theorem tw_340 : Cond.selects "CopyHeaps$Mailbox" ({ cls := "CopyHeaps$Mailbox", name := "clear", desc := "()V" } : MethodName) ({ cls := "CopyHeaps$Mailbox", name := "clear", desc := "()V" } : MethodName) ∈ WS := List.mem_filter.mpr ⟨List.mem_append_right _ (List.mem_of_getElem? (i := 340) rfl), rfl⟩
set_option maxRecDepth 100000 in
theorem tw_341 : Cond.code ({ cls := "CopyHeaps$Mailbox", name := "clear", desc := "()V" } : MethodName) prog_6_method_2_code (1 : Nat) (Option.none : Option FieldType) ∈ WS := List.mem_filter.mpr ⟨List.mem_append_right _ (List.mem_of_getElem? (i := 341) rfl), rfl⟩
set_option maxRecDepth 100000 in
theorem tw_342 : Cond.methodLink "CopyHeaps" (89 : Nat) ({ cls := "java/util/ArrayList", name := "add", desc := "(Ljava/lang/Object;)Z" } : MethodName) ∈ WS := List.mem_filter.mpr ⟨List.mem_append_right _ (List.mem_of_getElem? (i := 342) rfl), rfl⟩
set_option maxRecDepth 100000 in
theorem tw_343 : Cond.instanceMethod ({ cls := "java/util/ArrayList", name := "add", desc := "(Ljava/lang/Object;)Z" } : MethodName) ∈ WS := List.mem_filter.mpr ⟨List.mem_append_right _ (List.mem_of_getElem? (i := 343) rfl), rfl⟩
set_option maxRecDepth 100000 in
theorem tw_344 : Cond.selects "java/util/ArrayList" ({ cls := "java/util/ArrayList", name := "add", desc := "(Ljava/lang/Object;)Z" } : MethodName) ({ cls := "java/util/ArrayList", name := "add", desc := "(Ljava/lang/Object;)Z" } : MethodName) ∈ WS := List.mem_filter.mpr ⟨List.mem_append_right _ (List.mem_of_getElem? (i := 344) rfl), rfl⟩
set_option maxRecDepth 100000 in
theorem tw_345 : Cond.code ({ cls := "java/util/ArrayList", name := "add", desc := "(Ljava/lang/Object;)Z" } : MethodName) prog_24_method_25_code (2 : Nat) (Option.some FieldType.boolean) ∈ WS := List.mem_filter.mpr ⟨List.mem_append_right _ (List.mem_of_getElem? (i := 345) rfl), rfl⟩
set_option maxRecDepth 100000 in
theorem tw_346 : Cond.methodLink "java/util/ArrayList" (131 : Nat) ({ cls := "java/util/ArrayList", name := "add", desc := "(Ljava/lang/Object;[Ljava/lang/Object;I)V" } : MethodName) ∈ WS := List.mem_filter.mpr ⟨List.mem_append_right _ (List.mem_of_getElem? (i := 346) rfl), rfl⟩
set_option maxRecDepth 100000 in
theorem tw_348 : Cond.instanceMethod ({ cls := "java/util/ArrayList", name := "add", desc := "(Ljava/lang/Object;[Ljava/lang/Object;I)V" } : MethodName) ∈ WS := List.mem_filter.mpr ⟨List.mem_append_right _ (List.mem_of_getElem? (i := 348) rfl), rfl⟩
set_option maxRecDepth 100000 in
theorem tw_349 : Cond.code ({ cls := "java/util/ArrayList", name := "add", desc := "(Ljava/lang/Object;[Ljava/lang/Object;I)V" } : MethodName) prog_24_method_24_code (4 : Nat) (Option.none : Option FieldType) ∈ WS := List.mem_filter.mpr ⟨List.mem_append_right _ (List.mem_of_getElem? (i := 349) rfl), rfl⟩
set_option maxRecDepth 100000 in
theorem tw_350 : Cond.methodLink "java/util/ArrayList" (129 : Nat) ({ cls := "java/util/ArrayList", name := "grow", desc := "()[Ljava/lang/Object;" } : MethodName) ∈ WS := List.mem_filter.mpr ⟨List.mem_append_right _ (List.mem_of_getElem? (i := 350) rfl), rfl⟩
set_option maxRecDepth 100000 in
theorem tw_352 : Cond.instanceMethod ({ cls := "java/util/ArrayList", name := "grow", desc := "()[Ljava/lang/Object;" } : MethodName) ∈ WS := List.mem_filter.mpr ⟨List.mem_append_right _ (List.mem_of_getElem? (i := 352) rfl), rfl⟩
set_option maxRecDepth 100000 in
theorem tw_353 : Cond.code ({ cls := "java/util/ArrayList", name := "grow", desc := "()[Ljava/lang/Object;" } : MethodName) prog_24_method_7_code (1 : Nat) (Option.some (FieldType.array (FieldType.object "java/lang/Object"))) ∈ WS := List.mem_filter.mpr ⟨List.mem_append_right _ (List.mem_of_getElem? (i := 353) rfl), rfl⟩
set_option maxRecDepth 100000 in
theorem tw_354 : Cond.methodLink "java/util/ArrayList" (69 : Nat) ({ cls := "java/util/ArrayList", name := "grow", desc := "(I)[Ljava/lang/Object;" } : MethodName) ∈ WS := List.mem_filter.mpr ⟨List.mem_append_right _ (List.mem_of_getElem? (i := 354) rfl), rfl⟩
set_option maxRecDepth 100000 in
theorem tw_356 : Cond.instanceMethod ({ cls := "java/util/ArrayList", name := "grow", desc := "(I)[Ljava/lang/Object;" } : MethodName) ∈ WS := List.mem_filter.mpr ⟨List.mem_append_right _ (List.mem_of_getElem? (i := 356) rfl), rfl⟩
set_option maxRecDepth 100000 in
theorem tw_357 : Cond.code ({ cls := "java/util/ArrayList", name := "grow", desc := "(I)[Ljava/lang/Object;" } : MethodName) prog_24_method_6_code (4 : Nat) (Option.some (FieldType.array (FieldType.object "java/lang/Object"))) ∈ WS := List.mem_filter.mpr ⟨List.mem_append_right _ (List.mem_of_getElem? (i := 357) rfl), rfl⟩
set_option maxRecDepth 100000 in
theorem tw_366 : Cond.methodLink "java/util/ArrayList" (66 : Nat) ({ cls := "java/util/Arrays", name := "copyOf", desc := "([Ljava/lang/Object;I)[Ljava/lang/Object;" } : MethodName) ∈ WS := List.mem_filter.mpr ⟨List.mem_append_right _ (List.mem_of_getElem? (i := 366) rfl), rfl⟩
set_option maxRecDepth 100000 in
theorem tw_367 : Cond.static ({ cls := "java/util/Arrays", name := "copyOf", desc := "([Ljava/lang/Object;I)[Ljava/lang/Object;" } : MethodName) ∈ WS := List.mem_filter.mpr ⟨List.mem_append_right _ (List.mem_of_getElem? (i := 367) rfl), rfl⟩
set_option maxRecDepth 100000 in
theorem tw_368 : Cond.code ({ cls := "java/util/Arrays", name := "copyOf", desc := "([Ljava/lang/Object;I)[Ljava/lang/Object;" } : MethodName) prog_25_method_119_code (2 : Nat) (Option.some (FieldType.array (FieldType.object "java/lang/Object"))) ∈ WS := List.mem_filter.mpr ⟨List.mem_append_right _ (List.mem_of_getElem? (i := 368) rfl), rfl⟩
set_option maxRecDepth 100000 in
theorem tw_390 : Cond.arrayOver (FieldType.object "java/lang/Object") ∈ WS := List.mem_filter.mpr ⟨List.mem_append_right _ (List.mem_of_getElem? (i := 390) rfl), rfl⟩
set_option maxRecDepth 100000 in
theorem tw_394 : Cond.methodLink "java/util/ArrayList" (79 : Nat) ({ cls := "java/lang/Math", name := "max", desc := "(II)I" } : MethodName) ∈ WS := List.mem_filter.mpr ⟨List.mem_append_right _ (List.mem_of_getElem? (i := 394) rfl), rfl⟩
set_option maxRecDepth 100000 in
theorem tw_395 : Cond.classLink "java/util/ArrayList" (7 : Nat) "java/lang/Object" ∈ WS := List.mem_filter.mpr ⟨List.mem_append_right _ (List.mem_of_getElem? (i := 395) rfl), rfl⟩
set_option maxRecDepth 100000 in
theorem tw_400 : Cond.methodLink "CopyHeapsLaw" (15 : Nat) ({ cls := "CopyHeaps", name := "exit", desc := "(I)I" } : MethodName) ∈ WS := List.mem_filter.mpr ⟨List.mem_append_right _ (List.mem_of_getElem? (i := 400) rfl), rfl⟩
set_option maxRecDepth 100000 in
theorem tw_401 : Cond.instanceMethod ({ cls := "CopyHeaps", name := "exit", desc := "(I)I" } : MethodName) ∈ WS := List.mem_filter.mpr ⟨List.mem_append_right _ (List.mem_of_getElem? (i := 401) rfl), rfl⟩
set_option maxRecDepth 100000 in
theorem tw_402 : Cond.selects "CopyHeaps" ({ cls := "CopyHeaps", name := "exit", desc := "(I)I" } : MethodName) ({ cls := "CopyHeaps", name := "exit", desc := "(I)I" } : MethodName) ∈ WS := List.mem_filter.mpr ⟨List.mem_append_right _ (List.mem_of_getElem? (i := 402) rfl), rfl⟩
set_option maxRecDepth 100000 in
theorem tw_403 : Cond.code ({ cls := "CopyHeaps", name := "exit", desc := "(I)I" } : MethodName) prog_1_method_3_code (4 : Nat) (Option.some FieldType.int) ∈ WS := List.mem_filter.mpr ⟨List.mem_append_right _ (List.mem_of_getElem? (i := 403) rfl), rfl⟩
set_option maxRecDepth 100000 in
theorem tw_404 : Cond.methodLink "CopyHeaps" (93 : Nat) ({ cls := "CopyHeaps", name := "living", desc := "(I)LCopyHeaps$HeapProcess;" } : MethodName) ∈ WS := List.mem_filter.mpr ⟨List.mem_append_right _ (List.mem_of_getElem? (i := 404) rfl), rfl⟩
set_option maxRecDepth 100000 in
theorem tw_406 : Cond.instanceMethod ({ cls := "CopyHeaps", name := "living", desc := "(I)LCopyHeaps$HeapProcess;" } : MethodName) ∈ WS := List.mem_filter.mpr ⟨List.mem_append_right _ (List.mem_of_getElem? (i := 406) rfl), rfl⟩
set_option maxRecDepth 100000 in
theorem tw_407 : Cond.code ({ cls := "CopyHeaps", name := "living", desc := "(I)LCopyHeaps$HeapProcess;" } : MethodName) prog_1_method_26_code (3 : Nat) (Option.some (FieldType.object "CopyHeaps$HeapProcess")) ∈ WS := List.mem_filter.mpr ⟨List.mem_append_right _ (List.mem_of_getElem? (i := 407) rfl), rfl⟩
set_option maxRecDepth 100000 in
theorem tw_408 : Cond.methodLink "CopyHeaps" (111 : Nat) ({ cls := "CopyHeaps", name := "placeOf", desc := "(I)I" } : MethodName) ∈ WS := List.mem_filter.mpr ⟨List.mem_append_right _ (List.mem_of_getElem? (i := 408) rfl), rfl⟩
set_option maxRecDepth 100000 in
theorem tw_410 : Cond.instanceMethod ({ cls := "CopyHeaps", name := "placeOf", desc := "(I)I" } : MethodName) ∈ WS := List.mem_filter.mpr ⟨List.mem_append_right _ (List.mem_of_getElem? (i := 410) rfl), rfl⟩
set_option maxRecDepth 100000 in
theorem tw_411 : Cond.code ({ cls := "CopyHeaps", name := "placeOf", desc := "(I)I" } : MethodName) prog_1_method_25_code (3 : Nat) (Option.some FieldType.int) ∈ WS := List.mem_filter.mpr ⟨List.mem_append_right _ (List.mem_of_getElem? (i := 411) rfl), rfl⟩
set_option maxRecDepth 100000 in
theorem tw_412 : Cond.methodLink "CopyHeaps" (162 : Nat) ({ cls := "java/util/ArrayList", name := "get", desc := "(I)Ljava/lang/Object;" } : MethodName) ∈ WS := List.mem_filter.mpr ⟨List.mem_append_right _ (List.mem_of_getElem? (i := 412) rfl), rfl⟩
set_option maxRecDepth 100000 in
theorem tw_413 : Cond.instanceMethod ({ cls := "java/util/ArrayList", name := "get", desc := "(I)Ljava/lang/Object;" } : MethodName) ∈ WS := List.mem_filter.mpr ⟨List.mem_append_right _ (List.mem_of_getElem? (i := 413) rfl), rfl⟩
set_option maxRecDepth 100000 in
theorem tw_414 : Cond.selects "java/util/ArrayList" ({ cls := "java/util/ArrayList", name := "get", desc := "(I)Ljava/lang/Object;" } : MethodName) ({ cls := "java/util/ArrayList", name := "get", desc := "(I)Ljava/lang/Object;" } : MethodName) ∈ WS := List.mem_filter.mpr ⟨List.mem_append_right _ (List.mem_of_getElem? (i := 414) rfl), rfl⟩
set_option maxRecDepth 100000 in
theorem tw_415 : Cond.code ({ cls := "java/util/ArrayList", name := "get", desc := "(I)Ljava/lang/Object;" } : MethodName) prog_24_method_20_code (2 : Nat) (Option.some (FieldType.object "java/lang/Object")) ∈ WS := List.mem_filter.mpr ⟨List.mem_append_right _ (List.mem_of_getElem? (i := 415) rfl), rfl⟩
set_option maxRecDepth 100000 in
theorem tw_416 : Cond.methodLink "java/util/ArrayList" (123 : Nat) ({ cls := "java/util/ArrayList", name := "elementData", desc := "(I)Ljava/lang/Object;" } : MethodName) ∈ WS := List.mem_filter.mpr ⟨List.mem_append_right _ (List.mem_of_getElem? (i := 416) rfl), rfl⟩
set_option maxRecDepth 100000 in
theorem tw_417 : Cond.instanceMethod ({ cls := "java/util/ArrayList", name := "elementData", desc := "(I)Ljava/lang/Object;" } : MethodName) ∈ WS := List.mem_filter.mpr ⟨List.mem_append_right _ (List.mem_of_getElem? (i := 417) rfl), rfl⟩
set_option maxRecDepth 100000 in
theorem tw_418 : Cond.selects "java/util/ArrayList" ({ cls := "java/util/ArrayList", name := "elementData", desc := "(I)Ljava/lang/Object;" } : MethodName) ({ cls := "java/util/ArrayList", name := "elementData", desc := "(I)Ljava/lang/Object;" } : MethodName) ∈ WS := List.mem_filter.mpr ⟨List.mem_append_right _ (List.mem_of_getElem? (i := 418) rfl), rfl⟩
set_option maxRecDepth 100000 in
theorem tw_419 : Cond.code ({ cls := "java/util/ArrayList", name := "elementData", desc := "(I)Ljava/lang/Object;" } : MethodName) prog_24_method_18_code (2 : Nat) (Option.some (FieldType.object "java/lang/Object")) ∈ WS := List.mem_filter.mpr ⟨List.mem_append_right _ (List.mem_of_getElem? (i := 419) rfl), rfl⟩
set_option maxRecDepth 100000 in
theorem tw_435 : Cond.methodLink "CopyHeaps" (100 : Nat) ({ cls := "CopyHeaps$Carrier", name := "start", desc := "(LCopyHeaps$Heap;LCopyHeaps$Heap;)V" } : MethodName) ∈ WS := List.mem_filter.mpr ⟨List.mem_append_right _ (List.mem_of_getElem? (i := 435) rfl), rfl⟩
set_option maxRecDepth 100000 in
theorem tw_436 : Cond.instanceMethod ({ cls := "CopyHeaps$Carrier", name := "start", desc := "(LCopyHeaps$Heap;LCopyHeaps$Heap;)V" } : MethodName) ∈ WS := List.mem_filter.mpr ⟨List.mem_append_right _ (List.mem_of_getElem? (i := 436) rfl), rfl⟩
set_option maxRecDepth 100000 in
theorem tw_437 : Cond.selects "CopyHeaps$Carrier" ({ cls := "CopyHeaps$Carrier", name := "start", desc := "(LCopyHeaps$Heap;LCopyHeaps$Heap;)V" } : MethodName) ({ cls := "CopyHeaps$Carrier", name := "start", desc := "(LCopyHeaps$Heap;LCopyHeaps$Heap;)V" } : MethodName) ∈ WS := List.mem_filter.mpr ⟨List.mem_append_right _ (List.mem_of_getElem? (i := 437) rfl), rfl⟩
set_option maxRecDepth 100000 in
theorem tw_438 : Cond.code ({ cls := "CopyHeaps$Carrier", name := "start", desc := "(LCopyHeaps$Heap;LCopyHeaps$Heap;)V" } : MethodName) prog_2_method_2_code (3 : Nat) (Option.none : Option FieldType) ∈ WS := List.mem_filter.mpr ⟨List.mem_append_right _ (List.mem_of_getElem? (i := 438) rfl), rfl⟩
set_option maxRecDepth 100000 in
theorem tw_439 : Cond.methodLink "CopyHeaps$Carrier" (31 : Nat) ({ cls := "java/util/Arrays", name := "fill", desc := "([II)V" } : MethodName) ∈ WS := List.mem_filter.mpr ⟨List.mem_append_right _ (List.mem_of_getElem? (i := 439) rfl), rfl⟩
set_option maxRecDepth 100000 in
theorem tw_440 : Cond.methodLink "CopyHeaps" (104 : Nat) ({ cls := "CopyHeaps$Carrier", name := "dropHandlesLeftBehind", desc := "(LCopyHeaps$Pool;)V" } : MethodName) ∈ WS := List.mem_filter.mpr ⟨List.mem_append_right _ (List.mem_of_getElem? (i := 440) rfl), rfl⟩
set_option maxRecDepth 100000 in
theorem tw_441 : Cond.instanceMethod ({ cls := "CopyHeaps$Carrier", name := "dropHandlesLeftBehind", desc := "(LCopyHeaps$Pool;)V" } : MethodName) ∈ WS := List.mem_filter.mpr ⟨List.mem_append_right _ (List.mem_of_getElem? (i := 441) rfl), rfl⟩
set_option maxRecDepth 100000 in
theorem tw_442 : Cond.selects "CopyHeaps$Carrier" ({ cls := "CopyHeaps$Carrier", name := "dropHandlesLeftBehind", desc := "(LCopyHeaps$Pool;)V" } : MethodName) ({ cls := "CopyHeaps$Carrier", name := "dropHandlesLeftBehind", desc := "(LCopyHeaps$Pool;)V" } : MethodName) ∈ WS := List.mem_filter.mpr ⟨List.mem_append_right _ (List.mem_of_getElem? (i := 442) rfl), rfl⟩
set_option maxRecDepth 100000 in
theorem tw_443 : Cond.code ({ cls := "CopyHeaps$Carrier", name := "dropHandlesLeftBehind", desc := "(LCopyHeaps$Pool;)V" } : MethodName) prog_2_method_6_code (4 : Nat) (Option.none : Option FieldType) ∈ WS := List.mem_filter.mpr ⟨List.mem_append_right _ (List.mem_of_getElem? (i := 443) rfl), rfl⟩
set_option maxRecDepth 100000 in
theorem tw_444 : Cond.methodLinkNest "CopyHeaps$Carrier" (66 : Nat) ({ cls := "CopyHeaps", name := "kindOf", desc := "(I)I" } : MethodName) "CopyHeaps" ∈ WS := List.mem_filter.mpr ⟨List.mem_append_right _ (List.mem_of_getElem? (i := 444) rfl), rfl⟩
set_option maxRecDepth 100000 in
theorem tw_445 : Cond.static ({ cls := "CopyHeaps", name := "kindOf", desc := "(I)I" } : MethodName) ∈ WS := List.mem_filter.mpr ⟨List.mem_append_right _ (List.mem_of_getElem? (i := 445) rfl), rfl⟩
set_option maxRecDepth 100000 in
theorem tw_446 : Cond.code ({ cls := "CopyHeaps", name := "kindOf", desc := "(I)I" } : MethodName) prog_1_method_36_code (1 : Nat) (Option.some FieldType.int) ∈ WS := List.mem_filter.mpr ⟨List.mem_append_right _ (List.mem_of_getElem? (i := 446) rfl), rfl⟩
set_option maxRecDepth 100000 in
theorem tw_447 : Cond.methodLinkNest "CopyHeaps$Carrier" (41 : Nat) ({ cls := "CopyHeaps", name := "contentOf", desc := "(I)I" } : MethodName) "CopyHeaps" ∈ WS := List.mem_filter.mpr ⟨List.mem_append_right _ (List.mem_of_getElem? (i := 447) rfl), rfl⟩
set_option maxRecDepth 100000 in
theorem tw_448 : Cond.static ({ cls := "CopyHeaps", name := "contentOf", desc := "(I)I" } : MethodName) ∈ WS := List.mem_filter.mpr ⟨List.mem_append_right _ (List.mem_of_getElem? (i := 448) rfl), rfl⟩
set_option maxRecDepth 100000 in
theorem tw_449 : Cond.code ({ cls := "CopyHeaps", name := "contentOf", desc := "(I)I" } : MethodName) prog_1_method_37_code (1 : Nat) (Option.some FieldType.int) ∈ WS := List.mem_filter.mpr ⟨List.mem_append_right _ (List.mem_of_getElem? (i := 449) rfl), rfl⟩
set_option maxRecDepth 100000 in
theorem tw_450 : Cond.methodLink "CopyHeaps$Carrier" (69 : Nat) ({ cls := "CopyHeaps$Heap", name := "blobOf", desc := "(I)I" } : MethodName) ∈ WS := List.mem_filter.mpr ⟨List.mem_append_right _ (List.mem_of_getElem? (i := 450) rfl), rfl⟩
set_option maxRecDepth 100000 in
theorem tw_451 : Cond.instanceMethod ({ cls := "CopyHeaps$Heap", name := "blobOf", desc := "(I)I" } : MethodName) ∈ WS := List.mem_filter.mpr ⟨List.mem_append_right _ (List.mem_of_getElem? (i := 451) rfl), rfl⟩
set_option maxRecDepth 100000 in
theorem tw_452 : Cond.selects "CopyHeaps$Heap" ({ cls := "CopyHeaps$Heap", name := "blobOf", desc := "(I)I" } : MethodName) ({ cls := "CopyHeaps$Heap", name := "blobOf", desc := "(I)I" } : MethodName) ∈ WS := List.mem_filter.mpr ⟨List.mem_append_right _ (List.mem_of_getElem? (i := 452) rfl), rfl⟩
set_option maxRecDepth 100000 in
theorem tw_453 : Cond.code ({ cls := "CopyHeaps$Heap", name := "blobOf", desc := "(I)I" } : MethodName) prog_4_method_13_code (2 : Nat) (Option.some FieldType.int) ∈ WS := List.mem_filter.mpr ⟨List.mem_append_right _ (List.mem_of_getElem? (i := 453) rfl), rfl⟩
set_option maxRecDepth 100000 in
theorem tw_454 : Cond.methodLinkNest "CopyHeaps$Heap" (32 : Nat) ({ cls := "CopyHeaps", name := "contentOf", desc := "(I)I" } : MethodName) "CopyHeaps" ∈ WS := List.mem_filter.mpr ⟨List.mem_append_right _ (List.mem_of_getElem? (i := 454) rfl), rfl⟩
set_option maxRecDepth 100000 in
theorem tw_455 : Cond.methodLink "CopyHeaps$Carrier" (78 : Nat) ({ cls := "CopyHeaps$Pool", name := "dropHandle", desc := "(I)V" } : MethodName) ∈ WS := List.mem_filter.mpr ⟨List.mem_append_right _ (List.mem_of_getElem? (i := 455) rfl), rfl⟩
set_option maxRecDepth 100000 in
theorem tw_456 : Cond.instanceMethod ({ cls := "CopyHeaps$Pool", name := "dropHandle", desc := "(I)V" } : MethodName) ∈ WS := List.mem_filter.mpr ⟨List.mem_append_right _ (List.mem_of_getElem? (i := 456) rfl), rfl⟩
set_option maxRecDepth 100000 in
theorem tw_457 : Cond.selects "CopyHeaps$Pool" ({ cls := "CopyHeaps$Pool", name := "dropHandle", desc := "(I)V" } : MethodName) ({ cls := "CopyHeaps$Pool", name := "dropHandle", desc := "(I)V" } : MethodName) ∈ WS := List.mem_filter.mpr ⟨List.mem_append_right _ (List.mem_of_getElem? (i := 457) rfl), rfl⟩
set_option maxRecDepth 100000 in
theorem tw_458 : Cond.code ({ cls := "CopyHeaps$Pool", name := "dropHandle", desc := "(I)V" } : MethodName) prog_7_method_4_code (2 : Nat) (Option.none : Option FieldType) ∈ WS := List.mem_filter.mpr ⟨List.mem_append_right _ (List.mem_of_getElem? (i := 458) rfl), rfl⟩
set_option maxRecDepth 100000 in
theorem tw_462 : Cond.methodLink "CopyHeapsLaw" (21 : Nat) ({ cls := "CopyHeaps", name := "nil", desc := "(II)V" } : MethodName) ∈ WS := List.mem_filter.mpr ⟨List.mem_append_right _ (List.mem_of_getElem? (i := 462) rfl), rfl⟩
set_option maxRecDepth 100000 in
theorem tw_463 : Cond.instanceMethod ({ cls := "CopyHeaps", name := "nil", desc := "(II)V" } : MethodName) ∈ WS := List.mem_filter.mpr ⟨List.mem_append_right _ (List.mem_of_getElem? (i := 463) rfl), rfl⟩
set_option maxRecDepth 100000 in
theorem tw_464 : Cond.selects "CopyHeaps" ({ cls := "CopyHeaps", name := "nil", desc := "(II)V" } : MethodName) ({ cls := "CopyHeaps", name := "nil", desc := "(II)V" } : MethodName) ∈ WS := List.mem_filter.mpr ⟨List.mem_append_right _ (List.mem_of_getElem? (i := 464) rfl), rfl⟩
set_option maxRecDepth 100000 in
theorem tw_465 : Cond.code ({ cls := "CopyHeaps", name := "nil", desc := "(II)V" } : MethodName) prog_1_method_4_code (3 : Nat) (Option.none : Option FieldType) ∈ WS := List.mem_filter.mpr ⟨List.mem_append_right _ (List.mem_of_getElem? (i := 465) rfl), rfl⟩
set_option maxRecDepth 100000 in
theorem tw_466 : Cond.methodLink "CopyHeaps" (115 : Nat) ({ cls := "CopyHeaps", name := "living", desc := "(II)LCopyHeaps$HeapProcess;" } : MethodName) ∈ WS := List.mem_filter.mpr ⟨List.mem_append_right _ (List.mem_of_getElem? (i := 466) rfl), rfl⟩
set_option maxRecDepth 100000 in
theorem tw_468 : Cond.instanceMethod ({ cls := "CopyHeaps", name := "living", desc := "(II)LCopyHeaps$HeapProcess;" } : MethodName) ∈ WS := List.mem_filter.mpr ⟨List.mem_append_right _ (List.mem_of_getElem? (i := 468) rfl), rfl⟩
set_option maxRecDepth 100000 in
theorem tw_469 : Cond.code ({ cls := "CopyHeaps", name := "living", desc := "(II)LCopyHeaps$HeapProcess;" } : MethodName) prog_1_method_27_code (3 : Nat) (Option.some (FieldType.object "CopyHeaps$HeapProcess")) ∈ WS := List.mem_filter.mpr ⟨List.mem_append_right _ (List.mem_of_getElem? (i := 469) rfl), rfl⟩
set_option maxRecDepth 100000 in
theorem tw_470 : Cond.methodLink "CopyHeaps" (130 : Nat) ({ cls := "CopyHeaps", name := "checkRegister", desc := "(I)V" } : MethodName) ∈ WS := List.mem_filter.mpr ⟨List.mem_append_right _ (List.mem_of_getElem? (i := 470) rfl), rfl⟩
set_option maxRecDepth 100000 in
theorem tw_471 : Cond.static ({ cls := "CopyHeaps", name := "checkRegister", desc := "(I)V" } : MethodName) ∈ WS := List.mem_filter.mpr ⟨List.mem_append_right _ (List.mem_of_getElem? (i := 471) rfl), rfl⟩
set_option maxRecDepth 100000 in
theorem tw_472 : Cond.code ({ cls := "CopyHeaps", name := "checkRegister", desc := "(I)V" } : MethodName) prog_1_method_28_code (1 : Nat) (Option.none : Option FieldType) ∈ WS := List.mem_filter.mpr ⟨List.mem_append_right _ (List.mem_of_getElem? (i := 472) rfl), rfl⟩
set_option maxRecDepth 100000 in
theorem tw_477 : Cond.methodLink "CopyHeapsLaw" (25 : Nat) ({ cls := "CopyHeaps", name := "integer", desc := "(III)V" } : MethodName) ∈ WS := List.mem_filter.mpr ⟨List.mem_append_right _ (List.mem_of_getElem? (i := 477) rfl), rfl⟩
set_option maxRecDepth 100000 in
theorem tw_478 : Cond.instanceMethod ({ cls := "CopyHeaps", name := "integer", desc := "(III)V" } : MethodName) ∈ WS := List.mem_filter.mpr ⟨List.mem_append_right _ (List.mem_of_getElem? (i := 478) rfl), rfl⟩
set_option maxRecDepth 100000 in
theorem tw_479 : Cond.selects "CopyHeaps" ({ cls := "CopyHeaps", name := "integer", desc := "(III)V" } : MethodName) ({ cls := "CopyHeaps", name := "integer", desc := "(III)V" } : MethodName) ∈ WS := List.mem_filter.mpr ⟨List.mem_append_right _ (List.mem_of_getElem? (i := 479) rfl), rfl⟩
set_option maxRecDepth 100000 in
theorem tw_480 : Cond.code ({ cls := "CopyHeaps", name := "integer", desc := "(III)V" } : MethodName) prog_1_method_5_code (5 : Nat) (Option.none : Option FieldType) ∈ WS := List.mem_filter.mpr ⟨List.mem_append_right _ (List.mem_of_getElem? (i := 480) rfl), rfl⟩
set_option maxRecDepth 100000 in
theorem tw_481 : Cond.constant "CopyHeaps" (122 : Nat) (-134217728 : Int32) ∈ WS := List.mem_filter.mpr ⟨List.mem_append_right _ (List.mem_of_getElem? (i := 481) rfl), rfl⟩
set_option maxRecDepth 100000 in
theorem tw_482 : Cond.constant "CopyHeaps" (123 : Nat) (134217727 : Int32) ∈ WS := List.mem_filter.mpr ⟨List.mem_append_right _ (List.mem_of_getElem? (i := 482) rfl), rfl⟩
set_option maxRecDepth 100000 in
theorem tw_498 : Cond.methodLink "CopyHeaps" (127 : Nat) ({ cls := "CopyHeaps", name := "termOf", desc := "(II)I" } : MethodName) ∈ WS := List.mem_filter.mpr ⟨List.mem_append_right _ (List.mem_of_getElem? (i := 498) rfl), rfl⟩
set_option maxRecDepth 100000 in
theorem tw_499 : Cond.static ({ cls := "CopyHeaps", name := "termOf", desc := "(II)I" } : MethodName) ∈ WS := List.mem_filter.mpr ⟨List.mem_append_right _ (List.mem_of_getElem? (i := 499) rfl), rfl⟩
set_option maxRecDepth 100000 in
theorem tw_500 : Cond.code ({ cls := "CopyHeaps", name := "termOf", desc := "(II)I" } : MethodName) prog_1_method_35_code (2 : Nat) (Option.some FieldType.int) ∈ WS := List.mem_filter.mpr ⟨List.mem_append_right _ (List.mem_of_getElem? (i := 500) rfl), rfl⟩
set_option maxRecDepth 100000 in
theorem tw_504 : Cond.methodLink "CopyHeapsLaw" (31 : Nat) ({ cls := "CopyHeaps", name := "name", desc := "(III)V" } : MethodName) ∈ WS := List.mem_filter.mpr ⟨List.mem_append_right _ (List.mem_of_getElem? (i := 504) rfl), rfl⟩
set_option maxRecDepth 100000 in
theorem tw_505 : Cond.instanceMethod ({ cls := "CopyHeaps", name := "name", desc := "(III)V" } : MethodName) ∈ WS := List.mem_filter.mpr ⟨List.mem_append_right _ (List.mem_of_getElem? (i := 505) rfl), rfl⟩
set_option maxRecDepth 100000 in
theorem tw_506 : Cond.selects "CopyHeaps" ({ cls := "CopyHeaps", name := "name", desc := "(III)V" } : MethodName) ({ cls := "CopyHeaps", name := "name", desc := "(III)V" } : MethodName) ∈ WS := List.mem_filter.mpr ⟨List.mem_append_right _ (List.mem_of_getElem? (i := 506) rfl), rfl⟩
set_option maxRecDepth 100000 in
theorem tw_507 : Cond.code ({ cls := "CopyHeaps", name := "name", desc := "(III)V" } : MethodName) prog_1_method_6_code (5 : Nat) (Option.none : Option FieldType) ∈ WS := List.mem_filter.mpr ⟨List.mem_append_right _ (List.mem_of_getElem? (i := 507) rfl), rfl⟩
set_option maxRecDepth 100000 in
theorem tw_511 : Cond.methodLink "CopyHeapsLaw" (34 : Nat) ({ cls := "CopyHeaps", name := "move", desc := "(III)V" } : MethodName) ∈ WS := List.mem_filter.mpr ⟨List.mem_append_right _ (List.mem_of_getElem? (i := 511) rfl), rfl⟩
set_option maxRecDepth 100000 in
theorem tw_512 : Cond.instanceMethod ({ cls := "CopyHeaps", name := "move", desc := "(III)V" } : MethodName) ∈ WS := List.mem_filter.mpr ⟨List.mem_append_right _ (List.mem_of_getElem? (i := 512) rfl), rfl⟩
set_option maxRecDepth 100000 in
theorem tw_513 : Cond.selects "CopyHeaps" ({ cls := "CopyHeaps", name := "move", desc := "(III)V" } : MethodName) ({ cls := "CopyHeaps", name := "move", desc := "(III)V" } : MethodName) ∈ WS := List.mem_filter.mpr ⟨List.mem_append_right _ (List.mem_of_getElem? (i := 513) rfl), rfl⟩
set_option maxRecDepth 100000 in
theorem tw_514 : Cond.code ({ cls := "CopyHeaps", name := "move", desc := "(III)V" } : MethodName) prog_1_method_7_code (5 : Nat) (Option.none : Option FieldType) ∈ WS := List.mem_filter.mpr ⟨List.mem_append_right _ (List.mem_of_getElem? (i := 514) rfl), rfl⟩
set_option maxRecDepth 100000 in
theorem tw_518 : Cond.methodLink "CopyHeapsLaw" (37 : Nat) ({ cls := "CopyHeaps", name := "pair", desc := "(IIII)V" } : MethodName) ∈ WS := List.mem_filter.mpr ⟨List.mem_append_right _ (List.mem_of_getElem? (i := 518) rfl), rfl⟩
set_option maxRecDepth 100000 in
theorem tw_519 : Cond.instanceMethod ({ cls := "CopyHeaps", name := "pair", desc := "(IIII)V" } : MethodName) ∈ WS := List.mem_filter.mpr ⟨List.mem_append_right _ (List.mem_of_getElem? (i := 519) rfl), rfl⟩
set_option maxRecDepth 100000 in
theorem tw_520 : Cond.selects "CopyHeaps" ({ cls := "CopyHeaps", name := "pair", desc := "(IIII)V" } : MethodName) ({ cls := "CopyHeaps", name := "pair", desc := "(IIII)V" } : MethodName) ∈ WS := List.mem_filter.mpr ⟨List.mem_append_right _ (List.mem_of_getElem? (i := 520) rfl), rfl⟩
set_option maxRecDepth 100000 in
theorem tw_521 : Cond.code ({ cls := "CopyHeaps", name := "pair", desc := "(IIII)V" } : MethodName) prog_1_method_8_code (6 : Nat) (Option.none : Option FieldType) ∈ WS := List.mem_filter.mpr ⟨List.mem_append_right _ (List.mem_of_getElem? (i := 521) rfl), rfl⟩
set_option maxRecDepth 100000 in
theorem tw_522 : Cond.methodLink "CopyHeaps" (133 : Nat) ({ cls := "CopyHeaps", name := "needRoom", desc := "(LCopyHeaps$HeapProcess;I)V" } : MethodName) ∈ WS := List.mem_filter.mpr ⟨List.mem_append_right _ (List.mem_of_getElem? (i := 522) rfl), rfl⟩
set_option maxRecDepth 100000 in
theorem tw_524 : Cond.instanceMethod ({ cls := "CopyHeaps", name := "needRoom", desc := "(LCopyHeaps$HeapProcess;I)V" } : MethodName) ∈ WS := List.mem_filter.mpr ⟨List.mem_append_right _ (List.mem_of_getElem? (i := 524) rfl), rfl⟩
set_option maxRecDepth 100000 in
theorem tw_525 : Cond.code ({ cls := "CopyHeaps", name := "needRoom", desc := "(LCopyHeaps$HeapProcess;I)V" } : MethodName) prog_1_method_29_code (3 : Nat) (Option.none : Option FieldType) ∈ WS := List.mem_filter.mpr ⟨List.mem_append_right _ (List.mem_of_getElem? (i := 525) rfl), rfl⟩
set_option maxRecDepth 100000 in
theorem tw_526 : Cond.methodLink "CopyHeaps" (231 : Nat) ({ cls := "CopyHeaps", name := "makeRoom", desc := "(LCopyHeaps$HeapProcess;I)Z" } : MethodName) ∈ WS := List.mem_filter.mpr ⟨List.mem_append_right _ (List.mem_of_getElem? (i := 526) rfl), rfl⟩
set_option maxRecDepth 100000 in
theorem tw_528 : Cond.instanceMethod ({ cls := "CopyHeaps", name := "makeRoom", desc := "(LCopyHeaps$HeapProcess;I)Z" } : MethodName) ∈ WS := List.mem_filter.mpr ⟨List.mem_append_right _ (List.mem_of_getElem? (i := 528) rfl), rfl⟩
set_option maxRecDepth 100000 in
theorem tw_529 : Cond.code ({ cls := "CopyHeaps", name := "makeRoom", desc := "(LCopyHeaps$HeapProcess;I)Z" } : MethodName) prog_1_method_30_code (4 : Nat) (Option.some FieldType.boolean) ∈ WS := List.mem_filter.mpr ⟨List.mem_append_right _ (List.mem_of_getElem? (i := 529) rfl), rfl⟩
set_option maxRecDepth 100000 in
theorem tw_530 : Cond.methodLink "CopyHeaps" (235 : Nat) ({ cls := "CopyHeaps$HeapProcess", name := "lacks", desc := "(I)I" } : MethodName) ∈ WS := List.mem_filter.mpr ⟨List.mem_append_right _ (List.mem_of_getElem? (i := 530) rfl), rfl⟩
set_option maxRecDepth 100000 in
theorem tw_531 : Cond.instanceMethod ({ cls := "CopyHeaps$HeapProcess", name := "lacks", desc := "(I)I" } : MethodName) ∈ WS := List.mem_filter.mpr ⟨List.mem_append_right _ (List.mem_of_getElem? (i := 531) rfl), rfl⟩
set_option maxRecDepth 100000 in
theorem tw_532 : Cond.selects "CopyHeaps$HeapProcess" ({ cls := "CopyHeaps$HeapProcess", name := "lacks", desc := "(I)I" } : MethodName) ({ cls := "CopyHeaps$HeapProcess", name := "lacks", desc := "(I)I" } : MethodName) ∈ WS := List.mem_filter.mpr ⟨List.mem_append_right _ (List.mem_of_getElem? (i := 532) rfl), rfl⟩
set_option maxRecDepth 100000 in
theorem tw_533 : Cond.code ({ cls := "CopyHeaps$HeapProcess", name := "lacks", desc := "(I)I" } : MethodName) prog_5_method_3_code (2 : Nat) (Option.some FieldType.int) ∈ WS := List.mem_filter.mpr ⟨List.mem_append_right _ (List.mem_of_getElem? (i := 533) rfl), rfl⟩
set_option maxRecDepth 100000 in
theorem tw_534 : Cond.methodLink "CopyHeaps" (183 : Nat) ({ cls := "CopyHeaps", name := "collectHeap", desc := "(LCopyHeaps$HeapProcess;)V" } : MethodName) ∈ WS := List.mem_filter.mpr ⟨List.mem_append_right _ (List.mem_of_getElem? (i := 534) rfl), rfl⟩
set_option maxRecDepth 100000 in
theorem tw_536 : Cond.instanceMethod ({ cls := "CopyHeaps", name := "collectHeap", desc := "(LCopyHeaps$HeapProcess;)V" } : MethodName) ∈ WS := List.mem_filter.mpr ⟨List.mem_append_right _ (List.mem_of_getElem? (i := 536) rfl), rfl⟩
set_option maxRecDepth 100000 in
theorem tw_537 : Cond.code ({ cls := "CopyHeaps", name := "collectHeap", desc := "(LCopyHeaps$HeapProcess;)V" } : MethodName) prog_1_method_32_code (4 : Nat) (Option.none : Option FieldType) ∈ WS := List.mem_filter.mpr ⟨List.mem_append_right _ (List.mem_of_getElem? (i := 537) rfl), rfl⟩
set_option maxRecDepth 100000 in
theorem tw_538 : Cond.methodLink "CopyHeaps" (238 : Nat) ({ cls := "CopyHeaps$Heap", name := "clear", desc := "()V" } : MethodName) ∈ WS := List.mem_filter.mpr ⟨List.mem_append_right _ (List.mem_of_getElem? (i := 538) rfl), rfl⟩
set_option maxRecDepth 100000 in
theorem tw_539 : Cond.methodLink "CopyHeaps" (241 : Nat) ({ cls := "CopyHeaps$Carrier", name := "carry", desc := "(I)I" } : MethodName) ∈ WS := List.mem_filter.mpr ⟨List.mem_append_right _ (List.mem_of_getElem? (i := 539) rfl), rfl⟩
set_option maxRecDepth 100000 in
theorem tw_540 : Cond.instanceMethod ({ cls := "CopyHeaps$Carrier", name := "carry", desc := "(I)I" } : MethodName) ∈ WS := List.mem_filter.mpr ⟨List.mem_append_right _ (List.mem_of_getElem? (i := 540) rfl), rfl⟩
set_option maxRecDepth 100000 in
theorem tw_541 : Cond.selects "CopyHeaps$Carrier" ({ cls := "CopyHeaps$Carrier", name := "carry", desc := "(I)I" } : MethodName) ({ cls := "CopyHeaps$Carrier", name := "carry", desc := "(I)I" } : MethodName) ∈ WS := List.mem_filter.mpr ⟨List.mem_append_right _ (List.mem_of_getElem? (i := 541) rfl), rfl⟩
set_option maxRecDepth 100000 in
theorem tw_542 : Cond.code ({ cls := "CopyHeaps$Carrier", name := "carry", desc := "(I)I" } : MethodName) prog_2_method_3_code (3 : Nat) (Option.some FieldType.int) ∈ WS := List.mem_filter.mpr ⟨List.mem_append_right _ (List.mem_of_getElem? (i := 542) rfl), rfl⟩
set_option maxRecDepth 100000 in
theorem tw_543 : Cond.methodLinkNest "CopyHeaps$Carrier" (37 : Nat) ({ cls := "CopyHeaps", name := "liesInHeap", desc := "(I)Z" } : MethodName) "CopyHeaps" ∈ WS := List.mem_filter.mpr ⟨List.mem_append_right _ (List.mem_of_getElem? (i := 543) rfl), rfl⟩
set_option maxRecDepth 100000 in
theorem tw_544 : Cond.static ({ cls := "CopyHeaps", name := "liesInHeap", desc := "(I)Z" } : MethodName) ∈ WS := List.mem_filter.mpr ⟨List.mem_append_right _ (List.mem_of_getElem? (i := 544) rfl), rfl⟩
set_option maxRecDepth 100000 in
theorem tw_545 : Cond.code ({ cls := "CopyHeaps", name := "liesInHeap", desc := "(I)Z" } : MethodName) prog_1_method_38_code (1 : Nat) (Option.some FieldType.boolean) ∈ WS := List.mem_filter.mpr ⟨List.mem_append_right _ (List.mem_of_getElem? (i := 545) rfl), rfl⟩
set_option maxRecDepth 100000 in
theorem tw_546 : Cond.methodLink "CopyHeaps" (193 : Nat) ({ cls := "CopyHeaps", name := "kindOf", desc := "(I)I" } : MethodName) ∈ WS := List.mem_filter.mpr ⟨List.mem_append_right _ (List.mem_of_getElem? (i := 546) rfl), rfl⟩
set_option maxRecDepth 100000 in
theorem tw_547 : Cond.methodLink "CopyHeaps$Carrier" (45 : Nat) ({ cls := "CopyHeaps$Heap", name := "addCopy", desc := "(LCopyHeaps$Heap;I)I" } : MethodName) ∈ WS := List.mem_filter.mpr ⟨List.mem_append_right _ (List.mem_of_getElem? (i := 547) rfl), rfl⟩
set_option maxRecDepth 100000 in
theorem tw_548 : Cond.instanceMethod ({ cls := "CopyHeaps$Heap", name := "addCopy", desc := "(LCopyHeaps$Heap;I)I" } : MethodName) ∈ WS := List.mem_filter.mpr ⟨List.mem_append_right _ (List.mem_of_getElem? (i := 548) rfl), rfl⟩
set_option maxRecDepth 100000 in
theorem tw_549 : Cond.selects "CopyHeaps$Heap" ({ cls := "CopyHeaps$Heap", name := "addCopy", desc := "(LCopyHeaps$Heap;I)I" } : MethodName) ({ cls := "CopyHeaps$Heap", name := "addCopy", desc := "(LCopyHeaps$Heap;I)I" } : MethodName) ∈ WS := List.mem_filter.mpr ⟨List.mem_append_right _ (List.mem_of_getElem? (i := 549) rfl), rfl⟩
set_option maxRecDepth 100000 in
theorem tw_550 : Cond.code ({ cls := "CopyHeaps$Heap", name := "addCopy", desc := "(LCopyHeaps$Heap;I)I" } : MethodName) prog_4_method_6_code (5 : Nat) (Option.some FieldType.int) ∈ WS := List.mem_filter.mpr ⟨List.mem_append_right _ (List.mem_of_getElem? (i := 550) rfl), rfl⟩
set_option maxRecDepth 100000 in
theorem tw_551 : Cond.methodLinkNest "CopyHeaps$Heap" (36 : Nat) ({ cls := "CopyHeaps", name := "kindOf", desc := "(I)I" } : MethodName) "CopyHeaps" ∈ WS := List.mem_filter.mpr ⟨List.mem_append_right _ (List.mem_of_getElem? (i := 551) rfl), rfl⟩
set_option maxRecDepth 100000 in
theorem tw_552 : Cond.methodLink "CopyHeaps$Heap" (39 : Nat) ({ cls := "CopyHeaps$Heap", name := "lengthOf", desc := "(II)I" } : MethodName) ∈ WS := List.mem_filter.mpr ⟨List.mem_append_right _ (List.mem_of_getElem? (i := 552) rfl), rfl⟩
set_option maxRecDepth 100000 in
theorem tw_553 : Cond.static ({ cls := "CopyHeaps$Heap", name := "lengthOf", desc := "(II)I" } : MethodName) ∈ WS := List.mem_filter.mpr ⟨List.mem_append_right _ (List.mem_of_getElem? (i := 553) rfl), rfl⟩
set_option maxRecDepth 100000 in
theorem tw_554 : Cond.code ({ cls := "CopyHeaps$Heap", name := "lengthOf", desc := "(II)I" } : MethodName) prog_4_method_8_code (2 : Nat) (Option.some FieldType.int) ∈ WS := List.mem_filter.mpr ⟨List.mem_append_right _ (List.mem_of_getElem? (i := 554) rfl), rfl⟩
set_option maxRecDepth 100000 in
theorem tw_555 : Cond.methodLink "CopyHeaps$Heap" (42 : Nat) ({ cls := "java/lang/System", name := "arraycopy", desc := "(Ljava/lang/Object;ILjava/lang/Object;II)V" } : MethodName) ∈ WS := List.mem_filter.mpr ⟨List.mem_append_right _ (List.mem_of_getElem? (i := 555) rfl), rfl⟩
set_option maxRecDepth 100000 in
theorem tw_556 : Cond.methodLinkNest "CopyHeaps$Heap" (25 : Nat) ({ cls := "CopyHeaps", name := "termOf", desc := "(II)I" } : MethodName) "CopyHeaps" ∈ WS := List.mem_filter.mpr ⟨List.mem_append_right _ (List.mem_of_getElem? (i := 556) rfl), rfl⟩
set_option maxRecDepth 100000 in
theorem tw_557 : Cond.methodLink "CopyHeaps$Heap" (29 : Nat) ({ cls := "CopyHeaps$Heap", name := "place", desc := "(II)I" } : MethodName) ∈ WS := List.mem_filter.mpr ⟨List.mem_append_right _ (List.mem_of_getElem? (i := 557) rfl), rfl⟩
set_option maxRecDepth 100000 in
theorem tw_559 : Cond.instanceMethod ({ cls := "CopyHeaps$Heap", name := "place", desc := "(II)I" } : MethodName) ∈ WS := List.mem_filter.mpr ⟨List.mem_append_right _ (List.mem_of_getElem? (i := 559) rfl), rfl⟩
set_option maxRecDepth 100000 in
theorem tw_560 : Cond.code ({ cls := "CopyHeaps$Heap", name := "place", desc := "(II)I" } : MethodName) prog_4_method_7_code (3 : Nat) (Option.some FieldType.int) ∈ WS := List.mem_filter.mpr ⟨List.mem_append_right _ (List.mem_of_getElem? (i := 560) rfl), rfl⟩
set_option maxRecDepth 100000 in
theorem tw_561 : Cond.methodLink "CopyHeaps" (244 : Nat) ({ cls := "CopyHeaps$Mailbox", name := "get", desc := "(I)I" } : MethodName) ∈ WS := List.mem_filter.mpr ⟨List.mem_append_right _ (List.mem_of_getElem? (i := 561) rfl), rfl⟩
set_option maxRecDepth 100000 in
theorem tw_562 : Cond.instanceMethod ({ cls := "CopyHeaps$Mailbox", name := "get", desc := "(I)I" } : MethodName) ∈ WS := List.mem_filter.mpr ⟨List.mem_append_right _ (List.mem_of_getElem? (i := 562) rfl), rfl⟩
set_option maxRecDepth 100000 in
theorem tw_563 : Cond.selects "CopyHeaps$Mailbox" ({ cls := "CopyHeaps$Mailbox", name := "get", desc := "(I)I" } : MethodName) ({ cls := "CopyHeaps$Mailbox", name := "get", desc := "(I)I" } : MethodName) ∈ WS := List.mem_filter.mpr ⟨List.mem_append_right _ (List.mem_of_getElem? (i := 563) rfl), rfl⟩
set_option maxRecDepth 100000 in
theorem tw_564 : Cond.code ({ cls := "CopyHeaps$Mailbox", name := "get", desc := "(I)I" } : MethodName) prog_6_method_6_code (2 : Nat) (Option.some FieldType.int) ∈ WS := List.mem_filter.mpr ⟨List.mem_append_right _ (List.mem_of_getElem? (i := 564) rfl), rfl⟩
set_option maxRecDepth 100000 in
theorem tw_565 : Cond.methodLink "CopyHeaps$Mailbox" (30 : Nat) ({ cls := "CopyHeaps$Mailbox", name := "placeInRing", desc := "(I)I" } : MethodName) ∈ WS := List.mem_filter.mpr ⟨List.mem_append_right _ (List.mem_of_getElem? (i := 565) rfl), rfl⟩
set_option maxRecDepth 100000 in
theorem tw_567 : Cond.instanceMethod ({ cls := "CopyHeaps$Mailbox", name := "placeInRing", desc := "(I)I" } : MethodName) ∈ WS := List.mem_filter.mpr ⟨List.mem_append_right _ (List.mem_of_getElem? (i := 567) rfl), rfl⟩
set_option maxRecDepth 100000 in
theorem tw_568 : Cond.code ({ cls := "CopyHeaps$Mailbox", name := "placeInRing", desc := "(I)I" } : MethodName) prog_6_method_8_code (2 : Nat) (Option.some FieldType.int) ∈ WS := List.mem_filter.mpr ⟨List.mem_append_right _ (List.mem_of_getElem? (i := 568) rfl), rfl⟩
set_option maxRecDepth 100000 in
theorem tw_569 : Cond.methodLink "CopyHeaps" (246 : Nat) ({ cls := "CopyHeaps$Mailbox", name := "set", desc := "(II)V" } : MethodName) ∈ WS := List.mem_filter.mpr ⟨List.mem_append_right _ (List.mem_of_getElem? (i := 569) rfl), rfl⟩
set_option maxRecDepth 100000 in
theorem tw_570 : Cond.instanceMethod ({ cls := "CopyHeaps$Mailbox", name := "set", desc := "(II)V" } : MethodName) ∈ WS := List.mem_filter.mpr ⟨List.mem_append_right _ (List.mem_of_getElem? (i := 570) rfl), rfl⟩
set_option maxRecDepth 100000 in
theorem tw_571 : Cond.selects "CopyHeaps$Mailbox" ({ cls := "CopyHeaps$Mailbox", name := "set", desc := "(II)V" } : MethodName) ({ cls := "CopyHeaps$Mailbox", name := "set", desc := "(II)V" } : MethodName) ∈ WS := List.mem_filter.mpr ⟨List.mem_append_right _ (List.mem_of_getElem? (i := 571) rfl), rfl⟩
set_option maxRecDepth 100000 in
theorem tw_572 : Cond.code ({ cls := "CopyHeaps$Mailbox", name := "set", desc := "(II)V" } : MethodName) prog_6_method_7_code (3 : Nat) (Option.none : Option FieldType) ∈ WS := List.mem_filter.mpr ⟨List.mem_append_right _ (List.mem_of_getElem? (i := 572) rfl), rfl⟩
set_option maxRecDepth 100000 in
theorem tw_573 : Cond.methodLink "CopyHeaps" (250 : Nat) ({ cls := "CopyHeaps$Carrier", name := "carryPartsOfCarried", desc := "()V" } : MethodName) ∈ WS := List.mem_filter.mpr ⟨List.mem_append_right _ (List.mem_of_getElem? (i := 573) rfl), rfl⟩
set_option maxRecDepth 100000 in
theorem tw_574 : Cond.instanceMethod ({ cls := "CopyHeaps$Carrier", name := "carryPartsOfCarried", desc := "()V" } : MethodName) ∈ WS := List.mem_filter.mpr ⟨List.mem_append_right _ (List.mem_of_getElem? (i := 574) rfl), rfl⟩
set_option maxRecDepth 100000 in
theorem tw_575 : Cond.selects "CopyHeaps$Carrier" ({ cls := "CopyHeaps$Carrier", name := "carryPartsOfCarried", desc := "()V" } : MethodName) ({ cls := "CopyHeaps$Carrier", name := "carryPartsOfCarried", desc := "()V" } : MethodName) ∈ WS := List.mem_filter.mpr ⟨List.mem_append_right _ (List.mem_of_getElem? (i := 575) rfl), rfl⟩
set_option maxRecDepth 100000 in
theorem tw_576 : Cond.code ({ cls := "CopyHeaps$Carrier", name := "carryPartsOfCarried", desc := "()V" } : MethodName) prog_2_method_4_code (4 : Nat) (Option.none : Option FieldType) ∈ WS := List.mem_filter.mpr ⟨List.mem_append_right _ (List.mem_of_getElem? (i := 576) rfl), rfl⟩
set_option maxRecDepth 100000 in
theorem tw_577 : Cond.methodLink "CopyHeaps$Carrier" (52 : Nat) ({ cls := "CopyHeaps$Heap", name := "partCount", desc := "(I)I" } : MethodName) ∈ WS := List.mem_filter.mpr ⟨List.mem_append_right _ (List.mem_of_getElem? (i := 577) rfl), rfl⟩
set_option maxRecDepth 100000 in
theorem tw_578 : Cond.instanceMethod ({ cls := "CopyHeaps$Heap", name := "partCount", desc := "(I)I" } : MethodName) ∈ WS := List.mem_filter.mpr ⟨List.mem_append_right _ (List.mem_of_getElem? (i := 578) rfl), rfl⟩
set_option maxRecDepth 100000 in
theorem tw_579 : Cond.selects "CopyHeaps$Heap" ({ cls := "CopyHeaps$Heap", name := "partCount", desc := "(I)I" } : MethodName) ({ cls := "CopyHeaps$Heap", name := "partCount", desc := "(I)I" } : MethodName) ∈ WS := List.mem_filter.mpr ⟨List.mem_append_right _ (List.mem_of_getElem? (i := 579) rfl), rfl⟩
set_option maxRecDepth 100000 in
theorem tw_580 : Cond.code ({ cls := "CopyHeaps$Heap", name := "partCount", desc := "(I)I" } : MethodName) prog_4_method_9_code (2 : Nat) (Option.some FieldType.int) ∈ WS := List.mem_filter.mpr ⟨List.mem_append_right _ (List.mem_of_getElem? (i := 580) rfl), rfl⟩
set_option maxRecDepth 100000 in
theorem tw_581 : Cond.methodLink "CopyHeaps$Carrier" (55 : Nat) ({ cls := "CopyHeaps$Heap", name := "partOf", desc := "(II)I" } : MethodName) ∈ WS := List.mem_filter.mpr ⟨List.mem_append_right _ (List.mem_of_getElem? (i := 581) rfl), rfl⟩
set_option maxRecDepth 100000 in
theorem tw_582 : Cond.instanceMethod ({ cls := "CopyHeaps$Heap", name := "partOf", desc := "(II)I" } : MethodName) ∈ WS := List.mem_filter.mpr ⟨List.mem_append_right _ (List.mem_of_getElem? (i := 582) rfl), rfl⟩
set_option maxRecDepth 100000 in
theorem tw_583 : Cond.selects "CopyHeaps$Heap" ({ cls := "CopyHeaps$Heap", name := "partOf", desc := "(II)I" } : MethodName) ({ cls := "CopyHeaps$Heap", name := "partOf", desc := "(II)I" } : MethodName) ∈ WS := List.mem_filter.mpr ⟨List.mem_append_right _ (List.mem_of_getElem? (i := 583) rfl), rfl⟩
set_option maxRecDepth 100000 in
theorem tw_584 : Cond.code ({ cls := "CopyHeaps$Heap", name := "partOf", desc := "(II)I" } : MethodName) prog_4_method_10_code (3 : Nat) (Option.some FieldType.int) ∈ WS := List.mem_filter.mpr ⟨List.mem_append_right _ (List.mem_of_getElem? (i := 584) rfl), rfl⟩
set_option maxRecDepth 100000 in
theorem tw_585 : Cond.methodLink "CopyHeaps$Heap" (48 : Nat) ({ cls := "CopyHeaps$Heap", name := "firstPart", desc := "(I)I" } : MethodName) ∈ WS := List.mem_filter.mpr ⟨List.mem_append_right _ (List.mem_of_getElem? (i := 585) rfl), rfl⟩
set_option maxRecDepth 100000 in
theorem tw_586 : Cond.static ({ cls := "CopyHeaps$Heap", name := "firstPart", desc := "(I)I" } : MethodName) ∈ WS := List.mem_filter.mpr ⟨List.mem_append_right _ (List.mem_of_getElem? (i := 586) rfl), rfl⟩
set_option maxRecDepth 100000 in
theorem tw_587 : Cond.code ({ cls := "CopyHeaps$Heap", name := "firstPart", desc := "(I)I" } : MethodName) prog_4_method_12_code (1 : Nat) (Option.some FieldType.int) ∈ WS := List.mem_filter.mpr ⟨List.mem_append_right _ (List.mem_of_getElem? (i := 587) rfl), rfl⟩
set_option maxRecDepth 100000 in
theorem tw_588 : Cond.methodLink "CopyHeaps$Carrier" (59 : Nat) ({ cls := "CopyHeaps$Carrier", name := "carry", desc := "(I)I" } : MethodName) ∈ WS := List.mem_filter.mpr ⟨List.mem_append_right _ (List.mem_of_getElem? (i := 588) rfl), rfl⟩
set_option maxRecDepth 100000 in
theorem tw_589 : Cond.methodLink "CopyHeaps$Carrier" (62 : Nat) ({ cls := "CopyHeaps$Heap", name := "setPart", desc := "(III)V" } : MethodName) ∈ WS := List.mem_filter.mpr ⟨List.mem_append_right _ (List.mem_of_getElem? (i := 589) rfl), rfl⟩
set_option maxRecDepth 100000 in
theorem tw_590 : Cond.instanceMethod ({ cls := "CopyHeaps$Heap", name := "setPart", desc := "(III)V" } : MethodName) ∈ WS := List.mem_filter.mpr ⟨List.mem_append_right _ (List.mem_of_getElem? (i := 590) rfl), rfl⟩
set_option maxRecDepth 100000 in
theorem tw_591 : Cond.selects "CopyHeaps$Heap" ({ cls := "CopyHeaps$Heap", name := "setPart", desc := "(III)V" } : MethodName) ({ cls := "CopyHeaps$Heap", name := "setPart", desc := "(III)V" } : MethodName) ∈ WS := List.mem_filter.mpr ⟨List.mem_append_right _ (List.mem_of_getElem? (i := 591) rfl), rfl⟩
set_option maxRecDepth 100000 in
theorem tw_592 : Cond.code ({ cls := "CopyHeaps$Heap", name := "setPart", desc := "(III)V" } : MethodName) prog_4_method_11_code (4 : Nat) (Option.none : Option FieldType) ∈ WS := List.mem_filter.mpr ⟨List.mem_append_right _ (List.mem_of_getElem? (i := 592) rfl), rfl⟩
set_option maxRecDepth 100000 in
theorem tw_593 : Cond.methodLink "CopyHeaps" (187 : Nat) ({ cls := "CopyHeaps", name := "inSteps", desc := "(I)I" } : MethodName) ∈ WS := List.mem_filter.mpr ⟨List.mem_append_right _ (List.mem_of_getElem? (i := 593) rfl), rfl⟩
set_option maxRecDepth 100000 in
theorem tw_594 : Cond.static ({ cls := "CopyHeaps", name := "inSteps", desc := "(I)I" } : MethodName) ∈ WS := List.mem_filter.mpr ⟨List.mem_append_right _ (List.mem_of_getElem? (i := 594) rfl), rfl⟩
set_option maxRecDepth 100000 in
theorem tw_595 : Cond.code ({ cls := "CopyHeaps", name := "inSteps", desc := "(I)I" } : MethodName) prog_1_method_31_code (1 : Nat) (Option.some FieldType.int) ∈ WS := List.mem_filter.mpr ⟨List.mem_append_right _ (List.mem_of_getElem? (i := 595) rfl), rfl⟩
set_option maxRecDepth 100000 in
theorem tw_596 : Cond.methodLink "CopyHeaps" (137 : Nat) ({ cls := "CopyHeaps$Heap", name := "addPair", desc := "(II)I" } : MethodName) ∈ WS := List.mem_filter.mpr ⟨List.mem_append_right _ (List.mem_of_getElem? (i := 596) rfl), rfl⟩
set_option maxRecDepth 100000 in
theorem tw_597 : Cond.instanceMethod ({ cls := "CopyHeaps$Heap", name := "addPair", desc := "(II)I" } : MethodName) ∈ WS := List.mem_filter.mpr ⟨List.mem_append_right _ (List.mem_of_getElem? (i := 597) rfl), rfl⟩
set_option maxRecDepth 100000 in
theorem tw_598 : Cond.selects "CopyHeaps$Heap" ({ cls := "CopyHeaps$Heap", name := "addPair", desc := "(II)I" } : MethodName) ({ cls := "CopyHeaps$Heap", name := "addPair", desc := "(II)I" } : MethodName) ∈ WS := List.mem_filter.mpr ⟨List.mem_append_right _ (List.mem_of_getElem? (i := 598) rfl), rfl⟩
set_option maxRecDepth 100000 in
theorem tw_599 : Cond.code ({ cls := "CopyHeaps$Heap", name := "addPair", desc := "(II)I" } : MethodName) prog_4_method_3_code (3 : Nat) (Option.some FieldType.int) ∈ WS := List.mem_filter.mpr ⟨List.mem_append_right _ (List.mem_of_getElem? (i := 599) rfl), rfl⟩
set_option maxRecDepth 100000 in
theorem tw_603 : Cond.methodLink "CopyHeapsLaw" (41 : Nat) ({ cls := "CopyHeaps", name := "tuple", desc := "(III)V" } : MethodName) ∈ WS := List.mem_filter.mpr ⟨List.mem_append_right _ (List.mem_of_getElem? (i := 603) rfl), rfl⟩
set_option maxRecDepth 100000 in
theorem tw_604 : Cond.instanceMethod ({ cls := "CopyHeaps", name := "tuple", desc := "(III)V" } : MethodName) ∈ WS := List.mem_filter.mpr ⟨List.mem_append_right _ (List.mem_of_getElem? (i := 604) rfl), rfl⟩
set_option maxRecDepth 100000 in
theorem tw_605 : Cond.selects "CopyHeaps" ({ cls := "CopyHeaps", name := "tuple", desc := "(III)V" } : MethodName) ({ cls := "CopyHeaps", name := "tuple", desc := "(III)V" } : MethodName) ∈ WS := List.mem_filter.mpr ⟨List.mem_append_right _ (List.mem_of_getElem? (i := 605) rfl), rfl⟩
set_option maxRecDepth 100000 in
theorem tw_606 : Cond.code ({ cls := "CopyHeaps", name := "tuple", desc := "(III)V" } : MethodName) prog_1_method_9_code (5 : Nat) (Option.none : Option FieldType) ∈ WS := List.mem_filter.mpr ⟨List.mem_append_right _ (List.mem_of_getElem? (i := 606) rfl), rfl⟩
set_option maxRecDepth 100000 in
theorem tw_607 : Cond.methodLink "CopyHeaps" (140 : Nat) ({ cls := "CopyHeaps$Heap", name := "addTuple", desc := "([II)I" } : MethodName) ∈ WS := List.mem_filter.mpr ⟨List.mem_append_right _ (List.mem_of_getElem? (i := 607) rfl), rfl⟩
set_option maxRecDepth 100000 in
theorem tw_608 : Cond.instanceMethod ({ cls := "CopyHeaps$Heap", name := "addTuple", desc := "([II)I" } : MethodName) ∈ WS := List.mem_filter.mpr ⟨List.mem_append_right _ (List.mem_of_getElem? (i := 608) rfl), rfl⟩
set_option maxRecDepth 100000 in
theorem tw_609 : Cond.selects "CopyHeaps$Heap" ({ cls := "CopyHeaps$Heap", name := "addTuple", desc := "([II)I" } : MethodName) ({ cls := "CopyHeaps$Heap", name := "addTuple", desc := "([II)I" } : MethodName) ∈ WS := List.mem_filter.mpr ⟨List.mem_append_right _ (List.mem_of_getElem? (i := 609) rfl), rfl⟩
set_option maxRecDepth 100000 in
theorem tw_610 : Cond.code ({ cls := "CopyHeaps$Heap", name := "addTuple", desc := "([II)I" } : MethodName) prog_4_method_4_code (4 : Nat) (Option.some FieldType.int) ∈ WS := List.mem_filter.mpr ⟨List.mem_append_right _ (List.mem_of_getElem? (i := 610) rfl), rfl⟩
set_option maxRecDepth 100000 in
theorem tw_615 : Cond.methodLink "CopyHeapsLaw" (44 : Nat) ({ cls := "CopyHeaps", name := "blob", desc := "(III)V" } : MethodName) ∈ WS := List.mem_filter.mpr ⟨List.mem_append_right _ (List.mem_of_getElem? (i := 615) rfl), rfl⟩
set_option maxRecDepth 100000 in
theorem tw_616 : Cond.instanceMethod ({ cls := "CopyHeaps", name := "blob", desc := "(III)V" } : MethodName) ∈ WS := List.mem_filter.mpr ⟨List.mem_append_right _ (List.mem_of_getElem? (i := 616) rfl), rfl⟩
set_option maxRecDepth 100000 in
theorem tw_617 : Cond.selects "CopyHeaps" ({ cls := "CopyHeaps", name := "blob", desc := "(III)V" } : MethodName) ({ cls := "CopyHeaps", name := "blob", desc := "(III)V" } : MethodName) ∈ WS := List.mem_filter.mpr ⟨List.mem_append_right _ (List.mem_of_getElem? (i := 617) rfl), rfl⟩
set_option maxRecDepth 100000 in
theorem tw_618 : Cond.code ({ cls := "CopyHeaps", name := "blob", desc := "(III)V" } : MethodName) prog_1_method_10_code (5 : Nat) (Option.none : Option FieldType) ∈ WS := List.mem_filter.mpr ⟨List.mem_append_right _ (List.mem_of_getElem? (i := 618) rfl), rfl⟩
set_option maxRecDepth 100000 in
theorem tw_634 : Cond.methodLink "CopyHeaps" (150 : Nat) ({ cls := "CopyHeaps$Pool", name := "makeBlob", desc := "(I)I" } : MethodName) ∈ WS := List.mem_filter.mpr ⟨List.mem_append_right _ (List.mem_of_getElem? (i := 634) rfl), rfl⟩
set_option maxRecDepth 100000 in
theorem tw_635 : Cond.instanceMethod ({ cls := "CopyHeaps$Pool", name := "makeBlob", desc := "(I)I" } : MethodName) ∈ WS := List.mem_filter.mpr ⟨List.mem_append_right _ (List.mem_of_getElem? (i := 635) rfl), rfl⟩
set_option maxRecDepth 100000 in
theorem tw_636 : Cond.selects "CopyHeaps$Pool" ({ cls := "CopyHeaps$Pool", name := "makeBlob", desc := "(I)I" } : MethodName) ({ cls := "CopyHeaps$Pool", name := "makeBlob", desc := "(I)I" } : MethodName) ∈ WS := List.mem_filter.mpr ⟨List.mem_append_right _ (List.mem_of_getElem? (i := 636) rfl), rfl⟩
set_option maxRecDepth 100000 in
theorem tw_637 : Cond.code ({ cls := "CopyHeaps$Pool", name := "makeBlob", desc := "(I)I" } : MethodName) prog_7_method_2_code (3 : Nat) (Option.some FieldType.int) ∈ WS := List.mem_filter.mpr ⟨List.mem_append_right _ (List.mem_of_getElem? (i := 637) rfl), rfl⟩
set_option maxRecDepth 100000 in
theorem tw_638 : Cond.methodLink "CopyHeaps" (153 : Nat) ({ cls := "CopyHeaps$Heap", name := "addHandle", desc := "(I)I" } : MethodName) ∈ WS := List.mem_filter.mpr ⟨List.mem_append_right _ (List.mem_of_getElem? (i := 638) rfl), rfl⟩
set_option maxRecDepth 100000 in
theorem tw_639 : Cond.instanceMethod ({ cls := "CopyHeaps$Heap", name := "addHandle", desc := "(I)I" } : MethodName) ∈ WS := List.mem_filter.mpr ⟨List.mem_append_right _ (List.mem_of_getElem? (i := 639) rfl), rfl⟩
set_option maxRecDepth 100000 in
theorem tw_640 : Cond.selects "CopyHeaps$Heap" ({ cls := "CopyHeaps$Heap", name := "addHandle", desc := "(I)I" } : MethodName) ({ cls := "CopyHeaps$Heap", name := "addHandle", desc := "(I)I" } : MethodName) ∈ WS := List.mem_filter.mpr ⟨List.mem_append_right _ (List.mem_of_getElem? (i := 640) rfl), rfl⟩
set_option maxRecDepth 100000 in
theorem tw_641 : Cond.code ({ cls := "CopyHeaps$Heap", name := "addHandle", desc := "(I)I" } : MethodName) prog_4_method_5_code (2 : Nat) (Option.some FieldType.int) ∈ WS := List.mem_filter.mpr ⟨List.mem_append_right _ (List.mem_of_getElem? (i := 641) rfl), rfl⟩
set_option maxRecDepth 100000 in
theorem tw_645 : Cond.methodLink "CopyHeapsLaw" (49 : Nat) ({ cls := "CopyHeaps", name := "part", desc := "(IIII)V" } : MethodName) ∈ WS := List.mem_filter.mpr ⟨List.mem_append_right _ (List.mem_of_getElem? (i := 645) rfl), rfl⟩
set_option maxRecDepth 100000 in
theorem tw_646 : Cond.instanceMethod ({ cls := "CopyHeaps", name := "part", desc := "(IIII)V" } : MethodName) ∈ WS := List.mem_filter.mpr ⟨List.mem_append_right _ (List.mem_of_getElem? (i := 646) rfl), rfl⟩
set_option maxRecDepth 100000 in
theorem tw_647 : Cond.selects "CopyHeaps" ({ cls := "CopyHeaps", name := "part", desc := "(IIII)V" } : MethodName) ({ cls := "CopyHeaps", name := "part", desc := "(IIII)V" } : MethodName) ∈ WS := List.mem_filter.mpr ⟨List.mem_append_right _ (List.mem_of_getElem? (i := 647) rfl), rfl⟩
set_option maxRecDepth 100000 in
theorem tw_648 : Cond.code ({ cls := "CopyHeaps", name := "part", desc := "(IIII)V" } : MethodName) prog_1_method_11_code (7 : Nat) (Option.none : Option FieldType) ∈ WS := List.mem_filter.mpr ⟨List.mem_append_right _ (List.mem_of_getElem? (i := 648) rfl), rfl⟩
set_option maxRecDepth 100000 in
theorem tw_649 : Cond.methodLink "CopyHeaps" (156 : Nat) ({ cls := "CopyHeaps$Heap", name := "partCount", desc := "(I)I" } : MethodName) ∈ WS := List.mem_filter.mpr ⟨List.mem_append_right _ (List.mem_of_getElem? (i := 649) rfl), rfl⟩
set_option maxRecDepth 100000 in
theorem tw_650 : Cond.methodLink "CopyHeaps" (159 : Nat) ({ cls := "CopyHeaps$Heap", name := "partOf", desc := "(II)I" } : MethodName) ∈ WS := List.mem_filter.mpr ⟨List.mem_append_right _ (List.mem_of_getElem? (i := 650) rfl), rfl⟩
set_option maxRecDepth 100000 in
theorem tw_654 : Cond.methodLink "CopyHeapsLaw" (52 : Nat) ({ cls := "CopyHeaps", name := "send", desc := "(III)Z" } : MethodName) ∈ WS := List.mem_filter.mpr ⟨List.mem_append_right _ (List.mem_of_getElem? (i := 654) rfl), rfl⟩
set_option maxRecDepth 100000 in
theorem tw_655 : Cond.instanceMethod ({ cls := "CopyHeaps", name := "send", desc := "(III)Z" } : MethodName) ∈ WS := List.mem_filter.mpr ⟨List.mem_append_right _ (List.mem_of_getElem? (i := 655) rfl), rfl⟩
set_option maxRecDepth 100000 in
theorem tw_656 : Cond.selects "CopyHeaps" ({ cls := "CopyHeaps", name := "send", desc := "(III)Z" } : MethodName) ({ cls := "CopyHeaps", name := "send", desc := "(III)Z" } : MethodName) ∈ WS := List.mem_filter.mpr ⟨List.mem_append_right _ (List.mem_of_getElem? (i := 656) rfl), rfl⟩
set_option maxRecDepth 100000 in
theorem tw_657 : Cond.code ({ cls := "CopyHeaps", name := "send", desc := "(III)Z" } : MethodName) prog_1_method_12_code (6 : Nat) (Option.some FieldType.boolean) ∈ WS := List.mem_filter.mpr ⟨List.mem_append_right _ (List.mem_of_getElem? (i := 657) rfl), rfl⟩
set_option maxRecDepth 100000 in
theorem tw_658 : Cond.methodLink "CopyHeaps" (165 : Nat) ({ cls := "CopyHeaps", name := "deliver", desc := "(LCopyHeaps$HeapProcess;ILCopyHeaps$HeapProcess;)Z" } : MethodName) ∈ WS := List.mem_filter.mpr ⟨List.mem_append_right _ (List.mem_of_getElem? (i := 658) rfl), rfl⟩
set_option maxRecDepth 100000 in
theorem tw_660 : Cond.instanceMethod ({ cls := "CopyHeaps", name := "deliver", desc := "(LCopyHeaps$HeapProcess;ILCopyHeaps$HeapProcess;)Z" } : MethodName) ∈ WS := List.mem_filter.mpr ⟨List.mem_append_right _ (List.mem_of_getElem? (i := 660) rfl), rfl⟩
set_option maxRecDepth 100000 in
theorem tw_661 : Cond.code ({ cls := "CopyHeaps", name := "deliver", desc := "(LCopyHeaps$HeapProcess;ILCopyHeaps$HeapProcess;)Z" } : MethodName) prog_1_method_34_code (4 : Nat) (Option.some FieldType.boolean) ∈ WS := List.mem_filter.mpr ⟨List.mem_append_right _ (List.mem_of_getElem? (i := 661) rfl), rfl⟩
set_option maxRecDepth 100000 in
theorem tw_662 : Cond.methodLink "CopyHeaps" (253 : Nat) ({ cls := "CopyHeaps$Mailbox", name := "isFull", desc := "()Z" } : MethodName) ∈ WS := List.mem_filter.mpr ⟨List.mem_append_right _ (List.mem_of_getElem? (i := 662) rfl), rfl⟩
set_option maxRecDepth 100000 in
theorem tw_663 : Cond.instanceMethod ({ cls := "CopyHeaps$Mailbox", name := "isFull", desc := "()Z" } : MethodName) ∈ WS := List.mem_filter.mpr ⟨List.mem_append_right _ (List.mem_of_getElem? (i := 663) rfl), rfl⟩
set_option maxRecDepth 100000 in
theorem tw_664 : Cond.selects "CopyHeaps$Mailbox" ({ cls := "CopyHeaps$Mailbox", name := "isFull", desc := "()Z" } : MethodName) ({ cls := "CopyHeaps$Mailbox", name := "isFull", desc := "()Z" } : MethodName) ∈ WS := List.mem_filter.mpr ⟨List.mem_append_right _ (List.mem_of_getElem? (i := 664) rfl), rfl⟩
set_option maxRecDepth 100000 in
theorem tw_665 : Cond.code ({ cls := "CopyHeaps$Mailbox", name := "isFull", desc := "()Z" } : MethodName) prog_6_method_3_code (1 : Nat) (Option.some FieldType.boolean) ∈ WS := List.mem_filter.mpr ⟨List.mem_append_right _ (List.mem_of_getElem? (i := 665) rfl), rfl⟩
set_option maxRecDepth 100000 in
theorem tw_666 : Cond.methodLink "CopyHeaps" (256 : Nat) ({ cls := "CopyHeaps$Mailbox", name := "addLast", desc := "(I)V" } : MethodName) ∈ WS := List.mem_filter.mpr ⟨List.mem_append_right _ (List.mem_of_getElem? (i := 666) rfl), rfl⟩
set_option maxRecDepth 100000 in
theorem tw_667 : Cond.instanceMethod ({ cls := "CopyHeaps$Mailbox", name := "addLast", desc := "(I)V" } : MethodName) ∈ WS := List.mem_filter.mpr ⟨List.mem_append_right _ (List.mem_of_getElem? (i := 667) rfl), rfl⟩
set_option maxRecDepth 100000 in
theorem tw_668 : Cond.selects "CopyHeaps$Mailbox" ({ cls := "CopyHeaps$Mailbox", name := "addLast", desc := "(I)V" } : MethodName) ({ cls := "CopyHeaps$Mailbox", name := "addLast", desc := "(I)V" } : MethodName) ∈ WS := List.mem_filter.mpr ⟨List.mem_append_right _ (List.mem_of_getElem? (i := 668) rfl), rfl⟩
set_option maxRecDepth 100000 in
theorem tw_669 : Cond.code ({ cls := "CopyHeaps$Mailbox", name := "addLast", desc := "(I)V" } : MethodName) prog_6_method_4_code (2 : Nat) (Option.none : Option FieldType) ∈ WS := List.mem_filter.mpr ⟨List.mem_append_right _ (List.mem_of_getElem? (i := 669) rfl), rfl⟩
set_option maxRecDepth 100000 in
theorem tw_670 : Cond.methodLink "CopyHeaps$Mailbox" (22 : Nat) ({ cls := "CopyHeaps$Mailbox", name := "set", desc := "(II)V" } : MethodName) ∈ WS := List.mem_filter.mpr ⟨List.mem_append_right _ (List.mem_of_getElem? (i := 670) rfl), rfl⟩
set_option maxRecDepth 100000 in
theorem tw_671 : Cond.methodLink "CopyHeaps" (209 : Nat) ({ cls := "CopyHeaps", name := "wordsLedTo", desc := "(LCopyHeaps$Heap;I)I" } : MethodName) ∈ WS := List.mem_filter.mpr ⟨List.mem_append_right _ (List.mem_of_getElem? (i := 671) rfl), rfl⟩
set_option maxRecDepth 100000 in
theorem tw_673 : Cond.instanceMethod ({ cls := "CopyHeaps", name := "wordsLedTo", desc := "(LCopyHeaps$Heap;I)I" } : MethodName) ∈ WS := List.mem_filter.mpr ⟨List.mem_append_right _ (List.mem_of_getElem? (i := 673) rfl), rfl⟩
set_option maxRecDepth 100000 in
theorem tw_674 : Cond.code ({ cls := "CopyHeaps", name := "wordsLedTo", desc := "(LCopyHeaps$Heap;I)I" } : MethodName) prog_1_method_33_code (3 : Nat) (Option.some FieldType.int) ∈ WS := List.mem_filter.mpr ⟨List.mem_append_right _ (List.mem_of_getElem? (i := 674) rfl), rfl⟩
set_option maxRecDepth 100000 in
theorem tw_675 : Cond.methodLink "CopyHeaps" (259 : Nat) ({ cls := "CopyHeaps$Carrier", name := "countHandlesCarried", desc := "(LCopyHeaps$Pool;)V" } : MethodName) ∈ WS := List.mem_filter.mpr ⟨List.mem_append_right _ (List.mem_of_getElem? (i := 675) rfl), rfl⟩
set_option maxRecDepth 100000 in
theorem tw_676 : Cond.instanceMethod ({ cls := "CopyHeaps$Carrier", name := "countHandlesCarried", desc := "(LCopyHeaps$Pool;)V" } : MethodName) ∈ WS := List.mem_filter.mpr ⟨List.mem_append_right _ (List.mem_of_getElem? (i := 676) rfl), rfl⟩
set_option maxRecDepth 100000 in
theorem tw_677 : Cond.selects "CopyHeaps$Carrier" ({ cls := "CopyHeaps$Carrier", name := "countHandlesCarried", desc := "(LCopyHeaps$Pool;)V" } : MethodName) ({ cls := "CopyHeaps$Carrier", name := "countHandlesCarried", desc := "(LCopyHeaps$Pool;)V" } : MethodName) ∈ WS := List.mem_filter.mpr ⟨List.mem_append_right _ (List.mem_of_getElem? (i := 677) rfl), rfl⟩
set_option maxRecDepth 100000 in
theorem tw_678 : Cond.code ({ cls := "CopyHeaps$Carrier", name := "countHandlesCarried", desc := "(LCopyHeaps$Pool;)V" } : MethodName) prog_2_method_5_code (3 : Nat) (Option.none : Option FieldType) ∈ WS := List.mem_filter.mpr ⟨List.mem_append_right _ (List.mem_of_getElem? (i := 678) rfl), rfl⟩
set_option maxRecDepth 100000 in
theorem tw_679 : Cond.methodLink "CopyHeaps$Carrier" (72 : Nat) ({ cls := "CopyHeaps$Pool", name := "countHandle", desc := "(I)V" } : MethodName) ∈ WS := List.mem_filter.mpr ⟨List.mem_append_right _ (List.mem_of_getElem? (i := 679) rfl), rfl⟩
set_option maxRecDepth 100000 in
theorem tw_680 : Cond.instanceMethod ({ cls := "CopyHeaps$Pool", name := "countHandle", desc := "(I)V" } : MethodName) ∈ WS := List.mem_filter.mpr ⟨List.mem_append_right _ (List.mem_of_getElem? (i := 680) rfl), rfl⟩
set_option maxRecDepth 100000 in
theorem tw_681 : Cond.selects "CopyHeaps$Pool" ({ cls := "CopyHeaps$Pool", name := "countHandle", desc := "(I)V" } : MethodName) ({ cls := "CopyHeaps$Pool", name := "countHandle", desc := "(I)V" } : MethodName) ∈ WS := List.mem_filter.mpr ⟨List.mem_append_right _ (List.mem_of_getElem? (i := 681) rfl), rfl⟩
set_option maxRecDepth 100000 in
theorem tw_682 : Cond.code ({ cls := "CopyHeaps$Pool", name := "countHandle", desc := "(I)V" } : MethodName) prog_7_method_3_code (2 : Nat) (Option.none : Option FieldType) ∈ WS := List.mem_filter.mpr ⟨List.mem_append_right _ (List.mem_of_getElem? (i := 682) rfl), rfl⟩
set_option maxRecDepth 100000 in
theorem tw_686 : Cond.methodLink "CopyHeapsLaw" (56 : Nat) ({ cls := "CopyHeaps", name := "broadcast", desc := "(II)I" } : MethodName) ∈ WS := List.mem_filter.mpr ⟨List.mem_append_right _ (List.mem_of_getElem? (i := 686) rfl), rfl⟩
set_option maxRecDepth 100000 in
theorem tw_687 : Cond.instanceMethod ({ cls := "CopyHeaps", name := "broadcast", desc := "(II)I" } : MethodName) ∈ WS := List.mem_filter.mpr ⟨List.mem_append_right _ (List.mem_of_getElem? (i := 687) rfl), rfl⟩
set_option maxRecDepth 100000 in
theorem tw_688 : Cond.selects "CopyHeaps" ({ cls := "CopyHeaps", name := "broadcast", desc := "(II)I" } : MethodName) ({ cls := "CopyHeaps", name := "broadcast", desc := "(II)I" } : MethodName) ∈ WS := List.mem_filter.mpr ⟨List.mem_append_right _ (List.mem_of_getElem? (i := 688) rfl), rfl⟩
set_option maxRecDepth 100000 in
theorem tw_689 : Cond.code ({ cls := "CopyHeaps", name := "broadcast", desc := "(II)I" } : MethodName) prog_1_method_13_code (7 : Nat) (Option.some FieldType.int) ∈ WS := List.mem_filter.mpr ⟨List.mem_append_right _ (List.mem_of_getElem? (i := 689) rfl), rfl⟩
set_option maxRecDepth 100000 in
theorem tw_693 : Cond.methodLink "CopyHeapsLaw" (60 : Nat) ({ cls := "CopyHeaps", name := "receive", desc := "(II)I" } : MethodName) ∈ WS := List.mem_filter.mpr ⟨List.mem_append_right _ (List.mem_of_getElem? (i := 693) rfl), rfl⟩
set_option maxRecDepth 100000 in
theorem tw_694 : Cond.instanceMethod ({ cls := "CopyHeaps", name := "receive", desc := "(II)I" } : MethodName) ∈ WS := List.mem_filter.mpr ⟨List.mem_append_right _ (List.mem_of_getElem? (i := 694) rfl), rfl⟩
set_option maxRecDepth 100000 in
theorem tw_695 : Cond.selects "CopyHeaps" ({ cls := "CopyHeaps", name := "receive", desc := "(II)I" } : MethodName) ({ cls := "CopyHeaps", name := "receive", desc := "(II)I" } : MethodName) ∈ WS := List.mem_filter.mpr ⟨List.mem_append_right _ (List.mem_of_getElem? (i := 695) rfl), rfl⟩
set_option maxRecDepth 100000 in
theorem tw_696 : Cond.code ({ cls := "CopyHeaps", name := "receive", desc := "(II)I" } : MethodName) prog_1_method_14_code (4 : Nat) (Option.some FieldType.int) ∈ WS := List.mem_filter.mpr ⟨List.mem_append_right _ (List.mem_of_getElem? (i := 696) rfl), rfl⟩
set_option maxRecDepth 100000 in
theorem tw_697 : Cond.methodLink "CopyHeaps" (177 : Nat) ({ cls := "CopyHeaps$Mailbox", name := "takeFirst", desc := "()I" } : MethodName) ∈ WS := List.mem_filter.mpr ⟨List.mem_append_right _ (List.mem_of_getElem? (i := 697) rfl), rfl⟩
set_option maxRecDepth 100000 in
theorem tw_698 : Cond.instanceMethod ({ cls := "CopyHeaps$Mailbox", name := "takeFirst", desc := "()I" } : MethodName) ∈ WS := List.mem_filter.mpr ⟨List.mem_append_right _ (List.mem_of_getElem? (i := 698) rfl), rfl⟩
set_option maxRecDepth 100000 in
theorem tw_699 : Cond.selects "CopyHeaps$Mailbox" ({ cls := "CopyHeaps$Mailbox", name := "takeFirst", desc := "()I" } : MethodName) ({ cls := "CopyHeaps$Mailbox", name := "takeFirst", desc := "()I" } : MethodName) ∈ WS := List.mem_filter.mpr ⟨List.mem_append_right _ (List.mem_of_getElem? (i := 699) rfl), rfl⟩
set_option maxRecDepth 100000 in
theorem tw_700 : Cond.code ({ cls := "CopyHeaps$Mailbox", name := "takeFirst", desc := "()I" } : MethodName) prog_6_method_5_code (2 : Nat) (Option.some FieldType.int) ∈ WS := List.mem_filter.mpr ⟨List.mem_append_right _ (List.mem_of_getElem? (i := 700) rfl), rfl⟩
set_option maxRecDepth 100000 in
theorem tw_701 : Cond.methodLink "CopyHeaps$Mailbox" (26 : Nat) ({ cls := "CopyHeaps$Mailbox", name := "get", desc := "(I)I" } : MethodName) ∈ WS := List.mem_filter.mpr ⟨List.mem_append_right _ (List.mem_of_getElem? (i := 701) rfl), rfl⟩
set_option maxRecDepth 100000 in
theorem tw_705 : Cond.methodLink "CopyHeapsLaw" (63 : Nat) ({ cls := "CopyHeaps", name := "collect", desc := "(I)I" } : MethodName) ∈ WS := List.mem_filter.mpr ⟨List.mem_append_right _ (List.mem_of_getElem? (i := 705) rfl), rfl⟩
set_option maxRecDepth 100000 in
theorem tw_706 : Cond.instanceMethod ({ cls := "CopyHeaps", name := "collect", desc := "(I)I" } : MethodName) ∈ WS := List.mem_filter.mpr ⟨List.mem_append_right _ (List.mem_of_getElem? (i := 706) rfl), rfl⟩
set_option maxRecDepth 100000 in
theorem tw_707 : Cond.selects "CopyHeaps" ({ cls := "CopyHeaps", name := "collect", desc := "(I)I" } : MethodName) ({ cls := "CopyHeaps", name := "collect", desc := "(I)I" } : MethodName) ∈ WS := List.mem_filter.mpr ⟨List.mem_append_right _ (List.mem_of_getElem? (i := 707) rfl), rfl⟩
set_option maxRecDepth 100000 in
theorem tw_708 : Cond.code ({ cls := "CopyHeaps", name := "collect", desc := "(I)I" } : MethodName) prog_1_method_15_code (4 : Nat) (Option.some FieldType.int) ∈ WS := List.mem_filter.mpr ⟨List.mem_append_right _ (List.mem_of_getElem? (i := 708) rfl), rfl⟩
set_option maxRecDepth 100000 in
theorem tw_712 : Cond.methodLink "CopyHeapsLaw" (66 : Nat) ({ cls := "CopyHeaps", name := "trim", desc := "(I)I" } : MethodName) ∈ WS := List.mem_filter.mpr ⟨List.mem_append_right _ (List.mem_of_getElem? (i := 712) rfl), rfl⟩
set_option maxRecDepth 100000 in
theorem tw_713 : Cond.instanceMethod ({ cls := "CopyHeaps", name := "trim", desc := "(I)I" } : MethodName) ∈ WS := List.mem_filter.mpr ⟨List.mem_append_right _ (List.mem_of_getElem? (i := 713) rfl), rfl⟩
set_option maxRecDepth 100000 in
theorem tw_714 : Cond.selects "CopyHeaps" ({ cls := "CopyHeaps", name := "trim", desc := "(I)I" } : MethodName) ({ cls := "CopyHeaps", name := "trim", desc := "(I)I" } : MethodName) ∈ WS := List.mem_filter.mpr ⟨List.mem_append_right _ (List.mem_of_getElem? (i := 714) rfl), rfl⟩
set_option maxRecDepth 100000 in
theorem tw_715 : Cond.code ({ cls := "CopyHeaps", name := "trim", desc := "(I)I" } : MethodName) prog_1_method_16_code (4 : Nat) (Option.some FieldType.int) ∈ WS := List.mem_filter.mpr ⟨List.mem_append_right _ (List.mem_of_getElem? (i := 715) rfl), rfl⟩
set_option maxRecDepth 100000 in
theorem tw_719 : Cond.methodLink "CopyHeapsLaw" (69 : Nat) ({ cls := "CopyHeaps", name := "count", desc := "(I)I" } : MethodName) ∈ WS := List.mem_filter.mpr ⟨List.mem_append_right _ (List.mem_of_getElem? (i := 719) rfl), rfl⟩
set_option maxRecDepth 100000 in
theorem tw_720 : Cond.instanceMethod ({ cls := "CopyHeaps", name := "count", desc := "(I)I" } : MethodName) ∈ WS := List.mem_filter.mpr ⟨List.mem_append_right _ (List.mem_of_getElem? (i := 720) rfl), rfl⟩
set_option maxRecDepth 100000 in
theorem tw_721 : Cond.selects "CopyHeaps" ({ cls := "CopyHeaps", name := "count", desc := "(I)I" } : MethodName) ({ cls := "CopyHeaps", name := "count", desc := "(I)I" } : MethodName) ∈ WS := List.mem_filter.mpr ⟨List.mem_append_right _ (List.mem_of_getElem? (i := 721) rfl), rfl⟩
set_option maxRecDepth 100000 in
theorem tw_722 : Cond.code ({ cls := "CopyHeaps", name := "count", desc := "(I)I" } : MethodName) prog_1_method_17_code (2 : Nat) (Option.some FieldType.int) ∈ WS := List.mem_filter.mpr ⟨List.mem_append_right _ (List.mem_of_getElem? (i := 722) rfl), rfl⟩
set_option maxRecDepth 100000 in
theorem tw_726 : Cond.methodLink "CopyHeapsLaw" (72 : Nat) ({ cls := "CopyHeaps", name := "of", desc := "(II)I" } : MethodName) ∈ WS := List.mem_filter.mpr ⟨List.mem_append_right _ (List.mem_of_getElem? (i := 726) rfl), rfl⟩
set_option maxRecDepth 100000 in
theorem tw_727 : Cond.instanceMethod ({ cls := "CopyHeaps", name := "of", desc := "(II)I" } : MethodName) ∈ WS := List.mem_filter.mpr ⟨List.mem_append_right _ (List.mem_of_getElem? (i := 727) rfl), rfl⟩
set_option maxRecDepth 100000 in
theorem tw_728 : Cond.selects "CopyHeaps" ({ cls := "CopyHeaps", name := "of", desc := "(II)I" } : MethodName) ({ cls := "CopyHeaps", name := "of", desc := "(II)I" } : MethodName) ∈ WS := List.mem_filter.mpr ⟨List.mem_append_right _ (List.mem_of_getElem? (i := 728) rfl), rfl⟩
set_option maxRecDepth 100000 in
theorem tw_729 : Cond.code ({ cls := "CopyHeaps", name := "of", desc := "(II)I" } : MethodName) prog_1_method_18_code (4 : Nat) (Option.some FieldType.int) ∈ WS := List.mem_filter.mpr ⟨List.mem_append_right _ (List.mem_of_getElem? (i := 729) rfl), rfl⟩
set_option maxRecDepth 100000 in
theorem tw_733 : Cond.methodLink "CopyHeapsLaw" (75 : Nat) ({ cls := "CopyHeaps", name := "kind", desc := "(II)I" } : MethodName) ∈ WS := List.mem_filter.mpr ⟨List.mem_append_right _ (List.mem_of_getElem? (i := 733) rfl), rfl⟩
set_option maxRecDepth 100000 in
theorem tw_734 : Cond.instanceMethod ({ cls := "CopyHeaps", name := "kind", desc := "(II)I" } : MethodName) ∈ WS := List.mem_filter.mpr ⟨List.mem_append_right _ (List.mem_of_getElem? (i := 734) rfl), rfl⟩
set_option maxRecDepth 100000 in
theorem tw_735 : Cond.selects "CopyHeaps" ({ cls := "CopyHeaps", name := "kind", desc := "(II)I" } : MethodName) ({ cls := "CopyHeaps", name := "kind", desc := "(II)I" } : MethodName) ∈ WS := List.mem_filter.mpr ⟨List.mem_append_right _ (List.mem_of_getElem? (i := 735) rfl), rfl⟩
set_option maxRecDepth 100000 in
theorem tw_736 : Cond.code ({ cls := "CopyHeaps", name := "kind", desc := "(II)I" } : MethodName) prog_1_method_19_code (3 : Nat) (Option.some FieldType.int) ∈ WS := List.mem_filter.mpr ⟨List.mem_append_right _ (List.mem_of_getElem? (i := 736) rfl), rfl⟩
set_option maxRecDepth 100000 in
theorem tw_740 : Cond.methodLink "CopyHeapsLaw" (78 : Nat) ({ cls := "CopyHeaps", name := "value", desc := "(II)I" } : MethodName) ∈ WS := List.mem_filter.mpr ⟨List.mem_append_right _ (List.mem_of_getElem? (i := 740) rfl), rfl⟩
set_option maxRecDepth 100000 in
theorem tw_741 : Cond.instanceMethod ({ cls := "CopyHeaps", name := "value", desc := "(II)I" } : MethodName) ∈ WS := List.mem_filter.mpr ⟨List.mem_append_right _ (List.mem_of_getElem? (i := 741) rfl), rfl⟩
set_option maxRecDepth 100000 in
theorem tw_742 : Cond.selects "CopyHeaps" ({ cls := "CopyHeaps", name := "value", desc := "(II)I" } : MethodName) ({ cls := "CopyHeaps", name := "value", desc := "(II)I" } : MethodName) ∈ WS := List.mem_filter.mpr ⟨List.mem_append_right _ (List.mem_of_getElem? (i := 742) rfl), rfl⟩
set_option maxRecDepth 100000 in
theorem tw_743 : Cond.code ({ cls := "CopyHeaps", name := "value", desc := "(II)I" } : MethodName) prog_1_method_20_code (5 : Nat) (Option.some FieldType.int) ∈ WS := List.mem_filter.mpr ⟨List.mem_append_right _ (List.mem_of_getElem? (i := 743) rfl), rfl⟩
set_option maxRecDepth 100000 in
theorem tw_744 : Cond.methodLink "CopyHeaps" (196 : Nat) ({ cls := "CopyHeaps", name := "contentOf", desc := "(I)I" } : MethodName) ∈ WS := List.mem_filter.mpr ⟨List.mem_append_right _ (List.mem_of_getElem? (i := 744) rfl), rfl⟩
set_option maxRecDepth 100000 in
theorem tw_745 : Cond.methodLink "CopyHeaps" (202 : Nat) ({ cls := "CopyHeaps$Heap", name := "blobOf", desc := "(I)I" } : MethodName) ∈ WS := List.mem_filter.mpr ⟨List.mem_append_right _ (List.mem_of_getElem? (i := 745) rfl), rfl⟩
set_option maxRecDepth 100000 in
theorem tw_749 : Cond.methodLink "CopyHeapsLaw" (81 : Nat) ({ cls := "CopyHeaps", name := "address", desc := "(II)I" } : MethodName) ∈ WS := List.mem_filter.mpr ⟨List.mem_append_right _ (List.mem_of_getElem? (i := 749) rfl), rfl⟩
set_option maxRecDepth 100000 in
theorem tw_750 : Cond.instanceMethod ({ cls := "CopyHeaps", name := "address", desc := "(II)I" } : MethodName) ∈ WS := List.mem_filter.mpr ⟨List.mem_append_right _ (List.mem_of_getElem? (i := 750) rfl), rfl⟩
set_option maxRecDepth 100000 in
theorem tw_751 : Cond.selects "CopyHeaps" ({ cls := "CopyHeaps", name := "address", desc := "(II)I" } : MethodName) ({ cls := "CopyHeaps", name := "address", desc := "(II)I" } : MethodName) ∈ WS := List.mem_filter.mpr ⟨List.mem_append_right _ (List.mem_of_getElem? (i := 751) rfl), rfl⟩
set_option maxRecDepth 100000 in
theorem tw_752 : Cond.code ({ cls := "CopyHeaps", name := "address", desc := "(II)I" } : MethodName) prog_1_method_21_code (4 : Nat) (Option.some FieldType.int) ∈ WS := List.mem_filter.mpr ⟨List.mem_append_right _ (List.mem_of_getElem? (i := 752) rfl), rfl⟩
set_option maxRecDepth 100000 in
theorem tw_753 : Cond.methodLink "CopyHeaps" (205 : Nat) ({ cls := "CopyHeaps", name := "liesInHeap", desc := "(I)Z" } : MethodName) ∈ WS := List.mem_filter.mpr ⟨List.mem_append_right _ (List.mem_of_getElem? (i := 753) rfl), rfl⟩
set_option maxRecDepth 100000 in
theorem tw_757 : Cond.methodLink "CopyHeapsLaw" (84 : Nat) ({ cls := "CopyHeaps", name := "words", desc := "(II)I" } : MethodName) ∈ WS := List.mem_filter.mpr ⟨List.mem_append_right _ (List.mem_of_getElem? (i := 757) rfl), rfl⟩
set_option maxRecDepth 100000 in
theorem tw_758 : Cond.instanceMethod ({ cls := "CopyHeaps", name := "words", desc := "(II)I" } : MethodName) ∈ WS := List.mem_filter.mpr ⟨List.mem_append_right _ (List.mem_of_getElem? (i := 758) rfl), rfl⟩
set_option maxRecDepth 100000 in
theorem tw_759 : Cond.selects "CopyHeaps" ({ cls := "CopyHeaps", name := "words", desc := "(II)I" } : MethodName) ({ cls := "CopyHeaps", name := "words", desc := "(II)I" } : MethodName) ∈ WS := List.mem_filter.mpr ⟨List.mem_append_right _ (List.mem_of_getElem? (i := 759) rfl), rfl⟩
set_option maxRecDepth 100000 in
theorem tw_760 : Cond.code ({ cls := "CopyHeaps", name := "words", desc := "(II)I" } : MethodName) prog_1_method_22_code (4 : Nat) (Option.some FieldType.int) ∈ WS := List.mem_filter.mpr ⟨List.mem_append_right _ (List.mem_of_getElem? (i := 760) rfl), rfl⟩
set_option maxRecDepth 100000 in
theorem tw_764 : Cond.methodLink "CopyHeapsLaw" (87 : Nat) ({ cls := "CopyHeaps", name := "handles", desc := "(II)I" } : MethodName) ∈ WS := List.mem_filter.mpr ⟨List.mem_append_right _ (List.mem_of_getElem? (i := 764) rfl), rfl⟩
set_option maxRecDepth 100000 in
theorem tw_765 : Cond.instanceMethod ({ cls := "CopyHeaps", name := "handles", desc := "(II)I" } : MethodName) ∈ WS := List.mem_filter.mpr ⟨List.mem_append_right _ (List.mem_of_getElem? (i := 765) rfl), rfl⟩
set_option maxRecDepth 100000 in
theorem tw_766 : Cond.selects "CopyHeaps" ({ cls := "CopyHeaps", name := "handles", desc := "(II)I" } : MethodName) ({ cls := "CopyHeaps", name := "handles", desc := "(II)I" } : MethodName) ∈ WS := List.mem_filter.mpr ⟨List.mem_append_right _ (List.mem_of_getElem? (i := 766) rfl), rfl⟩
set_option maxRecDepth 100000 in
theorem tw_767 : Cond.code ({ cls := "CopyHeaps", name := "handles", desc := "(II)I" } : MethodName) prog_1_method_23_code (5 : Nat) (Option.some FieldType.int) ∈ WS := List.mem_filter.mpr ⟨List.mem_append_right _ (List.mem_of_getElem? (i := 767) rfl), rfl⟩
set_option maxRecDepth 100000 in
theorem tw_771 : Cond.methodLink "CopyHeapsLaw" (90 : Nat) ({ cls := "CopyHeaps", name := "equal", desc := "(IIII)Z" } : MethodName) ∈ WS := List.mem_filter.mpr ⟨List.mem_append_right _ (List.mem_of_getElem? (i := 771) rfl), rfl⟩
set_option maxRecDepth 100000 in
theorem tw_772 : Cond.instanceMethod ({ cls := "CopyHeaps", name := "equal", desc := "(IIII)Z" } : MethodName) ∈ WS := List.mem_filter.mpr ⟨List.mem_append_right _ (List.mem_of_getElem? (i := 772) rfl), rfl⟩
set_option maxRecDepth 100000 in
theorem tw_773 : Cond.selects "CopyHeaps" ({ cls := "CopyHeaps", name := "equal", desc := "(IIII)Z" } : MethodName) ({ cls := "CopyHeaps", name := "equal", desc := "(IIII)Z" } : MethodName) ∈ WS := List.mem_filter.mpr ⟨List.mem_append_right _ (List.mem_of_getElem? (i := 773) rfl), rfl⟩
set_option maxRecDepth 100000 in
theorem tw_774 : Cond.code ({ cls := "CopyHeaps", name := "equal", desc := "(IIII)Z" } : MethodName) prog_1_method_24_code (8 : Nat) (Option.some FieldType.boolean) ∈ WS := List.mem_filter.mpr ⟨List.mem_append_right _ (List.mem_of_getElem? (i := 774) rfl), rfl⟩
set_option maxRecDepth 100000 in
theorem tw_775 : Cond.methodLink "CopyHeaps" (216 : Nat) ({ cls := "CopyHeaps$Comparison", name := "start", desc := "(LCopyHeaps$Heap;ILCopyHeaps$Heap;I)V" } : MethodName) ∈ WS := List.mem_filter.mpr ⟨List.mem_append_right _ (List.mem_of_getElem? (i := 775) rfl), rfl⟩
set_option maxRecDepth 100000 in
theorem tw_776 : Cond.instanceMethod ({ cls := "CopyHeaps$Comparison", name := "start", desc := "(LCopyHeaps$Heap;ILCopyHeaps$Heap;I)V" } : MethodName) ∈ WS := List.mem_filter.mpr ⟨List.mem_append_right _ (List.mem_of_getElem? (i := 776) rfl), rfl⟩
set_option maxRecDepth 100000 in
theorem tw_777 : Cond.selects "CopyHeaps$Comparison" ({ cls := "CopyHeaps$Comparison", name := "start", desc := "(LCopyHeaps$Heap;ILCopyHeaps$Heap;I)V" } : MethodName) ({ cls := "CopyHeaps$Comparison", name := "start", desc := "(LCopyHeaps$Heap;ILCopyHeaps$Heap;I)V" } : MethodName) ∈ WS := List.mem_filter.mpr ⟨List.mem_append_right _ (List.mem_of_getElem? (i := 777) rfl), rfl⟩
set_option maxRecDepth 100000 in
theorem tw_778 : Cond.code ({ cls := "CopyHeaps$Comparison", name := "start", desc := "(LCopyHeaps$Heap;ILCopyHeaps$Heap;I)V" } : MethodName) prog_3_method_2_code (5 : Nat) (Option.none : Option FieldType) ∈ WS := List.mem_filter.mpr ⟨List.mem_append_right _ (List.mem_of_getElem? (i := 778) rfl), rfl⟩
set_option maxRecDepth 100000 in
theorem tw_779 : Cond.methodLink "CopyHeaps$Comparison" (29 : Nat) ({ cls := "CopyHeaps$Comparison", name := "push", desc := "(II)V" } : MethodName) ∈ WS := List.mem_filter.mpr ⟨List.mem_append_right _ (List.mem_of_getElem? (i := 779) rfl), rfl⟩
set_option maxRecDepth 100000 in
theorem tw_781 : Cond.instanceMethod ({ cls := "CopyHeaps$Comparison", name := "push", desc := "(II)V" } : MethodName) ∈ WS := List.mem_filter.mpr ⟨List.mem_append_right _ (List.mem_of_getElem? (i := 781) rfl), rfl⟩
set_option maxRecDepth 100000 in
theorem tw_782 : Cond.code ({ cls := "CopyHeaps$Comparison", name := "push", desc := "(II)V" } : MethodName) prog_3_method_7_code (3 : Nat) (Option.none : Option FieldType) ∈ WS := List.mem_filter.mpr ⟨List.mem_append_right _ (List.mem_of_getElem? (i := 782) rfl), rfl⟩
set_option maxRecDepth 100000 in
theorem tw_783 : Cond.methodLink "CopyHeaps" (219 : Nat) ({ cls := "CopyHeaps$Comparison", name := "findsAllAlike", desc := "()Z" } : MethodName) ∈ WS := List.mem_filter.mpr ⟨List.mem_append_right _ (List.mem_of_getElem? (i := 783) rfl), rfl⟩
set_option maxRecDepth 100000 in
theorem tw_784 : Cond.instanceMethod ({ cls := "CopyHeaps$Comparison", name := "findsAllAlike", desc := "()Z" } : MethodName) ∈ WS := List.mem_filter.mpr ⟨List.mem_append_right _ (List.mem_of_getElem? (i := 784) rfl), rfl⟩
set_option maxRecDepth 100000 in
theorem tw_785 : Cond.selects "CopyHeaps$Comparison" ({ cls := "CopyHeaps$Comparison", name := "findsAllAlike", desc := "()Z" } : MethodName) ({ cls := "CopyHeaps$Comparison", name := "findsAllAlike", desc := "()Z" } : MethodName) ∈ WS := List.mem_filter.mpr ⟨List.mem_append_right _ (List.mem_of_getElem? (i := 785) rfl), rfl⟩
set_option maxRecDepth 100000 in
theorem tw_786 : Cond.code ({ cls := "CopyHeaps$Comparison", name := "findsAllAlike", desc := "()Z" } : MethodName) prog_3_method_3_code (4 : Nat) (Option.some FieldType.boolean) ∈ WS := List.mem_filter.mpr ⟨List.mem_append_right _ (List.mem_of_getElem? (i := 786) rfl), rfl⟩
set_option maxRecDepth 100000 in
theorem tw_787 : Cond.methodLink "CopyHeaps$Comparison" (33 : Nat) ({ cls := "CopyHeaps$Comparison", name := "areAlike", desc := "(II)Z" } : MethodName) ∈ WS := List.mem_filter.mpr ⟨List.mem_append_right _ (List.mem_of_getElem? (i := 787) rfl), rfl⟩
set_option maxRecDepth 100000 in
theorem tw_789 : Cond.instanceMethod ({ cls := "CopyHeaps$Comparison", name := "areAlike", desc := "(II)Z" } : MethodName) ∈ WS := List.mem_filter.mpr ⟨List.mem_append_right _ (List.mem_of_getElem? (i := 789) rfl), rfl⟩
set_option maxRecDepth 100000 in
theorem tw_790 : Cond.code ({ cls := "CopyHeaps$Comparison", name := "areAlike", desc := "(II)Z" } : MethodName) prog_3_method_5_code (3 : Nat) (Option.some FieldType.boolean) ∈ WS := List.mem_filter.mpr ⟨List.mem_append_right _ (List.mem_of_getElem? (i := 790) rfl), rfl⟩
set_option maxRecDepth 100000 in
theorem tw_791 : Cond.methodLinkNest "CopyHeaps$Comparison" (40 : Nat) ({ cls := "CopyHeaps", name := "kindOf", desc := "(I)I" } : MethodName) "CopyHeaps" ∈ WS := List.mem_filter.mpr ⟨List.mem_append_right _ (List.mem_of_getElem? (i := 791) rfl), rfl⟩
set_option maxRecDepth 100000 in
theorem tw_792 : Cond.methodLink "CopyHeaps$Comparison" (44 : Nat) ({ cls := "CopyHeaps$Heap", name := "blobOf", desc := "(I)I" } : MethodName) ∈ WS := List.mem_filter.mpr ⟨List.mem_append_right _ (List.mem_of_getElem? (i := 792) rfl), rfl⟩
set_option maxRecDepth 100000 in
theorem tw_793 : Cond.methodLinkNest "CopyHeaps$Comparison" (49 : Nat) ({ cls := "CopyHeaps", name := "liesInHeap", desc := "(I)Z" } : MethodName) "CopyHeaps" ∈ WS := List.mem_filter.mpr ⟨List.mem_append_right _ (List.mem_of_getElem? (i := 793) rfl), rfl⟩
set_option maxRecDepth 100000 in
theorem tw_794 : Cond.methodLink "CopyHeaps$Comparison" (53 : Nat) ({ cls := "CopyHeaps$Heap", name := "partCount", desc := "(I)I" } : MethodName) ∈ WS := List.mem_filter.mpr ⟨List.mem_append_right _ (List.mem_of_getElem? (i := 794) rfl), rfl⟩
set_option maxRecDepth 100000 in
theorem tw_795 : Cond.methodLink "CopyHeaps$Comparison" (37 : Nat) ({ cls := "CopyHeaps$Comparison", name := "pushParts", desc := "(II)V" } : MethodName) ∈ WS := List.mem_filter.mpr ⟨List.mem_append_right _ (List.mem_of_getElem? (i := 795) rfl), rfl⟩
set_option maxRecDepth 100000 in
theorem tw_797 : Cond.instanceMethod ({ cls := "CopyHeaps$Comparison", name := "pushParts", desc := "(II)V" } : MethodName) ∈ WS := List.mem_filter.mpr ⟨List.mem_append_right _ (List.mem_of_getElem? (i := 797) rfl), rfl⟩
set_option maxRecDepth 100000 in
theorem tw_798 : Cond.code ({ cls := "CopyHeaps$Comparison", name := "pushParts", desc := "(II)V" } : MethodName) prog_3_method_6_code (4 : Nat) (Option.none : Option FieldType) ∈ WS := List.mem_filter.mpr ⟨List.mem_append_right _ (List.mem_of_getElem? (i := 798) rfl), rfl⟩
set_option maxRecDepth 100000 in
theorem tw_799 : Cond.methodLink "CopyHeaps$Comparison" (56 : Nat) ({ cls := "CopyHeaps$Heap", name := "partOf", desc := "(II)I" } : MethodName) ∈ WS := List.mem_filter.mpr ⟨List.mem_append_right _ (List.mem_of_getElem? (i := 799) rfl), rfl⟩
set_option maxRecDepth 100000 in
theorem tw_800 : Cond.methodLink "CopyHeaps" (222 : Nat) ({ cls := "CopyHeaps$Comparison", name := "isUnfinished", desc := "()Z" } : MethodName) ∈ WS := List.mem_filter.mpr ⟨List.mem_append_right _ (List.mem_of_getElem? (i := 800) rfl), rfl⟩
set_option maxRecDepth 100000 in
theorem tw_801 : Cond.instanceMethod ({ cls := "CopyHeaps$Comparison", name := "isUnfinished", desc := "()Z" } : MethodName) ∈ WS := List.mem_filter.mpr ⟨List.mem_append_right _ (List.mem_of_getElem? (i := 801) rfl), rfl⟩
set_option maxRecDepth 100000 in
theorem tw_802 : Cond.selects "CopyHeaps$Comparison" ({ cls := "CopyHeaps$Comparison", name := "isUnfinished", desc := "()Z" } : MethodName) ({ cls := "CopyHeaps$Comparison", name := "isUnfinished", desc := "()Z" } : MethodName) ∈ WS := List.mem_filter.mpr ⟨List.mem_append_right _ (List.mem_of_getElem? (i := 802) rfl), rfl⟩
set_option maxRecDepth 100000 in
theorem tw_803 : Cond.code ({ cls := "CopyHeaps$Comparison", name := "isUnfinished", desc := "()Z" } : MethodName) prog_3_method_4_code (1 : Nat) (Option.some FieldType.boolean) ∈ WS := List.mem_filter.mpr ⟨List.mem_append_right _ (List.mem_of_getElem? (i := 803) rfl), rfl⟩
set_option maxRecDepth 100000 in
theorem tw_804 : Cond.classLink "CopyHeapsLaw" (103 : Nat) "CopyHeapsModel" ∈ WS := List.mem_filter.mpr ⟨List.mem_append_right _ (List.mem_of_getElem? (i := 804) rfl), rfl⟩
set_option maxRecDepth 100000 in
theorem tw_805 : Cond.instantiable "CopyHeapsModel" (23 : Nat) ∈ WS := List.mem_filter.mpr ⟨List.mem_append_right _ (List.mem_of_getElem? (i := 805) rfl), rfl⟩
set_option maxRecDepth 100000 in
theorem tw_806 : Cond.methodLink "CopyHeapsLaw" (105 : Nat) ({ cls := "CopyHeapsModel", name := "<init>", desc := "(I)V" } : MethodName) ∈ WS := List.mem_filter.mpr ⟨List.mem_append_right _ (List.mem_of_getElem? (i := 806) rfl), rfl⟩
set_option maxRecDepth 100000 in
theorem tw_807 : Cond.instanceMethod ({ cls := "CopyHeapsModel", name := "<init>", desc := "(I)V" } : MethodName) ∈ WS := List.mem_filter.mpr ⟨List.mem_append_right _ (List.mem_of_getElem? (i := 807) rfl), rfl⟩
set_option maxRecDepth 100000 in
theorem tw_808 : Cond.code ({ cls := "CopyHeapsModel", name := "<init>", desc := "(I)V" } : MethodName) prog_9_method_1_code (2 : Nat) (Option.none : Option FieldType) ∈ WS := List.mem_filter.mpr ⟨List.mem_append_right _ (List.mem_of_getElem? (i := 808) rfl), rfl⟩
set_option maxRecDepth 100000 in
theorem tw_809 : Cond.methodLink "CopyHeapsModel" (1 : Nat) ({ cls := "java/lang/Object", name := "<init>", desc := "()V" } : MethodName) ∈ WS := List.mem_filter.mpr ⟨List.mem_append_right _ (List.mem_of_getElem? (i := 809) rfl), rfl⟩
set_option maxRecDepth 100000 in
theorem tw_810 : Cond.fieldLink "CopyHeapsModel" (62 : Nat) "CopyHeapsModel" "thrown" "I" ∈ WS := List.mem_filter.mpr ⟨List.mem_append_right _ (List.mem_of_getElem? (i := 810) rfl), rfl⟩
set_option maxRecDepth 100000 in
theorem tw_811 : Cond.fieldLink "CopyHeapsModel" (58 : Nat) "CopyHeapsModel" "pool" "I" ∈ WS := List.mem_filter.mpr ⟨List.mem_append_right _ (List.mem_of_getElem? (i := 811) rfl), rfl⟩
set_option maxRecDepth 100000 in
theorem tw_812 : Cond.fieldLink "CopyHeapsModel" (117 : Nat) "CopyHeapsModel" "latest" "I" ∈ WS := List.mem_filter.mpr ⟨List.mem_append_right _ (List.mem_of_getElem? (i := 812) rfl), rfl⟩
set_option maxRecDepth 100000 in
theorem tw_813 : Cond.fieldLink "CopyHeapsModel" (114 : Nat) "CopyHeapsModel" "alive" "I" ∈ WS := List.mem_filter.mpr ⟨List.mem_append_right _ (List.mem_of_getElem? (i := 813) rfl), rfl⟩
set_option maxRecDepth 100000 in
theorem tw_814 : Cond.fieldLink "CopyHeapsModel" (93 : Nat) "CopyHeapsModel" "collections" "I" ∈ WS := List.mem_filter.mpr ⟨List.mem_append_right _ (List.mem_of_getElem? (i := 814) rfl), rfl⟩
set_option maxRecDepth 100000 in
theorem tw_815 : Cond.fieldLink "CopyHeapsModel" (7 : Nat) "CopyHeapsModel" "numbers" "[I" ∈ WS := List.mem_filter.mpr ⟨List.mem_append_right _ (List.mem_of_getElem? (i := 815) rfl), rfl⟩
set_option maxRecDepth 100000 in
theorem tw_816 : Cond.fieldLink "CopyHeapsModel" (13 : Nat) "CopyHeapsModel" "capacities" "[I" ∈ WS := List.mem_filter.mpr ⟨List.mem_append_right _ (List.mem_of_getElem? (i := 816) rfl), rfl⟩
set_option maxRecDepth 100000 in
theorem tw_817 : Cond.fieldLink "CopyHeapsModel" (16 : Nat) "CopyHeapsModel" "used" "[I" ∈ WS := List.mem_filter.mpr ⟨List.mem_append_right _ (List.mem_of_getElem? (i := 817) rfl), rfl⟩
set_option maxRecDepth 100000 in
theorem tw_818 : Cond.fieldLink "CopyHeapsModel" (19 : Nat) "CopyHeapsModel" "registers" "[I" ∈ WS := List.mem_filter.mpr ⟨List.mem_append_right _ (List.mem_of_getElem? (i := 818) rfl), rfl⟩
set_option maxRecDepth 100000 in
theorem tw_819 : Cond.fieldLink "CopyHeapsModel" (22 : Nat) "CopyHeapsModel" "mail" "[I" ∈ WS := List.mem_filter.mpr ⟨List.mem_append_right _ (List.mem_of_getElem? (i := 819) rfl), rfl⟩
set_option maxRecDepth 100000 in
theorem tw_820 : Cond.fieldLink "CopyHeapsModel" (25 : Nat) "CopyHeapsModel" "messages" "[I" ∈ WS := List.mem_filter.mpr ⟨List.mem_append_right _ (List.mem_of_getElem? (i := 820) rfl), rfl⟩
set_option maxRecDepth 100000 in
theorem tw_821 : Cond.fieldLink "CopyHeapsModel" (28 : Nat) "CopyHeapsModel" "words" "[I" ∈ WS := List.mem_filter.mpr ⟨List.mem_append_right _ (List.mem_of_getElem? (i := 821) rfl), rfl⟩
set_option maxRecDepth 100000 in
theorem tw_822 : Cond.fieldLink "CopyHeapsModel" (31 : Nat) "CopyHeapsModel" "begins" "[I" ∈ WS := List.mem_filter.mpr ⟨List.mem_append_right _ (List.mem_of_getElem? (i := 822) rfl), rfl⟩
set_option maxRecDepth 100000 in
theorem tw_823 : Cond.fieldLink "CopyHeapsModel" (65 : Nat) "CopyHeapsModel" "blobs" "I" ∈ WS := List.mem_filter.mpr ⟨List.mem_append_right _ (List.mem_of_getElem? (i := 823) rfl), rfl⟩
set_option maxRecDepth 100000 in
theorem tw_824 : Cond.fieldLink "CopyHeapsModel" (34 : Nat) "CopyHeapsModel" "sizes" "[I" ∈ WS := List.mem_filter.mpr ⟨List.mem_append_right _ (List.mem_of_getElem? (i := 824) rfl), rfl⟩
set_option maxRecDepth 100000 in
theorem tw_825 : Cond.fieldLink "CopyHeapsModel" (37 : Nat) "CopyHeapsModel" "counts" "[I" ∈ WS := List.mem_filter.mpr ⟨List.mem_append_right _ (List.mem_of_getElem? (i := 825) rfl), rfl⟩
set_option maxRecDepth 100000 in
theorem tw_826 : Cond.fieldLink "CopyHeapsModel" (79 : Nat) "CopyHeapsModel" "end" "I" ∈ WS := List.mem_filter.mpr ⟨List.mem_append_right _ (List.mem_of_getElem? (i := 826) rfl), rfl⟩
set_option maxRecDepth 100000 in
theorem tw_827 : Cond.fieldLink "CopyHeapsModel" (40 : Nat) "CopyHeapsModel" "fresh" "[I" ∈ WS := List.mem_filter.mpr ⟨List.mem_append_right _ (List.mem_of_getElem? (i := 827) rfl), rfl⟩
set_option maxRecDepth 100000 in
theorem tw_828 : Cond.fieldLink "CopyHeapsModel" (43 : Nat) "CopyHeapsModel" "kinds" "[I" ∈ WS := List.mem_filter.mpr ⟨List.mem_append_right _ (List.mem_of_getElem? (i := 828) rfl), rfl⟩
set_option maxRecDepth 100000 in
theorem tw_829 : Cond.fieldLink "CopyHeapsModel" (46 : Nat) "CopyHeapsModel" "moved" "[I" ∈ WS := List.mem_filter.mpr ⟨List.mem_append_right _ (List.mem_of_getElem? (i := 829) rfl), rfl⟩
set_option maxRecDepth 100000 in
theorem tw_830 : Cond.fieldLink "CopyHeapsModel" (49 : Nat) "CopyHeapsModel" "ones" "[I" ∈ WS := List.mem_filter.mpr ⟨List.mem_append_right _ (List.mem_of_getElem? (i := 830) rfl), rfl⟩
set_option maxRecDepth 100000 in
theorem tw_831 : Cond.fieldLink "CopyHeapsModel" (52 : Nat) "CopyHeapsModel" "others" "[I" ∈ WS := List.mem_filter.mpr ⟨List.mem_append_right _ (List.mem_of_getElem? (i := 831) rfl), rfl⟩
set_option maxRecDepth 100000 in
theorem tw_832 : Cond.fieldLink "CopyHeapsModel" (55 : Nat) "CopyHeapsModel" "nexts" "[I" ∈ WS := List.mem_filter.mpr ⟨List.mem_append_right _ (List.mem_of_getElem? (i := 832) rfl), rfl⟩
set_option maxRecDepth 100000 in
theorem tw_833 : Cond.lays "CopyHeapsModel" "CopyHeapsModel" "thrown" "I" ∈ WS := List.mem_filter.mpr ⟨List.mem_append_right _ (List.mem_of_getElem? (i := 833) rfl), rfl⟩
set_option maxRecDepth 100000 in
theorem tw_835 : Cond.lays "CopyHeapsModel" "CopyHeapsModel" "pool" "I" ∈ WS := List.mem_filter.mpr ⟨List.mem_append_right _ (List.mem_of_getElem? (i := 835) rfl), rfl⟩
set_option maxRecDepth 100000 in
theorem tw_837 : Cond.lays "CopyHeapsModel" "CopyHeapsModel" "latest" "I" ∈ WS := List.mem_filter.mpr ⟨List.mem_append_right _ (List.mem_of_getElem? (i := 837) rfl), rfl⟩
set_option maxRecDepth 100000 in
theorem tw_839 : Cond.lays "CopyHeapsModel" "CopyHeapsModel" "alive" "I" ∈ WS := List.mem_filter.mpr ⟨List.mem_append_right _ (List.mem_of_getElem? (i := 839) rfl), rfl⟩
set_option maxRecDepth 100000 in
theorem tw_841 : Cond.lays "CopyHeapsModel" "CopyHeapsModel" "collections" "I" ∈ WS := List.mem_filter.mpr ⟨List.mem_append_right _ (List.mem_of_getElem? (i := 841) rfl), rfl⟩
set_option maxRecDepth 100000 in
theorem tw_843 : Cond.lays "CopyHeapsModel" "CopyHeapsModel" "numbers" "[I" ∈ WS := List.mem_filter.mpr ⟨List.mem_append_right _ (List.mem_of_getElem? (i := 843) rfl), rfl⟩
set_option maxRecDepth 100000 in
theorem tw_845 : Cond.lays "CopyHeapsModel" "CopyHeapsModel" "capacities" "[I" ∈ WS := List.mem_filter.mpr ⟨List.mem_append_right _ (List.mem_of_getElem? (i := 845) rfl), rfl⟩
set_option maxRecDepth 100000 in
theorem tw_847 : Cond.lays "CopyHeapsModel" "CopyHeapsModel" "used" "[I" ∈ WS := List.mem_filter.mpr ⟨List.mem_append_right _ (List.mem_of_getElem? (i := 847) rfl), rfl⟩
set_option maxRecDepth 100000 in
theorem tw_849 : Cond.lays "CopyHeapsModel" "CopyHeapsModel" "registers" "[I" ∈ WS := List.mem_filter.mpr ⟨List.mem_append_right _ (List.mem_of_getElem? (i := 849) rfl), rfl⟩
set_option maxRecDepth 100000 in
theorem tw_851 : Cond.lays "CopyHeapsModel" "CopyHeapsModel" "mail" "[I" ∈ WS := List.mem_filter.mpr ⟨List.mem_append_right _ (List.mem_of_getElem? (i := 851) rfl), rfl⟩
set_option maxRecDepth 100000 in
theorem tw_853 : Cond.lays "CopyHeapsModel" "CopyHeapsModel" "messages" "[I" ∈ WS := List.mem_filter.mpr ⟨List.mem_append_right _ (List.mem_of_getElem? (i := 853) rfl), rfl⟩
set_option maxRecDepth 100000 in
theorem tw_855 : Cond.lays "CopyHeapsModel" "CopyHeapsModel" "words" "[I" ∈ WS := List.mem_filter.mpr ⟨List.mem_append_right _ (List.mem_of_getElem? (i := 855) rfl), rfl⟩
set_option maxRecDepth 100000 in
theorem tw_857 : Cond.lays "CopyHeapsModel" "CopyHeapsModel" "begins" "[I" ∈ WS := List.mem_filter.mpr ⟨List.mem_append_right _ (List.mem_of_getElem? (i := 857) rfl), rfl⟩
set_option maxRecDepth 100000 in
theorem tw_859 : Cond.lays "CopyHeapsModel" "CopyHeapsModel" "blobs" "I" ∈ WS := List.mem_filter.mpr ⟨List.mem_append_right _ (List.mem_of_getElem? (i := 859) rfl), rfl⟩
set_option maxRecDepth 100000 in
theorem tw_861 : Cond.lays "CopyHeapsModel" "CopyHeapsModel" "sizes" "[I" ∈ WS := List.mem_filter.mpr ⟨List.mem_append_right _ (List.mem_of_getElem? (i := 861) rfl), rfl⟩
set_option maxRecDepth 100000 in
theorem tw_863 : Cond.lays "CopyHeapsModel" "CopyHeapsModel" "counts" "[I" ∈ WS := List.mem_filter.mpr ⟨List.mem_append_right _ (List.mem_of_getElem? (i := 863) rfl), rfl⟩
set_option maxRecDepth 100000 in
theorem tw_865 : Cond.lays "CopyHeapsModel" "CopyHeapsModel" "end" "I" ∈ WS := List.mem_filter.mpr ⟨List.mem_append_right _ (List.mem_of_getElem? (i := 865) rfl), rfl⟩
set_option maxRecDepth 100000 in
theorem tw_867 : Cond.lays "CopyHeapsModel" "CopyHeapsModel" "fresh" "[I" ∈ WS := List.mem_filter.mpr ⟨List.mem_append_right _ (List.mem_of_getElem? (i := 867) rfl), rfl⟩
set_option maxRecDepth 100000 in
theorem tw_869 : Cond.lays "CopyHeapsModel" "CopyHeapsModel" "kinds" "[I" ∈ WS := List.mem_filter.mpr ⟨List.mem_append_right _ (List.mem_of_getElem? (i := 869) rfl), rfl⟩
set_option maxRecDepth 100000 in
theorem tw_871 : Cond.lays "CopyHeapsModel" "CopyHeapsModel" "moved" "[I" ∈ WS := List.mem_filter.mpr ⟨List.mem_append_right _ (List.mem_of_getElem? (i := 871) rfl), rfl⟩
set_option maxRecDepth 100000 in
theorem tw_873 : Cond.lays "CopyHeapsModel" "CopyHeapsModel" "ones" "[I" ∈ WS := List.mem_filter.mpr ⟨List.mem_append_right _ (List.mem_of_getElem? (i := 873) rfl), rfl⟩
set_option maxRecDepth 100000 in
theorem tw_875 : Cond.lays "CopyHeapsModel" "CopyHeapsModel" "others" "[I" ∈ WS := List.mem_filter.mpr ⟨List.mem_append_right _ (List.mem_of_getElem? (i := 875) rfl), rfl⟩
set_option maxRecDepth 100000 in
theorem tw_877 : Cond.lays "CopyHeapsModel" "CopyHeapsModel" "nexts" "[I" ∈ WS := List.mem_filter.mpr ⟨List.mem_append_right _ (List.mem_of_getElem? (i := 877) rfl), rfl⟩
set_option maxRecDepth 100000 in
theorem tw_880 : Cond.methodLink "CopyHeapsLaw" (110 : Nat) ({ cls := "CopyHeapsModel", name := "thrown", desc := "()I" } : MethodName) ∈ WS := List.mem_filter.mpr ⟨List.mem_append_right _ (List.mem_of_getElem? (i := 880) rfl), rfl⟩
set_option maxRecDepth 100000 in
theorem tw_881 : Cond.instanceMethod ({ cls := "CopyHeapsModel", name := "thrown", desc := "()I" } : MethodName) ∈ WS := List.mem_filter.mpr ⟨List.mem_append_right _ (List.mem_of_getElem? (i := 881) rfl), rfl⟩
set_option maxRecDepth 100000 in
theorem tw_882 : Cond.selects "CopyHeapsModel" ({ cls := "CopyHeapsModel", name := "thrown", desc := "()I" } : MethodName) ({ cls := "CopyHeapsModel", name := "thrown", desc := "()I" } : MethodName) ∈ WS := List.mem_filter.mpr ⟨List.mem_append_right _ (List.mem_of_getElem? (i := 882) rfl), rfl⟩
set_option maxRecDepth 100000 in
theorem tw_883 : Cond.code ({ cls := "CopyHeapsModel", name := "thrown", desc := "()I" } : MethodName) prog_9_method_2_code (1 : Nat) (Option.some FieldType.int) ∈ WS := List.mem_filter.mpr ⟨List.mem_append_right _ (List.mem_of_getElem? (i := 883) rfl), rfl⟩
set_option maxRecDepth 100000 in
theorem tw_884 : Cond.methodLink "CopyHeapsLaw" (109 : Nat) ({ cls := "CopyHeapsModel", name := "spawn", desc := "()I" } : MethodName) ∈ WS := List.mem_filter.mpr ⟨List.mem_append_right _ (List.mem_of_getElem? (i := 884) rfl), rfl⟩
set_option maxRecDepth 100000 in
theorem tw_885 : Cond.instanceMethod ({ cls := "CopyHeapsModel", name := "spawn", desc := "()I" } : MethodName) ∈ WS := List.mem_filter.mpr ⟨List.mem_append_right _ (List.mem_of_getElem? (i := 885) rfl), rfl⟩
set_option maxRecDepth 100000 in
theorem tw_886 : Cond.selects "CopyHeapsModel" ({ cls := "CopyHeapsModel", name := "spawn", desc := "()I" } : MethodName) ({ cls := "CopyHeapsModel", name := "spawn", desc := "()I" } : MethodName) ∈ WS := List.mem_filter.mpr ⟨List.mem_append_right _ (List.mem_of_getElem? (i := 886) rfl), rfl⟩
set_option maxRecDepth 100000 in
theorem tw_887 : Cond.code ({ cls := "CopyHeapsModel", name := "spawn", desc := "()I" } : MethodName) prog_9_method_19_code (3 : Nat) (Option.some FieldType.int) ∈ WS := List.mem_filter.mpr ⟨List.mem_append_right _ (List.mem_of_getElem? (i := 887) rfl), rfl⟩
set_option maxRecDepth 100000 in
theorem tw_888 : Cond.methodLink "CopyHeapsModel" (110 : Nat) ({ cls := "CopyHeapsModel", name := "free", desc := "()I" } : MethodName) ∈ WS := List.mem_filter.mpr ⟨List.mem_append_right _ (List.mem_of_getElem? (i := 888) rfl), rfl⟩
set_option maxRecDepth 100000 in
theorem tw_890 : Cond.instanceMethod ({ cls := "CopyHeapsModel", name := "free", desc := "()I" } : MethodName) ∈ WS := List.mem_filter.mpr ⟨List.mem_append_right _ (List.mem_of_getElem? (i := 890) rfl), rfl⟩
set_option maxRecDepth 100000 in
theorem tw_891 : Cond.code ({ cls := "CopyHeapsModel", name := "free", desc := "()I" } : MethodName) prog_9_method_3_code (3 : Nat) (Option.some FieldType.int) ∈ WS := List.mem_filter.mpr ⟨List.mem_append_right _ (List.mem_of_getElem? (i := 891) rfl), rfl⟩
set_option maxRecDepth 100000 in
theorem tw_892 : Cond.methodLink "CopyHeapsLaw" (116 : Nat) ({ cls := "CopyHeapsModel", name := "exit", desc := "(I)I" } : MethodName) ∈ WS := List.mem_filter.mpr ⟨List.mem_append_right _ (List.mem_of_getElem? (i := 892) rfl), rfl⟩
set_option maxRecDepth 100000 in
theorem tw_893 : Cond.instanceMethod ({ cls := "CopyHeapsModel", name := "exit", desc := "(I)I" } : MethodName) ∈ WS := List.mem_filter.mpr ⟨List.mem_append_right _ (List.mem_of_getElem? (i := 893) rfl), rfl⟩
set_option maxRecDepth 100000 in
theorem tw_894 : Cond.selects "CopyHeapsModel" ({ cls := "CopyHeapsModel", name := "exit", desc := "(I)I" } : MethodName) ({ cls := "CopyHeapsModel", name := "exit", desc := "(I)I" } : MethodName) ∈ WS := List.mem_filter.mpr ⟨List.mem_append_right _ (List.mem_of_getElem? (i := 894) rfl), rfl⟩
set_option maxRecDepth 100000 in
theorem tw_895 : Cond.code ({ cls := "CopyHeapsModel", name := "exit", desc := "(I)I" } : MethodName) prog_9_method_20_code (5 : Nat) (Option.some FieldType.int) ∈ WS := List.mem_filter.mpr ⟨List.mem_append_right _ (List.mem_of_getElem? (i := 895) rfl), rfl⟩
set_option maxRecDepth 100000 in
theorem tw_896 : Cond.methodLink "CopyHeapsModel" (120 : Nat) ({ cls := "CopyHeapsModel", name := "placeOf", desc := "(I)I" } : MethodName) ∈ WS := List.mem_filter.mpr ⟨List.mem_append_right _ (List.mem_of_getElem? (i := 896) rfl), rfl⟩
set_option maxRecDepth 100000 in
theorem tw_898 : Cond.instanceMethod ({ cls := "CopyHeapsModel", name := "placeOf", desc := "(I)I" } : MethodName) ∈ WS := List.mem_filter.mpr ⟨List.mem_append_right _ (List.mem_of_getElem? (i := 898) rfl), rfl⟩
set_option maxRecDepth 100000 in
theorem tw_899 : Cond.code ({ cls := "CopyHeapsModel", name := "placeOf", desc := "(I)I" } : MethodName) prog_9_method_4_code (3 : Nat) (Option.some FieldType.int) ∈ WS := List.mem_filter.mpr ⟨List.mem_append_right _ (List.mem_of_getElem? (i := 899) rfl), rfl⟩
set_option maxRecDepth 100000 in
theorem tw_900 : Cond.methodLink "CopyHeapsModel" (103 : Nat) ({ cls := "CopyHeapsModel", name := "release", desc := "(I)V" } : MethodName) ∈ WS := List.mem_filter.mpr ⟨List.mem_append_right _ (List.mem_of_getElem? (i := 900) rfl), rfl⟩
set_option maxRecDepth 100000 in
theorem tw_902 : Cond.instanceMethod ({ cls := "CopyHeapsModel", name := "release", desc := "(I)V" } : MethodName) ∈ WS := List.mem_filter.mpr ⟨List.mem_append_right _ (List.mem_of_getElem? (i := 902) rfl), rfl⟩
set_option maxRecDepth 100000 in
theorem tw_903 : Cond.code ({ cls := "CopyHeapsModel", name := "release", desc := "(I)V" } : MethodName) prog_9_method_6_code (2 : Nat) (Option.none : Option FieldType) ∈ WS := List.mem_filter.mpr ⟨List.mem_append_right _ (List.mem_of_getElem? (i := 903) rfl), rfl⟩
set_option maxRecDepth 100000 in
theorem tw_904 : Cond.methodLink "CopyHeapsLaw" (120 : Nat) ({ cls := "CopyHeapsModel", name := "nil", desc := "(II)V" } : MethodName) ∈ WS := List.mem_filter.mpr ⟨List.mem_append_right _ (List.mem_of_getElem? (i := 904) rfl), rfl⟩
set_option maxRecDepth 100000 in
theorem tw_905 : Cond.instanceMethod ({ cls := "CopyHeapsModel", name := "nil", desc := "(II)V" } : MethodName) ∈ WS := List.mem_filter.mpr ⟨List.mem_append_right _ (List.mem_of_getElem? (i := 905) rfl), rfl⟩
set_option maxRecDepth 100000 in
theorem tw_906 : Cond.selects "CopyHeapsModel" ({ cls := "CopyHeapsModel", name := "nil", desc := "(II)V" } : MethodName) ({ cls := "CopyHeapsModel", name := "nil", desc := "(II)V" } : MethodName) ∈ WS := List.mem_filter.mpr ⟨List.mem_append_right _ (List.mem_of_getElem? (i := 906) rfl), rfl⟩
set_option maxRecDepth 100000 in
theorem tw_907 : Cond.code ({ cls := "CopyHeapsModel", name := "nil", desc := "(II)V" } : MethodName) prog_9_method_21_code (4 : Nat) (Option.none : Option FieldType) ∈ WS := List.mem_filter.mpr ⟨List.mem_append_right _ (List.mem_of_getElem? (i := 907) rfl), rfl⟩
set_option maxRecDepth 100000 in
theorem tw_908 : Cond.methodLink "CopyHeapsModel" (123 : Nat) ({ cls := "CopyHeapsModel", name := "noRegister", desc := "(I)Z" } : MethodName) ∈ WS := List.mem_filter.mpr ⟨List.mem_append_right _ (List.mem_of_getElem? (i := 908) rfl), rfl⟩
set_option maxRecDepth 100000 in
theorem tw_910 : Cond.instanceMethod ({ cls := "CopyHeapsModel", name := "noRegister", desc := "(I)Z" } : MethodName) ∈ WS := List.mem_filter.mpr ⟨List.mem_append_right _ (List.mem_of_getElem? (i := 910) rfl), rfl⟩
set_option maxRecDepth 100000 in
theorem tw_911 : Cond.code ({ cls := "CopyHeapsModel", name := "noRegister", desc := "(I)Z" } : MethodName) prog_9_method_5_code (2 : Nat) (Option.some FieldType.boolean) ∈ WS := List.mem_filter.mpr ⟨List.mem_append_right _ (List.mem_of_getElem? (i := 911) rfl), rfl⟩
set_option maxRecDepth 100000 in
theorem tw_912 : Cond.methodLink "CopyHeapsLaw" (124 : Nat) ({ cls := "CopyHeapsModel", name := "integer", desc := "(III)V" } : MethodName) ∈ WS := List.mem_filter.mpr ⟨List.mem_append_right _ (List.mem_of_getElem? (i := 912) rfl), rfl⟩
set_option maxRecDepth 100000 in
theorem tw_913 : Cond.instanceMethod ({ cls := "CopyHeapsModel", name := "integer", desc := "(III)V" } : MethodName) ∈ WS := List.mem_filter.mpr ⟨List.mem_append_right _ (List.mem_of_getElem? (i := 913) rfl), rfl⟩
set_option maxRecDepth 100000 in
theorem tw_914 : Cond.selects "CopyHeapsModel" ({ cls := "CopyHeapsModel", name := "integer", desc := "(III)V" } : MethodName) ({ cls := "CopyHeapsModel", name := "integer", desc := "(III)V" } : MethodName) ∈ WS := List.mem_filter.mpr ⟨List.mem_append_right _ (List.mem_of_getElem? (i := 914) rfl), rfl⟩
set_option maxRecDepth 100000 in
theorem tw_915 : Cond.code ({ cls := "CopyHeapsModel", name := "integer", desc := "(III)V" } : MethodName) prog_9_method_22_code (5 : Nat) (Option.none : Option FieldType) ∈ WS := List.mem_filter.mpr ⟨List.mem_append_right _ (List.mem_of_getElem? (i := 915) rfl), rfl⟩
set_option maxRecDepth 100000 in
theorem tw_916 : Cond.constant "CopyHeapsModel" (126 : Nat) (-134217728 : Int32) ∈ WS := List.mem_filter.mpr ⟨List.mem_append_right _ (List.mem_of_getElem? (i := 916) rfl), rfl⟩
set_option maxRecDepth 100000 in
theorem tw_917 : Cond.constant "CopyHeapsModel" (127 : Nat) (134217727 : Int32) ∈ WS := List.mem_filter.mpr ⟨List.mem_append_right _ (List.mem_of_getElem? (i := 917) rfl), rfl⟩
set_option maxRecDepth 100000 in
theorem tw_918 : Cond.methodLink "CopyHeapsLaw" (127 : Nat) ({ cls := "CopyHeapsModel", name := "name", desc := "(III)V" } : MethodName) ∈ WS := List.mem_filter.mpr ⟨List.mem_append_right _ (List.mem_of_getElem? (i := 918) rfl), rfl⟩
set_option maxRecDepth 100000 in
theorem tw_919 : Cond.instanceMethod ({ cls := "CopyHeapsModel", name := "name", desc := "(III)V" } : MethodName) ∈ WS := List.mem_filter.mpr ⟨List.mem_append_right _ (List.mem_of_getElem? (i := 919) rfl), rfl⟩
set_option maxRecDepth 100000 in
theorem tw_920 : Cond.selects "CopyHeapsModel" ({ cls := "CopyHeapsModel", name := "name", desc := "(III)V" } : MethodName) ({ cls := "CopyHeapsModel", name := "name", desc := "(III)V" } : MethodName) ∈ WS := List.mem_filter.mpr ⟨List.mem_append_right _ (List.mem_of_getElem? (i := 920) rfl), rfl⟩
set_option maxRecDepth 100000 in
theorem tw_921 : Cond.code ({ cls := "CopyHeapsModel", name := "name", desc := "(III)V" } : MethodName) prog_9_method_23_code (5 : Nat) (Option.none : Option FieldType) ∈ WS := List.mem_filter.mpr ⟨List.mem_append_right _ (List.mem_of_getElem? (i := 921) rfl), rfl⟩
set_option maxRecDepth 100000 in
theorem tw_922 : Cond.methodLink "CopyHeapsLaw" (130 : Nat) ({ cls := "CopyHeapsModel", name := "move", desc := "(III)V" } : MethodName) ∈ WS := List.mem_filter.mpr ⟨List.mem_append_right _ (List.mem_of_getElem? (i := 922) rfl), rfl⟩
set_option maxRecDepth 100000 in
theorem tw_923 : Cond.instanceMethod ({ cls := "CopyHeapsModel", name := "move", desc := "(III)V" } : MethodName) ∈ WS := List.mem_filter.mpr ⟨List.mem_append_right _ (List.mem_of_getElem? (i := 923) rfl), rfl⟩
set_option maxRecDepth 100000 in
theorem tw_924 : Cond.selects "CopyHeapsModel" ({ cls := "CopyHeapsModel", name := "move", desc := "(III)V" } : MethodName) ({ cls := "CopyHeapsModel", name := "move", desc := "(III)V" } : MethodName) ∈ WS := List.mem_filter.mpr ⟨List.mem_append_right _ (List.mem_of_getElem? (i := 924) rfl), rfl⟩
set_option maxRecDepth 100000 in
theorem tw_925 : Cond.code ({ cls := "CopyHeapsModel", name := "move", desc := "(III)V" } : MethodName) prog_9_method_24_code (5 : Nat) (Option.none : Option FieldType) ∈ WS := List.mem_filter.mpr ⟨List.mem_append_right _ (List.mem_of_getElem? (i := 925) rfl), rfl⟩
set_option maxRecDepth 100000 in
theorem tw_926 : Cond.methodLink "CopyHeapsLaw" (134 : Nat) ({ cls := "CopyHeapsModel", name := "pair", desc := "(IIII)V" } : MethodName) ∈ WS := List.mem_filter.mpr ⟨List.mem_append_right _ (List.mem_of_getElem? (i := 926) rfl), rfl⟩
set_option maxRecDepth 100000 in
theorem tw_927 : Cond.instanceMethod ({ cls := "CopyHeapsModel", name := "pair", desc := "(IIII)V" } : MethodName) ∈ WS := List.mem_filter.mpr ⟨List.mem_append_right _ (List.mem_of_getElem? (i := 927) rfl), rfl⟩
set_option maxRecDepth 100000 in
theorem tw_928 : Cond.selects "CopyHeapsModel" ({ cls := "CopyHeapsModel", name := "pair", desc := "(IIII)V" } : MethodName) ({ cls := "CopyHeapsModel", name := "pair", desc := "(IIII)V" } : MethodName) ∈ WS := List.mem_filter.mpr ⟨List.mem_append_right _ (List.mem_of_getElem? (i := 928) rfl), rfl⟩
set_option maxRecDepth 100000 in
theorem tw_929 : Cond.code ({ cls := "CopyHeapsModel", name := "pair", desc := "(IIII)V" } : MethodName) prog_9_method_26_code (7 : Nat) (Option.none : Option FieldType) ∈ WS := List.mem_filter.mpr ⟨List.mem_append_right _ (List.mem_of_getElem? (i := 929) rfl), rfl⟩
set_option maxRecDepth 100000 in
theorem tw_930 : Cond.methodLink "CopyHeapsModel" (128 : Nat) ({ cls := "CopyHeapsModel", name := "room", desc := "(II)Z" } : MethodName) ∈ WS := List.mem_filter.mpr ⟨List.mem_append_right _ (List.mem_of_getElem? (i := 930) rfl), rfl⟩
set_option maxRecDepth 100000 in
theorem tw_932 : Cond.instanceMethod ({ cls := "CopyHeapsModel", name := "room", desc := "(II)Z" } : MethodName) ∈ WS := List.mem_filter.mpr ⟨List.mem_append_right _ (List.mem_of_getElem? (i := 932) rfl), rfl⟩
set_option maxRecDepth 100000 in
theorem tw_933 : Cond.code ({ cls := "CopyHeapsModel", name := "room", desc := "(II)Z" } : MethodName) prog_9_method_17_code (4 : Nat) (Option.some FieldType.boolean) ∈ WS := List.mem_filter.mpr ⟨List.mem_append_right _ (List.mem_of_getElem? (i := 933) rfl), rfl⟩
set_option maxRecDepth 100000 in
theorem tw_934 : Cond.methodLink "CopyHeapsModel" (107 : Nat) ({ cls := "CopyHeapsModel", name := "gather", desc := "(I)V" } : MethodName) ∈ WS := List.mem_filter.mpr ⟨List.mem_append_right _ (List.mem_of_getElem? (i := 934) rfl), rfl⟩
set_option maxRecDepth 100000 in
theorem tw_936 : Cond.instanceMethod ({ cls := "CopyHeapsModel", name := "gather", desc := "(I)V" } : MethodName) ∈ WS := List.mem_filter.mpr ⟨List.mem_append_right _ (List.mem_of_getElem? (i := 936) rfl), rfl⟩
set_option maxRecDepth 100000 in
theorem tw_937 : Cond.code ({ cls := "CopyHeapsModel", name := "gather", desc := "(I)V" } : MethodName) prog_9_method_16_code (3 : Nat) (Option.none : Option FieldType) ∈ WS := List.mem_filter.mpr ⟨List.mem_append_right _ (List.mem_of_getElem? (i := 937) rfl), rfl⟩
set_option maxRecDepth 100000 in
theorem tw_938 : Cond.methodLink "CopyHeapsModel" (96 : Nat) ({ cls := "CopyHeapsModel", name := "begin", desc := "()V" } : MethodName) ∈ WS := List.mem_filter.mpr ⟨List.mem_append_right _ (List.mem_of_getElem? (i := 938) rfl), rfl⟩
set_option maxRecDepth 100000 in
theorem tw_940 : Cond.instanceMethod ({ cls := "CopyHeapsModel", name := "begin", desc := "()V" } : MethodName) ∈ WS := List.mem_filter.mpr ⟨List.mem_append_right _ (List.mem_of_getElem? (i := 940) rfl), rfl⟩
set_option maxRecDepth 100000 in
theorem tw_941 : Cond.code ({ cls := "CopyHeapsModel", name := "begin", desc := "()V" } : MethodName) prog_9_method_13_code (2 : Nat) (Option.none : Option FieldType) ∈ WS := List.mem_filter.mpr ⟨List.mem_append_right _ (List.mem_of_getElem? (i := 941) rfl), rfl⟩
set_option maxRecDepth 100000 in
theorem tw_942 : Cond.methodLink "CopyHeapsModel" (89 : Nat) ({ cls := "CopyHeapsModel", name := "put", desc := "(III)I" } : MethodName) ∈ WS := List.mem_filter.mpr ⟨List.mem_append_right _ (List.mem_of_getElem? (i := 942) rfl), rfl⟩
set_option maxRecDepth 100000 in
theorem tw_944 : Cond.instanceMethod ({ cls := "CopyHeapsModel", name := "put", desc := "(III)I" } : MethodName) ∈ WS := List.mem_filter.mpr ⟨List.mem_append_right _ (List.mem_of_getElem? (i := 944) rfl), rfl⟩
set_option maxRecDepth 100000 in
theorem tw_945 : Cond.code ({ cls := "CopyHeapsModel", name := "put", desc := "(III)I" } : MethodName) prog_9_method_14_code (6 : Nat) (Option.some FieldType.int) ∈ WS := List.mem_filter.mpr ⟨List.mem_append_right _ (List.mem_of_getElem? (i := 945) rfl), rfl⟩
set_option maxRecDepth 100000 in
theorem tw_946 : Cond.methodLink "CopyHeapsModel" (82 : Nat) ({ cls := "CopyHeapsModel", name := "isHeaped", desc := "(I)Z" } : MethodName) ∈ WS := List.mem_filter.mpr ⟨List.mem_append_right _ (List.mem_of_getElem? (i := 946) rfl), rfl⟩
set_option maxRecDepth 100000 in
theorem tw_948 : Cond.instanceMethod ({ cls := "CopyHeapsModel", name := "isHeaped", desc := "(I)Z" } : MethodName) ∈ WS := List.mem_filter.mpr ⟨List.mem_append_right _ (List.mem_of_getElem? (i := 948) rfl), rfl⟩
set_option maxRecDepth 100000 in
theorem tw_949 : Cond.code ({ cls := "CopyHeapsModel", name := "isHeaped", desc := "(I)Z" } : MethodName) prog_9_method_7_code (2 : Nat) (Option.some FieldType.boolean) ∈ WS := List.mem_filter.mpr ⟨List.mem_append_right _ (List.mem_of_getElem? (i := 949) rfl), rfl⟩
set_option maxRecDepth 100000 in
theorem tw_950 : Cond.methodLink "CopyHeapsModel" (72 : Nat) ({ cls := "CopyHeapsModel", name := "at", desc := "(I)I" } : MethodName) ∈ WS := List.mem_filter.mpr ⟨List.mem_append_right _ (List.mem_of_getElem? (i := 950) rfl), rfl⟩
set_option maxRecDepth 100000 in
theorem tw_952 : Cond.instanceMethod ({ cls := "CopyHeapsModel", name := "at", desc := "(I)I" } : MethodName) ∈ WS := List.mem_filter.mpr ⟨List.mem_append_right _ (List.mem_of_getElem? (i := 952) rfl), rfl⟩
set_option maxRecDepth 100000 in
theorem tw_953 : Cond.code ({ cls := "CopyHeapsModel", name := "at", desc := "(I)I" } : MethodName) prog_9_method_9_code (2 : Nat) (Option.some FieldType.int) ∈ WS := List.mem_filter.mpr ⟨List.mem_append_right _ (List.mem_of_getElem? (i := 953) rfl), rfl⟩
set_option maxRecDepth 100000 in
theorem tw_954 : Cond.methodLink "CopyHeapsModel" (68 : Nat) ({ cls := "CopyHeapsModel", name := "kindOf", desc := "(I)I" } : MethodName) ∈ WS := List.mem_filter.mpr ⟨List.mem_append_right _ (List.mem_of_getElem? (i := 954) rfl), rfl⟩
set_option maxRecDepth 100000 in
theorem tw_956 : Cond.instanceMethod ({ cls := "CopyHeapsModel", name := "kindOf", desc := "(I)I" } : MethodName) ∈ WS := List.mem_filter.mpr ⟨List.mem_append_right _ (List.mem_of_getElem? (i := 956) rfl), rfl⟩
set_option maxRecDepth 100000 in
theorem tw_957 : Cond.code ({ cls := "CopyHeapsModel", name := "kindOf", desc := "(I)I" } : MethodName) prog_9_method_8_code (2 : Nat) (Option.some FieldType.int) ∈ WS := List.mem_filter.mpr ⟨List.mem_append_right _ (List.mem_of_getElem? (i := 957) rfl), rfl⟩
set_option maxRecDepth 100000 in
theorem tw_958 : Cond.methodLink "CopyHeapsModel" (86 : Nat) ({ cls := "CopyHeapsModel", name := "sizeOf", desc := "(II)I" } : MethodName) ∈ WS := List.mem_filter.mpr ⟨List.mem_append_right _ (List.mem_of_getElem? (i := 958) rfl), rfl⟩
set_option maxRecDepth 100000 in
theorem tw_960 : Cond.instanceMethod ({ cls := "CopyHeapsModel", name := "sizeOf", desc := "(II)I" } : MethodName) ∈ WS := List.mem_filter.mpr ⟨List.mem_append_right _ (List.mem_of_getElem? (i := 960) rfl), rfl⟩
set_option maxRecDepth 100000 in
theorem tw_961 : Cond.code ({ cls := "CopyHeapsModel", name := "sizeOf", desc := "(II)I" } : MethodName) prog_9_method_12_code (3 : Nat) (Option.some FieldType.int) ∈ WS := List.mem_filter.mpr ⟨List.mem_append_right _ (List.mem_of_getElem? (i := 961) rfl), rfl⟩
set_option maxRecDepth 100000 in
theorem tw_962 : Cond.methodLink "CopyHeapsModel" (75 : Nat) ({ cls := "CopyHeapsModel", name := "partsOf", desc := "(II)I" } : MethodName) ∈ WS := List.mem_filter.mpr ⟨List.mem_append_right _ (List.mem_of_getElem? (i := 962) rfl), rfl⟩
set_option maxRecDepth 100000 in
theorem tw_964 : Cond.instanceMethod ({ cls := "CopyHeapsModel", name := "partsOf", desc := "(II)I" } : MethodName) ∈ WS := List.mem_filter.mpr ⟨List.mem_append_right _ (List.mem_of_getElem? (i := 964) rfl), rfl⟩
set_option maxRecDepth 100000 in
theorem tw_965 : Cond.code ({ cls := "CopyHeapsModel", name := "partsOf", desc := "(II)I" } : MethodName) prog_9_method_10_code (3 : Nat) (Option.some FieldType.int) ∈ WS := List.mem_filter.mpr ⟨List.mem_append_right _ (List.mem_of_getElem? (i := 965) rfl), rfl⟩
set_option maxRecDepth 100000 in
theorem tw_966 : Cond.methodLink "CopyHeapsModel" (99 : Nat) ({ cls := "CopyHeapsModel", name := "follow", desc := "(II)V" } : MethodName) ∈ WS := List.mem_filter.mpr ⟨List.mem_append_right _ (List.mem_of_getElem? (i := 966) rfl), rfl⟩
set_option maxRecDepth 100000 in
theorem tw_968 : Cond.instanceMethod ({ cls := "CopyHeapsModel", name := "follow", desc := "(II)V" } : MethodName) ∈ WS := List.mem_filter.mpr ⟨List.mem_append_right _ (List.mem_of_getElem? (i := 968) rfl), rfl⟩
set_option maxRecDepth 100000 in
theorem tw_969 : Cond.code ({ cls := "CopyHeapsModel", name := "follow", desc := "(II)V" } : MethodName) prog_9_method_15_code (8 : Nat) (Option.none : Option FieldType) ∈ WS := List.mem_filter.mpr ⟨List.mem_append_right _ (List.mem_of_getElem? (i := 969) rfl), rfl⟩
set_option maxRecDepth 100000 in
theorem tw_970 : Cond.methodLink "CopyHeapsModel" (132 : Nat) ({ cls := "CopyHeapsModel", name := "open", desc := "(III)I" } : MethodName) ∈ WS := List.mem_filter.mpr ⟨List.mem_append_right _ (List.mem_of_getElem? (i := 970) rfl), rfl⟩
set_option maxRecDepth 100000 in
theorem tw_972 : Cond.instanceMethod ({ cls := "CopyHeapsModel", name := "open", desc := "(III)I" } : MethodName) ∈ WS := List.mem_filter.mpr ⟨List.mem_append_right _ (List.mem_of_getElem? (i := 972) rfl), rfl⟩
set_option maxRecDepth 100000 in
theorem tw_973 : Cond.code ({ cls := "CopyHeapsModel", name := "open", desc := "(III)I" } : MethodName) prog_9_method_25_code (6 : Nat) (Option.some FieldType.int) ∈ WS := List.mem_filter.mpr ⟨List.mem_append_right _ (List.mem_of_getElem? (i := 973) rfl), rfl⟩
set_option maxRecDepth 100000 in
theorem tw_974 : Cond.methodLink "CopyHeapsLaw" (137 : Nat) ({ cls := "CopyHeapsModel", name := "tuple", desc := "(III)V" } : MethodName) ∈ WS := List.mem_filter.mpr ⟨List.mem_append_right _ (List.mem_of_getElem? (i := 974) rfl), rfl⟩
set_option maxRecDepth 100000 in
theorem tw_975 : Cond.instanceMethod ({ cls := "CopyHeapsModel", name := "tuple", desc := "(III)V" } : MethodName) ∈ WS := List.mem_filter.mpr ⟨List.mem_append_right _ (List.mem_of_getElem? (i := 975) rfl), rfl⟩
set_option maxRecDepth 100000 in
theorem tw_976 : Cond.selects "CopyHeapsModel" ({ cls := "CopyHeapsModel", name := "tuple", desc := "(III)V" } : MethodName) ({ cls := "CopyHeapsModel", name := "tuple", desc := "(III)V" } : MethodName) ∈ WS := List.mem_filter.mpr ⟨List.mem_append_right _ (List.mem_of_getElem? (i := 976) rfl), rfl⟩
set_option maxRecDepth 100000 in
theorem tw_977 : Cond.code ({ cls := "CopyHeapsModel", name := "tuple", desc := "(III)V" } : MethodName) prog_9_method_27_code (7 : Nat) (Option.none : Option FieldType) ∈ WS := List.mem_filter.mpr ⟨List.mem_append_right _ (List.mem_of_getElem? (i := 977) rfl), rfl⟩
set_option maxRecDepth 100000 in
theorem tw_978 : Cond.methodLink "CopyHeapsLaw" (140 : Nat) ({ cls := "CopyHeapsModel", name := "blob", desc := "(III)V" } : MethodName) ∈ WS := List.mem_filter.mpr ⟨List.mem_append_right _ (List.mem_of_getElem? (i := 978) rfl), rfl⟩
set_option maxRecDepth 100000 in
theorem tw_979 : Cond.instanceMethod ({ cls := "CopyHeapsModel", name := "blob", desc := "(III)V" } : MethodName) ∈ WS := List.mem_filter.mpr ⟨List.mem_append_right _ (List.mem_of_getElem? (i := 979) rfl), rfl⟩
set_option maxRecDepth 100000 in
theorem tw_980 : Cond.selects "CopyHeapsModel" ({ cls := "CopyHeapsModel", name := "blob", desc := "(III)V" } : MethodName) ({ cls := "CopyHeapsModel", name := "blob", desc := "(III)V" } : MethodName) ∈ WS := List.mem_filter.mpr ⟨List.mem_append_right _ (List.mem_of_getElem? (i := 980) rfl), rfl⟩
set_option maxRecDepth 100000 in
theorem tw_981 : Cond.code ({ cls := "CopyHeapsModel", name := "blob", desc := "(III)V" } : MethodName) prog_9_method_28_code (7 : Nat) (Option.none : Option FieldType) ∈ WS := List.mem_filter.mpr ⟨List.mem_append_right _ (List.mem_of_getElem? (i := 981) rfl), rfl⟩
set_option maxRecDepth 100000 in
theorem tw_982 : Cond.methodLink "CopyHeapsLaw" (143 : Nat) ({ cls := "CopyHeapsModel", name := "part", desc := "(IIII)V" } : MethodName) ∈ WS := List.mem_filter.mpr ⟨List.mem_append_right _ (List.mem_of_getElem? (i := 982) rfl), rfl⟩
set_option maxRecDepth 100000 in
theorem tw_983 : Cond.instanceMethod ({ cls := "CopyHeapsModel", name := "part", desc := "(IIII)V" } : MethodName) ∈ WS := List.mem_filter.mpr ⟨List.mem_append_right _ (List.mem_of_getElem? (i := 983) rfl), rfl⟩
set_option maxRecDepth 100000 in
theorem tw_984 : Cond.selects "CopyHeapsModel" ({ cls := "CopyHeapsModel", name := "part", desc := "(IIII)V" } : MethodName) ({ cls := "CopyHeapsModel", name := "part", desc := "(IIII)V" } : MethodName) ∈ WS := List.mem_filter.mpr ⟨List.mem_append_right _ (List.mem_of_getElem? (i := 984) rfl), rfl⟩
set_option maxRecDepth 100000 in
theorem tw_985 : Cond.code ({ cls := "CopyHeapsModel", name := "part", desc := "(IIII)V" } : MethodName) prog_9_method_29_code (7 : Nat) (Option.none : Option FieldType) ∈ WS := List.mem_filter.mpr ⟨List.mem_append_right _ (List.mem_of_getElem? (i := 985) rfl), rfl⟩
set_option maxRecDepth 100000 in
theorem tw_986 : Cond.methodLink "CopyHeapsModel" (135 : Nat) ({ cls := "CopyHeapsModel", name := "partOf", desc := "(III)I" } : MethodName) ∈ WS := List.mem_filter.mpr ⟨List.mem_append_right _ (List.mem_of_getElem? (i := 986) rfl), rfl⟩
set_option maxRecDepth 100000 in
theorem tw_988 : Cond.instanceMethod ({ cls := "CopyHeapsModel", name := "partOf", desc := "(III)I" } : MethodName) ∈ WS := List.mem_filter.mpr ⟨List.mem_append_right _ (List.mem_of_getElem? (i := 988) rfl), rfl⟩
set_option maxRecDepth 100000 in
theorem tw_989 : Cond.code ({ cls := "CopyHeapsModel", name := "partOf", desc := "(III)I" } : MethodName) prog_9_method_11_code (4 : Nat) (Option.some FieldType.int) ∈ WS := List.mem_filter.mpr ⟨List.mem_append_right _ (List.mem_of_getElem? (i := 989) rfl), rfl⟩
set_option maxRecDepth 100000 in
theorem tw_990 : Cond.methodLink "CopyHeapsLaw" (147 : Nat) ({ cls := "CopyHeapsModel", name := "send", desc := "(III)Z" } : MethodName) ∈ WS := List.mem_filter.mpr ⟨List.mem_append_right _ (List.mem_of_getElem? (i := 990) rfl), rfl⟩
set_option maxRecDepth 100000 in
theorem tw_991 : Cond.instanceMethod ({ cls := "CopyHeapsModel", name := "send", desc := "(III)Z" } : MethodName) ∈ WS := List.mem_filter.mpr ⟨List.mem_append_right _ (List.mem_of_getElem? (i := 991) rfl), rfl⟩
set_option maxRecDepth 100000 in
theorem tw_992 : Cond.selects "CopyHeapsModel" ({ cls := "CopyHeapsModel", name := "send", desc := "(III)Z" } : MethodName) ({ cls := "CopyHeapsModel", name := "send", desc := "(III)Z" } : MethodName) ∈ WS := List.mem_filter.mpr ⟨List.mem_append_right _ (List.mem_of_getElem? (i := 992) rfl), rfl⟩
set_option maxRecDepth 100000 in
theorem tw_993 : Cond.code ({ cls := "CopyHeapsModel", name := "send", desc := "(III)Z" } : MethodName) prog_9_method_31_code (6 : Nat) (Option.some FieldType.boolean) ∈ WS := List.mem_filter.mpr ⟨List.mem_append_right _ (List.mem_of_getElem? (i := 993) rfl), rfl⟩
set_option maxRecDepth 100000 in
theorem tw_994 : Cond.methodLink "CopyHeapsModel" (141 : Nat) ({ cls := "CopyHeapsModel", name := "pass", desc := "(III)Z" } : MethodName) ∈ WS := List.mem_filter.mpr ⟨List.mem_append_right _ (List.mem_of_getElem? (i := 994) rfl), rfl⟩
set_option maxRecDepth 100000 in
theorem tw_996 : Cond.instanceMethod ({ cls := "CopyHeapsModel", name := "pass", desc := "(III)Z" } : MethodName) ∈ WS := List.mem_filter.mpr ⟨List.mem_append_right _ (List.mem_of_getElem? (i := 996) rfl), rfl⟩
set_option maxRecDepth 100000 in
theorem tw_997 : Cond.code ({ cls := "CopyHeapsModel", name := "pass", desc := "(III)Z" } : MethodName) prog_9_method_30_code (7 : Nat) (Option.some FieldType.boolean) ∈ WS := List.mem_filter.mpr ⟨List.mem_append_right _ (List.mem_of_getElem? (i := 997) rfl), rfl⟩
set_option maxRecDepth 100000 in
theorem tw_998 : Cond.methodLink "CopyHeapsModel" (138 : Nat) ({ cls := "CopyHeapsModel", name := "reach", desc := "(II)I" } : MethodName) ∈ WS := List.mem_filter.mpr ⟨List.mem_append_right _ (List.mem_of_getElem? (i := 998) rfl), rfl⟩
set_option maxRecDepth 100000 in
theorem tw_1000 : Cond.instanceMethod ({ cls := "CopyHeapsModel", name := "reach", desc := "(II)I" } : MethodName) ∈ WS := List.mem_filter.mpr ⟨List.mem_append_right _ (List.mem_of_getElem? (i := 1000) rfl), rfl⟩
set_option maxRecDepth 100000 in
theorem tw_1001 : Cond.code ({ cls := "CopyHeapsModel", name := "reach", desc := "(II)I" } : MethodName) prog_9_method_18_code (4 : Nat) (Option.some FieldType.int) ∈ WS := List.mem_filter.mpr ⟨List.mem_append_right _ (List.mem_of_getElem? (i := 1001) rfl), rfl⟩
set_option maxRecDepth 100000 in
theorem tw_1002 : Cond.methodLink "CopyHeapsLaw" (151 : Nat) ({ cls := "CopyHeapsModel", name := "broadcast", desc := "(II)I" } : MethodName) ∈ WS := List.mem_filter.mpr ⟨List.mem_append_right _ (List.mem_of_getElem? (i := 1002) rfl), rfl⟩
set_option maxRecDepth 100000 in
theorem tw_1003 : Cond.instanceMethod ({ cls := "CopyHeapsModel", name := "broadcast", desc := "(II)I" } : MethodName) ∈ WS := List.mem_filter.mpr ⟨List.mem_append_right _ (List.mem_of_getElem? (i := 1003) rfl), rfl⟩
set_option maxRecDepth 100000 in
theorem tw_1004 : Cond.selects "CopyHeapsModel" ({ cls := "CopyHeapsModel", name := "broadcast", desc := "(II)I" } : MethodName) ({ cls := "CopyHeapsModel", name := "broadcast", desc := "(II)I" } : MethodName) ∈ WS := List.mem_filter.mpr ⟨List.mem_append_right _ (List.mem_of_getElem? (i := 1004) rfl), rfl⟩
set_option maxRecDepth 100000 in
theorem tw_1005 : Cond.code ({ cls := "CopyHeapsModel", name := "broadcast", desc := "(II)I" } : MethodName) prog_9_method_32_code (8 : Nat) (Option.some FieldType.int) ∈ WS := List.mem_filter.mpr ⟨List.mem_append_right _ (List.mem_of_getElem? (i := 1005) rfl), rfl⟩
set_option maxRecDepth 100000 in
theorem tw_1006 : Cond.methodLink "CopyHeapsLaw" (154 : Nat) ({ cls := "CopyHeapsModel", name := "receive", desc := "(II)I" } : MethodName) ∈ WS := List.mem_filter.mpr ⟨List.mem_append_right _ (List.mem_of_getElem? (i := 1006) rfl), rfl⟩
set_option maxRecDepth 100000 in
theorem tw_1007 : Cond.instanceMethod ({ cls := "CopyHeapsModel", name := "receive", desc := "(II)I" } : MethodName) ∈ WS := List.mem_filter.mpr ⟨List.mem_append_right _ (List.mem_of_getElem? (i := 1007) rfl), rfl⟩
set_option maxRecDepth 100000 in
theorem tw_1008 : Cond.selects "CopyHeapsModel" ({ cls := "CopyHeapsModel", name := "receive", desc := "(II)I" } : MethodName) ({ cls := "CopyHeapsModel", name := "receive", desc := "(II)I" } : MethodName) ∈ WS := List.mem_filter.mpr ⟨List.mem_append_right _ (List.mem_of_getElem? (i := 1008) rfl), rfl⟩
set_option maxRecDepth 100000 in
theorem tw_1009 : Cond.code ({ cls := "CopyHeapsModel", name := "receive", desc := "(II)I" } : MethodName) prog_9_method_33_code (5 : Nat) (Option.some FieldType.int) ∈ WS := List.mem_filter.mpr ⟨List.mem_append_right _ (List.mem_of_getElem? (i := 1009) rfl), rfl⟩
set_option maxRecDepth 100000 in
theorem tw_1010 : Cond.methodLink "CopyHeapsLaw" (157 : Nat) ({ cls := "CopyHeapsModel", name := "collect", desc := "(I)I" } : MethodName) ∈ WS := List.mem_filter.mpr ⟨List.mem_append_right _ (List.mem_of_getElem? (i := 1010) rfl), rfl⟩
set_option maxRecDepth 100000 in
theorem tw_1011 : Cond.instanceMethod ({ cls := "CopyHeapsModel", name := "collect", desc := "(I)I" } : MethodName) ∈ WS := List.mem_filter.mpr ⟨List.mem_append_right _ (List.mem_of_getElem? (i := 1011) rfl), rfl⟩
set_option maxRecDepth 100000 in
theorem tw_1012 : Cond.selects "CopyHeapsModel" ({ cls := "CopyHeapsModel", name := "collect", desc := "(I)I" } : MethodName) ({ cls := "CopyHeapsModel", name := "collect", desc := "(I)I" } : MethodName) ∈ WS := List.mem_filter.mpr ⟨List.mem_append_right _ (List.mem_of_getElem? (i := 1012) rfl), rfl⟩
set_option maxRecDepth 100000 in
theorem tw_1013 : Cond.code ({ cls := "CopyHeapsModel", name := "collect", desc := "(I)I" } : MethodName) prog_9_method_34_code (4 : Nat) (Option.some FieldType.int) ∈ WS := List.mem_filter.mpr ⟨List.mem_append_right _ (List.mem_of_getElem? (i := 1013) rfl), rfl⟩
set_option maxRecDepth 100000 in
theorem tw_1014 : Cond.methodLink "CopyHeapsLaw" (160 : Nat) ({ cls := "CopyHeapsModel", name := "trim", desc := "(I)I" } : MethodName) ∈ WS := List.mem_filter.mpr ⟨List.mem_append_right _ (List.mem_of_getElem? (i := 1014) rfl), rfl⟩
set_option maxRecDepth 100000 in
theorem tw_1015 : Cond.instanceMethod ({ cls := "CopyHeapsModel", name := "trim", desc := "(I)I" } : MethodName) ∈ WS := List.mem_filter.mpr ⟨List.mem_append_right _ (List.mem_of_getElem? (i := 1015) rfl), rfl⟩
set_option maxRecDepth 100000 in
theorem tw_1016 : Cond.selects "CopyHeapsModel" ({ cls := "CopyHeapsModel", name := "trim", desc := "(I)I" } : MethodName) ({ cls := "CopyHeapsModel", name := "trim", desc := "(I)I" } : MethodName) ∈ WS := List.mem_filter.mpr ⟨List.mem_append_right _ (List.mem_of_getElem? (i := 1016) rfl), rfl⟩
set_option maxRecDepth 100000 in
theorem tw_1017 : Cond.code ({ cls := "CopyHeapsModel", name := "trim", desc := "(I)I" } : MethodName) prog_9_method_35_code (3 : Nat) (Option.some FieldType.int) ∈ WS := List.mem_filter.mpr ⟨List.mem_append_right _ (List.mem_of_getElem? (i := 1017) rfl), rfl⟩
set_option maxRecDepth 100000 in
theorem tw_1018 : Cond.methodLink "CopyHeapsLaw" (163 : Nat) ({ cls := "CopyHeapsModel", name := "count", desc := "(I)I" } : MethodName) ∈ WS := List.mem_filter.mpr ⟨List.mem_append_right _ (List.mem_of_getElem? (i := 1018) rfl), rfl⟩
set_option maxRecDepth 100000 in
theorem tw_1019 : Cond.instanceMethod ({ cls := "CopyHeapsModel", name := "count", desc := "(I)I" } : MethodName) ∈ WS := List.mem_filter.mpr ⟨List.mem_append_right _ (List.mem_of_getElem? (i := 1019) rfl), rfl⟩
set_option maxRecDepth 100000 in
theorem tw_1020 : Cond.selects "CopyHeapsModel" ({ cls := "CopyHeapsModel", name := "count", desc := "(I)I" } : MethodName) ({ cls := "CopyHeapsModel", name := "count", desc := "(I)I" } : MethodName) ∈ WS := List.mem_filter.mpr ⟨List.mem_append_right _ (List.mem_of_getElem? (i := 1020) rfl), rfl⟩
set_option maxRecDepth 100000 in
theorem tw_1021 : Cond.code ({ cls := "CopyHeapsModel", name := "count", desc := "(I)I" } : MethodName) prog_9_method_36_code (2 : Nat) (Option.some FieldType.int) ∈ WS := List.mem_filter.mpr ⟨List.mem_append_right _ (List.mem_of_getElem? (i := 1021) rfl), rfl⟩
set_option maxRecDepth 100000 in
theorem tw_1022 : Cond.methodLink "CopyHeapsLaw" (166 : Nat) ({ cls := "CopyHeapsModel", name := "of", desc := "(II)I" } : MethodName) ∈ WS := List.mem_filter.mpr ⟨List.mem_append_right _ (List.mem_of_getElem? (i := 1022) rfl), rfl⟩
set_option maxRecDepth 100000 in
theorem tw_1023 : Cond.instanceMethod ({ cls := "CopyHeapsModel", name := "of", desc := "(II)I" } : MethodName) ∈ WS := List.mem_filter.mpr ⟨List.mem_append_right _ (List.mem_of_getElem? (i := 1023) rfl), rfl⟩
set_option maxRecDepth 100000 in
theorem tw_1024 : Cond.selects "CopyHeapsModel" ({ cls := "CopyHeapsModel", name := "of", desc := "(II)I" } : MethodName) ({ cls := "CopyHeapsModel", name := "of", desc := "(II)I" } : MethodName) ∈ WS := List.mem_filter.mpr ⟨List.mem_append_right _ (List.mem_of_getElem? (i := 1024) rfl), rfl⟩
set_option maxRecDepth 100000 in
theorem tw_1025 : Cond.code ({ cls := "CopyHeapsModel", name := "of", desc := "(II)I" } : MethodName) prog_9_method_37_code (4 : Nat) (Option.some FieldType.int) ∈ WS := List.mem_filter.mpr ⟨List.mem_append_right _ (List.mem_of_getElem? (i := 1025) rfl), rfl⟩
set_option maxRecDepth 100000 in
theorem tw_1026 : Cond.methodLink "CopyHeapsLaw" (169 : Nat) ({ cls := "CopyHeapsModel", name := "kind", desc := "(II)I" } : MethodName) ∈ WS := List.mem_filter.mpr ⟨List.mem_append_right _ (List.mem_of_getElem? (i := 1026) rfl), rfl⟩
set_option maxRecDepth 100000 in
theorem tw_1027 : Cond.instanceMethod ({ cls := "CopyHeapsModel", name := "kind", desc := "(II)I" } : MethodName) ∈ WS := List.mem_filter.mpr ⟨List.mem_append_right _ (List.mem_of_getElem? (i := 1027) rfl), rfl⟩
set_option maxRecDepth 100000 in
theorem tw_1028 : Cond.selects "CopyHeapsModel" ({ cls := "CopyHeapsModel", name := "kind", desc := "(II)I" } : MethodName) ({ cls := "CopyHeapsModel", name := "kind", desc := "(II)I" } : MethodName) ∈ WS := List.mem_filter.mpr ⟨List.mem_append_right _ (List.mem_of_getElem? (i := 1028) rfl), rfl⟩
set_option maxRecDepth 100000 in
theorem tw_1029 : Cond.code ({ cls := "CopyHeapsModel", name := "kind", desc := "(II)I" } : MethodName) prog_9_method_39_code (3 : Nat) (Option.some FieldType.int) ∈ WS := List.mem_filter.mpr ⟨List.mem_append_right _ (List.mem_of_getElem? (i := 1029) rfl), rfl⟩
set_option maxRecDepth 100000 in
theorem tw_1030 : Cond.methodLink "CopyHeapsModel" (145 : Nat) ({ cls := "CopyHeapsModel", name := "termOf", desc := "(II)I" } : MethodName) ∈ WS := List.mem_filter.mpr ⟨List.mem_append_right _ (List.mem_of_getElem? (i := 1030) rfl), rfl⟩
set_option maxRecDepth 100000 in
theorem tw_1032 : Cond.instanceMethod ({ cls := "CopyHeapsModel", name := "termOf", desc := "(II)I" } : MethodName) ∈ WS := List.mem_filter.mpr ⟨List.mem_append_right _ (List.mem_of_getElem? (i := 1032) rfl), rfl⟩
set_option maxRecDepth 100000 in
theorem tw_1033 : Cond.code ({ cls := "CopyHeapsModel", name := "termOf", desc := "(II)I" } : MethodName) prog_9_method_38_code (4 : Nat) (Option.some FieldType.int) ∈ WS := List.mem_filter.mpr ⟨List.mem_append_right _ (List.mem_of_getElem? (i := 1033) rfl), rfl⟩
set_option maxRecDepth 100000 in
theorem tw_1034 : Cond.methodLink "CopyHeapsLaw" (172 : Nat) ({ cls := "CopyHeapsModel", name := "value", desc := "(II)I" } : MethodName) ∈ WS := List.mem_filter.mpr ⟨List.mem_append_right _ (List.mem_of_getElem? (i := 1034) rfl), rfl⟩
set_option maxRecDepth 100000 in
theorem tw_1035 : Cond.instanceMethod ({ cls := "CopyHeapsModel", name := "value", desc := "(II)I" } : MethodName) ∈ WS := List.mem_filter.mpr ⟨List.mem_append_right _ (List.mem_of_getElem? (i := 1035) rfl), rfl⟩
set_option maxRecDepth 100000 in
theorem tw_1036 : Cond.selects "CopyHeapsModel" ({ cls := "CopyHeapsModel", name := "value", desc := "(II)I" } : MethodName) ({ cls := "CopyHeapsModel", name := "value", desc := "(II)I" } : MethodName) ∈ WS := List.mem_filter.mpr ⟨List.mem_append_right _ (List.mem_of_getElem? (i := 1036) rfl), rfl⟩
set_option maxRecDepth 100000 in
theorem tw_1037 : Cond.code ({ cls := "CopyHeapsModel", name := "value", desc := "(II)I" } : MethodName) prog_9_method_40_code (5 : Nat) (Option.some FieldType.int) ∈ WS := List.mem_filter.mpr ⟨List.mem_append_right _ (List.mem_of_getElem? (i := 1037) rfl), rfl⟩
set_option maxRecDepth 100000 in
theorem tw_1038 : Cond.methodLink "CopyHeapsLaw" (175 : Nat) ({ cls := "CopyHeapsModel", name := "address", desc := "(II)I" } : MethodName) ∈ WS := List.mem_filter.mpr ⟨List.mem_append_right _ (List.mem_of_getElem? (i := 1038) rfl), rfl⟩
set_option maxRecDepth 100000 in
theorem tw_1039 : Cond.instanceMethod ({ cls := "CopyHeapsModel", name := "address", desc := "(II)I" } : MethodName) ∈ WS := List.mem_filter.mpr ⟨List.mem_append_right _ (List.mem_of_getElem? (i := 1039) rfl), rfl⟩
set_option maxRecDepth 100000 in
theorem tw_1040 : Cond.selects "CopyHeapsModel" ({ cls := "CopyHeapsModel", name := "address", desc := "(II)I" } : MethodName) ({ cls := "CopyHeapsModel", name := "address", desc := "(II)I" } : MethodName) ∈ WS := List.mem_filter.mpr ⟨List.mem_append_right _ (List.mem_of_getElem? (i := 1040) rfl), rfl⟩
set_option maxRecDepth 100000 in
theorem tw_1041 : Cond.code ({ cls := "CopyHeapsModel", name := "address", desc := "(II)I" } : MethodName) prog_9_method_41_code (4 : Nat) (Option.some FieldType.int) ∈ WS := List.mem_filter.mpr ⟨List.mem_append_right _ (List.mem_of_getElem? (i := 1041) rfl), rfl⟩
set_option maxRecDepth 100000 in
theorem tw_1042 : Cond.methodLink "CopyHeapsLaw" (178 : Nat) ({ cls := "CopyHeapsModel", name := "words", desc := "(II)I" } : MethodName) ∈ WS := List.mem_filter.mpr ⟨List.mem_append_right _ (List.mem_of_getElem? (i := 1042) rfl), rfl⟩
set_option maxRecDepth 100000 in
theorem tw_1043 : Cond.instanceMethod ({ cls := "CopyHeapsModel", name := "words", desc := "(II)I" } : MethodName) ∈ WS := List.mem_filter.mpr ⟨List.mem_append_right _ (List.mem_of_getElem? (i := 1043) rfl), rfl⟩
set_option maxRecDepth 100000 in
theorem tw_1044 : Cond.selects "CopyHeapsModel" ({ cls := "CopyHeapsModel", name := "words", desc := "(II)I" } : MethodName) ({ cls := "CopyHeapsModel", name := "words", desc := "(II)I" } : MethodName) ∈ WS := List.mem_filter.mpr ⟨List.mem_append_right _ (List.mem_of_getElem? (i := 1044) rfl), rfl⟩
set_option maxRecDepth 100000 in
theorem tw_1045 : Cond.code ({ cls := "CopyHeapsModel", name := "words", desc := "(II)I" } : MethodName) prog_9_method_42_code (4 : Nat) (Option.some FieldType.int) ∈ WS := List.mem_filter.mpr ⟨List.mem_append_right _ (List.mem_of_getElem? (i := 1045) rfl), rfl⟩
set_option maxRecDepth 100000 in
theorem tw_1046 : Cond.methodLink "CopyHeapsLaw" (181 : Nat) ({ cls := "CopyHeapsModel", name := "handles", desc := "(II)I" } : MethodName) ∈ WS := List.mem_filter.mpr ⟨List.mem_append_right _ (List.mem_of_getElem? (i := 1046) rfl), rfl⟩
set_option maxRecDepth 100000 in
theorem tw_1047 : Cond.instanceMethod ({ cls := "CopyHeapsModel", name := "handles", desc := "(II)I" } : MethodName) ∈ WS := List.mem_filter.mpr ⟨List.mem_append_right _ (List.mem_of_getElem? (i := 1047) rfl), rfl⟩
set_option maxRecDepth 100000 in
theorem tw_1048 : Cond.selects "CopyHeapsModel" ({ cls := "CopyHeapsModel", name := "handles", desc := "(II)I" } : MethodName) ({ cls := "CopyHeapsModel", name := "handles", desc := "(II)I" } : MethodName) ∈ WS := List.mem_filter.mpr ⟨List.mem_append_right _ (List.mem_of_getElem? (i := 1048) rfl), rfl⟩
set_option maxRecDepth 100000 in
theorem tw_1049 : Cond.code ({ cls := "CopyHeapsModel", name := "handles", desc := "(II)I" } : MethodName) prog_9_method_43_code (4 : Nat) (Option.some FieldType.int) ∈ WS := List.mem_filter.mpr ⟨List.mem_append_right _ (List.mem_of_getElem? (i := 1049) rfl), rfl⟩
set_option maxRecDepth 100000 in
theorem tw_1050 : Cond.methodLink "CopyHeapsLaw" (185 : Nat) ({ cls := "CopyHeapsModel", name := "equal", desc := "(IIII)Z" } : MethodName) ∈ WS := List.mem_filter.mpr ⟨List.mem_append_right _ (List.mem_of_getElem? (i := 1050) rfl), rfl⟩
set_option maxRecDepth 100000 in
theorem tw_1051 : Cond.instanceMethod ({ cls := "CopyHeapsModel", name := "equal", desc := "(IIII)Z" } : MethodName) ∈ WS := List.mem_filter.mpr ⟨List.mem_append_right _ (List.mem_of_getElem? (i := 1051) rfl), rfl⟩
set_option maxRecDepth 100000 in
theorem tw_1052 : Cond.selects "CopyHeapsModel" ({ cls := "CopyHeapsModel", name := "equal", desc := "(IIII)Z" } : MethodName) ({ cls := "CopyHeapsModel", name := "equal", desc := "(IIII)Z" } : MethodName) ∈ WS := List.mem_filter.mpr ⟨List.mem_append_right _ (List.mem_of_getElem? (i := 1052) rfl), rfl⟩
set_option maxRecDepth 100000 in
theorem tw_1053 : Cond.code ({ cls := "CopyHeapsModel", name := "equal", desc := "(IIII)Z" } : MethodName) prog_9_method_45_code (12 : Nat) (Option.some FieldType.boolean) ∈ WS := List.mem_filter.mpr ⟨List.mem_append_right _ (List.mem_of_getElem? (i := 1053) rfl), rfl⟩
set_option maxRecDepth 100000 in
theorem tw_1054 : Cond.methodLink "CopyHeapsModel" (148 : Nat) ({ cls := "CopyHeapsModel", name := "alike", desc := "(IIII)Z" } : MethodName) ∈ WS := List.mem_filter.mpr ⟨List.mem_append_right _ (List.mem_of_getElem? (i := 1054) rfl), rfl⟩
set_option maxRecDepth 100000 in
theorem tw_1056 : Cond.instanceMethod ({ cls := "CopyHeapsModel", name := "alike", desc := "(IIII)Z" } : MethodName) ∈ WS := List.mem_filter.mpr ⟨List.mem_append_right _ (List.mem_of_getElem? (i := 1056) rfl), rfl⟩
set_option maxRecDepth 100000 in
theorem tw_1057 : Cond.code ({ cls := "CopyHeapsModel", name := "alike", desc := "(IIII)Z" } : MethodName) prog_9_method_44_code (5 : Nat) (Option.some FieldType.boolean) ∈ WS := List.mem_filter.mpr ⟨List.mem_append_right _ (List.mem_of_getElem? (i := 1057) rfl), rfl⟩
set_option maxRecDepth 100000 in
theorem tw_1070 : Cond.castable "CopyHeaps$HeapProcess" "java/lang/Object" ∈ WS := List.mem_filter.mpr ⟨List.mem_append_right _ (List.mem_of_getElem? (i := 1070) rfl), rfl⟩
theorem ts_0 : Cond.selects "java/lang/Throwable" ⟨"java/lang/Throwable", "fillInStackTrace", "(I)Ljava/lang/Throwable;"⟩ ⟨"java/lang/Throwable", "fillInStackTrace", "(I)Ljava/lang/Throwable;"⟩ ∈ WS := List.mem_filter.mpr ⟨List.mem_append_left _ (List.mem_of_getElem? (i := 0) rfl), rfl⟩
theorem ts_1 : Cond.selects "java/util/ArrayList" ⟨"java/util/ArrayList", "fastRemove", "([Ljava/lang/Object;I)V"⟩ ⟨"java/util/ArrayList", "fastRemove", "([Ljava/lang/Object;I)V"⟩ ∈ WS := List.mem_filter.mpr ⟨List.mem_append_left _ (List.mem_of_getElem? (i := 1) rfl), rfl⟩
theorem ts_2 : Cond.selects "java/util/ArrayList" ⟨"java/util/ArrayList", "add", "(Ljava/lang/Object;[Ljava/lang/Object;I)V"⟩ ⟨"java/util/ArrayList", "add", "(Ljava/lang/Object;[Ljava/lang/Object;I)V"⟩ ∈ WS := List.mem_filter.mpr ⟨List.mem_append_left _ (List.mem_of_getElem? (i := 2) rfl), rfl⟩
theorem ts_3 : Cond.selects "java/util/ArrayList" ⟨"java/util/ArrayList", "grow", "()[Ljava/lang/Object;"⟩ ⟨"java/util/ArrayList", "grow", "()[Ljava/lang/Object;"⟩ ∈ WS := List.mem_filter.mpr ⟨List.mem_append_left _ (List.mem_of_getElem? (i := 3) rfl), rfl⟩
theorem ts_4 : Cond.selects "java/util/ArrayList" ⟨"java/util/ArrayList", "grow", "(I)[Ljava/lang/Object;"⟩ ⟨"java/util/ArrayList", "grow", "(I)[Ljava/lang/Object;"⟩ ∈ WS := List.mem_filter.mpr ⟨List.mem_append_left _ (List.mem_of_getElem? (i := 4) rfl), rfl⟩
theorem ts_5 : Cond.selects "CopyHeaps" ⟨"CopyHeaps", "living", "(I)LCopyHeaps$HeapProcess;"⟩ ⟨"CopyHeaps", "living", "(I)LCopyHeaps$HeapProcess;"⟩ ∈ WS := List.mem_filter.mpr ⟨List.mem_append_left _ (List.mem_of_getElem? (i := 5) rfl), rfl⟩
theorem ts_6 : Cond.selects "CopyHeaps" ⟨"CopyHeaps", "placeOf", "(I)I"⟩ ⟨"CopyHeaps", "placeOf", "(I)I"⟩ ∈ WS := List.mem_filter.mpr ⟨List.mem_append_left _ (List.mem_of_getElem? (i := 6) rfl), rfl⟩
theorem ts_7 : Cond.selects "CopyHeaps" ⟨"CopyHeaps", "living", "(II)LCopyHeaps$HeapProcess;"⟩ ⟨"CopyHeaps", "living", "(II)LCopyHeaps$HeapProcess;"⟩ ∈ WS := List.mem_filter.mpr ⟨List.mem_append_left _ (List.mem_of_getElem? (i := 7) rfl), rfl⟩
theorem ts_8 : Cond.selects "CopyHeaps" ⟨"CopyHeaps", "needRoom", "(LCopyHeaps$HeapProcess;I)V"⟩ ⟨"CopyHeaps", "needRoom", "(LCopyHeaps$HeapProcess;I)V"⟩ ∈ WS := List.mem_filter.mpr ⟨List.mem_append_left _ (List.mem_of_getElem? (i := 8) rfl), rfl⟩
theorem ts_9 : Cond.selects "CopyHeaps" ⟨"CopyHeaps", "makeRoom", "(LCopyHeaps$HeapProcess;I)Z"⟩ ⟨"CopyHeaps", "makeRoom", "(LCopyHeaps$HeapProcess;I)Z"⟩ ∈ WS := List.mem_filter.mpr ⟨List.mem_append_left _ (List.mem_of_getElem? (i := 9) rfl), rfl⟩
theorem ts_10 : Cond.selects "CopyHeaps" ⟨"CopyHeaps", "collectHeap", "(LCopyHeaps$HeapProcess;)V"⟩ ⟨"CopyHeaps", "collectHeap", "(LCopyHeaps$HeapProcess;)V"⟩ ∈ WS := List.mem_filter.mpr ⟨List.mem_append_left _ (List.mem_of_getElem? (i := 10) rfl), rfl⟩
theorem ts_11 : Cond.selects "CopyHeaps$Heap" ⟨"CopyHeaps$Heap", "place", "(II)I"⟩ ⟨"CopyHeaps$Heap", "place", "(II)I"⟩ ∈ WS := List.mem_filter.mpr ⟨List.mem_append_left _ (List.mem_of_getElem? (i := 11) rfl), rfl⟩
theorem ts_12 : Cond.selects "CopyHeaps$Mailbox" ⟨"CopyHeaps$Mailbox", "placeInRing", "(I)I"⟩ ⟨"CopyHeaps$Mailbox", "placeInRing", "(I)I"⟩ ∈ WS := List.mem_filter.mpr ⟨List.mem_append_left _ (List.mem_of_getElem? (i := 12) rfl), rfl⟩
theorem ts_13 : Cond.selects "CopyHeaps" ⟨"CopyHeaps", "deliver", "(LCopyHeaps$HeapProcess;ILCopyHeaps$HeapProcess;)Z"⟩ ⟨"CopyHeaps", "deliver", "(LCopyHeaps$HeapProcess;ILCopyHeaps$HeapProcess;)Z"⟩ ∈ WS := List.mem_filter.mpr ⟨List.mem_append_left _ (List.mem_of_getElem? (i := 13) rfl), rfl⟩
theorem ts_14 : Cond.selects "CopyHeaps" ⟨"CopyHeaps", "wordsLedTo", "(LCopyHeaps$Heap;I)I"⟩ ⟨"CopyHeaps", "wordsLedTo", "(LCopyHeaps$Heap;I)I"⟩ ∈ WS := List.mem_filter.mpr ⟨List.mem_append_left _ (List.mem_of_getElem? (i := 14) rfl), rfl⟩
theorem ts_15 : Cond.selects "CopyHeaps$Comparison" ⟨"CopyHeaps$Comparison", "push", "(II)V"⟩ ⟨"CopyHeaps$Comparison", "push", "(II)V"⟩ ∈ WS := List.mem_filter.mpr ⟨List.mem_append_left _ (List.mem_of_getElem? (i := 15) rfl), rfl⟩
theorem ts_16 : Cond.selects "CopyHeaps$Comparison" ⟨"CopyHeaps$Comparison", "areAlike", "(II)Z"⟩ ⟨"CopyHeaps$Comparison", "areAlike", "(II)Z"⟩ ∈ WS := List.mem_filter.mpr ⟨List.mem_append_left _ (List.mem_of_getElem? (i := 16) rfl), rfl⟩
theorem ts_17 : Cond.selects "CopyHeaps$Comparison" ⟨"CopyHeaps$Comparison", "pushParts", "(II)V"⟩ ⟨"CopyHeaps$Comparison", "pushParts", "(II)V"⟩ ∈ WS := List.mem_filter.mpr ⟨List.mem_append_left _ (List.mem_of_getElem? (i := 17) rfl), rfl⟩
theorem ts_18 : Cond.selects "CopyHeapsModel" ⟨"CopyHeapsModel", "free", "()I"⟩ ⟨"CopyHeapsModel", "free", "()I"⟩ ∈ WS := List.mem_filter.mpr ⟨List.mem_append_left _ (List.mem_of_getElem? (i := 18) rfl), rfl⟩
theorem ts_19 : Cond.selects "CopyHeapsModel" ⟨"CopyHeapsModel", "placeOf", "(I)I"⟩ ⟨"CopyHeapsModel", "placeOf", "(I)I"⟩ ∈ WS := List.mem_filter.mpr ⟨List.mem_append_left _ (List.mem_of_getElem? (i := 19) rfl), rfl⟩
theorem ts_20 : Cond.selects "CopyHeapsModel" ⟨"CopyHeapsModel", "release", "(I)V"⟩ ⟨"CopyHeapsModel", "release", "(I)V"⟩ ∈ WS := List.mem_filter.mpr ⟨List.mem_append_left _ (List.mem_of_getElem? (i := 20) rfl), rfl⟩
theorem ts_21 : Cond.selects "CopyHeapsModel" ⟨"CopyHeapsModel", "noRegister", "(I)Z"⟩ ⟨"CopyHeapsModel", "noRegister", "(I)Z"⟩ ∈ WS := List.mem_filter.mpr ⟨List.mem_append_left _ (List.mem_of_getElem? (i := 21) rfl), rfl⟩
theorem ts_22 : Cond.selects "CopyHeapsModel" ⟨"CopyHeapsModel", "room", "(II)Z"⟩ ⟨"CopyHeapsModel", "room", "(II)Z"⟩ ∈ WS := List.mem_filter.mpr ⟨List.mem_append_left _ (List.mem_of_getElem? (i := 22) rfl), rfl⟩
theorem ts_23 : Cond.selects "CopyHeapsModel" ⟨"CopyHeapsModel", "gather", "(I)V"⟩ ⟨"CopyHeapsModel", "gather", "(I)V"⟩ ∈ WS := List.mem_filter.mpr ⟨List.mem_append_left _ (List.mem_of_getElem? (i := 23) rfl), rfl⟩
theorem ts_24 : Cond.selects "CopyHeapsModel" ⟨"CopyHeapsModel", "begin", "()V"⟩ ⟨"CopyHeapsModel", "begin", "()V"⟩ ∈ WS := List.mem_filter.mpr ⟨List.mem_append_left _ (List.mem_of_getElem? (i := 24) rfl), rfl⟩
theorem ts_25 : Cond.selects "CopyHeapsModel" ⟨"CopyHeapsModel", "put", "(III)I"⟩ ⟨"CopyHeapsModel", "put", "(III)I"⟩ ∈ WS := List.mem_filter.mpr ⟨List.mem_append_left _ (List.mem_of_getElem? (i := 25) rfl), rfl⟩
theorem ts_26 : Cond.selects "CopyHeapsModel" ⟨"CopyHeapsModel", "isHeaped", "(I)Z"⟩ ⟨"CopyHeapsModel", "isHeaped", "(I)Z"⟩ ∈ WS := List.mem_filter.mpr ⟨List.mem_append_left _ (List.mem_of_getElem? (i := 26) rfl), rfl⟩
theorem ts_27 : Cond.selects "CopyHeapsModel" ⟨"CopyHeapsModel", "at", "(I)I"⟩ ⟨"CopyHeapsModel", "at", "(I)I"⟩ ∈ WS := List.mem_filter.mpr ⟨List.mem_append_left _ (List.mem_of_getElem? (i := 27) rfl), rfl⟩
theorem ts_28 : Cond.selects "CopyHeapsModel" ⟨"CopyHeapsModel", "kindOf", "(I)I"⟩ ⟨"CopyHeapsModel", "kindOf", "(I)I"⟩ ∈ WS := List.mem_filter.mpr ⟨List.mem_append_left _ (List.mem_of_getElem? (i := 28) rfl), rfl⟩
theorem ts_29 : Cond.selects "CopyHeapsModel" ⟨"CopyHeapsModel", "sizeOf", "(II)I"⟩ ⟨"CopyHeapsModel", "sizeOf", "(II)I"⟩ ∈ WS := List.mem_filter.mpr ⟨List.mem_append_left _ (List.mem_of_getElem? (i := 29) rfl), rfl⟩
theorem ts_30 : Cond.selects "CopyHeapsModel" ⟨"CopyHeapsModel", "partsOf", "(II)I"⟩ ⟨"CopyHeapsModel", "partsOf", "(II)I"⟩ ∈ WS := List.mem_filter.mpr ⟨List.mem_append_left _ (List.mem_of_getElem? (i := 30) rfl), rfl⟩
theorem ts_31 : Cond.selects "CopyHeapsModel" ⟨"CopyHeapsModel", "follow", "(II)V"⟩ ⟨"CopyHeapsModel", "follow", "(II)V"⟩ ∈ WS := List.mem_filter.mpr ⟨List.mem_append_left _ (List.mem_of_getElem? (i := 31) rfl), rfl⟩
theorem ts_32 : Cond.selects "CopyHeapsModel" ⟨"CopyHeapsModel", "open", "(III)I"⟩ ⟨"CopyHeapsModel", "open", "(III)I"⟩ ∈ WS := List.mem_filter.mpr ⟨List.mem_append_left _ (List.mem_of_getElem? (i := 32) rfl), rfl⟩
theorem ts_33 : Cond.selects "CopyHeapsModel" ⟨"CopyHeapsModel", "partOf", "(III)I"⟩ ⟨"CopyHeapsModel", "partOf", "(III)I"⟩ ∈ WS := List.mem_filter.mpr ⟨List.mem_append_left _ (List.mem_of_getElem? (i := 33) rfl), rfl⟩
theorem ts_34 : Cond.selects "CopyHeapsModel" ⟨"CopyHeapsModel", "pass", "(III)Z"⟩ ⟨"CopyHeapsModel", "pass", "(III)Z"⟩ ∈ WS := List.mem_filter.mpr ⟨List.mem_append_left _ (List.mem_of_getElem? (i := 34) rfl), rfl⟩
theorem ts_35 : Cond.selects "CopyHeapsModel" ⟨"CopyHeapsModel", "reach", "(II)I"⟩ ⟨"CopyHeapsModel", "reach", "(II)I"⟩ ∈ WS := List.mem_filter.mpr ⟨List.mem_append_left _ (List.mem_of_getElem? (i := 35) rfl), rfl⟩
theorem ts_36 : Cond.selects "CopyHeapsModel" ⟨"CopyHeapsModel", "termOf", "(II)I"⟩ ⟨"CopyHeapsModel", "termOf", "(II)I"⟩ ∈ WS := List.mem_filter.mpr ⟨List.mem_append_left _ (List.mem_of_getElem? (i := 36) rfl), rfl⟩
theorem ts_37 : Cond.selects "CopyHeapsModel" ⟨"CopyHeapsModel", "alike", "(IIII)Z"⟩ ⟨"CopyHeapsModel", "alike", "(IIII)Z"⟩ ∈ WS := List.mem_filter.mpr ⟨List.mem_append_left _ (List.mem_of_getElem? (i := 37) rfl), rfl⟩
theorem tin0 : ∀ w ∈ u_ws cn0 ct0 4, w ∈ WS := by
  show ∀ w ∈ [Cond.lays "CopyHeaps$Carrier" "CopyHeaps$Carrier" "from" "LCopyHeaps$Heap;", Cond.lays "CopyHeaps$Carrier" "CopyHeaps$Carrier" "to" "LCopyHeaps$Heap;", Cond.lays "CopyHeaps$Carrier" "CopyHeaps$Carrier" "firstCarried" "I", Cond.laysFinal "CopyHeaps$Carrier" "CopyHeaps$Carrier" "carried" "[I"], w ∈ WS
  exact List.forall_mem_cons.mpr ⟨tw_99, List.forall_mem_cons.mpr ⟨tw_101, List.forall_mem_cons.mpr ⟨tw_103, List.forall_mem_cons.mpr ⟨tw_105, fun _ h => nomatch h⟩⟩⟩⟩
theorem cf0 {g : gg} {X : State → Prop} {t0 : Nat} {l : Launch} (G : gc g X t0 l) : cf g 0 (cn0, ct0, 4) cy0 := by
  refine ⟨by rw [G.1]; rfl, fun w hw => G.w (tin0 w hw), by decide +kernel, by decide +kernel, ?_⟩
  rw [G.2.1]
  decide +kernel
theorem tin1 : ∀ w ∈ u_ws cn1 ct1 5, w ∈ WS := by
  show ∀ w ∈ [Cond.lays "CopyHeaps$Comparison" "CopyHeaps$Comparison" "leftHeap" "LCopyHeaps$Heap;", Cond.lays "CopyHeaps$Comparison" "CopyHeaps$Comparison" "rightHeap" "LCopyHeaps$Heap;", Cond.laysFinal "CopyHeaps$Comparison" "CopyHeaps$Comparison" "leftTerms" "[I", Cond.laysFinal "CopyHeaps$Comparison" "CopyHeaps$Comparison" "rightTerms" "[I", Cond.lays "CopyHeaps$Comparison" "CopyHeaps$Comparison" "pending" "I"], w ∈ WS
  exact List.forall_mem_cons.mpr ⟨tw_119, List.forall_mem_cons.mpr ⟨tw_121, List.forall_mem_cons.mpr ⟨tw_123, List.forall_mem_cons.mpr ⟨tw_125, List.forall_mem_cons.mpr ⟨tw_127, fun _ h => nomatch h⟩⟩⟩⟩⟩
theorem cf1 {g : gg} {X : State → Prop} {t0 : Nat} {l : Launch} (G : gc g X t0 l) : cf g 1 (cn1, ct1, 5) cy1 := by
  refine ⟨by rw [G.1]; rfl, fun w hw => G.w (tin1 w hw), by decide +kernel, by decide +kernel, ?_⟩
  rw [G.2.1]
  decide +kernel
theorem tin2 : ∀ w ∈ u_ws cn2 ct2 4, w ∈ WS := by
  show ∀ w ∈ [Cond.lays "CopyHeaps$Heap" "CopyHeaps$Heap" "used" "I", Cond.lays "CopyHeaps$Heap" "CopyHeaps$Heap" "structureCount" "I", Cond.laysFinal "CopyHeaps$Heap" "CopyHeaps$Heap" "structures" "[I", Cond.laysFinal "CopyHeaps$Heap" "CopyHeaps$Heap" "cells" "[I"], w ∈ WS
  exact List.forall_mem_cons.mpr ⟨tw_144, List.forall_mem_cons.mpr ⟨tw_146, List.forall_mem_cons.mpr ⟨tw_148, List.forall_mem_cons.mpr ⟨tw_150, fun _ h => nomatch h⟩⟩⟩⟩
theorem cf2 {g : gg} {X : State → Prop} {t0 : Nat} {l : Launch} (G : gc g X t0 l) : cf g 2 (cn2, ct2, 4) cy2 := by
  refine ⟨by rw [G.1]; rfl, fun w hw => G.w (tin2 w hw), by decide +kernel, by decide +kernel, ?_⟩
  rw [G.2.1]
  decide +kernel
theorem tin3 : ∀ w ∈ u_ws cn3 ct3 5, w ∈ WS := by
  show ∀ w ∈ [Cond.lays "CopyHeaps$HeapProcess" "CopyHeaps$HeapProcess" "number" "I", Cond.lays "CopyHeaps$HeapProcess" "CopyHeaps$HeapProcess" "capacity" "I", Cond.lays "CopyHeaps$HeapProcess" "CopyHeaps$HeapProcess" "heap" "LCopyHeaps$Heap;", Cond.laysFinal "CopyHeaps$HeapProcess" "CopyHeaps$HeapProcess" "registers" "[I", Cond.laysFinal "CopyHeaps$HeapProcess" "CopyHeaps$HeapProcess" "mailbox" "LCopyHeaps$Mailbox;"], w ∈ WS
  exact List.forall_mem_cons.mpr ⟨tw_299, List.forall_mem_cons.mpr ⟨tw_301, List.forall_mem_cons.mpr ⟨tw_303, List.forall_mem_cons.mpr ⟨tw_305, List.forall_mem_cons.mpr ⟨tw_307, fun _ h => nomatch h⟩⟩⟩⟩⟩
theorem cf3 {g : gg} {X : State → Prop} {t0 : Nat} {l : Launch} (G : gc g X t0 l) : cf g 3 (cn3, ct3, 5) cy3 := by
  refine ⟨by rw [G.1]; rfl, fun w hw => G.w (tin3 w hw), by decide +kernel, by decide +kernel, ?_⟩
  rw [G.2.1]
  decide +kernel
theorem tin4 : ∀ w ∈ u_ws cn4 ct4 3, w ∈ WS := by
  show ∀ w ∈ [Cond.lays "CopyHeaps$Mailbox" "CopyHeaps$Mailbox" "size" "I", Cond.lays "CopyHeaps$Mailbox" "CopyHeaps$Mailbox" "first" "I", Cond.laysFinal "CopyHeaps$Mailbox" "CopyHeaps$Mailbox" "messages" "[I"], w ∈ WS
  exact List.forall_mem_cons.mpr ⟨tw_280, List.forall_mem_cons.mpr ⟨tw_282, List.forall_mem_cons.mpr ⟨tw_284, fun _ h => nomatch h⟩⟩⟩
theorem cf4 {g : gg} {X : State → Prop} {t0 : Nat} {l : Launch} (G : gc g X t0 l) : cf g 4 (cn4, ct4, 3) cy4 := by
  refine ⟨by rw [G.1]; rfl, fun w hw => G.w (tin4 w hw), by decide +kernel, by decide +kernel, ?_⟩
  rw [G.2.1]
  decide +kernel
theorem tin5 : ∀ w ∈ u_ws cn5 ct5 4, w ∈ WS := by
  show ∀ w ∈ [Cond.lays "CopyHeaps$Pool" "CopyHeaps$Pool" "free" "I", Cond.lays "CopyHeaps$Pool" "CopyHeaps$Pool" "blobs" "I", Cond.laysFinal "CopyHeaps$Pool" "CopyHeaps$Pool" "sizes" "[I", Cond.laysFinal "CopyHeaps$Pool" "CopyHeaps$Pool" "handleCounts" "[I"], w ∈ WS
  exact List.forall_mem_cons.mpr ⟨tw_53, List.forall_mem_cons.mpr ⟨tw_55, List.forall_mem_cons.mpr ⟨tw_57, List.forall_mem_cons.mpr ⟨tw_59, fun _ h => nomatch h⟩⟩⟩⟩
theorem cf5 {g : gg} {X : State → Prop} {t0 : Nat} {l : Launch} (G : gc g X t0 l) : cf g 5 (cn5, ct5, 4) cy5 := by
  refine ⟨by rw [G.1]; rfl, fun w hw => G.w (tin5 w hw), by decide +kernel, by decide +kernel, ?_⟩
  rw [G.2.1]
  decide +kernel
theorem tin6 : ∀ w ∈ u_ws cn6 ct6 9, w ∈ WS := by
  show ∀ w ∈ [Cond.laysFinal "CopyHeaps" "CopyHeaps" "poolWords" "I", Cond.laysFinal "CopyHeaps" "CopyHeaps" "pool" "LCopyHeaps$Pool;", Cond.laysFinal "CopyHeaps" "CopyHeaps" "alive" "Ljava/util/ArrayList;", Cond.laysFinal "CopyHeaps" "CopyHeaps" "ended" "Ljava/util/ArrayList;", Cond.laysFinal "CopyHeaps" "CopyHeaps" "carrier" "LCopyHeaps$Carrier;", Cond.laysFinal "CopyHeaps" "CopyHeaps" "comparison" "LCopyHeaps$Comparison;", Cond.lays "CopyHeaps" "CopyHeaps" "spare" "LCopyHeaps$Heap;", Cond.lays "CopyHeaps" "CopyHeaps" "latest" "I", Cond.lays "CopyHeaps" "CopyHeaps" "collections" "I"], w ∈ WS
  exact List.forall_mem_cons.mpr ⟨tw_162, List.forall_mem_cons.mpr ⟨tw_164, List.forall_mem_cons.mpr ⟨tw_166, List.forall_mem_cons.mpr ⟨tw_168, List.forall_mem_cons.mpr ⟨tw_170, List.forall_mem_cons.mpr ⟨tw_172, List.forall_mem_cons.mpr ⟨tw_174, List.forall_mem_cons.mpr ⟨tw_176, List.forall_mem_cons.mpr ⟨tw_178, fun _ h => nomatch h⟩⟩⟩⟩⟩⟩⟩⟩⟩
theorem cf6 {g : gg} {X : State → Prop} {t0 : Nat} {l : Launch} (G : gc g X t0 l) : cf g 6 (cn6, ct6, 9) cy6 := by
  refine ⟨by rw [G.1]; rfl, fun w hw => G.w (tin6 w hw), by decide +kernel, by decide +kernel, ?_⟩
  rw [G.2.1]
  decide +kernel
theorem tin7 : ∀ w ∈ u_ws cn7 ct7 23, w ∈ WS := by
  show ∀ w ∈ [Cond.lays "CopyHeapsModel" "CopyHeapsModel" "thrown" "I", Cond.lays "CopyHeapsModel" "CopyHeapsModel" "pool" "I", Cond.lays "CopyHeapsModel" "CopyHeapsModel" "latest" "I", Cond.lays "CopyHeapsModel" "CopyHeapsModel" "alive" "I", Cond.lays "CopyHeapsModel" "CopyHeapsModel" "collections" "I", Cond.lays "CopyHeapsModel" "CopyHeapsModel" "numbers" "[I", Cond.lays "CopyHeapsModel" "CopyHeapsModel" "capacities" "[I", Cond.lays "CopyHeapsModel" "CopyHeapsModel" "used" "[I", Cond.lays "CopyHeapsModel" "CopyHeapsModel" "registers" "[I", Cond.lays "CopyHeapsModel" "CopyHeapsModel" "mail" "[I", Cond.lays "CopyHeapsModel" "CopyHeapsModel" "messages" "[I", Cond.lays "CopyHeapsModel" "CopyHeapsModel" "words" "[I", Cond.lays "CopyHeapsModel" "CopyHeapsModel" "begins" "[I", Cond.lays "CopyHeapsModel" "CopyHeapsModel" "blobs" "I", Cond.lays "CopyHeapsModel" "CopyHeapsModel" "sizes" "[I", Cond.lays "CopyHeapsModel" "CopyHeapsModel" "counts" "[I", Cond.lays "CopyHeapsModel" "CopyHeapsModel" "end" "I", Cond.lays "CopyHeapsModel" "CopyHeapsModel" "fresh" "[I", Cond.lays "CopyHeapsModel" "CopyHeapsModel" "kinds" "[I", Cond.lays "CopyHeapsModel" "CopyHeapsModel" "moved" "[I", Cond.lays "CopyHeapsModel" "CopyHeapsModel" "ones" "[I", Cond.lays "CopyHeapsModel" "CopyHeapsModel" "others" "[I", Cond.lays "CopyHeapsModel" "CopyHeapsModel" "nexts" "[I"], w ∈ WS
  exact List.forall_mem_cons.mpr ⟨tw_833, List.forall_mem_cons.mpr ⟨tw_835, List.forall_mem_cons.mpr ⟨tw_837, List.forall_mem_cons.mpr ⟨tw_839, List.forall_mem_cons.mpr ⟨tw_841, List.forall_mem_cons.mpr ⟨tw_843, List.forall_mem_cons.mpr ⟨tw_845, List.forall_mem_cons.mpr ⟨tw_847, List.forall_mem_cons.mpr ⟨tw_849, List.forall_mem_cons.mpr ⟨tw_851, List.forall_mem_cons.mpr ⟨tw_853, List.forall_mem_cons.mpr ⟨tw_855, List.forall_mem_cons.mpr ⟨tw_857, List.forall_mem_cons.mpr ⟨tw_859, List.forall_mem_cons.mpr ⟨tw_861, List.forall_mem_cons.mpr ⟨tw_863, List.forall_mem_cons.mpr ⟨tw_865, List.forall_mem_cons.mpr ⟨tw_867, List.forall_mem_cons.mpr ⟨tw_869, List.forall_mem_cons.mpr ⟨tw_871, List.forall_mem_cons.mpr ⟨tw_873, List.forall_mem_cons.mpr ⟨tw_875, List.forall_mem_cons.mpr ⟨tw_877, fun _ h => nomatch h⟩⟩⟩⟩⟩⟩⟩⟩⟩⟩⟩⟩⟩⟩⟩⟩⟩⟩⟩⟩⟩⟩⟩
theorem cf7 {g : gg} {X : State → Prop} {t0 : Nat} {l : Launch} (G : gc g X t0 l) : cf g 7 (cn7, ct7, 23) cy7 := by
  refine ⟨by rw [G.1]; rfl, fun w hw => G.w (tin7 w hw), by decide +kernel, by decide +kernel, ?_⟩
  rw [G.2.1]
  decide +kernel
theorem tin8 : ∀ w ∈ u_ws cn8 ct8 3, w ∈ WS := by
  show ∀ w ∈ [Cond.lays "java/util/ArrayList" "java/util/AbstractList" "modCount" "I", Cond.lays "java/util/ArrayList" "java/util/ArrayList" "elementData" "[Ljava/lang/Object;", Cond.lays "java/util/ArrayList" "java/util/ArrayList" "size" "I"], w ∈ WS
  exact List.forall_mem_cons.mpr ⟨tw_86, List.forall_mem_cons.mpr ⟨tw_82, List.forall_mem_cons.mpr ⟨tw_84, fun _ h => nomatch h⟩⟩⟩
theorem cf8 {g : gg} {X : State → Prop} {t0 : Nat} {l : Launch} (G : gc g X t0 l) : cf g 8 (cn8, ct8, 3) cy8 := by
  refine ⟨by rw [G.1]; rfl, fun w hw => G.w (tin8 w hw), by decide +kernel, by decide +kernel, ?_⟩
  rw [G.2.1]
  decide +kernel
