section
-- ===== PART A: goes FIRST, ahead of the names: the tables' words, and 'selects' of the private methods out of them =====
/-- a private method of a class that the tables say can be made, by its rows of tables_1 -/
def lw_okq (q : MethodName × Nat) : Prop := (q.1.cls ≠ "java/lang/invoke/MethodHandle" ∧ q.1.cls ≠ "java/lang/invoke/VarHandle") ∧ Cond.instantiable q.1.cls q.2 ∈ tables_1 ∧ Cond.privateMethod q.1 ∈ tables_1 ∧ Cond.instanceMethod q.1 ∈ tables_1
theorem lw_p0 : lw_okq (⟨"java/lang/Throwable", "fillInStackTrace", "(I)Ljava/lang/Throwable;"⟩, 6) := ⟨⟨by decide +kernel, by decide +kernel⟩, List.mem_of_getElem? (i := 109) (by decide +kernel), List.mem_of_getElem? (i := 107) (by decide +kernel), List.mem_of_getElem? (i := 108) (by decide +kernel)⟩
theorem lw_p1 : lw_okq (⟨"CacheYard$Cache", "emptyAll", "()V"⟩, 12) := ⟨⟨by decide +kernel, by decide +kernel⟩, List.mem_of_getElem? (i := 152) (by decide +kernel), List.mem_of_getElem? (i := 204) (by decide +kernel), List.mem_of_getElem? (i := 205) (by decide +kernel)⟩
theorem lw_p2 : lw_okq (⟨"CacheYard$Cache", "countSets", "()I"⟩, 12) := ⟨⟨by decide +kernel, by decide +kernel⟩, List.mem_of_getElem? (i := 152) (by decide +kernel), List.mem_of_getElem? (i := 241) (by decide +kernel), List.mem_of_getElem? (i := 242) (by decide +kernel)⟩
theorem lw_p3 : lw_okq (⟨"CacheYard$Cache", "findPlace", "(II)I"⟩, 12) := ⟨⟨by decide +kernel, by decide +kernel⟩, List.mem_of_getElem? (i := 152) (by decide +kernel), List.mem_of_getElem? (i := 245) (by decide +kernel), List.mem_of_getElem? (i := 246) (by decide +kernel)⟩
theorem lw_p4 : lw_okq (⟨"CacheYard$Cache", "slotOf", "(II)I"⟩, 12) := ⟨⟨by decide +kernel, by decide +kernel⟩, List.mem_of_getElem? (i := 152) (by decide +kernel), List.mem_of_getElem? (i := 253) (by decide +kernel), List.mem_of_getElem? (i := 254) (by decide +kernel)⟩
theorem lw_p5 : lw_okq (⟨"CacheYard$Cache", "bringIn", "(II)I"⟩, 12) := ⟨⟨by decide +kernel, by decide +kernel⟩, List.mem_of_getElem? (i := 152) (by decide +kernel), List.mem_of_getElem? (i := 257) (by decide +kernel), List.mem_of_getElem? (i := 258) (by decide +kernel)⟩
theorem lw_p6 : lw_okq (⟨"CacheYard$Cache", "pointedPlace", "(I)I"⟩, 12) := ⟨⟨by decide +kernel, by decide +kernel⟩, List.mem_of_getElem? (i := 152) (by decide +kernel), List.mem_of_getElem? (i := 261) (by decide +kernel), List.mem_of_getElem? (i := 262) (by decide +kernel)⟩
theorem lw_p7 : lw_okq (⟨"CacheYard$Cache", "oldestPlace", "(I)I"⟩, 12) := ⟨⟨by decide +kernel, by decide +kernel⟩, List.mem_of_getElem? (i := 152) (by decide +kernel), List.mem_of_getElem? (i := 265) (by decide +kernel), List.mem_of_getElem? (i := 266) (by decide +kernel)⟩
theorem lw_p8 : lw_okq (⟨"CacheYard$Cache", "pointAway", "(II)V"⟩, 12) := ⟨⟨by decide +kernel, by decide +kernel⟩, List.mem_of_getElem? (i := 152) (by decide +kernel), List.mem_of_getElem? (i := 273) (by decide +kernel), List.mem_of_getElem? (i := 274) (by decide +kernel)⟩
theorem lw_p9 : lw_okq (⟨"CacheYard", "madeCache", "(I)LCacheYard$Cache;"⟩, 2) := ⟨⟨by decide +kernel, by decide +kernel⟩, List.mem_of_getElem? (i := 14) (by decide +kernel), List.mem_of_getElem? (i := 285) (by decide +kernel), List.mem_of_getElem? (i := 286) (by decide +kernel)⟩
theorem lw_p10 : lw_okq (⟨"CacheYard$Row", "findNextUses", "(I)V"⟩, 5) := ⟨⟨by decide +kernel, by decide +kernel⟩, List.mem_of_getElem? (i := 24) (by decide +kernel), List.mem_of_getElem? (i := 372) (by decide +kernel), List.mem_of_getElem? (i := 373) (by decide +kernel)⟩
theorem lw_p11 : lw_okq (⟨"CacheYard$Row", "findLine", "(II)I"⟩, 5) := ⟨⟨by decide +kernel, by decide +kernel⟩, List.mem_of_getElem? (i := 24) (by decide +kernel), List.mem_of_getElem? (i := 376) (by decide +kernel), List.mem_of_getElem? (i := 377) (by decide +kernel)⟩
theorem lw_p12 : lw_okq (⟨"CacheYard$Row", "lineNeededLast", "(I)I"⟩, 5) := ⟨⟨by decide +kernel, by decide +kernel⟩, List.mem_of_getElem? (i := 24) (by decide +kernel), List.mem_of_getElem? (i := 380) (by decide +kernel), List.mem_of_getElem? (i := 381) (by decide +kernel)⟩
theorem lw_p13 : lw_okq (⟨"CacheYard$Row", "bringToFront", "(II)V"⟩, 5) := ⟨⟨by decide +kernel, by decide +kernel⟩, List.mem_of_getElem? (i := 24) (by decide +kernel), List.mem_of_getElem? (i := 384) (by decide +kernel), List.mem_of_getElem? (i := 385) (by decide +kernel)⟩
theorem lw_p14 : lw_okq (⟨"CacheYardModel", "refuse", "(ZZZ)Z"⟩, 22) := ⟨⟨by decide +kernel, by decide +kernel⟩, List.mem_of_getElem? (i := 395) (by decide +kernel), List.mem_of_getElem? (i := 479) (by decide +kernel), List.mem_of_getElem? (i := 480) (by decide +kernel)⟩
theorem lw_p15 : lw_okq (⟨"CacheYardModel", "empty", "(I)V"⟩, 22) := ⟨⟨by decide +kernel, by decide +kernel⟩, List.mem_of_getElem? (i := 395) (by decide +kernel), List.mem_of_getElem? (i := 483) (by decide +kernel), List.mem_of_getElem? (i := 484) (by decide +kernel)⟩
def lw_privs_1 : List (MethodName × Nat) := [(⟨"java/lang/Throwable", "fillInStackTrace", "(I)Ljava/lang/Throwable;"⟩, 6), (⟨"CacheYard$Cache", "emptyAll", "()V"⟩, 12), (⟨"CacheYard$Cache", "countSets", "()I"⟩, 12), (⟨"CacheYard$Cache", "findPlace", "(II)I"⟩, 12), (⟨"CacheYard$Cache", "slotOf", "(II)I"⟩, 12), (⟨"CacheYard$Cache", "bringIn", "(II)I"⟩, 12), (⟨"CacheYard$Cache", "pointedPlace", "(I)I"⟩, 12), (⟨"CacheYard$Cache", "oldestPlace", "(I)I"⟩, 12), (⟨"CacheYard$Cache", "pointAway", "(II)V"⟩, 12), (⟨"CacheYard", "madeCache", "(I)LCacheYard$Cache;"⟩, 2), (⟨"CacheYard$Row", "findNextUses", "(I)V"⟩, 5), (⟨"CacheYard$Row", "findLine", "(II)I"⟩, 5), (⟨"CacheYard$Row", "lineNeededLast", "(I)I"⟩, 5), (⟨"CacheYard$Row", "bringToFront", "(II)V"⟩, 5), (⟨"CacheYardModel", "refuse", "(ZZZ)Z"⟩, 22), (⟨"CacheYardModel", "empty", "(I)V"⟩, 22)]
theorem lw_r1 : ∀ q ∈ lw_privs_1, lw_okq q := List.forall_mem_cons.mpr ⟨lw_p0, List.forall_mem_cons.mpr ⟨lw_p1, List.forall_mem_cons.mpr ⟨lw_p2, List.forall_mem_cons.mpr ⟨lw_p3, List.forall_mem_cons.mpr ⟨lw_p4, List.forall_mem_cons.mpr ⟨lw_p5, List.forall_mem_cons.mpr ⟨lw_p6, List.forall_mem_cons.mpr ⟨lw_p7, List.forall_mem_cons.mpr ⟨lw_p8, List.forall_mem_cons.mpr ⟨lw_p9, List.forall_mem_cons.mpr ⟨lw_p10, List.forall_mem_cons.mpr ⟨lw_p11, List.forall_mem_cons.mpr ⟨lw_p12, List.forall_mem_cons.mpr ⟨lw_p13, List.forall_mem_cons.mpr ⟨lw_p14, List.forall_mem_cons.mpr ⟨lw_p15, fun _ h => absurd h List.not_mem_nil⟩⟩⟩⟩⟩⟩⟩⟩⟩⟩⟩⟩⟩⟩⟩⟩
theorem lw_p16 : lw_okq (⟨"CacheYardModel", "see", "(IIZ)Z"⟩, 22) := ⟨⟨by decide +kernel, by decide +kernel⟩, List.mem_of_getElem? (i := 395) (by decide +kernel), List.mem_of_getElem? (i := 491) (by decide +kernel), List.mem_of_getElem? (i := 492) (by decide +kernel)⟩
theorem lw_p17 : lw_okq (⟨"CacheYardModel", "placeOf", "(III)I"⟩, 22) := ⟨⟨by decide +kernel, by decide +kernel⟩, List.mem_of_getElem? (i := 395) (by decide +kernel), List.mem_of_getElem? (i := 495) (by decide +kernel), List.mem_of_getElem? (i := 496) (by decide +kernel)⟩
theorem lw_p18 : lw_okq (⟨"CacheYardModel", "victimOf", "(II)I"⟩, 22) := ⟨⟨by decide +kernel, by decide +kernel⟩, List.mem_of_getElem? (i := 395) (by decide +kernel), List.mem_of_getElem? (i := 499) (by decide +kernel), List.mem_of_getElem? (i := 500) (by decide +kernel)⟩
theorem lw_p19 : lw_okq (⟨"CacheYardModel", "pointed", "(II)I"⟩, 22) := ⟨⟨by decide +kernel, by decide +kernel⟩, List.mem_of_getElem? (i := 395) (by decide +kernel), List.mem_of_getElem? (i := 503) (by decide +kernel), List.mem_of_getElem? (i := 504) (by decide +kernel)⟩
theorem lw_p20 : lw_okq (⟨"CacheYardModel", "turn", "(III)V"⟩, 22) := ⟨⟨by decide +kernel, by decide +kernel⟩, List.mem_of_getElem? (i := 395) (by decide +kernel), List.mem_of_getElem? (i := 507) (by decide +kernel), List.mem_of_getElem? (i := 508) (by decide +kernel)⟩
theorem lw_p21 : lw_okq (⟨"CacheYardModel", "isThere", "(I)Z"⟩, 22) := ⟨⟨by decide +kernel, by decide +kernel⟩, List.mem_of_getElem? (i := 395) (by decide +kernel), List.mem_of_getElem? (i := 515) (by decide +kernel), List.mem_of_getElem? (i := 516) (by decide +kernel)⟩
theorem lw_p22 : lw_okq (⟨"CacheYardModel", "count", "(IZ)I"⟩, 22) := ⟨⟨by decide +kernel, by decide +kernel⟩, List.mem_of_getElem? (i := 395) (by decide +kernel), List.mem_of_getElem? (i := 519) (by decide +kernel), List.mem_of_getElem? (i := 520) (by decide +kernel)⟩
theorem lw_p23 : lw_okq (⟨"CacheYardModel", "comes", "(III)Z"⟩, 22) := ⟨⟨by decide +kernel, by decide +kernel⟩, List.mem_of_getElem? (i := 395) (by decide +kernel), List.mem_of_getElem? (i := 539) (by decide +kernel), List.mem_of_getElem? (i := 540) (by decide +kernel)⟩
theorem lw_p24 : lw_okq (⟨"CacheYardModel", "nextOf", "(II)I"⟩, 22) := ⟨⟨by decide +kernel, by decide +kernel⟩, List.mem_of_getElem? (i := 395) (by decide +kernel), List.mem_of_getElem? (i := 547) (by decide +kernel), List.mem_of_getElem? (i := 548) (by decide +kernel)⟩
def lw_privs_2 : List (MethodName × Nat) := [(⟨"CacheYardModel", "see", "(IIZ)Z"⟩, 22), (⟨"CacheYardModel", "placeOf", "(III)I"⟩, 22), (⟨"CacheYardModel", "victimOf", "(II)I"⟩, 22), (⟨"CacheYardModel", "pointed", "(II)I"⟩, 22), (⟨"CacheYardModel", "turn", "(III)V"⟩, 22), (⟨"CacheYardModel", "isThere", "(I)Z"⟩, 22), (⟨"CacheYardModel", "count", "(IZ)I"⟩, 22), (⟨"CacheYardModel", "comes", "(III)Z"⟩, 22), (⟨"CacheYardModel", "nextOf", "(II)I"⟩, 22)]
theorem lw_r2 : ∀ q ∈ lw_privs_2, lw_okq q := List.forall_mem_cons.mpr ⟨lw_p16, List.forall_mem_cons.mpr ⟨lw_p17, List.forall_mem_cons.mpr ⟨lw_p18, List.forall_mem_cons.mpr ⟨lw_p19, List.forall_mem_cons.mpr ⟨lw_p20, List.forall_mem_cons.mpr ⟨lw_p21, List.forall_mem_cons.mpr ⟨lw_p22, List.forall_mem_cons.mpr ⟨lw_p23, List.forall_mem_cons.mpr ⟨lw_p24, fun _ h => absurd h List.not_mem_nil⟩⟩⟩⟩⟩⟩⟩⟩⟩
def lw_privs : List (MethodName × Nat) := lw_privs_1 ++ (lw_privs_2)
def lw_tbl : List Cond := k2_sels lw_privs ++ tables_1
theorem lw_privs_ok : ∀ q ∈ lw_privs, lw_okq q := by
  show ∀ q ∈ lw_privs_1 ++ (lw_privs_2), lw_okq q
  exact List.forall_mem_append.mpr ⟨lw_r1, lw_r2⟩
end
section
/-! NAMES of this claim: classes, fields, methods, words (laid by wip/whole/gen/names.py out of the Statement) -/
def zk_RC : String := "CacheYard$Cache"
def zk_RW : String := "CacheYard$Row"
def zk_RY : String := "CacheYard"
def zk_RM : String := "CacheYardModel"
def zk_RL : String := "CacheYardLaw"
def zk_RI : String := "java/lang/Integer"
def zk_TC : u_T := fun k => match k with
  | 0 => ("CacheYard$Cache", "setBits", "I", false)
  | 1 => ("CacheYard$Cache", "places", "I", false)
  | 2 => ("CacheYard$Cache", "kind", "I", false)
  | 3 => ("CacheYard$Cache", "bits", "I", false)
  | 4 => ("CacheYard$Cache", "blocks", "[I", true)
  | 5 => ("CacheYard$Cache", "dirty", "[Z", true)
  | 6 => ("CacheYard$Cache", "stamps", "[I", true)
  | 7 => ("CacheYard$Cache", "trees", "[I", true)
  | 8 => ("CacheYard$Cache", "hits", "I", false)
  | 9 => ("CacheYard$Cache", "misses", "I", false)
  | 10 => ("CacheYard$Cache", "victims", "I", false)
  | _ => ("CacheYard$Cache", "writtenBack", "I", false)
def zk_tC : Nat → FieldType := fun k => match k with
  | 0 => .int
  | 1 => .int
  | 2 => .int
  | 3 => .int
  | 4 => .array .int
  | 5 => .array .boolean
  | 6 => .array .int
  | 7 => .array .int
  | 8 => .int
  | 9 => .int
  | 10 => .int
  | _ => .int
theorem zk_nC : ∀ a, a < 12 → ∀ b, b < 12 → a ≠ b → (zk_TC a).2.1 ≠ (zk_TC b).2.1 := by decide +kernel
theorem zk_kC : ∀ k, k < 12 → parseFieldDescriptor (zk_TC k).2.2.1 = some (zk_tC k) := by decide +kernel
def zk_TW : u_T := fun k => match k with
  | 0 => ("CacheYard$Row", "addresses", "[I", true)
  | 1 => ("CacheYard$Row", "count", "I", false)
  | 2 => ("CacheYard$Row", "nextUses", "[I", true)
  | 3 => ("CacheYard$Row", "firstUses", "[I", true)
  | _ => ("CacheYard$Row", "lineUses", "[I", true)
def zk_tW : Nat → FieldType := fun k => match k with
  | 0 => .array .int
  | 1 => .int
  | 2 => .array .int
  | 3 => .array .int
  | _ => .array .int
theorem zk_nW : ∀ a, a < 5 → ∀ b, b < 5 → a ≠ b → (zk_TW a).2.1 ≠ (zk_TW b).2.1 := by decide +kernel
theorem zk_kW : ∀ k, k < 5 → parseFieldDescriptor (zk_TW k).2.2.1 = some (zk_tW k) := by decide +kernel
def zk_TY : u_T := fun k => match k with
  | 0 => ("CacheYard", "caches", "[LCacheYard$Cache;", true)
  | _ => ("CacheYard", "row", "LCacheYard$Row;", true)
def zk_tY : Nat → FieldType := fun k => match k with
  | 0 => .array (.object "CacheYard$Cache")
  | _ => .object "CacheYard$Row"
theorem zk_nY : ∀ a, a < 2 → ∀ b, b < 2 → a ≠ b → (zk_TY a).2.1 ≠ (zk_TY b).2.1 := by decide +kernel
theorem zk_kY : ∀ k, k < 2 → parseFieldDescriptor (zk_TY k).2.2.1 = some (zk_tY k) := by decide +kernel
def zk_TM : u_T := fun k => match k with
  | 0 => ("CacheYardModel", "thrown", "I", false)
  | 1 => ("CacheYardModel", "accesses", "I", false)
  | 2 => ("CacheYardModel", "address", "[I", true)
  | 3 => ("CacheYardModel", "there", "[Z", true)
  | 4 => ("CacheYardModel", "setBits", "[I", true)
  | 5 => ("CacheYardModel", "ways", "[I", true)
  | 6 => ("CacheYardModel", "kinds", "[I", true)
  | 7 => ("CacheYardModel", "bits", "[I", true)
  | 8 => ("CacheYardModel", "hits", "[I", true)
  | 9 => ("CacheYardModel", "misses", "[I", true)
  | 10 => ("CacheYardModel", "victims", "[I", true)
  | 11 => ("CacheYardModel", "written", "[I", true)
  | 12 => ("CacheYardModel", "block", "[I", true)
  | 13 => ("CacheYardModel", "dirty", "[Z", true)
  | 14 => ("CacheYardModel", "latest", "[I", true)
  | 15 => ("CacheYardModel", "came", "[I", true)
  | 16 => ("CacheYardModel", "points", "[Z", true)
  | 17 => ("CacheYardModel", "lineCount", "I", false)
  | 18 => ("CacheYardModel", "line", "[I", true)
  | 19 => ("CacheYardModel", "asked", "[I", true)
  | 20 => ("CacheYardModel", "kept", "I", false)
  | _ => ("CacheYardModel", "ends", "[I", true)
def zk_tM : Nat → FieldType := fun k => match k with
  | 0 => .int
  | 1 => .int
  | 2 => .array .int
  | 3 => .array .boolean
  | 4 => .array .int
  | 5 => .array .int
  | 6 => .array .int
  | 7 => .array .int
  | 8 => .array .int
  | 9 => .array .int
  | 10 => .array .int
  | 11 => .array .int
  | 12 => .array .int
  | 13 => .array .boolean
  | 14 => .array .int
  | 15 => .array .int
  | 16 => .array .boolean
  | 17 => .int
  | 18 => .array .int
  | 19 => .array .int
  | 20 => .int
  | _ => .array .int
theorem zk_nM : ∀ a, a < 22 → ∀ b, b < 22 → a ≠ b → (zk_TM a).2.1 ≠ (zk_TM b).2.1 := by decide +kernel
theorem zk_kM : ∀ k, k < 22 → parseFieldDescriptor (zk_TM k).2.2.1 = some (zk_tM k) := by decide +kernel
abbrev zk_cl : List vw_C := [(zk_RC, zk_TC, 12), (zk_RW, zk_TW, 5), (zk_RY, zk_TY, 2), (zk_RM, zk_TM, 22)]
abbrev kb_Y_init : ByteArray := prog_1_method_1_code
def ky_Y_init : MethodName := ⟨zk_RY, "<init>", "()V"⟩
abbrev kb_W_init : ByteArray := prog_3_method_1_code
def ky_W_init : MethodName := ⟨zk_RW, "<init>", "()V"⟩
abbrev kb_Y_accesses : ByteArray := prog_1_method_7_code
def ky_Y_accesses : MethodName := ⟨zk_RY, "accesses", "()I"⟩
abbrev kb_W_length : ByteArray := prog_3_method_2_code
def ky_W_length : MethodName := ⟨zk_RW, "length", "()I"⟩
abbrev kb_L_make : ByteArray := method_3_code
def ky_L_make : MethodName := ⟨zk_RL, "make", "(LCacheYard;IIIII)I"⟩
abbrev kb_Y_make : ByteArray := prog_1_method_2_code
def ky_Y_make : MethodName := ⟨zk_RY, "make", "(IIIII)V"⟩
abbrev kb_I_bitCount : ByteArray := prog_9_method_49_code
def ky_I_bitCount : MethodName := ⟨zk_RI, "bitCount", "(I)I"⟩
abbrev kb_Y_areBits : ByteArray := prog_1_method_12_code
def ky_Y_areBits : MethodName := ⟨zk_RY, "areBits", "(I)Z"⟩
abbrev kb_C_init : ByteArray := prog_2_method_1_code
def ky_C_init : MethodName := ⟨zk_RC, "<init>", "()V"⟩
abbrev kb_C_become : ByteArray := prog_2_method_2_code
def ky_C_become : MethodName := ⟨zk_RC, "become", "(IIII)V"⟩
abbrev kb_C_emptyAll : ByteArray := prog_2_method_10_code
def ky_C_emptyAll : MethodName := ⟨zk_RC, "emptyAll", "()V"⟩
abbrev kb_L_access : ByteArray := method_4_code
def ky_L_access : MethodName := ⟨zk_RL, "access", "(LCacheYard;IZ[J)I"⟩
abbrev kb_Y_access : ByteArray := prog_1_method_3_code
def ky_Y_access : MethodName := ⟨zk_RY, "access", "(IZ)I"⟩
abbrev kb_W_keep : ByteArray := prog_3_method_3_code
def ky_W_keep : MethodName := ⟨zk_RW, "keep", "(I)V"⟩
abbrev kb_C_sees : ByteArray := prog_2_method_3_code
def ky_C_sees : MethodName := ⟨zk_RC, "sees", "(IZI)Z"⟩
abbrev kb_C_countSets : ByteArray := prog_2_method_11_code
def ky_C_countSets : MethodName := ⟨zk_RC, "countSets", "()I"⟩
abbrev kb_C_findPlace : ByteArray := prog_2_method_13_code
def ky_C_findPlace : MethodName := ⟨zk_RC, "findPlace", "(II)I"⟩
abbrev kb_C_blockAt : ByteArray := prog_2_method_6_code
def ky_C_blockAt : MethodName := ⟨zk_RC, "blockAt", "(II)I"⟩
abbrev kb_C_slotOf : ByteArray := prog_2_method_12_code
def ky_C_slotOf : MethodName := ⟨zk_RC, "slotOf", "(II)I"⟩
abbrev kb_C_bringIn : ByteArray := prog_2_method_14_code
def ky_C_bringIn : MethodName := ⟨zk_RC, "bringIn", "(II)I"⟩
abbrev kb_C_pointedPlace : ByteArray := prog_2_method_16_code
def ky_C_pointedPlace : MethodName := ⟨zk_RC, "pointedPlace", "(I)I"⟩
abbrev kb_C_oldestPlace : ByteArray := prog_2_method_15_code
def ky_C_oldestPlace : MethodName := ⟨zk_RC, "oldestPlace", "(I)I"⟩
abbrev kb_C_isDirtyAt : ByteArray := prog_2_method_7_code
def ky_C_isDirtyAt : MethodName := ⟨zk_RC, "isDirtyAt", "(II)Z"⟩
abbrev kb_C_pointAway : ByteArray := prog_2_method_17_code
def ky_C_pointAway : MethodName := ⟨zk_RC, "pointAway", "(II)V"⟩
abbrev kb_L_flush : ByteArray := method_5_code
def ky_L_flush : MethodName := ⟨zk_RL, "flush", "(LCacheYard;I[J)I"⟩
abbrev kb_Y_flush : ByteArray := prog_1_method_4_code
def ky_Y_flush : MethodName := ⟨zk_RY, "flush", "(I)I"⟩
abbrev kb_Y_madeCache : ByteArray := prog_1_method_10_code
def ky_Y_madeCache : MethodName := ⟨zk_RY, "madeCache", "(I)LCacheYard$Cache;"⟩
abbrev kb_C_letAllGo : ByteArray := prog_2_method_4_code
def ky_C_letAllGo : MethodName := ⟨zk_RC, "letAllGo", "()I"⟩
abbrev kb_C_countDirty : ByteArray := prog_2_method_9_code
def ky_C_countDirty : MethodName := ⟨zk_RC, "countDirty", "()I"⟩
abbrev kb_L_place : ByteArray := method_6_code
def ky_L_place : MethodName := ⟨zk_RL, "place", "(LCacheYard;IIII[J)I"⟩
abbrev kb_Y_place : ByteArray := prog_1_method_5_code
def ky_Y_place : MethodName := ⟨zk_RY, "place", "(IIII)I"⟩
abbrev kb_C_hasPlace : ByteArray := prog_2_method_5_code
def ky_C_hasPlace : MethodName := ⟨zk_RC, "hasPlace", "(II)Z"⟩
abbrev kb_L_about : ByteArray := method_7_code
def ky_L_about : MethodName := ⟨zk_RL, "about", "(LCacheYard;II[J)I"⟩
abbrev kb_Y_about : ByteArray := prog_1_method_6_code
def ky_Y_about : MethodName := ⟨zk_RY, "about", "(II)I"⟩
abbrev kb_C_countHeld : ByteArray := prog_2_method_8_code
def ky_C_countHeld : MethodName := ⟨zk_RC, "countHeld", "()I"⟩
abbrev kb_L_curve : ByteArray := method_8_code
def ky_L_curve : MethodName := ⟨zk_RL, "curve", "(LCacheYard;II[J)I"⟩
abbrev kb_Y_curve : ByteArray := prog_1_method_8_code
def ky_Y_curve : MethodName := ⟨zk_RY, "curve", "(II)I"⟩
abbrev kb_Y_requireLinesAndBits : ByteArray := prog_1_method_11_code
def ky_Y_requireLinesAndBits : MethodName := ⟨zk_RY, "requireLinesAndBits", "(II)V"⟩
abbrev kb_W_countHits : ByteArray := prog_3_method_4_code
def ky_W_countHits : MethodName := ⟨zk_RW, "countHits", "(IIZ)I"⟩
abbrev kb_W_findNextUses : ByteArray := prog_3_method_5_code
def ky_W_findNextUses : MethodName := ⟨zk_RW, "findNextUses", "(I)V"⟩
abbrev kb_W_findLine : ByteArray := prog_3_method_6_code
def ky_W_findLine : MethodName := ⟨zk_RW, "findLine", "(II)I"⟩
abbrev kb_W_lineNeededLast : ByteArray := prog_3_method_7_code
def ky_W_lineNeededLast : MethodName := ⟨zk_RW, "lineNeededLast", "(I)I"⟩
abbrev kb_W_bringToFront : ByteArray := prog_3_method_8_code
def ky_W_bringToFront : MethodName := ⟨zk_RW, "bringToFront", "(II)V"⟩
abbrev kb_L_best : ByteArray := method_9_code
def ky_L_best : MethodName := ⟨zk_RL, "best", "(LCacheYard;II[J)I"⟩
abbrev kb_Y_best : ByteArray := prog_1_method_9_code
def ky_Y_best : MethodName := ⟨zk_RY, "best", "(II)I"⟩
abbrev kb_M_init : ByteArray := prog_5_method_1_code
def ky_M_init : MethodName := ⟨zk_RM, "<init>", "()V"⟩
abbrev kb_M_thrown : ByteArray := prog_5_method_2_code
def ky_M_thrown : MethodName := ⟨zk_RM, "thrown", "()I"⟩
abbrev kb_M_make : ByteArray := prog_5_method_7_code
def ky_M_make : MethodName := ⟨zk_RM, "make", "(IIIII)V"⟩
abbrev kb_M_in : ByteArray := prog_5_method_4_code
def ky_M_in : MethodName := ⟨zk_RM, "in", "(III)Z"⟩
abbrev kb_M_refuse : ByteArray := prog_5_method_3_code
def ky_M_refuse : MethodName := ⟨zk_RM, "refuse", "(ZZZ)Z"⟩
abbrev kb_M_empty : ByteArray := prog_5_method_6_code
def ky_M_empty : MethodName := ⟨zk_RM, "empty", "(I)V"⟩
abbrev kb_M_access : ByteArray := prog_5_method_13_code
def ky_M_access : MethodName := ⟨zk_RM, "access", "(IZ)I"⟩
abbrev kb_M_see : ByteArray := prog_5_method_12_code
def ky_M_see : MethodName := ⟨zk_RM, "see", "(IIZ)Z"⟩
abbrev kb_M_placeOf : ByteArray := prog_5_method_11_code
def ky_M_placeOf : MethodName := ⟨zk_RM, "placeOf", "(III)I"⟩
abbrev kb_M_victimOf : ByteArray := prog_5_method_10_code
def ky_M_victimOf : MethodName := ⟨zk_RM, "victimOf", "(II)I"⟩
abbrev kb_M_pointed : ByteArray := prog_5_method_9_code
def ky_M_pointed : MethodName := ⟨zk_RM, "pointed", "(II)I"⟩
abbrev kb_M_turn : ByteArray := prog_5_method_8_code
def ky_M_turn : MethodName := ⟨zk_RM, "turn", "(III)V"⟩
abbrev kb_M_flush : ByteArray := prog_5_method_15_code
def ky_M_flush : MethodName := ⟨zk_RM, "flush", "(I)I"⟩
abbrev kb_M_isThere : ByteArray := prog_5_method_5_code
def ky_M_isThere : MethodName := ⟨zk_RM, "isThere", "(I)Z"⟩
abbrev kb_M_count : ByteArray := prog_5_method_14_code
def ky_M_count : MethodName := ⟨zk_RM, "count", "(IZ)I"⟩
abbrev kb_M_place : ByteArray := prog_5_method_16_code
def ky_M_place : MethodName := ⟨zk_RM, "place", "(IIII)I"⟩
abbrev kb_M_about : ByteArray := prog_5_method_17_code
def ky_M_about : MethodName := ⟨zk_RM, "about", "(II)I"⟩
abbrev kb_M_accesses : ByteArray := prog_5_method_18_code
def ky_M_accesses : MethodName := ⟨zk_RM, "accesses", "()I"⟩
abbrev kb_M_curve : ByteArray := prog_5_method_20_code
def ky_M_curve : MethodName := ⟨zk_RM, "curve", "(II)I"⟩
abbrev kb_M_comes : ByteArray := prog_5_method_19_code
def ky_M_comes : MethodName := ⟨zk_RM, "comes", "(III)Z"⟩
abbrev kb_M_best : ByteArray := prog_5_method_22_code
def ky_M_best : MethodName := ⟨zk_RM, "best", "(II)I"⟩
abbrev kb_M_nextOf : ByteArray := prog_5_method_21_code
def ky_M_nextOf : MethodName := ⟨zk_RM, "nextOf", "(II)I"⟩
abbrev kb_L_law : ByteArray := code
def ky_L_law : MethodName := ⟨zk_RL, "law", "([I)Z"⟩
def kw_0 : List Cond := [(Jvm.Cond.selects "CacheYard$Cache" ({ cls := "CacheYard$Cache", name := "emptyAll", desc := "()V" } : Jvm.MethodName) ({ cls := "CacheYard$Cache", name := "emptyAll", desc := "()V" } : Jvm.MethodName)), (Jvm.Cond.selects "CacheYard$Cache" ({ cls := "CacheYard$Cache", name := "countSets", desc := "()I" } : Jvm.MethodName) ({ cls := "CacheYard$Cache", name := "countSets", desc := "()I" } : Jvm.MethodName)), (Jvm.Cond.selects "CacheYard$Cache" ({ cls := "CacheYard$Cache", name := "findPlace", desc := "(II)I" } : Jvm.MethodName) ({ cls := "CacheYard$Cache", name := "findPlace", desc := "(II)I" } : Jvm.MethodName)), (Jvm.Cond.selects "CacheYard$Cache" ({ cls := "CacheYard$Cache", name := "slotOf", desc := "(II)I" } : Jvm.MethodName) ({ cls := "CacheYard$Cache", name := "slotOf", desc := "(II)I" } : Jvm.MethodName)), (Jvm.Cond.selects "CacheYard$Cache" ({ cls := "CacheYard$Cache", name := "bringIn", desc := "(II)I" } : Jvm.MethodName) ({ cls := "CacheYard$Cache", name := "bringIn", desc := "(II)I" } : Jvm.MethodName)), (Jvm.Cond.selects "CacheYard$Cache" ({ cls := "CacheYard$Cache", name := "pointedPlace", desc := "(I)I" } : Jvm.MethodName) ({ cls := "CacheYard$Cache", name := "pointedPlace", desc := "(I)I" } : Jvm.MethodName)), (Jvm.Cond.selects "CacheYard$Cache" ({ cls := "CacheYard$Cache", name := "oldestPlace", desc := "(I)I" } : Jvm.MethodName) ({ cls := "CacheYard$Cache", name := "oldestPlace", desc := "(I)I" } : Jvm.MethodName)), (Jvm.Cond.selects "CacheYard$Cache" ({ cls := "CacheYard$Cache", name := "pointAway", desc := "(II)V" } : Jvm.MethodName) ({ cls := "CacheYard$Cache", name := "pointAway", desc := "(II)V" } : Jvm.MethodName)), (Jvm.Cond.selects "CacheYard" ({ cls := "CacheYard", name := "madeCache", desc := "(I)LCacheYard$Cache;" } : Jvm.MethodName) ({ cls := "CacheYard", name := "madeCache", desc := "(I)LCacheYard$Cache;" } : Jvm.MethodName)), (Jvm.Cond.selects "CacheYard$Row" ({ cls := "CacheYard$Row", name := "findNextUses", desc := "(I)V" } : Jvm.MethodName) ({ cls := "CacheYard$Row", name := "findNextUses", desc := "(I)V" } : Jvm.MethodName)), (Jvm.Cond.selects "CacheYard$Row" ({ cls := "CacheYard$Row", name := "findLine", desc := "(II)I" } : Jvm.MethodName) ({ cls := "CacheYard$Row", name := "findLine", desc := "(II)I" } : Jvm.MethodName)), (Jvm.Cond.selects "CacheYard$Row" ({ cls := "CacheYard$Row", name := "lineNeededLast", desc := "(I)I" } : Jvm.MethodName) ({ cls := "CacheYard$Row", name := "lineNeededLast", desc := "(I)I" } : Jvm.MethodName)), (Jvm.Cond.selects "CacheYard$Row" ({ cls := "CacheYard$Row", name := "bringToFront", desc := "(II)V" } : Jvm.MethodName) ({ cls := "CacheYard$Row", name := "bringToFront", desc := "(II)V" } : Jvm.MethodName)), (Jvm.Cond.selects "CacheYardModel" ({ cls := "CacheYardModel", name := "refuse", desc := "(ZZZ)Z" } : Jvm.MethodName) ({ cls := "CacheYardModel", name := "refuse", desc := "(ZZZ)Z" } : Jvm.MethodName)), (Jvm.Cond.selects "CacheYardModel" ({ cls := "CacheYardModel", name := "empty", desc := "(I)V" } : Jvm.MethodName) ({ cls := "CacheYardModel", name := "empty", desc := "(I)V" } : Jvm.MethodName)), (Jvm.Cond.selects "CacheYardModel" ({ cls := "CacheYardModel", name := "see", desc := "(IIZ)Z" } : Jvm.MethodName) ({ cls := "CacheYardModel", name := "see", desc := "(IIZ)Z" } : Jvm.MethodName)), (Jvm.Cond.selects "CacheYardModel" ({ cls := "CacheYardModel", name := "placeOf", desc := "(III)I" } : Jvm.MethodName) ({ cls := "CacheYardModel", name := "placeOf", desc := "(III)I" } : Jvm.MethodName)), (Jvm.Cond.selects "CacheYardModel" ({ cls := "CacheYardModel", name := "victimOf", desc := "(II)I" } : Jvm.MethodName) ({ cls := "CacheYardModel", name := "victimOf", desc := "(II)I" } : Jvm.MethodName)), (Jvm.Cond.selects "CacheYardModel" ({ cls := "CacheYardModel", name := "pointed", desc := "(II)I" } : Jvm.MethodName) ({ cls := "CacheYardModel", name := "pointed", desc := "(II)I" } : Jvm.MethodName)), (Jvm.Cond.selects "CacheYardModel" ({ cls := "CacheYardModel", name := "turn", desc := "(III)V" } : Jvm.MethodName) ({ cls := "CacheYardModel", name := "turn", desc := "(III)V" } : Jvm.MethodName)), (Jvm.Cond.selects "CacheYardModel" ({ cls := "CacheYardModel", name := "isThere", desc := "(I)Z" } : Jvm.MethodName) ({ cls := "CacheYardModel", name := "isThere", desc := "(I)Z" } : Jvm.MethodName)), (Jvm.Cond.selects "CacheYardModel" ({ cls := "CacheYardModel", name := "count", desc := "(IZ)I" } : Jvm.MethodName) ({ cls := "CacheYardModel", name := "count", desc := "(IZ)I" } : Jvm.MethodName)), (Jvm.Cond.selects "CacheYardModel" ({ cls := "CacheYardModel", name := "comes", desc := "(III)Z" } : Jvm.MethodName) ({ cls := "CacheYardModel", name := "comes", desc := "(III)Z" } : Jvm.MethodName)), (Jvm.Cond.selects "CacheYardModel" ({ cls := "CacheYardModel", name := "nextOf", desc := "(II)I" } : Jvm.MethodName) ({ cls := "CacheYardModel", name := "nextOf", desc := "(II)I" } : Jvm.MethodName)), (Jvm.Cond.initialized "CacheYardLaw"), (Jvm.Cond.initialized "CacheYard"), (Jvm.Cond.initialized "CacheYard$Row"), (Jvm.Cond.initialized "CacheYardModel"), (Jvm.Cond.initialized "java/lang/Throwable"), (Jvm.Cond.initialized "java/lang/Exception"), (Jvm.Cond.initialized "java/lang/RuntimeException"), (Jvm.Cond.initialized "java/lang/IllegalArgumentException"), (Jvm.Cond.initialized "java/lang/Integer"), (Jvm.Cond.initialized "CacheYard$Cache"), (Jvm.Cond.initialized "java/lang/UnsupportedOperationException"), (Jvm.Cond.initialized "java/util/NoSuchElementException"), (Jvm.Cond.initialized "java/lang/IndexOutOfBoundsException"), (Jvm.Cond.classLink "CacheYardLaw" (8 : Nat) "CacheYard"), (Jvm.Cond.instantiable "CacheYard" (2 : Nat)), (Jvm.Cond.methodLink "CacheYardLaw" (43 : Nat) ({ cls := "CacheYard", name := "<init>", desc := "()V" } : Jvm.MethodName)), (Jvm.Cond.instanceMethod ({ cls := "CacheYard", name := "<init>", desc := "()V" } : Jvm.MethodName)), (Jvm.Cond.code ({ cls := "CacheYard", name := "<init>", desc := "()V" } : Jvm.MethodName) prog_1_method_1_code (1 : Nat) (Option.none : Option Jvm.ClassFile.FieldType)), (Jvm.Cond.methodLink "CacheYard" (1 : Nat) ({ cls := "java/lang/Object", name := "<init>", desc := "()V" } : Jvm.MethodName)), (Jvm.Cond.instanceMethod ({ cls := "java/lang/Object", name := "<init>", desc := "()V" } : Jvm.MethodName)), (Jvm.Cond.code ({ cls := "java/lang/Object", name := "<init>", desc := "()V" } : Jvm.MethodName) object_method_1_code (1 : Nat) (Option.none : Option Jvm.ClassFile.FieldType)), (Jvm.Cond.classLink "CacheYard" (9 : Nat) "CacheYard$Cache"), (Jvm.Cond.classLink "CacheYard" (15 : Nat) "CacheYard$Row"), (Jvm.Cond.instantiable "CacheYard$Row" (5 : Nat)), (Jvm.Cond.instanceMethod ({ cls := "CacheYard$Row", name := "<init>", desc := "()V" } : Jvm.MethodName)), (Jvm.Cond.code ({ cls := "CacheYard$Row", name := "<init>", desc := "()V" } : Jvm.MethodName) prog_3_method_1_code (1 : Nat) (Option.none : Option Jvm.ClassFile.FieldType)), (Jvm.Cond.methodLink "CacheYard$Row" (3 : Nat) ({ cls := "java/lang/Object", name := "<init>", desc := "()V" } : Jvm.MethodName)), (Jvm.Cond.fieldLink "CacheYard$Row" (9 : Nat) "CacheYard$Row" "addresses" "[I"), (Jvm.Cond.fieldLink "CacheYard$Row" (24 : Nat) "CacheYard$Row" "count" "I"), (Jvm.Cond.fieldLink "CacheYard$Row" (15 : Nat) "CacheYard$Row" "nextUses" "[I"), (Jvm.Cond.fieldLink "CacheYard$Row" (18 : Nat) "CacheYard$Row" "firstUses" "[I"), (Jvm.Cond.fieldLink "CacheYard$Row" (21 : Nat) "CacheYard$Row" "lineUses" "[I"), (Jvm.Cond.laysFinal "CacheYard$Row" "CacheYard$Row" "addresses" "[I"), (Jvm.Cond.lays "CacheYard$Row" "CacheYard$Row" "count" "I"), (Jvm.Cond.laysFinal "CacheYard$Row" "CacheYard$Row" "nextUses" "[I"), (Jvm.Cond.laysFinal "CacheYard$Row" "CacheYard$Row" "firstUses" "[I")]
def kw_1 : List Cond := [(Jvm.Cond.laysFinal "CacheYard$Row" "CacheYard$Row" "lineUses" "[I"), (Jvm.Cond.arrayClass Jvm.ClassFile.FieldType.int), (Jvm.Cond.fieldLink "CacheYard" (11 : Nat) "CacheYard" "caches" "[LCacheYard$Cache;"), (Jvm.Cond.fieldLink "CacheYard" (18 : Nat) "CacheYard" "row" "LCacheYard$Row;"), (Jvm.Cond.laysFinal "CacheYard" "CacheYard" "caches" "[LCacheYard$Cache;"), (Jvm.Cond.laysFinal "CacheYard" "CacheYard" "row" "LCacheYard$Row;"), (Jvm.Cond.methodLink "CacheYardLaw" (73 : Nat) ({ cls := "CacheYard", name := "accesses", desc := "()I" } : Jvm.MethodName)), (Jvm.Cond.instanceMethod ({ cls := "CacheYard", name := "accesses", desc := "()I" } : Jvm.MethodName)), (Jvm.Cond.selects "CacheYard" ({ cls := "CacheYard", name := "accesses", desc := "()I" } : Jvm.MethodName) ({ cls := "CacheYard", name := "accesses", desc := "()I" } : Jvm.MethodName)), (Jvm.Cond.code ({ cls := "CacheYard", name := "accesses", desc := "()I" } : Jvm.MethodName) prog_1_method_7_code (1 : Nat) (Option.some Jvm.ClassFile.FieldType.int)), (Jvm.Cond.methodLink "CacheYard" (56 : Nat) ({ cls := "CacheYard$Row", name := "length", desc := "()I" } : Jvm.MethodName)), (Jvm.Cond.instanceMethod ({ cls := "CacheYard$Row", name := "length", desc := "()I" } : Jvm.MethodName)), (Jvm.Cond.selects "CacheYard$Row" ({ cls := "CacheYard$Row", name := "length", desc := "()I" } : Jvm.MethodName) ({ cls := "CacheYard$Row", name := "length", desc := "()I" } : Jvm.MethodName)), (Jvm.Cond.code ({ cls := "CacheYard$Row", name := "length", desc := "()I" } : Jvm.MethodName) prog_3_method_2_code (1 : Nat) (Option.some Jvm.ClassFile.FieldType.int)), (Jvm.Cond.methodLink "CacheYardLaw" (47 : Nat) ({ cls := "CacheYardLaw", name := "make", desc := "(LCacheYard;IIIII)I" } : Jvm.MethodName)), (Jvm.Cond.static ({ cls := "CacheYardLaw", name := "make", desc := "(LCacheYard;IIIII)I" } : Jvm.MethodName)), (Jvm.Cond.codeWith ({ cls := "CacheYardLaw", name := "make", desc := "(LCacheYard;IIIII)I" } : Jvm.MethodName) method_3_code (7 : Nat) (Option.some Jvm.ClassFile.FieldType.int) [((0 : Nat), (11 : Nat), (14 : Nat), (13 : Nat))]), (Jvm.Cond.classLink "CacheYardLaw" (13 : Nat) "java/lang/IllegalArgumentException"), (Jvm.Cond.methodLink "CacheYardLaw" (7 : Nat) ({ cls := "CacheYard", name := "make", desc := "(IIIII)V" } : Jvm.MethodName)), (Jvm.Cond.instanceMethod ({ cls := "CacheYard", name := "make", desc := "(IIIII)V" } : Jvm.MethodName)), (Jvm.Cond.selects "CacheYard" ({ cls := "CacheYard", name := "make", desc := "(IIIII)V" } : Jvm.MethodName) ({ cls := "CacheYard", name := "make", desc := "(IIIII)V" } : Jvm.MethodName)), (Jvm.Cond.code ({ cls := "CacheYard", name := "make", desc := "(IIIII)V" } : Jvm.MethodName) prog_1_method_2_code (7 : Nat) (Option.none : Option Jvm.ClassFile.FieldType)), (Jvm.Cond.classLink "CacheYard" (22 : Nat) "java/lang/IllegalArgumentException"), (Jvm.Cond.instantiable "java/lang/IllegalArgumentException" (6 : Nat)), (Jvm.Cond.selects "java/lang/IllegalArgumentException" ({ cls := "java/lang/Throwable", name := "fillInStackTrace", desc := "(I)Ljava/lang/Throwable;" } : Jvm.MethodName) ({ cls := "java/lang/Throwable", name := "fillInStackTrace", desc := "(I)Ljava/lang/Throwable;" } : Jvm.MethodName)), (Jvm.Cond.selects "java/lang/IllegalArgumentException" ({ cls := "java/lang/Throwable", name := "fillInStackTrace", desc := "()Ljava/lang/Throwable;" } : Jvm.MethodName) ({ cls := "java/lang/Throwable", name := "fillInStackTrace", desc := "()Ljava/lang/Throwable;" } : Jvm.MethodName)), (Jvm.Cond.lays "java/lang/IllegalArgumentException" "java/lang/Throwable" "cause" "Ljava/lang/Throwable;"), (Jvm.Cond.lays "java/lang/Throwable" "java/lang/Throwable" "cause" "Ljava/lang/Throwable;"), (Jvm.Cond.lays "java/lang/IllegalArgumentException" "java/lang/Throwable" "stackTrace" "[Ljava/lang/StackTraceElement;"), (Jvm.Cond.lays "java/lang/Throwable" "java/lang/Throwable" "stackTrace" "[Ljava/lang/StackTraceElement;"), (Jvm.Cond.lays "java/lang/IllegalArgumentException" "java/lang/Throwable" "suppressedExceptions" "Ljava/util/List;"), (Jvm.Cond.lays "java/lang/Throwable" "java/lang/Throwable" "suppressedExceptions" "Ljava/util/List;"), (Jvm.Cond.lays "java/lang/IllegalArgumentException" "java/lang/Throwable" "detailMessage" "Ljava/lang/String;"), (Jvm.Cond.lays "java/lang/Throwable" "java/lang/Throwable" "detailMessage" "Ljava/lang/String;"), (Jvm.Cond.lays "java/lang/IllegalArgumentException" "java/lang/Throwable" "backtrace" "Ljava/lang/Object;"), (Jvm.Cond.lays "java/lang/Throwable" "java/lang/Throwable" "backtrace" "Ljava/lang/Object;"), (Jvm.Cond.fieldLink "java/lang/Throwable" (198 : Nat) "java/lang/Throwable" "backtrace" "Ljava/lang/Object;"), (Jvm.Cond.instanceMethod ({ cls := "java/lang/Throwable", name := "<init>", desc := "()V" } : Jvm.MethodName)), (Jvm.Cond.code ({ cls := "java/lang/Throwable", name := "<init>", desc := "()V" } : Jvm.MethodName) prog_12_method_1_code (1 : Nat) (Option.none : Option Jvm.ClassFile.FieldType)), (Jvm.Cond.methodLink "java/lang/Throwable" (1 : Nat) ({ cls := "java/lang/Object", name := "<init>", desc := "()V" } : Jvm.MethodName)), (Jvm.Cond.fieldLink "java/lang/Throwable" (13 : Nat) "java/lang/Throwable" "UNASSIGNED_STACK" "[Ljava/lang/StackTraceElement;"), (Jvm.Cond.fieldLink "java/lang/Throwable" (20 : Nat) "java/lang/Throwable" "SUPPRESSED_SENTINEL" "Ljava/util/List;"), (Jvm.Cond.methodLink "java/lang/Throwable" (27 : Nat) ({ cls := "java/lang/Throwable", name := "fillInStackTrace", desc := "()Ljava/lang/Throwable;" } : Jvm.MethodName)), (Jvm.Cond.instanceMethod ({ cls := "java/lang/Throwable", name := "fillInStackTrace", desc := "()Ljava/lang/Throwable;" } : Jvm.MethodName)), (Jvm.Cond.selects "java/lang/IndexOutOfBoundsException" ({ cls := "java/lang/Throwable", name := "fillInStackTrace", desc := "()Ljava/lang/Throwable;" } : Jvm.MethodName) ({ cls := "java/lang/Throwable", name := "fillInStackTrace", desc := "()Ljava/lang/Throwable;" } : Jvm.MethodName)), (Jvm.Cond.selects "java/lang/UnsupportedOperationException" ({ cls := "java/lang/Throwable", name := "fillInStackTrace", desc := "()Ljava/lang/Throwable;" } : Jvm.MethodName) ({ cls := "java/lang/Throwable", name := "fillInStackTrace", desc := "()Ljava/lang/Throwable;" } : Jvm.MethodName)), (Jvm.Cond.selects "java/util/NoSuchElementException" ({ cls := "java/lang/Throwable", name := "fillInStackTrace", desc := "()Ljava/lang/Throwable;" } : Jvm.MethodName) ({ cls := "java/lang/Throwable", name := "fillInStackTrace", desc := "()Ljava/lang/Throwable;" } : Jvm.MethodName)), (Jvm.Cond.methodLink "java/lang/Throwable" (202 : Nat) ({ cls := "java/lang/Throwable", name := "fillInStackTrace", desc := "(I)Ljava/lang/Throwable;" } : Jvm.MethodName)), (Jvm.Cond.instanceMethod ({ cls := "java/lang/Throwable", name := "fillInStackTrace", desc := "(I)Ljava/lang/Throwable;" } : Jvm.MethodName)), (Jvm.Cond.instantiable "java/lang/Throwable" (6 : Nat)), (Jvm.Cond.methodLink "CacheYard" (26 : Nat) ({ cls := "java/lang/IllegalArgumentException", name := "<init>", desc := "(Ljava/lang/String;)V" } : Jvm.MethodName)), (Jvm.Cond.instanceMethod ({ cls := "java/lang/IllegalArgumentException", name := "<init>", desc := "(Ljava/lang/String;)V" } : Jvm.MethodName)), (Jvm.Cond.code ({ cls := "java/lang/IllegalArgumentException", name := "<init>", desc := "(Ljava/lang/String;)V" } : Jvm.MethodName) prog_7_method_2_code (2 : Nat) (Option.none : Option Jvm.ClassFile.FieldType)), (Jvm.Cond.methodLink "java/lang/IllegalArgumentException" (7 : Nat) ({ cls := "java/lang/RuntimeException", name := "<init>", desc := "(Ljava/lang/String;)V" } : Jvm.MethodName)), (Jvm.Cond.instanceMethod ({ cls := "java/lang/RuntimeException", name := "<init>", desc := "(Ljava/lang/String;)V" } : Jvm.MethodName)), (Jvm.Cond.code ({ cls := "java/lang/RuntimeException", name := "<init>", desc := "(Ljava/lang/String;)V" } : Jvm.MethodName) prog_10_method_2_code (2 : Nat) (Option.none : Option Jvm.ClassFile.FieldType)), (Jvm.Cond.methodLink "java/lang/RuntimeException" (7 : Nat) ({ cls := "java/lang/Exception", name := "<init>", desc := "(Ljava/lang/String;)V" } : Jvm.MethodName)), (Jvm.Cond.instanceMethod ({ cls := "java/lang/Exception", name := "<init>", desc := "(Ljava/lang/String;)V" } : Jvm.MethodName)), (Jvm.Cond.code ({ cls := "java/lang/Exception", name := "<init>", desc := "(Ljava/lang/String;)V" } : Jvm.MethodName) prog_6_method_2_code (2 : Nat) (Option.none : Option Jvm.ClassFile.FieldType)), (Jvm.Cond.methodLink "java/lang/Exception" (7 : Nat) ({ cls := "java/lang/Throwable", name := "<init>", desc := "(Ljava/lang/String;)V" } : Jvm.MethodName))]
def kw_2 : List Cond := [(Jvm.Cond.instanceMethod ({ cls := "java/lang/Throwable", name := "<init>", desc := "(Ljava/lang/String;)V" } : Jvm.MethodName)), (Jvm.Cond.code ({ cls := "java/lang/Throwable", name := "<init>", desc := "(Ljava/lang/String;)V" } : Jvm.MethodName) prog_12_method_2_code (2 : Nat) (Option.none : Option Jvm.ClassFile.FieldType)), (Jvm.Cond.fieldLink "java/lang/Throwable" (198 : Nat) "java/lang/Throwable" "backtrace" "Ljava/lang/Object;"), (Jvm.Cond.fieldLink "java/lang/Throwable" (31 : Nat) "java/lang/Throwable" "detailMessage" "Ljava/lang/String;"), (Jvm.Cond.fieldLink "java/lang/Throwable" (7 : Nat) "java/lang/Throwable" "cause" "Ljava/lang/Throwable;"), (Jvm.Cond.fieldLink "java/lang/Throwable" (17 : Nat) "java/lang/Throwable" "stackTrace" "[Ljava/lang/StackTraceElement;"), (Jvm.Cond.fieldLink "java/lang/Throwable" (24 : Nat) "java/lang/Throwable" "suppressedExceptions" "Ljava/util/List;"), (Jvm.Cond.lays "java/lang/IllegalArgumentException" "java/lang/Throwable" "depth" "I"), (Jvm.Cond.arrayClass Jvm.ClassFile.FieldType.byte), (Jvm.Cond.methodLink "CacheYard" (35 : Nat) ({ cls := "java/lang/Integer", name := "bitCount", desc := "(I)I" } : Jvm.MethodName)), (Jvm.Cond.static ({ cls := "java/lang/Integer", name := "bitCount", desc := "(I)I" } : Jvm.MethodName)), (Jvm.Cond.code ({ cls := "java/lang/Integer", name := "bitCount", desc := "(I)I" } : Jvm.MethodName) prog_9_method_49_code (1 : Nat) (Option.some Jvm.ClassFile.FieldType.int)), (Jvm.Cond.constant "java/lang/Integer" (265 : Nat) (1431655765 : Int32)), (Jvm.Cond.constant "java/lang/Integer" (266 : Nat) (858993459 : Int32)), (Jvm.Cond.constant "java/lang/Integer" (267 : Nat) (252645135 : Int32)), (Jvm.Cond.methodLink "CacheYard" (43 : Nat) ({ cls := "CacheYard", name := "areBits", desc := "(I)Z" } : Jvm.MethodName)), (Jvm.Cond.static ({ cls := "CacheYard", name := "areBits", desc := "(I)Z" } : Jvm.MethodName)), (Jvm.Cond.code ({ cls := "CacheYard", name := "areBits", desc := "(I)Z" } : Jvm.MethodName) prog_1_method_12_code (1 : Nat) (Option.some Jvm.ClassFile.FieldType.boolean)), (Jvm.Cond.instantiable "CacheYard$Cache" (12 : Nat)), (Jvm.Cond.instanceMethod ({ cls := "CacheYard$Cache", name := "<init>", desc := "()V" } : Jvm.MethodName)), (Jvm.Cond.code ({ cls := "CacheYard$Cache", name := "<init>", desc := "()V" } : Jvm.MethodName) prog_2_method_1_code (1 : Nat) (Option.none : Option Jvm.ClassFile.FieldType)), (Jvm.Cond.methodLink "CacheYard$Cache" (3 : Nat) ({ cls := "java/lang/Object", name := "<init>", desc := "()V" } : Jvm.MethodName)), (Jvm.Cond.fieldLink "CacheYard$Cache" (25 : Nat) "CacheYard$Cache" "setBits" "I"), (Jvm.Cond.fieldLink "CacheYard$Cache" (29 : Nat) "CacheYard$Cache" "places" "I"), (Jvm.Cond.fieldLink "CacheYard$Cache" (32 : Nat) "CacheYard$Cache" "kind" "I"), (Jvm.Cond.fieldLink "CacheYard$Cache" (35 : Nat) "CacheYard$Cache" "bits" "I"), (Jvm.Cond.fieldLink "CacheYard$Cache" (9 : Nat) "CacheYard$Cache" "blocks" "[I"), (Jvm.Cond.fieldLink "CacheYard$Cache" (15 : Nat) "CacheYard$Cache" "dirty" "[Z"), (Jvm.Cond.fieldLink "CacheYard$Cache" (19 : Nat) "CacheYard$Cache" "stamps" "[I"), (Jvm.Cond.fieldLink "CacheYard$Cache" (22 : Nat) "CacheYard$Cache" "trees" "[I"), (Jvm.Cond.fieldLink "CacheYard$Cache" (38 : Nat) "CacheYard$Cache" "hits" "I"), (Jvm.Cond.fieldLink "CacheYard" (98 : Nat) "CacheYard$Cache" "hits" "I"), (Jvm.Cond.fieldLink "CacheYard$Cache" (41 : Nat) "CacheYard$Cache" "misses" "I"), (Jvm.Cond.fieldLink "CacheYard" (102 : Nat) "CacheYard$Cache" "misses" "I"), (Jvm.Cond.fieldLink "CacheYard$Cache" (44 : Nat) "CacheYard$Cache" "victims" "I"), (Jvm.Cond.fieldLink "CacheYard" (105 : Nat) "CacheYard$Cache" "victims" "I"), (Jvm.Cond.fieldLink "CacheYard$Cache" (47 : Nat) "CacheYard$Cache" "writtenBack" "I"), (Jvm.Cond.fieldLink "CacheYard" (108 : Nat) "CacheYard$Cache" "writtenBack" "I"), (Jvm.Cond.lays "CacheYard$Cache" "CacheYard$Cache" "setBits" "I"), (Jvm.Cond.lays "CacheYard$Cache" "CacheYard$Cache" "places" "I"), (Jvm.Cond.lays "CacheYard$Cache" "CacheYard$Cache" "kind" "I"), (Jvm.Cond.lays "CacheYard$Cache" "CacheYard$Cache" "bits" "I"), (Jvm.Cond.laysFinal "CacheYard$Cache" "CacheYard$Cache" "blocks" "[I"), (Jvm.Cond.laysFinal "CacheYard$Cache" "CacheYard$Cache" "dirty" "[Z"), (Jvm.Cond.laysFinal "CacheYard$Cache" "CacheYard$Cache" "stamps" "[I"), (Jvm.Cond.laysFinal "CacheYard$Cache" "CacheYard$Cache" "trees" "[I"), (Jvm.Cond.lays "CacheYard$Cache" "CacheYard$Cache" "hits" "I"), (Jvm.Cond.lays "CacheYard$Cache" "CacheYard$Cache" "misses" "I"), (Jvm.Cond.lays "CacheYard$Cache" "CacheYard$Cache" "victims" "I"), (Jvm.Cond.lays "CacheYard$Cache" "CacheYard$Cache" "writtenBack" "I"), (Jvm.Cond.arrayClass Jvm.ClassFile.FieldType.boolean), (Jvm.Cond.methodLink "CacheYard" (50 : Nat) ({ cls := "CacheYard$Cache", name := "become", desc := "(IIII)V" } : Jvm.MethodName)), (Jvm.Cond.instanceMethod ({ cls := "CacheYard$Cache", name := "become", desc := "(IIII)V" } : Jvm.MethodName)), (Jvm.Cond.selects "CacheYard$Cache" ({ cls := "CacheYard$Cache", name := "become", desc := "(IIII)V" } : Jvm.MethodName) ({ cls := "CacheYard$Cache", name := "become", desc := "(IIII)V" } : Jvm.MethodName)), (Jvm.Cond.code ({ cls := "CacheYard$Cache", name := "become", desc := "(IIII)V" } : Jvm.MethodName) prog_2_method_2_code (5 : Nat) (Option.none : Option Jvm.ClassFile.FieldType)), (Jvm.Cond.methodLink "CacheYard$Cache" (50 : Nat) ({ cls := "CacheYard$Cache", name := "emptyAll", desc := "()V" } : Jvm.MethodName)), (Jvm.Cond.instanceMethod ({ cls := "CacheYard$Cache", name := "emptyAll", desc := "()V" } : Jvm.MethodName)), (Jvm.Cond.code ({ cls := "CacheYard$Cache", name := "emptyAll", desc := "()V" } : Jvm.MethodName) prog_2_method_10_code (2 : Nat) (Option.none : Option Jvm.ClassFile.FieldType)), (Jvm.Cond.methodLink "CacheYardLaw" (57 : Nat) ({ cls := "CacheYardLaw", name := "access", desc := "(LCacheYard;IZ[J)I" } : Jvm.MethodName)), (Jvm.Cond.static ({ cls := "CacheYardLaw", name := "access", desc := "(LCacheYard;IZ[J)I" } : Jvm.MethodName))]
def kw_3 : List Cond := [(Jvm.Cond.codeWith ({ cls := "CacheYardLaw", name := "access", desc := "(LCacheYard;IZ[J)I" } : Jvm.MethodName) method_4_code (5 : Nat) (Option.some Jvm.ClassFile.FieldType.int) [((0 : Nat), (10 : Nat), (13 : Nat), (13 : Nat)), ((0 : Nat), (10 : Nat), (17 : Nat), (19 : Nat))]), (Jvm.Cond.classLink "CacheYardLaw" (19 : Nat) "java/lang/UnsupportedOperationException"), (Jvm.Cond.methodLink "CacheYardLaw" (15 : Nat) ({ cls := "CacheYard", name := "access", desc := "(IZ)I" } : Jvm.MethodName)), (Jvm.Cond.instanceMethod ({ cls := "CacheYard", name := "access", desc := "(IZ)I" } : Jvm.MethodName)), (Jvm.Cond.selects "CacheYard" ({ cls := "CacheYard", name := "access", desc := "(IZ)I" } : Jvm.MethodName) ({ cls := "CacheYard", name := "access", desc := "(IZ)I" } : Jvm.MethodName)), (Jvm.Cond.code ({ cls := "CacheYard", name := "access", desc := "(IZ)I" } : Jvm.MethodName) prog_1_method_3_code (7 : Nat) (Option.some Jvm.ClassFile.FieldType.int)), (Jvm.Cond.classLink "CacheYard" (60 : Nat) "java/lang/UnsupportedOperationException"), (Jvm.Cond.instantiable "java/lang/UnsupportedOperationException" (6 : Nat)), (Jvm.Cond.selects "java/lang/UnsupportedOperationException" ({ cls := "java/lang/Throwable", name := "fillInStackTrace", desc := "(I)Ljava/lang/Throwable;" } : Jvm.MethodName) ({ cls := "java/lang/Throwable", name := "fillInStackTrace", desc := "(I)Ljava/lang/Throwable;" } : Jvm.MethodName)), (Jvm.Cond.lays "java/lang/UnsupportedOperationException" "java/lang/Throwable" "cause" "Ljava/lang/Throwable;"), (Jvm.Cond.lays "java/lang/UnsupportedOperationException" "java/lang/Throwable" "stackTrace" "[Ljava/lang/StackTraceElement;"), (Jvm.Cond.lays "java/lang/UnsupportedOperationException" "java/lang/Throwable" "suppressedExceptions" "Ljava/util/List;"), (Jvm.Cond.lays "java/lang/UnsupportedOperationException" "java/lang/Throwable" "detailMessage" "Ljava/lang/String;"), (Jvm.Cond.lays "java/lang/UnsupportedOperationException" "java/lang/Throwable" "backtrace" "Ljava/lang/Object;"), (Jvm.Cond.methodLink "CacheYard" (64 : Nat) ({ cls := "java/lang/UnsupportedOperationException", name := "<init>", desc := "(Ljava/lang/String;)V" } : Jvm.MethodName)), (Jvm.Cond.instanceMethod ({ cls := "java/lang/UnsupportedOperationException", name := "<init>", desc := "(Ljava/lang/String;)V" } : Jvm.MethodName)), (Jvm.Cond.code ({ cls := "java/lang/UnsupportedOperationException", name := "<init>", desc := "(Ljava/lang/String;)V" } : Jvm.MethodName) prog_13_method_2_code (2 : Nat) (Option.none : Option Jvm.ClassFile.FieldType)), (Jvm.Cond.methodLink "java/lang/UnsupportedOperationException" (7 : Nat) ({ cls := "java/lang/RuntimeException", name := "<init>", desc := "(Ljava/lang/String;)V" } : Jvm.MethodName)), (Jvm.Cond.lays "java/lang/UnsupportedOperationException" "java/lang/Throwable" "depth" "I"), (Jvm.Cond.methodLink "CacheYard" (65 : Nat) ({ cls := "CacheYard$Row", name := "keep", desc := "(I)V" } : Jvm.MethodName)), (Jvm.Cond.instanceMethod ({ cls := "CacheYard$Row", name := "keep", desc := "(I)V" } : Jvm.MethodName)), (Jvm.Cond.selects "CacheYard$Row" ({ cls := "CacheYard$Row", name := "keep", desc := "(I)V" } : Jvm.MethodName) ({ cls := "CacheYard$Row", name := "keep", desc := "(I)V" } : Jvm.MethodName)), (Jvm.Cond.code ({ cls := "CacheYard$Row", name := "keep", desc := "(I)V" } : Jvm.MethodName) prog_3_method_3_code (2 : Nat) (Option.none : Option Jvm.ClassFile.FieldType)), (Jvm.Cond.methodLink "CacheYard" (69 : Nat) ({ cls := "CacheYard$Cache", name := "sees", desc := "(IZI)Z" } : Jvm.MethodName)), (Jvm.Cond.instanceMethod ({ cls := "CacheYard$Cache", name := "sees", desc := "(IZI)Z" } : Jvm.MethodName)), (Jvm.Cond.selects "CacheYard$Cache" ({ cls := "CacheYard$Cache", name := "sees", desc := "(IZI)Z" } : Jvm.MethodName) ({ cls := "CacheYard$Cache", name := "sees", desc := "(IZI)Z" } : Jvm.MethodName)), (Jvm.Cond.code ({ cls := "CacheYard$Cache", name := "sees", desc := "(IZI)Z" } : Jvm.MethodName) prog_2_method_3_code (9 : Nat) (Option.some Jvm.ClassFile.FieldType.boolean)), (Jvm.Cond.methodLink "CacheYard$Cache" (53 : Nat) ({ cls := "CacheYard$Cache", name := "countSets", desc := "()I" } : Jvm.MethodName)), (Jvm.Cond.instanceMethod ({ cls := "CacheYard$Cache", name := "countSets", desc := "()I" } : Jvm.MethodName)), (Jvm.Cond.code ({ cls := "CacheYard$Cache", name := "countSets", desc := "()I" } : Jvm.MethodName) prog_2_method_11_code (1 : Nat) (Option.some Jvm.ClassFile.FieldType.int)), (Jvm.Cond.methodLink "CacheYard$Cache" (57 : Nat) ({ cls := "CacheYard$Cache", name := "findPlace", desc := "(II)I" } : Jvm.MethodName)), (Jvm.Cond.instanceMethod ({ cls := "CacheYard$Cache", name := "findPlace", desc := "(II)I" } : Jvm.MethodName)), (Jvm.Cond.code ({ cls := "CacheYard$Cache", name := "findPlace", desc := "(II)I" } : Jvm.MethodName) prog_2_method_13_code (4 : Nat) (Option.some Jvm.ClassFile.FieldType.int)), (Jvm.Cond.methodLink "CacheYard$Cache" (74 : Nat) ({ cls := "CacheYard$Cache", name := "blockAt", desc := "(II)I" } : Jvm.MethodName)), (Jvm.Cond.instanceMethod ({ cls := "CacheYard$Cache", name := "blockAt", desc := "(II)I" } : Jvm.MethodName)), (Jvm.Cond.selects "CacheYard$Cache" ({ cls := "CacheYard$Cache", name := "blockAt", desc := "(II)I" } : Jvm.MethodName) ({ cls := "CacheYard$Cache", name := "blockAt", desc := "(II)I" } : Jvm.MethodName)), (Jvm.Cond.code ({ cls := "CacheYard$Cache", name := "blockAt", desc := "(II)I" } : Jvm.MethodName) prog_2_method_6_code (3 : Nat) (Option.some Jvm.ClassFile.FieldType.int)), (Jvm.Cond.methodLink "CacheYard$Cache" (64 : Nat) ({ cls := "CacheYard$Cache", name := "slotOf", desc := "(II)I" } : Jvm.MethodName)), (Jvm.Cond.instanceMethod ({ cls := "CacheYard$Cache", name := "slotOf", desc := "(II)I" } : Jvm.MethodName)), (Jvm.Cond.code ({ cls := "CacheYard$Cache", name := "slotOf", desc := "(II)I" } : Jvm.MethodName) prog_2_method_12_code (3 : Nat) (Option.some Jvm.ClassFile.FieldType.int)), (Jvm.Cond.methodLink "CacheYard$Cache" (61 : Nat) ({ cls := "CacheYard$Cache", name := "bringIn", desc := "(II)I" } : Jvm.MethodName)), (Jvm.Cond.instanceMethod ({ cls := "CacheYard$Cache", name := "bringIn", desc := "(II)I" } : Jvm.MethodName)), (Jvm.Cond.code ({ cls := "CacheYard$Cache", name := "bringIn", desc := "(II)I" } : Jvm.MethodName) prog_2_method_14_code (5 : Nat) (Option.some Jvm.ClassFile.FieldType.int)), (Jvm.Cond.methodLink "CacheYard$Cache" (77 : Nat) ({ cls := "CacheYard$Cache", name := "pointedPlace", desc := "(I)I" } : Jvm.MethodName)), (Jvm.Cond.instanceMethod ({ cls := "CacheYard$Cache", name := "pointedPlace", desc := "(I)I" } : Jvm.MethodName)), (Jvm.Cond.code ({ cls := "CacheYard$Cache", name := "pointedPlace", desc := "(I)I" } : Jvm.MethodName) prog_2_method_16_code (7 : Nat) (Option.some Jvm.ClassFile.FieldType.int)), (Jvm.Cond.methodLink "CacheYard$Cache" (81 : Nat) ({ cls := "CacheYard$Cache", name := "oldestPlace", desc := "(I)I" } : Jvm.MethodName)), (Jvm.Cond.instanceMethod ({ cls := "CacheYard$Cache", name := "oldestPlace", desc := "(I)I" } : Jvm.MethodName)), (Jvm.Cond.code ({ cls := "CacheYard$Cache", name := "oldestPlace", desc := "(I)I" } : Jvm.MethodName) prog_2_method_15_code (4 : Nat) (Option.some Jvm.ClassFile.FieldType.int)), (Jvm.Cond.methodLink "CacheYard$Cache" (84 : Nat) ({ cls := "CacheYard$Cache", name := "isDirtyAt", desc := "(II)Z" } : Jvm.MethodName)), (Jvm.Cond.instanceMethod ({ cls := "CacheYard$Cache", name := "isDirtyAt", desc := "(II)Z" } : Jvm.MethodName)), (Jvm.Cond.selects "CacheYard$Cache" ({ cls := "CacheYard$Cache", name := "isDirtyAt", desc := "(II)Z" } : Jvm.MethodName) ({ cls := "CacheYard$Cache", name := "isDirtyAt", desc := "(II)Z" } : Jvm.MethodName)), (Jvm.Cond.code ({ cls := "CacheYard$Cache", name := "isDirtyAt", desc := "(II)Z" } : Jvm.MethodName) prog_2_method_7_code (3 : Nat) (Option.some Jvm.ClassFile.FieldType.boolean)), (Jvm.Cond.methodLink "CacheYard$Cache" (67 : Nat) ({ cls := "CacheYard$Cache", name := "pointAway", desc := "(II)V" } : Jvm.MethodName)), (Jvm.Cond.instanceMethod ({ cls := "CacheYard$Cache", name := "pointAway", desc := "(II)V" } : Jvm.MethodName)), (Jvm.Cond.code ({ cls := "CacheYard$Cache", name := "pointAway", desc := "(II)V" } : Jvm.MethodName) prog_2_method_17_code (6 : Nat) (Option.none : Option Jvm.ClassFile.FieldType)), (Jvm.Cond.methodLink "CacheYardLaw" (61 : Nat) ({ cls := "CacheYardLaw", name := "flush", desc := "(LCacheYard;I[J)I" } : Jvm.MethodName)), (Jvm.Cond.static ({ cls := "CacheYardLaw", name := "flush", desc := "(LCacheYard;I[J)I" } : Jvm.MethodName)), (Jvm.Cond.codeWith ({ cls := "CacheYardLaw", name := "flush", desc := "(LCacheYard;I[J)I" } : Jvm.MethodName) method_5_code (4 : Nat) (Option.some Jvm.ClassFile.FieldType.int) [((0 : Nat), (9 : Nat), (12 : Nat), (25 : Nat))]), (Jvm.Cond.classLink "CacheYardLaw" (25 : Nat) "java/util/NoSuchElementException")]
def kw_4 : List Cond := [(Jvm.Cond.methodLink "CacheYardLaw" (21 : Nat) ({ cls := "CacheYard", name := "flush", desc := "(I)I" } : Jvm.MethodName)), (Jvm.Cond.instanceMethod ({ cls := "CacheYard", name := "flush", desc := "(I)I" } : Jvm.MethodName)), (Jvm.Cond.selects "CacheYard" ({ cls := "CacheYard", name := "flush", desc := "(I)I" } : Jvm.MethodName) ({ cls := "CacheYard", name := "flush", desc := "(I)I" } : Jvm.MethodName)), (Jvm.Cond.code ({ cls := "CacheYard", name := "flush", desc := "(I)I" } : Jvm.MethodName) prog_1_method_4_code (2 : Nat) (Option.some Jvm.ClassFile.FieldType.int)), (Jvm.Cond.methodLink "CacheYard" (73 : Nat) ({ cls := "CacheYard", name := "madeCache", desc := "(I)LCacheYard$Cache;" } : Jvm.MethodName)), (Jvm.Cond.instanceMethod ({ cls := "CacheYard", name := "madeCache", desc := "(I)LCacheYard$Cache;" } : Jvm.MethodName)), (Jvm.Cond.code ({ cls := "CacheYard", name := "madeCache", desc := "(I)LCacheYard$Cache;" } : Jvm.MethodName) prog_1_method_10_code (3 : Nat) (Option.some (Jvm.ClassFile.FieldType.object "CacheYard$Cache"))), (Jvm.Cond.classLink "CacheYard" (127 : Nat) "java/util/NoSuchElementException"), (Jvm.Cond.instantiable "java/util/NoSuchElementException" (6 : Nat)), (Jvm.Cond.selects "java/util/NoSuchElementException" ({ cls := "java/lang/Throwable", name := "fillInStackTrace", desc := "(I)Ljava/lang/Throwable;" } : Jvm.MethodName) ({ cls := "java/lang/Throwable", name := "fillInStackTrace", desc := "(I)Ljava/lang/Throwable;" } : Jvm.MethodName)), (Jvm.Cond.lays "java/util/NoSuchElementException" "java/lang/Throwable" "cause" "Ljava/lang/Throwable;"), (Jvm.Cond.lays "java/util/NoSuchElementException" "java/lang/Throwable" "stackTrace" "[Ljava/lang/StackTraceElement;"), (Jvm.Cond.lays "java/util/NoSuchElementException" "java/lang/Throwable" "suppressedExceptions" "Ljava/util/List;"), (Jvm.Cond.lays "java/util/NoSuchElementException" "java/lang/Throwable" "detailMessage" "Ljava/lang/String;"), (Jvm.Cond.lays "java/util/NoSuchElementException" "java/lang/Throwable" "backtrace" "Ljava/lang/Object;"), (Jvm.Cond.methodLink "CacheYard" (129 : Nat) ({ cls := "java/util/NoSuchElementException", name := "<init>", desc := "(Ljava/lang/String;)V" } : Jvm.MethodName)), (Jvm.Cond.instanceMethod ({ cls := "java/util/NoSuchElementException", name := "<init>", desc := "(Ljava/lang/String;)V" } : Jvm.MethodName)), (Jvm.Cond.code ({ cls := "java/util/NoSuchElementException", name := "<init>", desc := "(Ljava/lang/String;)V" } : Jvm.MethodName) prog_14_method_4_code (2 : Nat) (Option.none : Option Jvm.ClassFile.FieldType)), (Jvm.Cond.methodLink "java/util/NoSuchElementException" (13 : Nat) ({ cls := "java/lang/RuntimeException", name := "<init>", desc := "(Ljava/lang/String;)V" } : Jvm.MethodName)), (Jvm.Cond.lays "java/util/NoSuchElementException" "java/lang/Throwable" "depth" "I"), (Jvm.Cond.methodLink "CacheYard" (77 : Nat) ({ cls := "CacheYard$Cache", name := "letAllGo", desc := "()I" } : Jvm.MethodName)), (Jvm.Cond.instanceMethod ({ cls := "CacheYard$Cache", name := "letAllGo", desc := "()I" } : Jvm.MethodName)), (Jvm.Cond.selects "CacheYard$Cache" ({ cls := "CacheYard$Cache", name := "letAllGo", desc := "()I" } : Jvm.MethodName) ({ cls := "CacheYard$Cache", name := "letAllGo", desc := "()I" } : Jvm.MethodName)), (Jvm.Cond.code ({ cls := "CacheYard$Cache", name := "letAllGo", desc := "()I" } : Jvm.MethodName) prog_2_method_4_code (2 : Nat) (Option.some Jvm.ClassFile.FieldType.int)), (Jvm.Cond.methodLink "CacheYard$Cache" (71 : Nat) ({ cls := "CacheYard$Cache", name := "countDirty", desc := "()I" } : Jvm.MethodName)), (Jvm.Cond.instanceMethod ({ cls := "CacheYard$Cache", name := "countDirty", desc := "()I" } : Jvm.MethodName)), (Jvm.Cond.selects "CacheYard$Cache" ({ cls := "CacheYard$Cache", name := "countDirty", desc := "()I" } : Jvm.MethodName) ({ cls := "CacheYard$Cache", name := "countDirty", desc := "()I" } : Jvm.MethodName)), (Jvm.Cond.code ({ cls := "CacheYard$Cache", name := "countDirty", desc := "()I" } : Jvm.MethodName) prog_2_method_9_code (3 : Nat) (Option.some Jvm.ClassFile.FieldType.int)), (Jvm.Cond.methodLink "CacheYardLaw" (65 : Nat) ({ cls := "CacheYardLaw", name := "place", desc := "(LCacheYard;IIII[J)I" } : Jvm.MethodName)), (Jvm.Cond.static ({ cls := "CacheYardLaw", name := "place", desc := "(LCacheYard;IIII[J)I" } : Jvm.MethodName)), (Jvm.Cond.codeWith ({ cls := "CacheYardLaw", name := "place", desc := "(LCacheYard;IIII[J)I" } : Jvm.MethodName) method_6_code (7 : Nat) (Option.some Jvm.ClassFile.FieldType.int) [((0 : Nat), (14 : Nat), (17 : Nat), (25 : Nat)), ((0 : Nat), (14 : Nat), (21 : Nat), (31 : Nat)), ((0 : Nat), (14 : Nat), (25 : Nat), (13 : Nat))]), (Jvm.Cond.classLink "CacheYardLaw" (31 : Nat) "java/lang/IndexOutOfBoundsException"), (Jvm.Cond.methodLink "CacheYardLaw" (27 : Nat) ({ cls := "CacheYard", name := "place", desc := "(IIII)I" } : Jvm.MethodName)), (Jvm.Cond.instanceMethod ({ cls := "CacheYard", name := "place", desc := "(IIII)I" } : Jvm.MethodName)), (Jvm.Cond.selects "CacheYard" ({ cls := "CacheYard", name := "place", desc := "(IIII)I" } : Jvm.MethodName) ({ cls := "CacheYard", name := "place", desc := "(IIII)I" } : Jvm.MethodName)), (Jvm.Cond.code ({ cls := "CacheYard", name := "place", desc := "(IIII)I" } : Jvm.MethodName) prog_1_method_5_code (6 : Nat) (Option.some Jvm.ClassFile.FieldType.int)), (Jvm.Cond.methodLink "CacheYard" (80 : Nat) ({ cls := "CacheYard$Cache", name := "hasPlace", desc := "(II)Z" } : Jvm.MethodName)), (Jvm.Cond.instanceMethod ({ cls := "CacheYard$Cache", name := "hasPlace", desc := "(II)Z" } : Jvm.MethodName)), (Jvm.Cond.selects "CacheYard$Cache" ({ cls := "CacheYard$Cache", name := "hasPlace", desc := "(II)Z" } : Jvm.MethodName) ({ cls := "CacheYard$Cache", name := "hasPlace", desc := "(II)Z" } : Jvm.MethodName)), (Jvm.Cond.code ({ cls := "CacheYard$Cache", name := "hasPlace", desc := "(II)Z" } : Jvm.MethodName) prog_2_method_5_code (3 : Nat) (Option.some Jvm.ClassFile.FieldType.boolean)), (Jvm.Cond.classLink "CacheYard" (84 : Nat) "java/lang/IndexOutOfBoundsException"), (Jvm.Cond.instantiable "java/lang/IndexOutOfBoundsException" (6 : Nat)), (Jvm.Cond.selects "java/lang/IndexOutOfBoundsException" ({ cls := "java/lang/Throwable", name := "fillInStackTrace", desc := "(I)Ljava/lang/Throwable;" } : Jvm.MethodName) ({ cls := "java/lang/Throwable", name := "fillInStackTrace", desc := "(I)Ljava/lang/Throwable;" } : Jvm.MethodName)), (Jvm.Cond.lays "java/lang/IndexOutOfBoundsException" "java/lang/Throwable" "cause" "Ljava/lang/Throwable;"), (Jvm.Cond.lays "java/lang/IndexOutOfBoundsException" "java/lang/Throwable" "stackTrace" "[Ljava/lang/StackTraceElement;"), (Jvm.Cond.lays "java/lang/IndexOutOfBoundsException" "java/lang/Throwable" "suppressedExceptions" "Ljava/util/List;"), (Jvm.Cond.lays "java/lang/IndexOutOfBoundsException" "java/lang/Throwable" "detailMessage" "Ljava/lang/String;"), (Jvm.Cond.lays "java/lang/IndexOutOfBoundsException" "java/lang/Throwable" "backtrace" "Ljava/lang/Object;"), (Jvm.Cond.methodLink "CacheYard" (88 : Nat) ({ cls := "java/lang/IndexOutOfBoundsException", name := "<init>", desc := "(Ljava/lang/String;)V" } : Jvm.MethodName)), (Jvm.Cond.instanceMethod ({ cls := "java/lang/IndexOutOfBoundsException", name := "<init>", desc := "(Ljava/lang/String;)V" } : Jvm.MethodName)), (Jvm.Cond.code ({ cls := "java/lang/IndexOutOfBoundsException", name := "<init>", desc := "(Ljava/lang/String;)V" } : Jvm.MethodName) prog_8_method_2_code (2 : Nat) (Option.none : Option Jvm.ClassFile.FieldType)), (Jvm.Cond.methodLink "java/lang/IndexOutOfBoundsException" (7 : Nat) ({ cls := "java/lang/RuntimeException", name := "<init>", desc := "(Ljava/lang/String;)V" } : Jvm.MethodName)), (Jvm.Cond.lays "java/lang/IndexOutOfBoundsException" "java/lang/Throwable" "depth" "I"), (Jvm.Cond.methodLink "CacheYard" (89 : Nat) ({ cls := "CacheYard$Cache", name := "blockAt", desc := "(II)I" } : Jvm.MethodName)), (Jvm.Cond.methodLink "CacheYard" (93 : Nat) ({ cls := "CacheYard$Cache", name := "isDirtyAt", desc := "(II)Z" } : Jvm.MethodName)), (Jvm.Cond.methodLink "CacheYardLaw" (69 : Nat) ({ cls := "CacheYardLaw", name := "about", desc := "(LCacheYard;II[J)I" } : Jvm.MethodName)), (Jvm.Cond.static ({ cls := "CacheYardLaw", name := "about", desc := "(LCacheYard;II[J)I" } : Jvm.MethodName)), (Jvm.Cond.codeWith ({ cls := "CacheYardLaw", name := "about", desc := "(LCacheYard;II[J)I" } : Jvm.MethodName) method_7_code (5 : Nat) (Option.some Jvm.ClassFile.FieldType.int) [((0 : Nat), (10 : Nat), (13 : Nat), (25 : Nat)), ((0 : Nat), (10 : Nat), (17 : Nat), (13 : Nat))]), (Jvm.Cond.methodLink "CacheYardLaw" (33 : Nat) ({ cls := "CacheYard", name := "about", desc := "(II)I" } : Jvm.MethodName)), (Jvm.Cond.instanceMethod ({ cls := "CacheYard", name := "about", desc := "(II)I" } : Jvm.MethodName))]
def kw_5 : List Cond := [(Jvm.Cond.selects "CacheYard" ({ cls := "CacheYard", name := "about", desc := "(II)I" } : Jvm.MethodName) ({ cls := "CacheYard", name := "about", desc := "(II)I" } : Jvm.MethodName)), (Jvm.Cond.code ({ cls := "CacheYard", name := "about", desc := "(II)I" } : Jvm.MethodName) prog_1_method_6_code (4 : Nat) (Option.some Jvm.ClassFile.FieldType.int)), (Jvm.Cond.methodLink "CacheYard" (111 : Nat) ({ cls := "CacheYard$Cache", name := "countHeld", desc := "()I" } : Jvm.MethodName)), (Jvm.Cond.instanceMethod ({ cls := "CacheYard$Cache", name := "countHeld", desc := "()I" } : Jvm.MethodName)), (Jvm.Cond.selects "CacheYard$Cache" ({ cls := "CacheYard$Cache", name := "countHeld", desc := "()I" } : Jvm.MethodName) ({ cls := "CacheYard$Cache", name := "countHeld", desc := "()I" } : Jvm.MethodName)), (Jvm.Cond.code ({ cls := "CacheYard$Cache", name := "countHeld", desc := "()I" } : Jvm.MethodName) prog_2_method_8_code (3 : Nat) (Option.some Jvm.ClassFile.FieldType.int)), (Jvm.Cond.methodLink "CacheYard" (114 : Nat) ({ cls := "CacheYard$Cache", name := "countDirty", desc := "()I" } : Jvm.MethodName)), (Jvm.Cond.methodLink "CacheYardLaw" (77 : Nat) ({ cls := "CacheYardLaw", name := "curve", desc := "(LCacheYard;II[J)I" } : Jvm.MethodName)), (Jvm.Cond.static ({ cls := "CacheYardLaw", name := "curve", desc := "(LCacheYard;II[J)I" } : Jvm.MethodName)), (Jvm.Cond.codeWith ({ cls := "CacheYardLaw", name := "curve", desc := "(LCacheYard;II[J)I" } : Jvm.MethodName) method_8_code (5 : Nat) (Option.some Jvm.ClassFile.FieldType.int) [((0 : Nat), (10 : Nat), (13 : Nat), (13 : Nat))]), (Jvm.Cond.methodLink "CacheYardLaw" (37 : Nat) ({ cls := "CacheYard", name := "curve", desc := "(II)I" } : Jvm.MethodName)), (Jvm.Cond.instanceMethod ({ cls := "CacheYard", name := "curve", desc := "(II)I" } : Jvm.MethodName)), (Jvm.Cond.selects "CacheYard" ({ cls := "CacheYard", name := "curve", desc := "(II)I" } : Jvm.MethodName) ({ cls := "CacheYard", name := "curve", desc := "(II)I" } : Jvm.MethodName)), (Jvm.Cond.code ({ cls := "CacheYard", name := "curve", desc := "(II)I" } : Jvm.MethodName) prog_1_method_8_code (3 : Nat) (Option.some Jvm.ClassFile.FieldType.int)), (Jvm.Cond.methodLink "CacheYard" (119 : Nat) ({ cls := "CacheYard", name := "requireLinesAndBits", desc := "(II)V" } : Jvm.MethodName)), (Jvm.Cond.static ({ cls := "CacheYard", name := "requireLinesAndBits", desc := "(II)V" } : Jvm.MethodName)), (Jvm.Cond.code ({ cls := "CacheYard", name := "requireLinesAndBits", desc := "(II)V" } : Jvm.MethodName) prog_1_method_11_code (2 : Nat) (Option.none : Option Jvm.ClassFile.FieldType)), (Jvm.Cond.methodLink "CacheYard" (123 : Nat) ({ cls := "CacheYard$Row", name := "countHits", desc := "(IIZ)I" } : Jvm.MethodName)), (Jvm.Cond.instanceMethod ({ cls := "CacheYard$Row", name := "countHits", desc := "(IIZ)I" } : Jvm.MethodName)), (Jvm.Cond.selects "CacheYard$Row" ({ cls := "CacheYard$Row", name := "countHits", desc := "(IIZ)I" } : Jvm.MethodName) ({ cls := "CacheYard$Row", name := "countHits", desc := "(IIZ)I" } : Jvm.MethodName)), (Jvm.Cond.code ({ cls := "CacheYard$Row", name := "countHits", desc := "(IIZ)I" } : Jvm.MethodName) prog_3_method_4_code (8 : Nat) (Option.some Jvm.ClassFile.FieldType.int)), (Jvm.Cond.methodLink "CacheYard$Row" (28 : Nat) ({ cls := "CacheYard$Row", name := "findNextUses", desc := "(I)V" } : Jvm.MethodName)), (Jvm.Cond.instanceMethod ({ cls := "CacheYard$Row", name := "findNextUses", desc := "(I)V" } : Jvm.MethodName)), (Jvm.Cond.code ({ cls := "CacheYard$Row", name := "findNextUses", desc := "(I)V" } : Jvm.MethodName) prog_3_method_5_code (4 : Nat) (Option.none : Option Jvm.ClassFile.FieldType)), (Jvm.Cond.methodLink "CacheYard$Row" (32 : Nat) ({ cls := "CacheYard$Row", name := "findLine", desc := "(II)I" } : Jvm.MethodName)), (Jvm.Cond.instanceMethod ({ cls := "CacheYard$Row", name := "findLine", desc := "(II)I" } : Jvm.MethodName)), (Jvm.Cond.code ({ cls := "CacheYard$Row", name := "findLine", desc := "(II)I" } : Jvm.MethodName) prog_3_method_6_code (4 : Nat) (Option.some Jvm.ClassFile.FieldType.int)), (Jvm.Cond.methodLink "CacheYard$Row" (36 : Nat) ({ cls := "CacheYard$Row", name := "lineNeededLast", desc := "(I)I" } : Jvm.MethodName)), (Jvm.Cond.instanceMethod ({ cls := "CacheYard$Row", name := "lineNeededLast", desc := "(I)I" } : Jvm.MethodName)), (Jvm.Cond.code ({ cls := "CacheYard$Row", name := "lineNeededLast", desc := "(I)I" } : Jvm.MethodName) prog_3_method_7_code (4 : Nat) (Option.some Jvm.ClassFile.FieldType.int)), (Jvm.Cond.methodLink "CacheYard$Row" (40 : Nat) ({ cls := "CacheYard$Row", name := "bringToFront", desc := "(II)V" } : Jvm.MethodName)), (Jvm.Cond.instanceMethod ({ cls := "CacheYard$Row", name := "bringToFront", desc := "(II)V" } : Jvm.MethodName)), (Jvm.Cond.code ({ cls := "CacheYard$Row", name := "bringToFront", desc := "(II)V" } : Jvm.MethodName) prog_3_method_8_code (4 : Nat) (Option.none : Option Jvm.ClassFile.FieldType)), (Jvm.Cond.methodLink "CacheYardLaw" (80 : Nat) ({ cls := "CacheYardLaw", name := "best", desc := "(LCacheYard;II[J)I" } : Jvm.MethodName)), (Jvm.Cond.static ({ cls := "CacheYardLaw", name := "best", desc := "(LCacheYard;II[J)I" } : Jvm.MethodName)), (Jvm.Cond.codeWith ({ cls := "CacheYardLaw", name := "best", desc := "(LCacheYard;II[J)I" } : Jvm.MethodName) method_9_code (5 : Nat) (Option.some Jvm.ClassFile.FieldType.int) [((0 : Nat), (10 : Nat), (13 : Nat), (13 : Nat))]), (Jvm.Cond.methodLink "CacheYardLaw" (40 : Nat) ({ cls := "CacheYard", name := "best", desc := "(II)I" } : Jvm.MethodName)), (Jvm.Cond.instanceMethod ({ cls := "CacheYard", name := "best", desc := "(II)I" } : Jvm.MethodName)), (Jvm.Cond.selects "CacheYard" ({ cls := "CacheYard", name := "best", desc := "(II)I" } : Jvm.MethodName) ({ cls := "CacheYard", name := "best", desc := "(II)I" } : Jvm.MethodName)), (Jvm.Cond.code ({ cls := "CacheYard", name := "best", desc := "(II)I" } : Jvm.MethodName) prog_1_method_9_code (3 : Nat) (Option.some Jvm.ClassFile.FieldType.int)), (Jvm.Cond.classLink "CacheYardLaw" (44 : Nat) "CacheYardModel"), (Jvm.Cond.instantiable "CacheYardModel" (22 : Nat)), (Jvm.Cond.methodLink "CacheYardLaw" (46 : Nat) ({ cls := "CacheYardModel", name := "<init>", desc := "()V" } : Jvm.MethodName)), (Jvm.Cond.instanceMethod ({ cls := "CacheYardModel", name := "<init>", desc := "()V" } : Jvm.MethodName)), (Jvm.Cond.code ({ cls := "CacheYardModel", name := "<init>", desc := "()V" } : Jvm.MethodName) prog_5_method_1_code (1 : Nat) (Option.none : Option Jvm.ClassFile.FieldType)), (Jvm.Cond.methodLink "CacheYardModel" (1 : Nat) ({ cls := "java/lang/Object", name := "<init>", desc := "()V" } : Jvm.MethodName)), (Jvm.Cond.fieldLink "CacheYardModel" (65 : Nat) "CacheYardModel" "thrown" "I"), (Jvm.Cond.fieldLink "CacheYardModel" (92 : Nat) "CacheYardModel" "accesses" "I"), (Jvm.Cond.fieldLink "CacheYardModel" (7 : Nat) "CacheYardModel" "address" "[I"), (Jvm.Cond.fieldLink "CacheYardModel" (13 : Nat) "CacheYardModel" "there" "[Z"), (Jvm.Cond.fieldLink "CacheYardModel" (17 : Nat) "CacheYardModel" "setBits" "[I"), (Jvm.Cond.fieldLink "CacheYardModel" (20 : Nat) "CacheYardModel" "ways" "[I"), (Jvm.Cond.fieldLink "CacheYardModel" (23 : Nat) "CacheYardModel" "kinds" "[I"), (Jvm.Cond.fieldLink "CacheYardModel" (26 : Nat) "CacheYardModel" "bits" "[I"), (Jvm.Cond.fieldLink "CacheYardModel" (29 : Nat) "CacheYardModel" "hits" "[I"), (Jvm.Cond.fieldLink "CacheYardModel" (32 : Nat) "CacheYardModel" "misses" "[I"), (Jvm.Cond.fieldLink "CacheYardModel" (35 : Nat) "CacheYardModel" "victims" "[I"), (Jvm.Cond.fieldLink "CacheYardModel" (38 : Nat) "CacheYardModel" "written" "[I"), (Jvm.Cond.fieldLink "CacheYardModel" (41 : Nat) "CacheYardModel" "block" "[I"), (Jvm.Cond.fieldLink "CacheYardModel" (44 : Nat) "CacheYardModel" "dirty" "[Z")]
def kw_6 : List Cond := [(Jvm.Cond.fieldLink "CacheYardModel" (47 : Nat) "CacheYardModel" "latest" "[I"), (Jvm.Cond.fieldLink "CacheYardModel" (50 : Nat) "CacheYardModel" "came" "[I"), (Jvm.Cond.fieldLink "CacheYardModel" (53 : Nat) "CacheYardModel" "points" "[Z"), (Jvm.Cond.fieldLink "CacheYardModel" (111 : Nat) "CacheYardModel" "lineCount" "I"), (Jvm.Cond.fieldLink "CacheYardModel" (56 : Nat) "CacheYardModel" "line" "[I"), (Jvm.Cond.fieldLink "CacheYardModel" (59 : Nat) "CacheYardModel" "asked" "[I"), (Jvm.Cond.fieldLink "CacheYardModel" (117 : Nat) "CacheYardModel" "kept" "I"), (Jvm.Cond.fieldLink "CacheYardModel" (62 : Nat) "CacheYardModel" "ends" "[I"), (Jvm.Cond.lays "CacheYardModel" "CacheYardModel" "thrown" "I"), (Jvm.Cond.lays "CacheYardModel" "CacheYardModel" "accesses" "I"), (Jvm.Cond.laysFinal "CacheYardModel" "CacheYardModel" "address" "[I"), (Jvm.Cond.laysFinal "CacheYardModel" "CacheYardModel" "there" "[Z"), (Jvm.Cond.laysFinal "CacheYardModel" "CacheYardModel" "setBits" "[I"), (Jvm.Cond.laysFinal "CacheYardModel" "CacheYardModel" "ways" "[I"), (Jvm.Cond.laysFinal "CacheYardModel" "CacheYardModel" "kinds" "[I"), (Jvm.Cond.laysFinal "CacheYardModel" "CacheYardModel" "bits" "[I"), (Jvm.Cond.laysFinal "CacheYardModel" "CacheYardModel" "hits" "[I"), (Jvm.Cond.laysFinal "CacheYardModel" "CacheYardModel" "misses" "[I"), (Jvm.Cond.laysFinal "CacheYardModel" "CacheYardModel" "victims" "[I"), (Jvm.Cond.laysFinal "CacheYardModel" "CacheYardModel" "written" "[I"), (Jvm.Cond.laysFinal "CacheYardModel" "CacheYardModel" "block" "[I"), (Jvm.Cond.laysFinal "CacheYardModel" "CacheYardModel" "dirty" "[Z"), (Jvm.Cond.laysFinal "CacheYardModel" "CacheYardModel" "latest" "[I"), (Jvm.Cond.laysFinal "CacheYardModel" "CacheYardModel" "came" "[I"), (Jvm.Cond.laysFinal "CacheYardModel" "CacheYardModel" "points" "[Z"), (Jvm.Cond.lays "CacheYardModel" "CacheYardModel" "lineCount" "I"), (Jvm.Cond.laysFinal "CacheYardModel" "CacheYardModel" "line" "[I"), (Jvm.Cond.laysFinal "CacheYardModel" "CacheYardModel" "asked" "[I"), (Jvm.Cond.lays "CacheYardModel" "CacheYardModel" "kept" "I"), (Jvm.Cond.laysFinal "CacheYardModel" "CacheYardModel" "ends" "[I"), (Jvm.Cond.methodLink "CacheYardLaw" (53 : Nat) ({ cls := "CacheYardModel", name := "thrown", desc := "()I" } : Jvm.MethodName)), (Jvm.Cond.instanceMethod ({ cls := "CacheYardModel", name := "thrown", desc := "()I" } : Jvm.MethodName)), (Jvm.Cond.selects "CacheYardModel" ({ cls := "CacheYardModel", name := "thrown", desc := "()I" } : Jvm.MethodName) ({ cls := "CacheYardModel", name := "thrown", desc := "()I" } : Jvm.MethodName)), (Jvm.Cond.code ({ cls := "CacheYardModel", name := "thrown", desc := "()I" } : Jvm.MethodName) prog_5_method_2_code (1 : Nat) (Option.some Jvm.ClassFile.FieldType.int)), (Jvm.Cond.methodLink "CacheYardLaw" (52 : Nat) ({ cls := "CacheYardModel", name := "make", desc := "(IIIII)V" } : Jvm.MethodName)), (Jvm.Cond.instanceMethod ({ cls := "CacheYardModel", name := "make", desc := "(IIIII)V" } : Jvm.MethodName)), (Jvm.Cond.selects "CacheYardModel" ({ cls := "CacheYardModel", name := "make", desc := "(IIIII)V" } : Jvm.MethodName) ({ cls := "CacheYardModel", name := "make", desc := "(IIIII)V" } : Jvm.MethodName)), (Jvm.Cond.code ({ cls := "CacheYardModel", name := "make", desc := "(IIIII)V" } : Jvm.MethodName) prog_5_method_7_code (8 : Nat) (Option.none : Option Jvm.ClassFile.FieldType)), (Jvm.Cond.methodLink "CacheYardModel" (69 : Nat) ({ cls := "CacheYardModel", name := "in", desc := "(III)Z" } : Jvm.MethodName)), (Jvm.Cond.static ({ cls := "CacheYardModel", name := "in", desc := "(III)Z" } : Jvm.MethodName)), (Jvm.Cond.code ({ cls := "CacheYardModel", name := "in", desc := "(III)Z" } : Jvm.MethodName) prog_5_method_4_code (3 : Nat) (Option.some Jvm.ClassFile.FieldType.boolean)), (Jvm.Cond.methodLink "CacheYardModel" (73 : Nat) ({ cls := "CacheYardModel", name := "refuse", desc := "(ZZZ)Z" } : Jvm.MethodName)), (Jvm.Cond.instanceMethod ({ cls := "CacheYardModel", name := "refuse", desc := "(ZZZ)Z" } : Jvm.MethodName)), (Jvm.Cond.code ({ cls := "CacheYardModel", name := "refuse", desc := "(ZZZ)Z" } : Jvm.MethodName) prog_5_method_3_code (4 : Nat) (Option.some Jvm.ClassFile.FieldType.boolean)), (Jvm.Cond.methodLink "CacheYardModel" (77 : Nat) ({ cls := "CacheYardModel", name := "empty", desc := "(I)V" } : Jvm.MethodName)), (Jvm.Cond.instanceMethod ({ cls := "CacheYardModel", name := "empty", desc := "(I)V" } : Jvm.MethodName)), (Jvm.Cond.code ({ cls := "CacheYardModel", name := "empty", desc := "(I)V" } : Jvm.MethodName) prog_5_method_6_code (3 : Nat) (Option.none : Option Jvm.ClassFile.FieldType)), (Jvm.Cond.methodLink "CacheYardLaw" (60 : Nat) ({ cls := "CacheYardModel", name := "access", desc := "(IZ)I" } : Jvm.MethodName)), (Jvm.Cond.instanceMethod ({ cls := "CacheYardModel", name := "access", desc := "(IZ)I" } : Jvm.MethodName)), (Jvm.Cond.selects "CacheYardModel" ({ cls := "CacheYardModel", name := "access", desc := "(IZ)I" } : Jvm.MethodName) ({ cls := "CacheYardModel", name := "access", desc := "(IZ)I" } : Jvm.MethodName)), (Jvm.Cond.code ({ cls := "CacheYardModel", name := "access", desc := "(IZ)I" } : Jvm.MethodName) prog_5_method_13_code (7 : Nat) (Option.some Jvm.ClassFile.FieldType.int)), (Jvm.Cond.methodLink "CacheYardModel" (99 : Nat) ({ cls := "CacheYardModel", name := "see", desc := "(IIZ)Z" } : Jvm.MethodName)), (Jvm.Cond.instanceMethod ({ cls := "CacheYardModel", name := "see", desc := "(IIZ)Z" } : Jvm.MethodName)), (Jvm.Cond.code ({ cls := "CacheYardModel", name := "see", desc := "(IIZ)Z" } : Jvm.MethodName) prog_5_method_12_code (8 : Nat) (Option.some Jvm.ClassFile.FieldType.boolean)), (Jvm.Cond.methodLink "CacheYardModel" (85 : Nat) ({ cls := "CacheYardModel", name := "placeOf", desc := "(III)I" } : Jvm.MethodName)), (Jvm.Cond.instanceMethod ({ cls := "CacheYardModel", name := "placeOf", desc := "(III)I" } : Jvm.MethodName)), (Jvm.Cond.code ({ cls := "CacheYardModel", name := "placeOf", desc := "(III)I" } : Jvm.MethodName) prog_5_method_11_code (6 : Nat) (Option.some Jvm.ClassFile.FieldType.int)), (Jvm.Cond.methodLink "CacheYardModel" (89 : Nat) ({ cls := "CacheYardModel", name := "victimOf", desc := "(II)I" } : Jvm.MethodName)), (Jvm.Cond.instanceMethod ({ cls := "CacheYardModel", name := "victimOf", desc := "(II)I" } : Jvm.MethodName)), (Jvm.Cond.code ({ cls := "CacheYardModel", name := "victimOf", desc := "(II)I" } : Jvm.MethodName) prog_5_method_10_code (6 : Nat) (Option.some Jvm.ClassFile.FieldType.int))]
def kw_7 : List Cond := [(Jvm.Cond.methodLink "CacheYardModel" (81 : Nat) ({ cls := "CacheYardModel", name := "pointed", desc := "(II)I" } : Jvm.MethodName)), (Jvm.Cond.instanceMethod ({ cls := "CacheYardModel", name := "pointed", desc := "(II)I" } : Jvm.MethodName)), (Jvm.Cond.code ({ cls := "CacheYardModel", name := "pointed", desc := "(II)I" } : Jvm.MethodName) prog_5_method_9_code (7 : Nat) (Option.some Jvm.ClassFile.FieldType.int)), (Jvm.Cond.methodLink "CacheYardModel" (95 : Nat) ({ cls := "CacheYardModel", name := "turn", desc := "(III)V" } : Jvm.MethodName)), (Jvm.Cond.instanceMethod ({ cls := "CacheYardModel", name := "turn", desc := "(III)V" } : Jvm.MethodName)), (Jvm.Cond.code ({ cls := "CacheYardModel", name := "turn", desc := "(III)V" } : Jvm.MethodName) prog_5_method_8_code (8 : Nat) (Option.none : Option Jvm.ClassFile.FieldType)), (Jvm.Cond.methodLink "CacheYardLaw" (64 : Nat) ({ cls := "CacheYardModel", name := "flush", desc := "(I)I" } : Jvm.MethodName)), (Jvm.Cond.instanceMethod ({ cls := "CacheYardModel", name := "flush", desc := "(I)I" } : Jvm.MethodName)), (Jvm.Cond.selects "CacheYardModel" ({ cls := "CacheYardModel", name := "flush", desc := "(I)I" } : Jvm.MethodName) ({ cls := "CacheYardModel", name := "flush", desc := "(I)I" } : Jvm.MethodName)), (Jvm.Cond.code ({ cls := "CacheYardModel", name := "flush", desc := "(I)I" } : Jvm.MethodName) prog_5_method_15_code (3 : Nat) (Option.some Jvm.ClassFile.FieldType.int)), (Jvm.Cond.methodLink "CacheYardModel" (103 : Nat) ({ cls := "CacheYardModel", name := "isThere", desc := "(I)Z" } : Jvm.MethodName)), (Jvm.Cond.instanceMethod ({ cls := "CacheYardModel", name := "isThere", desc := "(I)Z" } : Jvm.MethodName)), (Jvm.Cond.code ({ cls := "CacheYardModel", name := "isThere", desc := "(I)Z" } : Jvm.MethodName) prog_5_method_5_code (2 : Nat) (Option.some Jvm.ClassFile.FieldType.boolean)), (Jvm.Cond.methodLink "CacheYardModel" (107 : Nat) ({ cls := "CacheYardModel", name := "count", desc := "(IZ)I" } : Jvm.MethodName)), (Jvm.Cond.instanceMethod ({ cls := "CacheYardModel", name := "count", desc := "(IZ)I" } : Jvm.MethodName)), (Jvm.Cond.code ({ cls := "CacheYardModel", name := "count", desc := "(IZ)I" } : Jvm.MethodName) prog_5_method_14_code (5 : Nat) (Option.some Jvm.ClassFile.FieldType.int)), (Jvm.Cond.methodLink "CacheYardLaw" (68 : Nat) ({ cls := "CacheYardModel", name := "place", desc := "(IIII)I" } : Jvm.MethodName)), (Jvm.Cond.instanceMethod ({ cls := "CacheYardModel", name := "place", desc := "(IIII)I" } : Jvm.MethodName)), (Jvm.Cond.selects "CacheYardModel" ({ cls := "CacheYardModel", name := "place", desc := "(IIII)I" } : Jvm.MethodName) ({ cls := "CacheYardModel", name := "place", desc := "(IIII)I" } : Jvm.MethodName)), (Jvm.Cond.code ({ cls := "CacheYardModel", name := "place", desc := "(IIII)I" } : Jvm.MethodName) prog_5_method_16_code (8 : Nat) (Option.some Jvm.ClassFile.FieldType.int)), (Jvm.Cond.methodLink "CacheYardLaw" (72 : Nat) ({ cls := "CacheYardModel", name := "about", desc := "(II)I" } : Jvm.MethodName)), (Jvm.Cond.instanceMethod ({ cls := "CacheYardModel", name := "about", desc := "(II)I" } : Jvm.MethodName)), (Jvm.Cond.selects "CacheYardModel" ({ cls := "CacheYardModel", name := "about", desc := "(II)I" } : Jvm.MethodName) ({ cls := "CacheYardModel", name := "about", desc := "(II)I" } : Jvm.MethodName)), (Jvm.Cond.code ({ cls := "CacheYardModel", name := "about", desc := "(II)I" } : Jvm.MethodName) prog_5_method_17_code (4 : Nat) (Option.some Jvm.ClassFile.FieldType.int)), (Jvm.Cond.methodLink "CacheYardLaw" (76 : Nat) ({ cls := "CacheYardModel", name := "accesses", desc := "()I" } : Jvm.MethodName)), (Jvm.Cond.instanceMethod ({ cls := "CacheYardModel", name := "accesses", desc := "()I" } : Jvm.MethodName)), (Jvm.Cond.selects "CacheYardModel" ({ cls := "CacheYardModel", name := "accesses", desc := "()I" } : Jvm.MethodName) ({ cls := "CacheYardModel", name := "accesses", desc := "()I" } : Jvm.MethodName)), (Jvm.Cond.code ({ cls := "CacheYardModel", name := "accesses", desc := "()I" } : Jvm.MethodName) prog_5_method_18_code (1 : Nat) (Option.some Jvm.ClassFile.FieldType.int)), (Jvm.Cond.methodLink "CacheYardLaw" (79 : Nat) ({ cls := "CacheYardModel", name := "curve", desc := "(II)I" } : Jvm.MethodName)), (Jvm.Cond.instanceMethod ({ cls := "CacheYardModel", name := "curve", desc := "(II)I" } : Jvm.MethodName)), (Jvm.Cond.selects "CacheYardModel" ({ cls := "CacheYardModel", name := "curve", desc := "(II)I" } : Jvm.MethodName) ({ cls := "CacheYardModel", name := "curve", desc := "(II)I" } : Jvm.MethodName)), (Jvm.Cond.code ({ cls := "CacheYardModel", name := "curve", desc := "(II)I" } : Jvm.MethodName) prog_5_method_20_code (5 : Nat) (Option.some Jvm.ClassFile.FieldType.int)), (Jvm.Cond.methodLink "CacheYardModel" (114 : Nat) ({ cls := "CacheYardModel", name := "comes", desc := "(III)Z" } : Jvm.MethodName)), (Jvm.Cond.instanceMethod ({ cls := "CacheYardModel", name := "comes", desc := "(III)Z" } : Jvm.MethodName)), (Jvm.Cond.code ({ cls := "CacheYardModel", name := "comes", desc := "(III)Z" } : Jvm.MethodName) prog_5_method_19_code (7 : Nat) (Option.some Jvm.ClassFile.FieldType.boolean)), (Jvm.Cond.methodLink "CacheYardLaw" (82 : Nat) ({ cls := "CacheYardModel", name := "best", desc := "(II)I" } : Jvm.MethodName)), (Jvm.Cond.instanceMethod ({ cls := "CacheYardModel", name := "best", desc := "(II)I" } : Jvm.MethodName)), (Jvm.Cond.selects "CacheYardModel" ({ cls := "CacheYardModel", name := "best", desc := "(II)I" } : Jvm.MethodName) ({ cls := "CacheYardModel", name := "best", desc := "(II)I" } : Jvm.MethodName)), (Jvm.Cond.code ({ cls := "CacheYardModel", name := "best", desc := "(II)I" } : Jvm.MethodName) prog_5_method_22_code (9 : Nat) (Option.some Jvm.ClassFile.FieldType.int)), (Jvm.Cond.methodLink "CacheYardModel" (120 : Nat) ({ cls := "CacheYardModel", name := "nextOf", desc := "(II)I" } : Jvm.MethodName)), (Jvm.Cond.instanceMethod ({ cls := "CacheYardModel", name := "nextOf", desc := "(II)I" } : Jvm.MethodName)), (Jvm.Cond.code ({ cls := "CacheYardModel", name := "nextOf", desc := "(II)I" } : Jvm.MethodName) prog_5_method_21_code (4 : Nat) (Option.some Jvm.ClassFile.FieldType.int)), (Jvm.Cond.arrayClass Jvm.ClassFile.FieldType.long)]
def kw_all : List Cond := kw_0 ++ (kw_1 ++ (kw_2 ++ (kw_3 ++ (kw_4 ++ (kw_5 ++ (kw_6 ++ (kw_7)))))))
theorem kw_pick {big : List Cond} (ws : List Cond) (ps : List Nat) (hp : ws = ps.filterMap (fun i => big[i]?)) : ∀ w ∈ ws, w ∈ big := by
  intro w hw
  rw [hp] at hw
  obtain ⟨i, -, hi⟩ := List.mem_filterMap.mp hw
  exact List.mem_of_getElem? hi
set_option maxRecDepth 100000 in
theorem kw_in_0 : ∀ w ∈ kw_0, w ∈ lw_tbl := kw_pick _ [1, 2, 3, 4, 5, 6, 7, 8, 9, 10, 11, 12, 13, 14, 15, 16, 17, 18, 19, 20, 21, 22, 23, 24, 25, 26, 27, 28, 29, 30, 31, 32, 33, 34, 35, 36, 37, 38, 39, 40, 41, 42, 43, 44, 45, 46, 48, 49, 51, 52, 53, 54, 55, 56, 57, 58, 59, 61, 63, 65] rfl
set_option maxRecDepth 100000 in
theorem kw_ok_0 : kw_0.all goodWord = true := by decide +kernel
set_option maxRecDepth 100000 in
theorem kw_in_1 : ∀ w ∈ kw_1, w ∈ lw_tbl := kw_pick _ [67, 70, 71, 72, 73, 75, 78, 79, 80, 81, 82, 83, 84, 85, 86, 87, 88, 89, 90, 91, 92, 93, 94, 95, 103, 104, 105, 106, 107, 108, 109, 110, 111, 112, 113, 114, 115, 117, 118, 119, 120, 122, 124, 125, 127, 128, 129, 131, 133, 134, 137, 138, 139, 140, 141, 142, 143, 144, 145, 146] rfl
set_option maxRecDepth 100000 in
theorem kw_ok_1 : kw_1.all goodWord = true := by decide +kernel
set_option maxRecDepth 100000 in
theorem kw_in_2 : ∀ w ∈ kw_2, w ∈ lw_tbl := kw_pick _ [147, 148, 149, 150, 151, 152, 153, 158, 162, 166, 167, 168, 169, 170, 171, 173, 174, 175, 177, 179, 180, 181, 182, 183, 184, 185, 186, 187, 188, 189, 190, 191, 192, 193, 194, 195, 196, 197, 198, 200, 202, 204, 206, 208, 210, 212, 214, 216, 218, 220, 223, 224, 225, 226, 227, 228, 230, 231, 232, 233] rfl
set_option maxRecDepth 100000 in
theorem kw_ok_2 : kw_2.all goodWord = true := by decide +kernel
set_option maxRecDepth 100000 in
theorem kw_in_3 : ∀ w ∈ kw_3, w ∈ lw_tbl := kw_pick _ [234, 235, 236, 237, 238, 239, 241, 242, 244, 245, 246, 247, 248, 249, 251, 252, 253, 254, 255, 257, 258, 259, 260, 261, 262, 263, 264, 265, 267, 268, 269, 271, 272, 273, 274, 275, 276, 277, 279, 280, 281, 283, 284, 285, 287, 288, 289, 291, 292, 293, 294, 295, 296, 297, 299, 300, 301, 302, 303, 304] rfl
set_option maxRecDepth 100000 in
theorem kw_ok_3 : kw_3.all goodWord = true := by decide +kernel
set_option maxRecDepth 100000 in
theorem kw_in_4 : ∀ w ∈ kw_4, w ∈ lw_tbl := kw_pick _ [305, 306, 307, 308, 309, 311, 312, 313, 314, 316, 317, 318, 319, 320, 321, 322, 323, 324, 325, 326, 329, 330, 331, 332, 333, 334, 335, 336, 337, 338, 339, 340, 341, 342, 343, 344, 345, 346, 347, 348, 349, 350, 352, 353, 354, 355, 356, 357, 359, 360, 361, 362, 363, 365, 366, 368, 369, 370, 371, 372] rfl
set_option maxRecDepth 100000 in
theorem kw_ok_4 : kw_4.all goodWord = true := by decide +kernel
set_option maxRecDepth 100000 in
theorem kw_in_5 : ∀ w ∈ kw_5, w ∈ lw_tbl := kw_pick _ [373, 374, 375, 376, 377, 378, 379, 381, 382, 383, 384, 385, 386, 387, 388, 389, 390, 392, 393, 394, 395, 396, 398, 399, 400, 402, 403, 404, 406, 407, 408, 410, 411, 412, 413, 414, 415, 416, 417, 418, 419, 420, 421, 422, 423, 424, 425, 426, 427, 428, 429, 430, 431, 432, 433, 434, 435, 436, 437, 438] rfl
set_option maxRecDepth 100000 in
theorem kw_ok_5 : kw_5.all goodWord = true := by decide +kernel
set_option maxRecDepth 100000 in
theorem kw_in_6 : ∀ w ∈ kw_6, w ∈ lw_tbl := kw_pick _ [439, 440, 441, 442, 443, 444, 445, 446, 447, 449, 451, 453, 455, 457, 459, 461, 463, 465, 467, 469, 471, 473, 475, 477, 479, 481, 483, 485, 487, 489, 492, 493, 494, 495, 496, 497, 498, 499, 500, 501, 502, 503, 505, 506, 507, 509, 510, 511, 512, 513, 514, 515, 517, 518, 519, 521, 522, 523, 525, 526] rfl
set_option maxRecDepth 100000 in
theorem kw_ok_6 : kw_6.all goodWord = true := by decide +kernel
set_option maxRecDepth 100000 in
theorem kw_in_7 : ∀ w ∈ kw_7, w ∈ lw_tbl := kw_pick _ [527, 529, 530, 531, 533, 534, 535, 536, 537, 538, 539, 541, 542, 543, 545, 546, 547, 548, 549, 550, 551, 552, 553, 554, 555, 556, 557, 558, 559, 560, 561, 562, 563, 565, 566, 567, 568, 569, 570, 571, 573, 574, 575] rfl
set_option maxRecDepth 100000 in
theorem kw_ok_7 : kw_7.all goodWord = true := by decide +kernel
theorem kw_app {a b : List Cond} {P : Cond → Prop} (ha : ∀ w ∈ a, P w) (hb : ∀ w ∈ b, P w) : ∀ w ∈ a ++ b, P w := fun w h => (List.mem_append.mp h).elim (ha w) (hb w)
theorem kw_in : ∀ w ∈ kw_all, w ∈ lw_tbl := kw_app kw_in_0 ( kw_app kw_in_1 ( kw_app kw_in_2 ( kw_app kw_in_3 ( kw_app kw_in_4 ( kw_app kw_in_5 ( kw_app kw_in_6 (kw_in_7)))))))
theorem kw_one {ws : List Cond} (h : ws.all goodWord = true) : ∀ w ∈ ws, (w.onTables && w.keeps) = true ∨ ∃ ty, w = .arrayClass ty := fun w hw => good_of_word (List.all_eq_true.mp h w hw)
theorem kw_ok : ∀ w ∈ kw_all, (w.onTables && w.keeps) = true ∨ ∃ ty, w = .arrayClass ty := kw_app (kw_one kw_ok_0) ( kw_app (kw_one kw_ok_1) ( kw_app (kw_one kw_ok_2) ( kw_app (kw_one kw_ok_3) ( kw_app (kw_one kw_ok_4) ( kw_app (kw_one kw_ok_5) ( kw_app (kw_one kw_ok_6) (kw_one kw_ok_7)))))))
theorem kw_good : GoodIn kw_all kw_all := fun w h => ⟨h, kw_ok w h⟩
theorem kw_goodL : GoodIn lw_tbl kw_all := fun w h => ⟨kw_in w h, kw_ok w h⟩
end
section
theorem kj_0 : (Jvm.Cond.selects "CacheYard$Cache" ({ cls := "CacheYard$Cache", name := "emptyAll", desc := "()V" } : Jvm.MethodName) ({ cls := "CacheYard$Cache", name := "emptyAll", desc := "()V" } : Jvm.MethodName)) ∈ kw_all := List.mem_of_getElem? (i := 0) rfl
theorem kj_1 : (Jvm.Cond.selects "CacheYard$Cache" ({ cls := "CacheYard$Cache", name := "countSets", desc := "()I" } : Jvm.MethodName) ({ cls := "CacheYard$Cache", name := "countSets", desc := "()I" } : Jvm.MethodName)) ∈ kw_all := List.mem_of_getElem? (i := 1) rfl
theorem kj_2 : (Jvm.Cond.selects "CacheYard$Cache" ({ cls := "CacheYard$Cache", name := "findPlace", desc := "(II)I" } : Jvm.MethodName) ({ cls := "CacheYard$Cache", name := "findPlace", desc := "(II)I" } : Jvm.MethodName)) ∈ kw_all := List.mem_of_getElem? (i := 2) rfl
theorem kj_3 : (Jvm.Cond.selects "CacheYard$Cache" ({ cls := "CacheYard$Cache", name := "slotOf", desc := "(II)I" } : Jvm.MethodName) ({ cls := "CacheYard$Cache", name := "slotOf", desc := "(II)I" } : Jvm.MethodName)) ∈ kw_all := List.mem_of_getElem? (i := 3) rfl
theorem kj_4 : (Jvm.Cond.selects "CacheYard$Cache" ({ cls := "CacheYard$Cache", name := "bringIn", desc := "(II)I" } : Jvm.MethodName) ({ cls := "CacheYard$Cache", name := "bringIn", desc := "(II)I" } : Jvm.MethodName)) ∈ kw_all := List.mem_of_getElem? (i := 4) rfl
theorem kj_5 : (Jvm.Cond.selects "CacheYard$Cache" ({ cls := "CacheYard$Cache", name := "pointedPlace", desc := "(I)I" } : Jvm.MethodName) ({ cls := "CacheYard$Cache", name := "pointedPlace", desc := "(I)I" } : Jvm.MethodName)) ∈ kw_all := List.mem_of_getElem? (i := 5) rfl
theorem kj_6 : (Jvm.Cond.selects "CacheYard$Cache" ({ cls := "CacheYard$Cache", name := "oldestPlace", desc := "(I)I" } : Jvm.MethodName) ({ cls := "CacheYard$Cache", name := "oldestPlace", desc := "(I)I" } : Jvm.MethodName)) ∈ kw_all := List.mem_of_getElem? (i := 6) rfl
theorem kj_7 : (Jvm.Cond.selects "CacheYard$Cache" ({ cls := "CacheYard$Cache", name := "pointAway", desc := "(II)V" } : Jvm.MethodName) ({ cls := "CacheYard$Cache", name := "pointAway", desc := "(II)V" } : Jvm.MethodName)) ∈ kw_all := List.mem_of_getElem? (i := 7) rfl
theorem kj_8 : (Jvm.Cond.selects "CacheYard" ({ cls := "CacheYard", name := "madeCache", desc := "(I)LCacheYard$Cache;" } : Jvm.MethodName) ({ cls := "CacheYard", name := "madeCache", desc := "(I)LCacheYard$Cache;" } : Jvm.MethodName)) ∈ kw_all := List.mem_of_getElem? (i := 8) rfl
theorem kj_9 : (Jvm.Cond.selects "CacheYard$Row" ({ cls := "CacheYard$Row", name := "findNextUses", desc := "(I)V" } : Jvm.MethodName) ({ cls := "CacheYard$Row", name := "findNextUses", desc := "(I)V" } : Jvm.MethodName)) ∈ kw_all := List.mem_of_getElem? (i := 9) rfl
theorem kj_10 : (Jvm.Cond.selects "CacheYard$Row" ({ cls := "CacheYard$Row", name := "findLine", desc := "(II)I" } : Jvm.MethodName) ({ cls := "CacheYard$Row", name := "findLine", desc := "(II)I" } : Jvm.MethodName)) ∈ kw_all := List.mem_of_getElem? (i := 10) rfl
theorem kj_11 : (Jvm.Cond.selects "CacheYard$Row" ({ cls := "CacheYard$Row", name := "lineNeededLast", desc := "(I)I" } : Jvm.MethodName) ({ cls := "CacheYard$Row", name := "lineNeededLast", desc := "(I)I" } : Jvm.MethodName)) ∈ kw_all := List.mem_of_getElem? (i := 11) rfl
theorem kj_12 : (Jvm.Cond.selects "CacheYard$Row" ({ cls := "CacheYard$Row", name := "bringToFront", desc := "(II)V" } : Jvm.MethodName) ({ cls := "CacheYard$Row", name := "bringToFront", desc := "(II)V" } : Jvm.MethodName)) ∈ kw_all := List.mem_of_getElem? (i := 12) rfl
theorem kj_13 : (Jvm.Cond.selects "CacheYardModel" ({ cls := "CacheYardModel", name := "refuse", desc := "(ZZZ)Z" } : Jvm.MethodName) ({ cls := "CacheYardModel", name := "refuse", desc := "(ZZZ)Z" } : Jvm.MethodName)) ∈ kw_all := List.mem_of_getElem? (i := 13) rfl
theorem kj_14 : (Jvm.Cond.selects "CacheYardModel" ({ cls := "CacheYardModel", name := "empty", desc := "(I)V" } : Jvm.MethodName) ({ cls := "CacheYardModel", name := "empty", desc := "(I)V" } : Jvm.MethodName)) ∈ kw_all := List.mem_of_getElem? (i := 14) rfl
theorem kj_15 : (Jvm.Cond.selects "CacheYardModel" ({ cls := "CacheYardModel", name := "see", desc := "(IIZ)Z" } : Jvm.MethodName) ({ cls := "CacheYardModel", name := "see", desc := "(IIZ)Z" } : Jvm.MethodName)) ∈ kw_all := List.mem_of_getElem? (i := 15) rfl
theorem kj_16 : (Jvm.Cond.selects "CacheYardModel" ({ cls := "CacheYardModel", name := "placeOf", desc := "(III)I" } : Jvm.MethodName) ({ cls := "CacheYardModel", name := "placeOf", desc := "(III)I" } : Jvm.MethodName)) ∈ kw_all := List.mem_of_getElem? (i := 16) rfl
theorem kj_17 : (Jvm.Cond.selects "CacheYardModel" ({ cls := "CacheYardModel", name := "victimOf", desc := "(II)I" } : Jvm.MethodName) ({ cls := "CacheYardModel", name := "victimOf", desc := "(II)I" } : Jvm.MethodName)) ∈ kw_all := List.mem_of_getElem? (i := 17) rfl
theorem kj_18 : (Jvm.Cond.selects "CacheYardModel" ({ cls := "CacheYardModel", name := "pointed", desc := "(II)I" } : Jvm.MethodName) ({ cls := "CacheYardModel", name := "pointed", desc := "(II)I" } : Jvm.MethodName)) ∈ kw_all := List.mem_of_getElem? (i := 18) rfl
theorem kj_19 : (Jvm.Cond.selects "CacheYardModel" ({ cls := "CacheYardModel", name := "turn", desc := "(III)V" } : Jvm.MethodName) ({ cls := "CacheYardModel", name := "turn", desc := "(III)V" } : Jvm.MethodName)) ∈ kw_all := List.mem_of_getElem? (i := 19) rfl
theorem kj_20 : (Jvm.Cond.selects "CacheYardModel" ({ cls := "CacheYardModel", name := "isThere", desc := "(I)Z" } : Jvm.MethodName) ({ cls := "CacheYardModel", name := "isThere", desc := "(I)Z" } : Jvm.MethodName)) ∈ kw_all := List.mem_of_getElem? (i := 20) rfl
theorem kj_21 : (Jvm.Cond.selects "CacheYardModel" ({ cls := "CacheYardModel", name := "count", desc := "(IZ)I" } : Jvm.MethodName) ({ cls := "CacheYardModel", name := "count", desc := "(IZ)I" } : Jvm.MethodName)) ∈ kw_all := List.mem_of_getElem? (i := 21) rfl
theorem kj_22 : (Jvm.Cond.selects "CacheYardModel" ({ cls := "CacheYardModel", name := "comes", desc := "(III)Z" } : Jvm.MethodName) ({ cls := "CacheYardModel", name := "comes", desc := "(III)Z" } : Jvm.MethodName)) ∈ kw_all := List.mem_of_getElem? (i := 22) rfl
theorem kj_23 : (Jvm.Cond.selects "CacheYardModel" ({ cls := "CacheYardModel", name := "nextOf", desc := "(II)I" } : Jvm.MethodName) ({ cls := "CacheYardModel", name := "nextOf", desc := "(II)I" } : Jvm.MethodName)) ∈ kw_all := List.mem_of_getElem? (i := 23) rfl
theorem kj_24 : (Jvm.Cond.initialized "CacheYardLaw") ∈ kw_all := List.mem_of_getElem? (i := 24) rfl
theorem kj_25 : (Jvm.Cond.initialized "CacheYard") ∈ kw_all := List.mem_of_getElem? (i := 25) rfl
theorem kj_26 : (Jvm.Cond.initialized "CacheYard$Row") ∈ kw_all := List.mem_of_getElem? (i := 26) rfl
theorem kj_27 : (Jvm.Cond.initialized "CacheYardModel") ∈ kw_all := List.mem_of_getElem? (i := 27) rfl
theorem kj_28 : (Jvm.Cond.initialized "java/lang/Throwable") ∈ kw_all := List.mem_of_getElem? (i := 28) rfl
theorem kj_29 : (Jvm.Cond.initialized "java/lang/Exception") ∈ kw_all := List.mem_of_getElem? (i := 29) rfl
theorem kj_30 : (Jvm.Cond.initialized "java/lang/RuntimeException") ∈ kw_all := List.mem_of_getElem? (i := 30) rfl
theorem kj_31 : (Jvm.Cond.initialized "java/lang/IllegalArgumentException") ∈ kw_all := List.mem_of_getElem? (i := 31) rfl
theorem kj_32 : (Jvm.Cond.initialized "java/lang/Integer") ∈ kw_all := List.mem_of_getElem? (i := 32) rfl
theorem kj_33 : (Jvm.Cond.initialized "CacheYard$Cache") ∈ kw_all := List.mem_of_getElem? (i := 33) rfl
theorem kj_34 : (Jvm.Cond.initialized "java/lang/UnsupportedOperationException") ∈ kw_all := List.mem_of_getElem? (i := 34) rfl
theorem kj_35 : (Jvm.Cond.initialized "java/util/NoSuchElementException") ∈ kw_all := List.mem_of_getElem? (i := 35) rfl
theorem kj_36 : (Jvm.Cond.initialized "java/lang/IndexOutOfBoundsException") ∈ kw_all := List.mem_of_getElem? (i := 36) rfl
theorem kj_37 : (Jvm.Cond.classLink "CacheYardLaw" (8 : Nat) "CacheYard") ∈ kw_all := List.mem_of_getElem? (i := 37) rfl
theorem kj_38 : (Jvm.Cond.instantiable "CacheYard" (2 : Nat)) ∈ kw_all := List.mem_of_getElem? (i := 38) rfl
theorem kj_39 : (Jvm.Cond.methodLink "CacheYardLaw" (43 : Nat) ({ cls := "CacheYard", name := "<init>", desc := "()V" } : Jvm.MethodName)) ∈ kw_all := List.mem_of_getElem? (i := 39) rfl
theorem kj_40 : (Jvm.Cond.instanceMethod ({ cls := "CacheYard", name := "<init>", desc := "()V" } : Jvm.MethodName)) ∈ kw_all := List.mem_of_getElem? (i := 40) rfl
theorem kj_41 : (Jvm.Cond.code ({ cls := "CacheYard", name := "<init>", desc := "()V" } : Jvm.MethodName) prog_1_method_1_code (1 : Nat) (Option.none : Option Jvm.ClassFile.FieldType)) ∈ kw_all := List.mem_of_getElem? (i := 41) rfl
theorem kj_42 : (Jvm.Cond.methodLink "CacheYard" (1 : Nat) ({ cls := "java/lang/Object", name := "<init>", desc := "()V" } : Jvm.MethodName)) ∈ kw_all := List.mem_of_getElem? (i := 42) rfl
theorem kj_43 : (Jvm.Cond.instanceMethod ({ cls := "java/lang/Object", name := "<init>", desc := "()V" } : Jvm.MethodName)) ∈ kw_all := List.mem_of_getElem? (i := 43) rfl
theorem kj_44 : (Jvm.Cond.code ({ cls := "java/lang/Object", name := "<init>", desc := "()V" } : Jvm.MethodName) object_method_1_code (1 : Nat) (Option.none : Option Jvm.ClassFile.FieldType)) ∈ kw_all := List.mem_of_getElem? (i := 44) rfl
theorem kj_45 : (Jvm.Cond.classLink "CacheYard" (9 : Nat) "CacheYard$Cache") ∈ kw_all := List.mem_of_getElem? (i := 45) rfl
theorem kj_46 : (Jvm.Cond.classLink "CacheYard" (15 : Nat) "CacheYard$Row") ∈ kw_all := List.mem_of_getElem? (i := 46) rfl
theorem kj_47 : (Jvm.Cond.instantiable "CacheYard$Row" (5 : Nat)) ∈ kw_all := List.mem_of_getElem? (i := 47) rfl
theorem kj_48 : (Jvm.Cond.instanceMethod ({ cls := "CacheYard$Row", name := "<init>", desc := "()V" } : Jvm.MethodName)) ∈ kw_all := List.mem_of_getElem? (i := 48) rfl
theorem kj_49 : (Jvm.Cond.code ({ cls := "CacheYard$Row", name := "<init>", desc := "()V" } : Jvm.MethodName) prog_3_method_1_code (1 : Nat) (Option.none : Option Jvm.ClassFile.FieldType)) ∈ kw_all := List.mem_of_getElem? (i := 49) rfl
theorem kj_50 : (Jvm.Cond.methodLink "CacheYard$Row" (3 : Nat) ({ cls := "java/lang/Object", name := "<init>", desc := "()V" } : Jvm.MethodName)) ∈ kw_all := List.mem_of_getElem? (i := 50) rfl
theorem kj_51 : (Jvm.Cond.fieldLink "CacheYard$Row" (9 : Nat) "CacheYard$Row" "addresses" "[I") ∈ kw_all := List.mem_of_getElem? (i := 51) rfl
theorem kj_52 : (Jvm.Cond.fieldLink "CacheYard$Row" (24 : Nat) "CacheYard$Row" "count" "I") ∈ kw_all := List.mem_of_getElem? (i := 52) rfl
theorem kj_53 : (Jvm.Cond.fieldLink "CacheYard$Row" (15 : Nat) "CacheYard$Row" "nextUses" "[I") ∈ kw_all := List.mem_of_getElem? (i := 53) rfl
theorem kj_54 : (Jvm.Cond.fieldLink "CacheYard$Row" (18 : Nat) "CacheYard$Row" "firstUses" "[I") ∈ kw_all := List.mem_of_getElem? (i := 54) rfl
theorem kj_55 : (Jvm.Cond.fieldLink "CacheYard$Row" (21 : Nat) "CacheYard$Row" "lineUses" "[I") ∈ kw_all := List.mem_of_getElem? (i := 55) rfl
theorem kj_56 : (Jvm.Cond.laysFinal "CacheYard$Row" "CacheYard$Row" "addresses" "[I") ∈ kw_all := List.mem_of_getElem? (i := 56) rfl
theorem kj_57 : (Jvm.Cond.lays "CacheYard$Row" "CacheYard$Row" "count" "I") ∈ kw_all := List.mem_of_getElem? (i := 57) rfl
theorem kj_58 : (Jvm.Cond.laysFinal "CacheYard$Row" "CacheYard$Row" "nextUses" "[I") ∈ kw_all := List.mem_of_getElem? (i := 58) rfl
theorem kj_59 : (Jvm.Cond.laysFinal "CacheYard$Row" "CacheYard$Row" "firstUses" "[I") ∈ kw_all := List.mem_of_getElem? (i := 59) rfl
theorem kj_60 : (Jvm.Cond.laysFinal "CacheYard$Row" "CacheYard$Row" "lineUses" "[I") ∈ kw_all := List.mem_of_getElem? (i := 60) rfl
theorem kj_61 : (Jvm.Cond.arrayClass Jvm.ClassFile.FieldType.int) ∈ kw_all := List.mem_of_getElem? (i := 61) rfl
theorem kj_62 : (Jvm.Cond.fieldLink "CacheYard" (11 : Nat) "CacheYard" "caches" "[LCacheYard$Cache;") ∈ kw_all := List.mem_of_getElem? (i := 62) rfl
theorem kj_63 : (Jvm.Cond.fieldLink "CacheYard" (18 : Nat) "CacheYard" "row" "LCacheYard$Row;") ∈ kw_all := List.mem_of_getElem? (i := 63) rfl
theorem kj_64 : (Jvm.Cond.laysFinal "CacheYard" "CacheYard" "caches" "[LCacheYard$Cache;") ∈ kw_all := List.mem_of_getElem? (i := 64) rfl
theorem kj_65 : (Jvm.Cond.laysFinal "CacheYard" "CacheYard" "row" "LCacheYard$Row;") ∈ kw_all := List.mem_of_getElem? (i := 65) rfl
theorem kj_66 : (Jvm.Cond.methodLink "CacheYardLaw" (73 : Nat) ({ cls := "CacheYard", name := "accesses", desc := "()I" } : Jvm.MethodName)) ∈ kw_all := List.mem_of_getElem? (i := 66) rfl
theorem kj_67 : (Jvm.Cond.instanceMethod ({ cls := "CacheYard", name := "accesses", desc := "()I" } : Jvm.MethodName)) ∈ kw_all := List.mem_of_getElem? (i := 67) rfl
theorem kj_68 : (Jvm.Cond.selects "CacheYard" ({ cls := "CacheYard", name := "accesses", desc := "()I" } : Jvm.MethodName) ({ cls := "CacheYard", name := "accesses", desc := "()I" } : Jvm.MethodName)) ∈ kw_all := List.mem_of_getElem? (i := 68) rfl
theorem kj_69 : (Jvm.Cond.code ({ cls := "CacheYard", name := "accesses", desc := "()I" } : Jvm.MethodName) prog_1_method_7_code (1 : Nat) (Option.some Jvm.ClassFile.FieldType.int)) ∈ kw_all := List.mem_of_getElem? (i := 69) rfl
theorem kj_70 : (Jvm.Cond.methodLink "CacheYard" (56 : Nat) ({ cls := "CacheYard$Row", name := "length", desc := "()I" } : Jvm.MethodName)) ∈ kw_all := List.mem_of_getElem? (i := 70) rfl
theorem kj_71 : (Jvm.Cond.instanceMethod ({ cls := "CacheYard$Row", name := "length", desc := "()I" } : Jvm.MethodName)) ∈ kw_all := List.mem_of_getElem? (i := 71) rfl
theorem kj_72 : (Jvm.Cond.selects "CacheYard$Row" ({ cls := "CacheYard$Row", name := "length", desc := "()I" } : Jvm.MethodName) ({ cls := "CacheYard$Row", name := "length", desc := "()I" } : Jvm.MethodName)) ∈ kw_all := List.mem_of_getElem? (i := 72) rfl
theorem kj_73 : (Jvm.Cond.code ({ cls := "CacheYard$Row", name := "length", desc := "()I" } : Jvm.MethodName) prog_3_method_2_code (1 : Nat) (Option.some Jvm.ClassFile.FieldType.int)) ∈ kw_all := List.mem_of_getElem? (i := 73) rfl
theorem kj_74 : (Jvm.Cond.methodLink "CacheYardLaw" (47 : Nat) ({ cls := "CacheYardLaw", name := "make", desc := "(LCacheYard;IIIII)I" } : Jvm.MethodName)) ∈ kw_all := List.mem_of_getElem? (i := 74) rfl
theorem kj_75 : (Jvm.Cond.static ({ cls := "CacheYardLaw", name := "make", desc := "(LCacheYard;IIIII)I" } : Jvm.MethodName)) ∈ kw_all := List.mem_of_getElem? (i := 75) rfl
theorem kj_76 : (Jvm.Cond.codeWith ({ cls := "CacheYardLaw", name := "make", desc := "(LCacheYard;IIIII)I" } : Jvm.MethodName) method_3_code (7 : Nat) (Option.some Jvm.ClassFile.FieldType.int) [((0 : Nat), (11 : Nat), (14 : Nat), (13 : Nat))]) ∈ kw_all := List.mem_of_getElem? (i := 76) rfl
theorem kj_77 : (Jvm.Cond.classLink "CacheYardLaw" (13 : Nat) "java/lang/IllegalArgumentException") ∈ kw_all := List.mem_of_getElem? (i := 77) rfl
theorem kj_78 : (Jvm.Cond.methodLink "CacheYardLaw" (7 : Nat) ({ cls := "CacheYard", name := "make", desc := "(IIIII)V" } : Jvm.MethodName)) ∈ kw_all := List.mem_of_getElem? (i := 78) rfl
theorem kj_79 : (Jvm.Cond.instanceMethod ({ cls := "CacheYard", name := "make", desc := "(IIIII)V" } : Jvm.MethodName)) ∈ kw_all := List.mem_of_getElem? (i := 79) rfl
theorem kj_80 : (Jvm.Cond.selects "CacheYard" ({ cls := "CacheYard", name := "make", desc := "(IIIII)V" } : Jvm.MethodName) ({ cls := "CacheYard", name := "make", desc := "(IIIII)V" } : Jvm.MethodName)) ∈ kw_all := List.mem_of_getElem? (i := 80) rfl
theorem kj_81 : (Jvm.Cond.code ({ cls := "CacheYard", name := "make", desc := "(IIIII)V" } : Jvm.MethodName) prog_1_method_2_code (7 : Nat) (Option.none : Option Jvm.ClassFile.FieldType)) ∈ kw_all := List.mem_of_getElem? (i := 81) rfl
theorem kj_82 : (Jvm.Cond.classLink "CacheYard" (22 : Nat) "java/lang/IllegalArgumentException") ∈ kw_all := List.mem_of_getElem? (i := 82) rfl
theorem kj_83 : (Jvm.Cond.instantiable "java/lang/IllegalArgumentException" (6 : Nat)) ∈ kw_all := List.mem_of_getElem? (i := 83) rfl
theorem kj_84 : (Jvm.Cond.selects "java/lang/IllegalArgumentException" ({ cls := "java/lang/Throwable", name := "fillInStackTrace", desc := "(I)Ljava/lang/Throwable;" } : Jvm.MethodName) ({ cls := "java/lang/Throwable", name := "fillInStackTrace", desc := "(I)Ljava/lang/Throwable;" } : Jvm.MethodName)) ∈ kw_all := List.mem_of_getElem? (i := 84) rfl
theorem kj_85 : (Jvm.Cond.selects "java/lang/IllegalArgumentException" ({ cls := "java/lang/Throwable", name := "fillInStackTrace", desc := "()Ljava/lang/Throwable;" } : Jvm.MethodName) ({ cls := "java/lang/Throwable", name := "fillInStackTrace", desc := "()Ljava/lang/Throwable;" } : Jvm.MethodName)) ∈ kw_all := List.mem_of_getElem? (i := 85) rfl
theorem kj_86 : (Jvm.Cond.lays "java/lang/IllegalArgumentException" "java/lang/Throwable" "cause" "Ljava/lang/Throwable;") ∈ kw_all := List.mem_of_getElem? (i := 86) rfl
theorem kj_87 : (Jvm.Cond.lays "java/lang/Throwable" "java/lang/Throwable" "cause" "Ljava/lang/Throwable;") ∈ kw_all := List.mem_of_getElem? (i := 87) rfl
theorem kj_88 : (Jvm.Cond.lays "java/lang/IllegalArgumentException" "java/lang/Throwable" "stackTrace" "[Ljava/lang/StackTraceElement;") ∈ kw_all := List.mem_of_getElem? (i := 88) rfl
theorem kj_89 : (Jvm.Cond.lays "java/lang/Throwable" "java/lang/Throwable" "stackTrace" "[Ljava/lang/StackTraceElement;") ∈ kw_all := List.mem_of_getElem? (i := 89) rfl
theorem kj_90 : (Jvm.Cond.lays "java/lang/IllegalArgumentException" "java/lang/Throwable" "suppressedExceptions" "Ljava/util/List;") ∈ kw_all := List.mem_of_getElem? (i := 90) rfl
theorem kj_91 : (Jvm.Cond.lays "java/lang/Throwable" "java/lang/Throwable" "suppressedExceptions" "Ljava/util/List;") ∈ kw_all := List.mem_of_getElem? (i := 91) rfl
theorem kj_92 : (Jvm.Cond.lays "java/lang/IllegalArgumentException" "java/lang/Throwable" "detailMessage" "Ljava/lang/String;") ∈ kw_all := List.mem_of_getElem? (i := 92) rfl
theorem kj_93 : (Jvm.Cond.lays "java/lang/Throwable" "java/lang/Throwable" "detailMessage" "Ljava/lang/String;") ∈ kw_all := List.mem_of_getElem? (i := 93) rfl
theorem kj_94 : (Jvm.Cond.lays "java/lang/IllegalArgumentException" "java/lang/Throwable" "backtrace" "Ljava/lang/Object;") ∈ kw_all := List.mem_of_getElem? (i := 94) rfl
theorem kj_95 : (Jvm.Cond.lays "java/lang/Throwable" "java/lang/Throwable" "backtrace" "Ljava/lang/Object;") ∈ kw_all := List.mem_of_getElem? (i := 95) rfl
theorem kj_96 : (Jvm.Cond.fieldLink "java/lang/Throwable" (198 : Nat) "java/lang/Throwable" "backtrace" "Ljava/lang/Object;") ∈ kw_all := List.mem_of_getElem? (i := 96) rfl
theorem kj_97 : (Jvm.Cond.instanceMethod ({ cls := "java/lang/Throwable", name := "<init>", desc := "()V" } : Jvm.MethodName)) ∈ kw_all := List.mem_of_getElem? (i := 97) rfl
theorem kj_98 : (Jvm.Cond.code ({ cls := "java/lang/Throwable", name := "<init>", desc := "()V" } : Jvm.MethodName) prog_12_method_1_code (1 : Nat) (Option.none : Option Jvm.ClassFile.FieldType)) ∈ kw_all := List.mem_of_getElem? (i := 98) rfl
theorem kj_99 : (Jvm.Cond.methodLink "java/lang/Throwable" (1 : Nat) ({ cls := "java/lang/Object", name := "<init>", desc := "()V" } : Jvm.MethodName)) ∈ kw_all := List.mem_of_getElem? (i := 99) rfl
theorem kj_100 : (Jvm.Cond.fieldLink "java/lang/Throwable" (13 : Nat) "java/lang/Throwable" "UNASSIGNED_STACK" "[Ljava/lang/StackTraceElement;") ∈ kw_all := List.mem_of_getElem? (i := 100) rfl
theorem kj_101 : (Jvm.Cond.fieldLink "java/lang/Throwable" (20 : Nat) "java/lang/Throwable" "SUPPRESSED_SENTINEL" "Ljava/util/List;") ∈ kw_all := List.mem_of_getElem? (i := 101) rfl
theorem kj_102 : (Jvm.Cond.methodLink "java/lang/Throwable" (27 : Nat) ({ cls := "java/lang/Throwable", name := "fillInStackTrace", desc := "()Ljava/lang/Throwable;" } : Jvm.MethodName)) ∈ kw_all := List.mem_of_getElem? (i := 102) rfl
theorem kj_103 : (Jvm.Cond.instanceMethod ({ cls := "java/lang/Throwable", name := "fillInStackTrace", desc := "()Ljava/lang/Throwable;" } : Jvm.MethodName)) ∈ kw_all := List.mem_of_getElem? (i := 103) rfl
theorem kj_104 : (Jvm.Cond.selects "java/lang/IndexOutOfBoundsException" ({ cls := "java/lang/Throwable", name := "fillInStackTrace", desc := "()Ljava/lang/Throwable;" } : Jvm.MethodName) ({ cls := "java/lang/Throwable", name := "fillInStackTrace", desc := "()Ljava/lang/Throwable;" } : Jvm.MethodName)) ∈ kw_all := List.mem_of_getElem? (i := 104) rfl
theorem kj_105 : (Jvm.Cond.selects "java/lang/UnsupportedOperationException" ({ cls := "java/lang/Throwable", name := "fillInStackTrace", desc := "()Ljava/lang/Throwable;" } : Jvm.MethodName) ({ cls := "java/lang/Throwable", name := "fillInStackTrace", desc := "()Ljava/lang/Throwable;" } : Jvm.MethodName)) ∈ kw_all := List.mem_of_getElem? (i := 105) rfl
theorem kj_106 : (Jvm.Cond.selects "java/util/NoSuchElementException" ({ cls := "java/lang/Throwable", name := "fillInStackTrace", desc := "()Ljava/lang/Throwable;" } : Jvm.MethodName) ({ cls := "java/lang/Throwable", name := "fillInStackTrace", desc := "()Ljava/lang/Throwable;" } : Jvm.MethodName)) ∈ kw_all := List.mem_of_getElem? (i := 106) rfl
theorem kj_107 : (Jvm.Cond.methodLink "java/lang/Throwable" (202 : Nat) ({ cls := "java/lang/Throwable", name := "fillInStackTrace", desc := "(I)Ljava/lang/Throwable;" } : Jvm.MethodName)) ∈ kw_all := List.mem_of_getElem? (i := 107) rfl
theorem kj_108 : (Jvm.Cond.instanceMethod ({ cls := "java/lang/Throwable", name := "fillInStackTrace", desc := "(I)Ljava/lang/Throwable;" } : Jvm.MethodName)) ∈ kw_all := List.mem_of_getElem? (i := 108) rfl
theorem kj_109 : (Jvm.Cond.instantiable "java/lang/Throwable" (6 : Nat)) ∈ kw_all := List.mem_of_getElem? (i := 109) rfl
theorem kj_110 : (Jvm.Cond.methodLink "CacheYard" (26 : Nat) ({ cls := "java/lang/IllegalArgumentException", name := "<init>", desc := "(Ljava/lang/String;)V" } : Jvm.MethodName)) ∈ kw_all := List.mem_of_getElem? (i := 110) rfl
theorem kj_111 : (Jvm.Cond.instanceMethod ({ cls := "java/lang/IllegalArgumentException", name := "<init>", desc := "(Ljava/lang/String;)V" } : Jvm.MethodName)) ∈ kw_all := List.mem_of_getElem? (i := 111) rfl
theorem kj_112 : (Jvm.Cond.code ({ cls := "java/lang/IllegalArgumentException", name := "<init>", desc := "(Ljava/lang/String;)V" } : Jvm.MethodName) prog_7_method_2_code (2 : Nat) (Option.none : Option Jvm.ClassFile.FieldType)) ∈ kw_all := List.mem_of_getElem? (i := 112) rfl
theorem kj_113 : (Jvm.Cond.methodLink "java/lang/IllegalArgumentException" (7 : Nat) ({ cls := "java/lang/RuntimeException", name := "<init>", desc := "(Ljava/lang/String;)V" } : Jvm.MethodName)) ∈ kw_all := List.mem_of_getElem? (i := 113) rfl
theorem kj_114 : (Jvm.Cond.instanceMethod ({ cls := "java/lang/RuntimeException", name := "<init>", desc := "(Ljava/lang/String;)V" } : Jvm.MethodName)) ∈ kw_all := List.mem_of_getElem? (i := 114) rfl
theorem kj_115 : (Jvm.Cond.code ({ cls := "java/lang/RuntimeException", name := "<init>", desc := "(Ljava/lang/String;)V" } : Jvm.MethodName) prog_10_method_2_code (2 : Nat) (Option.none : Option Jvm.ClassFile.FieldType)) ∈ kw_all := List.mem_of_getElem? (i := 115) rfl
theorem kj_116 : (Jvm.Cond.methodLink "java/lang/RuntimeException" (7 : Nat) ({ cls := "java/lang/Exception", name := "<init>", desc := "(Ljava/lang/String;)V" } : Jvm.MethodName)) ∈ kw_all := List.mem_of_getElem? (i := 116) rfl
theorem kj_117 : (Jvm.Cond.instanceMethod ({ cls := "java/lang/Exception", name := "<init>", desc := "(Ljava/lang/String;)V" } : Jvm.MethodName)) ∈ kw_all := List.mem_of_getElem? (i := 117) rfl
theorem kj_118 : (Jvm.Cond.code ({ cls := "java/lang/Exception", name := "<init>", desc := "(Ljava/lang/String;)V" } : Jvm.MethodName) prog_6_method_2_code (2 : Nat) (Option.none : Option Jvm.ClassFile.FieldType)) ∈ kw_all := List.mem_of_getElem? (i := 118) rfl
theorem kj_119 : (Jvm.Cond.methodLink "java/lang/Exception" (7 : Nat) ({ cls := "java/lang/Throwable", name := "<init>", desc := "(Ljava/lang/String;)V" } : Jvm.MethodName)) ∈ kw_all := List.mem_of_getElem? (i := 119) rfl
theorem kj_120 : (Jvm.Cond.instanceMethod ({ cls := "java/lang/Throwable", name := "<init>", desc := "(Ljava/lang/String;)V" } : Jvm.MethodName)) ∈ kw_all := List.mem_of_getElem? (i := 120) rfl
theorem kj_121 : (Jvm.Cond.code ({ cls := "java/lang/Throwable", name := "<init>", desc := "(Ljava/lang/String;)V" } : Jvm.MethodName) prog_12_method_2_code (2 : Nat) (Option.none : Option Jvm.ClassFile.FieldType)) ∈ kw_all := List.mem_of_getElem? (i := 121) rfl
theorem kj_122 : (Jvm.Cond.fieldLink "java/lang/Throwable" (198 : Nat) "java/lang/Throwable" "backtrace" "Ljava/lang/Object;") ∈ kw_all := List.mem_of_getElem? (i := 122) rfl
theorem kj_123 : (Jvm.Cond.fieldLink "java/lang/Throwable" (31 : Nat) "java/lang/Throwable" "detailMessage" "Ljava/lang/String;") ∈ kw_all := List.mem_of_getElem? (i := 123) rfl
theorem kj_124 : (Jvm.Cond.fieldLink "java/lang/Throwable" (7 : Nat) "java/lang/Throwable" "cause" "Ljava/lang/Throwable;") ∈ kw_all := List.mem_of_getElem? (i := 124) rfl
theorem kj_125 : (Jvm.Cond.fieldLink "java/lang/Throwable" (17 : Nat) "java/lang/Throwable" "stackTrace" "[Ljava/lang/StackTraceElement;") ∈ kw_all := List.mem_of_getElem? (i := 125) rfl
theorem kj_126 : (Jvm.Cond.fieldLink "java/lang/Throwable" (24 : Nat) "java/lang/Throwable" "suppressedExceptions" "Ljava/util/List;") ∈ kw_all := List.mem_of_getElem? (i := 126) rfl
theorem kj_127 : (Jvm.Cond.lays "java/lang/IllegalArgumentException" "java/lang/Throwable" "depth" "I") ∈ kw_all := List.mem_of_getElem? (i := 127) rfl
theorem kj_128 : (Jvm.Cond.arrayClass Jvm.ClassFile.FieldType.byte) ∈ kw_all := List.mem_of_getElem? (i := 128) rfl
theorem kj_129 : (Jvm.Cond.methodLink "CacheYard" (35 : Nat) ({ cls := "java/lang/Integer", name := "bitCount", desc := "(I)I" } : Jvm.MethodName)) ∈ kw_all := List.mem_of_getElem? (i := 129) rfl
theorem kj_130 : (Jvm.Cond.static ({ cls := "java/lang/Integer", name := "bitCount", desc := "(I)I" } : Jvm.MethodName)) ∈ kw_all := List.mem_of_getElem? (i := 130) rfl
theorem kj_131 : (Jvm.Cond.code ({ cls := "java/lang/Integer", name := "bitCount", desc := "(I)I" } : Jvm.MethodName) prog_9_method_49_code (1 : Nat) (Option.some Jvm.ClassFile.FieldType.int)) ∈ kw_all := List.mem_of_getElem? (i := 131) rfl
theorem kj_132 : (Jvm.Cond.constant "java/lang/Integer" (265 : Nat) (1431655765 : Int32)) ∈ kw_all := List.mem_of_getElem? (i := 132) rfl
theorem kj_133 : (Jvm.Cond.constant "java/lang/Integer" (266 : Nat) (858993459 : Int32)) ∈ kw_all := List.mem_of_getElem? (i := 133) rfl
theorem kj_134 : (Jvm.Cond.constant "java/lang/Integer" (267 : Nat) (252645135 : Int32)) ∈ kw_all := List.mem_of_getElem? (i := 134) rfl
theorem kj_135 : (Jvm.Cond.methodLink "CacheYard" (43 : Nat) ({ cls := "CacheYard", name := "areBits", desc := "(I)Z" } : Jvm.MethodName)) ∈ kw_all := List.mem_of_getElem? (i := 135) rfl
theorem kj_136 : (Jvm.Cond.static ({ cls := "CacheYard", name := "areBits", desc := "(I)Z" } : Jvm.MethodName)) ∈ kw_all := List.mem_of_getElem? (i := 136) rfl
theorem kj_137 : (Jvm.Cond.code ({ cls := "CacheYard", name := "areBits", desc := "(I)Z" } : Jvm.MethodName) prog_1_method_12_code (1 : Nat) (Option.some Jvm.ClassFile.FieldType.boolean)) ∈ kw_all := List.mem_of_getElem? (i := 137) rfl
theorem kj_138 : (Jvm.Cond.instantiable "CacheYard$Cache" (12 : Nat)) ∈ kw_all := List.mem_of_getElem? (i := 138) rfl
theorem kj_139 : (Jvm.Cond.instanceMethod ({ cls := "CacheYard$Cache", name := "<init>", desc := "()V" } : Jvm.MethodName)) ∈ kw_all := List.mem_of_getElem? (i := 139) rfl
theorem kj_140 : (Jvm.Cond.code ({ cls := "CacheYard$Cache", name := "<init>", desc := "()V" } : Jvm.MethodName) prog_2_method_1_code (1 : Nat) (Option.none : Option Jvm.ClassFile.FieldType)) ∈ kw_all := List.mem_of_getElem? (i := 140) rfl
theorem kj_141 : (Jvm.Cond.methodLink "CacheYard$Cache" (3 : Nat) ({ cls := "java/lang/Object", name := "<init>", desc := "()V" } : Jvm.MethodName)) ∈ kw_all := List.mem_of_getElem? (i := 141) rfl
theorem kj_142 : (Jvm.Cond.fieldLink "CacheYard$Cache" (25 : Nat) "CacheYard$Cache" "setBits" "I") ∈ kw_all := List.mem_of_getElem? (i := 142) rfl
theorem kj_143 : (Jvm.Cond.fieldLink "CacheYard$Cache" (29 : Nat) "CacheYard$Cache" "places" "I") ∈ kw_all := List.mem_of_getElem? (i := 143) rfl
theorem kj_144 : (Jvm.Cond.fieldLink "CacheYard$Cache" (32 : Nat) "CacheYard$Cache" "kind" "I") ∈ kw_all := List.mem_of_getElem? (i := 144) rfl
theorem kj_145 : (Jvm.Cond.fieldLink "CacheYard$Cache" (35 : Nat) "CacheYard$Cache" "bits" "I") ∈ kw_all := List.mem_of_getElem? (i := 145) rfl
theorem kj_146 : (Jvm.Cond.fieldLink "CacheYard$Cache" (9 : Nat) "CacheYard$Cache" "blocks" "[I") ∈ kw_all := List.mem_of_getElem? (i := 146) rfl
theorem kj_147 : (Jvm.Cond.fieldLink "CacheYard$Cache" (15 : Nat) "CacheYard$Cache" "dirty" "[Z") ∈ kw_all := List.mem_of_getElem? (i := 147) rfl
theorem kj_148 : (Jvm.Cond.fieldLink "CacheYard$Cache" (19 : Nat) "CacheYard$Cache" "stamps" "[I") ∈ kw_all := List.mem_of_getElem? (i := 148) rfl
theorem kj_149 : (Jvm.Cond.fieldLink "CacheYard$Cache" (22 : Nat) "CacheYard$Cache" "trees" "[I") ∈ kw_all := List.mem_of_getElem? (i := 149) rfl
theorem kj_150 : (Jvm.Cond.fieldLink "CacheYard$Cache" (38 : Nat) "CacheYard$Cache" "hits" "I") ∈ kw_all := List.mem_of_getElem? (i := 150) rfl
theorem kj_151 : (Jvm.Cond.fieldLink "CacheYard" (98 : Nat) "CacheYard$Cache" "hits" "I") ∈ kw_all := List.mem_of_getElem? (i := 151) rfl
theorem kj_152 : (Jvm.Cond.fieldLink "CacheYard$Cache" (41 : Nat) "CacheYard$Cache" "misses" "I") ∈ kw_all := List.mem_of_getElem? (i := 152) rfl
theorem kj_153 : (Jvm.Cond.fieldLink "CacheYard" (102 : Nat) "CacheYard$Cache" "misses" "I") ∈ kw_all := List.mem_of_getElem? (i := 153) rfl
theorem kj_154 : (Jvm.Cond.fieldLink "CacheYard$Cache" (44 : Nat) "CacheYard$Cache" "victims" "I") ∈ kw_all := List.mem_of_getElem? (i := 154) rfl
theorem kj_155 : (Jvm.Cond.fieldLink "CacheYard" (105 : Nat) "CacheYard$Cache" "victims" "I") ∈ kw_all := List.mem_of_getElem? (i := 155) rfl
theorem kj_156 : (Jvm.Cond.fieldLink "CacheYard$Cache" (47 : Nat) "CacheYard$Cache" "writtenBack" "I") ∈ kw_all := List.mem_of_getElem? (i := 156) rfl
theorem kj_157 : (Jvm.Cond.fieldLink "CacheYard" (108 : Nat) "CacheYard$Cache" "writtenBack" "I") ∈ kw_all := List.mem_of_getElem? (i := 157) rfl
theorem kj_158 : (Jvm.Cond.lays "CacheYard$Cache" "CacheYard$Cache" "setBits" "I") ∈ kw_all := List.mem_of_getElem? (i := 158) rfl
theorem kj_159 : (Jvm.Cond.lays "CacheYard$Cache" "CacheYard$Cache" "places" "I") ∈ kw_all := List.mem_of_getElem? (i := 159) rfl
theorem kj_160 : (Jvm.Cond.lays "CacheYard$Cache" "CacheYard$Cache" "kind" "I") ∈ kw_all := List.mem_of_getElem? (i := 160) rfl
theorem kj_161 : (Jvm.Cond.lays "CacheYard$Cache" "CacheYard$Cache" "bits" "I") ∈ kw_all := List.mem_of_getElem? (i := 161) rfl
theorem kj_162 : (Jvm.Cond.laysFinal "CacheYard$Cache" "CacheYard$Cache" "blocks" "[I") ∈ kw_all := List.mem_of_getElem? (i := 162) rfl
theorem kj_163 : (Jvm.Cond.laysFinal "CacheYard$Cache" "CacheYard$Cache" "dirty" "[Z") ∈ kw_all := List.mem_of_getElem? (i := 163) rfl
theorem kj_164 : (Jvm.Cond.laysFinal "CacheYard$Cache" "CacheYard$Cache" "stamps" "[I") ∈ kw_all := List.mem_of_getElem? (i := 164) rfl
theorem kj_165 : (Jvm.Cond.laysFinal "CacheYard$Cache" "CacheYard$Cache" "trees" "[I") ∈ kw_all := List.mem_of_getElem? (i := 165) rfl
theorem kj_166 : (Jvm.Cond.lays "CacheYard$Cache" "CacheYard$Cache" "hits" "I") ∈ kw_all := List.mem_of_getElem? (i := 166) rfl
theorem kj_167 : (Jvm.Cond.lays "CacheYard$Cache" "CacheYard$Cache" "misses" "I") ∈ kw_all := List.mem_of_getElem? (i := 167) rfl
theorem kj_168 : (Jvm.Cond.lays "CacheYard$Cache" "CacheYard$Cache" "victims" "I") ∈ kw_all := List.mem_of_getElem? (i := 168) rfl
theorem kj_169 : (Jvm.Cond.lays "CacheYard$Cache" "CacheYard$Cache" "writtenBack" "I") ∈ kw_all := List.mem_of_getElem? (i := 169) rfl
theorem kj_170 : (Jvm.Cond.arrayClass Jvm.ClassFile.FieldType.boolean) ∈ kw_all := List.mem_of_getElem? (i := 170) rfl
theorem kj_171 : (Jvm.Cond.methodLink "CacheYard" (50 : Nat) ({ cls := "CacheYard$Cache", name := "become", desc := "(IIII)V" } : Jvm.MethodName)) ∈ kw_all := List.mem_of_getElem? (i := 171) rfl
theorem kj_172 : (Jvm.Cond.instanceMethod ({ cls := "CacheYard$Cache", name := "become", desc := "(IIII)V" } : Jvm.MethodName)) ∈ kw_all := List.mem_of_getElem? (i := 172) rfl
theorem kj_173 : (Jvm.Cond.selects "CacheYard$Cache" ({ cls := "CacheYard$Cache", name := "become", desc := "(IIII)V" } : Jvm.MethodName) ({ cls := "CacheYard$Cache", name := "become", desc := "(IIII)V" } : Jvm.MethodName)) ∈ kw_all := List.mem_of_getElem? (i := 173) rfl
theorem kj_174 : (Jvm.Cond.code ({ cls := "CacheYard$Cache", name := "become", desc := "(IIII)V" } : Jvm.MethodName) prog_2_method_2_code (5 : Nat) (Option.none : Option Jvm.ClassFile.FieldType)) ∈ kw_all := List.mem_of_getElem? (i := 174) rfl
theorem kj_175 : (Jvm.Cond.methodLink "CacheYard$Cache" (50 : Nat) ({ cls := "CacheYard$Cache", name := "emptyAll", desc := "()V" } : Jvm.MethodName)) ∈ kw_all := List.mem_of_getElem? (i := 175) rfl
theorem kj_176 : (Jvm.Cond.instanceMethod ({ cls := "CacheYard$Cache", name := "emptyAll", desc := "()V" } : Jvm.MethodName)) ∈ kw_all := List.mem_of_getElem? (i := 176) rfl
theorem kj_177 : (Jvm.Cond.code ({ cls := "CacheYard$Cache", name := "emptyAll", desc := "()V" } : Jvm.MethodName) prog_2_method_10_code (2 : Nat) (Option.none : Option Jvm.ClassFile.FieldType)) ∈ kw_all := List.mem_of_getElem? (i := 177) rfl
theorem kj_178 : (Jvm.Cond.methodLink "CacheYardLaw" (57 : Nat) ({ cls := "CacheYardLaw", name := "access", desc := "(LCacheYard;IZ[J)I" } : Jvm.MethodName)) ∈ kw_all := List.mem_of_getElem? (i := 178) rfl
theorem kj_179 : (Jvm.Cond.static ({ cls := "CacheYardLaw", name := "access", desc := "(LCacheYard;IZ[J)I" } : Jvm.MethodName)) ∈ kw_all := List.mem_of_getElem? (i := 179) rfl
theorem kj_180 : (Jvm.Cond.codeWith ({ cls := "CacheYardLaw", name := "access", desc := "(LCacheYard;IZ[J)I" } : Jvm.MethodName) method_4_code (5 : Nat) (Option.some Jvm.ClassFile.FieldType.int) [((0 : Nat), (10 : Nat), (13 : Nat), (13 : Nat)), ((0 : Nat), (10 : Nat), (17 : Nat), (19 : Nat))]) ∈ kw_all := List.mem_of_getElem? (i := 180) rfl
theorem kj_181 : (Jvm.Cond.classLink "CacheYardLaw" (19 : Nat) "java/lang/UnsupportedOperationException") ∈ kw_all := List.mem_of_getElem? (i := 181) rfl
theorem kj_182 : (Jvm.Cond.methodLink "CacheYardLaw" (15 : Nat) ({ cls := "CacheYard", name := "access", desc := "(IZ)I" } : Jvm.MethodName)) ∈ kw_all := List.mem_of_getElem? (i := 182) rfl
theorem kj_183 : (Jvm.Cond.instanceMethod ({ cls := "CacheYard", name := "access", desc := "(IZ)I" } : Jvm.MethodName)) ∈ kw_all := List.mem_of_getElem? (i := 183) rfl
theorem kj_184 : (Jvm.Cond.selects "CacheYard" ({ cls := "CacheYard", name := "access", desc := "(IZ)I" } : Jvm.MethodName) ({ cls := "CacheYard", name := "access", desc := "(IZ)I" } : Jvm.MethodName)) ∈ kw_all := List.mem_of_getElem? (i := 184) rfl
theorem kj_185 : (Jvm.Cond.code ({ cls := "CacheYard", name := "access", desc := "(IZ)I" } : Jvm.MethodName) prog_1_method_3_code (7 : Nat) (Option.some Jvm.ClassFile.FieldType.int)) ∈ kw_all := List.mem_of_getElem? (i := 185) rfl
theorem kj_186 : (Jvm.Cond.classLink "CacheYard" (60 : Nat) "java/lang/UnsupportedOperationException") ∈ kw_all := List.mem_of_getElem? (i := 186) rfl
theorem kj_187 : (Jvm.Cond.instantiable "java/lang/UnsupportedOperationException" (6 : Nat)) ∈ kw_all := List.mem_of_getElem? (i := 187) rfl
theorem kj_188 : (Jvm.Cond.selects "java/lang/UnsupportedOperationException" ({ cls := "java/lang/Throwable", name := "fillInStackTrace", desc := "(I)Ljava/lang/Throwable;" } : Jvm.MethodName) ({ cls := "java/lang/Throwable", name := "fillInStackTrace", desc := "(I)Ljava/lang/Throwable;" } : Jvm.MethodName)) ∈ kw_all := List.mem_of_getElem? (i := 188) rfl
theorem kj_189 : (Jvm.Cond.lays "java/lang/UnsupportedOperationException" "java/lang/Throwable" "cause" "Ljava/lang/Throwable;") ∈ kw_all := List.mem_of_getElem? (i := 189) rfl
theorem kj_190 : (Jvm.Cond.lays "java/lang/UnsupportedOperationException" "java/lang/Throwable" "stackTrace" "[Ljava/lang/StackTraceElement;") ∈ kw_all := List.mem_of_getElem? (i := 190) rfl
theorem kj_191 : (Jvm.Cond.lays "java/lang/UnsupportedOperationException" "java/lang/Throwable" "suppressedExceptions" "Ljava/util/List;") ∈ kw_all := List.mem_of_getElem? (i := 191) rfl
theorem kj_192 : (Jvm.Cond.lays "java/lang/UnsupportedOperationException" "java/lang/Throwable" "detailMessage" "Ljava/lang/String;") ∈ kw_all := List.mem_of_getElem? (i := 192) rfl
theorem kj_193 : (Jvm.Cond.lays "java/lang/UnsupportedOperationException" "java/lang/Throwable" "backtrace" "Ljava/lang/Object;") ∈ kw_all := List.mem_of_getElem? (i := 193) rfl
theorem kj_194 : (Jvm.Cond.methodLink "CacheYard" (64 : Nat) ({ cls := "java/lang/UnsupportedOperationException", name := "<init>", desc := "(Ljava/lang/String;)V" } : Jvm.MethodName)) ∈ kw_all := List.mem_of_getElem? (i := 194) rfl
theorem kj_195 : (Jvm.Cond.instanceMethod ({ cls := "java/lang/UnsupportedOperationException", name := "<init>", desc := "(Ljava/lang/String;)V" } : Jvm.MethodName)) ∈ kw_all := List.mem_of_getElem? (i := 195) rfl
theorem kj_196 : (Jvm.Cond.code ({ cls := "java/lang/UnsupportedOperationException", name := "<init>", desc := "(Ljava/lang/String;)V" } : Jvm.MethodName) prog_13_method_2_code (2 : Nat) (Option.none : Option Jvm.ClassFile.FieldType)) ∈ kw_all := List.mem_of_getElem? (i := 196) rfl
theorem kj_197 : (Jvm.Cond.methodLink "java/lang/UnsupportedOperationException" (7 : Nat) ({ cls := "java/lang/RuntimeException", name := "<init>", desc := "(Ljava/lang/String;)V" } : Jvm.MethodName)) ∈ kw_all := List.mem_of_getElem? (i := 197) rfl
theorem kj_198 : (Jvm.Cond.lays "java/lang/UnsupportedOperationException" "java/lang/Throwable" "depth" "I") ∈ kw_all := List.mem_of_getElem? (i := 198) rfl
theorem kj_199 : (Jvm.Cond.methodLink "CacheYard" (65 : Nat) ({ cls := "CacheYard$Row", name := "keep", desc := "(I)V" } : Jvm.MethodName)) ∈ kw_all := List.mem_of_getElem? (i := 199) rfl
theorem kj_200 : (Jvm.Cond.instanceMethod ({ cls := "CacheYard$Row", name := "keep", desc := "(I)V" } : Jvm.MethodName)) ∈ kw_all := List.mem_of_getElem? (i := 200) rfl
theorem kj_201 : (Jvm.Cond.selects "CacheYard$Row" ({ cls := "CacheYard$Row", name := "keep", desc := "(I)V" } : Jvm.MethodName) ({ cls := "CacheYard$Row", name := "keep", desc := "(I)V" } : Jvm.MethodName)) ∈ kw_all := List.mem_of_getElem? (i := 201) rfl
theorem kj_202 : (Jvm.Cond.code ({ cls := "CacheYard$Row", name := "keep", desc := "(I)V" } : Jvm.MethodName) prog_3_method_3_code (2 : Nat) (Option.none : Option Jvm.ClassFile.FieldType)) ∈ kw_all := List.mem_of_getElem? (i := 202) rfl
theorem kj_203 : (Jvm.Cond.methodLink "CacheYard" (69 : Nat) ({ cls := "CacheYard$Cache", name := "sees", desc := "(IZI)Z" } : Jvm.MethodName)) ∈ kw_all := List.mem_of_getElem? (i := 203) rfl
theorem kj_204 : (Jvm.Cond.instanceMethod ({ cls := "CacheYard$Cache", name := "sees", desc := "(IZI)Z" } : Jvm.MethodName)) ∈ kw_all := List.mem_of_getElem? (i := 204) rfl
theorem kj_205 : (Jvm.Cond.selects "CacheYard$Cache" ({ cls := "CacheYard$Cache", name := "sees", desc := "(IZI)Z" } : Jvm.MethodName) ({ cls := "CacheYard$Cache", name := "sees", desc := "(IZI)Z" } : Jvm.MethodName)) ∈ kw_all := List.mem_of_getElem? (i := 205) rfl
theorem kj_206 : (Jvm.Cond.code ({ cls := "CacheYard$Cache", name := "sees", desc := "(IZI)Z" } : Jvm.MethodName) prog_2_method_3_code (9 : Nat) (Option.some Jvm.ClassFile.FieldType.boolean)) ∈ kw_all := List.mem_of_getElem? (i := 206) rfl
theorem kj_207 : (Jvm.Cond.methodLink "CacheYard$Cache" (53 : Nat) ({ cls := "CacheYard$Cache", name := "countSets", desc := "()I" } : Jvm.MethodName)) ∈ kw_all := List.mem_of_getElem? (i := 207) rfl
theorem kj_208 : (Jvm.Cond.instanceMethod ({ cls := "CacheYard$Cache", name := "countSets", desc := "()I" } : Jvm.MethodName)) ∈ kw_all := List.mem_of_getElem? (i := 208) rfl
theorem kj_209 : (Jvm.Cond.code ({ cls := "CacheYard$Cache", name := "countSets", desc := "()I" } : Jvm.MethodName) prog_2_method_11_code (1 : Nat) (Option.some Jvm.ClassFile.FieldType.int)) ∈ kw_all := List.mem_of_getElem? (i := 209) rfl
theorem kj_210 : (Jvm.Cond.methodLink "CacheYard$Cache" (57 : Nat) ({ cls := "CacheYard$Cache", name := "findPlace", desc := "(II)I" } : Jvm.MethodName)) ∈ kw_all := List.mem_of_getElem? (i := 210) rfl
theorem kj_211 : (Jvm.Cond.instanceMethod ({ cls := "CacheYard$Cache", name := "findPlace", desc := "(II)I" } : Jvm.MethodName)) ∈ kw_all := List.mem_of_getElem? (i := 211) rfl
theorem kj_212 : (Jvm.Cond.code ({ cls := "CacheYard$Cache", name := "findPlace", desc := "(II)I" } : Jvm.MethodName) prog_2_method_13_code (4 : Nat) (Option.some Jvm.ClassFile.FieldType.int)) ∈ kw_all := List.mem_of_getElem? (i := 212) rfl
theorem kj_213 : (Jvm.Cond.methodLink "CacheYard$Cache" (74 : Nat) ({ cls := "CacheYard$Cache", name := "blockAt", desc := "(II)I" } : Jvm.MethodName)) ∈ kw_all := List.mem_of_getElem? (i := 213) rfl
theorem kj_214 : (Jvm.Cond.instanceMethod ({ cls := "CacheYard$Cache", name := "blockAt", desc := "(II)I" } : Jvm.MethodName)) ∈ kw_all := List.mem_of_getElem? (i := 214) rfl
theorem kj_215 : (Jvm.Cond.selects "CacheYard$Cache" ({ cls := "CacheYard$Cache", name := "blockAt", desc := "(II)I" } : Jvm.MethodName) ({ cls := "CacheYard$Cache", name := "blockAt", desc := "(II)I" } : Jvm.MethodName)) ∈ kw_all := List.mem_of_getElem? (i := 215) rfl
theorem kj_216 : (Jvm.Cond.code ({ cls := "CacheYard$Cache", name := "blockAt", desc := "(II)I" } : Jvm.MethodName) prog_2_method_6_code (3 : Nat) (Option.some Jvm.ClassFile.FieldType.int)) ∈ kw_all := List.mem_of_getElem? (i := 216) rfl
theorem kj_217 : (Jvm.Cond.methodLink "CacheYard$Cache" (64 : Nat) ({ cls := "CacheYard$Cache", name := "slotOf", desc := "(II)I" } : Jvm.MethodName)) ∈ kw_all := List.mem_of_getElem? (i := 217) rfl
theorem kj_218 : (Jvm.Cond.instanceMethod ({ cls := "CacheYard$Cache", name := "slotOf", desc := "(II)I" } : Jvm.MethodName)) ∈ kw_all := List.mem_of_getElem? (i := 218) rfl
theorem kj_219 : (Jvm.Cond.code ({ cls := "CacheYard$Cache", name := "slotOf", desc := "(II)I" } : Jvm.MethodName) prog_2_method_12_code (3 : Nat) (Option.some Jvm.ClassFile.FieldType.int)) ∈ kw_all := List.mem_of_getElem? (i := 219) rfl
theorem kj_220 : (Jvm.Cond.methodLink "CacheYard$Cache" (61 : Nat) ({ cls := "CacheYard$Cache", name := "bringIn", desc := "(II)I" } : Jvm.MethodName)) ∈ kw_all := List.mem_of_getElem? (i := 220) rfl
theorem kj_221 : (Jvm.Cond.instanceMethod ({ cls := "CacheYard$Cache", name := "bringIn", desc := "(II)I" } : Jvm.MethodName)) ∈ kw_all := List.mem_of_getElem? (i := 221) rfl
theorem kj_222 : (Jvm.Cond.code ({ cls := "CacheYard$Cache", name := "bringIn", desc := "(II)I" } : Jvm.MethodName) prog_2_method_14_code (5 : Nat) (Option.some Jvm.ClassFile.FieldType.int)) ∈ kw_all := List.mem_of_getElem? (i := 222) rfl
theorem kj_223 : (Jvm.Cond.methodLink "CacheYard$Cache" (77 : Nat) ({ cls := "CacheYard$Cache", name := "pointedPlace", desc := "(I)I" } : Jvm.MethodName)) ∈ kw_all := List.mem_of_getElem? (i := 223) rfl
theorem kj_224 : (Jvm.Cond.instanceMethod ({ cls := "CacheYard$Cache", name := "pointedPlace", desc := "(I)I" } : Jvm.MethodName)) ∈ kw_all := List.mem_of_getElem? (i := 224) rfl
theorem kj_225 : (Jvm.Cond.code ({ cls := "CacheYard$Cache", name := "pointedPlace", desc := "(I)I" } : Jvm.MethodName) prog_2_method_16_code (7 : Nat) (Option.some Jvm.ClassFile.FieldType.int)) ∈ kw_all := List.mem_of_getElem? (i := 225) rfl
theorem kj_226 : (Jvm.Cond.methodLink "CacheYard$Cache" (81 : Nat) ({ cls := "CacheYard$Cache", name := "oldestPlace", desc := "(I)I" } : Jvm.MethodName)) ∈ kw_all := List.mem_of_getElem? (i := 226) rfl
theorem kj_227 : (Jvm.Cond.instanceMethod ({ cls := "CacheYard$Cache", name := "oldestPlace", desc := "(I)I" } : Jvm.MethodName)) ∈ kw_all := List.mem_of_getElem? (i := 227) rfl
theorem kj_228 : (Jvm.Cond.code ({ cls := "CacheYard$Cache", name := "oldestPlace", desc := "(I)I" } : Jvm.MethodName) prog_2_method_15_code (4 : Nat) (Option.some Jvm.ClassFile.FieldType.int)) ∈ kw_all := List.mem_of_getElem? (i := 228) rfl
theorem kj_229 : (Jvm.Cond.methodLink "CacheYard$Cache" (84 : Nat) ({ cls := "CacheYard$Cache", name := "isDirtyAt", desc := "(II)Z" } : Jvm.MethodName)) ∈ kw_all := List.mem_of_getElem? (i := 229) rfl
theorem kj_230 : (Jvm.Cond.instanceMethod ({ cls := "CacheYard$Cache", name := "isDirtyAt", desc := "(II)Z" } : Jvm.MethodName)) ∈ kw_all := List.mem_of_getElem? (i := 230) rfl
theorem kj_231 : (Jvm.Cond.selects "CacheYard$Cache" ({ cls := "CacheYard$Cache", name := "isDirtyAt", desc := "(II)Z" } : Jvm.MethodName) ({ cls := "CacheYard$Cache", name := "isDirtyAt", desc := "(II)Z" } : Jvm.MethodName)) ∈ kw_all := List.mem_of_getElem? (i := 231) rfl
theorem kj_232 : (Jvm.Cond.code ({ cls := "CacheYard$Cache", name := "isDirtyAt", desc := "(II)Z" } : Jvm.MethodName) prog_2_method_7_code (3 : Nat) (Option.some Jvm.ClassFile.FieldType.boolean)) ∈ kw_all := List.mem_of_getElem? (i := 232) rfl
theorem kj_233 : (Jvm.Cond.methodLink "CacheYard$Cache" (67 : Nat) ({ cls := "CacheYard$Cache", name := "pointAway", desc := "(II)V" } : Jvm.MethodName)) ∈ kw_all := List.mem_of_getElem? (i := 233) rfl
theorem kj_234 : (Jvm.Cond.instanceMethod ({ cls := "CacheYard$Cache", name := "pointAway", desc := "(II)V" } : Jvm.MethodName)) ∈ kw_all := List.mem_of_getElem? (i := 234) rfl
theorem kj_235 : (Jvm.Cond.code ({ cls := "CacheYard$Cache", name := "pointAway", desc := "(II)V" } : Jvm.MethodName) prog_2_method_17_code (6 : Nat) (Option.none : Option Jvm.ClassFile.FieldType)) ∈ kw_all := List.mem_of_getElem? (i := 235) rfl
theorem kj_236 : (Jvm.Cond.methodLink "CacheYardLaw" (61 : Nat) ({ cls := "CacheYardLaw", name := "flush", desc := "(LCacheYard;I[J)I" } : Jvm.MethodName)) ∈ kw_all := List.mem_of_getElem? (i := 236) rfl
theorem kj_237 : (Jvm.Cond.static ({ cls := "CacheYardLaw", name := "flush", desc := "(LCacheYard;I[J)I" } : Jvm.MethodName)) ∈ kw_all := List.mem_of_getElem? (i := 237) rfl
theorem kj_238 : (Jvm.Cond.codeWith ({ cls := "CacheYardLaw", name := "flush", desc := "(LCacheYard;I[J)I" } : Jvm.MethodName) method_5_code (4 : Nat) (Option.some Jvm.ClassFile.FieldType.int) [((0 : Nat), (9 : Nat), (12 : Nat), (25 : Nat))]) ∈ kw_all := List.mem_of_getElem? (i := 238) rfl
theorem kj_239 : (Jvm.Cond.classLink "CacheYardLaw" (25 : Nat) "java/util/NoSuchElementException") ∈ kw_all := List.mem_of_getElem? (i := 239) rfl
theorem kj_240 : (Jvm.Cond.methodLink "CacheYardLaw" (21 : Nat) ({ cls := "CacheYard", name := "flush", desc := "(I)I" } : Jvm.MethodName)) ∈ kw_all := List.mem_of_getElem? (i := 240) rfl
theorem kj_241 : (Jvm.Cond.instanceMethod ({ cls := "CacheYard", name := "flush", desc := "(I)I" } : Jvm.MethodName)) ∈ kw_all := List.mem_of_getElem? (i := 241) rfl
theorem kj_242 : (Jvm.Cond.selects "CacheYard" ({ cls := "CacheYard", name := "flush", desc := "(I)I" } : Jvm.MethodName) ({ cls := "CacheYard", name := "flush", desc := "(I)I" } : Jvm.MethodName)) ∈ kw_all := List.mem_of_getElem? (i := 242) rfl
theorem kj_243 : (Jvm.Cond.code ({ cls := "CacheYard", name := "flush", desc := "(I)I" } : Jvm.MethodName) prog_1_method_4_code (2 : Nat) (Option.some Jvm.ClassFile.FieldType.int)) ∈ kw_all := List.mem_of_getElem? (i := 243) rfl
theorem kj_244 : (Jvm.Cond.methodLink "CacheYard" (73 : Nat) ({ cls := "CacheYard", name := "madeCache", desc := "(I)LCacheYard$Cache;" } : Jvm.MethodName)) ∈ kw_all := List.mem_of_getElem? (i := 244) rfl
theorem kj_245 : (Jvm.Cond.instanceMethod ({ cls := "CacheYard", name := "madeCache", desc := "(I)LCacheYard$Cache;" } : Jvm.MethodName)) ∈ kw_all := List.mem_of_getElem? (i := 245) rfl
theorem kj_246 : (Jvm.Cond.code ({ cls := "CacheYard", name := "madeCache", desc := "(I)LCacheYard$Cache;" } : Jvm.MethodName) prog_1_method_10_code (3 : Nat) (Option.some (Jvm.ClassFile.FieldType.object "CacheYard$Cache"))) ∈ kw_all := List.mem_of_getElem? (i := 246) rfl
theorem kj_247 : (Jvm.Cond.classLink "CacheYard" (127 : Nat) "java/util/NoSuchElementException") ∈ kw_all := List.mem_of_getElem? (i := 247) rfl
theorem kj_248 : (Jvm.Cond.instantiable "java/util/NoSuchElementException" (6 : Nat)) ∈ kw_all := List.mem_of_getElem? (i := 248) rfl
theorem kj_249 : (Jvm.Cond.selects "java/util/NoSuchElementException" ({ cls := "java/lang/Throwable", name := "fillInStackTrace", desc := "(I)Ljava/lang/Throwable;" } : Jvm.MethodName) ({ cls := "java/lang/Throwable", name := "fillInStackTrace", desc := "(I)Ljava/lang/Throwable;" } : Jvm.MethodName)) ∈ kw_all := List.mem_of_getElem? (i := 249) rfl
theorem kj_250 : (Jvm.Cond.lays "java/util/NoSuchElementException" "java/lang/Throwable" "cause" "Ljava/lang/Throwable;") ∈ kw_all := List.mem_of_getElem? (i := 250) rfl
theorem kj_251 : (Jvm.Cond.lays "java/util/NoSuchElementException" "java/lang/Throwable" "stackTrace" "[Ljava/lang/StackTraceElement;") ∈ kw_all := List.mem_of_getElem? (i := 251) rfl
theorem kj_252 : (Jvm.Cond.lays "java/util/NoSuchElementException" "java/lang/Throwable" "suppressedExceptions" "Ljava/util/List;") ∈ kw_all := List.mem_of_getElem? (i := 252) rfl
theorem kj_253 : (Jvm.Cond.lays "java/util/NoSuchElementException" "java/lang/Throwable" "detailMessage" "Ljava/lang/String;") ∈ kw_all := List.mem_of_getElem? (i := 253) rfl
theorem kj_254 : (Jvm.Cond.lays "java/util/NoSuchElementException" "java/lang/Throwable" "backtrace" "Ljava/lang/Object;") ∈ kw_all := List.mem_of_getElem? (i := 254) rfl
theorem kj_255 : (Jvm.Cond.methodLink "CacheYard" (129 : Nat) ({ cls := "java/util/NoSuchElementException", name := "<init>", desc := "(Ljava/lang/String;)V" } : Jvm.MethodName)) ∈ kw_all := List.mem_of_getElem? (i := 255) rfl
theorem kj_256 : (Jvm.Cond.instanceMethod ({ cls := "java/util/NoSuchElementException", name := "<init>", desc := "(Ljava/lang/String;)V" } : Jvm.MethodName)) ∈ kw_all := List.mem_of_getElem? (i := 256) rfl
theorem kj_257 : (Jvm.Cond.code ({ cls := "java/util/NoSuchElementException", name := "<init>", desc := "(Ljava/lang/String;)V" } : Jvm.MethodName) prog_14_method_4_code (2 : Nat) (Option.none : Option Jvm.ClassFile.FieldType)) ∈ kw_all := List.mem_of_getElem? (i := 257) rfl
theorem kj_258 : (Jvm.Cond.methodLink "java/util/NoSuchElementException" (13 : Nat) ({ cls := "java/lang/RuntimeException", name := "<init>", desc := "(Ljava/lang/String;)V" } : Jvm.MethodName)) ∈ kw_all := List.mem_of_getElem? (i := 258) rfl
theorem kj_259 : (Jvm.Cond.lays "java/util/NoSuchElementException" "java/lang/Throwable" "depth" "I") ∈ kw_all := List.mem_of_getElem? (i := 259) rfl
theorem kj_260 : (Jvm.Cond.methodLink "CacheYard" (77 : Nat) ({ cls := "CacheYard$Cache", name := "letAllGo", desc := "()I" } : Jvm.MethodName)) ∈ kw_all := List.mem_of_getElem? (i := 260) rfl
theorem kj_261 : (Jvm.Cond.instanceMethod ({ cls := "CacheYard$Cache", name := "letAllGo", desc := "()I" } : Jvm.MethodName)) ∈ kw_all := List.mem_of_getElem? (i := 261) rfl
theorem kj_262 : (Jvm.Cond.selects "CacheYard$Cache" ({ cls := "CacheYard$Cache", name := "letAllGo", desc := "()I" } : Jvm.MethodName) ({ cls := "CacheYard$Cache", name := "letAllGo", desc := "()I" } : Jvm.MethodName)) ∈ kw_all := List.mem_of_getElem? (i := 262) rfl
theorem kj_263 : (Jvm.Cond.code ({ cls := "CacheYard$Cache", name := "letAllGo", desc := "()I" } : Jvm.MethodName) prog_2_method_4_code (2 : Nat) (Option.some Jvm.ClassFile.FieldType.int)) ∈ kw_all := List.mem_of_getElem? (i := 263) rfl
theorem kj_264 : (Jvm.Cond.methodLink "CacheYard$Cache" (71 : Nat) ({ cls := "CacheYard$Cache", name := "countDirty", desc := "()I" } : Jvm.MethodName)) ∈ kw_all := List.mem_of_getElem? (i := 264) rfl
theorem kj_265 : (Jvm.Cond.instanceMethod ({ cls := "CacheYard$Cache", name := "countDirty", desc := "()I" } : Jvm.MethodName)) ∈ kw_all := List.mem_of_getElem? (i := 265) rfl
theorem kj_266 : (Jvm.Cond.selects "CacheYard$Cache" ({ cls := "CacheYard$Cache", name := "countDirty", desc := "()I" } : Jvm.MethodName) ({ cls := "CacheYard$Cache", name := "countDirty", desc := "()I" } : Jvm.MethodName)) ∈ kw_all := List.mem_of_getElem? (i := 266) rfl
theorem kj_267 : (Jvm.Cond.code ({ cls := "CacheYard$Cache", name := "countDirty", desc := "()I" } : Jvm.MethodName) prog_2_method_9_code (3 : Nat) (Option.some Jvm.ClassFile.FieldType.int)) ∈ kw_all := List.mem_of_getElem? (i := 267) rfl
theorem kj_268 : (Jvm.Cond.methodLink "CacheYardLaw" (65 : Nat) ({ cls := "CacheYardLaw", name := "place", desc := "(LCacheYard;IIII[J)I" } : Jvm.MethodName)) ∈ kw_all := List.mem_of_getElem? (i := 268) rfl
theorem kj_269 : (Jvm.Cond.static ({ cls := "CacheYardLaw", name := "place", desc := "(LCacheYard;IIII[J)I" } : Jvm.MethodName)) ∈ kw_all := List.mem_of_getElem? (i := 269) rfl
theorem kj_270 : (Jvm.Cond.codeWith ({ cls := "CacheYardLaw", name := "place", desc := "(LCacheYard;IIII[J)I" } : Jvm.MethodName) method_6_code (7 : Nat) (Option.some Jvm.ClassFile.FieldType.int) [((0 : Nat), (14 : Nat), (17 : Nat), (25 : Nat)), ((0 : Nat), (14 : Nat), (21 : Nat), (31 : Nat)), ((0 : Nat), (14 : Nat), (25 : Nat), (13 : Nat))]) ∈ kw_all := List.mem_of_getElem? (i := 270) rfl
theorem kj_271 : (Jvm.Cond.classLink "CacheYardLaw" (31 : Nat) "java/lang/IndexOutOfBoundsException") ∈ kw_all := List.mem_of_getElem? (i := 271) rfl
theorem kj_272 : (Jvm.Cond.methodLink "CacheYardLaw" (27 : Nat) ({ cls := "CacheYard", name := "place", desc := "(IIII)I" } : Jvm.MethodName)) ∈ kw_all := List.mem_of_getElem? (i := 272) rfl
theorem kj_273 : (Jvm.Cond.instanceMethod ({ cls := "CacheYard", name := "place", desc := "(IIII)I" } : Jvm.MethodName)) ∈ kw_all := List.mem_of_getElem? (i := 273) rfl
theorem kj_274 : (Jvm.Cond.selects "CacheYard" ({ cls := "CacheYard", name := "place", desc := "(IIII)I" } : Jvm.MethodName) ({ cls := "CacheYard", name := "place", desc := "(IIII)I" } : Jvm.MethodName)) ∈ kw_all := List.mem_of_getElem? (i := 274) rfl
theorem kj_275 : (Jvm.Cond.code ({ cls := "CacheYard", name := "place", desc := "(IIII)I" } : Jvm.MethodName) prog_1_method_5_code (6 : Nat) (Option.some Jvm.ClassFile.FieldType.int)) ∈ kw_all := List.mem_of_getElem? (i := 275) rfl
theorem kj_276 : (Jvm.Cond.methodLink "CacheYard" (80 : Nat) ({ cls := "CacheYard$Cache", name := "hasPlace", desc := "(II)Z" } : Jvm.MethodName)) ∈ kw_all := List.mem_of_getElem? (i := 276) rfl
theorem kj_277 : (Jvm.Cond.instanceMethod ({ cls := "CacheYard$Cache", name := "hasPlace", desc := "(II)Z" } : Jvm.MethodName)) ∈ kw_all := List.mem_of_getElem? (i := 277) rfl
theorem kj_278 : (Jvm.Cond.selects "CacheYard$Cache" ({ cls := "CacheYard$Cache", name := "hasPlace", desc := "(II)Z" } : Jvm.MethodName) ({ cls := "CacheYard$Cache", name := "hasPlace", desc := "(II)Z" } : Jvm.MethodName)) ∈ kw_all := List.mem_of_getElem? (i := 278) rfl
theorem kj_279 : (Jvm.Cond.code ({ cls := "CacheYard$Cache", name := "hasPlace", desc := "(II)Z" } : Jvm.MethodName) prog_2_method_5_code (3 : Nat) (Option.some Jvm.ClassFile.FieldType.boolean)) ∈ kw_all := List.mem_of_getElem? (i := 279) rfl
theorem kj_280 : (Jvm.Cond.classLink "CacheYard" (84 : Nat) "java/lang/IndexOutOfBoundsException") ∈ kw_all := List.mem_of_getElem? (i := 280) rfl
theorem kj_281 : (Jvm.Cond.instantiable "java/lang/IndexOutOfBoundsException" (6 : Nat)) ∈ kw_all := List.mem_of_getElem? (i := 281) rfl
theorem kj_282 : (Jvm.Cond.selects "java/lang/IndexOutOfBoundsException" ({ cls := "java/lang/Throwable", name := "fillInStackTrace", desc := "(I)Ljava/lang/Throwable;" } : Jvm.MethodName) ({ cls := "java/lang/Throwable", name := "fillInStackTrace", desc := "(I)Ljava/lang/Throwable;" } : Jvm.MethodName)) ∈ kw_all := List.mem_of_getElem? (i := 282) rfl
theorem kj_283 : (Jvm.Cond.lays "java/lang/IndexOutOfBoundsException" "java/lang/Throwable" "cause" "Ljava/lang/Throwable;") ∈ kw_all := List.mem_of_getElem? (i := 283) rfl
theorem kj_284 : (Jvm.Cond.lays "java/lang/IndexOutOfBoundsException" "java/lang/Throwable" "stackTrace" "[Ljava/lang/StackTraceElement;") ∈ kw_all := List.mem_of_getElem? (i := 284) rfl
theorem kj_285 : (Jvm.Cond.lays "java/lang/IndexOutOfBoundsException" "java/lang/Throwable" "suppressedExceptions" "Ljava/util/List;") ∈ kw_all := List.mem_of_getElem? (i := 285) rfl
theorem kj_286 : (Jvm.Cond.lays "java/lang/IndexOutOfBoundsException" "java/lang/Throwable" "detailMessage" "Ljava/lang/String;") ∈ kw_all := List.mem_of_getElem? (i := 286) rfl
theorem kj_287 : (Jvm.Cond.lays "java/lang/IndexOutOfBoundsException" "java/lang/Throwable" "backtrace" "Ljava/lang/Object;") ∈ kw_all := List.mem_of_getElem? (i := 287) rfl
theorem kj_288 : (Jvm.Cond.methodLink "CacheYard" (88 : Nat) ({ cls := "java/lang/IndexOutOfBoundsException", name := "<init>", desc := "(Ljava/lang/String;)V" } : Jvm.MethodName)) ∈ kw_all := List.mem_of_getElem? (i := 288) rfl
theorem kj_289 : (Jvm.Cond.instanceMethod ({ cls := "java/lang/IndexOutOfBoundsException", name := "<init>", desc := "(Ljava/lang/String;)V" } : Jvm.MethodName)) ∈ kw_all := List.mem_of_getElem? (i := 289) rfl
theorem kj_290 : (Jvm.Cond.code ({ cls := "java/lang/IndexOutOfBoundsException", name := "<init>", desc := "(Ljava/lang/String;)V" } : Jvm.MethodName) prog_8_method_2_code (2 : Nat) (Option.none : Option Jvm.ClassFile.FieldType)) ∈ kw_all := List.mem_of_getElem? (i := 290) rfl
theorem kj_291 : (Jvm.Cond.methodLink "java/lang/IndexOutOfBoundsException" (7 : Nat) ({ cls := "java/lang/RuntimeException", name := "<init>", desc := "(Ljava/lang/String;)V" } : Jvm.MethodName)) ∈ kw_all := List.mem_of_getElem? (i := 291) rfl
theorem kj_292 : (Jvm.Cond.lays "java/lang/IndexOutOfBoundsException" "java/lang/Throwable" "depth" "I") ∈ kw_all := List.mem_of_getElem? (i := 292) rfl
theorem kj_293 : (Jvm.Cond.methodLink "CacheYard" (89 : Nat) ({ cls := "CacheYard$Cache", name := "blockAt", desc := "(II)I" } : Jvm.MethodName)) ∈ kw_all := List.mem_of_getElem? (i := 293) rfl
theorem kj_294 : (Jvm.Cond.methodLink "CacheYard" (93 : Nat) ({ cls := "CacheYard$Cache", name := "isDirtyAt", desc := "(II)Z" } : Jvm.MethodName)) ∈ kw_all := List.mem_of_getElem? (i := 294) rfl
theorem kj_295 : (Jvm.Cond.methodLink "CacheYardLaw" (69 : Nat) ({ cls := "CacheYardLaw", name := "about", desc := "(LCacheYard;II[J)I" } : Jvm.MethodName)) ∈ kw_all := List.mem_of_getElem? (i := 295) rfl
theorem kj_296 : (Jvm.Cond.static ({ cls := "CacheYardLaw", name := "about", desc := "(LCacheYard;II[J)I" } : Jvm.MethodName)) ∈ kw_all := List.mem_of_getElem? (i := 296) rfl
theorem kj_297 : (Jvm.Cond.codeWith ({ cls := "CacheYardLaw", name := "about", desc := "(LCacheYard;II[J)I" } : Jvm.MethodName) method_7_code (5 : Nat) (Option.some Jvm.ClassFile.FieldType.int) [((0 : Nat), (10 : Nat), (13 : Nat), (25 : Nat)), ((0 : Nat), (10 : Nat), (17 : Nat), (13 : Nat))]) ∈ kw_all := List.mem_of_getElem? (i := 297) rfl
theorem kj_298 : (Jvm.Cond.methodLink "CacheYardLaw" (33 : Nat) ({ cls := "CacheYard", name := "about", desc := "(II)I" } : Jvm.MethodName)) ∈ kw_all := List.mem_of_getElem? (i := 298) rfl
theorem kj_299 : (Jvm.Cond.instanceMethod ({ cls := "CacheYard", name := "about", desc := "(II)I" } : Jvm.MethodName)) ∈ kw_all := List.mem_of_getElem? (i := 299) rfl
theorem kj_300 : (Jvm.Cond.selects "CacheYard" ({ cls := "CacheYard", name := "about", desc := "(II)I" } : Jvm.MethodName) ({ cls := "CacheYard", name := "about", desc := "(II)I" } : Jvm.MethodName)) ∈ kw_all := List.mem_of_getElem? (i := 300) rfl
theorem kj_301 : (Jvm.Cond.code ({ cls := "CacheYard", name := "about", desc := "(II)I" } : Jvm.MethodName) prog_1_method_6_code (4 : Nat) (Option.some Jvm.ClassFile.FieldType.int)) ∈ kw_all := List.mem_of_getElem? (i := 301) rfl
theorem kj_302 : (Jvm.Cond.methodLink "CacheYard" (111 : Nat) ({ cls := "CacheYard$Cache", name := "countHeld", desc := "()I" } : Jvm.MethodName)) ∈ kw_all := List.mem_of_getElem? (i := 302) rfl
theorem kj_303 : (Jvm.Cond.instanceMethod ({ cls := "CacheYard$Cache", name := "countHeld", desc := "()I" } : Jvm.MethodName)) ∈ kw_all := List.mem_of_getElem? (i := 303) rfl
theorem kj_304 : (Jvm.Cond.selects "CacheYard$Cache" ({ cls := "CacheYard$Cache", name := "countHeld", desc := "()I" } : Jvm.MethodName) ({ cls := "CacheYard$Cache", name := "countHeld", desc := "()I" } : Jvm.MethodName)) ∈ kw_all := List.mem_of_getElem? (i := 304) rfl
theorem kj_305 : (Jvm.Cond.code ({ cls := "CacheYard$Cache", name := "countHeld", desc := "()I" } : Jvm.MethodName) prog_2_method_8_code (3 : Nat) (Option.some Jvm.ClassFile.FieldType.int)) ∈ kw_all := List.mem_of_getElem? (i := 305) rfl
theorem kj_306 : (Jvm.Cond.methodLink "CacheYard" (114 : Nat) ({ cls := "CacheYard$Cache", name := "countDirty", desc := "()I" } : Jvm.MethodName)) ∈ kw_all := List.mem_of_getElem? (i := 306) rfl
theorem kj_307 : (Jvm.Cond.methodLink "CacheYardLaw" (77 : Nat) ({ cls := "CacheYardLaw", name := "curve", desc := "(LCacheYard;II[J)I" } : Jvm.MethodName)) ∈ kw_all := List.mem_of_getElem? (i := 307) rfl
theorem kj_308 : (Jvm.Cond.static ({ cls := "CacheYardLaw", name := "curve", desc := "(LCacheYard;II[J)I" } : Jvm.MethodName)) ∈ kw_all := List.mem_of_getElem? (i := 308) rfl
theorem kj_309 : (Jvm.Cond.codeWith ({ cls := "CacheYardLaw", name := "curve", desc := "(LCacheYard;II[J)I" } : Jvm.MethodName) method_8_code (5 : Nat) (Option.some Jvm.ClassFile.FieldType.int) [((0 : Nat), (10 : Nat), (13 : Nat), (13 : Nat))]) ∈ kw_all := List.mem_of_getElem? (i := 309) rfl
theorem kj_310 : (Jvm.Cond.methodLink "CacheYardLaw" (37 : Nat) ({ cls := "CacheYard", name := "curve", desc := "(II)I" } : Jvm.MethodName)) ∈ kw_all := List.mem_of_getElem? (i := 310) rfl
theorem kj_311 : (Jvm.Cond.instanceMethod ({ cls := "CacheYard", name := "curve", desc := "(II)I" } : Jvm.MethodName)) ∈ kw_all := List.mem_of_getElem? (i := 311) rfl
theorem kj_312 : (Jvm.Cond.selects "CacheYard" ({ cls := "CacheYard", name := "curve", desc := "(II)I" } : Jvm.MethodName) ({ cls := "CacheYard", name := "curve", desc := "(II)I" } : Jvm.MethodName)) ∈ kw_all := List.mem_of_getElem? (i := 312) rfl
theorem kj_313 : (Jvm.Cond.code ({ cls := "CacheYard", name := "curve", desc := "(II)I" } : Jvm.MethodName) prog_1_method_8_code (3 : Nat) (Option.some Jvm.ClassFile.FieldType.int)) ∈ kw_all := List.mem_of_getElem? (i := 313) rfl
theorem kj_314 : (Jvm.Cond.methodLink "CacheYard" (119 : Nat) ({ cls := "CacheYard", name := "requireLinesAndBits", desc := "(II)V" } : Jvm.MethodName)) ∈ kw_all := List.mem_of_getElem? (i := 314) rfl
theorem kj_315 : (Jvm.Cond.static ({ cls := "CacheYard", name := "requireLinesAndBits", desc := "(II)V" } : Jvm.MethodName)) ∈ kw_all := List.mem_of_getElem? (i := 315) rfl
theorem kj_316 : (Jvm.Cond.code ({ cls := "CacheYard", name := "requireLinesAndBits", desc := "(II)V" } : Jvm.MethodName) prog_1_method_11_code (2 : Nat) (Option.none : Option Jvm.ClassFile.FieldType)) ∈ kw_all := List.mem_of_getElem? (i := 316) rfl
theorem kj_317 : (Jvm.Cond.methodLink "CacheYard" (123 : Nat) ({ cls := "CacheYard$Row", name := "countHits", desc := "(IIZ)I" } : Jvm.MethodName)) ∈ kw_all := List.mem_of_getElem? (i := 317) rfl
theorem kj_318 : (Jvm.Cond.instanceMethod ({ cls := "CacheYard$Row", name := "countHits", desc := "(IIZ)I" } : Jvm.MethodName)) ∈ kw_all := List.mem_of_getElem? (i := 318) rfl
theorem kj_319 : (Jvm.Cond.selects "CacheYard$Row" ({ cls := "CacheYard$Row", name := "countHits", desc := "(IIZ)I" } : Jvm.MethodName) ({ cls := "CacheYard$Row", name := "countHits", desc := "(IIZ)I" } : Jvm.MethodName)) ∈ kw_all := List.mem_of_getElem? (i := 319) rfl
theorem kj_320 : (Jvm.Cond.code ({ cls := "CacheYard$Row", name := "countHits", desc := "(IIZ)I" } : Jvm.MethodName) prog_3_method_4_code (8 : Nat) (Option.some Jvm.ClassFile.FieldType.int)) ∈ kw_all := List.mem_of_getElem? (i := 320) rfl
theorem kj_321 : (Jvm.Cond.methodLink "CacheYard$Row" (28 : Nat) ({ cls := "CacheYard$Row", name := "findNextUses", desc := "(I)V" } : Jvm.MethodName)) ∈ kw_all := List.mem_of_getElem? (i := 321) rfl
theorem kj_322 : (Jvm.Cond.instanceMethod ({ cls := "CacheYard$Row", name := "findNextUses", desc := "(I)V" } : Jvm.MethodName)) ∈ kw_all := List.mem_of_getElem? (i := 322) rfl
theorem kj_323 : (Jvm.Cond.code ({ cls := "CacheYard$Row", name := "findNextUses", desc := "(I)V" } : Jvm.MethodName) prog_3_method_5_code (4 : Nat) (Option.none : Option Jvm.ClassFile.FieldType)) ∈ kw_all := List.mem_of_getElem? (i := 323) rfl
theorem kj_324 : (Jvm.Cond.methodLink "CacheYard$Row" (32 : Nat) ({ cls := "CacheYard$Row", name := "findLine", desc := "(II)I" } : Jvm.MethodName)) ∈ kw_all := List.mem_of_getElem? (i := 324) rfl
theorem kj_325 : (Jvm.Cond.instanceMethod ({ cls := "CacheYard$Row", name := "findLine", desc := "(II)I" } : Jvm.MethodName)) ∈ kw_all := List.mem_of_getElem? (i := 325) rfl
theorem kj_326 : (Jvm.Cond.code ({ cls := "CacheYard$Row", name := "findLine", desc := "(II)I" } : Jvm.MethodName) prog_3_method_6_code (4 : Nat) (Option.some Jvm.ClassFile.FieldType.int)) ∈ kw_all := List.mem_of_getElem? (i := 326) rfl
theorem kj_327 : (Jvm.Cond.methodLink "CacheYard$Row" (36 : Nat) ({ cls := "CacheYard$Row", name := "lineNeededLast", desc := "(I)I" } : Jvm.MethodName)) ∈ kw_all := List.mem_of_getElem? (i := 327) rfl
theorem kj_328 : (Jvm.Cond.instanceMethod ({ cls := "CacheYard$Row", name := "lineNeededLast", desc := "(I)I" } : Jvm.MethodName)) ∈ kw_all := List.mem_of_getElem? (i := 328) rfl
theorem kj_329 : (Jvm.Cond.code ({ cls := "CacheYard$Row", name := "lineNeededLast", desc := "(I)I" } : Jvm.MethodName) prog_3_method_7_code (4 : Nat) (Option.some Jvm.ClassFile.FieldType.int)) ∈ kw_all := List.mem_of_getElem? (i := 329) rfl
theorem kj_330 : (Jvm.Cond.methodLink "CacheYard$Row" (40 : Nat) ({ cls := "CacheYard$Row", name := "bringToFront", desc := "(II)V" } : Jvm.MethodName)) ∈ kw_all := List.mem_of_getElem? (i := 330) rfl
theorem kj_331 : (Jvm.Cond.instanceMethod ({ cls := "CacheYard$Row", name := "bringToFront", desc := "(II)V" } : Jvm.MethodName)) ∈ kw_all := List.mem_of_getElem? (i := 331) rfl
theorem kj_332 : (Jvm.Cond.code ({ cls := "CacheYard$Row", name := "bringToFront", desc := "(II)V" } : Jvm.MethodName) prog_3_method_8_code (4 : Nat) (Option.none : Option Jvm.ClassFile.FieldType)) ∈ kw_all := List.mem_of_getElem? (i := 332) rfl
theorem kj_333 : (Jvm.Cond.methodLink "CacheYardLaw" (80 : Nat) ({ cls := "CacheYardLaw", name := "best", desc := "(LCacheYard;II[J)I" } : Jvm.MethodName)) ∈ kw_all := List.mem_of_getElem? (i := 333) rfl
theorem kj_334 : (Jvm.Cond.static ({ cls := "CacheYardLaw", name := "best", desc := "(LCacheYard;II[J)I" } : Jvm.MethodName)) ∈ kw_all := List.mem_of_getElem? (i := 334) rfl
theorem kj_335 : (Jvm.Cond.codeWith ({ cls := "CacheYardLaw", name := "best", desc := "(LCacheYard;II[J)I" } : Jvm.MethodName) method_9_code (5 : Nat) (Option.some Jvm.ClassFile.FieldType.int) [((0 : Nat), (10 : Nat), (13 : Nat), (13 : Nat))]) ∈ kw_all := List.mem_of_getElem? (i := 335) rfl
theorem kj_336 : (Jvm.Cond.methodLink "CacheYardLaw" (40 : Nat) ({ cls := "CacheYard", name := "best", desc := "(II)I" } : Jvm.MethodName)) ∈ kw_all := List.mem_of_getElem? (i := 336) rfl
theorem kj_337 : (Jvm.Cond.instanceMethod ({ cls := "CacheYard", name := "best", desc := "(II)I" } : Jvm.MethodName)) ∈ kw_all := List.mem_of_getElem? (i := 337) rfl
theorem kj_338 : (Jvm.Cond.selects "CacheYard" ({ cls := "CacheYard", name := "best", desc := "(II)I" } : Jvm.MethodName) ({ cls := "CacheYard", name := "best", desc := "(II)I" } : Jvm.MethodName)) ∈ kw_all := List.mem_of_getElem? (i := 338) rfl
theorem kj_339 : (Jvm.Cond.code ({ cls := "CacheYard", name := "best", desc := "(II)I" } : Jvm.MethodName) prog_1_method_9_code (3 : Nat) (Option.some Jvm.ClassFile.FieldType.int)) ∈ kw_all := List.mem_of_getElem? (i := 339) rfl
theorem kj_340 : (Jvm.Cond.classLink "CacheYardLaw" (44 : Nat) "CacheYardModel") ∈ kw_all := List.mem_of_getElem? (i := 340) rfl
theorem kj_341 : (Jvm.Cond.instantiable "CacheYardModel" (22 : Nat)) ∈ kw_all := List.mem_of_getElem? (i := 341) rfl
theorem kj_342 : (Jvm.Cond.methodLink "CacheYardLaw" (46 : Nat) ({ cls := "CacheYardModel", name := "<init>", desc := "()V" } : Jvm.MethodName)) ∈ kw_all := List.mem_of_getElem? (i := 342) rfl
theorem kj_343 : (Jvm.Cond.instanceMethod ({ cls := "CacheYardModel", name := "<init>", desc := "()V" } : Jvm.MethodName)) ∈ kw_all := List.mem_of_getElem? (i := 343) rfl
theorem kj_344 : (Jvm.Cond.code ({ cls := "CacheYardModel", name := "<init>", desc := "()V" } : Jvm.MethodName) prog_5_method_1_code (1 : Nat) (Option.none : Option Jvm.ClassFile.FieldType)) ∈ kw_all := List.mem_of_getElem? (i := 344) rfl
theorem kj_345 : (Jvm.Cond.methodLink "CacheYardModel" (1 : Nat) ({ cls := "java/lang/Object", name := "<init>", desc := "()V" } : Jvm.MethodName)) ∈ kw_all := List.mem_of_getElem? (i := 345) rfl
theorem kj_346 : (Jvm.Cond.fieldLink "CacheYardModel" (65 : Nat) "CacheYardModel" "thrown" "I") ∈ kw_all := List.mem_of_getElem? (i := 346) rfl
theorem kj_347 : (Jvm.Cond.fieldLink "CacheYardModel" (92 : Nat) "CacheYardModel" "accesses" "I") ∈ kw_all := List.mem_of_getElem? (i := 347) rfl
theorem kj_348 : (Jvm.Cond.fieldLink "CacheYardModel" (7 : Nat) "CacheYardModel" "address" "[I") ∈ kw_all := List.mem_of_getElem? (i := 348) rfl
theorem kj_349 : (Jvm.Cond.fieldLink "CacheYardModel" (13 : Nat) "CacheYardModel" "there" "[Z") ∈ kw_all := List.mem_of_getElem? (i := 349) rfl
theorem kj_350 : (Jvm.Cond.fieldLink "CacheYardModel" (17 : Nat) "CacheYardModel" "setBits" "[I") ∈ kw_all := List.mem_of_getElem? (i := 350) rfl
theorem kj_351 : (Jvm.Cond.fieldLink "CacheYardModel" (20 : Nat) "CacheYardModel" "ways" "[I") ∈ kw_all := List.mem_of_getElem? (i := 351) rfl
theorem kj_352 : (Jvm.Cond.fieldLink "CacheYardModel" (23 : Nat) "CacheYardModel" "kinds" "[I") ∈ kw_all := List.mem_of_getElem? (i := 352) rfl
theorem kj_353 : (Jvm.Cond.fieldLink "CacheYardModel" (26 : Nat) "CacheYardModel" "bits" "[I") ∈ kw_all := List.mem_of_getElem? (i := 353) rfl
theorem kj_354 : (Jvm.Cond.fieldLink "CacheYardModel" (29 : Nat) "CacheYardModel" "hits" "[I") ∈ kw_all := List.mem_of_getElem? (i := 354) rfl
theorem kj_355 : (Jvm.Cond.fieldLink "CacheYardModel" (32 : Nat) "CacheYardModel" "misses" "[I") ∈ kw_all := List.mem_of_getElem? (i := 355) rfl
theorem kj_356 : (Jvm.Cond.fieldLink "CacheYardModel" (35 : Nat) "CacheYardModel" "victims" "[I") ∈ kw_all := List.mem_of_getElem? (i := 356) rfl
theorem kj_357 : (Jvm.Cond.fieldLink "CacheYardModel" (38 : Nat) "CacheYardModel" "written" "[I") ∈ kw_all := List.mem_of_getElem? (i := 357) rfl
theorem kj_358 : (Jvm.Cond.fieldLink "CacheYardModel" (41 : Nat) "CacheYardModel" "block" "[I") ∈ kw_all := List.mem_of_getElem? (i := 358) rfl
theorem kj_359 : (Jvm.Cond.fieldLink "CacheYardModel" (44 : Nat) "CacheYardModel" "dirty" "[Z") ∈ kw_all := List.mem_of_getElem? (i := 359) rfl
theorem kj_360 : (Jvm.Cond.fieldLink "CacheYardModel" (47 : Nat) "CacheYardModel" "latest" "[I") ∈ kw_all := List.mem_of_getElem? (i := 360) rfl
theorem kj_361 : (Jvm.Cond.fieldLink "CacheYardModel" (50 : Nat) "CacheYardModel" "came" "[I") ∈ kw_all := List.mem_of_getElem? (i := 361) rfl
theorem kj_362 : (Jvm.Cond.fieldLink "CacheYardModel" (53 : Nat) "CacheYardModel" "points" "[Z") ∈ kw_all := List.mem_of_getElem? (i := 362) rfl
theorem kj_363 : (Jvm.Cond.fieldLink "CacheYardModel" (111 : Nat) "CacheYardModel" "lineCount" "I") ∈ kw_all := List.mem_of_getElem? (i := 363) rfl
theorem kj_364 : (Jvm.Cond.fieldLink "CacheYardModel" (56 : Nat) "CacheYardModel" "line" "[I") ∈ kw_all := List.mem_of_getElem? (i := 364) rfl
theorem kj_365 : (Jvm.Cond.fieldLink "CacheYardModel" (59 : Nat) "CacheYardModel" "asked" "[I") ∈ kw_all := List.mem_of_getElem? (i := 365) rfl
theorem kj_366 : (Jvm.Cond.fieldLink "CacheYardModel" (117 : Nat) "CacheYardModel" "kept" "I") ∈ kw_all := List.mem_of_getElem? (i := 366) rfl
theorem kj_367 : (Jvm.Cond.fieldLink "CacheYardModel" (62 : Nat) "CacheYardModel" "ends" "[I") ∈ kw_all := List.mem_of_getElem? (i := 367) rfl
theorem kj_368 : (Jvm.Cond.lays "CacheYardModel" "CacheYardModel" "thrown" "I") ∈ kw_all := List.mem_of_getElem? (i := 368) rfl
theorem kj_369 : (Jvm.Cond.lays "CacheYardModel" "CacheYardModel" "accesses" "I") ∈ kw_all := List.mem_of_getElem? (i := 369) rfl
theorem kj_370 : (Jvm.Cond.laysFinal "CacheYardModel" "CacheYardModel" "address" "[I") ∈ kw_all := List.mem_of_getElem? (i := 370) rfl
theorem kj_371 : (Jvm.Cond.laysFinal "CacheYardModel" "CacheYardModel" "there" "[Z") ∈ kw_all := List.mem_of_getElem? (i := 371) rfl
theorem kj_372 : (Jvm.Cond.laysFinal "CacheYardModel" "CacheYardModel" "setBits" "[I") ∈ kw_all := List.mem_of_getElem? (i := 372) rfl
theorem kj_373 : (Jvm.Cond.laysFinal "CacheYardModel" "CacheYardModel" "ways" "[I") ∈ kw_all := List.mem_of_getElem? (i := 373) rfl
theorem kj_374 : (Jvm.Cond.laysFinal "CacheYardModel" "CacheYardModel" "kinds" "[I") ∈ kw_all := List.mem_of_getElem? (i := 374) rfl
theorem kj_375 : (Jvm.Cond.laysFinal "CacheYardModel" "CacheYardModel" "bits" "[I") ∈ kw_all := List.mem_of_getElem? (i := 375) rfl
theorem kj_376 : (Jvm.Cond.laysFinal "CacheYardModel" "CacheYardModel" "hits" "[I") ∈ kw_all := List.mem_of_getElem? (i := 376) rfl
theorem kj_377 : (Jvm.Cond.laysFinal "CacheYardModel" "CacheYardModel" "misses" "[I") ∈ kw_all := List.mem_of_getElem? (i := 377) rfl
theorem kj_378 : (Jvm.Cond.laysFinal "CacheYardModel" "CacheYardModel" "victims" "[I") ∈ kw_all := List.mem_of_getElem? (i := 378) rfl
theorem kj_379 : (Jvm.Cond.laysFinal "CacheYardModel" "CacheYardModel" "written" "[I") ∈ kw_all := List.mem_of_getElem? (i := 379) rfl
theorem kj_380 : (Jvm.Cond.laysFinal "CacheYardModel" "CacheYardModel" "block" "[I") ∈ kw_all := List.mem_of_getElem? (i := 380) rfl
theorem kj_381 : (Jvm.Cond.laysFinal "CacheYardModel" "CacheYardModel" "dirty" "[Z") ∈ kw_all := List.mem_of_getElem? (i := 381) rfl
theorem kj_382 : (Jvm.Cond.laysFinal "CacheYardModel" "CacheYardModel" "latest" "[I") ∈ kw_all := List.mem_of_getElem? (i := 382) rfl
theorem kj_383 : (Jvm.Cond.laysFinal "CacheYardModel" "CacheYardModel" "came" "[I") ∈ kw_all := List.mem_of_getElem? (i := 383) rfl
theorem kj_384 : (Jvm.Cond.laysFinal "CacheYardModel" "CacheYardModel" "points" "[Z") ∈ kw_all := List.mem_of_getElem? (i := 384) rfl
theorem kj_385 : (Jvm.Cond.lays "CacheYardModel" "CacheYardModel" "lineCount" "I") ∈ kw_all := List.mem_of_getElem? (i := 385) rfl
theorem kj_386 : (Jvm.Cond.laysFinal "CacheYardModel" "CacheYardModel" "line" "[I") ∈ kw_all := List.mem_of_getElem? (i := 386) rfl
theorem kj_387 : (Jvm.Cond.laysFinal "CacheYardModel" "CacheYardModel" "asked" "[I") ∈ kw_all := List.mem_of_getElem? (i := 387) rfl
theorem kj_388 : (Jvm.Cond.lays "CacheYardModel" "CacheYardModel" "kept" "I") ∈ kw_all := List.mem_of_getElem? (i := 388) rfl
theorem kj_389 : (Jvm.Cond.laysFinal "CacheYardModel" "CacheYardModel" "ends" "[I") ∈ kw_all := List.mem_of_getElem? (i := 389) rfl
theorem kj_390 : (Jvm.Cond.methodLink "CacheYardLaw" (53 : Nat) ({ cls := "CacheYardModel", name := "thrown", desc := "()I" } : Jvm.MethodName)) ∈ kw_all := List.mem_of_getElem? (i := 390) rfl
theorem kj_391 : (Jvm.Cond.instanceMethod ({ cls := "CacheYardModel", name := "thrown", desc := "()I" } : Jvm.MethodName)) ∈ kw_all := List.mem_of_getElem? (i := 391) rfl
theorem kj_392 : (Jvm.Cond.selects "CacheYardModel" ({ cls := "CacheYardModel", name := "thrown", desc := "()I" } : Jvm.MethodName) ({ cls := "CacheYardModel", name := "thrown", desc := "()I" } : Jvm.MethodName)) ∈ kw_all := List.mem_of_getElem? (i := 392) rfl
theorem kj_393 : (Jvm.Cond.code ({ cls := "CacheYardModel", name := "thrown", desc := "()I" } : Jvm.MethodName) prog_5_method_2_code (1 : Nat) (Option.some Jvm.ClassFile.FieldType.int)) ∈ kw_all := List.mem_of_getElem? (i := 393) rfl
theorem kj_394 : (Jvm.Cond.methodLink "CacheYardLaw" (52 : Nat) ({ cls := "CacheYardModel", name := "make", desc := "(IIIII)V" } : Jvm.MethodName)) ∈ kw_all := List.mem_of_getElem? (i := 394) rfl
theorem kj_395 : (Jvm.Cond.instanceMethod ({ cls := "CacheYardModel", name := "make", desc := "(IIIII)V" } : Jvm.MethodName)) ∈ kw_all := List.mem_of_getElem? (i := 395) rfl
theorem kj_396 : (Jvm.Cond.selects "CacheYardModel" ({ cls := "CacheYardModel", name := "make", desc := "(IIIII)V" } : Jvm.MethodName) ({ cls := "CacheYardModel", name := "make", desc := "(IIIII)V" } : Jvm.MethodName)) ∈ kw_all := List.mem_of_getElem? (i := 396) rfl
theorem kj_397 : (Jvm.Cond.code ({ cls := "CacheYardModel", name := "make", desc := "(IIIII)V" } : Jvm.MethodName) prog_5_method_7_code (8 : Nat) (Option.none : Option Jvm.ClassFile.FieldType)) ∈ kw_all := List.mem_of_getElem? (i := 397) rfl
theorem kj_398 : (Jvm.Cond.methodLink "CacheYardModel" (69 : Nat) ({ cls := "CacheYardModel", name := "in", desc := "(III)Z" } : Jvm.MethodName)) ∈ kw_all := List.mem_of_getElem? (i := 398) rfl
theorem kj_399 : (Jvm.Cond.static ({ cls := "CacheYardModel", name := "in", desc := "(III)Z" } : Jvm.MethodName)) ∈ kw_all := List.mem_of_getElem? (i := 399) rfl
theorem kj_400 : (Jvm.Cond.code ({ cls := "CacheYardModel", name := "in", desc := "(III)Z" } : Jvm.MethodName) prog_5_method_4_code (3 : Nat) (Option.some Jvm.ClassFile.FieldType.boolean)) ∈ kw_all := List.mem_of_getElem? (i := 400) rfl
theorem kj_401 : (Jvm.Cond.methodLink "CacheYardModel" (73 : Nat) ({ cls := "CacheYardModel", name := "refuse", desc := "(ZZZ)Z" } : Jvm.MethodName)) ∈ kw_all := List.mem_of_getElem? (i := 401) rfl
theorem kj_402 : (Jvm.Cond.instanceMethod ({ cls := "CacheYardModel", name := "refuse", desc := "(ZZZ)Z" } : Jvm.MethodName)) ∈ kw_all := List.mem_of_getElem? (i := 402) rfl
theorem kj_403 : (Jvm.Cond.code ({ cls := "CacheYardModel", name := "refuse", desc := "(ZZZ)Z" } : Jvm.MethodName) prog_5_method_3_code (4 : Nat) (Option.some Jvm.ClassFile.FieldType.boolean)) ∈ kw_all := List.mem_of_getElem? (i := 403) rfl
theorem kj_404 : (Jvm.Cond.methodLink "CacheYardModel" (77 : Nat) ({ cls := "CacheYardModel", name := "empty", desc := "(I)V" } : Jvm.MethodName)) ∈ kw_all := List.mem_of_getElem? (i := 404) rfl
theorem kj_405 : (Jvm.Cond.instanceMethod ({ cls := "CacheYardModel", name := "empty", desc := "(I)V" } : Jvm.MethodName)) ∈ kw_all := List.mem_of_getElem? (i := 405) rfl
theorem kj_406 : (Jvm.Cond.code ({ cls := "CacheYardModel", name := "empty", desc := "(I)V" } : Jvm.MethodName) prog_5_method_6_code (3 : Nat) (Option.none : Option Jvm.ClassFile.FieldType)) ∈ kw_all := List.mem_of_getElem? (i := 406) rfl
theorem kj_407 : (Jvm.Cond.methodLink "CacheYardLaw" (60 : Nat) ({ cls := "CacheYardModel", name := "access", desc := "(IZ)I" } : Jvm.MethodName)) ∈ kw_all := List.mem_of_getElem? (i := 407) rfl
theorem kj_408 : (Jvm.Cond.instanceMethod ({ cls := "CacheYardModel", name := "access", desc := "(IZ)I" } : Jvm.MethodName)) ∈ kw_all := List.mem_of_getElem? (i := 408) rfl
theorem kj_409 : (Jvm.Cond.selects "CacheYardModel" ({ cls := "CacheYardModel", name := "access", desc := "(IZ)I" } : Jvm.MethodName) ({ cls := "CacheYardModel", name := "access", desc := "(IZ)I" } : Jvm.MethodName)) ∈ kw_all := List.mem_of_getElem? (i := 409) rfl
theorem kj_410 : (Jvm.Cond.code ({ cls := "CacheYardModel", name := "access", desc := "(IZ)I" } : Jvm.MethodName) prog_5_method_13_code (7 : Nat) (Option.some Jvm.ClassFile.FieldType.int)) ∈ kw_all := List.mem_of_getElem? (i := 410) rfl
theorem kj_411 : (Jvm.Cond.methodLink "CacheYardModel" (99 : Nat) ({ cls := "CacheYardModel", name := "see", desc := "(IIZ)Z" } : Jvm.MethodName)) ∈ kw_all := List.mem_of_getElem? (i := 411) rfl
theorem kj_412 : (Jvm.Cond.instanceMethod ({ cls := "CacheYardModel", name := "see", desc := "(IIZ)Z" } : Jvm.MethodName)) ∈ kw_all := List.mem_of_getElem? (i := 412) rfl
theorem kj_413 : (Jvm.Cond.code ({ cls := "CacheYardModel", name := "see", desc := "(IIZ)Z" } : Jvm.MethodName) prog_5_method_12_code (8 : Nat) (Option.some Jvm.ClassFile.FieldType.boolean)) ∈ kw_all := List.mem_of_getElem? (i := 413) rfl
theorem kj_414 : (Jvm.Cond.methodLink "CacheYardModel" (85 : Nat) ({ cls := "CacheYardModel", name := "placeOf", desc := "(III)I" } : Jvm.MethodName)) ∈ kw_all := List.mem_of_getElem? (i := 414) rfl
theorem kj_415 : (Jvm.Cond.instanceMethod ({ cls := "CacheYardModel", name := "placeOf", desc := "(III)I" } : Jvm.MethodName)) ∈ kw_all := List.mem_of_getElem? (i := 415) rfl
theorem kj_416 : (Jvm.Cond.code ({ cls := "CacheYardModel", name := "placeOf", desc := "(III)I" } : Jvm.MethodName) prog_5_method_11_code (6 : Nat) (Option.some Jvm.ClassFile.FieldType.int)) ∈ kw_all := List.mem_of_getElem? (i := 416) rfl
theorem kj_417 : (Jvm.Cond.methodLink "CacheYardModel" (89 : Nat) ({ cls := "CacheYardModel", name := "victimOf", desc := "(II)I" } : Jvm.MethodName)) ∈ kw_all := List.mem_of_getElem? (i := 417) rfl
theorem kj_418 : (Jvm.Cond.instanceMethod ({ cls := "CacheYardModel", name := "victimOf", desc := "(II)I" } : Jvm.MethodName)) ∈ kw_all := List.mem_of_getElem? (i := 418) rfl
theorem kj_419 : (Jvm.Cond.code ({ cls := "CacheYardModel", name := "victimOf", desc := "(II)I" } : Jvm.MethodName) prog_5_method_10_code (6 : Nat) (Option.some Jvm.ClassFile.FieldType.int)) ∈ kw_all := List.mem_of_getElem? (i := 419) rfl
theorem kj_420 : (Jvm.Cond.methodLink "CacheYardModel" (81 : Nat) ({ cls := "CacheYardModel", name := "pointed", desc := "(II)I" } : Jvm.MethodName)) ∈ kw_all := List.mem_of_getElem? (i := 420) rfl
theorem kj_421 : (Jvm.Cond.instanceMethod ({ cls := "CacheYardModel", name := "pointed", desc := "(II)I" } : Jvm.MethodName)) ∈ kw_all := List.mem_of_getElem? (i := 421) rfl
theorem kj_422 : (Jvm.Cond.code ({ cls := "CacheYardModel", name := "pointed", desc := "(II)I" } : Jvm.MethodName) prog_5_method_9_code (7 : Nat) (Option.some Jvm.ClassFile.FieldType.int)) ∈ kw_all := List.mem_of_getElem? (i := 422) rfl
theorem kj_423 : (Jvm.Cond.methodLink "CacheYardModel" (95 : Nat) ({ cls := "CacheYardModel", name := "turn", desc := "(III)V" } : Jvm.MethodName)) ∈ kw_all := List.mem_of_getElem? (i := 423) rfl
theorem kj_424 : (Jvm.Cond.instanceMethod ({ cls := "CacheYardModel", name := "turn", desc := "(III)V" } : Jvm.MethodName)) ∈ kw_all := List.mem_of_getElem? (i := 424) rfl
theorem kj_425 : (Jvm.Cond.code ({ cls := "CacheYardModel", name := "turn", desc := "(III)V" } : Jvm.MethodName) prog_5_method_8_code (8 : Nat) (Option.none : Option Jvm.ClassFile.FieldType)) ∈ kw_all := List.mem_of_getElem? (i := 425) rfl
theorem kj_426 : (Jvm.Cond.methodLink "CacheYardLaw" (64 : Nat) ({ cls := "CacheYardModel", name := "flush", desc := "(I)I" } : Jvm.MethodName)) ∈ kw_all := List.mem_of_getElem? (i := 426) rfl
theorem kj_427 : (Jvm.Cond.instanceMethod ({ cls := "CacheYardModel", name := "flush", desc := "(I)I" } : Jvm.MethodName)) ∈ kw_all := List.mem_of_getElem? (i := 427) rfl
theorem kj_428 : (Jvm.Cond.selects "CacheYardModel" ({ cls := "CacheYardModel", name := "flush", desc := "(I)I" } : Jvm.MethodName) ({ cls := "CacheYardModel", name := "flush", desc := "(I)I" } : Jvm.MethodName)) ∈ kw_all := List.mem_of_getElem? (i := 428) rfl
theorem kj_429 : (Jvm.Cond.code ({ cls := "CacheYardModel", name := "flush", desc := "(I)I" } : Jvm.MethodName) prog_5_method_15_code (3 : Nat) (Option.some Jvm.ClassFile.FieldType.int)) ∈ kw_all := List.mem_of_getElem? (i := 429) rfl
theorem kj_430 : (Jvm.Cond.methodLink "CacheYardModel" (103 : Nat) ({ cls := "CacheYardModel", name := "isThere", desc := "(I)Z" } : Jvm.MethodName)) ∈ kw_all := List.mem_of_getElem? (i := 430) rfl
theorem kj_431 : (Jvm.Cond.instanceMethod ({ cls := "CacheYardModel", name := "isThere", desc := "(I)Z" } : Jvm.MethodName)) ∈ kw_all := List.mem_of_getElem? (i := 431) rfl
theorem kj_432 : (Jvm.Cond.code ({ cls := "CacheYardModel", name := "isThere", desc := "(I)Z" } : Jvm.MethodName) prog_5_method_5_code (2 : Nat) (Option.some Jvm.ClassFile.FieldType.boolean)) ∈ kw_all := List.mem_of_getElem? (i := 432) rfl
theorem kj_433 : (Jvm.Cond.methodLink "CacheYardModel" (107 : Nat) ({ cls := "CacheYardModel", name := "count", desc := "(IZ)I" } : Jvm.MethodName)) ∈ kw_all := List.mem_of_getElem? (i := 433) rfl
theorem kj_434 : (Jvm.Cond.instanceMethod ({ cls := "CacheYardModel", name := "count", desc := "(IZ)I" } : Jvm.MethodName)) ∈ kw_all := List.mem_of_getElem? (i := 434) rfl
theorem kj_435 : (Jvm.Cond.code ({ cls := "CacheYardModel", name := "count", desc := "(IZ)I" } : Jvm.MethodName) prog_5_method_14_code (5 : Nat) (Option.some Jvm.ClassFile.FieldType.int)) ∈ kw_all := List.mem_of_getElem? (i := 435) rfl
theorem kj_436 : (Jvm.Cond.methodLink "CacheYardLaw" (68 : Nat) ({ cls := "CacheYardModel", name := "place", desc := "(IIII)I" } : Jvm.MethodName)) ∈ kw_all := List.mem_of_getElem? (i := 436) rfl
theorem kj_437 : (Jvm.Cond.instanceMethod ({ cls := "CacheYardModel", name := "place", desc := "(IIII)I" } : Jvm.MethodName)) ∈ kw_all := List.mem_of_getElem? (i := 437) rfl
theorem kj_438 : (Jvm.Cond.selects "CacheYardModel" ({ cls := "CacheYardModel", name := "place", desc := "(IIII)I" } : Jvm.MethodName) ({ cls := "CacheYardModel", name := "place", desc := "(IIII)I" } : Jvm.MethodName)) ∈ kw_all := List.mem_of_getElem? (i := 438) rfl
theorem kj_439 : (Jvm.Cond.code ({ cls := "CacheYardModel", name := "place", desc := "(IIII)I" } : Jvm.MethodName) prog_5_method_16_code (8 : Nat) (Option.some Jvm.ClassFile.FieldType.int)) ∈ kw_all := List.mem_of_getElem? (i := 439) rfl
theorem kj_440 : (Jvm.Cond.methodLink "CacheYardLaw" (72 : Nat) ({ cls := "CacheYardModel", name := "about", desc := "(II)I" } : Jvm.MethodName)) ∈ kw_all := List.mem_of_getElem? (i := 440) rfl
theorem kj_441 : (Jvm.Cond.instanceMethod ({ cls := "CacheYardModel", name := "about", desc := "(II)I" } : Jvm.MethodName)) ∈ kw_all := List.mem_of_getElem? (i := 441) rfl
theorem kj_442 : (Jvm.Cond.selects "CacheYardModel" ({ cls := "CacheYardModel", name := "about", desc := "(II)I" } : Jvm.MethodName) ({ cls := "CacheYardModel", name := "about", desc := "(II)I" } : Jvm.MethodName)) ∈ kw_all := List.mem_of_getElem? (i := 442) rfl
theorem kj_443 : (Jvm.Cond.code ({ cls := "CacheYardModel", name := "about", desc := "(II)I" } : Jvm.MethodName) prog_5_method_17_code (4 : Nat) (Option.some Jvm.ClassFile.FieldType.int)) ∈ kw_all := List.mem_of_getElem? (i := 443) rfl
theorem kj_444 : (Jvm.Cond.methodLink "CacheYardLaw" (76 : Nat) ({ cls := "CacheYardModel", name := "accesses", desc := "()I" } : Jvm.MethodName)) ∈ kw_all := List.mem_of_getElem? (i := 444) rfl
theorem kj_445 : (Jvm.Cond.instanceMethod ({ cls := "CacheYardModel", name := "accesses", desc := "()I" } : Jvm.MethodName)) ∈ kw_all := List.mem_of_getElem? (i := 445) rfl
theorem kj_446 : (Jvm.Cond.selects "CacheYardModel" ({ cls := "CacheYardModel", name := "accesses", desc := "()I" } : Jvm.MethodName) ({ cls := "CacheYardModel", name := "accesses", desc := "()I" } : Jvm.MethodName)) ∈ kw_all := List.mem_of_getElem? (i := 446) rfl
theorem kj_447 : (Jvm.Cond.code ({ cls := "CacheYardModel", name := "accesses", desc := "()I" } : Jvm.MethodName) prog_5_method_18_code (1 : Nat) (Option.some Jvm.ClassFile.FieldType.int)) ∈ kw_all := List.mem_of_getElem? (i := 447) rfl
theorem kj_448 : (Jvm.Cond.methodLink "CacheYardLaw" (79 : Nat) ({ cls := "CacheYardModel", name := "curve", desc := "(II)I" } : Jvm.MethodName)) ∈ kw_all := List.mem_of_getElem? (i := 448) rfl
theorem kj_449 : (Jvm.Cond.instanceMethod ({ cls := "CacheYardModel", name := "curve", desc := "(II)I" } : Jvm.MethodName)) ∈ kw_all := List.mem_of_getElem? (i := 449) rfl
theorem kj_450 : (Jvm.Cond.selects "CacheYardModel" ({ cls := "CacheYardModel", name := "curve", desc := "(II)I" } : Jvm.MethodName) ({ cls := "CacheYardModel", name := "curve", desc := "(II)I" } : Jvm.MethodName)) ∈ kw_all := List.mem_of_getElem? (i := 450) rfl
theorem kj_451 : (Jvm.Cond.code ({ cls := "CacheYardModel", name := "curve", desc := "(II)I" } : Jvm.MethodName) prog_5_method_20_code (5 : Nat) (Option.some Jvm.ClassFile.FieldType.int)) ∈ kw_all := List.mem_of_getElem? (i := 451) rfl
theorem kj_452 : (Jvm.Cond.methodLink "CacheYardModel" (114 : Nat) ({ cls := "CacheYardModel", name := "comes", desc := "(III)Z" } : Jvm.MethodName)) ∈ kw_all := List.mem_of_getElem? (i := 452) rfl
theorem kj_453 : (Jvm.Cond.instanceMethod ({ cls := "CacheYardModel", name := "comes", desc := "(III)Z" } : Jvm.MethodName)) ∈ kw_all := List.mem_of_getElem? (i := 453) rfl
theorem kj_454 : (Jvm.Cond.code ({ cls := "CacheYardModel", name := "comes", desc := "(III)Z" } : Jvm.MethodName) prog_5_method_19_code (7 : Nat) (Option.some Jvm.ClassFile.FieldType.boolean)) ∈ kw_all := List.mem_of_getElem? (i := 454) rfl
theorem kj_455 : (Jvm.Cond.methodLink "CacheYardLaw" (82 : Nat) ({ cls := "CacheYardModel", name := "best", desc := "(II)I" } : Jvm.MethodName)) ∈ kw_all := List.mem_of_getElem? (i := 455) rfl
theorem kj_456 : (Jvm.Cond.instanceMethod ({ cls := "CacheYardModel", name := "best", desc := "(II)I" } : Jvm.MethodName)) ∈ kw_all := List.mem_of_getElem? (i := 456) rfl
theorem kj_457 : (Jvm.Cond.selects "CacheYardModel" ({ cls := "CacheYardModel", name := "best", desc := "(II)I" } : Jvm.MethodName) ({ cls := "CacheYardModel", name := "best", desc := "(II)I" } : Jvm.MethodName)) ∈ kw_all := List.mem_of_getElem? (i := 457) rfl
theorem kj_458 : (Jvm.Cond.code ({ cls := "CacheYardModel", name := "best", desc := "(II)I" } : Jvm.MethodName) prog_5_method_22_code (9 : Nat) (Option.some Jvm.ClassFile.FieldType.int)) ∈ kw_all := List.mem_of_getElem? (i := 458) rfl
theorem kj_459 : (Jvm.Cond.methodLink "CacheYardModel" (120 : Nat) ({ cls := "CacheYardModel", name := "nextOf", desc := "(II)I" } : Jvm.MethodName)) ∈ kw_all := List.mem_of_getElem? (i := 459) rfl
theorem kj_460 : (Jvm.Cond.instanceMethod ({ cls := "CacheYardModel", name := "nextOf", desc := "(II)I" } : Jvm.MethodName)) ∈ kw_all := List.mem_of_getElem? (i := 460) rfl
theorem kj_461 : (Jvm.Cond.code ({ cls := "CacheYardModel", name := "nextOf", desc := "(II)I" } : Jvm.MethodName) prog_5_method_21_code (4 : Nat) (Option.some Jvm.ClassFile.FieldType.int)) ∈ kw_all := List.mem_of_getElem? (i := 461) rfl
theorem kj_462 : (Jvm.Cond.arrayClass Jvm.ClassFile.FieldType.long) ∈ kw_all := List.mem_of_getElem? (i := 462) rfl
end
section
theorem kd_Y_init_0 : decode kb_Y_init 0 = .ok (.aload_n 0, 1) := by decide +kernel
theorem kd_Y_init_1 : decode kb_Y_init 1 = .ok (.invokespecial 1, 3) := by decide +kernel
theorem kd_Y_init_4 : decode kb_Y_init 4 = .ok (.aload_n 0, 1) := by decide +kernel
theorem kd_Y_init_5 : decode kb_Y_init 5 = .ok (.iconst 4, 1) := by decide +kernel
theorem kd_Y_init_6 : decode kb_Y_init 6 = .ok (.anewarray 9, 3) := by decide +kernel
theorem kd_Y_init_9 : decode kb_Y_init 9 = .ok (.putfield 11, 3) := by decide +kernel
theorem kd_Y_init_12 : decode kb_Y_init 12 = .ok (.aload_n 0, 1) := by decide +kernel
theorem kd_Y_init_13 : decode kb_Y_init 13 = .ok (.new 15, 3) := by decide +kernel
theorem kd_Y_init_16 : decode kb_Y_init 16 = .ok (.dup, 1) := by decide +kernel
theorem kd_Y_init_17 : decode kb_Y_init 17 = .ok (.invokespecial 17, 3) := by decide +kernel
theorem kd_Y_init_20 : decode kb_Y_init 20 = .ok (.putfield 18, 3) := by decide +kernel
theorem kd_Y_init_23 : decode kb_Y_init 23 = .ok (.return_, 1) := by decide +kernel
theorem kd_W_init_0 : decode kb_W_init 0 = .ok (.aload_n 0, 1) := by decide +kernel
theorem kd_W_init_1 : decode kb_W_init 1 = .ok (.invokespecial 3, 3) := by decide +kernel
theorem kd_W_init_4 : decode kb_W_init 4 = .ok (.aload_n 0, 1) := by decide +kernel
theorem kd_W_init_5 : decode kb_W_init 5 = .ok (.sipush 400, 3) := by decide +kernel
theorem kd_W_init_8 : decode kb_W_init 8 = .ok (.newarray .int, 2) := by decide +kernel
theorem kd_W_init_10 : decode kb_W_init 10 = .ok (.putfield 9, 3) := by decide +kernel
theorem kd_W_init_13 : decode kb_W_init 13 = .ok (.aload_n 0, 1) := by decide +kernel
theorem kd_W_init_14 : decode kb_W_init 14 = .ok (.sipush 400, 3) := by decide +kernel
theorem kd_W_init_17 : decode kb_W_init 17 = .ok (.newarray .int, 2) := by decide +kernel
theorem kd_W_init_19 : decode kb_W_init 19 = .ok (.putfield 15, 3) := by decide +kernel
theorem kd_W_init_22 : decode kb_W_init 22 = .ok (.aload_n 0, 1) := by decide +kernel
theorem kd_W_init_23 : decode kb_W_init 23 = .ok (.sipush 4096, 3) := by decide +kernel
theorem kd_W_init_26 : decode kb_W_init 26 = .ok (.newarray .int, 2) := by decide +kernel
theorem kd_W_init_28 : decode kb_W_init 28 = .ok (.putfield 18, 3) := by decide +kernel
theorem kd_W_init_31 : decode kb_W_init 31 = .ok (.aload_n 0, 1) := by decide +kernel
theorem kd_W_init_32 : decode kb_W_init 32 = .ok (.bipush 64, 2) := by decide +kernel
theorem kd_W_init_34 : decode kb_W_init 34 = .ok (.newarray .int, 2) := by decide +kernel
theorem kd_W_init_36 : decode kb_W_init 36 = .ok (.putfield 21, 3) := by decide +kernel
theorem kd_W_init_39 : decode kb_W_init 39 = .ok (.return_, 1) := by decide +kernel
theorem kd_Y_accesses_0 : decode kb_Y_accesses 0 = .ok (.aload_n 0, 1) := by decide +kernel
theorem kd_Y_accesses_1 : decode kb_Y_accesses 1 = .ok (.getfield 18, 3) := by decide +kernel
theorem kd_Y_accesses_4 : decode kb_Y_accesses 4 = .ok (.invokevirtual 56, 3) := by decide +kernel
theorem kd_Y_accesses_7 : decode kb_Y_accesses 7 = .ok (.ireturn, 1) := by decide +kernel
theorem kd_W_length_0 : decode kb_W_length 0 = .ok (.aload_n 0, 1) := by decide +kernel
theorem kd_W_length_1 : decode kb_W_length 1 = .ok (.getfield 24, 3) := by decide +kernel
theorem kd_W_length_4 : decode kb_W_length 4 = .ok (.ireturn, 1) := by decide +kernel
theorem kd_Y_make_0 : decode kb_Y_make 0 = .ok (.iload_n 1, 1) := by decide +kernel
theorem kd_Y_make_1 : decode kb_Y_make 1 = .ok (.ifCond .lt 8, 3) := by decide +kernel
theorem kd_Y_make_4 : decode kb_Y_make 4 = .ok (.iload_n 1, 1) := by decide +kernel
theorem kd_Y_make_5 : decode kb_Y_make 5 = .ok (.iconst 4, 1) := by decide +kernel
theorem kd_Y_make_6 : decode kb_Y_make 6 = .ok (.if_icmp .lt 13, 3) := by decide +kernel
theorem kd_Y_make_9 : decode kb_Y_make 9 = .ok (.new 22, 3) := by decide +kernel
theorem kd_Y_make_12 : decode kb_Y_make 12 = .ok (.dup, 1) := by decide +kernel
theorem kd_Y_make_13 : decode kb_Y_make 13 = .ok (.ldc 24, 2) := by decide +kernel
theorem kd_Y_make_15 : decode kb_Y_make 15 = .ok (.invokespecial 26, 3) := by decide +kernel
theorem kd_Y_make_18 : decode kb_Y_make 18 = .ok (.athrow, 1) := by decide +kernel
theorem kd_Y_make_19 : decode kb_Y_make 19 = .ok (.iload_n 2, 1) := by decide +kernel
theorem kd_Y_make_20 : decode kb_Y_make 20 = .ok (.ifCond .lt 8, 3) := by decide +kernel
theorem kd_Y_make_23 : decode kb_Y_make 23 = .ok (.iload_n 2, 1) := by decide +kernel
theorem kd_Y_make_24 : decode kb_Y_make 24 = .ok (.iconst 4, 1) := by decide +kernel
theorem kd_Y_make_25 : decode kb_Y_make 25 = .ok (.if_icmp .le 13, 3) := by decide +kernel
theorem kd_Y_make_28 : decode kb_Y_make 28 = .ok (.new 22, 3) := by decide +kernel
theorem kd_Y_make_31 : decode kb_Y_make 31 = .ok (.dup, 1) := by decide +kernel
theorem kd_Y_make_32 : decode kb_Y_make 32 = .ok (.ldc 29, 2) := by decide +kernel
theorem kd_Y_make_34 : decode kb_Y_make 34 = .ok (.invokespecial 26, 3) := by decide +kernel
theorem kd_Y_make_37 : decode kb_Y_make 37 = .ok (.athrow, 1) := by decide +kernel
theorem kd_Y_make_38 : decode kb_Y_make 38 = .ok (.iload_n 3, 1) := by decide +kernel
theorem kd_Y_make_39 : decode kb_Y_make 39 = .ok (.iconst 1, 1) := by decide +kernel
theorem kd_Y_make_40 : decode kb_Y_make 40 = .ok (.if_icmp .lt 9, 3) := by decide +kernel
theorem kd_Y_make_43 : decode kb_Y_make 43 = .ok (.iload_n 3, 1) := by decide +kernel
theorem kd_Y_make_44 : decode kb_Y_make 44 = .ok (.bipush 8, 2) := by decide +kernel
theorem kd_Y_make_46 : decode kb_Y_make 46 = .ok (.if_icmp .le 13, 3) := by decide +kernel
theorem kd_Y_make_49 : decode kb_Y_make 49 = .ok (.new 22, 3) := by decide +kernel
theorem kd_Y_make_52 : decode kb_Y_make 52 = .ok (.dup, 1) := by decide +kernel
theorem kd_Y_make_53 : decode kb_Y_make 53 = .ok (.ldc 31, 2) := by decide +kernel
theorem kd_Y_make_55 : decode kb_Y_make 55 = .ok (.invokespecial 26, 3) := by decide +kernel
theorem kd_Y_make_58 : decode kb_Y_make 58 = .ok (.athrow, 1) := by decide +kernel
theorem kd_Y_make_59 : decode kb_Y_make 59 = .ok (.iload 4, 2) := by decide +kernel
theorem kd_Y_make_61 : decode kb_Y_make 61 = .ok (.ifCond .lt 9, 3) := by decide +kernel
theorem kd_Y_make_64 : decode kb_Y_make 64 = .ok (.iload 4, 2) := by decide +kernel
theorem kd_Y_make_66 : decode kb_Y_make 66 = .ok (.iconst 2, 1) := by decide +kernel
theorem kd_Y_make_67 : decode kb_Y_make 67 = .ok (.if_icmp .le 13, 3) := by decide +kernel
theorem kd_Y_make_70 : decode kb_Y_make 70 = .ok (.new 22, 3) := by decide +kernel
theorem kd_Y_make_73 : decode kb_Y_make 73 = .ok (.dup, 1) := by decide +kernel
theorem kd_Y_make_74 : decode kb_Y_make 74 = .ok (.ldc 33, 2) := by decide +kernel
theorem kd_Y_make_76 : decode kb_Y_make 76 = .ok (.invokespecial 26, 3) := by decide +kernel
theorem kd_Y_make_79 : decode kb_Y_make 79 = .ok (.athrow, 1) := by decide +kernel
theorem kd_Y_make_80 : decode kb_Y_make 80 = .ok (.iload 4, 2) := by decide +kernel
theorem kd_Y_make_82 : decode kb_Y_make 82 = .ok (.iconst 2, 1) := by decide +kernel
theorem kd_Y_make_83 : decode kb_Y_make 83 = .ok (.if_icmp .ne 21, 3) := by decide +kernel
theorem kd_Y_make_86 : decode kb_Y_make 86 = .ok (.iload_n 3, 1) := by decide +kernel
theorem kd_Y_make_87 : decode kb_Y_make 87 = .ok (.invokestatic 35, 3) := by decide +kernel
theorem kd_Y_make_90 : decode kb_Y_make 90 = .ok (.iconst 1, 1) := by decide +kernel
theorem kd_Y_make_91 : decode kb_Y_make 91 = .ok (.if_icmp .eq 13, 3) := by decide +kernel
theorem kd_Y_make_94 : decode kb_Y_make 94 = .ok (.new 22, 3) := by decide +kernel
theorem kd_Y_make_97 : decode kb_Y_make 97 = .ok (.dup, 1) := by decide +kernel
theorem kd_Y_make_98 : decode kb_Y_make 98 = .ok (.ldc 41, 2) := by decide +kernel
theorem kd_Y_make_100 : decode kb_Y_make 100 = .ok (.invokespecial 26, 3) := by decide +kernel
theorem kd_Y_make_103 : decode kb_Y_make 103 = .ok (.athrow, 1) := by decide +kernel
theorem kd_Y_make_104 : decode kb_Y_make 104 = .ok (.iload 5, 2) := by decide +kernel
theorem kd_Y_make_106 : decode kb_Y_make 106 = .ok (.invokestatic 43, 3) := by decide +kernel
theorem kd_Y_make_109 : decode kb_Y_make 109 = .ok (.ifCond .ne 13, 3) := by decide +kernel
theorem kd_Y_make_112 : decode kb_Y_make 112 = .ok (.new 22, 3) := by decide +kernel
theorem kd_Y_make_115 : decode kb_Y_make 115 = .ok (.dup, 1) := by decide +kernel
theorem kd_Y_make_116 : decode kb_Y_make 116 = .ok (.ldc 47, 2) := by decide +kernel
theorem kd_Y_make_118 : decode kb_Y_make 118 = .ok (.invokespecial 26, 3) := by decide +kernel
theorem kd_Y_make_121 : decode kb_Y_make 121 = .ok (.athrow, 1) := by decide +kernel
theorem kd_Y_make_122 : decode kb_Y_make 122 = .ok (.aload_n 0, 1) := by decide +kernel
theorem kd_Y_make_123 : decode kb_Y_make 123 = .ok (.getfield 11, 3) := by decide +kernel
theorem kd_Y_make_126 : decode kb_Y_make 126 = .ok (.iload_n 1, 1) := by decide +kernel
theorem kd_Y_make_127 : decode kb_Y_make 127 = .ok (.aaload, 1) := by decide +kernel
theorem kd_Y_make_128 : decode kb_Y_make 128 = .ok (.astore 6, 2) := by decide +kernel
theorem kd_Y_make_130 : decode kb_Y_make 130 = .ok (.aload 6, 2) := by decide +kernel
theorem kd_Y_make_132 : decode kb_Y_make 132 = .ok (.ifnonnull 20, 3) := by decide +kernel
theorem kd_Y_make_135 : decode kb_Y_make 135 = .ok (.new 9, 3) := by decide +kernel
theorem kd_Y_make_138 : decode kb_Y_make 138 = .ok (.dup, 1) := by decide +kernel
theorem kd_Y_make_139 : decode kb_Y_make 139 = .ok (.invokespecial 49, 3) := by decide +kernel
theorem kd_Y_make_142 : decode kb_Y_make 142 = .ok (.astore 6, 2) := by decide +kernel
theorem kd_Y_make_144 : decode kb_Y_make 144 = .ok (.aload_n 0, 1) := by decide +kernel
theorem kd_Y_make_145 : decode kb_Y_make 145 = .ok (.getfield 11, 3) := by decide +kernel
theorem kd_Y_make_148 : decode kb_Y_make 148 = .ok (.iload_n 1, 1) := by decide +kernel
theorem kd_Y_make_149 : decode kb_Y_make 149 = .ok (.aload 6, 2) := by decide +kernel
theorem kd_Y_make_151 : decode kb_Y_make 151 = .ok (.aastore, 1) := by decide +kernel
theorem kd_Y_make_152 : decode kb_Y_make 152 = .ok (.aload 6, 2) := by decide +kernel
theorem kd_Y_make_154 : decode kb_Y_make 154 = .ok (.iload_n 2, 1) := by decide +kernel
theorem kd_Y_make_155 : decode kb_Y_make 155 = .ok (.iload_n 3, 1) := by decide +kernel
theorem kd_Y_make_156 : decode kb_Y_make 156 = .ok (.iload 4, 2) := by decide +kernel
theorem kd_Y_make_158 : decode kb_Y_make 158 = .ok (.iload 5, 2) := by decide +kernel
theorem kd_Y_make_160 : decode kb_Y_make 160 = .ok (.invokevirtual 50, 3) := by decide +kernel
theorem kd_Y_make_163 : decode kb_Y_make 163 = .ok (.return_, 1) := by decide +kernel
theorem kd_I_bitCount_0 : decode kb_I_bitCount 0 = .ok (.iload_n 0, 1) := by decide +kernel
theorem kd_I_bitCount_1 : decode kb_I_bitCount 1 = .ok (.iload_n 0, 1) := by decide +kernel
theorem kd_I_bitCount_2 : decode kb_I_bitCount 2 = .ok (.iconst 1, 1) := by decide +kernel
theorem kd_I_bitCount_3 : decode kb_I_bitCount 3 = .ok (.iushr, 1) := by decide +kernel
theorem kd_I_bitCount_4 : decode kb_I_bitCount 4 = .ok (.ldc_w 265, 3) := by decide +kernel
theorem kd_I_bitCount_7 : decode kb_I_bitCount 7 = .ok (.iand, 1) := by decide +kernel
theorem kd_I_bitCount_8 : decode kb_I_bitCount 8 = .ok (.isub, 1) := by decide +kernel
theorem kd_I_bitCount_9 : decode kb_I_bitCount 9 = .ok (.istore_n 0, 1) := by decide +kernel
theorem kd_I_bitCount_10 : decode kb_I_bitCount 10 = .ok (.iload_n 0, 1) := by decide +kernel
theorem kd_I_bitCount_11 : decode kb_I_bitCount 11 = .ok (.ldc_w 266, 3) := by decide +kernel
theorem kd_I_bitCount_14 : decode kb_I_bitCount 14 = .ok (.iand, 1) := by decide +kernel
theorem kd_I_bitCount_15 : decode kb_I_bitCount 15 = .ok (.iload_n 0, 1) := by decide +kernel
theorem kd_I_bitCount_16 : decode kb_I_bitCount 16 = .ok (.iconst 2, 1) := by decide +kernel
theorem kd_I_bitCount_17 : decode kb_I_bitCount 17 = .ok (.iushr, 1) := by decide +kernel
theorem kd_I_bitCount_18 : decode kb_I_bitCount 18 = .ok (.ldc_w 266, 3) := by decide +kernel
theorem kd_I_bitCount_21 : decode kb_I_bitCount 21 = .ok (.iand, 1) := by decide +kernel
theorem kd_I_bitCount_22 : decode kb_I_bitCount 22 = .ok (.iadd, 1) := by decide +kernel
theorem kd_I_bitCount_23 : decode kb_I_bitCount 23 = .ok (.istore_n 0, 1) := by decide +kernel
theorem kd_I_bitCount_24 : decode kb_I_bitCount 24 = .ok (.iload_n 0, 1) := by decide +kernel
theorem kd_I_bitCount_25 : decode kb_I_bitCount 25 = .ok (.iload_n 0, 1) := by decide +kernel
theorem kd_I_bitCount_26 : decode kb_I_bitCount 26 = .ok (.iconst 4, 1) := by decide +kernel
theorem kd_I_bitCount_27 : decode kb_I_bitCount 27 = .ok (.iushr, 1) := by decide +kernel
theorem kd_I_bitCount_28 : decode kb_I_bitCount 28 = .ok (.iadd, 1) := by decide +kernel
theorem kd_I_bitCount_29 : decode kb_I_bitCount 29 = .ok (.ldc_w 267, 3) := by decide +kernel
theorem kd_I_bitCount_32 : decode kb_I_bitCount 32 = .ok (.iand, 1) := by decide +kernel
theorem kd_I_bitCount_33 : decode kb_I_bitCount 33 = .ok (.istore_n 0, 1) := by decide +kernel
theorem kd_I_bitCount_34 : decode kb_I_bitCount 34 = .ok (.iload_n 0, 1) := by decide +kernel
theorem kd_I_bitCount_35 : decode kb_I_bitCount 35 = .ok (.iload_n 0, 1) := by decide +kernel
theorem kd_I_bitCount_36 : decode kb_I_bitCount 36 = .ok (.bipush 8, 2) := by decide +kernel
theorem kd_I_bitCount_38 : decode kb_I_bitCount 38 = .ok (.iushr, 1) := by decide +kernel
theorem kd_I_bitCount_39 : decode kb_I_bitCount 39 = .ok (.iadd, 1) := by decide +kernel
theorem kd_I_bitCount_40 : decode kb_I_bitCount 40 = .ok (.istore_n 0, 1) := by decide +kernel
theorem kd_I_bitCount_41 : decode kb_I_bitCount 41 = .ok (.iload_n 0, 1) := by decide +kernel
theorem kd_I_bitCount_42 : decode kb_I_bitCount 42 = .ok (.iload_n 0, 1) := by decide +kernel
theorem kd_I_bitCount_43 : decode kb_I_bitCount 43 = .ok (.bipush 16, 2) := by decide +kernel
theorem kd_I_bitCount_45 : decode kb_I_bitCount 45 = .ok (.iushr, 1) := by decide +kernel
theorem kd_I_bitCount_46 : decode kb_I_bitCount 46 = .ok (.iadd, 1) := by decide +kernel
theorem kd_I_bitCount_47 : decode kb_I_bitCount 47 = .ok (.istore_n 0, 1) := by decide +kernel
theorem kd_I_bitCount_48 : decode kb_I_bitCount 48 = .ok (.iload_n 0, 1) := by decide +kernel
theorem kd_I_bitCount_49 : decode kb_I_bitCount 49 = .ok (.bipush 63, 2) := by decide +kernel
theorem kd_I_bitCount_51 : decode kb_I_bitCount 51 = .ok (.iand, 1) := by decide +kernel
theorem kd_I_bitCount_52 : decode kb_I_bitCount 52 = .ok (.ireturn, 1) := by decide +kernel
theorem kd_Y_areBits_0 : decode kb_Y_areBits 0 = .ok (.iload_n 0, 1) := by decide +kernel
theorem kd_Y_areBits_1 : decode kb_Y_areBits 1 = .ok (.ifCond .lt 13, 3) := by decide +kernel
theorem kd_Y_areBits_4 : decode kb_Y_areBits 4 = .ok (.iload_n 0, 1) := by decide +kernel
theorem kd_Y_areBits_5 : decode kb_Y_areBits 5 = .ok (.bipush 6, 2) := by decide +kernel
theorem kd_Y_areBits_7 : decode kb_Y_areBits 7 = .ok (.if_icmp .gt 7, 3) := by decide +kernel
theorem kd_Y_areBits_10 : decode kb_Y_areBits 10 = .ok (.iconst 1, 1) := by decide +kernel
theorem kd_Y_areBits_11 : decode kb_Y_areBits 11 = .ok (.goto 4, 3) := by decide +kernel
theorem kd_Y_areBits_14 : decode kb_Y_areBits 14 = .ok (.iconst 0, 1) := by decide +kernel
theorem kd_Y_areBits_15 : decode kb_Y_areBits 15 = .ok (.ireturn, 1) := by decide +kernel
theorem kd_C_init_0 : decode kb_C_init 0 = .ok (.aload_n 0, 1) := by decide +kernel
theorem kd_C_init_1 : decode kb_C_init 1 = .ok (.invokespecial 3, 3) := by decide +kernel
theorem kd_C_init_4 : decode kb_C_init 4 = .ok (.aload_n 0, 1) := by decide +kernel
theorem kd_C_init_5 : decode kb_C_init 5 = .ok (.sipush 128, 3) := by decide +kernel
theorem kd_C_init_8 : decode kb_C_init 8 = .ok (.newarray .int, 2) := by decide +kernel
theorem kd_C_init_10 : decode kb_C_init 10 = .ok (.putfield 9, 3) := by decide +kernel
theorem kd_C_init_13 : decode kb_C_init 13 = .ok (.aload_n 0, 1) := by decide +kernel
theorem kd_C_init_14 : decode kb_C_init 14 = .ok (.sipush 128, 3) := by decide +kernel
theorem kd_C_init_17 : decode kb_C_init 17 = .ok (.newarray .boolean, 2) := by decide +kernel
theorem kd_C_init_19 : decode kb_C_init 19 = .ok (.putfield 15, 3) := by decide +kernel
theorem kd_C_init_22 : decode kb_C_init 22 = .ok (.aload_n 0, 1) := by decide +kernel
theorem kd_C_init_23 : decode kb_C_init 23 = .ok (.sipush 128, 3) := by decide +kernel
theorem kd_C_init_26 : decode kb_C_init 26 = .ok (.newarray .int, 2) := by decide +kernel
theorem kd_C_init_28 : decode kb_C_init 28 = .ok (.putfield 19, 3) := by decide +kernel
theorem kd_C_init_31 : decode kb_C_init 31 = .ok (.aload_n 0, 1) := by decide +kernel
theorem kd_C_init_32 : decode kb_C_init 32 = .ok (.bipush 16, 2) := by decide +kernel
theorem kd_C_init_34 : decode kb_C_init 34 = .ok (.newarray .int, 2) := by decide +kernel
theorem kd_C_init_36 : decode kb_C_init 36 = .ok (.putfield 22, 3) := by decide +kernel
theorem kd_C_init_39 : decode kb_C_init 39 = .ok (.return_, 1) := by decide +kernel
theorem kd_C_become_0 : decode kb_C_become 0 = .ok (.aload_n 0, 1) := by decide +kernel
theorem kd_C_become_1 : decode kb_C_become 1 = .ok (.iload_n 1, 1) := by decide +kernel
theorem kd_C_become_2 : decode kb_C_become 2 = .ok (.putfield 25, 3) := by decide +kernel
theorem kd_C_become_5 : decode kb_C_become 5 = .ok (.aload_n 0, 1) := by decide +kernel
theorem kd_C_become_6 : decode kb_C_become 6 = .ok (.iload_n 2, 1) := by decide +kernel
theorem kd_C_become_7 : decode kb_C_become 7 = .ok (.putfield 29, 3) := by decide +kernel
theorem kd_C_become_10 : decode kb_C_become 10 = .ok (.aload_n 0, 1) := by decide +kernel
theorem kd_C_become_11 : decode kb_C_become 11 = .ok (.iload_n 3, 1) := by decide +kernel
theorem kd_C_become_12 : decode kb_C_become 12 = .ok (.putfield 32, 3) := by decide +kernel
theorem kd_C_become_15 : decode kb_C_become 15 = .ok (.aload_n 0, 1) := by decide +kernel
theorem kd_C_become_16 : decode kb_C_become 16 = .ok (.iload 4, 2) := by decide +kernel
theorem kd_C_become_18 : decode kb_C_become 18 = .ok (.putfield 35, 3) := by decide +kernel
theorem kd_C_become_21 : decode kb_C_become 21 = .ok (.aload_n 0, 1) := by decide +kernel
theorem kd_C_become_22 : decode kb_C_become 22 = .ok (.iconst 0, 1) := by decide +kernel
theorem kd_C_become_23 : decode kb_C_become 23 = .ok (.putfield 38, 3) := by decide +kernel
theorem kd_C_become_26 : decode kb_C_become 26 = .ok (.aload_n 0, 1) := by decide +kernel
theorem kd_C_become_27 : decode kb_C_become 27 = .ok (.iconst 0, 1) := by decide +kernel
theorem kd_C_become_28 : decode kb_C_become 28 = .ok (.putfield 41, 3) := by decide +kernel
theorem kd_C_become_31 : decode kb_C_become 31 = .ok (.aload_n 0, 1) := by decide +kernel
theorem kd_C_become_32 : decode kb_C_become 32 = .ok (.iconst 0, 1) := by decide +kernel
theorem kd_C_become_33 : decode kb_C_become 33 = .ok (.putfield 44, 3) := by decide +kernel
theorem kd_C_become_36 : decode kb_C_become 36 = .ok (.aload_n 0, 1) := by decide +kernel
theorem kd_C_become_37 : decode kb_C_become 37 = .ok (.iconst 0, 1) := by decide +kernel
theorem kd_C_become_38 : decode kb_C_become 38 = .ok (.putfield 47, 3) := by decide +kernel
theorem kd_C_become_41 : decode kb_C_become 41 = .ok (.aload_n 0, 1) := by decide +kernel
theorem kd_C_become_42 : decode kb_C_become 42 = .ok (.invokevirtual 50, 3) := by decide +kernel
theorem kd_C_become_45 : decode kb_C_become 45 = .ok (.return_, 1) := by decide +kernel
theorem kd_C_emptyAll_0 : decode kb_C_emptyAll 0 = .ok (.iconst 0, 1) := by decide +kernel
theorem kd_C_emptyAll_1 : decode kb_C_emptyAll 1 = .ok (.istore_n 1, 1) := by decide +kernel
theorem kd_C_emptyAll_2 : decode kb_C_emptyAll 2 = .ok (.iload_n 1, 1) := by decide +kernel
theorem kd_C_emptyAll_3 : decode kb_C_emptyAll 3 = .ok (.aload_n 0, 1) := by decide +kernel
theorem kd_C_emptyAll_4 : decode kb_C_emptyAll 4 = .ok (.getfield 9, 3) := by decide +kernel
theorem kd_C_emptyAll_7 : decode kb_C_emptyAll 7 = .ok (.arraylength, 1) := by decide +kernel
theorem kd_C_emptyAll_8 : decode kb_C_emptyAll 8 = .ok (.if_icmp .ge 30, 3) := by decide +kernel
theorem kd_C_emptyAll_11 : decode kb_C_emptyAll 11 = .ok (.aload_n 0, 1) := by decide +kernel
theorem kd_C_emptyAll_12 : decode kb_C_emptyAll 12 = .ok (.getfield 9, 3) := by decide +kernel
theorem kd_C_emptyAll_15 : decode kb_C_emptyAll 15 = .ok (.iload_n 1, 1) := by decide +kernel
theorem kd_C_emptyAll_16 : decode kb_C_emptyAll 16 = .ok (.iconst (-1), 1) := by decide +kernel
theorem kd_C_emptyAll_17 : decode kb_C_emptyAll 17 = .ok (.iastore, 1) := by decide +kernel
theorem kd_C_emptyAll_18 : decode kb_C_emptyAll 18 = .ok (.aload_n 0, 1) := by decide +kernel
theorem kd_C_emptyAll_19 : decode kb_C_emptyAll 19 = .ok (.getfield 15, 3) := by decide +kernel
theorem kd_C_emptyAll_22 : decode kb_C_emptyAll 22 = .ok (.iload_n 1, 1) := by decide +kernel
theorem kd_C_emptyAll_23 : decode kb_C_emptyAll 23 = .ok (.iconst 0, 1) := by decide +kernel
theorem kd_C_emptyAll_24 : decode kb_C_emptyAll 24 = .ok (.bastore, 1) := by decide +kernel
theorem kd_C_emptyAll_25 : decode kb_C_emptyAll 25 = .ok (.aload_n 0, 1) := by decide +kernel
theorem kd_C_emptyAll_26 : decode kb_C_emptyAll 26 = .ok (.getfield 19, 3) := by decide +kernel
theorem kd_C_emptyAll_29 : decode kb_C_emptyAll 29 = .ok (.iload_n 1, 1) := by decide +kernel
theorem kd_C_emptyAll_30 : decode kb_C_emptyAll 30 = .ok (.iconst 0, 1) := by decide +kernel
theorem kd_C_emptyAll_31 : decode kb_C_emptyAll 31 = .ok (.iastore, 1) := by decide +kernel
theorem kd_C_emptyAll_32 : decode kb_C_emptyAll 32 = .ok (.iinc 1 1, 3) := by decide +kernel
theorem kd_C_emptyAll_35 : decode kb_C_emptyAll 35 = .ok (.goto (-33), 3) := by decide +kernel
theorem kd_C_emptyAll_38 : decode kb_C_emptyAll 38 = .ok (.iconst 0, 1) := by decide +kernel
theorem kd_C_emptyAll_39 : decode kb_C_emptyAll 39 = .ok (.istore_n 1, 1) := by decide +kernel
theorem kd_C_emptyAll_40 : decode kb_C_emptyAll 40 = .ok (.iload_n 1, 1) := by decide +kernel
theorem kd_C_emptyAll_41 : decode kb_C_emptyAll 41 = .ok (.aload_n 0, 1) := by decide +kernel
theorem kd_C_emptyAll_42 : decode kb_C_emptyAll 42 = .ok (.getfield 22, 3) := by decide +kernel
theorem kd_C_emptyAll_45 : decode kb_C_emptyAll 45 = .ok (.arraylength, 1) := by decide +kernel
theorem kd_C_emptyAll_46 : decode kb_C_emptyAll 46 = .ok (.if_icmp .ge 16, 3) := by decide +kernel
theorem kd_C_emptyAll_49 : decode kb_C_emptyAll 49 = .ok (.aload_n 0, 1) := by decide +kernel
theorem kd_C_emptyAll_50 : decode kb_C_emptyAll 50 = .ok (.getfield 22, 3) := by decide +kernel
theorem kd_C_emptyAll_53 : decode kb_C_emptyAll 53 = .ok (.iload_n 1, 1) := by decide +kernel
theorem kd_C_emptyAll_54 : decode kb_C_emptyAll 54 = .ok (.iconst 0, 1) := by decide +kernel
theorem kd_C_emptyAll_55 : decode kb_C_emptyAll 55 = .ok (.iastore, 1) := by decide +kernel
theorem kd_C_emptyAll_56 : decode kb_C_emptyAll 56 = .ok (.iinc 1 1, 3) := by decide +kernel
theorem kd_C_emptyAll_59 : decode kb_C_emptyAll 59 = .ok (.goto (-19), 3) := by decide +kernel
theorem kd_C_emptyAll_62 : decode kb_C_emptyAll 62 = .ok (.return_, 1) := by decide +kernel
theorem kd_Y_access_0 : decode kb_Y_access 0 = .ok (.iload_n 1, 1) := by decide +kernel
theorem kd_Y_access_1 : decode kb_Y_access 1 = .ok (.ifCond .lt 10, 3) := by decide +kernel
theorem kd_Y_access_4 : decode kb_Y_access 4 = .ok (.iload_n 1, 1) := by decide +kernel
theorem kd_Y_access_5 : decode kb_Y_access 5 = .ok (.sipush 4096, 3) := by decide +kernel
theorem kd_Y_access_8 : decode kb_Y_access 8 = .ok (.if_icmp .lt 13, 3) := by decide +kernel
theorem kd_Y_access_11 : decode kb_Y_access 11 = .ok (.new 22, 3) := by decide +kernel
theorem kd_Y_access_14 : decode kb_Y_access 14 = .ok (.dup, 1) := by decide +kernel
theorem kd_Y_access_15 : decode kb_Y_access 15 = .ok (.ldc 54, 2) := by decide +kernel
theorem kd_Y_access_17 : decode kb_Y_access 17 = .ok (.invokespecial 26, 3) := by decide +kernel
theorem kd_Y_access_20 : decode kb_Y_access 20 = .ok (.athrow, 1) := by decide +kernel
theorem kd_Y_access_21 : decode kb_Y_access 21 = .ok (.aload_n 0, 1) := by decide +kernel
theorem kd_Y_access_22 : decode kb_Y_access 22 = .ok (.getfield 18, 3) := by decide +kernel
theorem kd_Y_access_25 : decode kb_Y_access 25 = .ok (.invokevirtual 56, 3) := by decide +kernel
theorem kd_Y_access_28 : decode kb_Y_access 28 = .ok (.istore_n 3, 1) := by decide +kernel
theorem kd_Y_access_29 : decode kb_Y_access 29 = .ok (.iload_n 3, 1) := by decide +kernel
theorem kd_Y_access_30 : decode kb_Y_access 30 = .ok (.sipush 400, 3) := by decide +kernel
theorem kd_Y_access_33 : decode kb_Y_access 33 = .ok (.if_icmp .lt 13, 3) := by decide +kernel
theorem kd_Y_access_36 : decode kb_Y_access 36 = .ok (.new 60, 3) := by decide +kernel
theorem kd_Y_access_39 : decode kb_Y_access 39 = .ok (.dup, 1) := by decide +kernel
theorem kd_Y_access_40 : decode kb_Y_access 40 = .ok (.ldc 62, 2) := by decide +kernel
theorem kd_Y_access_42 : decode kb_Y_access 42 = .ok (.invokespecial 64, 3) := by decide +kernel
theorem kd_Y_access_45 : decode kb_Y_access 45 = .ok (.athrow, 1) := by decide +kernel
theorem kd_Y_access_46 : decode kb_Y_access 46 = .ok (.aload_n 0, 1) := by decide +kernel
theorem kd_Y_access_47 : decode kb_Y_access 47 = .ok (.getfield 18, 3) := by decide +kernel
theorem kd_Y_access_50 : decode kb_Y_access 50 = .ok (.iload_n 1, 1) := by decide +kernel
theorem kd_Y_access_51 : decode kb_Y_access 51 = .ok (.invokevirtual 65, 3) := by decide +kernel
theorem kd_Y_access_54 : decode kb_Y_access 54 = .ok (.iconst 0, 1) := by decide +kernel
theorem kd_Y_access_55 : decode kb_Y_access 55 = .ok (.istore 4, 2) := by decide +kernel
theorem kd_Y_access_57 : decode kb_Y_access 57 = .ok (.iconst 0, 1) := by decide +kernel
theorem kd_Y_access_58 : decode kb_Y_access 58 = .ok (.istore 5, 2) := by decide +kernel
theorem kd_Y_access_60 : decode kb_Y_access 60 = .ok (.iload 5, 2) := by decide +kernel
theorem kd_Y_access_62 : decode kb_Y_access 62 = .ok (.iconst 4, 1) := by decide +kernel
theorem kd_Y_access_63 : decode kb_Y_access 63 = .ok (.if_icmp .ge 43, 3) := by decide +kernel
theorem kd_Y_access_66 : decode kb_Y_access 66 = .ok (.aload_n 0, 1) := by decide +kernel
theorem kd_Y_access_67 : decode kb_Y_access 67 = .ok (.getfield 11, 3) := by decide +kernel
theorem kd_Y_access_70 : decode kb_Y_access 70 = .ok (.iload 5, 2) := by decide +kernel
theorem kd_Y_access_72 : decode kb_Y_access 72 = .ok (.aaload, 1) := by decide +kernel
theorem kd_Y_access_73 : decode kb_Y_access 73 = .ok (.astore 6, 2) := by decide +kernel
theorem kd_Y_access_75 : decode kb_Y_access 75 = .ok (.aload 6, 2) := by decide +kernel
theorem kd_Y_access_77 : decode kb_Y_access 77 = .ok (.ifnull 23, 3) := by decide +kernel
theorem kd_Y_access_80 : decode kb_Y_access 80 = .ok (.aload 6, 2) := by decide +kernel
theorem kd_Y_access_82 : decode kb_Y_access 82 = .ok (.iload_n 1, 1) := by decide +kernel
theorem kd_Y_access_83 : decode kb_Y_access 83 = .ok (.iload_n 2, 1) := by decide +kernel
theorem kd_Y_access_84 : decode kb_Y_access 84 = .ok (.iload_n 3, 1) := by decide +kernel
theorem kd_Y_access_85 : decode kb_Y_access 85 = .ok (.invokevirtual 69, 3) := by decide +kernel
theorem kd_Y_access_88 : decode kb_Y_access 88 = .ok (.ifCond .eq 12, 3) := by decide +kernel
theorem kd_Y_access_91 : decode kb_Y_access 91 = .ok (.iload 4, 2) := by decide +kernel
theorem kd_Y_access_93 : decode kb_Y_access 93 = .ok (.iconst 1, 1) := by decide +kernel
theorem kd_Y_access_94 : decode kb_Y_access 94 = .ok (.iload 5, 2) := by decide +kernel
theorem kd_Y_access_96 : decode kb_Y_access 96 = .ok (.ishl, 1) := by decide +kernel
theorem kd_Y_access_97 : decode kb_Y_access 97 = .ok (.ior, 1) := by decide +kernel
theorem kd_Y_access_98 : decode kb_Y_access 98 = .ok (.istore 4, 2) := by decide +kernel
theorem kd_Y_access_100 : decode kb_Y_access 100 = .ok (.iinc 5 1, 3) := by decide +kernel
theorem kd_Y_access_103 : decode kb_Y_access 103 = .ok (.goto (-43), 3) := by decide +kernel
theorem kd_Y_access_106 : decode kb_Y_access 106 = .ok (.iload 4, 2) := by decide +kernel
theorem kd_Y_access_108 : decode kb_Y_access 108 = .ok (.ireturn, 1) := by decide +kernel
theorem kd_W_keep_0 : decode kb_W_keep 0 = .ok (.aload_n 0, 1) := by decide +kernel
theorem kd_W_keep_1 : decode kb_W_keep 1 = .ok (.getfield 24, 3) := by decide +kernel
theorem kd_W_keep_4 : decode kb_W_keep 4 = .ok (.sipush 400, 3) := by decide +kernel
theorem kd_W_keep_7 : decode kb_W_keep 7 = .ok (.if_icmp .ge 23, 3) := by decide +kernel
theorem kd_W_keep_10 : decode kb_W_keep 10 = .ok (.aload_n 0, 1) := by decide +kernel
theorem kd_W_keep_11 : decode kb_W_keep 11 = .ok (.getfield 9, 3) := by decide +kernel
theorem kd_W_keep_14 : decode kb_W_keep 14 = .ok (.aload_n 0, 1) := by decide +kernel
theorem kd_W_keep_15 : decode kb_W_keep 15 = .ok (.getfield 24, 3) := by decide +kernel
theorem kd_W_keep_18 : decode kb_W_keep 18 = .ok (.iload_n 1, 1) := by decide +kernel
theorem kd_W_keep_19 : decode kb_W_keep 19 = .ok (.iastore, 1) := by decide +kernel
theorem kd_W_keep_20 : decode kb_W_keep 20 = .ok (.aload_n 0, 1) := by decide +kernel
theorem kd_W_keep_21 : decode kb_W_keep 21 = .ok (.dup, 1) := by decide +kernel
theorem kd_W_keep_22 : decode kb_W_keep 22 = .ok (.getfield 24, 3) := by decide +kernel
theorem kd_W_keep_25 : decode kb_W_keep 25 = .ok (.iconst 1, 1) := by decide +kernel
theorem kd_W_keep_26 : decode kb_W_keep 26 = .ok (.iadd, 1) := by decide +kernel
theorem kd_W_keep_27 : decode kb_W_keep 27 = .ok (.putfield 24, 3) := by decide +kernel
theorem kd_W_keep_30 : decode kb_W_keep 30 = .ok (.return_, 1) := by decide +kernel
theorem kd_C_sees_0 : decode kb_C_sees 0 = .ok (.iload_n 1, 1) := by decide +kernel
theorem kd_C_sees_1 : decode kb_C_sees 1 = .ok (.aload_n 0, 1) := by decide +kernel
theorem kd_C_sees_2 : decode kb_C_sees 2 = .ok (.getfield 35, 3) := by decide +kernel
theorem kd_C_sees_5 : decode kb_C_sees 5 = .ok (.ishr, 1) := by decide +kernel
theorem kd_C_sees_6 : decode kb_C_sees 6 = .ok (.istore 4, 2) := by decide +kernel
theorem kd_C_sees_8 : decode kb_C_sees 8 = .ok (.iload 4, 2) := by decide +kernel
theorem kd_C_sees_10 : decode kb_C_sees 10 = .ok (.aload_n 0, 1) := by decide +kernel
theorem kd_C_sees_11 : decode kb_C_sees 11 = .ok (.invokevirtual 53, 3) := by decide +kernel
theorem kd_C_sees_14 : decode kb_C_sees 14 = .ok (.iconst 1, 1) := by decide +kernel
theorem kd_C_sees_15 : decode kb_C_sees 15 = .ok (.isub, 1) := by decide +kernel
theorem kd_C_sees_16 : decode kb_C_sees 16 = .ok (.iand, 1) := by decide +kernel
theorem kd_C_sees_17 : decode kb_C_sees 17 = .ok (.istore 5, 2) := by decide +kernel
theorem kd_C_sees_19 : decode kb_C_sees 19 = .ok (.aload_n 0, 1) := by decide +kernel
theorem kd_C_sees_20 : decode kb_C_sees 20 = .ok (.iload 5, 2) := by decide +kernel
theorem kd_C_sees_22 : decode kb_C_sees 22 = .ok (.iload 4, 2) := by decide +kernel
theorem kd_C_sees_24 : decode kb_C_sees 24 = .ok (.invokevirtual 57, 3) := by decide +kernel
theorem kd_C_sees_27 : decode kb_C_sees 27 = .ok (.istore 6, 2) := by decide +kernel
theorem kd_C_sees_29 : decode kb_C_sees 29 = .ok (.iload 6, 2) := by decide +kernel
theorem kd_C_sees_31 : decode kb_C_sees 31 = .ok (.iconst (-1), 1) := by decide +kernel
theorem kd_C_sees_32 : decode kb_C_sees 32 = .ok (.if_icmp .eq 7, 3) := by decide +kernel
theorem kd_C_sees_35 : decode kb_C_sees 35 = .ok (.iconst 1, 1) := by decide +kernel
theorem kd_C_sees_36 : decode kb_C_sees 36 = .ok (.goto 4, 3) := by decide +kernel
theorem kd_C_sees_39 : decode kb_C_sees 39 = .ok (.iconst 0, 1) := by decide +kernel
theorem kd_C_sees_40 : decode kb_C_sees 40 = .ok (.istore 7, 2) := by decide +kernel
theorem kd_C_sees_42 : decode kb_C_sees 42 = .ok (.iload 7, 2) := by decide +kernel
theorem kd_C_sees_44 : decode kb_C_sees 44 = .ok (.ifCond .eq 16, 3) := by decide +kernel
theorem kd_C_sees_47 : decode kb_C_sees 47 = .ok (.aload_n 0, 1) := by decide +kernel
theorem kd_C_sees_48 : decode kb_C_sees 48 = .ok (.dup, 1) := by decide +kernel
theorem kd_C_sees_49 : decode kb_C_sees 49 = .ok (.getfield 38, 3) := by decide +kernel
theorem kd_C_sees_52 : decode kb_C_sees 52 = .ok (.iconst 1, 1) := by decide +kernel
theorem kd_C_sees_53 : decode kb_C_sees 53 = .ok (.iadd, 1) := by decide +kernel
theorem kd_C_sees_54 : decode kb_C_sees 54 = .ok (.putfield 38, 3) := by decide +kernel
theorem kd_C_sees_57 : decode kb_C_sees 57 = .ok (.goto 23, 3) := by decide +kernel
theorem kd_C_sees_60 : decode kb_C_sees 60 = .ok (.aload_n 0, 1) := by decide +kernel
theorem kd_C_sees_61 : decode kb_C_sees 61 = .ok (.dup, 1) := by decide +kernel
theorem kd_C_sees_62 : decode kb_C_sees 62 = .ok (.getfield 41, 3) := by decide +kernel
theorem kd_C_sees_65 : decode kb_C_sees 65 = .ok (.iconst 1, 1) := by decide +kernel
theorem kd_C_sees_66 : decode kb_C_sees 66 = .ok (.iadd, 1) := by decide +kernel
theorem kd_C_sees_67 : decode kb_C_sees 67 = .ok (.putfield 41, 3) := by decide +kernel
theorem kd_C_sees_70 : decode kb_C_sees 70 = .ok (.aload_n 0, 1) := by decide +kernel
theorem kd_C_sees_71 : decode kb_C_sees 71 = .ok (.iload 5, 2) := by decide +kernel
theorem kd_C_sees_73 : decode kb_C_sees 73 = .ok (.iload 4, 2) := by decide +kernel
theorem kd_C_sees_75 : decode kb_C_sees 75 = .ok (.invokevirtual 61, 3) := by decide +kernel
theorem kd_C_sees_78 : decode kb_C_sees 78 = .ok (.istore 6, 2) := by decide +kernel
theorem kd_C_sees_80 : decode kb_C_sees 80 = .ok (.aload_n 0, 1) := by decide +kernel
theorem kd_C_sees_81 : decode kb_C_sees 81 = .ok (.iload 5, 2) := by decide +kernel
theorem kd_C_sees_83 : decode kb_C_sees 83 = .ok (.iload 6, 2) := by decide +kernel
theorem kd_C_sees_85 : decode kb_C_sees 85 = .ok (.invokevirtual 64, 3) := by decide +kernel
theorem kd_C_sees_88 : decode kb_C_sees 88 = .ok (.istore 8, 2) := by decide +kernel
theorem kd_C_sees_90 : decode kb_C_sees 90 = .ok (.iload_n 2, 1) := by decide +kernel
theorem kd_C_sees_91 : decode kb_C_sees 91 = .ok (.ifCond .eq 11, 3) := by decide +kernel
theorem kd_C_sees_94 : decode kb_C_sees 94 = .ok (.aload_n 0, 1) := by decide +kernel
theorem kd_C_sees_95 : decode kb_C_sees 95 = .ok (.getfield 15, 3) := by decide +kernel
theorem kd_C_sees_98 : decode kb_C_sees 98 = .ok (.iload 8, 2) := by decide +kernel
theorem kd_C_sees_100 : decode kb_C_sees 100 = .ok (.iconst 1, 1) := by decide +kernel
theorem kd_C_sees_101 : decode kb_C_sees 101 = .ok (.bastore, 1) := by decide +kernel
theorem kd_C_sees_102 : decode kb_C_sees 102 = .ok (.iload 7, 2) := by decide +kernel
theorem kd_C_sees_104 : decode kb_C_sees 104 = .ok (.ifCond .eq 11, 3) := by decide +kernel
theorem kd_C_sees_107 : decode kb_C_sees 107 = .ok (.aload_n 0, 1) := by decide +kernel
theorem kd_C_sees_108 : decode kb_C_sees 108 = .ok (.getfield 32, 3) := by decide +kernel
theorem kd_C_sees_111 : decode kb_C_sees 111 = .ok (.iconst 1, 1) := by decide +kernel
theorem kd_C_sees_112 : decode kb_C_sees 112 = .ok (.if_icmp .eq 11, 3) := by decide +kernel
theorem kd_C_sees_115 : decode kb_C_sees 115 = .ok (.aload_n 0, 1) := by decide +kernel
theorem kd_C_sees_116 : decode kb_C_sees 116 = .ok (.getfield 19, 3) := by decide +kernel
theorem kd_C_sees_119 : decode kb_C_sees 119 = .ok (.iload 8, 2) := by decide +kernel
theorem kd_C_sees_121 : decode kb_C_sees 121 = .ok (.iload_n 3, 1) := by decide +kernel
theorem kd_C_sees_122 : decode kb_C_sees 122 = .ok (.iastore, 1) := by decide +kernel
theorem kd_C_sees_123 : decode kb_C_sees 123 = .ok (.aload_n 0, 1) := by decide +kernel
theorem kd_C_sees_124 : decode kb_C_sees 124 = .ok (.getfield 32, 3) := by decide +kernel
theorem kd_C_sees_127 : decode kb_C_sees 127 = .ok (.iconst 2, 1) := by decide +kernel
theorem kd_C_sees_128 : decode kb_C_sees 128 = .ok (.if_icmp .ne 11, 3) := by decide +kernel
theorem kd_C_sees_131 : decode kb_C_sees 131 = .ok (.aload_n 0, 1) := by decide +kernel
theorem kd_C_sees_132 : decode kb_C_sees 132 = .ok (.iload 5, 2) := by decide +kernel
theorem kd_C_sees_134 : decode kb_C_sees 134 = .ok (.iload 6, 2) := by decide +kernel
theorem kd_C_sees_136 : decode kb_C_sees 136 = .ok (.invokevirtual 67, 3) := by decide +kernel
theorem kd_C_sees_139 : decode kb_C_sees 139 = .ok (.iload 7, 2) := by decide +kernel
theorem kd_C_sees_141 : decode kb_C_sees 141 = .ok (.ireturn, 1) := by decide +kernel
theorem kd_C_countSets_0 : decode kb_C_countSets 0 = .ok (.iconst 1, 1) := by decide +kernel
theorem kd_C_countSets_1 : decode kb_C_countSets 1 = .ok (.aload_n 0, 1) := by decide +kernel
theorem kd_C_countSets_2 : decode kb_C_countSets 2 = .ok (.getfield 25, 3) := by decide +kernel
theorem kd_C_countSets_5 : decode kb_C_countSets 5 = .ok (.ishl, 1) := by decide +kernel
theorem kd_C_countSets_6 : decode kb_C_countSets 6 = .ok (.ireturn, 1) := by decide +kernel
theorem kd_C_findPlace_0 : decode kb_C_findPlace 0 = .ok (.iconst 0, 1) := by decide +kernel
theorem kd_C_findPlace_1 : decode kb_C_findPlace 1 = .ok (.istore_n 3, 1) := by decide +kernel
theorem kd_C_findPlace_2 : decode kb_C_findPlace 2 = .ok (.iload_n 3, 1) := by decide +kernel
theorem kd_C_findPlace_3 : decode kb_C_findPlace 3 = .ok (.aload_n 0, 1) := by decide +kernel
theorem kd_C_findPlace_4 : decode kb_C_findPlace 4 = .ok (.getfield 29, 3) := by decide +kernel
theorem kd_C_findPlace_7 : decode kb_C_findPlace 7 = .ok (.if_icmp .ge 21, 3) := by decide +kernel
theorem kd_C_findPlace_10 : decode kb_C_findPlace 10 = .ok (.aload_n 0, 1) := by decide +kernel
theorem kd_C_findPlace_11 : decode kb_C_findPlace 11 = .ok (.iload_n 1, 1) := by decide +kernel
theorem kd_C_findPlace_12 : decode kb_C_findPlace 12 = .ok (.iload_n 3, 1) := by decide +kernel
theorem kd_C_findPlace_13 : decode kb_C_findPlace 13 = .ok (.invokevirtual 74, 3) := by decide +kernel
theorem kd_C_findPlace_16 : decode kb_C_findPlace 16 = .ok (.iload_n 2, 1) := by decide +kernel
theorem kd_C_findPlace_17 : decode kb_C_findPlace 17 = .ok (.if_icmp .ne 5, 3) := by decide +kernel
theorem kd_C_findPlace_20 : decode kb_C_findPlace 20 = .ok (.iload_n 3, 1) := by decide +kernel
theorem kd_C_findPlace_21 : decode kb_C_findPlace 21 = .ok (.ireturn, 1) := by decide +kernel
theorem kd_C_findPlace_22 : decode kb_C_findPlace 22 = .ok (.iinc 3 1, 3) := by decide +kernel
theorem kd_C_findPlace_25 : decode kb_C_findPlace 25 = .ok (.goto (-23), 3) := by decide +kernel
theorem kd_C_findPlace_28 : decode kb_C_findPlace 28 = .ok (.iconst (-1), 1) := by decide +kernel
theorem kd_C_findPlace_29 : decode kb_C_findPlace 29 = .ok (.ireturn, 1) := by decide +kernel
theorem kd_C_blockAt_0 : decode kb_C_blockAt 0 = .ok (.aload_n 0, 1) := by decide +kernel
theorem kd_C_blockAt_1 : decode kb_C_blockAt 1 = .ok (.getfield 9, 3) := by decide +kernel
theorem kd_C_blockAt_4 : decode kb_C_blockAt 4 = .ok (.aload_n 0, 1) := by decide +kernel
theorem kd_C_blockAt_5 : decode kb_C_blockAt 5 = .ok (.iload_n 1, 1) := by decide +kernel
theorem kd_C_blockAt_6 : decode kb_C_blockAt 6 = .ok (.iload_n 2, 1) := by decide +kernel
theorem kd_C_blockAt_7 : decode kb_C_blockAt 7 = .ok (.invokevirtual 64, 3) := by decide +kernel
theorem kd_C_blockAt_10 : decode kb_C_blockAt 10 = .ok (.iaload, 1) := by decide +kernel
theorem kd_C_blockAt_11 : decode kb_C_blockAt 11 = .ok (.ireturn, 1) := by decide +kernel
theorem kd_C_slotOf_0 : decode kb_C_slotOf 0 = .ok (.iload_n 1, 1) := by decide +kernel
theorem kd_C_slotOf_1 : decode kb_C_slotOf 1 = .ok (.aload_n 0, 1) := by decide +kernel
theorem kd_C_slotOf_2 : decode kb_C_slotOf 2 = .ok (.getfield 29, 3) := by decide +kernel
theorem kd_C_slotOf_5 : decode kb_C_slotOf 5 = .ok (.imul, 1) := by decide +kernel
theorem kd_C_slotOf_6 : decode kb_C_slotOf 6 = .ok (.iload_n 2, 1) := by decide +kernel
theorem kd_C_slotOf_7 : decode kb_C_slotOf 7 = .ok (.iadd, 1) := by decide +kernel
theorem kd_C_slotOf_8 : decode kb_C_slotOf 8 = .ok (.ireturn, 1) := by decide +kernel
theorem kd_C_bringIn_0 : decode kb_C_bringIn 0 = .ok (.aload_n 0, 1) := by decide +kernel
theorem kd_C_bringIn_1 : decode kb_C_bringIn 1 = .ok (.iload_n 1, 1) := by decide +kernel
theorem kd_C_bringIn_2 : decode kb_C_bringIn 2 = .ok (.iconst (-1), 1) := by decide +kernel
theorem kd_C_bringIn_3 : decode kb_C_bringIn 3 = .ok (.invokevirtual 57, 3) := by decide +kernel
theorem kd_C_bringIn_6 : decode kb_C_bringIn 6 = .ok (.istore_n 3, 1) := by decide +kernel
theorem kd_C_bringIn_7 : decode kb_C_bringIn 7 = .ok (.iload_n 3, 1) := by decide +kernel
theorem kd_C_bringIn_8 : decode kb_C_bringIn 8 = .ok (.iconst (-1), 1) := by decide +kernel
theorem kd_C_bringIn_9 : decode kb_C_bringIn 9 = .ok (.if_icmp .ne 54, 3) := by decide +kernel
theorem kd_C_bringIn_12 : decode kb_C_bringIn 12 = .ok (.aload_n 0, 1) := by decide +kernel
theorem kd_C_bringIn_13 : decode kb_C_bringIn 13 = .ok (.getfield 32, 3) := by decide +kernel
theorem kd_C_bringIn_16 : decode kb_C_bringIn 16 = .ok (.iconst 2, 1) := by decide +kernel
theorem kd_C_bringIn_17 : decode kb_C_bringIn 17 = .ok (.if_icmp .ne 11, 3) := by decide +kernel
theorem kd_C_bringIn_20 : decode kb_C_bringIn 20 = .ok (.aload_n 0, 1) := by decide +kernel
theorem kd_C_bringIn_21 : decode kb_C_bringIn 21 = .ok (.iload_n 1, 1) := by decide +kernel
theorem kd_C_bringIn_22 : decode kb_C_bringIn 22 = .ok (.invokevirtual 77, 3) := by decide +kernel
theorem kd_C_bringIn_25 : decode kb_C_bringIn 25 = .ok (.goto 8, 3) := by decide +kernel
theorem kd_C_bringIn_28 : decode kb_C_bringIn 28 = .ok (.aload_n 0, 1) := by decide +kernel
theorem kd_C_bringIn_29 : decode kb_C_bringIn 29 = .ok (.iload_n 1, 1) := by decide +kernel
theorem kd_C_bringIn_30 : decode kb_C_bringIn 30 = .ok (.invokevirtual 81, 3) := by decide +kernel
theorem kd_C_bringIn_33 : decode kb_C_bringIn 33 = .ok (.istore_n 3, 1) := by decide +kernel
theorem kd_C_bringIn_34 : decode kb_C_bringIn 34 = .ok (.aload_n 0, 1) := by decide +kernel
theorem kd_C_bringIn_35 : decode kb_C_bringIn 35 = .ok (.dup, 1) := by decide +kernel
theorem kd_C_bringIn_36 : decode kb_C_bringIn 36 = .ok (.getfield 44, 3) := by decide +kernel
theorem kd_C_bringIn_39 : decode kb_C_bringIn 39 = .ok (.iconst 1, 1) := by decide +kernel
theorem kd_C_bringIn_40 : decode kb_C_bringIn 40 = .ok (.iadd, 1) := by decide +kernel
theorem kd_C_bringIn_41 : decode kb_C_bringIn 41 = .ok (.putfield 44, 3) := by decide +kernel
theorem kd_C_bringIn_44 : decode kb_C_bringIn 44 = .ok (.aload_n 0, 1) := by decide +kernel
theorem kd_C_bringIn_45 : decode kb_C_bringIn 45 = .ok (.iload_n 1, 1) := by decide +kernel
theorem kd_C_bringIn_46 : decode kb_C_bringIn 46 = .ok (.iload_n 3, 1) := by decide +kernel
theorem kd_C_bringIn_47 : decode kb_C_bringIn 47 = .ok (.invokevirtual 84, 3) := by decide +kernel
theorem kd_C_bringIn_50 : decode kb_C_bringIn 50 = .ok (.ifCond .eq 13, 3) := by decide +kernel
theorem kd_C_bringIn_53 : decode kb_C_bringIn 53 = .ok (.aload_n 0, 1) := by decide +kernel
theorem kd_C_bringIn_54 : decode kb_C_bringIn 54 = .ok (.dup, 1) := by decide +kernel
theorem kd_C_bringIn_55 : decode kb_C_bringIn 55 = .ok (.getfield 47, 3) := by decide +kernel
theorem kd_C_bringIn_58 : decode kb_C_bringIn 58 = .ok (.iconst 1, 1) := by decide +kernel
theorem kd_C_bringIn_59 : decode kb_C_bringIn 59 = .ok (.iadd, 1) := by decide +kernel
theorem kd_C_bringIn_60 : decode kb_C_bringIn 60 = .ok (.putfield 47, 3) := by decide +kernel
theorem kd_C_bringIn_63 : decode kb_C_bringIn 63 = .ok (.aload_n 0, 1) := by decide +kernel
theorem kd_C_bringIn_64 : decode kb_C_bringIn 64 = .ok (.iload_n 1, 1) := by decide +kernel
theorem kd_C_bringIn_65 : decode kb_C_bringIn 65 = .ok (.iload_n 3, 1) := by decide +kernel
theorem kd_C_bringIn_66 : decode kb_C_bringIn 66 = .ok (.invokevirtual 64, 3) := by decide +kernel
theorem kd_C_bringIn_69 : decode kb_C_bringIn 69 = .ok (.istore 4, 2) := by decide +kernel
theorem kd_C_bringIn_71 : decode kb_C_bringIn 71 = .ok (.aload_n 0, 1) := by decide +kernel
theorem kd_C_bringIn_72 : decode kb_C_bringIn 72 = .ok (.getfield 9, 3) := by decide +kernel
theorem kd_C_bringIn_75 : decode kb_C_bringIn 75 = .ok (.iload 4, 2) := by decide +kernel
theorem kd_C_bringIn_77 : decode kb_C_bringIn 77 = .ok (.iload_n 2, 1) := by decide +kernel
theorem kd_C_bringIn_78 : decode kb_C_bringIn 78 = .ok (.iastore, 1) := by decide +kernel
theorem kd_C_bringIn_79 : decode kb_C_bringIn 79 = .ok (.aload_n 0, 1) := by decide +kernel
theorem kd_C_bringIn_80 : decode kb_C_bringIn 80 = .ok (.getfield 15, 3) := by decide +kernel
theorem kd_C_bringIn_83 : decode kb_C_bringIn 83 = .ok (.iload 4, 2) := by decide +kernel
theorem kd_C_bringIn_85 : decode kb_C_bringIn 85 = .ok (.iconst 0, 1) := by decide +kernel
theorem kd_C_bringIn_86 : decode kb_C_bringIn 86 = .ok (.bastore, 1) := by decide +kernel
theorem kd_C_bringIn_87 : decode kb_C_bringIn 87 = .ok (.iload_n 3, 1) := by decide +kernel
theorem kd_C_bringIn_88 : decode kb_C_bringIn 88 = .ok (.ireturn, 1) := by decide +kernel
theorem kd_C_pointedPlace_0 : decode kb_C_pointedPlace 0 = .ok (.aload_n 0, 1) := by decide +kernel
theorem kd_C_pointedPlace_1 : decode kb_C_pointedPlace 1 = .ok (.getfield 22, 3) := by decide +kernel
theorem kd_C_pointedPlace_4 : decode kb_C_pointedPlace 4 = .ok (.iload_n 1, 1) := by decide +kernel
theorem kd_C_pointedPlace_5 : decode kb_C_pointedPlace 5 = .ok (.iaload, 1) := by decide +kernel
theorem kd_C_pointedPlace_6 : decode kb_C_pointedPlace 6 = .ok (.istore_n 2, 1) := by decide +kernel
theorem kd_C_pointedPlace_7 : decode kb_C_pointedPlace 7 = .ok (.iconst 1, 1) := by decide +kernel
theorem kd_C_pointedPlace_8 : decode kb_C_pointedPlace 8 = .ok (.istore_n 3, 1) := by decide +kernel
theorem kd_C_pointedPlace_9 : decode kb_C_pointedPlace 9 = .ok (.iconst 0, 1) := by decide +kernel
theorem kd_C_pointedPlace_10 : decode kb_C_pointedPlace 10 = .ok (.istore 4, 2) := by decide +kernel
theorem kd_C_pointedPlace_12 : decode kb_C_pointedPlace 12 = .ok (.aload_n 0, 1) := by decide +kernel
theorem kd_C_pointedPlace_13 : decode kb_C_pointedPlace 13 = .ok (.getfield 29, 3) := by decide +kernel
theorem kd_C_pointedPlace_16 : decode kb_C_pointedPlace 16 = .ok (.iconst 1, 1) := by decide +kernel
theorem kd_C_pointedPlace_17 : decode kb_C_pointedPlace 17 = .ok (.ishr, 1) := by decide +kernel
theorem kd_C_pointedPlace_18 : decode kb_C_pointedPlace 18 = .ok (.istore 5, 2) := by decide +kernel
theorem kd_C_pointedPlace_20 : decode kb_C_pointedPlace 20 = .ok (.iload 5, 2) := by decide +kernel
theorem kd_C_pointedPlace_22 : decode kb_C_pointedPlace 22 = .ok (.ifCond .le 36, 3) := by decide +kernel
theorem kd_C_pointedPlace_25 : decode kb_C_pointedPlace 25 = .ok (.iload_n 2, 1) := by decide +kernel
theorem kd_C_pointedPlace_26 : decode kb_C_pointedPlace 26 = .ok (.iload_n 3, 1) := by decide +kernel
theorem kd_C_pointedPlace_27 : decode kb_C_pointedPlace 27 = .ok (.ishr, 1) := by decide +kernel
theorem kd_C_pointedPlace_28 : decode kb_C_pointedPlace 28 = .ok (.iconst 1, 1) := by decide +kernel
theorem kd_C_pointedPlace_29 : decode kb_C_pointedPlace 29 = .ok (.iand, 1) := by decide +kernel
theorem kd_C_pointedPlace_30 : decode kb_C_pointedPlace 30 = .ok (.istore 6, 2) := by decide +kernel
theorem kd_C_pointedPlace_32 : decode kb_C_pointedPlace 32 = .ok (.iload 4, 2) := by decide +kernel
theorem kd_C_pointedPlace_34 : decode kb_C_pointedPlace 34 = .ok (.iload 6, 2) := by decide +kernel
theorem kd_C_pointedPlace_36 : decode kb_C_pointedPlace 36 = .ok (.iload 5, 2) := by decide +kernel
theorem kd_C_pointedPlace_38 : decode kb_C_pointedPlace 38 = .ok (.imul, 1) := by decide +kernel
theorem kd_C_pointedPlace_39 : decode kb_C_pointedPlace 39 = .ok (.iadd, 1) := by decide +kernel
theorem kd_C_pointedPlace_40 : decode kb_C_pointedPlace 40 = .ok (.istore 4, 2) := by decide +kernel
theorem kd_C_pointedPlace_42 : decode kb_C_pointedPlace 42 = .ok (.iconst 2, 1) := by decide +kernel
theorem kd_C_pointedPlace_43 : decode kb_C_pointedPlace 43 = .ok (.iload_n 3, 1) := by decide +kernel
theorem kd_C_pointedPlace_44 : decode kb_C_pointedPlace 44 = .ok (.imul, 1) := by decide +kernel
theorem kd_C_pointedPlace_45 : decode kb_C_pointedPlace 45 = .ok (.iload 6, 2) := by decide +kernel
theorem kd_C_pointedPlace_47 : decode kb_C_pointedPlace 47 = .ok (.iadd, 1) := by decide +kernel
theorem kd_C_pointedPlace_48 : decode kb_C_pointedPlace 48 = .ok (.istore_n 3, 1) := by decide +kernel
theorem kd_C_pointedPlace_49 : decode kb_C_pointedPlace 49 = .ok (.iload 5, 2) := by decide +kernel
theorem kd_C_pointedPlace_51 : decode kb_C_pointedPlace 51 = .ok (.iconst 1, 1) := by decide +kernel
theorem kd_C_pointedPlace_52 : decode kb_C_pointedPlace 52 = .ok (.ishr, 1) := by decide +kernel
theorem kd_C_pointedPlace_53 : decode kb_C_pointedPlace 53 = .ok (.istore 5, 2) := by decide +kernel
theorem kd_C_pointedPlace_55 : decode kb_C_pointedPlace 55 = .ok (.goto (-35), 3) := by decide +kernel
theorem kd_C_pointedPlace_58 : decode kb_C_pointedPlace 58 = .ok (.iload 4, 2) := by decide +kernel
theorem kd_C_pointedPlace_60 : decode kb_C_pointedPlace 60 = .ok (.ireturn, 1) := by decide +kernel
theorem kd_C_oldestPlace_0 : decode kb_C_oldestPlace 0 = .ok (.iconst 0, 1) := by decide +kernel
theorem kd_C_oldestPlace_1 : decode kb_C_oldestPlace 1 = .ok (.istore_n 2, 1) := by decide +kernel
theorem kd_C_oldestPlace_2 : decode kb_C_oldestPlace 2 = .ok (.iconst 1, 1) := by decide +kernel
theorem kd_C_oldestPlace_3 : decode kb_C_oldestPlace 3 = .ok (.istore_n 3, 1) := by decide +kernel
theorem kd_C_oldestPlace_4 : decode kb_C_oldestPlace 4 = .ok (.iload_n 3, 1) := by decide +kernel
theorem kd_C_oldestPlace_5 : decode kb_C_oldestPlace 5 = .ok (.aload_n 0, 1) := by decide +kernel
theorem kd_C_oldestPlace_6 : decode kb_C_oldestPlace 6 = .ok (.getfield 29, 3) := by decide +kernel
theorem kd_C_oldestPlace_9 : decode kb_C_oldestPlace 9 = .ok (.if_icmp .ge 36, 3) := by decide +kernel
theorem kd_C_oldestPlace_12 : decode kb_C_oldestPlace 12 = .ok (.aload_n 0, 1) := by decide +kernel
theorem kd_C_oldestPlace_13 : decode kb_C_oldestPlace 13 = .ok (.getfield 19, 3) := by decide +kernel
theorem kd_C_oldestPlace_16 : decode kb_C_oldestPlace 16 = .ok (.aload_n 0, 1) := by decide +kernel
theorem kd_C_oldestPlace_17 : decode kb_C_oldestPlace 17 = .ok (.iload_n 1, 1) := by decide +kernel
theorem kd_C_oldestPlace_18 : decode kb_C_oldestPlace 18 = .ok (.iload_n 3, 1) := by decide +kernel
theorem kd_C_oldestPlace_19 : decode kb_C_oldestPlace 19 = .ok (.invokevirtual 64, 3) := by decide +kernel
theorem kd_C_oldestPlace_22 : decode kb_C_oldestPlace 22 = .ok (.iaload, 1) := by decide +kernel
theorem kd_C_oldestPlace_23 : decode kb_C_oldestPlace 23 = .ok (.aload_n 0, 1) := by decide +kernel
theorem kd_C_oldestPlace_24 : decode kb_C_oldestPlace 24 = .ok (.getfield 19, 3) := by decide +kernel
theorem kd_C_oldestPlace_27 : decode kb_C_oldestPlace 27 = .ok (.aload_n 0, 1) := by decide +kernel
theorem kd_C_oldestPlace_28 : decode kb_C_oldestPlace 28 = .ok (.iload_n 1, 1) := by decide +kernel
theorem kd_C_oldestPlace_29 : decode kb_C_oldestPlace 29 = .ok (.iload_n 2, 1) := by decide +kernel
theorem kd_C_oldestPlace_30 : decode kb_C_oldestPlace 30 = .ok (.invokevirtual 64, 3) := by decide +kernel
theorem kd_C_oldestPlace_33 : decode kb_C_oldestPlace 33 = .ok (.iaload, 1) := by decide +kernel
theorem kd_C_oldestPlace_34 : decode kb_C_oldestPlace 34 = .ok (.if_icmp .ge 5, 3) := by decide +kernel
theorem kd_C_oldestPlace_37 : decode kb_C_oldestPlace 37 = .ok (.iload_n 3, 1) := by decide +kernel
theorem kd_C_oldestPlace_38 : decode kb_C_oldestPlace 38 = .ok (.istore_n 2, 1) := by decide +kernel
theorem kd_C_oldestPlace_39 : decode kb_C_oldestPlace 39 = .ok (.iinc 3 1, 3) := by decide +kernel
theorem kd_C_oldestPlace_42 : decode kb_C_oldestPlace 42 = .ok (.goto (-38), 3) := by decide +kernel
theorem kd_C_oldestPlace_45 : decode kb_C_oldestPlace 45 = .ok (.iload_n 2, 1) := by decide +kernel
theorem kd_C_oldestPlace_46 : decode kb_C_oldestPlace 46 = .ok (.ireturn, 1) := by decide +kernel
theorem kd_C_isDirtyAt_0 : decode kb_C_isDirtyAt 0 = .ok (.aload_n 0, 1) := by decide +kernel
theorem kd_C_isDirtyAt_1 : decode kb_C_isDirtyAt 1 = .ok (.getfield 15, 3) := by decide +kernel
theorem kd_C_isDirtyAt_4 : decode kb_C_isDirtyAt 4 = .ok (.aload_n 0, 1) := by decide +kernel
theorem kd_C_isDirtyAt_5 : decode kb_C_isDirtyAt 5 = .ok (.iload_n 1, 1) := by decide +kernel
theorem kd_C_isDirtyAt_6 : decode kb_C_isDirtyAt 6 = .ok (.iload_n 2, 1) := by decide +kernel
theorem kd_C_isDirtyAt_7 : decode kb_C_isDirtyAt 7 = .ok (.invokevirtual 64, 3) := by decide +kernel
theorem kd_C_isDirtyAt_10 : decode kb_C_isDirtyAt 10 = .ok (.baload, 1) := by decide +kernel
theorem kd_C_isDirtyAt_11 : decode kb_C_isDirtyAt 11 = .ok (.ireturn, 1) := by decide +kernel
theorem kd_C_pointAway_0 : decode kb_C_pointAway 0 = .ok (.aload_n 0, 1) := by decide +kernel
theorem kd_C_pointAway_1 : decode kb_C_pointAway 1 = .ok (.getfield 22, 3) := by decide +kernel
theorem kd_C_pointAway_4 : decode kb_C_pointAway 4 = .ok (.iload_n 1, 1) := by decide +kernel
theorem kd_C_pointAway_5 : decode kb_C_pointAway 5 = .ok (.iaload, 1) := by decide +kernel
theorem kd_C_pointAway_6 : decode kb_C_pointAway 6 = .ok (.istore_n 3, 1) := by decide +kernel
theorem kd_C_pointAway_7 : decode kb_C_pointAway 7 = .ok (.iconst 1, 1) := by decide +kernel
theorem kd_C_pointAway_8 : decode kb_C_pointAway 8 = .ok (.istore 4, 2) := by decide +kernel
theorem kd_C_pointAway_10 : decode kb_C_pointAway 10 = .ok (.aload_n 0, 1) := by decide +kernel
theorem kd_C_pointAway_11 : decode kb_C_pointAway 11 = .ok (.getfield 29, 3) := by decide +kernel
theorem kd_C_pointAway_14 : decode kb_C_pointAway 14 = .ok (.iconst 1, 1) := by decide +kernel
theorem kd_C_pointAway_15 : decode kb_C_pointAway 15 = .ok (.ishr, 1) := by decide +kernel
theorem kd_C_pointAway_16 : decode kb_C_pointAway 16 = .ok (.istore 5, 2) := by decide +kernel
theorem kd_C_pointAway_18 : decode kb_C_pointAway 18 = .ok (.iload 5, 2) := by decide +kernel
theorem kd_C_pointAway_20 : decode kb_C_pointAway 20 = .ok (.ifCond .le 52, 3) := by decide +kernel
theorem kd_C_pointAway_23 : decode kb_C_pointAway 23 = .ok (.iload_n 2, 1) := by decide +kernel
theorem kd_C_pointAway_24 : decode kb_C_pointAway 24 = .ok (.iload 5, 2) := by decide +kernel
theorem kd_C_pointAway_26 : decode kb_C_pointAway 26 = .ok (.iand, 1) := by decide +kernel
theorem kd_C_pointAway_27 : decode kb_C_pointAway 27 = .ok (.ifCond .eq 23, 3) := by decide +kernel
theorem kd_C_pointAway_30 : decode kb_C_pointAway 30 = .ok (.iload_n 3, 1) := by decide +kernel
theorem kd_C_pointAway_31 : decode kb_C_pointAway 31 = .ok (.iconst 1, 1) := by decide +kernel
theorem kd_C_pointAway_32 : decode kb_C_pointAway 32 = .ok (.iload 4, 2) := by decide +kernel
theorem kd_C_pointAway_34 : decode kb_C_pointAway 34 = .ok (.ishl, 1) := by decide +kernel
theorem kd_C_pointAway_35 : decode kb_C_pointAway 35 = .ok (.iconst (-1), 1) := by decide +kernel
theorem kd_C_pointAway_36 : decode kb_C_pointAway 36 = .ok (.ixor, 1) := by decide +kernel
theorem kd_C_pointAway_37 : decode kb_C_pointAway 37 = .ok (.iand, 1) := by decide +kernel
theorem kd_C_pointAway_38 : decode kb_C_pointAway 38 = .ok (.istore_n 3, 1) := by decide +kernel
theorem kd_C_pointAway_39 : decode kb_C_pointAway 39 = .ok (.iconst 2, 1) := by decide +kernel
theorem kd_C_pointAway_40 : decode kb_C_pointAway 40 = .ok (.iload 4, 2) := by decide +kernel
theorem kd_C_pointAway_42 : decode kb_C_pointAway 42 = .ok (.imul, 1) := by decide +kernel
theorem kd_C_pointAway_43 : decode kb_C_pointAway 43 = .ok (.iconst 1, 1) := by decide +kernel
theorem kd_C_pointAway_44 : decode kb_C_pointAway 44 = .ok (.iadd, 1) := by decide +kernel
theorem kd_C_pointAway_45 : decode kb_C_pointAway 45 = .ok (.istore 4, 2) := by decide +kernel
theorem kd_C_pointAway_47 : decode kb_C_pointAway 47 = .ok (.goto 16, 3) := by decide +kernel
theorem kd_C_pointAway_50 : decode kb_C_pointAway 50 = .ok (.iload_n 3, 1) := by decide +kernel
theorem kd_C_pointAway_51 : decode kb_C_pointAway 51 = .ok (.iconst 1, 1) := by decide +kernel
theorem kd_C_pointAway_52 : decode kb_C_pointAway 52 = .ok (.iload 4, 2) := by decide +kernel
theorem kd_C_pointAway_54 : decode kb_C_pointAway 54 = .ok (.ishl, 1) := by decide +kernel
theorem kd_C_pointAway_55 : decode kb_C_pointAway 55 = .ok (.ior, 1) := by decide +kernel
theorem kd_C_pointAway_56 : decode kb_C_pointAway 56 = .ok (.istore_n 3, 1) := by decide +kernel
theorem kd_C_pointAway_57 : decode kb_C_pointAway 57 = .ok (.iconst 2, 1) := by decide +kernel
theorem kd_C_pointAway_58 : decode kb_C_pointAway 58 = .ok (.iload 4, 2) := by decide +kernel
theorem kd_C_pointAway_60 : decode kb_C_pointAway 60 = .ok (.imul, 1) := by decide +kernel
theorem kd_C_pointAway_61 : decode kb_C_pointAway 61 = .ok (.istore 4, 2) := by decide +kernel
theorem kd_C_pointAway_63 : decode kb_C_pointAway 63 = .ok (.iload 5, 2) := by decide +kernel
theorem kd_C_pointAway_65 : decode kb_C_pointAway 65 = .ok (.iconst 1, 1) := by decide +kernel
theorem kd_C_pointAway_66 : decode kb_C_pointAway 66 = .ok (.ishr, 1) := by decide +kernel
theorem kd_C_pointAway_67 : decode kb_C_pointAway 67 = .ok (.istore 5, 2) := by decide +kernel
theorem kd_C_pointAway_69 : decode kb_C_pointAway 69 = .ok (.goto (-51), 3) := by decide +kernel
theorem kd_C_pointAway_72 : decode kb_C_pointAway 72 = .ok (.aload_n 0, 1) := by decide +kernel
theorem kd_C_pointAway_73 : decode kb_C_pointAway 73 = .ok (.getfield 22, 3) := by decide +kernel
theorem kd_C_pointAway_76 : decode kb_C_pointAway 76 = .ok (.iload_n 1, 1) := by decide +kernel
theorem kd_C_pointAway_77 : decode kb_C_pointAway 77 = .ok (.iload_n 3, 1) := by decide +kernel
theorem kd_C_pointAway_78 : decode kb_C_pointAway 78 = .ok (.iastore, 1) := by decide +kernel
theorem kd_C_pointAway_79 : decode kb_C_pointAway 79 = .ok (.return_, 1) := by decide +kernel
theorem kd_Y_flush_0 : decode kb_Y_flush 0 = .ok (.aload_n 0, 1) := by decide +kernel
theorem kd_Y_flush_1 : decode kb_Y_flush 1 = .ok (.iload_n 1, 1) := by decide +kernel
theorem kd_Y_flush_2 : decode kb_Y_flush 2 = .ok (.invokevirtual 73, 3) := by decide +kernel
theorem kd_Y_flush_5 : decode kb_Y_flush 5 = .ok (.invokevirtual 77, 3) := by decide +kernel
theorem kd_Y_flush_8 : decode kb_Y_flush 8 = .ok (.ireturn, 1) := by decide +kernel
theorem kd_Y_madeCache_0 : decode kb_Y_madeCache 0 = .ok (.iload_n 1, 1) := by decide +kernel
theorem kd_Y_madeCache_1 : decode kb_Y_madeCache 1 = .ok (.ifCond .lt 8, 3) := by decide +kernel
theorem kd_Y_madeCache_4 : decode kb_Y_madeCache 4 = .ok (.iload_n 1, 1) := by decide +kernel
theorem kd_Y_madeCache_5 : decode kb_Y_madeCache 5 = .ok (.iconst 4, 1) := by decide +kernel
theorem kd_Y_madeCache_6 : decode kb_Y_madeCache 6 = .ok (.if_icmp .lt 13, 3) := by decide +kernel
theorem kd_Y_madeCache_9 : decode kb_Y_madeCache 9 = .ok (.new 127, 3) := by decide +kernel
theorem kd_Y_madeCache_12 : decode kb_Y_madeCache 12 = .ok (.dup, 1) := by decide +kernel
theorem kd_Y_madeCache_13 : decode kb_Y_madeCache 13 = .ok (.ldc 24, 2) := by decide +kernel
theorem kd_Y_madeCache_15 : decode kb_Y_madeCache 15 = .ok (.invokespecial 129, 3) := by decide +kernel
theorem kd_Y_madeCache_18 : decode kb_Y_madeCache 18 = .ok (.athrow, 1) := by decide +kernel
theorem kd_Y_madeCache_19 : decode kb_Y_madeCache 19 = .ok (.aload_n 0, 1) := by decide +kernel
theorem kd_Y_madeCache_20 : decode kb_Y_madeCache 20 = .ok (.getfield 11, 3) := by decide +kernel
theorem kd_Y_madeCache_23 : decode kb_Y_madeCache 23 = .ok (.iload_n 1, 1) := by decide +kernel
theorem kd_Y_madeCache_24 : decode kb_Y_madeCache 24 = .ok (.aaload, 1) := by decide +kernel
theorem kd_Y_madeCache_25 : decode kb_Y_madeCache 25 = .ok (.astore_n 2, 1) := by decide +kernel
theorem kd_Y_madeCache_26 : decode kb_Y_madeCache 26 = .ok (.aload_n 2, 1) := by decide +kernel
theorem kd_Y_madeCache_27 : decode kb_Y_madeCache 27 = .ok (.ifnonnull 13, 3) := by decide +kernel
theorem kd_Y_madeCache_30 : decode kb_Y_madeCache 30 = .ok (.new 127, 3) := by decide +kernel
theorem kd_Y_madeCache_33 : decode kb_Y_madeCache 33 = .ok (.dup, 1) := by decide +kernel
theorem kd_Y_madeCache_34 : decode kb_Y_madeCache 34 = .ok (.ldc 130, 2) := by decide +kernel
theorem kd_Y_madeCache_36 : decode kb_Y_madeCache 36 = .ok (.invokespecial 129, 3) := by decide +kernel
theorem kd_Y_madeCache_39 : decode kb_Y_madeCache 39 = .ok (.athrow, 1) := by decide +kernel
theorem kd_Y_madeCache_40 : decode kb_Y_madeCache 40 = .ok (.aload_n 2, 1) := by decide +kernel
theorem kd_Y_madeCache_41 : decode kb_Y_madeCache 41 = .ok (.areturn, 1) := by decide +kernel
theorem kd_C_letAllGo_0 : decode kb_C_letAllGo 0 = .ok (.aload_n 0, 1) := by decide +kernel
theorem kd_C_letAllGo_1 : decode kb_C_letAllGo 1 = .ok (.invokevirtual 71, 3) := by decide +kernel
theorem kd_C_letAllGo_4 : decode kb_C_letAllGo 4 = .ok (.istore_n 1, 1) := by decide +kernel
theorem kd_C_letAllGo_5 : decode kb_C_letAllGo 5 = .ok (.aload_n 0, 1) := by decide +kernel
theorem kd_C_letAllGo_6 : decode kb_C_letAllGo 6 = .ok (.dup, 1) := by decide +kernel
theorem kd_C_letAllGo_7 : decode kb_C_letAllGo 7 = .ok (.getfield 47, 3) := by decide +kernel
theorem kd_C_letAllGo_10 : decode kb_C_letAllGo 10 = .ok (.iload_n 1, 1) := by decide +kernel
theorem kd_C_letAllGo_11 : decode kb_C_letAllGo 11 = .ok (.iadd, 1) := by decide +kernel
theorem kd_C_letAllGo_12 : decode kb_C_letAllGo 12 = .ok (.putfield 47, 3) := by decide +kernel
theorem kd_C_letAllGo_15 : decode kb_C_letAllGo 15 = .ok (.aload_n 0, 1) := by decide +kernel
theorem kd_C_letAllGo_16 : decode kb_C_letAllGo 16 = .ok (.invokevirtual 50, 3) := by decide +kernel
theorem kd_C_letAllGo_19 : decode kb_C_letAllGo 19 = .ok (.iload_n 1, 1) := by decide +kernel
theorem kd_C_letAllGo_20 : decode kb_C_letAllGo 20 = .ok (.ireturn, 1) := by decide +kernel
theorem kd_C_countDirty_0 : decode kb_C_countDirty 0 = .ok (.iconst 0, 1) := by decide +kernel
theorem kd_C_countDirty_1 : decode kb_C_countDirty 1 = .ok (.istore_n 1, 1) := by decide +kernel
theorem kd_C_countDirty_2 : decode kb_C_countDirty 2 = .ok (.iconst 0, 1) := by decide +kernel
theorem kd_C_countDirty_3 : decode kb_C_countDirty 3 = .ok (.istore_n 2, 1) := by decide +kernel
theorem kd_C_countDirty_4 : decode kb_C_countDirty 4 = .ok (.iload_n 2, 1) := by decide +kernel
theorem kd_C_countDirty_5 : decode kb_C_countDirty 5 = .ok (.aload_n 0, 1) := by decide +kernel
theorem kd_C_countDirty_6 : decode kb_C_countDirty 6 = .ok (.getfield 15, 3) := by decide +kernel
theorem kd_C_countDirty_9 : decode kb_C_countDirty 9 = .ok (.arraylength, 1) := by decide +kernel
theorem kd_C_countDirty_10 : decode kb_C_countDirty 10 = .ok (.if_icmp .ge 21, 3) := by decide +kernel
theorem kd_C_countDirty_13 : decode kb_C_countDirty 13 = .ok (.aload_n 0, 1) := by decide +kernel
theorem kd_C_countDirty_14 : decode kb_C_countDirty 14 = .ok (.getfield 15, 3) := by decide +kernel
theorem kd_C_countDirty_17 : decode kb_C_countDirty 17 = .ok (.iload_n 2, 1) := by decide +kernel
theorem kd_C_countDirty_18 : decode kb_C_countDirty 18 = .ok (.baload, 1) := by decide +kernel
theorem kd_C_countDirty_19 : decode kb_C_countDirty 19 = .ok (.ifCond .eq 6, 3) := by decide +kernel
theorem kd_C_countDirty_22 : decode kb_C_countDirty 22 = .ok (.iinc 1 1, 3) := by decide +kernel
theorem kd_C_countDirty_25 : decode kb_C_countDirty 25 = .ok (.iinc 2 1, 3) := by decide +kernel
theorem kd_C_countDirty_28 : decode kb_C_countDirty 28 = .ok (.goto (-24), 3) := by decide +kernel
theorem kd_C_countDirty_31 : decode kb_C_countDirty 31 = .ok (.iload_n 1, 1) := by decide +kernel
theorem kd_C_countDirty_32 : decode kb_C_countDirty 32 = .ok (.ireturn, 1) := by decide +kernel
theorem kd_Y_place_0 : decode kb_Y_place 0 = .ok (.aload_n 0, 1) := by decide +kernel
theorem kd_Y_place_1 : decode kb_Y_place 1 = .ok (.iload_n 1, 1) := by decide +kernel
theorem kd_Y_place_2 : decode kb_Y_place 2 = .ok (.invokevirtual 73, 3) := by decide +kernel
theorem kd_Y_place_5 : decode kb_Y_place 5 = .ok (.astore 5, 2) := by decide +kernel
theorem kd_Y_place_7 : decode kb_Y_place 7 = .ok (.aload 5, 2) := by decide +kernel
theorem kd_Y_place_9 : decode kb_Y_place 9 = .ok (.iload_n 2, 1) := by decide +kernel
theorem kd_Y_place_10 : decode kb_Y_place 10 = .ok (.iload_n 3, 1) := by decide +kernel
theorem kd_Y_place_11 : decode kb_Y_place 11 = .ok (.invokevirtual 80, 3) := by decide +kernel
theorem kd_Y_place_14 : decode kb_Y_place 14 = .ok (.ifCond .ne 13, 3) := by decide +kernel
theorem kd_Y_place_17 : decode kb_Y_place 17 = .ok (.new 84, 3) := by decide +kernel
theorem kd_Y_place_20 : decode kb_Y_place 20 = .ok (.dup, 1) := by decide +kernel
theorem kd_Y_place_21 : decode kb_Y_place 21 = .ok (.ldc 86, 2) := by decide +kernel
theorem kd_Y_place_23 : decode kb_Y_place 23 = .ok (.invokespecial 88, 3) := by decide +kernel
theorem kd_Y_place_26 : decode kb_Y_place 26 = .ok (.athrow, 1) := by decide +kernel
theorem kd_Y_place_27 : decode kb_Y_place 27 = .ok (.iload 4, 2) := by decide +kernel
theorem kd_Y_place_29 : decode kb_Y_place 29 = .ok (.lookupswitch 51 #[(0, 27), (1, 35)], 27) := by decide +kernel
theorem kd_Y_place_56 : decode kb_Y_place 56 = .ok (.aload 5, 2) := by decide +kernel
theorem kd_Y_place_58 : decode kb_Y_place 58 = .ok (.iload_n 2, 1) := by decide +kernel
theorem kd_Y_place_59 : decode kb_Y_place 59 = .ok (.iload_n 3, 1) := by decide +kernel
theorem kd_Y_place_60 : decode kb_Y_place 60 = .ok (.invokevirtual 89, 3) := by decide +kernel
theorem kd_Y_place_63 : decode kb_Y_place 63 = .ok (.ireturn, 1) := by decide +kernel
theorem kd_Y_place_64 : decode kb_Y_place 64 = .ok (.aload 5, 2) := by decide +kernel
theorem kd_Y_place_66 : decode kb_Y_place 66 = .ok (.iload_n 2, 1) := by decide +kernel
theorem kd_Y_place_67 : decode kb_Y_place 67 = .ok (.iload_n 3, 1) := by decide +kernel
theorem kd_Y_place_68 : decode kb_Y_place 68 = .ok (.invokevirtual 93, 3) := by decide +kernel
theorem kd_Y_place_71 : decode kb_Y_place 71 = .ok (.ifCond .eq 7, 3) := by decide +kernel
theorem kd_Y_place_74 : decode kb_Y_place 74 = .ok (.iconst 1, 1) := by decide +kernel
theorem kd_Y_place_75 : decode kb_Y_place 75 = .ok (.goto 4, 3) := by decide +kernel
theorem kd_Y_place_78 : decode kb_Y_place 78 = .ok (.iconst 0, 1) := by decide +kernel
theorem kd_Y_place_79 : decode kb_Y_place 79 = .ok (.ireturn, 1) := by decide +kernel
theorem kd_Y_place_80 : decode kb_Y_place 80 = .ok (.new 22, 3) := by decide +kernel
theorem kd_Y_place_83 : decode kb_Y_place 83 = .ok (.dup, 1) := by decide +kernel
theorem kd_Y_place_84 : decode kb_Y_place 84 = .ok (.ldc 96, 2) := by decide +kernel
theorem kd_Y_place_86 : decode kb_Y_place 86 = .ok (.invokespecial 26, 3) := by decide +kernel
theorem kd_Y_place_89 : decode kb_Y_place 89 = .ok (.athrow, 1) := by decide +kernel
theorem kd_C_hasPlace_0 : decode kb_C_hasPlace 0 = .ok (.iload_n 1, 1) := by decide +kernel
theorem kd_C_hasPlace_1 : decode kb_C_hasPlace 1 = .ok (.ifCond .lt 27, 3) := by decide +kernel
theorem kd_C_hasPlace_4 : decode kb_C_hasPlace 4 = .ok (.iload_n 1, 1) := by decide +kernel
theorem kd_C_hasPlace_5 : decode kb_C_hasPlace 5 = .ok (.aload_n 0, 1) := by decide +kernel
theorem kd_C_hasPlace_6 : decode kb_C_hasPlace 6 = .ok (.invokevirtual 53, 3) := by decide +kernel
theorem kd_C_hasPlace_9 : decode kb_C_hasPlace 9 = .ok (.if_icmp .ge 19, 3) := by decide +kernel
theorem kd_C_hasPlace_12 : decode kb_C_hasPlace 12 = .ok (.iload_n 2, 1) := by decide +kernel
theorem kd_C_hasPlace_13 : decode kb_C_hasPlace 13 = .ok (.ifCond .lt 15, 3) := by decide +kernel
theorem kd_C_hasPlace_16 : decode kb_C_hasPlace 16 = .ok (.iload_n 2, 1) := by decide +kernel
theorem kd_C_hasPlace_17 : decode kb_C_hasPlace 17 = .ok (.aload_n 0, 1) := by decide +kernel
theorem kd_C_hasPlace_18 : decode kb_C_hasPlace 18 = .ok (.getfield 29, 3) := by decide +kernel
theorem kd_C_hasPlace_21 : decode kb_C_hasPlace 21 = .ok (.if_icmp .ge 7, 3) := by decide +kernel
theorem kd_C_hasPlace_24 : decode kb_C_hasPlace 24 = .ok (.iconst 1, 1) := by decide +kernel
theorem kd_C_hasPlace_25 : decode kb_C_hasPlace 25 = .ok (.goto 4, 3) := by decide +kernel
theorem kd_C_hasPlace_28 : decode kb_C_hasPlace 28 = .ok (.iconst 0, 1) := by decide +kernel
theorem kd_C_hasPlace_29 : decode kb_C_hasPlace 29 = .ok (.ireturn, 1) := by decide +kernel
theorem kd_Y_about_0 : decode kb_Y_about 0 = .ok (.aload_n 0, 1) := by decide +kernel
theorem kd_Y_about_1 : decode kb_Y_about 1 = .ok (.iload_n 1, 1) := by decide +kernel
theorem kd_Y_about_2 : decode kb_Y_about 2 = .ok (.invokevirtual 73, 3) := by decide +kernel
theorem kd_Y_about_5 : decode kb_Y_about 5 = .ok (.astore_n 3, 1) := by decide +kernel
theorem kd_Y_about_6 : decode kb_Y_about 6 = .ok (.iload_n 2, 1) := by decide +kernel
theorem kd_Y_about_7 : decode kb_Y_about 7 = .ok (.tableswitch 67 0 5 #[37, 42, 47, 52, 57, 62], 37) := by decide +kernel
theorem kd_Y_about_44 : decode kb_Y_about 44 = .ok (.aload_n 3, 1) := by decide +kernel
theorem kd_Y_about_45 : decode kb_Y_about 45 = .ok (.getfield 98, 3) := by decide +kernel
theorem kd_Y_about_48 : decode kb_Y_about 48 = .ok (.ireturn, 1) := by decide +kernel
theorem kd_Y_about_49 : decode kb_Y_about 49 = .ok (.aload_n 3, 1) := by decide +kernel
theorem kd_Y_about_50 : decode kb_Y_about 50 = .ok (.getfield 102, 3) := by decide +kernel
theorem kd_Y_about_53 : decode kb_Y_about 53 = .ok (.ireturn, 1) := by decide +kernel
theorem kd_Y_about_54 : decode kb_Y_about 54 = .ok (.aload_n 3, 1) := by decide +kernel
theorem kd_Y_about_55 : decode kb_Y_about 55 = .ok (.getfield 105, 3) := by decide +kernel
theorem kd_Y_about_58 : decode kb_Y_about 58 = .ok (.ireturn, 1) := by decide +kernel
theorem kd_Y_about_59 : decode kb_Y_about 59 = .ok (.aload_n 3, 1) := by decide +kernel
theorem kd_Y_about_60 : decode kb_Y_about 60 = .ok (.getfield 108, 3) := by decide +kernel
theorem kd_Y_about_63 : decode kb_Y_about 63 = .ok (.ireturn, 1) := by decide +kernel
theorem kd_Y_about_64 : decode kb_Y_about 64 = .ok (.aload_n 3, 1) := by decide +kernel
theorem kd_Y_about_65 : decode kb_Y_about 65 = .ok (.invokevirtual 111, 3) := by decide +kernel
theorem kd_Y_about_68 : decode kb_Y_about 68 = .ok (.ireturn, 1) := by decide +kernel
theorem kd_Y_about_69 : decode kb_Y_about 69 = .ok (.aload_n 3, 1) := by decide +kernel
theorem kd_Y_about_70 : decode kb_Y_about 70 = .ok (.invokevirtual 114, 3) := by decide +kernel
theorem kd_Y_about_73 : decode kb_Y_about 73 = .ok (.ireturn, 1) := by decide +kernel
theorem kd_Y_about_74 : decode kb_Y_about 74 = .ok (.new 22, 3) := by decide +kernel
theorem kd_Y_about_77 : decode kb_Y_about 77 = .ok (.dup, 1) := by decide +kernel
theorem kd_Y_about_78 : decode kb_Y_about 78 = .ok (.ldc 117, 2) := by decide +kernel
theorem kd_Y_about_80 : decode kb_Y_about 80 = .ok (.invokespecial 26, 3) := by decide +kernel
theorem kd_Y_about_83 : decode kb_Y_about 83 = .ok (.athrow, 1) := by decide +kernel
theorem kd_C_countHeld_0 : decode kb_C_countHeld 0 = .ok (.iconst 0, 1) := by decide +kernel
theorem kd_C_countHeld_1 : decode kb_C_countHeld 1 = .ok (.istore_n 1, 1) := by decide +kernel
theorem kd_C_countHeld_2 : decode kb_C_countHeld 2 = .ok (.iconst 0, 1) := by decide +kernel
theorem kd_C_countHeld_3 : decode kb_C_countHeld 3 = .ok (.istore_n 2, 1) := by decide +kernel
theorem kd_C_countHeld_4 : decode kb_C_countHeld 4 = .ok (.iload_n 2, 1) := by decide +kernel
theorem kd_C_countHeld_5 : decode kb_C_countHeld 5 = .ok (.aload_n 0, 1) := by decide +kernel
theorem kd_C_countHeld_6 : decode kb_C_countHeld 6 = .ok (.getfield 9, 3) := by decide +kernel
theorem kd_C_countHeld_9 : decode kb_C_countHeld 9 = .ok (.arraylength, 1) := by decide +kernel
theorem kd_C_countHeld_10 : decode kb_C_countHeld 10 = .ok (.if_icmp .ge 22, 3) := by decide +kernel
theorem kd_C_countHeld_13 : decode kb_C_countHeld 13 = .ok (.aload_n 0, 1) := by decide +kernel
theorem kd_C_countHeld_14 : decode kb_C_countHeld 14 = .ok (.getfield 9, 3) := by decide +kernel
theorem kd_C_countHeld_17 : decode kb_C_countHeld 17 = .ok (.iload_n 2, 1) := by decide +kernel
theorem kd_C_countHeld_18 : decode kb_C_countHeld 18 = .ok (.iaload, 1) := by decide +kernel
theorem kd_C_countHeld_19 : decode kb_C_countHeld 19 = .ok (.iconst (-1), 1) := by decide +kernel
theorem kd_C_countHeld_20 : decode kb_C_countHeld 20 = .ok (.if_icmp .eq 6, 3) := by decide +kernel
theorem kd_C_countHeld_23 : decode kb_C_countHeld 23 = .ok (.iinc 1 1, 3) := by decide +kernel
theorem kd_C_countHeld_26 : decode kb_C_countHeld 26 = .ok (.iinc 2 1, 3) := by decide +kernel
theorem kd_C_countHeld_29 : decode kb_C_countHeld 29 = .ok (.goto (-25), 3) := by decide +kernel
theorem kd_C_countHeld_32 : decode kb_C_countHeld 32 = .ok (.iload_n 1, 1) := by decide +kernel
theorem kd_C_countHeld_33 : decode kb_C_countHeld 33 = .ok (.ireturn, 1) := by decide +kernel
theorem kd_Y_curve_0 : decode kb_Y_curve 0 = .ok (.iload_n 1, 1) := by decide +kernel
theorem kd_Y_curve_1 : decode kb_Y_curve 1 = .ok (.iload_n 2, 1) := by decide +kernel
theorem kd_Y_curve_2 : decode kb_Y_curve 2 = .ok (.invokestatic 119, 3) := by decide +kernel
theorem kd_Y_curve_5 : decode kb_Y_curve 5 = .ok (.aload_n 0, 1) := by decide +kernel
theorem kd_Y_curve_6 : decode kb_Y_curve 6 = .ok (.getfield 18, 3) := by decide +kernel
theorem kd_Y_curve_9 : decode kb_Y_curve 9 = .ok (.iload_n 1, 1) := by decide +kernel
theorem kd_Y_curve_10 : decode kb_Y_curve 10 = .ok (.iload_n 2, 1) := by decide +kernel
theorem kd_Y_curve_11 : decode kb_Y_curve 11 = .ok (.iconst 0, 1) := by decide +kernel
theorem kd_Y_curve_12 : decode kb_Y_curve 12 = .ok (.invokevirtual 123, 3) := by decide +kernel
theorem kd_Y_curve_15 : decode kb_Y_curve 15 = .ok (.ireturn, 1) := by decide +kernel
theorem kd_Y_requireLinesAndBits_0 : decode kb_Y_requireLinesAndBits 0 = .ok (.iload_n 0, 1) := by decide +kernel
theorem kd_Y_requireLinesAndBits_1 : decode kb_Y_requireLinesAndBits 1 = .ok (.iconst 1, 1) := by decide +kernel
theorem kd_Y_requireLinesAndBits_2 : decode kb_Y_requireLinesAndBits 2 = .ok (.if_icmp .lt 9, 3) := by decide +kernel
theorem kd_Y_requireLinesAndBits_5 : decode kb_Y_requireLinesAndBits 5 = .ok (.iload_n 0, 1) := by decide +kernel
theorem kd_Y_requireLinesAndBits_6 : decode kb_Y_requireLinesAndBits 6 = .ok (.bipush 64, 2) := by decide +kernel
theorem kd_Y_requireLinesAndBits_8 : decode kb_Y_requireLinesAndBits 8 = .ok (.if_icmp .le 13, 3) := by decide +kernel
theorem kd_Y_requireLinesAndBits_11 : decode kb_Y_requireLinesAndBits 11 = .ok (.new 22, 3) := by decide +kernel
theorem kd_Y_requireLinesAndBits_14 : decode kb_Y_requireLinesAndBits 14 = .ok (.dup, 1) := by decide +kernel
theorem kd_Y_requireLinesAndBits_15 : decode kb_Y_requireLinesAndBits 15 = .ok (.ldc 132, 2) := by decide +kernel
theorem kd_Y_requireLinesAndBits_17 : decode kb_Y_requireLinesAndBits 17 = .ok (.invokespecial 26, 3) := by decide +kernel
theorem kd_Y_requireLinesAndBits_20 : decode kb_Y_requireLinesAndBits 20 = .ok (.athrow, 1) := by decide +kernel
theorem kd_Y_requireLinesAndBits_21 : decode kb_Y_requireLinesAndBits 21 = .ok (.iload_n 1, 1) := by decide +kernel
theorem kd_Y_requireLinesAndBits_22 : decode kb_Y_requireLinesAndBits 22 = .ok (.invokestatic 43, 3) := by decide +kernel
theorem kd_Y_requireLinesAndBits_25 : decode kb_Y_requireLinesAndBits 25 = .ok (.ifCond .ne 13, 3) := by decide +kernel
theorem kd_Y_requireLinesAndBits_28 : decode kb_Y_requireLinesAndBits 28 = .ok (.new 22, 3) := by decide +kernel
theorem kd_Y_requireLinesAndBits_31 : decode kb_Y_requireLinesAndBits 31 = .ok (.dup, 1) := by decide +kernel
theorem kd_Y_requireLinesAndBits_32 : decode kb_Y_requireLinesAndBits 32 = .ok (.ldc 47, 2) := by decide +kernel
theorem kd_Y_requireLinesAndBits_34 : decode kb_Y_requireLinesAndBits 34 = .ok (.invokespecial 26, 3) := by decide +kernel
theorem kd_Y_requireLinesAndBits_37 : decode kb_Y_requireLinesAndBits 37 = .ok (.athrow, 1) := by decide +kernel
theorem kd_Y_requireLinesAndBits_38 : decode kb_Y_requireLinesAndBits 38 = .ok (.return_, 1) := by decide +kernel
theorem kd_W_countHits_0 : decode kb_W_countHits 0 = .ok (.aload_n 0, 1) := by decide +kernel
theorem kd_W_countHits_1 : decode kb_W_countHits 1 = .ok (.iload_n 2, 1) := by decide +kernel
theorem kd_W_countHits_2 : decode kb_W_countHits 2 = .ok (.invokevirtual 28, 3) := by decide +kernel
theorem kd_W_countHits_5 : decode kb_W_countHits 5 = .ok (.iconst 0, 1) := by decide +kernel
theorem kd_W_countHits_6 : decode kb_W_countHits 6 = .ok (.istore 4, 2) := by decide +kernel
theorem kd_W_countHits_8 : decode kb_W_countHits 8 = .ok (.iconst 0, 1) := by decide +kernel
theorem kd_W_countHits_9 : decode kb_W_countHits 9 = .ok (.istore 5, 2) := by decide +kernel
theorem kd_W_countHits_11 : decode kb_W_countHits 11 = .ok (.iconst 0, 1) := by decide +kernel
theorem kd_W_countHits_12 : decode kb_W_countHits 12 = .ok (.istore 6, 2) := by decide +kernel
theorem kd_W_countHits_14 : decode kb_W_countHits 14 = .ok (.iload 6, 2) := by decide +kernel
theorem kd_W_countHits_16 : decode kb_W_countHits 16 = .ok (.aload_n 0, 1) := by decide +kernel
theorem kd_W_countHits_17 : decode kb_W_countHits 17 = .ok (.getfield 24, 3) := by decide +kernel
theorem kd_W_countHits_20 : decode kb_W_countHits 20 = .ok (.if_icmp .ge 79, 3) := by decide +kernel
theorem kd_W_countHits_23 : decode kb_W_countHits 23 = .ok (.aload_n 0, 1) := by decide +kernel
theorem kd_W_countHits_24 : decode kb_W_countHits 24 = .ok (.iload 6, 2) := by decide +kernel
theorem kd_W_countHits_26 : decode kb_W_countHits 26 = .ok (.iload 4, 2) := by decide +kernel
theorem kd_W_countHits_28 : decode kb_W_countHits 28 = .ok (.invokevirtual 32, 3) := by decide +kernel
theorem kd_W_countHits_31 : decode kb_W_countHits 31 = .ok (.istore 7, 2) := by decide +kernel
theorem kd_W_countHits_33 : decode kb_W_countHits 33 = .ok (.iload 7, 2) := by decide +kernel
theorem kd_W_countHits_35 : decode kb_W_countHits 35 = .ok (.iconst (-1), 1) := by decide +kernel
theorem kd_W_countHits_36 : decode kb_W_countHits 36 = .ok (.if_icmp .eq 9, 3) := by decide +kernel
theorem kd_W_countHits_39 : decode kb_W_countHits 39 = .ok (.iinc 5 1, 3) := by decide +kernel
theorem kd_W_countHits_42 : decode kb_W_countHits 42 = .ok (.goto 38, 3) := by decide +kernel
theorem kd_W_countHits_45 : decode kb_W_countHits 45 = .ok (.iload 4, 2) := by decide +kernel
theorem kd_W_countHits_47 : decode kb_W_countHits 47 = .ok (.iload_n 1, 1) := by decide +kernel
theorem kd_W_countHits_48 : decode kb_W_countHits 48 = .ok (.if_icmp .ge 13, 3) := by decide +kernel
theorem kd_W_countHits_51 : decode kb_W_countHits 51 = .ok (.iload 4, 2) := by decide +kernel
theorem kd_W_countHits_53 : decode kb_W_countHits 53 = .ok (.istore 7, 2) := by decide +kernel
theorem kd_W_countHits_55 : decode kb_W_countHits 55 = .ok (.iinc 4 1, 3) := by decide +kernel
theorem kd_W_countHits_58 : decode kb_W_countHits 58 = .ok (.goto 22, 3) := by decide +kernel
theorem kd_W_countHits_61 : decode kb_W_countHits 61 = .ok (.iload_n 3, 1) := by decide +kernel
theorem kd_W_countHits_62 : decode kb_W_countHits 62 = .ok (.ifCond .eq 12, 3) := by decide +kernel
theorem kd_W_countHits_65 : decode kb_W_countHits 65 = .ok (.aload_n 0, 1) := by decide +kernel
theorem kd_W_countHits_66 : decode kb_W_countHits 66 = .ok (.iload 4, 2) := by decide +kernel
theorem kd_W_countHits_68 : decode kb_W_countHits 68 = .ok (.invokevirtual 36, 3) := by decide +kernel
theorem kd_W_countHits_71 : decode kb_W_countHits 71 = .ok (.goto 7, 3) := by decide +kernel
theorem kd_W_countHits_74 : decode kb_W_countHits 74 = .ok (.iload 4, 2) := by decide +kernel
theorem kd_W_countHits_76 : decode kb_W_countHits 76 = .ok (.iconst 1, 1) := by decide +kernel
theorem kd_W_countHits_77 : decode kb_W_countHits 77 = .ok (.isub, 1) := by decide +kernel
theorem kd_W_countHits_78 : decode kb_W_countHits 78 = .ok (.istore 7, 2) := by decide +kernel
theorem kd_W_countHits_80 : decode kb_W_countHits 80 = .ok (.aload_n 0, 1) := by decide +kernel
theorem kd_W_countHits_81 : decode kb_W_countHits 81 = .ok (.iload 7, 2) := by decide +kernel
theorem kd_W_countHits_83 : decode kb_W_countHits 83 = .ok (.aload_n 0, 1) := by decide +kernel
theorem kd_W_countHits_84 : decode kb_W_countHits 84 = .ok (.getfield 15, 3) := by decide +kernel
theorem kd_W_countHits_87 : decode kb_W_countHits 87 = .ok (.iload 6, 2) := by decide +kernel
theorem kd_W_countHits_89 : decode kb_W_countHits 89 = .ok (.iaload, 1) := by decide +kernel
theorem kd_W_countHits_90 : decode kb_W_countHits 90 = .ok (.invokevirtual 40, 3) := by decide +kernel
theorem kd_W_countHits_93 : decode kb_W_countHits 93 = .ok (.iinc 6 1, 3) := by decide +kernel
theorem kd_W_countHits_96 : decode kb_W_countHits 96 = .ok (.goto (-82), 3) := by decide +kernel
theorem kd_W_countHits_99 : decode kb_W_countHits 99 = .ok (.iload 5, 2) := by decide +kernel
theorem kd_W_countHits_101 : decode kb_W_countHits 101 = .ok (.ireturn, 1) := by decide +kernel
theorem kd_W_findNextUses_0 : decode kb_W_findNextUses 0 = .ok (.iconst 0, 1) := by decide +kernel
theorem kd_W_findNextUses_1 : decode kb_W_findNextUses 1 = .ok (.istore_n 2, 1) := by decide +kernel
theorem kd_W_findNextUses_2 : decode kb_W_findNextUses 2 = .ok (.iload_n 2, 1) := by decide +kernel
theorem kd_W_findNextUses_3 : decode kb_W_findNextUses 3 = .ok (.aload_n 0, 1) := by decide +kernel
theorem kd_W_findNextUses_4 : decode kb_W_findNextUses 4 = .ok (.getfield 24, 3) := by decide +kernel
theorem kd_W_findNextUses_7 : decode kb_W_findNextUses 7 = .ok (.if_icmp .ge 25, 3) := by decide +kernel
theorem kd_W_findNextUses_10 : decode kb_W_findNextUses 10 = .ok (.aload_n 0, 1) := by decide +kernel
theorem kd_W_findNextUses_11 : decode kb_W_findNextUses 11 = .ok (.getfield 18, 3) := by decide +kernel
theorem kd_W_findNextUses_14 : decode kb_W_findNextUses 14 = .ok (.aload_n 0, 1) := by decide +kernel
theorem kd_W_findNextUses_15 : decode kb_W_findNextUses 15 = .ok (.getfield 9, 3) := by decide +kernel
theorem kd_W_findNextUses_18 : decode kb_W_findNextUses 18 = .ok (.iload_n 2, 1) := by decide +kernel
theorem kd_W_findNextUses_19 : decode kb_W_findNextUses 19 = .ok (.iaload, 1) := by decide +kernel
theorem kd_W_findNextUses_20 : decode kb_W_findNextUses 20 = .ok (.iload_n 1, 1) := by decide +kernel
theorem kd_W_findNextUses_21 : decode kb_W_findNextUses 21 = .ok (.ishr, 1) := by decide +kernel
theorem kd_W_findNextUses_22 : decode kb_W_findNextUses 22 = .ok (.sipush 400, 3) := by decide +kernel
theorem kd_W_findNextUses_25 : decode kb_W_findNextUses 25 = .ok (.iastore, 1) := by decide +kernel
theorem kd_W_findNextUses_26 : decode kb_W_findNextUses 26 = .ok (.iinc 2 1, 3) := by decide +kernel
theorem kd_W_findNextUses_29 : decode kb_W_findNextUses 29 = .ok (.goto (-27), 3) := by decide +kernel
theorem kd_W_findNextUses_32 : decode kb_W_findNextUses 32 = .ok (.aload_n 0, 1) := by decide +kernel
theorem kd_W_findNextUses_33 : decode kb_W_findNextUses 33 = .ok (.getfield 24, 3) := by decide +kernel
theorem kd_W_findNextUses_36 : decode kb_W_findNextUses 36 = .ok (.iconst 1, 1) := by decide +kernel
theorem kd_W_findNextUses_37 : decode kb_W_findNextUses 37 = .ok (.isub, 1) := by decide +kernel
theorem kd_W_findNextUses_38 : decode kb_W_findNextUses 38 = .ok (.istore_n 2, 1) := by decide +kernel
theorem kd_W_findNextUses_39 : decode kb_W_findNextUses 39 = .ok (.iload_n 2, 1) := by decide +kernel
theorem kd_W_findNextUses_40 : decode kb_W_findNextUses 40 = .ok (.ifCond .lt 37, 3) := by decide +kernel
theorem kd_W_findNextUses_43 : decode kb_W_findNextUses 43 = .ok (.aload_n 0, 1) := by decide +kernel
theorem kd_W_findNextUses_44 : decode kb_W_findNextUses 44 = .ok (.getfield 9, 3) := by decide +kernel
theorem kd_W_findNextUses_47 : decode kb_W_findNextUses 47 = .ok (.iload_n 2, 1) := by decide +kernel
theorem kd_W_findNextUses_48 : decode kb_W_findNextUses 48 = .ok (.iaload, 1) := by decide +kernel
theorem kd_W_findNextUses_49 : decode kb_W_findNextUses 49 = .ok (.iload_n 1, 1) := by decide +kernel
theorem kd_W_findNextUses_50 : decode kb_W_findNextUses 50 = .ok (.ishr, 1) := by decide +kernel
theorem kd_W_findNextUses_51 : decode kb_W_findNextUses 51 = .ok (.istore_n 3, 1) := by decide +kernel
theorem kd_W_findNextUses_52 : decode kb_W_findNextUses 52 = .ok (.aload_n 0, 1) := by decide +kernel
theorem kd_W_findNextUses_53 : decode kb_W_findNextUses 53 = .ok (.getfield 15, 3) := by decide +kernel
theorem kd_W_findNextUses_56 : decode kb_W_findNextUses 56 = .ok (.iload_n 2, 1) := by decide +kernel
theorem kd_W_findNextUses_57 : decode kb_W_findNextUses 57 = .ok (.aload_n 0, 1) := by decide +kernel
theorem kd_W_findNextUses_58 : decode kb_W_findNextUses 58 = .ok (.getfield 18, 3) := by decide +kernel
theorem kd_W_findNextUses_61 : decode kb_W_findNextUses 61 = .ok (.iload_n 3, 1) := by decide +kernel
theorem kd_W_findNextUses_62 : decode kb_W_findNextUses 62 = .ok (.iaload, 1) := by decide +kernel
theorem kd_W_findNextUses_63 : decode kb_W_findNextUses 63 = .ok (.iastore, 1) := by decide +kernel
theorem kd_W_findNextUses_64 : decode kb_W_findNextUses 64 = .ok (.aload_n 0, 1) := by decide +kernel
theorem kd_W_findNextUses_65 : decode kb_W_findNextUses 65 = .ok (.getfield 18, 3) := by decide +kernel
theorem kd_W_findNextUses_68 : decode kb_W_findNextUses 68 = .ok (.iload_n 3, 1) := by decide +kernel
theorem kd_W_findNextUses_69 : decode kb_W_findNextUses 69 = .ok (.iload_n 2, 1) := by decide +kernel
theorem kd_W_findNextUses_70 : decode kb_W_findNextUses 70 = .ok (.iastore, 1) := by decide +kernel
theorem kd_W_findNextUses_71 : decode kb_W_findNextUses 71 = .ok (.iinc 2 (-1), 3) := by decide +kernel
theorem kd_W_findNextUses_74 : decode kb_W_findNextUses 74 = .ok (.goto (-35), 3) := by decide +kernel
theorem kd_W_findNextUses_77 : decode kb_W_findNextUses 77 = .ok (.return_, 1) := by decide +kernel
theorem kd_W_findLine_0 : decode kb_W_findLine 0 = .ok (.iconst 0, 1) := by decide +kernel
theorem kd_W_findLine_1 : decode kb_W_findLine 1 = .ok (.istore_n 3, 1) := by decide +kernel
theorem kd_W_findLine_2 : decode kb_W_findLine 2 = .ok (.iload_n 3, 1) := by decide +kernel
theorem kd_W_findLine_3 : decode kb_W_findLine 3 = .ok (.iload_n 2, 1) := by decide +kernel
theorem kd_W_findLine_4 : decode kb_W_findLine 4 = .ok (.if_icmp .ge 21, 3) := by decide +kernel
theorem kd_W_findLine_7 : decode kb_W_findLine 7 = .ok (.aload_n 0, 1) := by decide +kernel
theorem kd_W_findLine_8 : decode kb_W_findLine 8 = .ok (.getfield 21, 3) := by decide +kernel
theorem kd_W_findLine_11 : decode kb_W_findLine 11 = .ok (.iload_n 3, 1) := by decide +kernel
theorem kd_W_findLine_12 : decode kb_W_findLine 12 = .ok (.iaload, 1) := by decide +kernel
theorem kd_W_findLine_13 : decode kb_W_findLine 13 = .ok (.iload_n 1, 1) := by decide +kernel
theorem kd_W_findLine_14 : decode kb_W_findLine 14 = .ok (.if_icmp .ne 5, 3) := by decide +kernel
theorem kd_W_findLine_17 : decode kb_W_findLine 17 = .ok (.iload_n 3, 1) := by decide +kernel
theorem kd_W_findLine_18 : decode kb_W_findLine 18 = .ok (.ireturn, 1) := by decide +kernel
theorem kd_W_findLine_19 : decode kb_W_findLine 19 = .ok (.iinc 3 1, 3) := by decide +kernel
theorem kd_W_findLine_22 : decode kb_W_findLine 22 = .ok (.goto (-20), 3) := by decide +kernel
theorem kd_W_findLine_25 : decode kb_W_findLine 25 = .ok (.iconst (-1), 1) := by decide +kernel
theorem kd_W_findLine_26 : decode kb_W_findLine 26 = .ok (.ireturn, 1) := by decide +kernel
theorem kd_W_lineNeededLast_0 : decode kb_W_lineNeededLast 0 = .ok (.iconst 0, 1) := by decide +kernel
theorem kd_W_lineNeededLast_1 : decode kb_W_lineNeededLast 1 = .ok (.istore_n 2, 1) := by decide +kernel
theorem kd_W_lineNeededLast_2 : decode kb_W_lineNeededLast 2 = .ok (.iconst 1, 1) := by decide +kernel
theorem kd_W_lineNeededLast_3 : decode kb_W_lineNeededLast 3 = .ok (.istore_n 3, 1) := by decide +kernel
theorem kd_W_lineNeededLast_4 : decode kb_W_lineNeededLast 4 = .ok (.iload_n 3, 1) := by decide +kernel
theorem kd_W_lineNeededLast_5 : decode kb_W_lineNeededLast 5 = .ok (.iload_n 1, 1) := by decide +kernel
theorem kd_W_lineNeededLast_6 : decode kb_W_lineNeededLast 6 = .ok (.if_icmp .ge 26, 3) := by decide +kernel
theorem kd_W_lineNeededLast_9 : decode kb_W_lineNeededLast 9 = .ok (.aload_n 0, 1) := by decide +kernel
theorem kd_W_lineNeededLast_10 : decode kb_W_lineNeededLast 10 = .ok (.getfield 21, 3) := by decide +kernel
theorem kd_W_lineNeededLast_13 : decode kb_W_lineNeededLast 13 = .ok (.iload_n 3, 1) := by decide +kernel
theorem kd_W_lineNeededLast_14 : decode kb_W_lineNeededLast 14 = .ok (.iaload, 1) := by decide +kernel
theorem kd_W_lineNeededLast_15 : decode kb_W_lineNeededLast 15 = .ok (.aload_n 0, 1) := by decide +kernel
theorem kd_W_lineNeededLast_16 : decode kb_W_lineNeededLast 16 = .ok (.getfield 21, 3) := by decide +kernel
theorem kd_W_lineNeededLast_19 : decode kb_W_lineNeededLast 19 = .ok (.iload_n 2, 1) := by decide +kernel
theorem kd_W_lineNeededLast_20 : decode kb_W_lineNeededLast 20 = .ok (.iaload, 1) := by decide +kernel
theorem kd_W_lineNeededLast_21 : decode kb_W_lineNeededLast 21 = .ok (.if_icmp .le 5, 3) := by decide +kernel
theorem kd_W_lineNeededLast_24 : decode kb_W_lineNeededLast 24 = .ok (.iload_n 3, 1) := by decide +kernel
theorem kd_W_lineNeededLast_25 : decode kb_W_lineNeededLast 25 = .ok (.istore_n 2, 1) := by decide +kernel
theorem kd_W_lineNeededLast_26 : decode kb_W_lineNeededLast 26 = .ok (.iinc 3 1, 3) := by decide +kernel
theorem kd_W_lineNeededLast_29 : decode kb_W_lineNeededLast 29 = .ok (.goto (-25), 3) := by decide +kernel
theorem kd_W_lineNeededLast_32 : decode kb_W_lineNeededLast 32 = .ok (.iload_n 2, 1) := by decide +kernel
theorem kd_W_lineNeededLast_33 : decode kb_W_lineNeededLast 33 = .ok (.ireturn, 1) := by decide +kernel
theorem kd_W_bringToFront_0 : decode kb_W_bringToFront 0 = .ok (.iload_n 1, 1) := by decide +kernel
theorem kd_W_bringToFront_1 : decode kb_W_bringToFront 1 = .ok (.istore_n 3, 1) := by decide +kernel
theorem kd_W_bringToFront_2 : decode kb_W_bringToFront 2 = .ok (.iload_n 3, 1) := by decide +kernel
theorem kd_W_bringToFront_3 : decode kb_W_bringToFront 3 = .ok (.ifCond .le 23, 3) := by decide +kernel
theorem kd_W_bringToFront_6 : decode kb_W_bringToFront 6 = .ok (.aload_n 0, 1) := by decide +kernel
theorem kd_W_bringToFront_7 : decode kb_W_bringToFront 7 = .ok (.getfield 21, 3) := by decide +kernel
theorem kd_W_bringToFront_10 : decode kb_W_bringToFront 10 = .ok (.iload_n 3, 1) := by decide +kernel
theorem kd_W_bringToFront_11 : decode kb_W_bringToFront 11 = .ok (.aload_n 0, 1) := by decide +kernel
theorem kd_W_bringToFront_12 : decode kb_W_bringToFront 12 = .ok (.getfield 21, 3) := by decide +kernel
theorem kd_W_bringToFront_15 : decode kb_W_bringToFront 15 = .ok (.iload_n 3, 1) := by decide +kernel
theorem kd_W_bringToFront_16 : decode kb_W_bringToFront 16 = .ok (.iconst 1, 1) := by decide +kernel
theorem kd_W_bringToFront_17 : decode kb_W_bringToFront 17 = .ok (.isub, 1) := by decide +kernel
theorem kd_W_bringToFront_18 : decode kb_W_bringToFront 18 = .ok (.iaload, 1) := by decide +kernel
theorem kd_W_bringToFront_19 : decode kb_W_bringToFront 19 = .ok (.iastore, 1) := by decide +kernel
theorem kd_W_bringToFront_20 : decode kb_W_bringToFront 20 = .ok (.iinc 3 (-1), 3) := by decide +kernel
theorem kd_W_bringToFront_23 : decode kb_W_bringToFront 23 = .ok (.goto (-21), 3) := by decide +kernel
theorem kd_W_bringToFront_26 : decode kb_W_bringToFront 26 = .ok (.aload_n 0, 1) := by decide +kernel
theorem kd_W_bringToFront_27 : decode kb_W_bringToFront 27 = .ok (.getfield 21, 3) := by decide +kernel
theorem kd_W_bringToFront_30 : decode kb_W_bringToFront 30 = .ok (.iconst 0, 1) := by decide +kernel
theorem kd_W_bringToFront_31 : decode kb_W_bringToFront 31 = .ok (.iload_n 2, 1) := by decide +kernel
theorem kd_W_bringToFront_32 : decode kb_W_bringToFront 32 = .ok (.iastore, 1) := by decide +kernel
theorem kd_W_bringToFront_33 : decode kb_W_bringToFront 33 = .ok (.return_, 1) := by decide +kernel
theorem kd_Y_best_0 : decode kb_Y_best 0 = .ok (.iload_n 1, 1) := by decide +kernel
theorem kd_Y_best_1 : decode kb_Y_best 1 = .ok (.iload_n 2, 1) := by decide +kernel
theorem kd_Y_best_2 : decode kb_Y_best 2 = .ok (.invokestatic 119, 3) := by decide +kernel
theorem kd_Y_best_5 : decode kb_Y_best 5 = .ok (.aload_n 0, 1) := by decide +kernel
theorem kd_Y_best_6 : decode kb_Y_best 6 = .ok (.getfield 18, 3) := by decide +kernel
theorem kd_Y_best_9 : decode kb_Y_best 9 = .ok (.iload_n 1, 1) := by decide +kernel
theorem kd_Y_best_10 : decode kb_Y_best 10 = .ok (.iload_n 2, 1) := by decide +kernel
theorem kd_Y_best_11 : decode kb_Y_best 11 = .ok (.iconst 1, 1) := by decide +kernel
theorem kd_Y_best_12 : decode kb_Y_best 12 = .ok (.invokevirtual 123, 3) := by decide +kernel
theorem kd_Y_best_15 : decode kb_Y_best 15 = .ok (.ireturn, 1) := by decide +kernel
end
section
theorem kd_L_make_0 : decode kb_L_make 0 = .ok (.aload_n 0, 1) := by decide +kernel
theorem kd_L_make_1 : decode kb_L_make 1 = .ok (.iload_n 1, 1) := by decide +kernel
theorem kd_L_make_2 : decode kb_L_make 2 = .ok (.iload_n 2, 1) := by decide +kernel
theorem kd_L_make_3 : decode kb_L_make 3 = .ok (.iload_n 3, 1) := by decide +kernel
theorem kd_L_make_4 : decode kb_L_make 4 = .ok (.iload 4, 2) := by decide +kernel
theorem kd_L_make_6 : decode kb_L_make 6 = .ok (.iload 5, 2) := by decide +kernel
theorem kd_L_make_8 : decode kb_L_make 8 = .ok (.invokevirtual 7, 3) := by decide +kernel
theorem kd_L_make_11 : decode kb_L_make 11 = .ok (.goto 7, 3) := by decide +kernel
theorem kd_L_make_14 : decode kb_L_make 14 = .ok (.astore 6, 2) := by decide +kernel
theorem kd_L_make_16 : decode kb_L_make 16 = .ok (.iconst 1, 1) := by decide +kernel
theorem kd_L_make_17 : decode kb_L_make 17 = .ok (.ireturn, 1) := by decide +kernel
theorem kd_L_make_18 : decode kb_L_make 18 = .ok (.iconst 0, 1) := by decide +kernel
theorem kd_L_make_19 : decode kb_L_make 19 = .ok (.ireturn, 1) := by decide +kernel
theorem kd_L_access_0 : decode kb_L_access 0 = .ok (.aload_n 3, 1) := by decide +kernel
theorem kd_L_access_1 : decode kb_L_access 1 = .ok (.iconst 0, 1) := by decide +kernel
theorem kd_L_access_2 : decode kb_L_access 2 = .ok (.aload_n 0, 1) := by decide +kernel
theorem kd_L_access_3 : decode kb_L_access 3 = .ok (.iload_n 1, 1) := by decide +kernel
theorem kd_L_access_4 : decode kb_L_access 4 = .ok (.iload_n 2, 1) := by decide +kernel
theorem kd_L_access_5 : decode kb_L_access 5 = .ok (.invokevirtual 15, 3) := by decide +kernel
theorem kd_L_access_8 : decode kb_L_access 8 = .ok (.i2l, 1) := by decide +kernel
theorem kd_L_access_9 : decode kb_L_access 9 = .ok (.lastore, 1) := by decide +kernel
theorem kd_L_access_10 : decode kb_L_access 10 = .ok (.goto 11, 3) := by decide +kernel
theorem kd_L_access_13 : decode kb_L_access 13 = .ok (.astore 4, 2) := by decide +kernel
theorem kd_L_access_15 : decode kb_L_access 15 = .ok (.iconst 1, 1) := by decide +kernel
theorem kd_L_access_16 : decode kb_L_access 16 = .ok (.ireturn, 1) := by decide +kernel
theorem kd_L_access_17 : decode kb_L_access 17 = .ok (.astore 4, 2) := by decide +kernel
theorem kd_L_access_19 : decode kb_L_access 19 = .ok (.iconst 2, 1) := by decide +kernel
theorem kd_L_access_20 : decode kb_L_access 20 = .ok (.ireturn, 1) := by decide +kernel
theorem kd_L_access_21 : decode kb_L_access 21 = .ok (.iconst 0, 1) := by decide +kernel
theorem kd_L_access_22 : decode kb_L_access 22 = .ok (.ireturn, 1) := by decide +kernel
theorem kd_L_flush_0 : decode kb_L_flush 0 = .ok (.aload_n 2, 1) := by decide +kernel
theorem kd_L_flush_1 : decode kb_L_flush 1 = .ok (.iconst 0, 1) := by decide +kernel
theorem kd_L_flush_2 : decode kb_L_flush 2 = .ok (.aload_n 0, 1) := by decide +kernel
theorem kd_L_flush_3 : decode kb_L_flush 3 = .ok (.iload_n 1, 1) := by decide +kernel
theorem kd_L_flush_4 : decode kb_L_flush 4 = .ok (.invokevirtual 21, 3) := by decide +kernel
theorem kd_L_flush_7 : decode kb_L_flush 7 = .ok (.i2l, 1) := by decide +kernel
theorem kd_L_flush_8 : decode kb_L_flush 8 = .ok (.lastore, 1) := by decide +kernel
theorem kd_L_flush_9 : decode kb_L_flush 9 = .ok (.goto 6, 3) := by decide +kernel
theorem kd_L_flush_12 : decode kb_L_flush 12 = .ok (.astore_n 3, 1) := by decide +kernel
theorem kd_L_flush_13 : decode kb_L_flush 13 = .ok (.iconst 1, 1) := by decide +kernel
theorem kd_L_flush_14 : decode kb_L_flush 14 = .ok (.ireturn, 1) := by decide +kernel
theorem kd_L_flush_15 : decode kb_L_flush 15 = .ok (.iconst 0, 1) := by decide +kernel
theorem kd_L_flush_16 : decode kb_L_flush 16 = .ok (.ireturn, 1) := by decide +kernel
theorem kd_L_place_0 : decode kb_L_place 0 = .ok (.aload 5, 2) := by decide +kernel
theorem kd_L_place_2 : decode kb_L_place 2 = .ok (.iconst 0, 1) := by decide +kernel
theorem kd_L_place_3 : decode kb_L_place 3 = .ok (.aload_n 0, 1) := by decide +kernel
theorem kd_L_place_4 : decode kb_L_place 4 = .ok (.iload_n 1, 1) := by decide +kernel
theorem kd_L_place_5 : decode kb_L_place 5 = .ok (.iload_n 2, 1) := by decide +kernel
theorem kd_L_place_6 : decode kb_L_place 6 = .ok (.iload_n 3, 1) := by decide +kernel
theorem kd_L_place_7 : decode kb_L_place 7 = .ok (.iload 4, 2) := by decide +kernel
theorem kd_L_place_9 : decode kb_L_place 9 = .ok (.invokevirtual 27, 3) := by decide +kernel
theorem kd_L_place_12 : decode kb_L_place 12 = .ok (.i2l, 1) := by decide +kernel
theorem kd_L_place_13 : decode kb_L_place 13 = .ok (.lastore, 1) := by decide +kernel
theorem kd_L_place_14 : decode kb_L_place 14 = .ok (.goto 15, 3) := by decide +kernel
theorem kd_L_place_17 : decode kb_L_place 17 = .ok (.astore 6, 2) := by decide +kernel
theorem kd_L_place_19 : decode kb_L_place 19 = .ok (.iconst 1, 1) := by decide +kernel
theorem kd_L_place_20 : decode kb_L_place 20 = .ok (.ireturn, 1) := by decide +kernel
theorem kd_L_place_21 : decode kb_L_place 21 = .ok (.astore 6, 2) := by decide +kernel
theorem kd_L_place_23 : decode kb_L_place 23 = .ok (.iconst 2, 1) := by decide +kernel
theorem kd_L_place_24 : decode kb_L_place 24 = .ok (.ireturn, 1) := by decide +kernel
theorem kd_L_place_25 : decode kb_L_place 25 = .ok (.astore 6, 2) := by decide +kernel
theorem kd_L_place_27 : decode kb_L_place 27 = .ok (.iconst 3, 1) := by decide +kernel
theorem kd_L_place_28 : decode kb_L_place 28 = .ok (.ireturn, 1) := by decide +kernel
theorem kd_L_place_29 : decode kb_L_place 29 = .ok (.iconst 0, 1) := by decide +kernel
theorem kd_L_place_30 : decode kb_L_place 30 = .ok (.ireturn, 1) := by decide +kernel
theorem kd_L_about_0 : decode kb_L_about 0 = .ok (.aload_n 3, 1) := by decide +kernel
theorem kd_L_about_1 : decode kb_L_about 1 = .ok (.iconst 0, 1) := by decide +kernel
theorem kd_L_about_2 : decode kb_L_about 2 = .ok (.aload_n 0, 1) := by decide +kernel
theorem kd_L_about_3 : decode kb_L_about 3 = .ok (.iload_n 1, 1) := by decide +kernel
theorem kd_L_about_4 : decode kb_L_about 4 = .ok (.iload_n 2, 1) := by decide +kernel
theorem kd_L_about_5 : decode kb_L_about 5 = .ok (.invokevirtual 33, 3) := by decide +kernel
theorem kd_L_about_8 : decode kb_L_about 8 = .ok (.i2l, 1) := by decide +kernel
theorem kd_L_about_9 : decode kb_L_about 9 = .ok (.lastore, 1) := by decide +kernel
theorem kd_L_about_10 : decode kb_L_about 10 = .ok (.goto 11, 3) := by decide +kernel
theorem kd_L_about_13 : decode kb_L_about 13 = .ok (.astore 4, 2) := by decide +kernel
theorem kd_L_about_15 : decode kb_L_about 15 = .ok (.iconst 1, 1) := by decide +kernel
theorem kd_L_about_16 : decode kb_L_about 16 = .ok (.ireturn, 1) := by decide +kernel
theorem kd_L_about_17 : decode kb_L_about 17 = .ok (.astore 4, 2) := by decide +kernel
theorem kd_L_about_19 : decode kb_L_about 19 = .ok (.iconst 2, 1) := by decide +kernel
theorem kd_L_about_20 : decode kb_L_about 20 = .ok (.ireturn, 1) := by decide +kernel
theorem kd_L_about_21 : decode kb_L_about 21 = .ok (.iconst 0, 1) := by decide +kernel
theorem kd_L_about_22 : decode kb_L_about 22 = .ok (.ireturn, 1) := by decide +kernel
theorem kd_L_curve_0 : decode kb_L_curve 0 = .ok (.aload_n 3, 1) := by decide +kernel
theorem kd_L_curve_1 : decode kb_L_curve 1 = .ok (.iconst 0, 1) := by decide +kernel
theorem kd_L_curve_2 : decode kb_L_curve 2 = .ok (.aload_n 0, 1) := by decide +kernel
theorem kd_L_curve_3 : decode kb_L_curve 3 = .ok (.iload_n 1, 1) := by decide +kernel
theorem kd_L_curve_4 : decode kb_L_curve 4 = .ok (.iload_n 2, 1) := by decide +kernel
theorem kd_L_curve_5 : decode kb_L_curve 5 = .ok (.invokevirtual 37, 3) := by decide +kernel
theorem kd_L_curve_8 : decode kb_L_curve 8 = .ok (.i2l, 1) := by decide +kernel
theorem kd_L_curve_9 : decode kb_L_curve 9 = .ok (.lastore, 1) := by decide +kernel
theorem kd_L_curve_10 : decode kb_L_curve 10 = .ok (.goto 7, 3) := by decide +kernel
theorem kd_L_curve_13 : decode kb_L_curve 13 = .ok (.astore 4, 2) := by decide +kernel
theorem kd_L_curve_15 : decode kb_L_curve 15 = .ok (.iconst 1, 1) := by decide +kernel
theorem kd_L_curve_16 : decode kb_L_curve 16 = .ok (.ireturn, 1) := by decide +kernel
theorem kd_L_curve_17 : decode kb_L_curve 17 = .ok (.iconst 0, 1) := by decide +kernel
theorem kd_L_curve_18 : decode kb_L_curve 18 = .ok (.ireturn, 1) := by decide +kernel
theorem kd_L_best_0 : decode kb_L_best 0 = .ok (.aload_n 3, 1) := by decide +kernel
theorem kd_L_best_1 : decode kb_L_best 1 = .ok (.iconst 0, 1) := by decide +kernel
theorem kd_L_best_2 : decode kb_L_best 2 = .ok (.aload_n 0, 1) := by decide +kernel
theorem kd_L_best_3 : decode kb_L_best 3 = .ok (.iload_n 1, 1) := by decide +kernel
theorem kd_L_best_4 : decode kb_L_best 4 = .ok (.iload_n 2, 1) := by decide +kernel
theorem kd_L_best_5 : decode kb_L_best 5 = .ok (.invokevirtual 40, 3) := by decide +kernel
theorem kd_L_best_8 : decode kb_L_best 8 = .ok (.i2l, 1) := by decide +kernel
theorem kd_L_best_9 : decode kb_L_best 9 = .ok (.lastore, 1) := by decide +kernel
theorem kd_L_best_10 : decode kb_L_best 10 = .ok (.goto 7, 3) := by decide +kernel
theorem kd_L_best_13 : decode kb_L_best 13 = .ok (.astore 4, 2) := by decide +kernel
theorem kd_L_best_15 : decode kb_L_best 15 = .ok (.iconst 1, 1) := by decide +kernel
theorem kd_L_best_16 : decode kb_L_best 16 = .ok (.ireturn, 1) := by decide +kernel
theorem kd_L_best_17 : decode kb_L_best 17 = .ok (.iconst 0, 1) := by decide +kernel
theorem kd_L_best_18 : decode kb_L_best 18 = .ok (.ireturn, 1) := by decide +kernel
theorem kd_M_init_0 : decode kb_M_init 0 = .ok (.aload_n 0, 1) := by decide +kernel
theorem kd_M_init_1 : decode kb_M_init 1 = .ok (.invokespecial 1, 3) := by decide +kernel
theorem kd_M_init_4 : decode kb_M_init 4 = .ok (.aload_n 0, 1) := by decide +kernel
theorem kd_M_init_5 : decode kb_M_init 5 = .ok (.sipush 400, 3) := by decide +kernel
theorem kd_M_init_8 : decode kb_M_init 8 = .ok (.newarray .int, 2) := by decide +kernel
theorem kd_M_init_10 : decode kb_M_init 10 = .ok (.putfield 7, 3) := by decide +kernel
theorem kd_M_init_13 : decode kb_M_init 13 = .ok (.aload_n 0, 1) := by decide +kernel
theorem kd_M_init_14 : decode kb_M_init 14 = .ok (.iconst 4, 1) := by decide +kernel
theorem kd_M_init_15 : decode kb_M_init 15 = .ok (.newarray .boolean, 2) := by decide +kernel
theorem kd_M_init_17 : decode kb_M_init 17 = .ok (.putfield 13, 3) := by decide +kernel
theorem kd_M_init_20 : decode kb_M_init 20 = .ok (.aload_n 0, 1) := by decide +kernel
theorem kd_M_init_21 : decode kb_M_init 21 = .ok (.iconst 4, 1) := by decide +kernel
theorem kd_M_init_22 : decode kb_M_init 22 = .ok (.newarray .int, 2) := by decide +kernel
theorem kd_M_init_24 : decode kb_M_init 24 = .ok (.putfield 17, 3) := by decide +kernel
theorem kd_M_init_27 : decode kb_M_init 27 = .ok (.aload_n 0, 1) := by decide +kernel
theorem kd_M_init_28 : decode kb_M_init 28 = .ok (.iconst 4, 1) := by decide +kernel
theorem kd_M_init_29 : decode kb_M_init 29 = .ok (.newarray .int, 2) := by decide +kernel
theorem kd_M_init_31 : decode kb_M_init 31 = .ok (.putfield 20, 3) := by decide +kernel
theorem kd_M_init_34 : decode kb_M_init 34 = .ok (.aload_n 0, 1) := by decide +kernel
theorem kd_M_init_35 : decode kb_M_init 35 = .ok (.iconst 4, 1) := by decide +kernel
theorem kd_M_init_36 : decode kb_M_init 36 = .ok (.newarray .int, 2) := by decide +kernel
theorem kd_M_init_38 : decode kb_M_init 38 = .ok (.putfield 23, 3) := by decide +kernel
theorem kd_M_init_41 : decode kb_M_init 41 = .ok (.aload_n 0, 1) := by decide +kernel
theorem kd_M_init_42 : decode kb_M_init 42 = .ok (.iconst 4, 1) := by decide +kernel
theorem kd_M_init_43 : decode kb_M_init 43 = .ok (.newarray .int, 2) := by decide +kernel
theorem kd_M_init_45 : decode kb_M_init 45 = .ok (.putfield 26, 3) := by decide +kernel
theorem kd_M_init_48 : decode kb_M_init 48 = .ok (.aload_n 0, 1) := by decide +kernel
theorem kd_M_init_49 : decode kb_M_init 49 = .ok (.iconst 4, 1) := by decide +kernel
theorem kd_M_init_50 : decode kb_M_init 50 = .ok (.newarray .int, 2) := by decide +kernel
theorem kd_M_init_52 : decode kb_M_init 52 = .ok (.putfield 29, 3) := by decide +kernel
theorem kd_M_init_55 : decode kb_M_init 55 = .ok (.aload_n 0, 1) := by decide +kernel
theorem kd_M_init_56 : decode kb_M_init 56 = .ok (.iconst 4, 1) := by decide +kernel
theorem kd_M_init_57 : decode kb_M_init 57 = .ok (.newarray .int, 2) := by decide +kernel
theorem kd_M_init_59 : decode kb_M_init 59 = .ok (.putfield 32, 3) := by decide +kernel
theorem kd_M_init_62 : decode kb_M_init 62 = .ok (.aload_n 0, 1) := by decide +kernel
theorem kd_M_init_63 : decode kb_M_init 63 = .ok (.iconst 4, 1) := by decide +kernel
theorem kd_M_init_64 : decode kb_M_init 64 = .ok (.newarray .int, 2) := by decide +kernel
theorem kd_M_init_66 : decode kb_M_init 66 = .ok (.putfield 35, 3) := by decide +kernel
theorem kd_M_init_69 : decode kb_M_init 69 = .ok (.aload_n 0, 1) := by decide +kernel
theorem kd_M_init_70 : decode kb_M_init 70 = .ok (.iconst 4, 1) := by decide +kernel
theorem kd_M_init_71 : decode kb_M_init 71 = .ok (.newarray .int, 2) := by decide +kernel
theorem kd_M_init_73 : decode kb_M_init 73 = .ok (.putfield 38, 3) := by decide +kernel
theorem kd_M_init_76 : decode kb_M_init 76 = .ok (.aload_n 0, 1) := by decide +kernel
theorem kd_M_init_77 : decode kb_M_init 77 = .ok (.sipush 512, 3) := by decide +kernel
theorem kd_M_init_80 : decode kb_M_init 80 = .ok (.newarray .int, 2) := by decide +kernel
theorem kd_M_init_82 : decode kb_M_init 82 = .ok (.putfield 41, 3) := by decide +kernel
theorem kd_M_init_85 : decode kb_M_init 85 = .ok (.aload_n 0, 1) := by decide +kernel
theorem kd_M_init_86 : decode kb_M_init 86 = .ok (.sipush 512, 3) := by decide +kernel
theorem kd_M_init_89 : decode kb_M_init 89 = .ok (.newarray .boolean, 2) := by decide +kernel
theorem kd_M_init_91 : decode kb_M_init 91 = .ok (.putfield 44, 3) := by decide +kernel
theorem kd_M_init_94 : decode kb_M_init 94 = .ok (.aload_n 0, 1) := by decide +kernel
theorem kd_M_init_95 : decode kb_M_init 95 = .ok (.sipush 512, 3) := by decide +kernel
theorem kd_M_init_98 : decode kb_M_init 98 = .ok (.newarray .int, 2) := by decide +kernel
theorem kd_M_init_100 : decode kb_M_init 100 = .ok (.putfield 47, 3) := by decide +kernel
theorem kd_M_init_103 : decode kb_M_init 103 = .ok (.aload_n 0, 1) := by decide +kernel
theorem kd_M_init_104 : decode kb_M_init 104 = .ok (.sipush 512, 3) := by decide +kernel
theorem kd_M_init_107 : decode kb_M_init 107 = .ok (.newarray .int, 2) := by decide +kernel
theorem kd_M_init_109 : decode kb_M_init 109 = .ok (.putfield 50, 3) := by decide +kernel
theorem kd_M_init_112 : decode kb_M_init 112 = .ok (.aload_n 0, 1) := by decide +kernel
theorem kd_M_init_113 : decode kb_M_init 113 = .ok (.sipush 512, 3) := by decide +kernel
theorem kd_M_init_116 : decode kb_M_init 116 = .ok (.newarray .boolean, 2) := by decide +kernel
theorem kd_M_init_118 : decode kb_M_init 118 = .ok (.putfield 53, 3) := by decide +kernel
theorem kd_M_init_121 : decode kb_M_init 121 = .ok (.aload_n 0, 1) := by decide +kernel
theorem kd_M_init_122 : decode kb_M_init 122 = .ok (.bipush 64, 2) := by decide +kernel
theorem kd_M_init_124 : decode kb_M_init 124 = .ok (.newarray .int, 2) := by decide +kernel
theorem kd_M_init_126 : decode kb_M_init 126 = .ok (.putfield 56, 3) := by decide +kernel
theorem kd_M_init_129 : decode kb_M_init 129 = .ok (.aload_n 0, 1) := by decide +kernel
theorem kd_M_init_130 : decode kb_M_init 130 = .ok (.bipush 64, 2) := by decide +kernel
theorem kd_M_init_132 : decode kb_M_init 132 = .ok (.newarray .int, 2) := by decide +kernel
theorem kd_M_init_134 : decode kb_M_init 134 = .ok (.putfield 59, 3) := by decide +kernel
theorem kd_M_init_137 : decode kb_M_init 137 = .ok (.aload_n 0, 1) := by decide +kernel
theorem kd_M_init_138 : decode kb_M_init 138 = .ok (.sipush 400, 3) := by decide +kernel
theorem kd_M_init_141 : decode kb_M_init 141 = .ok (.newarray .int, 2) := by decide +kernel
theorem kd_M_init_143 : decode kb_M_init 143 = .ok (.putfield 62, 3) := by decide +kernel
theorem kd_M_init_146 : decode kb_M_init 146 = .ok (.return_, 1) := by decide +kernel
theorem kd_M_thrown_0 : decode kb_M_thrown 0 = .ok (.aload_n 0, 1) := by decide +kernel
theorem kd_M_thrown_1 : decode kb_M_thrown 1 = .ok (.getfield 65, 3) := by decide +kernel
theorem kd_M_thrown_4 : decode kb_M_thrown 4 = .ok (.ireturn, 1) := by decide +kernel
theorem kd_M_make_0 : decode kb_M_make 0 = .ok (.iload_n 3, 1) := by decide +kernel
theorem kd_M_make_1 : decode kb_M_make 1 = .ok (.iconst 1, 1) := by decide +kernel
theorem kd_M_make_2 : decode kb_M_make 2 = .ok (.if_icmp .eq 19, 3) := by decide +kernel
theorem kd_M_make_5 : decode kb_M_make 5 = .ok (.iload_n 3, 1) := by decide +kernel
theorem kd_M_make_6 : decode kb_M_make 6 = .ok (.iconst 2, 1) := by decide +kernel
theorem kd_M_make_7 : decode kb_M_make 7 = .ok (.if_icmp .eq 14, 3) := by decide +kernel
theorem kd_M_make_10 : decode kb_M_make 10 = .ok (.iload_n 3, 1) := by decide +kernel
theorem kd_M_make_11 : decode kb_M_make 11 = .ok (.iconst 4, 1) := by decide +kernel
theorem kd_M_make_12 : decode kb_M_make 12 = .ok (.if_icmp .eq 9, 3) := by decide +kernel
theorem kd_M_make_15 : decode kb_M_make 15 = .ok (.iload_n 3, 1) := by decide +kernel
theorem kd_M_make_16 : decode kb_M_make 16 = .ok (.bipush 8, 2) := by decide +kernel
theorem kd_M_make_18 : decode kb_M_make 18 = .ok (.if_icmp .ne 7, 3) := by decide +kernel
theorem kd_M_make_21 : decode kb_M_make 21 = .ok (.iconst 1, 1) := by decide +kernel
theorem kd_M_make_22 : decode kb_M_make 22 = .ok (.goto 4, 3) := by decide +kernel
theorem kd_M_make_25 : decode kb_M_make 25 = .ok (.iconst 0, 1) := by decide +kernel
theorem kd_M_make_26 : decode kb_M_make 26 = .ok (.istore 6, 2) := by decide +kernel
theorem kd_M_make_28 : decode kb_M_make 28 = .ok (.iload_n 1, 1) := by decide +kernel
theorem kd_M_make_29 : decode kb_M_make 29 = .ok (.iconst 0, 1) := by decide +kernel
theorem kd_M_make_30 : decode kb_M_make 30 = .ok (.iconst 3, 1) := by decide +kernel
theorem kd_M_make_31 : decode kb_M_make 31 = .ok (.invokestatic 69, 3) := by decide +kernel
theorem kd_M_make_34 : decode kb_M_make 34 = .ok (.ifCond .eq 58, 3) := by decide +kernel
theorem kd_M_make_37 : decode kb_M_make 37 = .ok (.iload_n 2, 1) := by decide +kernel
theorem kd_M_make_38 : decode kb_M_make 38 = .ok (.iconst 0, 1) := by decide +kernel
theorem kd_M_make_39 : decode kb_M_make 39 = .ok (.iconst 4, 1) := by decide +kernel
theorem kd_M_make_40 : decode kb_M_make 40 = .ok (.invokestatic 69, 3) := by decide +kernel
theorem kd_M_make_43 : decode kb_M_make 43 = .ok (.ifCond .eq 49, 3) := by decide +kernel
theorem kd_M_make_46 : decode kb_M_make 46 = .ok (.iload_n 3, 1) := by decide +kernel
theorem kd_M_make_47 : decode kb_M_make 47 = .ok (.iconst 1, 1) := by decide +kernel
theorem kd_M_make_48 : decode kb_M_make 48 = .ok (.bipush 8, 2) := by decide +kernel
theorem kd_M_make_50 : decode kb_M_make 50 = .ok (.invokestatic 69, 3) := by decide +kernel
theorem kd_M_make_53 : decode kb_M_make 53 = .ok (.ifCond .eq 39, 3) := by decide +kernel
theorem kd_M_make_56 : decode kb_M_make 56 = .ok (.iload 4, 2) := by decide +kernel
theorem kd_M_make_58 : decode kb_M_make 58 = .ok (.iconst 0, 1) := by decide +kernel
theorem kd_M_make_59 : decode kb_M_make 59 = .ok (.iconst 2, 1) := by decide +kernel
theorem kd_M_make_60 : decode kb_M_make 60 = .ok (.invokestatic 69, 3) := by decide +kernel
theorem kd_M_make_63 : decode kb_M_make 63 = .ok (.ifCond .eq 29, 3) := by decide +kernel
theorem kd_M_make_66 : decode kb_M_make 66 = .ok (.iload 5, 2) := by decide +kernel
theorem kd_M_make_68 : decode kb_M_make 68 = .ok (.iconst 0, 1) := by decide +kernel
theorem kd_M_make_69 : decode kb_M_make 69 = .ok (.bipush 6, 2) := by decide +kernel
theorem kd_M_make_71 : decode kb_M_make 71 = .ok (.invokestatic 69, 3) := by decide +kernel
theorem kd_M_make_74 : decode kb_M_make 74 = .ok (.ifCond .eq 18, 3) := by decide +kernel
theorem kd_M_make_77 : decode kb_M_make 77 = .ok (.iload 4, 2) := by decide +kernel
theorem kd_M_make_79 : decode kb_M_make 79 = .ok (.iconst 2, 1) := by decide +kernel
theorem kd_M_make_80 : decode kb_M_make 80 = .ok (.if_icmp .lt 8, 3) := by decide +kernel
theorem kd_M_make_83 : decode kb_M_make 83 = .ok (.iload 6, 2) := by decide +kernel
theorem kd_M_make_85 : decode kb_M_make 85 = .ok (.ifCond .eq 7, 3) := by decide +kernel
theorem kd_M_make_88 : decode kb_M_make 88 = .ok (.iconst 1, 1) := by decide +kernel
theorem kd_M_make_89 : decode kb_M_make 89 = .ok (.goto 4, 3) := by decide +kernel
theorem kd_M_make_92 : decode kb_M_make 92 = .ok (.iconst 0, 1) := by decide +kernel
theorem kd_M_make_93 : decode kb_M_make 93 = .ok (.istore 7, 2) := by decide +kernel
theorem kd_M_make_95 : decode kb_M_make 95 = .ok (.aload_n 0, 1) := by decide +kernel
theorem kd_M_make_96 : decode kb_M_make 96 = .ok (.iload 7, 2) := by decide +kernel
theorem kd_M_make_98 : decode kb_M_make 98 = .ok (.ifCond .ne 7, 3) := by decide +kernel
theorem kd_M_make_101 : decode kb_M_make 101 = .ok (.iconst 1, 1) := by decide +kernel
theorem kd_M_make_102 : decode kb_M_make 102 = .ok (.goto 4, 3) := by decide +kernel
theorem kd_M_make_105 : decode kb_M_make 105 = .ok (.iconst 0, 1) := by decide +kernel
theorem kd_M_make_106 : decode kb_M_make 106 = .ok (.iconst 0, 1) := by decide +kernel
theorem kd_M_make_107 : decode kb_M_make 107 = .ok (.iconst 0, 1) := by decide +kernel
theorem kd_M_make_108 : decode kb_M_make 108 = .ok (.invokevirtual 73, 3) := by decide +kernel
theorem kd_M_make_111 : decode kb_M_make 111 = .ok (.ifCond .eq 4, 3) := by decide +kernel
theorem kd_M_make_114 : decode kb_M_make 114 = .ok (.return_, 1) := by decide +kernel
theorem kd_M_make_115 : decode kb_M_make 115 = .ok (.aload_n 0, 1) := by decide +kernel
theorem kd_M_make_116 : decode kb_M_make 116 = .ok (.getfield 13, 3) := by decide +kernel
theorem kd_M_make_119 : decode kb_M_make 119 = .ok (.iload_n 1, 1) := by decide +kernel
theorem kd_M_make_120 : decode kb_M_make 120 = .ok (.iconst 1, 1) := by decide +kernel
theorem kd_M_make_121 : decode kb_M_make 121 = .ok (.bastore, 1) := by decide +kernel
theorem kd_M_make_122 : decode kb_M_make 122 = .ok (.aload_n 0, 1) := by decide +kernel
theorem kd_M_make_123 : decode kb_M_make 123 = .ok (.getfield 17, 3) := by decide +kernel
theorem kd_M_make_126 : decode kb_M_make 126 = .ok (.iload_n 1, 1) := by decide +kernel
theorem kd_M_make_127 : decode kb_M_make 127 = .ok (.iload_n 2, 1) := by decide +kernel
theorem kd_M_make_128 : decode kb_M_make 128 = .ok (.iastore, 1) := by decide +kernel
theorem kd_M_make_129 : decode kb_M_make 129 = .ok (.aload_n 0, 1) := by decide +kernel
theorem kd_M_make_130 : decode kb_M_make 130 = .ok (.getfield 20, 3) := by decide +kernel
theorem kd_M_make_133 : decode kb_M_make 133 = .ok (.iload_n 1, 1) := by decide +kernel
theorem kd_M_make_134 : decode kb_M_make 134 = .ok (.iload_n 3, 1) := by decide +kernel
theorem kd_M_make_135 : decode kb_M_make 135 = .ok (.iastore, 1) := by decide +kernel
theorem kd_M_make_136 : decode kb_M_make 136 = .ok (.aload_n 0, 1) := by decide +kernel
theorem kd_M_make_137 : decode kb_M_make 137 = .ok (.getfield 23, 3) := by decide +kernel
theorem kd_M_make_140 : decode kb_M_make 140 = .ok (.iload_n 1, 1) := by decide +kernel
theorem kd_M_make_141 : decode kb_M_make 141 = .ok (.iload 4, 2) := by decide +kernel
theorem kd_M_make_143 : decode kb_M_make 143 = .ok (.iastore, 1) := by decide +kernel
theorem kd_M_make_144 : decode kb_M_make 144 = .ok (.aload_n 0, 1) := by decide +kernel
theorem kd_M_make_145 : decode kb_M_make 145 = .ok (.getfield 26, 3) := by decide +kernel
theorem kd_M_make_148 : decode kb_M_make 148 = .ok (.iload_n 1, 1) := by decide +kernel
theorem kd_M_make_149 : decode kb_M_make 149 = .ok (.iload 5, 2) := by decide +kernel
theorem kd_M_make_151 : decode kb_M_make 151 = .ok (.iastore, 1) := by decide +kernel
theorem kd_M_make_152 : decode kb_M_make 152 = .ok (.aload_n 0, 1) := by decide +kernel
theorem kd_M_make_153 : decode kb_M_make 153 = .ok (.getfield 29, 3) := by decide +kernel
theorem kd_M_make_156 : decode kb_M_make 156 = .ok (.iload_n 1, 1) := by decide +kernel
theorem kd_M_make_157 : decode kb_M_make 157 = .ok (.iconst 0, 1) := by decide +kernel
theorem kd_M_make_158 : decode kb_M_make 158 = .ok (.iastore, 1) := by decide +kernel
theorem kd_M_make_159 : decode kb_M_make 159 = .ok (.aload_n 0, 1) := by decide +kernel
theorem kd_M_make_160 : decode kb_M_make 160 = .ok (.getfield 32, 3) := by decide +kernel
theorem kd_M_make_163 : decode kb_M_make 163 = .ok (.iload_n 1, 1) := by decide +kernel
theorem kd_M_make_164 : decode kb_M_make 164 = .ok (.iconst 0, 1) := by decide +kernel
theorem kd_M_make_165 : decode kb_M_make 165 = .ok (.iastore, 1) := by decide +kernel
theorem kd_M_make_166 : decode kb_M_make 166 = .ok (.aload_n 0, 1) := by decide +kernel
theorem kd_M_make_167 : decode kb_M_make 167 = .ok (.getfield 35, 3) := by decide +kernel
theorem kd_M_make_170 : decode kb_M_make 170 = .ok (.iload_n 1, 1) := by decide +kernel
theorem kd_M_make_171 : decode kb_M_make 171 = .ok (.iconst 0, 1) := by decide +kernel
theorem kd_M_make_172 : decode kb_M_make 172 = .ok (.iastore, 1) := by decide +kernel
theorem kd_M_make_173 : decode kb_M_make 173 = .ok (.aload_n 0, 1) := by decide +kernel
theorem kd_M_make_174 : decode kb_M_make 174 = .ok (.getfield 38, 3) := by decide +kernel
theorem kd_M_make_177 : decode kb_M_make 177 = .ok (.iload_n 1, 1) := by decide +kernel
theorem kd_M_make_178 : decode kb_M_make 178 = .ok (.iconst 0, 1) := by decide +kernel
theorem kd_M_make_179 : decode kb_M_make 179 = .ok (.iastore, 1) := by decide +kernel
theorem kd_M_make_180 : decode kb_M_make 180 = .ok (.aload_n 0, 1) := by decide +kernel
theorem kd_M_make_181 : decode kb_M_make 181 = .ok (.iload_n 1, 1) := by decide +kernel
theorem kd_M_make_182 : decode kb_M_make 182 = .ok (.invokevirtual 77, 3) := by decide +kernel
theorem kd_M_make_185 : decode kb_M_make 185 = .ok (.return_, 1) := by decide +kernel
theorem kd_M_in_0 : decode kb_M_in 0 = .ok (.iload_n 0, 1) := by decide +kernel
theorem kd_M_in_1 : decode kb_M_in 1 = .ok (.iload_n 1, 1) := by decide +kernel
theorem kd_M_in_2 : decode kb_M_in 2 = .ok (.if_icmp .lt 12, 3) := by decide +kernel
theorem kd_M_in_5 : decode kb_M_in 5 = .ok (.iload_n 0, 1) := by decide +kernel
theorem kd_M_in_6 : decode kb_M_in 6 = .ok (.iload_n 2, 1) := by decide +kernel
theorem kd_M_in_7 : decode kb_M_in 7 = .ok (.if_icmp .gt 7, 3) := by decide +kernel
theorem kd_M_in_10 : decode kb_M_in 10 = .ok (.iconst 1, 1) := by decide +kernel
theorem kd_M_in_11 : decode kb_M_in 11 = .ok (.goto 4, 3) := by decide +kernel
theorem kd_M_in_14 : decode kb_M_in 14 = .ok (.iconst 0, 1) := by decide +kernel
theorem kd_M_in_15 : decode kb_M_in 15 = .ok (.ireturn, 1) := by decide +kernel
theorem kd_M_refuse_0 : decode kb_M_refuse 0 = .ok (.aload_n 0, 1) := by decide +kernel
theorem kd_M_refuse_1 : decode kb_M_refuse 1 = .ok (.iload_n 1, 1) := by decide +kernel
theorem kd_M_refuse_2 : decode kb_M_refuse 2 = .ok (.ifCond .eq 7, 3) := by decide +kernel
theorem kd_M_refuse_5 : decode kb_M_refuse 5 = .ok (.iconst 1, 1) := by decide +kernel
theorem kd_M_refuse_6 : decode kb_M_refuse 6 = .ok (.goto 20, 3) := by decide +kernel
theorem kd_M_refuse_9 : decode kb_M_refuse 9 = .ok (.iload_n 2, 1) := by decide +kernel
theorem kd_M_refuse_10 : decode kb_M_refuse 10 = .ok (.ifCond .eq 7, 3) := by decide +kernel
theorem kd_M_refuse_13 : decode kb_M_refuse 13 = .ok (.iconst 2, 1) := by decide +kernel
theorem kd_M_refuse_14 : decode kb_M_refuse 14 = .ok (.goto 12, 3) := by decide +kernel
theorem kd_M_refuse_17 : decode kb_M_refuse 17 = .ok (.iload_n 3, 1) := by decide +kernel
theorem kd_M_refuse_18 : decode kb_M_refuse 18 = .ok (.ifCond .eq 7, 3) := by decide +kernel
theorem kd_M_refuse_21 : decode kb_M_refuse 21 = .ok (.iconst 3, 1) := by decide +kernel
theorem kd_M_refuse_22 : decode kb_M_refuse 22 = .ok (.goto 4, 3) := by decide +kernel
theorem kd_M_refuse_25 : decode kb_M_refuse 25 = .ok (.iconst 0, 1) := by decide +kernel
theorem kd_M_refuse_26 : decode kb_M_refuse 26 = .ok (.putfield 65, 3) := by decide +kernel
theorem kd_M_refuse_29 : decode kb_M_refuse 29 = .ok (.aload_n 0, 1) := by decide +kernel
theorem kd_M_refuse_30 : decode kb_M_refuse 30 = .ok (.getfield 65, 3) := by decide +kernel
theorem kd_M_refuse_33 : decode kb_M_refuse 33 = .ok (.ifCond .le 7, 3) := by decide +kernel
theorem kd_M_refuse_36 : decode kb_M_refuse 36 = .ok (.iconst 1, 1) := by decide +kernel
theorem kd_M_refuse_37 : decode kb_M_refuse 37 = .ok (.goto 4, 3) := by decide +kernel
theorem kd_M_refuse_40 : decode kb_M_refuse 40 = .ok (.iconst 0, 1) := by decide +kernel
theorem kd_M_refuse_41 : decode kb_M_refuse 41 = .ok (.ireturn, 1) := by decide +kernel
theorem kd_M_empty_0 : decode kb_M_empty 0 = .ok (.iconst 0, 1) := by decide +kernel
theorem kd_M_empty_1 : decode kb_M_empty 1 = .ok (.istore_n 2, 1) := by decide +kernel
theorem kd_M_empty_2 : decode kb_M_empty 2 = .ok (.iload_n 2, 1) := by decide +kernel
theorem kd_M_empty_3 : decode kb_M_empty 3 = .ok (.sipush 128, 3) := by decide +kernel
theorem kd_M_empty_6 : decode kb_M_empty 6 = .ok (.if_icmp .ge 48, 3) := by decide +kernel
theorem kd_M_empty_9 : decode kb_M_empty 9 = .ok (.aload_n 0, 1) := by decide +kernel
theorem kd_M_empty_10 : decode kb_M_empty 10 = .ok (.getfield 41, 3) := by decide +kernel
theorem kd_M_empty_13 : decode kb_M_empty 13 = .ok (.sipush 128, 3) := by decide +kernel
theorem kd_M_empty_16 : decode kb_M_empty 16 = .ok (.iload_n 1, 1) := by decide +kernel
theorem kd_M_empty_17 : decode kb_M_empty 17 = .ok (.imul, 1) := by decide +kernel
theorem kd_M_empty_18 : decode kb_M_empty 18 = .ok (.iload_n 2, 1) := by decide +kernel
theorem kd_M_empty_19 : decode kb_M_empty 19 = .ok (.iadd, 1) := by decide +kernel
theorem kd_M_empty_20 : decode kb_M_empty 20 = .ok (.iconst (-1), 1) := by decide +kernel
theorem kd_M_empty_21 : decode kb_M_empty 21 = .ok (.iastore, 1) := by decide +kernel
theorem kd_M_empty_22 : decode kb_M_empty 22 = .ok (.aload_n 0, 1) := by decide +kernel
theorem kd_M_empty_23 : decode kb_M_empty 23 = .ok (.getfield 44, 3) := by decide +kernel
theorem kd_M_empty_26 : decode kb_M_empty 26 = .ok (.sipush 128, 3) := by decide +kernel
theorem kd_M_empty_29 : decode kb_M_empty 29 = .ok (.iload_n 1, 1) := by decide +kernel
theorem kd_M_empty_30 : decode kb_M_empty 30 = .ok (.imul, 1) := by decide +kernel
theorem kd_M_empty_31 : decode kb_M_empty 31 = .ok (.iload_n 2, 1) := by decide +kernel
theorem kd_M_empty_32 : decode kb_M_empty 32 = .ok (.iadd, 1) := by decide +kernel
theorem kd_M_empty_33 : decode kb_M_empty 33 = .ok (.iconst 0, 1) := by decide +kernel
theorem kd_M_empty_34 : decode kb_M_empty 34 = .ok (.bastore, 1) := by decide +kernel
theorem kd_M_empty_35 : decode kb_M_empty 35 = .ok (.aload_n 0, 1) := by decide +kernel
theorem kd_M_empty_36 : decode kb_M_empty 36 = .ok (.getfield 53, 3) := by decide +kernel
theorem kd_M_empty_39 : decode kb_M_empty 39 = .ok (.sipush 128, 3) := by decide +kernel
theorem kd_M_empty_42 : decode kb_M_empty 42 = .ok (.iload_n 1, 1) := by decide +kernel
theorem kd_M_empty_43 : decode kb_M_empty 43 = .ok (.imul, 1) := by decide +kernel
theorem kd_M_empty_44 : decode kb_M_empty 44 = .ok (.iload_n 2, 1) := by decide +kernel
theorem kd_M_empty_45 : decode kb_M_empty 45 = .ok (.iadd, 1) := by decide +kernel
theorem kd_M_empty_46 : decode kb_M_empty 46 = .ok (.iconst 0, 1) := by decide +kernel
theorem kd_M_empty_47 : decode kb_M_empty 47 = .ok (.bastore, 1) := by decide +kernel
theorem kd_M_empty_48 : decode kb_M_empty 48 = .ok (.iinc 2 1, 3) := by decide +kernel
theorem kd_M_empty_51 : decode kb_M_empty 51 = .ok (.goto (-49), 3) := by decide +kernel
theorem kd_M_empty_54 : decode kb_M_empty 54 = .ok (.return_, 1) := by decide +kernel
theorem kd_M_access_0 : decode kb_M_access 0 = .ok (.iload_n 1, 1) := by decide +kernel
theorem kd_M_access_1 : decode kb_M_access 1 = .ok (.iconst 0, 1) := by decide +kernel
theorem kd_M_access_2 : decode kb_M_access 2 = .ok (.sipush 4095, 3) := by decide +kernel
theorem kd_M_access_5 : decode kb_M_access 5 = .ok (.invokestatic 69, 3) := by decide +kernel
theorem kd_M_access_8 : decode kb_M_access 8 = .ok (.istore_n 3, 1) := by decide +kernel
theorem kd_M_access_9 : decode kb_M_access 9 = .ok (.aload_n 0, 1) := by decide +kernel
theorem kd_M_access_10 : decode kb_M_access 10 = .ok (.iload_n 3, 1) := by decide +kernel
theorem kd_M_access_11 : decode kb_M_access 11 = .ok (.ifCond .ne 7, 3) := by decide +kernel
theorem kd_M_access_14 : decode kb_M_access 14 = .ok (.iconst 1, 1) := by decide +kernel
theorem kd_M_access_15 : decode kb_M_access 15 = .ok (.goto 4, 3) := by decide +kernel
theorem kd_M_access_18 : decode kb_M_access 18 = .ok (.iconst 0, 1) := by decide +kernel
theorem kd_M_access_19 : decode kb_M_access 19 = .ok (.aload_n 0, 1) := by decide +kernel
theorem kd_M_access_20 : decode kb_M_access 20 = .ok (.getfield 92, 3) := by decide +kernel
theorem kd_M_access_23 : decode kb_M_access 23 = .ok (.sipush 400, 3) := by decide +kernel
theorem kd_M_access_26 : decode kb_M_access 26 = .ok (.if_icmp .ne 7, 3) := by decide +kernel
theorem kd_M_access_29 : decode kb_M_access 29 = .ok (.iconst 1, 1) := by decide +kernel
theorem kd_M_access_30 : decode kb_M_access 30 = .ok (.goto 4, 3) := by decide +kernel
theorem kd_M_access_33 : decode kb_M_access 33 = .ok (.iconst 0, 1) := by decide +kernel
theorem kd_M_access_34 : decode kb_M_access 34 = .ok (.iconst 0, 1) := by decide +kernel
theorem kd_M_access_35 : decode kb_M_access 35 = .ok (.invokevirtual 73, 3) := by decide +kernel
theorem kd_M_access_38 : decode kb_M_access 38 = .ok (.ifCond .eq 5, 3) := by decide +kernel
theorem kd_M_access_41 : decode kb_M_access 41 = .ok (.iconst 0, 1) := by decide +kernel
theorem kd_M_access_42 : decode kb_M_access 42 = .ok (.ireturn, 1) := by decide +kernel
theorem kd_M_access_43 : decode kb_M_access 43 = .ok (.iconst 0, 1) := by decide +kernel
theorem kd_M_access_44 : decode kb_M_access 44 = .ok (.istore 4, 2) := by decide +kernel
theorem kd_M_access_46 : decode kb_M_access 46 = .ok (.iconst 0, 1) := by decide +kernel
theorem kd_M_access_47 : decode kb_M_access 47 = .ok (.istore 5, 2) := by decide +kernel
theorem kd_M_access_49 : decode kb_M_access 49 = .ok (.iload 5, 2) := by decide +kernel
theorem kd_M_access_51 : decode kb_M_access 51 = .ok (.iconst 4, 1) := by decide +kernel
theorem kd_M_access_52 : decode kb_M_access 52 = .ok (.if_icmp .ge 56, 3) := by decide +kernel
theorem kd_M_access_55 : decode kb_M_access 55 = .ok (.aload_n 0, 1) := by decide +kernel
theorem kd_M_access_56 : decode kb_M_access 56 = .ok (.getfield 13, 3) := by decide +kernel
theorem kd_M_access_59 : decode kb_M_access 59 = .ok (.iload 5, 2) := by decide +kernel
theorem kd_M_access_61 : decode kb_M_access 61 = .ok (.baload, 1) := by decide +kernel
theorem kd_M_access_62 : decode kb_M_access 62 = .ok (.ifCond .eq 18, 3) := by decide +kernel
theorem kd_M_access_65 : decode kb_M_access 65 = .ok (.aload_n 0, 1) := by decide +kernel
theorem kd_M_access_66 : decode kb_M_access 66 = .ok (.iload 5, 2) := by decide +kernel
theorem kd_M_access_68 : decode kb_M_access 68 = .ok (.iload_n 1, 1) := by decide +kernel
theorem kd_M_access_69 : decode kb_M_access 69 = .ok (.iload_n 2, 1) := by decide +kernel
theorem kd_M_access_70 : decode kb_M_access 70 = .ok (.invokevirtual 99, 3) := by decide +kernel
theorem kd_M_access_73 : decode kb_M_access 73 = .ok (.ifCond .eq 7, 3) := by decide +kernel
theorem kd_M_access_76 : decode kb_M_access 76 = .ok (.iconst 1, 1) := by decide +kernel
theorem kd_M_access_77 : decode kb_M_access 77 = .ok (.goto 4, 3) := by decide +kernel
theorem kd_M_access_80 : decode kb_M_access 80 = .ok (.iconst 0, 1) := by decide +kernel
theorem kd_M_access_81 : decode kb_M_access 81 = .ok (.istore 6, 2) := by decide +kernel
theorem kd_M_access_83 : decode kb_M_access 83 = .ok (.iload 6, 2) := by decide +kernel
theorem kd_M_access_85 : decode kb_M_access 85 = .ok (.ifCond .eq 13, 3) := by decide +kernel
theorem kd_M_access_88 : decode kb_M_access 88 = .ok (.iload 4, 2) := by decide +kernel
theorem kd_M_access_90 : decode kb_M_access 90 = .ok (.iconst 1, 1) := by decide +kernel
theorem kd_M_access_91 : decode kb_M_access 91 = .ok (.iload 5, 2) := by decide +kernel
theorem kd_M_access_93 : decode kb_M_access 93 = .ok (.ishl, 1) := by decide +kernel
theorem kd_M_access_94 : decode kb_M_access 94 = .ok (.ior, 1) := by decide +kernel
theorem kd_M_access_95 : decode kb_M_access 95 = .ok (.goto 5, 3) := by decide +kernel
theorem kd_M_access_98 : decode kb_M_access 98 = .ok (.iload 4, 2) := by decide +kernel
theorem kd_M_access_100 : decode kb_M_access 100 = .ok (.istore 4, 2) := by decide +kernel
theorem kd_M_access_102 : decode kb_M_access 102 = .ok (.iinc 5 1, 3) := by decide +kernel
theorem kd_M_access_105 : decode kb_M_access 105 = .ok (.goto (-56), 3) := by decide +kernel
theorem kd_M_access_108 : decode kb_M_access 108 = .ok (.aload_n 0, 1) := by decide +kernel
theorem kd_M_access_109 : decode kb_M_access 109 = .ok (.getfield 7, 3) := by decide +kernel
theorem kd_M_access_112 : decode kb_M_access 112 = .ok (.aload_n 0, 1) := by decide +kernel
theorem kd_M_access_113 : decode kb_M_access 113 = .ok (.getfield 92, 3) := by decide +kernel
theorem kd_M_access_116 : decode kb_M_access 116 = .ok (.iload_n 1, 1) := by decide +kernel
theorem kd_M_access_117 : decode kb_M_access 117 = .ok (.iastore, 1) := by decide +kernel
theorem kd_M_access_118 : decode kb_M_access 118 = .ok (.aload_n 0, 1) := by decide +kernel
theorem kd_M_access_119 : decode kb_M_access 119 = .ok (.dup, 1) := by decide +kernel
theorem kd_M_access_120 : decode kb_M_access 120 = .ok (.getfield 92, 3) := by decide +kernel
theorem kd_M_access_123 : decode kb_M_access 123 = .ok (.iconst 1, 1) := by decide +kernel
theorem kd_M_access_124 : decode kb_M_access 124 = .ok (.iadd, 1) := by decide +kernel
theorem kd_M_access_125 : decode kb_M_access 125 = .ok (.putfield 92, 3) := by decide +kernel
theorem kd_M_access_128 : decode kb_M_access 128 = .ok (.iload 4, 2) := by decide +kernel
theorem kd_M_access_130 : decode kb_M_access 130 = .ok (.ireturn, 1) := by decide +kernel
theorem kd_M_see_0 : decode kb_M_see 0 = .ok (.iload_n 2, 1) := by decide +kernel
theorem kd_M_see_1 : decode kb_M_see 1 = .ok (.aload_n 0, 1) := by decide +kernel
theorem kd_M_see_2 : decode kb_M_see 2 = .ok (.getfield 26, 3) := by decide +kernel
theorem kd_M_see_5 : decode kb_M_see 5 = .ok (.iload_n 1, 1) := by decide +kernel
theorem kd_M_see_6 : decode kb_M_see 6 = .ok (.iaload, 1) := by decide +kernel
theorem kd_M_see_7 : decode kb_M_see 7 = .ok (.ishr, 1) := by decide +kernel
theorem kd_M_see_8 : decode kb_M_see 8 = .ok (.istore 4, 2) := by decide +kernel
theorem kd_M_see_10 : decode kb_M_see 10 = .ok (.sipush 128, 3) := by decide +kernel
theorem kd_M_see_13 : decode kb_M_see 13 = .ok (.iload_n 1, 1) := by decide +kernel
theorem kd_M_see_14 : decode kb_M_see 14 = .ok (.imul, 1) := by decide +kernel
theorem kd_M_see_15 : decode kb_M_see 15 = .ok (.bipush 8, 2) := by decide +kernel
theorem kd_M_see_17 : decode kb_M_see 17 = .ok (.iload 4, 2) := by decide +kernel
theorem kd_M_see_19 : decode kb_M_see 19 = .ok (.iconst 1, 1) := by decide +kernel
theorem kd_M_see_20 : decode kb_M_see 20 = .ok (.aload_n 0, 1) := by decide +kernel
theorem kd_M_see_21 : decode kb_M_see 21 = .ok (.getfield 17, 3) := by decide +kernel
theorem kd_M_see_24 : decode kb_M_see 24 = .ok (.iload_n 1, 1) := by decide +kernel
theorem kd_M_see_25 : decode kb_M_see 25 = .ok (.iaload, 1) := by decide +kernel
theorem kd_M_see_26 : decode kb_M_see 26 = .ok (.ishl, 1) := by decide +kernel
theorem kd_M_see_27 : decode kb_M_see 27 = .ok (.iconst 1, 1) := by decide +kernel
theorem kd_M_see_28 : decode kb_M_see 28 = .ok (.isub, 1) := by decide +kernel
theorem kd_M_see_29 : decode kb_M_see 29 = .ok (.iand, 1) := by decide +kernel
theorem kd_M_see_30 : decode kb_M_see 30 = .ok (.imul, 1) := by decide +kernel
theorem kd_M_see_31 : decode kb_M_see 31 = .ok (.iadd, 1) := by decide +kernel
theorem kd_M_see_32 : decode kb_M_see 32 = .ok (.istore 5, 2) := by decide +kernel
theorem kd_M_see_34 : decode kb_M_see 34 = .ok (.aload_n 0, 1) := by decide +kernel
theorem kd_M_see_35 : decode kb_M_see 35 = .ok (.iload_n 1, 1) := by decide +kernel
theorem kd_M_see_36 : decode kb_M_see 36 = .ok (.iload 5, 2) := by decide +kernel
theorem kd_M_see_38 : decode kb_M_see 38 = .ok (.iload 4, 2) := by decide +kernel
theorem kd_M_see_40 : decode kb_M_see 40 = .ok (.invokevirtual 85, 3) := by decide +kernel
theorem kd_M_see_43 : decode kb_M_see 43 = .ok (.istore 6, 2) := by decide +kernel
theorem kd_M_see_45 : decode kb_M_see 45 = .ok (.iload 6, 2) := by decide +kernel
theorem kd_M_see_47 : decode kb_M_see 47 = .ok (.ifCond .lt 7, 3) := by decide +kernel
theorem kd_M_see_50 : decode kb_M_see 50 = .ok (.iconst 1, 1) := by decide +kernel
theorem kd_M_see_51 : decode kb_M_see 51 = .ok (.goto 4, 3) := by decide +kernel
theorem kd_M_see_54 : decode kb_M_see 54 = .ok (.iconst 0, 1) := by decide +kernel
theorem kd_M_see_55 : decode kb_M_see 55 = .ok (.istore 7, 2) := by decide +kernel
theorem kd_M_see_57 : decode kb_M_see 57 = .ok (.iload 7, 2) := by decide +kernel
theorem kd_M_see_59 : decode kb_M_see 59 = .ok (.ifCond .eq 16, 3) := by decide +kernel
theorem kd_M_see_62 : decode kb_M_see 62 = .ok (.aload_n 0, 1) := by decide +kernel
theorem kd_M_see_63 : decode kb_M_see 63 = .ok (.getfield 29, 3) := by decide +kernel
theorem kd_M_see_66 : decode kb_M_see 66 = .ok (.iload_n 1, 1) := by decide +kernel
theorem kd_M_see_67 : decode kb_M_see 67 = .ok (.dup2, 1) := by decide +kernel
theorem kd_M_see_68 : decode kb_M_see 68 = .ok (.iaload, 1) := by decide +kernel
theorem kd_M_see_69 : decode kb_M_see 69 = .ok (.iconst 1, 1) := by decide +kernel
theorem kd_M_see_70 : decode kb_M_see 70 = .ok (.iadd, 1) := by decide +kernel
theorem kd_M_see_71 : decode kb_M_see 71 = .ok (.iastore, 1) := by decide +kernel
theorem kd_M_see_72 : decode kb_M_see 72 = .ok (.goto 120, 3) := by decide +kernel
theorem kd_M_see_75 : decode kb_M_see 75 = .ok (.aload_n 0, 1) := by decide +kernel
theorem kd_M_see_76 : decode kb_M_see 76 = .ok (.getfield 32, 3) := by decide +kernel
theorem kd_M_see_79 : decode kb_M_see 79 = .ok (.iload_n 1, 1) := by decide +kernel
theorem kd_M_see_80 : decode kb_M_see 80 = .ok (.dup2, 1) := by decide +kernel
theorem kd_M_see_81 : decode kb_M_see 81 = .ok (.iaload, 1) := by decide +kernel
theorem kd_M_see_82 : decode kb_M_see 82 = .ok (.iconst 1, 1) := by decide +kernel
theorem kd_M_see_83 : decode kb_M_see 83 = .ok (.iadd, 1) := by decide +kernel
theorem kd_M_see_84 : decode kb_M_see 84 = .ok (.iastore, 1) := by decide +kernel
theorem kd_M_see_85 : decode kb_M_see 85 = .ok (.aload_n 0, 1) := by decide +kernel
theorem kd_M_see_86 : decode kb_M_see 86 = .ok (.iload_n 1, 1) := by decide +kernel
theorem kd_M_see_87 : decode kb_M_see 87 = .ok (.iload 5, 2) := by decide +kernel
theorem kd_M_see_89 : decode kb_M_see 89 = .ok (.iconst (-1), 1) := by decide +kernel
theorem kd_M_see_90 : decode kb_M_see 90 = .ok (.invokevirtual 85, 3) := by decide +kernel
theorem kd_M_see_93 : decode kb_M_see 93 = .ok (.istore 6, 2) := by decide +kernel
theorem kd_M_see_95 : decode kb_M_see 95 = .ok (.iload 6, 2) := by decide +kernel
theorem kd_M_see_97 : decode kb_M_see 97 = .ok (.ifCond .ge 58, 3) := by decide +kernel
theorem kd_M_see_100 : decode kb_M_see 100 = .ok (.aload_n 0, 1) := by decide +kernel
theorem kd_M_see_101 : decode kb_M_see 101 = .ok (.iload_n 1, 1) := by decide +kernel
theorem kd_M_see_102 : decode kb_M_see 102 = .ok (.iload 5, 2) := by decide +kernel
theorem kd_M_see_104 : decode kb_M_see 104 = .ok (.invokevirtual 89, 3) := by decide +kernel
theorem kd_M_see_107 : decode kb_M_see 107 = .ok (.istore 6, 2) := by decide +kernel
theorem kd_M_see_109 : decode kb_M_see 109 = .ok (.aload_n 0, 1) := by decide +kernel
theorem kd_M_see_110 : decode kb_M_see 110 = .ok (.getfield 35, 3) := by decide +kernel
theorem kd_M_see_113 : decode kb_M_see 113 = .ok (.iload_n 1, 1) := by decide +kernel
theorem kd_M_see_114 : decode kb_M_see 114 = .ok (.dup2, 1) := by decide +kernel
theorem kd_M_see_115 : decode kb_M_see 115 = .ok (.iaload, 1) := by decide +kernel
theorem kd_M_see_116 : decode kb_M_see 116 = .ok (.iconst 1, 1) := by decide +kernel
theorem kd_M_see_117 : decode kb_M_see 117 = .ok (.iadd, 1) := by decide +kernel
theorem kd_M_see_118 : decode kb_M_see 118 = .ok (.iastore, 1) := by decide +kernel
theorem kd_M_see_119 : decode kb_M_see 119 = .ok (.aload_n 0, 1) := by decide +kernel
theorem kd_M_see_120 : decode kb_M_see 120 = .ok (.getfield 38, 3) := by decide +kernel
theorem kd_M_see_123 : decode kb_M_see 123 = .ok (.iload_n 1, 1) := by decide +kernel
theorem kd_M_see_124 : decode kb_M_see 124 = .ok (.aload_n 0, 1) := by decide +kernel
theorem kd_M_see_125 : decode kb_M_see 125 = .ok (.getfield 44, 3) := by decide +kernel
theorem kd_M_see_128 : decode kb_M_see 128 = .ok (.iload 5, 2) := by decide +kernel
theorem kd_M_see_130 : decode kb_M_see 130 = .ok (.iload 6, 2) := by decide +kernel
theorem kd_M_see_132 : decode kb_M_see 132 = .ok (.iadd, 1) := by decide +kernel
theorem kd_M_see_133 : decode kb_M_see 133 = .ok (.baload, 1) := by decide +kernel
theorem kd_M_see_134 : decode kb_M_see 134 = .ok (.ifCond .eq 14, 3) := by decide +kernel
theorem kd_M_see_137 : decode kb_M_see 137 = .ok (.aload_n 0, 1) := by decide +kernel
theorem kd_M_see_138 : decode kb_M_see 138 = .ok (.getfield 38, 3) := by decide +kernel
theorem kd_M_see_141 : decode kb_M_see 141 = .ok (.iload_n 1, 1) := by decide +kernel
theorem kd_M_see_142 : decode kb_M_see 142 = .ok (.iaload, 1) := by decide +kernel
theorem kd_M_see_143 : decode kb_M_see 143 = .ok (.iconst 1, 1) := by decide +kernel
theorem kd_M_see_144 : decode kb_M_see 144 = .ok (.iadd, 1) := by decide +kernel
theorem kd_M_see_145 : decode kb_M_see 145 = .ok (.goto 9, 3) := by decide +kernel
theorem kd_M_see_148 : decode kb_M_see 148 = .ok (.aload_n 0, 1) := by decide +kernel
theorem kd_M_see_149 : decode kb_M_see 149 = .ok (.getfield 38, 3) := by decide +kernel
theorem kd_M_see_152 : decode kb_M_see 152 = .ok (.iload_n 1, 1) := by decide +kernel
theorem kd_M_see_153 : decode kb_M_see 153 = .ok (.iaload, 1) := by decide +kernel
theorem kd_M_see_154 : decode kb_M_see 154 = .ok (.iastore, 1) := by decide +kernel
theorem kd_M_see_155 : decode kb_M_see 155 = .ok (.aload_n 0, 1) := by decide +kernel
theorem kd_M_see_156 : decode kb_M_see 156 = .ok (.getfield 41, 3) := by decide +kernel
theorem kd_M_see_159 : decode kb_M_see 159 = .ok (.iload 5, 2) := by decide +kernel
theorem kd_M_see_161 : decode kb_M_see 161 = .ok (.iload 6, 2) := by decide +kernel
theorem kd_M_see_163 : decode kb_M_see 163 = .ok (.iadd, 1) := by decide +kernel
theorem kd_M_see_164 : decode kb_M_see 164 = .ok (.iload 4, 2) := by decide +kernel
theorem kd_M_see_166 : decode kb_M_see 166 = .ok (.iastore, 1) := by decide +kernel
theorem kd_M_see_167 : decode kb_M_see 167 = .ok (.aload_n 0, 1) := by decide +kernel
theorem kd_M_see_168 : decode kb_M_see 168 = .ok (.getfield 44, 3) := by decide +kernel
theorem kd_M_see_171 : decode kb_M_see 171 = .ok (.iload 5, 2) := by decide +kernel
theorem kd_M_see_173 : decode kb_M_see 173 = .ok (.iload 6, 2) := by decide +kernel
theorem kd_M_see_175 : decode kb_M_see 175 = .ok (.iadd, 1) := by decide +kernel
theorem kd_M_see_176 : decode kb_M_see 176 = .ok (.iconst 0, 1) := by decide +kernel
theorem kd_M_see_177 : decode kb_M_see 177 = .ok (.bastore, 1) := by decide +kernel
theorem kd_M_see_178 : decode kb_M_see 178 = .ok (.aload_n 0, 1) := by decide +kernel
theorem kd_M_see_179 : decode kb_M_see 179 = .ok (.getfield 50, 3) := by decide +kernel
theorem kd_M_see_182 : decode kb_M_see 182 = .ok (.iload 5, 2) := by decide +kernel
theorem kd_M_see_184 : decode kb_M_see 184 = .ok (.iload 6, 2) := by decide +kernel
theorem kd_M_see_186 : decode kb_M_see 186 = .ok (.iadd, 1) := by decide +kernel
theorem kd_M_see_187 : decode kb_M_see 187 = .ok (.aload_n 0, 1) := by decide +kernel
theorem kd_M_see_188 : decode kb_M_see 188 = .ok (.getfield 92, 3) := by decide +kernel
theorem kd_M_see_191 : decode kb_M_see 191 = .ok (.iastore, 1) := by decide +kernel
theorem kd_M_see_192 : decode kb_M_see 192 = .ok (.aload_n 0, 1) := by decide +kernel
theorem kd_M_see_193 : decode kb_M_see 193 = .ok (.getfield 47, 3) := by decide +kernel
theorem kd_M_see_196 : decode kb_M_see 196 = .ok (.iload 5, 2) := by decide +kernel
theorem kd_M_see_198 : decode kb_M_see 198 = .ok (.iload 6, 2) := by decide +kernel
theorem kd_M_see_200 : decode kb_M_see 200 = .ok (.iadd, 1) := by decide +kernel
theorem kd_M_see_201 : decode kb_M_see 201 = .ok (.aload_n 0, 1) := by decide +kernel
theorem kd_M_see_202 : decode kb_M_see 202 = .ok (.getfield 92, 3) := by decide +kernel
theorem kd_M_see_205 : decode kb_M_see 205 = .ok (.iastore, 1) := by decide +kernel
theorem kd_M_see_206 : decode kb_M_see 206 = .ok (.aload_n 0, 1) := by decide +kernel
theorem kd_M_see_207 : decode kb_M_see 207 = .ok (.getfield 44, 3) := by decide +kernel
theorem kd_M_see_210 : decode kb_M_see 210 = .ok (.iload 5, 2) := by decide +kernel
theorem kd_M_see_212 : decode kb_M_see 212 = .ok (.iload 6, 2) := by decide +kernel
theorem kd_M_see_214 : decode kb_M_see 214 = .ok (.iadd, 1) := by decide +kernel
theorem kd_M_see_215 : decode kb_M_see 215 = .ok (.aload_n 0, 1) := by decide +kernel
theorem kd_M_see_216 : decode kb_M_see 216 = .ok (.getfield 44, 3) := by decide +kernel
theorem kd_M_see_219 : decode kb_M_see 219 = .ok (.iload 5, 2) := by decide +kernel
theorem kd_M_see_221 : decode kb_M_see 221 = .ok (.iload 6, 2) := by decide +kernel
theorem kd_M_see_223 : decode kb_M_see 223 = .ok (.iadd, 1) := by decide +kernel
theorem kd_M_see_224 : decode kb_M_see 224 = .ok (.baload, 1) := by decide +kernel
theorem kd_M_see_225 : decode kb_M_see 225 = .ok (.ifCond .ne 7, 3) := by decide +kernel
theorem kd_M_see_228 : decode kb_M_see 228 = .ok (.iload_n 3, 1) := by decide +kernel
theorem kd_M_see_229 : decode kb_M_see 229 = .ok (.ifCond .eq 7, 3) := by decide +kernel
theorem kd_M_see_232 : decode kb_M_see 232 = .ok (.iconst 1, 1) := by decide +kernel
theorem kd_M_see_233 : decode kb_M_see 233 = .ok (.goto 4, 3) := by decide +kernel
theorem kd_M_see_236 : decode kb_M_see 236 = .ok (.iconst 0, 1) := by decide +kernel
theorem kd_M_see_237 : decode kb_M_see 237 = .ok (.bastore, 1) := by decide +kernel
theorem kd_M_see_238 : decode kb_M_see 238 = .ok (.aload_n 0, 1) := by decide +kernel
theorem kd_M_see_239 : decode kb_M_see 239 = .ok (.iload_n 1, 1) := by decide +kernel
theorem kd_M_see_240 : decode kb_M_see 240 = .ok (.iload 5, 2) := by decide +kernel
theorem kd_M_see_242 : decode kb_M_see 242 = .ok (.iload 6, 2) := by decide +kernel
theorem kd_M_see_244 : decode kb_M_see 244 = .ok (.invokevirtual 95, 3) := by decide +kernel
theorem kd_M_see_247 : decode kb_M_see 247 = .ok (.iload 7, 2) := by decide +kernel
theorem kd_M_see_249 : decode kb_M_see 249 = .ok (.ireturn, 1) := by decide +kernel
theorem kd_M_placeOf_0 : decode kb_M_placeOf 0 = .ok (.iconst (-1), 1) := by decide +kernel
theorem kd_M_placeOf_1 : decode kb_M_placeOf 1 = .ok (.istore 4, 2) := by decide +kernel
theorem kd_M_placeOf_3 : decode kb_M_placeOf 3 = .ok (.aload_n 0, 1) := by decide +kernel
theorem kd_M_placeOf_4 : decode kb_M_placeOf 4 = .ok (.getfield 20, 3) := by decide +kernel
theorem kd_M_placeOf_7 : decode kb_M_placeOf 7 = .ok (.iload_n 1, 1) := by decide +kernel
theorem kd_M_placeOf_8 : decode kb_M_placeOf 8 = .ok (.iaload, 1) := by decide +kernel
theorem kd_M_placeOf_9 : decode kb_M_placeOf 9 = .ok (.iconst 1, 1) := by decide +kernel
theorem kd_M_placeOf_10 : decode kb_M_placeOf 10 = .ok (.isub, 1) := by decide +kernel
theorem kd_M_placeOf_11 : decode kb_M_placeOf 11 = .ok (.istore 5, 2) := by decide +kernel
theorem kd_M_placeOf_13 : decode kb_M_placeOf 13 = .ok (.iload 5, 2) := by decide +kernel
theorem kd_M_placeOf_15 : decode kb_M_placeOf 15 = .ok (.ifCond .lt 31, 3) := by decide +kernel
theorem kd_M_placeOf_18 : decode kb_M_placeOf 18 = .ok (.aload_n 0, 1) := by decide +kernel
theorem kd_M_placeOf_19 : decode kb_M_placeOf 19 = .ok (.getfield 41, 3) := by decide +kernel
theorem kd_M_placeOf_22 : decode kb_M_placeOf 22 = .ok (.iload_n 2, 1) := by decide +kernel
theorem kd_M_placeOf_23 : decode kb_M_placeOf 23 = .ok (.iload 5, 2) := by decide +kernel
theorem kd_M_placeOf_25 : decode kb_M_placeOf 25 = .ok (.iadd, 1) := by decide +kernel
theorem kd_M_placeOf_26 : decode kb_M_placeOf 26 = .ok (.iaload, 1) := by decide +kernel
theorem kd_M_placeOf_27 : decode kb_M_placeOf 27 = .ok (.iload_n 3, 1) := by decide +kernel
theorem kd_M_placeOf_28 : decode kb_M_placeOf 28 = .ok (.if_icmp .ne 8, 3) := by decide +kernel
theorem kd_M_placeOf_31 : decode kb_M_placeOf 31 = .ok (.iload 5, 2) := by decide +kernel
theorem kd_M_placeOf_33 : decode kb_M_placeOf 33 = .ok (.goto 5, 3) := by decide +kernel
theorem kd_M_placeOf_36 : decode kb_M_placeOf 36 = .ok (.iload 4, 2) := by decide +kernel
theorem kd_M_placeOf_38 : decode kb_M_placeOf 38 = .ok (.istore 4, 2) := by decide +kernel
theorem kd_M_placeOf_40 : decode kb_M_placeOf 40 = .ok (.iinc 5 (-1), 3) := by decide +kernel
theorem kd_M_placeOf_43 : decode kb_M_placeOf 43 = .ok (.goto (-30), 3) := by decide +kernel
theorem kd_M_placeOf_46 : decode kb_M_placeOf 46 = .ok (.iload 4, 2) := by decide +kernel
theorem kd_M_placeOf_48 : decode kb_M_placeOf 48 = .ok (.ireturn, 1) := by decide +kernel
theorem kd_M_victimOf_0 : decode kb_M_victimOf 0 = .ok (.aload_n 0, 1) := by decide +kernel
theorem kd_M_victimOf_1 : decode kb_M_victimOf 1 = .ok (.getfield 23, 3) := by decide +kernel
theorem kd_M_victimOf_4 : decode kb_M_victimOf 4 = .ok (.iload_n 1, 1) := by decide +kernel
theorem kd_M_victimOf_5 : decode kb_M_victimOf 5 = .ok (.iaload, 1) := by decide +kernel
theorem kd_M_victimOf_6 : decode kb_M_victimOf 6 = .ok (.iconst 2, 1) := by decide +kernel
theorem kd_M_victimOf_7 : decode kb_M_victimOf 7 = .ok (.if_icmp .ne 10, 3) := by decide +kernel
theorem kd_M_victimOf_10 : decode kb_M_victimOf 10 = .ok (.aload_n 0, 1) := by decide +kernel
theorem kd_M_victimOf_11 : decode kb_M_victimOf 11 = .ok (.iload_n 1, 1) := by decide +kernel
theorem kd_M_victimOf_12 : decode kb_M_victimOf 12 = .ok (.iload_n 2, 1) := by decide +kernel
theorem kd_M_victimOf_13 : decode kb_M_victimOf 13 = .ok (.invokevirtual 81, 3) := by decide +kernel
theorem kd_M_victimOf_16 : decode kb_M_victimOf 16 = .ok (.ireturn, 1) := by decide +kernel
theorem kd_M_victimOf_17 : decode kb_M_victimOf 17 = .ok (.iconst 0, 1) := by decide +kernel
theorem kd_M_victimOf_18 : decode kb_M_victimOf 18 = .ok (.istore_n 3, 1) := by decide +kernel
theorem kd_M_victimOf_19 : decode kb_M_victimOf 19 = .ok (.iconst 1, 1) := by decide +kernel
theorem kd_M_victimOf_20 : decode kb_M_victimOf 20 = .ok (.istore 4, 2) := by decide +kernel
theorem kd_M_victimOf_22 : decode kb_M_victimOf 22 = .ok (.iload 4, 2) := by decide +kernel
theorem kd_M_victimOf_24 : decode kb_M_victimOf 24 = .ok (.aload_n 0, 1) := by decide +kernel
theorem kd_M_victimOf_25 : decode kb_M_victimOf 25 = .ok (.getfield 20, 3) := by decide +kernel
theorem kd_M_victimOf_28 : decode kb_M_victimOf 28 = .ok (.iload_n 1, 1) := by decide +kernel
theorem kd_M_victimOf_29 : decode kb_M_victimOf 29 = .ok (.iaload, 1) := by decide +kernel
theorem kd_M_victimOf_30 : decode kb_M_victimOf 30 = .ok (.if_icmp .ge 85, 3) := by decide +kernel
theorem kd_M_victimOf_33 : decode kb_M_victimOf 33 = .ok (.aload_n 0, 1) := by decide +kernel
theorem kd_M_victimOf_34 : decode kb_M_victimOf 34 = .ok (.getfield 23, 3) := by decide +kernel
theorem kd_M_victimOf_37 : decode kb_M_victimOf 37 = .ok (.iload_n 1, 1) := by decide +kernel
theorem kd_M_victimOf_38 : decode kb_M_victimOf 38 = .ok (.iaload, 1) := by decide +kernel
theorem kd_M_victimOf_39 : decode kb_M_victimOf 39 = .ok (.ifCond .ne 31, 3) := by decide +kernel
theorem kd_M_victimOf_42 : decode kb_M_victimOf 42 = .ok (.aload_n 0, 1) := by decide +kernel
theorem kd_M_victimOf_43 : decode kb_M_victimOf 43 = .ok (.getfield 47, 3) := by decide +kernel
theorem kd_M_victimOf_46 : decode kb_M_victimOf 46 = .ok (.iload_n 2, 1) := by decide +kernel
theorem kd_M_victimOf_47 : decode kb_M_victimOf 47 = .ok (.iload 4, 2) := by decide +kernel
theorem kd_M_victimOf_49 : decode kb_M_victimOf 49 = .ok (.iadd, 1) := by decide +kernel
theorem kd_M_victimOf_50 : decode kb_M_victimOf 50 = .ok (.iaload, 1) := by decide +kernel
theorem kd_M_victimOf_51 : decode kb_M_victimOf 51 = .ok (.aload_n 0, 1) := by decide +kernel
theorem kd_M_victimOf_52 : decode kb_M_victimOf 52 = .ok (.getfield 47, 3) := by decide +kernel
theorem kd_M_victimOf_55 : decode kb_M_victimOf 55 = .ok (.iload_n 2, 1) := by decide +kernel
theorem kd_M_victimOf_56 : decode kb_M_victimOf 56 = .ok (.iload_n 3, 1) := by decide +kernel
theorem kd_M_victimOf_57 : decode kb_M_victimOf 57 = .ok (.iadd, 1) := by decide +kernel
theorem kd_M_victimOf_58 : decode kb_M_victimOf 58 = .ok (.iaload, 1) := by decide +kernel
theorem kd_M_victimOf_59 : decode kb_M_victimOf 59 = .ok (.if_icmp .ge 7, 3) := by decide +kernel
theorem kd_M_victimOf_62 : decode kb_M_victimOf 62 = .ok (.iconst 1, 1) := by decide +kernel
theorem kd_M_victimOf_63 : decode kb_M_victimOf 63 = .ok (.goto 32, 3) := by decide +kernel
theorem kd_M_victimOf_66 : decode kb_M_victimOf 66 = .ok (.iconst 0, 1) := by decide +kernel
theorem kd_M_victimOf_67 : decode kb_M_victimOf 67 = .ok (.goto 28, 3) := by decide +kernel
theorem kd_M_victimOf_70 : decode kb_M_victimOf 70 = .ok (.aload_n 0, 1) := by decide +kernel
theorem kd_M_victimOf_71 : decode kb_M_victimOf 71 = .ok (.getfield 50, 3) := by decide +kernel
theorem kd_M_victimOf_74 : decode kb_M_victimOf 74 = .ok (.iload_n 2, 1) := by decide +kernel
theorem kd_M_victimOf_75 : decode kb_M_victimOf 75 = .ok (.iload 4, 2) := by decide +kernel
theorem kd_M_victimOf_77 : decode kb_M_victimOf 77 = .ok (.iadd, 1) := by decide +kernel
theorem kd_M_victimOf_78 : decode kb_M_victimOf 78 = .ok (.iaload, 1) := by decide +kernel
theorem kd_M_victimOf_79 : decode kb_M_victimOf 79 = .ok (.aload_n 0, 1) := by decide +kernel
theorem kd_M_victimOf_80 : decode kb_M_victimOf 80 = .ok (.getfield 50, 3) := by decide +kernel
theorem kd_M_victimOf_83 : decode kb_M_victimOf 83 = .ok (.iload_n 2, 1) := by decide +kernel
theorem kd_M_victimOf_84 : decode kb_M_victimOf 84 = .ok (.iload_n 3, 1) := by decide +kernel
theorem kd_M_victimOf_85 : decode kb_M_victimOf 85 = .ok (.iadd, 1) := by decide +kernel
theorem kd_M_victimOf_86 : decode kb_M_victimOf 86 = .ok (.iaload, 1) := by decide +kernel
theorem kd_M_victimOf_87 : decode kb_M_victimOf 87 = .ok (.if_icmp .ge 7, 3) := by decide +kernel
theorem kd_M_victimOf_90 : decode kb_M_victimOf 90 = .ok (.iconst 1, 1) := by decide +kernel
theorem kd_M_victimOf_91 : decode kb_M_victimOf 91 = .ok (.goto 4, 3) := by decide +kernel
theorem kd_M_victimOf_94 : decode kb_M_victimOf 94 = .ok (.iconst 0, 1) := by decide +kernel
theorem kd_M_victimOf_95 : decode kb_M_victimOf 95 = .ok (.istore 5, 2) := by decide +kernel
theorem kd_M_victimOf_97 : decode kb_M_victimOf 97 = .ok (.iload 5, 2) := by decide +kernel
theorem kd_M_victimOf_99 : decode kb_M_victimOf 99 = .ok (.ifCond .eq 8, 3) := by decide +kernel
theorem kd_M_victimOf_102 : decode kb_M_victimOf 102 = .ok (.iload 4, 2) := by decide +kernel
theorem kd_M_victimOf_104 : decode kb_M_victimOf 104 = .ok (.goto 4, 3) := by decide +kernel
theorem kd_M_victimOf_107 : decode kb_M_victimOf 107 = .ok (.iload_n 3, 1) := by decide +kernel
theorem kd_M_victimOf_108 : decode kb_M_victimOf 108 = .ok (.istore_n 3, 1) := by decide +kernel
theorem kd_M_victimOf_109 : decode kb_M_victimOf 109 = .ok (.iinc 4 1, 3) := by decide +kernel
theorem kd_M_victimOf_112 : decode kb_M_victimOf 112 = .ok (.goto (-90), 3) := by decide +kernel
theorem kd_M_victimOf_115 : decode kb_M_victimOf 115 = .ok (.iload_n 3, 1) := by decide +kernel
theorem kd_M_victimOf_116 : decode kb_M_victimOf 116 = .ok (.ireturn, 1) := by decide +kernel
theorem kd_M_pointed_0 : decode kb_M_pointed 0 = .ok (.iconst 1, 1) := by decide +kernel
theorem kd_M_pointed_1 : decode kb_M_pointed 1 = .ok (.istore_n 3, 1) := by decide +kernel
theorem kd_M_pointed_2 : decode kb_M_pointed 2 = .ok (.iconst 0, 1) := by decide +kernel
theorem kd_M_pointed_3 : decode kb_M_pointed 3 = .ok (.istore 4, 2) := by decide +kernel
theorem kd_M_pointed_5 : decode kb_M_pointed 5 = .ok (.aload_n 0, 1) := by decide +kernel
theorem kd_M_pointed_6 : decode kb_M_pointed 6 = .ok (.getfield 20, 3) := by decide +kernel
theorem kd_M_pointed_9 : decode kb_M_pointed 9 = .ok (.iload_n 1, 1) := by decide +kernel
theorem kd_M_pointed_10 : decode kb_M_pointed 10 = .ok (.iaload, 1) := by decide +kernel
theorem kd_M_pointed_11 : decode kb_M_pointed 11 = .ok (.iconst 2, 1) := by decide +kernel
theorem kd_M_pointed_12 : decode kb_M_pointed 12 = .ok (.idiv, 1) := by decide +kernel
theorem kd_M_pointed_13 : decode kb_M_pointed 13 = .ok (.istore 5, 2) := by decide +kernel
theorem kd_M_pointed_15 : decode kb_M_pointed 15 = .ok (.iload 5, 2) := by decide +kernel
theorem kd_M_pointed_17 : decode kb_M_pointed 17 = .ok (.ifCond .le 56, 3) := by decide +kernel
theorem kd_M_pointed_20 : decode kb_M_pointed 20 = .ok (.aload_n 0, 1) := by decide +kernel
theorem kd_M_pointed_21 : decode kb_M_pointed 21 = .ok (.getfield 53, 3) := by decide +kernel
theorem kd_M_pointed_24 : decode kb_M_pointed 24 = .ok (.iload_n 2, 1) := by decide +kernel
theorem kd_M_pointed_25 : decode kb_M_pointed 25 = .ok (.iload_n 3, 1) := by decide +kernel
theorem kd_M_pointed_26 : decode kb_M_pointed 26 = .ok (.iadd, 1) := by decide +kernel
theorem kd_M_pointed_27 : decode kb_M_pointed 27 = .ok (.baload, 1) := by decide +kernel
theorem kd_M_pointed_28 : decode kb_M_pointed 28 = .ok (.istore 6, 2) := by decide +kernel
theorem kd_M_pointed_30 : decode kb_M_pointed 30 = .ok (.iload 6, 2) := by decide +kernel
theorem kd_M_pointed_32 : decode kb_M_pointed 32 = .ok (.ifCond .eq 11, 3) := by decide +kernel
theorem kd_M_pointed_35 : decode kb_M_pointed 35 = .ok (.iload 4, 2) := by decide +kernel
theorem kd_M_pointed_37 : decode kb_M_pointed 37 = .ok (.iload 5, 2) := by decide +kernel
theorem kd_M_pointed_39 : decode kb_M_pointed 39 = .ok (.iadd, 1) := by decide +kernel
theorem kd_M_pointed_40 : decode kb_M_pointed 40 = .ok (.goto 5, 3) := by decide +kernel
theorem kd_M_pointed_43 : decode kb_M_pointed 43 = .ok (.iload 4, 2) := by decide +kernel
theorem kd_M_pointed_45 : decode kb_M_pointed 45 = .ok (.istore 4, 2) := by decide +kernel
theorem kd_M_pointed_47 : decode kb_M_pointed 47 = .ok (.iload 6, 2) := by decide +kernel
theorem kd_M_pointed_49 : decode kb_M_pointed 49 = .ok (.ifCond .eq 11, 3) := by decide +kernel
theorem kd_M_pointed_52 : decode kb_M_pointed 52 = .ok (.iconst 2, 1) := by decide +kernel
theorem kd_M_pointed_53 : decode kb_M_pointed 53 = .ok (.iload_n 3, 1) := by decide +kernel
theorem kd_M_pointed_54 : decode kb_M_pointed 54 = .ok (.imul, 1) := by decide +kernel
theorem kd_M_pointed_55 : decode kb_M_pointed 55 = .ok (.iconst 1, 1) := by decide +kernel
theorem kd_M_pointed_56 : decode kb_M_pointed 56 = .ok (.iadd, 1) := by decide +kernel
theorem kd_M_pointed_57 : decode kb_M_pointed 57 = .ok (.goto 6, 3) := by decide +kernel
theorem kd_M_pointed_60 : decode kb_M_pointed 60 = .ok (.iconst 2, 1) := by decide +kernel
theorem kd_M_pointed_61 : decode kb_M_pointed 61 = .ok (.iload_n 3, 1) := by decide +kernel
theorem kd_M_pointed_62 : decode kb_M_pointed 62 = .ok (.imul, 1) := by decide +kernel
theorem kd_M_pointed_63 : decode kb_M_pointed 63 = .ok (.istore_n 3, 1) := by decide +kernel
theorem kd_M_pointed_64 : decode kb_M_pointed 64 = .ok (.iload 5, 2) := by decide +kernel
theorem kd_M_pointed_66 : decode kb_M_pointed 66 = .ok (.iconst 2, 1) := by decide +kernel
theorem kd_M_pointed_67 : decode kb_M_pointed 67 = .ok (.idiv, 1) := by decide +kernel
theorem kd_M_pointed_68 : decode kb_M_pointed 68 = .ok (.istore 5, 2) := by decide +kernel
theorem kd_M_pointed_70 : decode kb_M_pointed 70 = .ok (.goto (-55), 3) := by decide +kernel
theorem kd_M_pointed_73 : decode kb_M_pointed 73 = .ok (.iload 4, 2) := by decide +kernel
theorem kd_M_pointed_75 : decode kb_M_pointed 75 = .ok (.ireturn, 1) := by decide +kernel
theorem kd_M_turn_0 : decode kb_M_turn 0 = .ok (.iconst 1, 1) := by decide +kernel
theorem kd_M_turn_1 : decode kb_M_turn 1 = .ok (.istore 4, 2) := by decide +kernel
theorem kd_M_turn_3 : decode kb_M_turn 3 = .ok (.iconst 0, 1) := by decide +kernel
theorem kd_M_turn_4 : decode kb_M_turn 4 = .ok (.istore 5, 2) := by decide +kernel
theorem kd_M_turn_6 : decode kb_M_turn 6 = .ok (.aload_n 0, 1) := by decide +kernel
theorem kd_M_turn_7 : decode kb_M_turn 7 = .ok (.getfield 20, 3) := by decide +kernel
theorem kd_M_turn_10 : decode kb_M_turn 10 = .ok (.iload_n 1, 1) := by decide +kernel
theorem kd_M_turn_11 : decode kb_M_turn 11 = .ok (.iaload, 1) := by decide +kernel
theorem kd_M_turn_12 : decode kb_M_turn 12 = .ok (.iconst 2, 1) := by decide +kernel
theorem kd_M_turn_13 : decode kb_M_turn 13 = .ok (.idiv, 1) := by decide +kernel
theorem kd_M_turn_14 : decode kb_M_turn 14 = .ok (.istore 6, 2) := by decide +kernel
theorem kd_M_turn_16 : decode kb_M_turn 16 = .ok (.iload 6, 2) := by decide +kernel
theorem kd_M_turn_18 : decode kb_M_turn 18 = .ok (.ifCond .le 84, 3) := by decide +kernel
theorem kd_M_turn_21 : decode kb_M_turn 21 = .ok (.iload_n 3, 1) := by decide +kernel
theorem kd_M_turn_22 : decode kb_M_turn 22 = .ok (.iload 5, 2) := by decide +kernel
theorem kd_M_turn_24 : decode kb_M_turn 24 = .ok (.iload 6, 2) := by decide +kernel
theorem kd_M_turn_26 : decode kb_M_turn 26 = .ok (.iadd, 1) := by decide +kernel
theorem kd_M_turn_27 : decode kb_M_turn 27 = .ok (.if_icmp .lt 7, 3) := by decide +kernel
theorem kd_M_turn_30 : decode kb_M_turn 30 = .ok (.iconst 1, 1) := by decide +kernel
theorem kd_M_turn_31 : decode kb_M_turn 31 = .ok (.goto 4, 3) := by decide +kernel
theorem kd_M_turn_34 : decode kb_M_turn 34 = .ok (.iconst 0, 1) := by decide +kernel
theorem kd_M_turn_35 : decode kb_M_turn 35 = .ok (.istore 7, 2) := by decide +kernel
theorem kd_M_turn_37 : decode kb_M_turn 37 = .ok (.aload_n 0, 1) := by decide +kernel
theorem kd_M_turn_38 : decode kb_M_turn 38 = .ok (.getfield 53, 3) := by decide +kernel
theorem kd_M_turn_41 : decode kb_M_turn 41 = .ok (.iload_n 2, 1) := by decide +kernel
theorem kd_M_turn_42 : decode kb_M_turn 42 = .ok (.iload 4, 2) := by decide +kernel
theorem kd_M_turn_44 : decode kb_M_turn 44 = .ok (.iadd, 1) := by decide +kernel
theorem kd_M_turn_45 : decode kb_M_turn 45 = .ok (.iload 7, 2) := by decide +kernel
theorem kd_M_turn_47 : decode kb_M_turn 47 = .ok (.ifCond .ne 7, 3) := by decide +kernel
theorem kd_M_turn_50 : decode kb_M_turn 50 = .ok (.iconst 1, 1) := by decide +kernel
theorem kd_M_turn_51 : decode kb_M_turn 51 = .ok (.goto 4, 3) := by decide +kernel
theorem kd_M_turn_54 : decode kb_M_turn 54 = .ok (.iconst 0, 1) := by decide +kernel
theorem kd_M_turn_55 : decode kb_M_turn 55 = .ok (.bastore, 1) := by decide +kernel
theorem kd_M_turn_56 : decode kb_M_turn 56 = .ok (.iload 7, 2) := by decide +kernel
theorem kd_M_turn_58 : decode kb_M_turn 58 = .ok (.ifCond .eq 11, 3) := by decide +kernel
theorem kd_M_turn_61 : decode kb_M_turn 61 = .ok (.iload 5, 2) := by decide +kernel
theorem kd_M_turn_63 : decode kb_M_turn 63 = .ok (.iload 6, 2) := by decide +kernel
theorem kd_M_turn_65 : decode kb_M_turn 65 = .ok (.iadd, 1) := by decide +kernel
theorem kd_M_turn_66 : decode kb_M_turn 66 = .ok (.goto 5, 3) := by decide +kernel
theorem kd_M_turn_69 : decode kb_M_turn 69 = .ok (.iload 5, 2) := by decide +kernel
theorem kd_M_turn_71 : decode kb_M_turn 71 = .ok (.istore 5, 2) := by decide +kernel
theorem kd_M_turn_73 : decode kb_M_turn 73 = .ok (.iload 7, 2) := by decide +kernel
theorem kd_M_turn_75 : decode kb_M_turn 75 = .ok (.ifCond .eq 12, 3) := by decide +kernel
theorem kd_M_turn_78 : decode kb_M_turn 78 = .ok (.iconst 2, 1) := by decide +kernel
theorem kd_M_turn_79 : decode kb_M_turn 79 = .ok (.iload 4, 2) := by decide +kernel
theorem kd_M_turn_81 : decode kb_M_turn 81 = .ok (.imul, 1) := by decide +kernel
theorem kd_M_turn_82 : decode kb_M_turn 82 = .ok (.iconst 1, 1) := by decide +kernel
theorem kd_M_turn_83 : decode kb_M_turn 83 = .ok (.iadd, 1) := by decide +kernel
theorem kd_M_turn_84 : decode kb_M_turn 84 = .ok (.goto 7, 3) := by decide +kernel
theorem kd_M_turn_87 : decode kb_M_turn 87 = .ok (.iconst 2, 1) := by decide +kernel
theorem kd_M_turn_88 : decode kb_M_turn 88 = .ok (.iload 4, 2) := by decide +kernel
theorem kd_M_turn_90 : decode kb_M_turn 90 = .ok (.imul, 1) := by decide +kernel
theorem kd_M_turn_91 : decode kb_M_turn 91 = .ok (.istore 4, 2) := by decide +kernel
theorem kd_M_turn_93 : decode kb_M_turn 93 = .ok (.iload 6, 2) := by decide +kernel
theorem kd_M_turn_95 : decode kb_M_turn 95 = .ok (.iconst 2, 1) := by decide +kernel
theorem kd_M_turn_96 : decode kb_M_turn 96 = .ok (.idiv, 1) := by decide +kernel
theorem kd_M_turn_97 : decode kb_M_turn 97 = .ok (.istore 6, 2) := by decide +kernel
theorem kd_M_turn_99 : decode kb_M_turn 99 = .ok (.goto (-83), 3) := by decide +kernel
theorem kd_M_turn_102 : decode kb_M_turn 102 = .ok (.return_, 1) := by decide +kernel
theorem kd_M_flush_0 : decode kb_M_flush 0 = .ok (.aload_n 0, 1) := by decide +kernel
theorem kd_M_flush_1 : decode kb_M_flush 1 = .ok (.aload_n 0, 1) := by decide +kernel
theorem kd_M_flush_2 : decode kb_M_flush 2 = .ok (.iload_n 1, 1) := by decide +kernel
theorem kd_M_flush_3 : decode kb_M_flush 3 = .ok (.invokevirtual 103, 3) := by decide +kernel
theorem kd_M_flush_6 : decode kb_M_flush 6 = .ok (.ifCond .ne 7, 3) := by decide +kernel
theorem kd_M_flush_9 : decode kb_M_flush 9 = .ok (.iconst 1, 1) := by decide +kernel
theorem kd_M_flush_10 : decode kb_M_flush 10 = .ok (.goto 4, 3) := by decide +kernel
theorem kd_M_flush_13 : decode kb_M_flush 13 = .ok (.iconst 0, 1) := by decide +kernel
theorem kd_M_flush_14 : decode kb_M_flush 14 = .ok (.iconst 0, 1) := by decide +kernel
theorem kd_M_flush_15 : decode kb_M_flush 15 = .ok (.iconst 0, 1) := by decide +kernel
theorem kd_M_flush_16 : decode kb_M_flush 16 = .ok (.invokevirtual 73, 3) := by decide +kernel
theorem kd_M_flush_19 : decode kb_M_flush 19 = .ok (.ifCond .eq 5, 3) := by decide +kernel
theorem kd_M_flush_22 : decode kb_M_flush 22 = .ok (.iconst 0, 1) := by decide +kernel
theorem kd_M_flush_23 : decode kb_M_flush 23 = .ok (.ireturn, 1) := by decide +kernel
theorem kd_M_flush_24 : decode kb_M_flush 24 = .ok (.aload_n 0, 1) := by decide +kernel
theorem kd_M_flush_25 : decode kb_M_flush 25 = .ok (.iload_n 1, 1) := by decide +kernel
theorem kd_M_flush_26 : decode kb_M_flush 26 = .ok (.iconst 1, 1) := by decide +kernel
theorem kd_M_flush_27 : decode kb_M_flush 27 = .ok (.invokevirtual 107, 3) := by decide +kernel
theorem kd_M_flush_30 : decode kb_M_flush 30 = .ok (.istore_n 2, 1) := by decide +kernel
theorem kd_M_flush_31 : decode kb_M_flush 31 = .ok (.aload_n 0, 1) := by decide +kernel
theorem kd_M_flush_32 : decode kb_M_flush 32 = .ok (.getfield 38, 3) := by decide +kernel
theorem kd_M_flush_35 : decode kb_M_flush 35 = .ok (.iload_n 1, 1) := by decide +kernel
theorem kd_M_flush_36 : decode kb_M_flush 36 = .ok (.dup2, 1) := by decide +kernel
theorem kd_M_flush_37 : decode kb_M_flush 37 = .ok (.iaload, 1) := by decide +kernel
theorem kd_M_flush_38 : decode kb_M_flush 38 = .ok (.iload_n 2, 1) := by decide +kernel
theorem kd_M_flush_39 : decode kb_M_flush 39 = .ok (.iadd, 1) := by decide +kernel
theorem kd_M_flush_40 : decode kb_M_flush 40 = .ok (.iastore, 1) := by decide +kernel
theorem kd_M_flush_41 : decode kb_M_flush 41 = .ok (.aload_n 0, 1) := by decide +kernel
theorem kd_M_flush_42 : decode kb_M_flush 42 = .ok (.iload_n 1, 1) := by decide +kernel
theorem kd_M_flush_43 : decode kb_M_flush 43 = .ok (.invokevirtual 77, 3) := by decide +kernel
theorem kd_M_flush_46 : decode kb_M_flush 46 = .ok (.iload_n 2, 1) := by decide +kernel
theorem kd_M_flush_47 : decode kb_M_flush 47 = .ok (.ireturn, 1) := by decide +kernel
theorem kd_M_isThere_0 : decode kb_M_isThere 0 = .ok (.iload_n 1, 1) := by decide +kernel
theorem kd_M_isThere_1 : decode kb_M_isThere 1 = .ok (.iconst 0, 1) := by decide +kernel
theorem kd_M_isThere_2 : decode kb_M_isThere 2 = .ok (.iconst 3, 1) := by decide +kernel
theorem kd_M_isThere_3 : decode kb_M_isThere 3 = .ok (.invokestatic 69, 3) := by decide +kernel
theorem kd_M_isThere_6 : decode kb_M_isThere 6 = .ok (.ifCond .eq 29, 3) := by decide +kernel
theorem kd_M_isThere_9 : decode kb_M_isThere 9 = .ok (.aload_n 0, 1) := by decide +kernel
theorem kd_M_isThere_10 : decode kb_M_isThere 10 = .ok (.getfield 13, 3) := by decide +kernel
theorem kd_M_isThere_13 : decode kb_M_isThere 13 = .ok (.iload_n 1, 1) := by decide +kernel
theorem kd_M_isThere_14 : decode kb_M_isThere 14 = .ok (.iconst 0, 1) := by decide +kernel
theorem kd_M_isThere_15 : decode kb_M_isThere 15 = .ok (.iconst 3, 1) := by decide +kernel
theorem kd_M_isThere_16 : decode kb_M_isThere 16 = .ok (.invokestatic 69, 3) := by decide +kernel
theorem kd_M_isThere_19 : decode kb_M_isThere 19 = .ok (.ifCond .eq 7, 3) := by decide +kernel
theorem kd_M_isThere_22 : decode kb_M_isThere 22 = .ok (.iload_n 1, 1) := by decide +kernel
theorem kd_M_isThere_23 : decode kb_M_isThere 23 = .ok (.goto 4, 3) := by decide +kernel
theorem kd_M_isThere_26 : decode kb_M_isThere 26 = .ok (.iconst 0, 1) := by decide +kernel
theorem kd_M_isThere_27 : decode kb_M_isThere 27 = .ok (.baload, 1) := by decide +kernel
theorem kd_M_isThere_28 : decode kb_M_isThere 28 = .ok (.ifCond .eq 7, 3) := by decide +kernel
theorem kd_M_isThere_31 : decode kb_M_isThere 31 = .ok (.iconst 1, 1) := by decide +kernel
theorem kd_M_isThere_32 : decode kb_M_isThere 32 = .ok (.goto 4, 3) := by decide +kernel
theorem kd_M_isThere_35 : decode kb_M_isThere 35 = .ok (.iconst 0, 1) := by decide +kernel
theorem kd_M_isThere_36 : decode kb_M_isThere 36 = .ok (.ireturn, 1) := by decide +kernel
theorem kd_M_count_0 : decode kb_M_count 0 = .ok (.iconst 0, 1) := by decide +kernel
theorem kd_M_count_1 : decode kb_M_count 1 = .ok (.istore_n 3, 1) := by decide +kernel
theorem kd_M_count_2 : decode kb_M_count 2 = .ok (.iconst 0, 1) := by decide +kernel
theorem kd_M_count_3 : decode kb_M_count 3 = .ok (.istore 4, 2) := by decide +kernel
theorem kd_M_count_5 : decode kb_M_count 5 = .ok (.iload 4, 2) := by decide +kernel
theorem kd_M_count_7 : decode kb_M_count 7 = .ok (.sipush 128, 3) := by decide +kernel
theorem kd_M_count_10 : decode kb_M_count 10 = .ok (.if_icmp .ge 53, 3) := by decide +kernel
theorem kd_M_count_13 : decode kb_M_count 13 = .ok (.aload_n 0, 1) := by decide +kernel
theorem kd_M_count_14 : decode kb_M_count 14 = .ok (.getfield 41, 3) := by decide +kernel
theorem kd_M_count_17 : decode kb_M_count 17 = .ok (.sipush 128, 3) := by decide +kernel
theorem kd_M_count_20 : decode kb_M_count 20 = .ok (.iload_n 1, 1) := by decide +kernel
theorem kd_M_count_21 : decode kb_M_count 21 = .ok (.imul, 1) := by decide +kernel
theorem kd_M_count_22 : decode kb_M_count 22 = .ok (.iload 4, 2) := by decide +kernel
theorem kd_M_count_24 : decode kb_M_count 24 = .ok (.iadd, 1) := by decide +kernel
theorem kd_M_count_25 : decode kb_M_count 25 = .ok (.iaload, 1) := by decide +kernel
theorem kd_M_count_26 : decode kb_M_count 26 = .ok (.ifCond .lt 29, 3) := by decide +kernel
theorem kd_M_count_29 : decode kb_M_count 29 = .ok (.iload_n 2, 1) := by decide +kernel
theorem kd_M_count_30 : decode kb_M_count 30 = .ok (.ifCond .eq 19, 3) := by decide +kernel
theorem kd_M_count_33 : decode kb_M_count 33 = .ok (.aload_n 0, 1) := by decide +kernel
theorem kd_M_count_34 : decode kb_M_count 34 = .ok (.getfield 44, 3) := by decide +kernel
theorem kd_M_count_37 : decode kb_M_count 37 = .ok (.sipush 128, 3) := by decide +kernel
theorem kd_M_count_40 : decode kb_M_count 40 = .ok (.iload_n 1, 1) := by decide +kernel
theorem kd_M_count_41 : decode kb_M_count 41 = .ok (.imul, 1) := by decide +kernel
theorem kd_M_count_42 : decode kb_M_count 42 = .ok (.iload 4, 2) := by decide +kernel
theorem kd_M_count_44 : decode kb_M_count 44 = .ok (.iadd, 1) := by decide +kernel
theorem kd_M_count_45 : decode kb_M_count 45 = .ok (.baload, 1) := by decide +kernel
theorem kd_M_count_46 : decode kb_M_count 46 = .ok (.ifCond .eq 9, 3) := by decide +kernel
theorem kd_M_count_49 : decode kb_M_count 49 = .ok (.iload_n 3, 1) := by decide +kernel
theorem kd_M_count_50 : decode kb_M_count 50 = .ok (.iconst 1, 1) := by decide +kernel
theorem kd_M_count_51 : decode kb_M_count 51 = .ok (.iadd, 1) := by decide +kernel
theorem kd_M_count_52 : decode kb_M_count 52 = .ok (.goto 4, 3) := by decide +kernel
theorem kd_M_count_55 : decode kb_M_count 55 = .ok (.iload_n 3, 1) := by decide +kernel
theorem kd_M_count_56 : decode kb_M_count 56 = .ok (.istore_n 3, 1) := by decide +kernel
theorem kd_M_count_57 : decode kb_M_count 57 = .ok (.iinc 4 1, 3) := by decide +kernel
theorem kd_M_count_60 : decode kb_M_count 60 = .ok (.goto (-55), 3) := by decide +kernel
theorem kd_M_count_63 : decode kb_M_count 63 = .ok (.iload_n 3, 1) := by decide +kernel
theorem kd_M_count_64 : decode kb_M_count 64 = .ok (.ireturn, 1) := by decide +kernel
theorem kd_M_place_0 : decode kb_M_place 0 = .ok (.aload_n 0, 1) := by decide +kernel
theorem kd_M_place_1 : decode kb_M_place 1 = .ok (.iload_n 1, 1) := by decide +kernel
theorem kd_M_place_2 : decode kb_M_place 2 = .ok (.invokevirtual 103, 3) := by decide +kernel
theorem kd_M_place_5 : decode kb_M_place 5 = .ok (.istore 5, 2) := by decide +kernel
theorem kd_M_place_7 : decode kb_M_place 7 = .ok (.iload 5, 2) := by decide +kernel
theorem kd_M_place_9 : decode kb_M_place 9 = .ok (.ifCond .eq 59, 3) := by decide +kernel
theorem kd_M_place_12 : decode kb_M_place 12 = .ok (.iload_n 2, 1) := by decide +kernel
theorem kd_M_place_13 : decode kb_M_place 13 = .ok (.iconst 0, 1) := by decide +kernel
theorem kd_M_place_14 : decode kb_M_place 14 = .ok (.iconst 1, 1) := by decide +kernel
theorem kd_M_place_15 : decode kb_M_place 15 = .ok (.aload_n 0, 1) := by decide +kernel
theorem kd_M_place_16 : decode kb_M_place 16 = .ok (.getfield 17, 3) := by decide +kernel
theorem kd_M_place_19 : decode kb_M_place 19 = .ok (.iload 5, 2) := by decide +kernel
theorem kd_M_place_21 : decode kb_M_place 21 = .ok (.ifCond .eq 7, 3) := by decide +kernel
theorem kd_M_place_24 : decode kb_M_place 24 = .ok (.iload_n 1, 1) := by decide +kernel
theorem kd_M_place_25 : decode kb_M_place 25 = .ok (.goto 4, 3) := by decide +kernel
theorem kd_M_place_28 : decode kb_M_place 28 = .ok (.iconst 0, 1) := by decide +kernel
theorem kd_M_place_29 : decode kb_M_place 29 = .ok (.iaload, 1) := by decide +kernel
theorem kd_M_place_30 : decode kb_M_place 30 = .ok (.ishl, 1) := by decide +kernel
theorem kd_M_place_31 : decode kb_M_place 31 = .ok (.iconst 1, 1) := by decide +kernel
theorem kd_M_place_32 : decode kb_M_place 32 = .ok (.isub, 1) := by decide +kernel
theorem kd_M_place_33 : decode kb_M_place 33 = .ok (.invokestatic 69, 3) := by decide +kernel
theorem kd_M_place_36 : decode kb_M_place 36 = .ok (.ifCond .eq 32, 3) := by decide +kernel
theorem kd_M_place_39 : decode kb_M_place 39 = .ok (.iload_n 3, 1) := by decide +kernel
theorem kd_M_place_40 : decode kb_M_place 40 = .ok (.iconst 0, 1) := by decide +kernel
theorem kd_M_place_41 : decode kb_M_place 41 = .ok (.aload_n 0, 1) := by decide +kernel
theorem kd_M_place_42 : decode kb_M_place 42 = .ok (.getfield 20, 3) := by decide +kernel
theorem kd_M_place_45 : decode kb_M_place 45 = .ok (.iload 5, 2) := by decide +kernel
theorem kd_M_place_47 : decode kb_M_place 47 = .ok (.ifCond .eq 7, 3) := by decide +kernel
theorem kd_M_place_50 : decode kb_M_place 50 = .ok (.iload_n 1, 1) := by decide +kernel
theorem kd_M_place_51 : decode kb_M_place 51 = .ok (.goto 4, 3) := by decide +kernel
theorem kd_M_place_54 : decode kb_M_place 54 = .ok (.iconst 0, 1) := by decide +kernel
theorem kd_M_place_55 : decode kb_M_place 55 = .ok (.iaload, 1) := by decide +kernel
theorem kd_M_place_56 : decode kb_M_place 56 = .ok (.iconst 1, 1) := by decide +kernel
theorem kd_M_place_57 : decode kb_M_place 57 = .ok (.isub, 1) := by decide +kernel
theorem kd_M_place_58 : decode kb_M_place 58 = .ok (.invokestatic 69, 3) := by decide +kernel
theorem kd_M_place_61 : decode kb_M_place 61 = .ok (.ifCond .eq 7, 3) := by decide +kernel
theorem kd_M_place_64 : decode kb_M_place 64 = .ok (.iconst 1, 1) := by decide +kernel
theorem kd_M_place_65 : decode kb_M_place 65 = .ok (.goto 4, 3) := by decide +kernel
theorem kd_M_place_68 : decode kb_M_place 68 = .ok (.iconst 0, 1) := by decide +kernel
theorem kd_M_place_69 : decode kb_M_place 69 = .ok (.istore 6, 2) := by decide +kernel
theorem kd_M_place_71 : decode kb_M_place 71 = .ok (.aload_n 0, 1) := by decide +kernel
theorem kd_M_place_72 : decode kb_M_place 72 = .ok (.iload 5, 2) := by decide +kernel
theorem kd_M_place_74 : decode kb_M_place 74 = .ok (.ifCond .ne 7, 3) := by decide +kernel
theorem kd_M_place_77 : decode kb_M_place 77 = .ok (.iconst 1, 1) := by decide +kernel
theorem kd_M_place_78 : decode kb_M_place 78 = .ok (.goto 4, 3) := by decide +kernel
theorem kd_M_place_81 : decode kb_M_place 81 = .ok (.iconst 0, 1) := by decide +kernel
theorem kd_M_place_82 : decode kb_M_place 82 = .ok (.iload 5, 2) := by decide +kernel
theorem kd_M_place_84 : decode kb_M_place 84 = .ok (.ifCond .eq 12, 3) := by decide +kernel
theorem kd_M_place_87 : decode kb_M_place 87 = .ok (.iload 6, 2) := by decide +kernel
theorem kd_M_place_89 : decode kb_M_place 89 = .ok (.ifCond .ne 7, 3) := by decide +kernel
theorem kd_M_place_92 : decode kb_M_place 92 = .ok (.iconst 1, 1) := by decide +kernel
theorem kd_M_place_93 : decode kb_M_place 93 = .ok (.goto 4, 3) := by decide +kernel
theorem kd_M_place_96 : decode kb_M_place 96 = .ok (.iconst 0, 1) := by decide +kernel
theorem kd_M_place_97 : decode kb_M_place 97 = .ok (.iload 6, 2) := by decide +kernel
theorem kd_M_place_99 : decode kb_M_place 99 = .ok (.ifCond .eq 17, 3) := by decide +kernel
theorem kd_M_place_102 : decode kb_M_place 102 = .ok (.iload 4, 2) := by decide +kernel
theorem kd_M_place_104 : decode kb_M_place 104 = .ok (.iconst 0, 1) := by decide +kernel
theorem kd_M_place_105 : decode kb_M_place 105 = .ok (.iconst 1, 1) := by decide +kernel
theorem kd_M_place_106 : decode kb_M_place 106 = .ok (.invokestatic 69, 3) := by decide +kernel
theorem kd_M_place_109 : decode kb_M_place 109 = .ok (.ifCond .ne 7, 3) := by decide +kernel
theorem kd_M_place_112 : decode kb_M_place 112 = .ok (.iconst 1, 1) := by decide +kernel
theorem kd_M_place_113 : decode kb_M_place 113 = .ok (.goto 4, 3) := by decide +kernel
theorem kd_M_place_116 : decode kb_M_place 116 = .ok (.iconst 0, 1) := by decide +kernel
theorem kd_M_place_117 : decode kb_M_place 117 = .ok (.invokevirtual 73, 3) := by decide +kernel
theorem kd_M_place_120 : decode kb_M_place 120 = .ok (.ifCond .eq 5, 3) := by decide +kernel
theorem kd_M_place_123 : decode kb_M_place 123 = .ok (.iconst 0, 1) := by decide +kernel
theorem kd_M_place_124 : decode kb_M_place 124 = .ok (.ireturn, 1) := by decide +kernel
theorem kd_M_place_125 : decode kb_M_place 125 = .ok (.sipush 128, 3) := by decide +kernel
theorem kd_M_place_128 : decode kb_M_place 128 = .ok (.iload_n 1, 1) := by decide +kernel
theorem kd_M_place_129 : decode kb_M_place 129 = .ok (.imul, 1) := by decide +kernel
theorem kd_M_place_130 : decode kb_M_place 130 = .ok (.bipush 8, 2) := by decide +kernel
theorem kd_M_place_132 : decode kb_M_place 132 = .ok (.iload_n 2, 1) := by decide +kernel
theorem kd_M_place_133 : decode kb_M_place 133 = .ok (.imul, 1) := by decide +kernel
theorem kd_M_place_134 : decode kb_M_place 134 = .ok (.iadd, 1) := by decide +kernel
theorem kd_M_place_135 : decode kb_M_place 135 = .ok (.iload_n 3, 1) := by decide +kernel
theorem kd_M_place_136 : decode kb_M_place 136 = .ok (.iadd, 1) := by decide +kernel
theorem kd_M_place_137 : decode kb_M_place 137 = .ok (.istore 7, 2) := by decide +kernel
theorem kd_M_place_139 : decode kb_M_place 139 = .ok (.iload 4, 2) := by decide +kernel
theorem kd_M_place_141 : decode kb_M_place 141 = .ok (.ifCond .ne 13, 3) := by decide +kernel
theorem kd_M_place_144 : decode kb_M_place 144 = .ok (.aload_n 0, 1) := by decide +kernel
theorem kd_M_place_145 : decode kb_M_place 145 = .ok (.getfield 41, 3) := by decide +kernel
theorem kd_M_place_148 : decode kb_M_place 148 = .ok (.iload 7, 2) := by decide +kernel
theorem kd_M_place_150 : decode kb_M_place 150 = .ok (.iaload, 1) := by decide +kernel
theorem kd_M_place_151 : decode kb_M_place 151 = .ok (.goto 18, 3) := by decide +kernel
theorem kd_M_place_154 : decode kb_M_place 154 = .ok (.aload_n 0, 1) := by decide +kernel
theorem kd_M_place_155 : decode kb_M_place 155 = .ok (.getfield 44, 3) := by decide +kernel
theorem kd_M_place_158 : decode kb_M_place 158 = .ok (.iload 7, 2) := by decide +kernel
theorem kd_M_place_160 : decode kb_M_place 160 = .ok (.baload, 1) := by decide +kernel
theorem kd_M_place_161 : decode kb_M_place 161 = .ok (.ifCond .eq 7, 3) := by decide +kernel
theorem kd_M_place_164 : decode kb_M_place 164 = .ok (.iconst 1, 1) := by decide +kernel
theorem kd_M_place_165 : decode kb_M_place 165 = .ok (.goto 4, 3) := by decide +kernel
theorem kd_M_place_168 : decode kb_M_place 168 = .ok (.iconst 0, 1) := by decide +kernel
theorem kd_M_place_169 : decode kb_M_place 169 = .ok (.ireturn, 1) := by decide +kernel
theorem kd_M_about_0 : decode kb_M_about 0 = .ok (.aload_n 0, 1) := by decide +kernel
theorem kd_M_about_1 : decode kb_M_about 1 = .ok (.iload_n 1, 1) := by decide +kernel
theorem kd_M_about_2 : decode kb_M_about 2 = .ok (.invokevirtual 103, 3) := by decide +kernel
theorem kd_M_about_5 : decode kb_M_about 5 = .ok (.istore_n 3, 1) := by decide +kernel
theorem kd_M_about_6 : decode kb_M_about 6 = .ok (.aload_n 0, 1) := by decide +kernel
theorem kd_M_about_7 : decode kb_M_about 7 = .ok (.iload_n 3, 1) := by decide +kernel
theorem kd_M_about_8 : decode kb_M_about 8 = .ok (.ifCond .ne 7, 3) := by decide +kernel
theorem kd_M_about_11 : decode kb_M_about 11 = .ok (.iconst 1, 1) := by decide +kernel
theorem kd_M_about_12 : decode kb_M_about 12 = .ok (.goto 4, 3) := by decide +kernel
theorem kd_M_about_15 : decode kb_M_about 15 = .ok (.iconst 0, 1) := by decide +kernel
theorem kd_M_about_16 : decode kb_M_about 16 = .ok (.iload_n 3, 1) := by decide +kernel
theorem kd_M_about_17 : decode kb_M_about 17 = .ok (.ifCond .eq 16, 3) := by decide +kernel
theorem kd_M_about_20 : decode kb_M_about 20 = .ok (.iload_n 2, 1) := by decide +kernel
theorem kd_M_about_21 : decode kb_M_about 21 = .ok (.iconst 0, 1) := by decide +kernel
theorem kd_M_about_22 : decode kb_M_about 22 = .ok (.iconst 5, 1) := by decide +kernel
theorem kd_M_about_23 : decode kb_M_about 23 = .ok (.invokestatic 69, 3) := by decide +kernel
theorem kd_M_about_26 : decode kb_M_about 26 = .ok (.ifCond .ne 7, 3) := by decide +kernel
theorem kd_M_about_29 : decode kb_M_about 29 = .ok (.iconst 1, 1) := by decide +kernel
theorem kd_M_about_30 : decode kb_M_about 30 = .ok (.goto 4, 3) := by decide +kernel
theorem kd_M_about_33 : decode kb_M_about 33 = .ok (.iconst 0, 1) := by decide +kernel
theorem kd_M_about_34 : decode kb_M_about 34 = .ok (.iconst 0, 1) := by decide +kernel
theorem kd_M_about_35 : decode kb_M_about 35 = .ok (.invokevirtual 73, 3) := by decide +kernel
theorem kd_M_about_38 : decode kb_M_about 38 = .ok (.ifCond .eq 5, 3) := by decide +kernel
theorem kd_M_about_41 : decode kb_M_about 41 = .ok (.iconst 0, 1) := by decide +kernel
theorem kd_M_about_42 : decode kb_M_about 42 = .ok (.ireturn, 1) := by decide +kernel
theorem kd_M_about_43 : decode kb_M_about 43 = .ok (.iload_n 2, 1) := by decide +kernel
theorem kd_M_about_44 : decode kb_M_about 44 = .ok (.tableswitch 71 0 4 #[36, 43, 50, 57, 64], 36) := by decide +kernel
theorem kd_M_about_80 : decode kb_M_about 80 = .ok (.aload_n 0, 1) := by decide +kernel
theorem kd_M_about_81 : decode kb_M_about 81 = .ok (.getfield 29, 3) := by decide +kernel
theorem kd_M_about_84 : decode kb_M_about 84 = .ok (.iload_n 1, 1) := by decide +kernel
theorem kd_M_about_85 : decode kb_M_about 85 = .ok (.iaload, 1) := by decide +kernel
theorem kd_M_about_86 : decode kb_M_about 86 = .ok (.ireturn, 1) := by decide +kernel
theorem kd_M_about_87 : decode kb_M_about 87 = .ok (.aload_n 0, 1) := by decide +kernel
theorem kd_M_about_88 : decode kb_M_about 88 = .ok (.getfield 32, 3) := by decide +kernel
theorem kd_M_about_91 : decode kb_M_about 91 = .ok (.iload_n 1, 1) := by decide +kernel
theorem kd_M_about_92 : decode kb_M_about 92 = .ok (.iaload, 1) := by decide +kernel
theorem kd_M_about_93 : decode kb_M_about 93 = .ok (.ireturn, 1) := by decide +kernel
theorem kd_M_about_94 : decode kb_M_about 94 = .ok (.aload_n 0, 1) := by decide +kernel
theorem kd_M_about_95 : decode kb_M_about 95 = .ok (.getfield 35, 3) := by decide +kernel
theorem kd_M_about_98 : decode kb_M_about 98 = .ok (.iload_n 1, 1) := by decide +kernel
theorem kd_M_about_99 : decode kb_M_about 99 = .ok (.iaload, 1) := by decide +kernel
theorem kd_M_about_100 : decode kb_M_about 100 = .ok (.ireturn, 1) := by decide +kernel
theorem kd_M_about_101 : decode kb_M_about 101 = .ok (.aload_n 0, 1) := by decide +kernel
theorem kd_M_about_102 : decode kb_M_about 102 = .ok (.getfield 38, 3) := by decide +kernel
theorem kd_M_about_105 : decode kb_M_about 105 = .ok (.iload_n 1, 1) := by decide +kernel
theorem kd_M_about_106 : decode kb_M_about 106 = .ok (.iaload, 1) := by decide +kernel
theorem kd_M_about_107 : decode kb_M_about 107 = .ok (.ireturn, 1) := by decide +kernel
theorem kd_M_about_108 : decode kb_M_about 108 = .ok (.aload_n 0, 1) := by decide +kernel
theorem kd_M_about_109 : decode kb_M_about 109 = .ok (.iload_n 1, 1) := by decide +kernel
theorem kd_M_about_110 : decode kb_M_about 110 = .ok (.iconst 0, 1) := by decide +kernel
theorem kd_M_about_111 : decode kb_M_about 111 = .ok (.invokevirtual 107, 3) := by decide +kernel
theorem kd_M_about_114 : decode kb_M_about 114 = .ok (.ireturn, 1) := by decide +kernel
theorem kd_M_about_115 : decode kb_M_about 115 = .ok (.aload_n 0, 1) := by decide +kernel
theorem kd_M_about_116 : decode kb_M_about 116 = .ok (.iload_n 1, 1) := by decide +kernel
theorem kd_M_about_117 : decode kb_M_about 117 = .ok (.iconst 1, 1) := by decide +kernel
theorem kd_M_about_118 : decode kb_M_about 118 = .ok (.invokevirtual 107, 3) := by decide +kernel
theorem kd_M_about_121 : decode kb_M_about 121 = .ok (.ireturn, 1) := by decide +kernel
theorem kd_M_accesses_0 : decode kb_M_accesses 0 = .ok (.aload_n 0, 1) := by decide +kernel
theorem kd_M_accesses_1 : decode kb_M_accesses 1 = .ok (.iconst 0, 1) := by decide +kernel
theorem kd_M_accesses_2 : decode kb_M_accesses 2 = .ok (.putfield 65, 3) := by decide +kernel
theorem kd_M_accesses_5 : decode kb_M_accesses 5 = .ok (.aload_n 0, 1) := by decide +kernel
theorem kd_M_accesses_6 : decode kb_M_accesses 6 = .ok (.getfield 92, 3) := by decide +kernel
theorem kd_M_accesses_9 : decode kb_M_accesses 9 = .ok (.ireturn, 1) := by decide +kernel
theorem kd_M_curve_0 : decode kb_M_curve 0 = .ok (.aload_n 0, 1) := by decide +kernel
theorem kd_M_curve_1 : decode kb_M_curve 1 = .ok (.iload_n 1, 1) := by decide +kernel
theorem kd_M_curve_2 : decode kb_M_curve 2 = .ok (.iconst 1, 1) := by decide +kernel
theorem kd_M_curve_3 : decode kb_M_curve 3 = .ok (.bipush 64, 2) := by decide +kernel
theorem kd_M_curve_5 : decode kb_M_curve 5 = .ok (.invokestatic 69, 3) := by decide +kernel
theorem kd_M_curve_8 : decode kb_M_curve 8 = .ok (.ifCond .eq 13, 3) := by decide +kernel
theorem kd_M_curve_11 : decode kb_M_curve 11 = .ok (.iload_n 2, 1) := by decide +kernel
theorem kd_M_curve_12 : decode kb_M_curve 12 = .ok (.iconst 0, 1) := by decide +kernel
theorem kd_M_curve_13 : decode kb_M_curve 13 = .ok (.bipush 6, 2) := by decide +kernel
theorem kd_M_curve_15 : decode kb_M_curve 15 = .ok (.invokestatic 69, 3) := by decide +kernel
theorem kd_M_curve_18 : decode kb_M_curve 18 = .ok (.ifCond .ne 7, 3) := by decide +kernel
theorem kd_M_curve_21 : decode kb_M_curve 21 = .ok (.iconst 1, 1) := by decide +kernel
theorem kd_M_curve_22 : decode kb_M_curve 22 = .ok (.goto 4, 3) := by decide +kernel
theorem kd_M_curve_25 : decode kb_M_curve 25 = .ok (.iconst 0, 1) := by decide +kernel
theorem kd_M_curve_26 : decode kb_M_curve 26 = .ok (.iconst 0, 1) := by decide +kernel
theorem kd_M_curve_27 : decode kb_M_curve 27 = .ok (.iconst 0, 1) := by decide +kernel
theorem kd_M_curve_28 : decode kb_M_curve 28 = .ok (.invokevirtual 73, 3) := by decide +kernel
theorem kd_M_curve_31 : decode kb_M_curve 31 = .ok (.ifCond .eq 5, 3) := by decide +kernel
theorem kd_M_curve_34 : decode kb_M_curve 34 = .ok (.iconst 0, 1) := by decide +kernel
theorem kd_M_curve_35 : decode kb_M_curve 35 = .ok (.ireturn, 1) := by decide +kernel
theorem kd_M_curve_36 : decode kb_M_curve 36 = .ok (.aload_n 0, 1) := by decide +kernel
theorem kd_M_curve_37 : decode kb_M_curve 37 = .ok (.iconst 0, 1) := by decide +kernel
theorem kd_M_curve_38 : decode kb_M_curve 38 = .ok (.putfield 111, 3) := by decide +kernel
theorem kd_M_curve_41 : decode kb_M_curve 41 = .ok (.iconst 0, 1) := by decide +kernel
theorem kd_M_curve_42 : decode kb_M_curve 42 = .ok (.istore_n 3, 1) := by decide +kernel
theorem kd_M_curve_43 : decode kb_M_curve 43 = .ok (.iconst 0, 1) := by decide +kernel
theorem kd_M_curve_44 : decode kb_M_curve 44 = .ok (.istore 4, 2) := by decide +kernel
theorem kd_M_curve_46 : decode kb_M_curve 46 = .ok (.iload 4, 2) := by decide +kernel
theorem kd_M_curve_48 : decode kb_M_curve 48 = .ok (.aload_n 0, 1) := by decide +kernel
theorem kd_M_curve_49 : decode kb_M_curve 49 = .ok (.getfield 92, 3) := by decide +kernel
theorem kd_M_curve_52 : decode kb_M_curve 52 = .ok (.if_icmp .ge 36, 3) := by decide +kernel
theorem kd_M_curve_55 : decode kb_M_curve 55 = .ok (.aload_n 0, 1) := by decide +kernel
theorem kd_M_curve_56 : decode kb_M_curve 56 = .ok (.aload_n 0, 1) := by decide +kernel
theorem kd_M_curve_57 : decode kb_M_curve 57 = .ok (.getfield 7, 3) := by decide +kernel
theorem kd_M_curve_60 : decode kb_M_curve 60 = .ok (.iload 4, 2) := by decide +kernel
theorem kd_M_curve_62 : decode kb_M_curve 62 = .ok (.iaload, 1) := by decide +kernel
theorem kd_M_curve_63 : decode kb_M_curve 63 = .ok (.iload_n 2, 1) := by decide +kernel
theorem kd_M_curve_64 : decode kb_M_curve 64 = .ok (.ishr, 1) := by decide +kernel
theorem kd_M_curve_65 : decode kb_M_curve 65 = .ok (.iload_n 1, 1) := by decide +kernel
theorem kd_M_curve_66 : decode kb_M_curve 66 = .ok (.iload 4, 2) := by decide +kernel
theorem kd_M_curve_68 : decode kb_M_curve 68 = .ok (.invokevirtual 114, 3) := by decide +kernel
theorem kd_M_curve_71 : decode kb_M_curve 71 = .ok (.ifCond .eq 9, 3) := by decide +kernel
theorem kd_M_curve_74 : decode kb_M_curve 74 = .ok (.iload_n 3, 1) := by decide +kernel
theorem kd_M_curve_75 : decode kb_M_curve 75 = .ok (.iconst 1, 1) := by decide +kernel
theorem kd_M_curve_76 : decode kb_M_curve 76 = .ok (.iadd, 1) := by decide +kernel
theorem kd_M_curve_77 : decode kb_M_curve 77 = .ok (.goto 4, 3) := by decide +kernel
theorem kd_M_curve_80 : decode kb_M_curve 80 = .ok (.iload_n 3, 1) := by decide +kernel
theorem kd_M_curve_81 : decode kb_M_curve 81 = .ok (.istore_n 3, 1) := by decide +kernel
theorem kd_M_curve_82 : decode kb_M_curve 82 = .ok (.iinc 4 1, 3) := by decide +kernel
theorem kd_M_curve_85 : decode kb_M_curve 85 = .ok (.goto (-39), 3) := by decide +kernel
theorem kd_M_curve_88 : decode kb_M_curve 88 = .ok (.iload_n 3, 1) := by decide +kernel
theorem kd_M_curve_89 : decode kb_M_curve 89 = .ok (.ireturn, 1) := by decide +kernel
theorem kd_M_comes_0 : decode kb_M_comes 0 = .ok (.iconst (-1), 1) := by decide +kernel
theorem kd_M_comes_1 : decode kb_M_comes 1 = .ok (.istore 4, 2) := by decide +kernel
theorem kd_M_comes_3 : decode kb_M_comes 3 = .ok (.iconst 0, 1) := by decide +kernel
theorem kd_M_comes_4 : decode kb_M_comes 4 = .ok (.istore 5, 2) := by decide +kernel
theorem kd_M_comes_6 : decode kb_M_comes 6 = .ok (.iconst 0, 1) := by decide +kernel
theorem kd_M_comes_7 : decode kb_M_comes 7 = .ok (.istore 6, 2) := by decide +kernel
theorem kd_M_comes_9 : decode kb_M_comes 9 = .ok (.iload 6, 2) := by decide +kernel
theorem kd_M_comes_11 : decode kb_M_comes 11 = .ok (.aload_n 0, 1) := by decide +kernel
theorem kd_M_comes_12 : decode kb_M_comes 12 = .ok (.getfield 111, 3) := by decide +kernel
theorem kd_M_comes_15 : decode kb_M_comes 15 = .ok (.if_icmp .ge 55, 3) := by decide +kernel
theorem kd_M_comes_18 : decode kb_M_comes 18 = .ok (.aload_n 0, 1) := by decide +kernel
theorem kd_M_comes_19 : decode kb_M_comes 19 = .ok (.getfield 56, 3) := by decide +kernel
theorem kd_M_comes_22 : decode kb_M_comes 22 = .ok (.iload 6, 2) := by decide +kernel
theorem kd_M_comes_24 : decode kb_M_comes 24 = .ok (.iaload, 1) := by decide +kernel
theorem kd_M_comes_25 : decode kb_M_comes 25 = .ok (.iload_n 1, 1) := by decide +kernel
theorem kd_M_comes_26 : decode kb_M_comes 26 = .ok (.if_icmp .ne 8, 3) := by decide +kernel
theorem kd_M_comes_29 : decode kb_M_comes 29 = .ok (.iload 6, 2) := by decide +kernel
theorem kd_M_comes_31 : decode kb_M_comes 31 = .ok (.goto 5, 3) := by decide +kernel
theorem kd_M_comes_34 : decode kb_M_comes 34 = .ok (.iload 4, 2) := by decide +kernel
theorem kd_M_comes_36 : decode kb_M_comes 36 = .ok (.istore 4, 2) := by decide +kernel
theorem kd_M_comes_38 : decode kb_M_comes 38 = .ok (.aload_n 0, 1) := by decide +kernel
theorem kd_M_comes_39 : decode kb_M_comes 39 = .ok (.getfield 59, 3) := by decide +kernel
theorem kd_M_comes_42 : decode kb_M_comes 42 = .ok (.iload 6, 2) := by decide +kernel
theorem kd_M_comes_44 : decode kb_M_comes 44 = .ok (.iaload, 1) := by decide +kernel
theorem kd_M_comes_45 : decode kb_M_comes 45 = .ok (.aload_n 0, 1) := by decide +kernel
theorem kd_M_comes_46 : decode kb_M_comes 46 = .ok (.getfield 59, 3) := by decide +kernel
theorem kd_M_comes_49 : decode kb_M_comes 49 = .ok (.iload 5, 2) := by decide +kernel
theorem kd_M_comes_51 : decode kb_M_comes 51 = .ok (.iaload, 1) := by decide +kernel
theorem kd_M_comes_52 : decode kb_M_comes 52 = .ok (.if_icmp .ge 8, 3) := by decide +kernel
theorem kd_M_comes_55 : decode kb_M_comes 55 = .ok (.iload 6, 2) := by decide +kernel
theorem kd_M_comes_57 : decode kb_M_comes 57 = .ok (.goto 5, 3) := by decide +kernel
theorem kd_M_comes_60 : decode kb_M_comes 60 = .ok (.iload 5, 2) := by decide +kernel
theorem kd_M_comes_62 : decode kb_M_comes 62 = .ok (.istore 5, 2) := by decide +kernel
theorem kd_M_comes_64 : decode kb_M_comes 64 = .ok (.iinc 6 1, 3) := by decide +kernel
theorem kd_M_comes_67 : decode kb_M_comes 67 = .ok (.goto (-58), 3) := by decide +kernel
theorem kd_M_comes_70 : decode kb_M_comes 70 = .ok (.iload 4, 2) := by decide +kernel
theorem kd_M_comes_72 : decode kb_M_comes 72 = .ok (.ifCond .lt 7, 3) := by decide +kernel
theorem kd_M_comes_75 : decode kb_M_comes 75 = .ok (.iconst 1, 1) := by decide +kernel
theorem kd_M_comes_76 : decode kb_M_comes 76 = .ok (.goto 4, 3) := by decide +kernel
theorem kd_M_comes_79 : decode kb_M_comes 79 = .ok (.iconst 0, 1) := by decide +kernel
theorem kd_M_comes_80 : decode kb_M_comes 80 = .ok (.istore 6, 2) := by decide +kernel
theorem kd_M_comes_82 : decode kb_M_comes 82 = .ok (.iload 6, 2) := by decide +kernel
theorem kd_M_comes_84 : decode kb_M_comes 84 = .ok (.ifCond .ne 30, 3) := by decide +kernel
theorem kd_M_comes_87 : decode kb_M_comes 87 = .ok (.aload_n 0, 1) := by decide +kernel
theorem kd_M_comes_88 : decode kb_M_comes 88 = .ok (.getfield 111, 3) := by decide +kernel
theorem kd_M_comes_91 : decode kb_M_comes 91 = .ok (.iload_n 2, 1) := by decide +kernel
theorem kd_M_comes_92 : decode kb_M_comes 92 = .ok (.if_icmp .ge 22, 3) := by decide +kernel
theorem kd_M_comes_95 : decode kb_M_comes 95 = .ok (.aload_n 0, 1) := by decide +kernel
theorem kd_M_comes_96 : decode kb_M_comes 96 = .ok (.getfield 111, 3) := by decide +kernel
theorem kd_M_comes_99 : decode kb_M_comes 99 = .ok (.istore 4, 2) := by decide +kernel
theorem kd_M_comes_101 : decode kb_M_comes 101 = .ok (.aload_n 0, 1) := by decide +kernel
theorem kd_M_comes_102 : decode kb_M_comes 102 = .ok (.dup, 1) := by decide +kernel
theorem kd_M_comes_103 : decode kb_M_comes 103 = .ok (.getfield 111, 3) := by decide +kernel
theorem kd_M_comes_106 : decode kb_M_comes 106 = .ok (.iconst 1, 1) := by decide +kernel
theorem kd_M_comes_107 : decode kb_M_comes 107 = .ok (.iadd, 1) := by decide +kernel
theorem kd_M_comes_108 : decode kb_M_comes 108 = .ok (.putfield 111, 3) := by decide +kernel
theorem kd_M_comes_111 : decode kb_M_comes 111 = .ok (.goto 12, 3) := by decide +kernel
theorem kd_M_comes_114 : decode kb_M_comes 114 = .ok (.iload 6, 2) := by decide +kernel
theorem kd_M_comes_116 : decode kb_M_comes 116 = .ok (.ifCond .ne 7, 3) := by decide +kernel
theorem kd_M_comes_119 : decode kb_M_comes 119 = .ok (.iload 5, 2) := by decide +kernel
theorem kd_M_comes_121 : decode kb_M_comes 121 = .ok (.istore 4, 2) := by decide +kernel
theorem kd_M_comes_123 : decode kb_M_comes 123 = .ok (.aload_n 0, 1) := by decide +kernel
theorem kd_M_comes_124 : decode kb_M_comes 124 = .ok (.getfield 56, 3) := by decide +kernel
theorem kd_M_comes_127 : decode kb_M_comes 127 = .ok (.iload 4, 2) := by decide +kernel
theorem kd_M_comes_129 : decode kb_M_comes 129 = .ok (.iload_n 1, 1) := by decide +kernel
theorem kd_M_comes_130 : decode kb_M_comes 130 = .ok (.iastore, 1) := by decide +kernel
theorem kd_M_comes_131 : decode kb_M_comes 131 = .ok (.aload_n 0, 1) := by decide +kernel
theorem kd_M_comes_132 : decode kb_M_comes 132 = .ok (.getfield 59, 3) := by decide +kernel
theorem kd_M_comes_135 : decode kb_M_comes 135 = .ok (.iload 4, 2) := by decide +kernel
theorem kd_M_comes_137 : decode kb_M_comes 137 = .ok (.iload_n 3, 1) := by decide +kernel
theorem kd_M_comes_138 : decode kb_M_comes 138 = .ok (.iastore, 1) := by decide +kernel
theorem kd_M_comes_139 : decode kb_M_comes 139 = .ok (.iload 6, 2) := by decide +kernel
theorem kd_M_comes_141 : decode kb_M_comes 141 = .ok (.ireturn, 1) := by decide +kernel
theorem kd_M_best_0 : decode kb_M_best 0 = .ok (.aload_n 0, 1) := by decide +kernel
theorem kd_M_best_1 : decode kb_M_best 1 = .ok (.iload_n 1, 1) := by decide +kernel
theorem kd_M_best_2 : decode kb_M_best 2 = .ok (.iconst 1, 1) := by decide +kernel
theorem kd_M_best_3 : decode kb_M_best 3 = .ok (.bipush 64, 2) := by decide +kernel
theorem kd_M_best_5 : decode kb_M_best 5 = .ok (.invokestatic 69, 3) := by decide +kernel
theorem kd_M_best_8 : decode kb_M_best 8 = .ok (.ifCond .eq 13, 3) := by decide +kernel
theorem kd_M_best_11 : decode kb_M_best 11 = .ok (.iload_n 2, 1) := by decide +kernel
theorem kd_M_best_12 : decode kb_M_best 12 = .ok (.iconst 0, 1) := by decide +kernel
theorem kd_M_best_13 : decode kb_M_best 13 = .ok (.bipush 6, 2) := by decide +kernel
theorem kd_M_best_15 : decode kb_M_best 15 = .ok (.invokestatic 69, 3) := by decide +kernel
theorem kd_M_best_18 : decode kb_M_best 18 = .ok (.ifCond .ne 7, 3) := by decide +kernel
theorem kd_M_best_21 : decode kb_M_best 21 = .ok (.iconst 1, 1) := by decide +kernel
theorem kd_M_best_22 : decode kb_M_best 22 = .ok (.goto 4, 3) := by decide +kernel
theorem kd_M_best_25 : decode kb_M_best 25 = .ok (.iconst 0, 1) := by decide +kernel
theorem kd_M_best_26 : decode kb_M_best 26 = .ok (.iconst 0, 1) := by decide +kernel
theorem kd_M_best_27 : decode kb_M_best 27 = .ok (.iconst 0, 1) := by decide +kernel
theorem kd_M_best_28 : decode kb_M_best 28 = .ok (.invokevirtual 73, 3) := by decide +kernel
theorem kd_M_best_31 : decode kb_M_best 31 = .ok (.ifCond .eq 5, 3) := by decide +kernel
theorem kd_M_best_34 : decode kb_M_best 34 = .ok (.iconst 0, 1) := by decide +kernel
theorem kd_M_best_35 : decode kb_M_best 35 = .ok (.ireturn, 1) := by decide +kernel
theorem kd_M_best_36 : decode kb_M_best 36 = .ok (.aload_n 0, 1) := by decide +kernel
theorem kd_M_best_37 : decode kb_M_best 37 = .ok (.iconst 0, 1) := by decide +kernel
theorem kd_M_best_38 : decode kb_M_best 38 = .ok (.putfield 117, 3) := by decide +kernel
theorem kd_M_best_41 : decode kb_M_best 41 = .ok (.iconst 0, 1) := by decide +kernel
theorem kd_M_best_42 : decode kb_M_best 42 = .ok (.istore_n 3, 1) := by decide +kernel
theorem kd_M_best_43 : decode kb_M_best 43 = .ok (.iconst 0, 1) := by decide +kernel
theorem kd_M_best_44 : decode kb_M_best 44 = .ok (.istore 4, 2) := by decide +kernel
theorem kd_M_best_46 : decode kb_M_best 46 = .ok (.iload 4, 2) := by decide +kernel
theorem kd_M_best_48 : decode kb_M_best 48 = .ok (.aload_n 0, 1) := by decide +kernel
theorem kd_M_best_49 : decode kb_M_best 49 = .ok (.getfield 92, 3) := by decide +kernel
theorem kd_M_best_52 : decode kb_M_best 52 = .ok (.if_icmp .ge 176, 3) := by decide +kernel
theorem kd_M_best_55 : decode kb_M_best 55 = .ok (.iload 4, 2) := by decide +kernel
theorem kd_M_best_57 : decode kb_M_best 57 = .ok (.ifCond .le 15, 3) := by decide +kernel
theorem kd_M_best_60 : decode kb_M_best 60 = .ok (.aload_n 0, 1) := by decide +kernel
theorem kd_M_best_61 : decode kb_M_best 61 = .ok (.iload 4, 2) := by decide +kernel
theorem kd_M_best_63 : decode kb_M_best 63 = .ok (.iconst 1, 1) := by decide +kernel
theorem kd_M_best_64 : decode kb_M_best 64 = .ok (.isub, 1) := by decide +kernel
theorem kd_M_best_65 : decode kb_M_best 65 = .ok (.iload_n 2, 1) := by decide +kernel
theorem kd_M_best_66 : decode kb_M_best 66 = .ok (.invokevirtual 120, 3) := by decide +kernel
theorem kd_M_best_69 : decode kb_M_best 69 = .ok (.goto 4, 3) := by decide +kernel
theorem kd_M_best_72 : decode kb_M_best 72 = .ok (.iconst (-1), 1) := by decide +kernel
theorem kd_M_best_73 : decode kb_M_best 73 = .ok (.istore 5, 2) := by decide +kernel
theorem kd_M_best_75 : decode kb_M_best 75 = .ok (.iload 5, 2) := by decide +kernel
theorem kd_M_best_77 : decode kb_M_best 77 = .ok (.ifCond .lt 24, 3) := by decide +kernel
theorem kd_M_best_80 : decode kb_M_best 80 = .ok (.aload_n 0, 1) := by decide +kernel
theorem kd_M_best_81 : decode kb_M_best 81 = .ok (.getfield 62, 3) := by decide +kernel
theorem kd_M_best_84 : decode kb_M_best 84 = .ok (.aload_n 0, 1) := by decide +kernel
theorem kd_M_best_85 : decode kb_M_best 85 = .ok (.getfield 117, 3) := by decide +kernel
theorem kd_M_best_88 : decode kb_M_best 88 = .ok (.iload 5, 2) := by decide +kernel
theorem kd_M_best_90 : decode kb_M_best 90 = .ok (.iastore, 1) := by decide +kernel
theorem kd_M_best_91 : decode kb_M_best 91 = .ok (.aload_n 0, 1) := by decide +kernel
theorem kd_M_best_92 : decode kb_M_best 92 = .ok (.dup, 1) := by decide +kernel
theorem kd_M_best_93 : decode kb_M_best 93 = .ok (.getfield 117, 3) := by decide +kernel
theorem kd_M_best_96 : decode kb_M_best 96 = .ok (.iconst 1, 1) := by decide +kernel
theorem kd_M_best_97 : decode kb_M_best 97 = .ok (.iadd, 1) := by decide +kernel
theorem kd_M_best_98 : decode kb_M_best 98 = .ok (.putfield 117, 3) := by decide +kernel
theorem kd_M_best_101 : decode kb_M_best 101 = .ok (.iconst 0, 1) := by decide +kernel
theorem kd_M_best_102 : decode kb_M_best 102 = .ok (.istore 6, 2) := by decide +kernel
theorem kd_M_best_104 : decode kb_M_best 104 = .ok (.iconst (-1), 1) := by decide +kernel
theorem kd_M_best_105 : decode kb_M_best 105 = .ok (.istore 7, 2) := by decide +kernel
theorem kd_M_best_107 : decode kb_M_best 107 = .ok (.iconst 0, 1) := by decide +kernel
theorem kd_M_best_108 : decode kb_M_best 108 = .ok (.istore 8, 2) := by decide +kernel
theorem kd_M_best_110 : decode kb_M_best 110 = .ok (.iload 8, 2) := by decide +kernel
theorem kd_M_best_112 : decode kb_M_best 112 = .ok (.aload_n 0, 1) := by decide +kernel
theorem kd_M_best_113 : decode kb_M_best 113 = .ok (.getfield 117, 3) := by decide +kernel
theorem kd_M_best_116 : decode kb_M_best 116 = .ok (.if_icmp .ge 75, 3) := by decide +kernel
theorem kd_M_best_119 : decode kb_M_best 119 = .ok (.aload_n 0, 1) := by decide +kernel
theorem kd_M_best_120 : decode kb_M_best 120 = .ok (.getfield 62, 3) := by decide +kernel
theorem kd_M_best_123 : decode kb_M_best 123 = .ok (.iload 8, 2) := by decide +kernel
theorem kd_M_best_125 : decode kb_M_best 125 = .ok (.iaload, 1) := by decide +kernel
theorem kd_M_best_126 : decode kb_M_best 126 = .ok (.iload 4, 2) := by decide +kernel
theorem kd_M_best_128 : decode kb_M_best 128 = .ok (.if_icmp .ne 9, 3) := by decide +kernel
theorem kd_M_best_131 : decode kb_M_best 131 = .ok (.iinc 3 1, 3) := by decide +kernel
theorem kd_M_best_134 : decode kb_M_best 134 = .ok (.goto 51, 3) := by decide +kernel
theorem kd_M_best_137 : decode kb_M_best 137 = .ok (.aload_n 0, 1) := by decide +kernel
theorem kd_M_best_138 : decode kb_M_best 138 = .ok (.getfield 62, 3) := by decide +kernel
theorem kd_M_best_141 : decode kb_M_best 141 = .ok (.iload 6, 2) := by decide +kernel
theorem kd_M_best_143 : decode kb_M_best 143 = .ok (.aload_n 0, 1) := by decide +kernel
theorem kd_M_best_144 : decode kb_M_best 144 = .ok (.getfield 62, 3) := by decide +kernel
theorem kd_M_best_147 : decode kb_M_best 147 = .ok (.iload 8, 2) := by decide +kernel
theorem kd_M_best_149 : decode kb_M_best 149 = .ok (.iaload, 1) := by decide +kernel
theorem kd_M_best_150 : decode kb_M_best 150 = .ok (.iastore, 1) := by decide +kernel
theorem kd_M_best_151 : decode kb_M_best 151 = .ok (.iload 7, 2) := by decide +kernel
theorem kd_M_best_153 : decode kb_M_best 153 = .ok (.ifCond .lt 20, 3) := by decide +kernel
theorem kd_M_best_156 : decode kb_M_best 156 = .ok (.aload_n 0, 1) := by decide +kernel
theorem kd_M_best_157 : decode kb_M_best 157 = .ok (.getfield 62, 3) := by decide +kernel
theorem kd_M_best_160 : decode kb_M_best 160 = .ok (.iload 6, 2) := by decide +kernel
theorem kd_M_best_162 : decode kb_M_best 162 = .ok (.iaload, 1) := by decide +kernel
theorem kd_M_best_163 : decode kb_M_best 163 = .ok (.aload_n 0, 1) := by decide +kernel
theorem kd_M_best_164 : decode kb_M_best 164 = .ok (.getfield 62, 3) := by decide +kernel
theorem kd_M_best_167 : decode kb_M_best 167 = .ok (.iload 7, 2) := by decide +kernel
theorem kd_M_best_169 : decode kb_M_best 169 = .ok (.iaload, 1) := by decide +kernel
theorem kd_M_best_170 : decode kb_M_best 170 = .ok (.if_icmp .le 8, 3) := by decide +kernel
theorem kd_M_best_173 : decode kb_M_best 173 = .ok (.iload 6, 2) := by decide +kernel
theorem kd_M_best_175 : decode kb_M_best 175 = .ok (.goto 5, 3) := by decide +kernel
theorem kd_M_best_178 : decode kb_M_best 178 = .ok (.iload 7, 2) := by decide +kernel
theorem kd_M_best_180 : decode kb_M_best 180 = .ok (.istore 7, 2) := by decide +kernel
theorem kd_M_best_182 : decode kb_M_best 182 = .ok (.iinc 6 1, 3) := by decide +kernel
theorem kd_M_best_185 : decode kb_M_best 185 = .ok (.iinc 8 1, 3) := by decide +kernel
theorem kd_M_best_188 : decode kb_M_best 188 = .ok (.goto (-78), 3) := by decide +kernel
theorem kd_M_best_191 : decode kb_M_best 191 = .ok (.iload 6, 2) := by decide +kernel
theorem kd_M_best_193 : decode kb_M_best 193 = .ok (.iload_n 1, 1) := by decide +kernel
theorem kd_M_best_194 : decode kb_M_best 194 = .ok (.iconst 1, 1) := by decide +kernel
theorem kd_M_best_195 : decode kb_M_best 195 = .ok (.isub, 1) := by decide +kernel
theorem kd_M_best_196 : decode kb_M_best 196 = .ok (.if_icmp .le 20, 3) := by decide +kernel
theorem kd_M_best_199 : decode kb_M_best 199 = .ok (.iinc 6 (-1), 3) := by decide +kernel
theorem kd_M_best_202 : decode kb_M_best 202 = .ok (.aload_n 0, 1) := by decide +kernel
theorem kd_M_best_203 : decode kb_M_best 203 = .ok (.getfield 62, 3) := by decide +kernel
theorem kd_M_best_206 : decode kb_M_best 206 = .ok (.iload 7, 2) := by decide +kernel
theorem kd_M_best_208 : decode kb_M_best 208 = .ok (.aload_n 0, 1) := by decide +kernel
theorem kd_M_best_209 : decode kb_M_best 209 = .ok (.getfield 62, 3) := by decide +kernel
theorem kd_M_best_212 : decode kb_M_best 212 = .ok (.iload 6, 2) := by decide +kernel
theorem kd_M_best_214 : decode kb_M_best 214 = .ok (.iaload, 1) := by decide +kernel
theorem kd_M_best_215 : decode kb_M_best 215 = .ok (.iastore, 1) := by decide +kernel
theorem kd_M_best_216 : decode kb_M_best 216 = .ok (.aload_n 0, 1) := by decide +kernel
theorem kd_M_best_217 : decode kb_M_best 217 = .ok (.iload 6, 2) := by decide +kernel
theorem kd_M_best_219 : decode kb_M_best 219 = .ok (.putfield 117, 3) := by decide +kernel
theorem kd_M_best_222 : decode kb_M_best 222 = .ok (.iinc 4 1, 3) := by decide +kernel
theorem kd_M_best_225 : decode kb_M_best 225 = .ok (.goto (-179), 3) := by decide +kernel
theorem kd_M_best_228 : decode kb_M_best 228 = .ok (.iload_n 3, 1) := by decide +kernel
theorem kd_M_best_229 : decode kb_M_best 229 = .ok (.ireturn, 1) := by decide +kernel
theorem kd_M_nextOf_0 : decode kb_M_nextOf 0 = .ok (.iload_n 1, 1) := by decide +kernel
theorem kd_M_nextOf_1 : decode kb_M_nextOf 1 = .ok (.iconst 1, 1) := by decide +kernel
theorem kd_M_nextOf_2 : decode kb_M_nextOf 2 = .ok (.iadd, 1) := by decide +kernel
theorem kd_M_nextOf_3 : decode kb_M_nextOf 3 = .ok (.istore_n 3, 1) := by decide +kernel
theorem kd_M_nextOf_4 : decode kb_M_nextOf 4 = .ok (.iload_n 3, 1) := by decide +kernel
theorem kd_M_nextOf_5 : decode kb_M_nextOf 5 = .ok (.aload_n 0, 1) := by decide +kernel
theorem kd_M_nextOf_6 : decode kb_M_nextOf 6 = .ok (.getfield 92, 3) := by decide +kernel
theorem kd_M_nextOf_9 : decode kb_M_nextOf 9 = .ok (.if_icmp .ge 28, 3) := by decide +kernel
theorem kd_M_nextOf_12 : decode kb_M_nextOf 12 = .ok (.aload_n 0, 1) := by decide +kernel
theorem kd_M_nextOf_13 : decode kb_M_nextOf 13 = .ok (.getfield 7, 3) := by decide +kernel
theorem kd_M_nextOf_16 : decode kb_M_nextOf 16 = .ok (.iload_n 3, 1) := by decide +kernel
theorem kd_M_nextOf_17 : decode kb_M_nextOf 17 = .ok (.iaload, 1) := by decide +kernel
theorem kd_M_nextOf_18 : decode kb_M_nextOf 18 = .ok (.iload_n 2, 1) := by decide +kernel
theorem kd_M_nextOf_19 : decode kb_M_nextOf 19 = .ok (.ishr, 1) := by decide +kernel
theorem kd_M_nextOf_20 : decode kb_M_nextOf 20 = .ok (.aload_n 0, 1) := by decide +kernel
theorem kd_M_nextOf_21 : decode kb_M_nextOf 21 = .ok (.getfield 7, 3) := by decide +kernel
theorem kd_M_nextOf_24 : decode kb_M_nextOf 24 = .ok (.iload_n 1, 1) := by decide +kernel
theorem kd_M_nextOf_25 : decode kb_M_nextOf 25 = .ok (.iaload, 1) := by decide +kernel
theorem kd_M_nextOf_26 : decode kb_M_nextOf 26 = .ok (.iload_n 2, 1) := by decide +kernel
theorem kd_M_nextOf_27 : decode kb_M_nextOf 27 = .ok (.ishr, 1) := by decide +kernel
theorem kd_M_nextOf_28 : decode kb_M_nextOf 28 = .ok (.if_icmp .eq 9, 3) := by decide +kernel
theorem kd_M_nextOf_31 : decode kb_M_nextOf 31 = .ok (.iinc 3 1, 3) := by decide +kernel
theorem kd_M_nextOf_34 : decode kb_M_nextOf 34 = .ok (.goto (-30), 3) := by decide +kernel
theorem kd_M_nextOf_37 : decode kb_M_nextOf 37 = .ok (.iload_n 3, 1) := by decide +kernel
theorem kd_M_nextOf_38 : decode kb_M_nextOf 38 = .ok (.aload_n 0, 1) := by decide +kernel
theorem kd_M_nextOf_39 : decode kb_M_nextOf 39 = .ok (.getfield 92, 3) := by decide +kernel
theorem kd_M_nextOf_42 : decode kb_M_nextOf 42 = .ok (.if_icmp .ge 7, 3) := by decide +kernel
theorem kd_M_nextOf_45 : decode kb_M_nextOf 45 = .ok (.iload_n 3, 1) := by decide +kernel
theorem kd_M_nextOf_46 : decode kb_M_nextOf 46 = .ok (.goto 4, 3) := by decide +kernel
theorem kd_M_nextOf_49 : decode kb_M_nextOf 49 = .ok (.iconst (-1), 1) := by decide +kernel
theorem kd_M_nextOf_50 : decode kb_M_nextOf 50 = .ok (.ireturn, 1) := by decide +kernel
theorem kd_L_law_0 : decode kb_L_law 0 = .ok (.new 8, 3) := by decide +kernel
theorem kd_L_law_3 : decode kb_L_law 3 = .ok (.dup, 1) := by decide +kernel
theorem kd_L_law_4 : decode kb_L_law 4 = .ok (.invokespecial 43, 3) := by decide +kernel
theorem kd_L_law_7 : decode kb_L_law 7 = .ok (.astore_n 1, 1) := by decide +kernel
theorem kd_L_law_8 : decode kb_L_law 8 = .ok (.new 44, 3) := by decide +kernel
theorem kd_L_law_11 : decode kb_L_law 11 = .ok (.dup, 1) := by decide +kernel
theorem kd_L_law_12 : decode kb_L_law 12 = .ok (.invokespecial 46, 3) := by decide +kernel
theorem kd_L_law_15 : decode kb_L_law 15 = .ok (.astore_n 2, 1) := by decide +kernel
theorem kd_L_law_16 : decode kb_L_law 16 = .ok (.iconst 1, 1) := by decide +kernel
theorem kd_L_law_17 : decode kb_L_law 17 = .ok (.newarray .long, 2) := by decide +kernel
theorem kd_L_law_19 : decode kb_L_law 19 = .ok (.astore_n 3, 1) := by decide +kernel
theorem kd_L_law_20 : decode kb_L_law 20 = .ok (.iconst 0, 1) := by decide +kernel
theorem kd_L_law_21 : decode kb_L_law 21 = .ok (.istore 4, 2) := by decide +kernel
theorem kd_L_law_23 : decode kb_L_law 23 = .ok (.iload 4, 2) := by decide +kernel
theorem kd_L_law_25 : decode kb_L_law 25 = .ok (.aload_n 0, 1) := by decide +kernel
theorem kd_L_law_26 : decode kb_L_law 26 = .ok (.arraylength, 1) := by decide +kernel
theorem kd_L_law_27 : decode kb_L_law 27 = .ok (.bipush 6, 2) := by decide +kernel
theorem kd_L_law_29 : decode kb_L_law 29 = .ok (.isub, 1) := by decide +kernel
theorem kd_L_law_30 : decode kb_L_law 30 = .ok (.if_icmp .gt 597, 3) := by decide +kernel
theorem kd_L_law_33 : decode kb_L_law 33 = .ok (.aload_n 0, 1) := by decide +kernel
theorem kd_L_law_34 : decode kb_L_law 34 = .ok (.iload 4, 2) := by decide +kernel
theorem kd_L_law_36 : decode kb_L_law 36 = .ok (.iaload, 1) := by decide +kernel
theorem kd_L_law_37 : decode kb_L_law 37 = .ok (.bipush 7, 2) := by decide +kernel
theorem kd_L_law_39 : decode kb_L_law 39 = .ok (.iand, 1) := by decide +kernel
theorem kd_L_law_40 : decode kb_L_law 40 = .ok (.tableswitch 581 0 7 #[48, 132, 216, 272, 364, 432, 445, 513], 48) := by decide +kernel
theorem kd_L_law_88 : decode kb_L_law 88 = .ok (.aload_n 1, 1) := by decide +kernel
theorem kd_L_law_89 : decode kb_L_law 89 = .ok (.aload_n 0, 1) := by decide +kernel
theorem kd_L_law_90 : decode kb_L_law 90 = .ok (.iload 4, 2) := by decide +kernel
theorem kd_L_law_92 : decode kb_L_law 92 = .ok (.iconst 1, 1) := by decide +kernel
theorem kd_L_law_93 : decode kb_L_law 93 = .ok (.iadd, 1) := by decide +kernel
theorem kd_L_law_94 : decode kb_L_law 94 = .ok (.iaload, 1) := by decide +kernel
theorem kd_L_law_95 : decode kb_L_law 95 = .ok (.aload_n 0, 1) := by decide +kernel
theorem kd_L_law_96 : decode kb_L_law 96 = .ok (.iload 4, 2) := by decide +kernel
theorem kd_L_law_98 : decode kb_L_law 98 = .ok (.iconst 2, 1) := by decide +kernel
theorem kd_L_law_99 : decode kb_L_law 99 = .ok (.iadd, 1) := by decide +kernel
theorem kd_L_law_100 : decode kb_L_law 100 = .ok (.iaload, 1) := by decide +kernel
theorem kd_L_law_101 : decode kb_L_law 101 = .ok (.aload_n 0, 1) := by decide +kernel
theorem kd_L_law_102 : decode kb_L_law 102 = .ok (.iload 4, 2) := by decide +kernel
theorem kd_L_law_104 : decode kb_L_law 104 = .ok (.iconst 3, 1) := by decide +kernel
theorem kd_L_law_105 : decode kb_L_law 105 = .ok (.iadd, 1) := by decide +kernel
theorem kd_L_law_106 : decode kb_L_law 106 = .ok (.iaload, 1) := by decide +kernel
theorem kd_L_law_107 : decode kb_L_law 107 = .ok (.aload_n 0, 1) := by decide +kernel
theorem kd_L_law_108 : decode kb_L_law 108 = .ok (.iload 4, 2) := by decide +kernel
theorem kd_L_law_110 : decode kb_L_law 110 = .ok (.iconst 4, 1) := by decide +kernel
theorem kd_L_law_111 : decode kb_L_law 111 = .ok (.iadd, 1) := by decide +kernel
theorem kd_L_law_112 : decode kb_L_law 112 = .ok (.iaload, 1) := by decide +kernel
theorem kd_L_law_113 : decode kb_L_law 113 = .ok (.aload_n 0, 1) := by decide +kernel
theorem kd_L_law_114 : decode kb_L_law 114 = .ok (.iload 4, 2) := by decide +kernel
theorem kd_L_law_116 : decode kb_L_law 116 = .ok (.iconst 5, 1) := by decide +kernel
theorem kd_L_law_117 : decode kb_L_law 117 = .ok (.iadd, 1) := by decide +kernel
theorem kd_L_law_118 : decode kb_L_law 118 = .ok (.iaload, 1) := by decide +kernel
theorem kd_L_law_119 : decode kb_L_law 119 = .ok (.invokestatic 47, 3) := by decide +kernel
theorem kd_L_law_122 : decode kb_L_law 122 = .ok (.istore 5, 2) := by decide +kernel
theorem kd_L_law_124 : decode kb_L_law 124 = .ok (.aload_n 2, 1) := by decide +kernel
theorem kd_L_law_125 : decode kb_L_law 125 = .ok (.aload_n 0, 1) := by decide +kernel
theorem kd_L_law_126 : decode kb_L_law 126 = .ok (.iload 4, 2) := by decide +kernel
theorem kd_L_law_128 : decode kb_L_law 128 = .ok (.iconst 1, 1) := by decide +kernel
theorem kd_L_law_129 : decode kb_L_law 129 = .ok (.iadd, 1) := by decide +kernel
theorem kd_L_law_130 : decode kb_L_law 130 = .ok (.iaload, 1) := by decide +kernel
theorem kd_L_law_131 : decode kb_L_law 131 = .ok (.aload_n 0, 1) := by decide +kernel
theorem kd_L_law_132 : decode kb_L_law 132 = .ok (.iload 4, 2) := by decide +kernel
theorem kd_L_law_134 : decode kb_L_law 134 = .ok (.iconst 2, 1) := by decide +kernel
theorem kd_L_law_135 : decode kb_L_law 135 = .ok (.iadd, 1) := by decide +kernel
theorem kd_L_law_136 : decode kb_L_law 136 = .ok (.iaload, 1) := by decide +kernel
theorem kd_L_law_137 : decode kb_L_law 137 = .ok (.aload_n 0, 1) := by decide +kernel
theorem kd_L_law_138 : decode kb_L_law 138 = .ok (.iload 4, 2) := by decide +kernel
theorem kd_L_law_140 : decode kb_L_law 140 = .ok (.iconst 3, 1) := by decide +kernel
theorem kd_L_law_141 : decode kb_L_law 141 = .ok (.iadd, 1) := by decide +kernel
theorem kd_L_law_142 : decode kb_L_law 142 = .ok (.iaload, 1) := by decide +kernel
theorem kd_L_law_143 : decode kb_L_law 143 = .ok (.aload_n 0, 1) := by decide +kernel
theorem kd_L_law_144 : decode kb_L_law 144 = .ok (.iload 4, 2) := by decide +kernel
theorem kd_L_law_146 : decode kb_L_law 146 = .ok (.iconst 4, 1) := by decide +kernel
theorem kd_L_law_147 : decode kb_L_law 147 = .ok (.iadd, 1) := by decide +kernel
theorem kd_L_law_148 : decode kb_L_law 148 = .ok (.iaload, 1) := by decide +kernel
theorem kd_L_law_149 : decode kb_L_law 149 = .ok (.aload_n 0, 1) := by decide +kernel
theorem kd_L_law_150 : decode kb_L_law 150 = .ok (.iload 4, 2) := by decide +kernel
theorem kd_L_law_152 : decode kb_L_law 152 = .ok (.iconst 5, 1) := by decide +kernel
theorem kd_L_law_153 : decode kb_L_law 153 = .ok (.iadd, 1) := by decide +kernel
theorem kd_L_law_154 : decode kb_L_law 154 = .ok (.iaload, 1) := by decide +kernel
theorem kd_L_law_155 : decode kb_L_law 155 = .ok (.invokevirtual 52, 3) := by decide +kernel
theorem kd_L_law_158 : decode kb_L_law 158 = .ok (.aload_n 2, 1) := by decide +kernel
theorem kd_L_law_159 : decode kb_L_law 159 = .ok (.invokevirtual 53, 3) := by decide +kernel
theorem kd_L_law_162 : decode kb_L_law 162 = .ok (.iload 5, 2) := by decide +kernel
theorem kd_L_law_164 : decode kb_L_law 164 = .ok (.if_icmp .eq 5, 3) := by decide +kernel
theorem kd_L_law_167 : decode kb_L_law 167 = .ok (.iconst 0, 1) := by decide +kernel
theorem kd_L_law_168 : decode kb_L_law 168 = .ok (.ireturn, 1) := by decide +kernel
theorem kd_L_law_169 : decode kb_L_law 169 = .ok (.goto 452, 3) := by decide +kernel
theorem kd_L_law_172 : decode kb_L_law 172 = .ok (.aload_n 1, 1) := by decide +kernel
theorem kd_L_law_173 : decode kb_L_law 173 = .ok (.aload_n 0, 1) := by decide +kernel
theorem kd_L_law_174 : decode kb_L_law 174 = .ok (.iload 4, 2) := by decide +kernel
theorem kd_L_law_176 : decode kb_L_law 176 = .ok (.iconst 1, 1) := by decide +kernel
theorem kd_L_law_177 : decode kb_L_law 177 = .ok (.iadd, 1) := by decide +kernel
theorem kd_L_law_178 : decode kb_L_law 178 = .ok (.iaload, 1) := by decide +kernel
theorem kd_L_law_179 : decode kb_L_law 179 = .ok (.aload_n 0, 1) := by decide +kernel
theorem kd_L_law_180 : decode kb_L_law 180 = .ok (.iload 4, 2) := by decide +kernel
theorem kd_L_law_182 : decode kb_L_law 182 = .ok (.iconst 2, 1) := by decide +kernel
theorem kd_L_law_183 : decode kb_L_law 183 = .ok (.iadd, 1) := by decide +kernel
theorem kd_L_law_184 : decode kb_L_law 184 = .ok (.iaload, 1) := by decide +kernel
theorem kd_L_law_185 : decode kb_L_law 185 = .ok (.ifCond .eq 7, 3) := by decide +kernel
theorem kd_L_law_188 : decode kb_L_law 188 = .ok (.iconst 1, 1) := by decide +kernel
theorem kd_L_law_189 : decode kb_L_law 189 = .ok (.goto 4, 3) := by decide +kernel
theorem kd_L_law_192 : decode kb_L_law 192 = .ok (.iconst 0, 1) := by decide +kernel
theorem kd_L_law_193 : decode kb_L_law 193 = .ok (.aload_n 3, 1) := by decide +kernel
theorem kd_L_law_194 : decode kb_L_law 194 = .ok (.invokestatic 57, 3) := by decide +kernel
theorem kd_L_law_197 : decode kb_L_law 197 = .ok (.istore 5, 2) := by decide +kernel
theorem kd_L_law_199 : decode kb_L_law 199 = .ok (.aload_n 2, 1) := by decide +kernel
theorem kd_L_law_200 : decode kb_L_law 200 = .ok (.aload_n 0, 1) := by decide +kernel
theorem kd_L_law_201 : decode kb_L_law 201 = .ok (.iload 4, 2) := by decide +kernel
theorem kd_L_law_203 : decode kb_L_law 203 = .ok (.iconst 1, 1) := by decide +kernel
theorem kd_L_law_204 : decode kb_L_law 204 = .ok (.iadd, 1) := by decide +kernel
theorem kd_L_law_205 : decode kb_L_law 205 = .ok (.iaload, 1) := by decide +kernel
theorem kd_L_law_206 : decode kb_L_law 206 = .ok (.aload_n 0, 1) := by decide +kernel
theorem kd_L_law_207 : decode kb_L_law 207 = .ok (.iload 4, 2) := by decide +kernel
theorem kd_L_law_209 : decode kb_L_law 209 = .ok (.iconst 2, 1) := by decide +kernel
theorem kd_L_law_210 : decode kb_L_law 210 = .ok (.iadd, 1) := by decide +kernel
theorem kd_L_law_211 : decode kb_L_law 211 = .ok (.iaload, 1) := by decide +kernel
theorem kd_L_law_212 : decode kb_L_law 212 = .ok (.ifCond .eq 7, 3) := by decide +kernel
theorem kd_L_law_215 : decode kb_L_law 215 = .ok (.iconst 1, 1) := by decide +kernel
theorem kd_L_law_216 : decode kb_L_law 216 = .ok (.goto 4, 3) := by decide +kernel
theorem kd_L_law_219 : decode kb_L_law 219 = .ok (.iconst 0, 1) := by decide +kernel
theorem kd_L_law_220 : decode kb_L_law 220 = .ok (.invokevirtual 60, 3) := by decide +kernel
theorem kd_L_law_223 : decode kb_L_law 223 = .ok (.istore 6, 2) := by decide +kernel
theorem kd_L_law_225 : decode kb_L_law 225 = .ok (.aload_n 2, 1) := by decide +kernel
theorem kd_L_law_226 : decode kb_L_law 226 = .ok (.invokevirtual 53, 3) := by decide +kernel
theorem kd_L_law_229 : decode kb_L_law 229 = .ok (.iload 5, 2) := by decide +kernel
theorem kd_L_law_231 : decode kb_L_law 231 = .ok (.if_icmp .eq 5, 3) := by decide +kernel
theorem kd_L_law_234 : decode kb_L_law 234 = .ok (.iconst 0, 1) := by decide +kernel
theorem kd_L_law_235 : decode kb_L_law 235 = .ok (.ireturn, 1) := by decide +kernel
theorem kd_L_law_236 : decode kb_L_law 236 = .ok (.iload 5, 2) := by decide +kernel
theorem kd_L_law_238 : decode kb_L_law 238 = .ok (.ifCond .ne 15, 3) := by decide +kernel
theorem kd_L_law_241 : decode kb_L_law 241 = .ok (.aload_n 3, 1) := by decide +kernel
theorem kd_L_law_242 : decode kb_L_law 242 = .ok (.iconst 0, 1) := by decide +kernel
theorem kd_L_law_243 : decode kb_L_law 243 = .ok (.laload, 1) := by decide +kernel
theorem kd_L_law_244 : decode kb_L_law 244 = .ok (.iload 6, 2) := by decide +kernel
theorem kd_L_law_246 : decode kb_L_law 246 = .ok (.i2l, 1) := by decide +kernel
theorem kd_L_law_247 : decode kb_L_law 247 = .ok (.lcmp, 1) := by decide +kernel
theorem kd_L_law_248 : decode kb_L_law 248 = .ok (.ifCond .eq 5, 3) := by decide +kernel
theorem kd_L_law_251 : decode kb_L_law 251 = .ok (.iconst 0, 1) := by decide +kernel
theorem kd_L_law_252 : decode kb_L_law 252 = .ok (.ireturn, 1) := by decide +kernel
theorem kd_L_law_253 : decode kb_L_law 253 = .ok (.goto 368, 3) := by decide +kernel
theorem kd_L_law_256 : decode kb_L_law 256 = .ok (.aload_n 1, 1) := by decide +kernel
theorem kd_L_law_257 : decode kb_L_law 257 = .ok (.aload_n 0, 1) := by decide +kernel
theorem kd_L_law_258 : decode kb_L_law 258 = .ok (.iload 4, 2) := by decide +kernel
theorem kd_L_law_260 : decode kb_L_law 260 = .ok (.iconst 1, 1) := by decide +kernel
theorem kd_L_law_261 : decode kb_L_law 261 = .ok (.iadd, 1) := by decide +kernel
theorem kd_L_law_262 : decode kb_L_law 262 = .ok (.iaload, 1) := by decide +kernel
theorem kd_L_law_263 : decode kb_L_law 263 = .ok (.aload_n 3, 1) := by decide +kernel
theorem kd_L_law_264 : decode kb_L_law 264 = .ok (.invokestatic 61, 3) := by decide +kernel
theorem kd_L_law_267 : decode kb_L_law 267 = .ok (.istore 5, 2) := by decide +kernel
theorem kd_L_law_269 : decode kb_L_law 269 = .ok (.aload_n 2, 1) := by decide +kernel
theorem kd_L_law_270 : decode kb_L_law 270 = .ok (.aload_n 0, 1) := by decide +kernel
theorem kd_L_law_271 : decode kb_L_law 271 = .ok (.iload 4, 2) := by decide +kernel
theorem kd_L_law_273 : decode kb_L_law 273 = .ok (.iconst 1, 1) := by decide +kernel
theorem kd_L_law_274 : decode kb_L_law 274 = .ok (.iadd, 1) := by decide +kernel
theorem kd_L_law_275 : decode kb_L_law 275 = .ok (.iaload, 1) := by decide +kernel
theorem kd_L_law_276 : decode kb_L_law 276 = .ok (.invokevirtual 64, 3) := by decide +kernel
theorem kd_L_law_279 : decode kb_L_law 279 = .ok (.istore 6, 2) := by decide +kernel
theorem kd_L_law_281 : decode kb_L_law 281 = .ok (.aload_n 2, 1) := by decide +kernel
theorem kd_L_law_282 : decode kb_L_law 282 = .ok (.invokevirtual 53, 3) := by decide +kernel
theorem kd_L_law_285 : decode kb_L_law 285 = .ok (.iload 5, 2) := by decide +kernel
theorem kd_L_law_287 : decode kb_L_law 287 = .ok (.if_icmp .eq 5, 3) := by decide +kernel
theorem kd_L_law_290 : decode kb_L_law 290 = .ok (.iconst 0, 1) := by decide +kernel
theorem kd_L_law_291 : decode kb_L_law 291 = .ok (.ireturn, 1) := by decide +kernel
theorem kd_L_law_292 : decode kb_L_law 292 = .ok (.iload 5, 2) := by decide +kernel
theorem kd_L_law_294 : decode kb_L_law 294 = .ok (.ifCond .ne 15, 3) := by decide +kernel
theorem kd_L_law_297 : decode kb_L_law 297 = .ok (.aload_n 3, 1) := by decide +kernel
theorem kd_L_law_298 : decode kb_L_law 298 = .ok (.iconst 0, 1) := by decide +kernel
theorem kd_L_law_299 : decode kb_L_law 299 = .ok (.laload, 1) := by decide +kernel
theorem kd_L_law_300 : decode kb_L_law 300 = .ok (.iload 6, 2) := by decide +kernel
theorem kd_L_law_302 : decode kb_L_law 302 = .ok (.i2l, 1) := by decide +kernel
theorem kd_L_law_303 : decode kb_L_law 303 = .ok (.lcmp, 1) := by decide +kernel
theorem kd_L_law_304 : decode kb_L_law 304 = .ok (.ifCond .eq 5, 3) := by decide +kernel
theorem kd_L_law_307 : decode kb_L_law 307 = .ok (.iconst 0, 1) := by decide +kernel
theorem kd_L_law_308 : decode kb_L_law 308 = .ok (.ireturn, 1) := by decide +kernel
theorem kd_L_law_309 : decode kb_L_law 309 = .ok (.goto 312, 3) := by decide +kernel
theorem kd_L_law_312 : decode kb_L_law 312 = .ok (.aload_n 1, 1) := by decide +kernel
theorem kd_L_law_313 : decode kb_L_law 313 = .ok (.aload_n 0, 1) := by decide +kernel
theorem kd_L_law_314 : decode kb_L_law 314 = .ok (.iload 4, 2) := by decide +kernel
theorem kd_L_law_316 : decode kb_L_law 316 = .ok (.iconst 1, 1) := by decide +kernel
theorem kd_L_law_317 : decode kb_L_law 317 = .ok (.iadd, 1) := by decide +kernel
theorem kd_L_law_318 : decode kb_L_law 318 = .ok (.iaload, 1) := by decide +kernel
theorem kd_L_law_319 : decode kb_L_law 319 = .ok (.aload_n 0, 1) := by decide +kernel
theorem kd_L_law_320 : decode kb_L_law 320 = .ok (.iload 4, 2) := by decide +kernel
theorem kd_L_law_322 : decode kb_L_law 322 = .ok (.iconst 2, 1) := by decide +kernel
theorem kd_L_law_323 : decode kb_L_law 323 = .ok (.iadd, 1) := by decide +kernel
theorem kd_L_law_324 : decode kb_L_law 324 = .ok (.iaload, 1) := by decide +kernel
theorem kd_L_law_325 : decode kb_L_law 325 = .ok (.aload_n 0, 1) := by decide +kernel
theorem kd_L_law_326 : decode kb_L_law 326 = .ok (.iload 4, 2) := by decide +kernel
theorem kd_L_law_328 : decode kb_L_law 328 = .ok (.iconst 3, 1) := by decide +kernel
theorem kd_L_law_329 : decode kb_L_law 329 = .ok (.iadd, 1) := by decide +kernel
theorem kd_L_law_330 : decode kb_L_law 330 = .ok (.iaload, 1) := by decide +kernel
theorem kd_L_law_331 : decode kb_L_law 331 = .ok (.aload_n 0, 1) := by decide +kernel
theorem kd_L_law_332 : decode kb_L_law 332 = .ok (.iload 4, 2) := by decide +kernel
theorem kd_L_law_334 : decode kb_L_law 334 = .ok (.iconst 4, 1) := by decide +kernel
theorem kd_L_law_335 : decode kb_L_law 335 = .ok (.iadd, 1) := by decide +kernel
theorem kd_L_law_336 : decode kb_L_law 336 = .ok (.iaload, 1) := by decide +kernel
theorem kd_L_law_337 : decode kb_L_law 337 = .ok (.aload_n 3, 1) := by decide +kernel
theorem kd_L_law_338 : decode kb_L_law 338 = .ok (.invokestatic 65, 3) := by decide +kernel
theorem kd_L_law_341 : decode kb_L_law 341 = .ok (.istore 5, 2) := by decide +kernel
theorem kd_L_law_343 : decode kb_L_law 343 = .ok (.aload_n 2, 1) := by decide +kernel
theorem kd_L_law_344 : decode kb_L_law 344 = .ok (.aload_n 0, 1) := by decide +kernel
theorem kd_L_law_345 : decode kb_L_law 345 = .ok (.iload 4, 2) := by decide +kernel
theorem kd_L_law_347 : decode kb_L_law 347 = .ok (.iconst 1, 1) := by decide +kernel
theorem kd_L_law_348 : decode kb_L_law 348 = .ok (.iadd, 1) := by decide +kernel
theorem kd_L_law_349 : decode kb_L_law 349 = .ok (.iaload, 1) := by decide +kernel
theorem kd_L_law_350 : decode kb_L_law 350 = .ok (.aload_n 0, 1) := by decide +kernel
theorem kd_L_law_351 : decode kb_L_law 351 = .ok (.iload 4, 2) := by decide +kernel
theorem kd_L_law_353 : decode kb_L_law 353 = .ok (.iconst 2, 1) := by decide +kernel
theorem kd_L_law_354 : decode kb_L_law 354 = .ok (.iadd, 1) := by decide +kernel
theorem kd_L_law_355 : decode kb_L_law 355 = .ok (.iaload, 1) := by decide +kernel
theorem kd_L_law_356 : decode kb_L_law 356 = .ok (.aload_n 0, 1) := by decide +kernel
theorem kd_L_law_357 : decode kb_L_law 357 = .ok (.iload 4, 2) := by decide +kernel
theorem kd_L_law_359 : decode kb_L_law 359 = .ok (.iconst 3, 1) := by decide +kernel
theorem kd_L_law_360 : decode kb_L_law 360 = .ok (.iadd, 1) := by decide +kernel
theorem kd_L_law_361 : decode kb_L_law 361 = .ok (.iaload, 1) := by decide +kernel
theorem kd_L_law_362 : decode kb_L_law 362 = .ok (.aload_n 0, 1) := by decide +kernel
theorem kd_L_law_363 : decode kb_L_law 363 = .ok (.iload 4, 2) := by decide +kernel
theorem kd_L_law_365 : decode kb_L_law 365 = .ok (.iconst 4, 1) := by decide +kernel
theorem kd_L_law_366 : decode kb_L_law 366 = .ok (.iadd, 1) := by decide +kernel
theorem kd_L_law_367 : decode kb_L_law 367 = .ok (.iaload, 1) := by decide +kernel
theorem kd_L_law_368 : decode kb_L_law 368 = .ok (.invokevirtual 68, 3) := by decide +kernel
theorem kd_L_law_371 : decode kb_L_law 371 = .ok (.istore 6, 2) := by decide +kernel
theorem kd_L_law_373 : decode kb_L_law 373 = .ok (.aload_n 2, 1) := by decide +kernel
theorem kd_L_law_374 : decode kb_L_law 374 = .ok (.invokevirtual 53, 3) := by decide +kernel
theorem kd_L_law_377 : decode kb_L_law 377 = .ok (.iload 5, 2) := by decide +kernel
theorem kd_L_law_379 : decode kb_L_law 379 = .ok (.if_icmp .eq 5, 3) := by decide +kernel
theorem kd_L_law_382 : decode kb_L_law 382 = .ok (.iconst 0, 1) := by decide +kernel
theorem kd_L_law_383 : decode kb_L_law 383 = .ok (.ireturn, 1) := by decide +kernel
theorem kd_L_law_384 : decode kb_L_law 384 = .ok (.iload 5, 2) := by decide +kernel
theorem kd_L_law_386 : decode kb_L_law 386 = .ok (.ifCond .ne 15, 3) := by decide +kernel
theorem kd_L_law_389 : decode kb_L_law 389 = .ok (.aload_n 3, 1) := by decide +kernel
theorem kd_L_law_390 : decode kb_L_law 390 = .ok (.iconst 0, 1) := by decide +kernel
theorem kd_L_law_391 : decode kb_L_law 391 = .ok (.laload, 1) := by decide +kernel
theorem kd_L_law_392 : decode kb_L_law 392 = .ok (.iload 6, 2) := by decide +kernel
theorem kd_L_law_394 : decode kb_L_law 394 = .ok (.i2l, 1) := by decide +kernel
theorem kd_L_law_395 : decode kb_L_law 395 = .ok (.lcmp, 1) := by decide +kernel
theorem kd_L_law_396 : decode kb_L_law 396 = .ok (.ifCond .eq 5, 3) := by decide +kernel
theorem kd_L_law_399 : decode kb_L_law 399 = .ok (.iconst 0, 1) := by decide +kernel
theorem kd_L_law_400 : decode kb_L_law 400 = .ok (.ireturn, 1) := by decide +kernel
theorem kd_L_law_401 : decode kb_L_law 401 = .ok (.goto 220, 3) := by decide +kernel
theorem kd_L_law_404 : decode kb_L_law 404 = .ok (.aload_n 1, 1) := by decide +kernel
theorem kd_L_law_405 : decode kb_L_law 405 = .ok (.aload_n 0, 1) := by decide +kernel
theorem kd_L_law_406 : decode kb_L_law 406 = .ok (.iload 4, 2) := by decide +kernel
theorem kd_L_law_408 : decode kb_L_law 408 = .ok (.iconst 1, 1) := by decide +kernel
theorem kd_L_law_409 : decode kb_L_law 409 = .ok (.iadd, 1) := by decide +kernel
theorem kd_L_law_410 : decode kb_L_law 410 = .ok (.iaload, 1) := by decide +kernel
theorem kd_L_law_411 : decode kb_L_law 411 = .ok (.aload_n 0, 1) := by decide +kernel
theorem kd_L_law_412 : decode kb_L_law 412 = .ok (.iload 4, 2) := by decide +kernel
theorem kd_L_law_414 : decode kb_L_law 414 = .ok (.iconst 2, 1) := by decide +kernel
theorem kd_L_law_415 : decode kb_L_law 415 = .ok (.iadd, 1) := by decide +kernel
theorem kd_L_law_416 : decode kb_L_law 416 = .ok (.iaload, 1) := by decide +kernel
theorem kd_L_law_417 : decode kb_L_law 417 = .ok (.aload_n 3, 1) := by decide +kernel
theorem kd_L_law_418 : decode kb_L_law 418 = .ok (.invokestatic 69, 3) := by decide +kernel
theorem kd_L_law_421 : decode kb_L_law 421 = .ok (.istore 5, 2) := by decide +kernel
theorem kd_L_law_423 : decode kb_L_law 423 = .ok (.aload_n 2, 1) := by decide +kernel
theorem kd_L_law_424 : decode kb_L_law 424 = .ok (.aload_n 0, 1) := by decide +kernel
theorem kd_L_law_425 : decode kb_L_law 425 = .ok (.iload 4, 2) := by decide +kernel
theorem kd_L_law_427 : decode kb_L_law 427 = .ok (.iconst 1, 1) := by decide +kernel
theorem kd_L_law_428 : decode kb_L_law 428 = .ok (.iadd, 1) := by decide +kernel
theorem kd_L_law_429 : decode kb_L_law 429 = .ok (.iaload, 1) := by decide +kernel
theorem kd_L_law_430 : decode kb_L_law 430 = .ok (.aload_n 0, 1) := by decide +kernel
theorem kd_L_law_431 : decode kb_L_law 431 = .ok (.iload 4, 2) := by decide +kernel
theorem kd_L_law_433 : decode kb_L_law 433 = .ok (.iconst 2, 1) := by decide +kernel
theorem kd_L_law_434 : decode kb_L_law 434 = .ok (.iadd, 1) := by decide +kernel
theorem kd_L_law_435 : decode kb_L_law 435 = .ok (.iaload, 1) := by decide +kernel
theorem kd_L_law_436 : decode kb_L_law 436 = .ok (.invokevirtual 72, 3) := by decide +kernel
theorem kd_L_law_439 : decode kb_L_law 439 = .ok (.istore 6, 2) := by decide +kernel
theorem kd_L_law_441 : decode kb_L_law 441 = .ok (.aload_n 2, 1) := by decide +kernel
theorem kd_L_law_442 : decode kb_L_law 442 = .ok (.invokevirtual 53, 3) := by decide +kernel
theorem kd_L_law_445 : decode kb_L_law 445 = .ok (.iload 5, 2) := by decide +kernel
theorem kd_L_law_447 : decode kb_L_law 447 = .ok (.if_icmp .eq 5, 3) := by decide +kernel
theorem kd_L_law_450 : decode kb_L_law 450 = .ok (.iconst 0, 1) := by decide +kernel
theorem kd_L_law_451 : decode kb_L_law 451 = .ok (.ireturn, 1) := by decide +kernel
theorem kd_L_law_452 : decode kb_L_law 452 = .ok (.iload 5, 2) := by decide +kernel
theorem kd_L_law_454 : decode kb_L_law 454 = .ok (.ifCond .ne 15, 3) := by decide +kernel
theorem kd_L_law_457 : decode kb_L_law 457 = .ok (.aload_n 3, 1) := by decide +kernel
theorem kd_L_law_458 : decode kb_L_law 458 = .ok (.iconst 0, 1) := by decide +kernel
theorem kd_L_law_459 : decode kb_L_law 459 = .ok (.laload, 1) := by decide +kernel
theorem kd_L_law_460 : decode kb_L_law 460 = .ok (.iload 6, 2) := by decide +kernel
theorem kd_L_law_462 : decode kb_L_law 462 = .ok (.i2l, 1) := by decide +kernel
theorem kd_L_law_463 : decode kb_L_law 463 = .ok (.lcmp, 1) := by decide +kernel
theorem kd_L_law_464 : decode kb_L_law 464 = .ok (.ifCond .eq 5, 3) := by decide +kernel
theorem kd_L_law_467 : decode kb_L_law 467 = .ok (.iconst 0, 1) := by decide +kernel
theorem kd_L_law_468 : decode kb_L_law 468 = .ok (.ireturn, 1) := by decide +kernel
theorem kd_L_law_469 : decode kb_L_law 469 = .ok (.goto 152, 3) := by decide +kernel
theorem kd_L_law_472 : decode kb_L_law 472 = .ok (.aload_n 1, 1) := by decide +kernel
theorem kd_L_law_473 : decode kb_L_law 473 = .ok (.invokevirtual 73, 3) := by decide +kernel
theorem kd_L_law_476 : decode kb_L_law 476 = .ok (.aload_n 2, 1) := by decide +kernel
theorem kd_L_law_477 : decode kb_L_law 477 = .ok (.invokevirtual 76, 3) := by decide +kernel
theorem kd_L_law_480 : decode kb_L_law 480 = .ok (.if_icmp .eq 141, 3) := by decide +kernel
theorem kd_L_law_483 : decode kb_L_law 483 = .ok (.iconst 0, 1) := by decide +kernel
theorem kd_L_law_484 : decode kb_L_law 484 = .ok (.ireturn, 1) := by decide +kernel
theorem kd_L_law_485 : decode kb_L_law 485 = .ok (.aload_n 1, 1) := by decide +kernel
theorem kd_L_law_486 : decode kb_L_law 486 = .ok (.aload_n 0, 1) := by decide +kernel
theorem kd_L_law_487 : decode kb_L_law 487 = .ok (.iload 4, 2) := by decide +kernel
theorem kd_L_law_489 : decode kb_L_law 489 = .ok (.iconst 1, 1) := by decide +kernel
theorem kd_L_law_490 : decode kb_L_law 490 = .ok (.iadd, 1) := by decide +kernel
theorem kd_L_law_491 : decode kb_L_law 491 = .ok (.iaload, 1) := by decide +kernel
theorem kd_L_law_492 : decode kb_L_law 492 = .ok (.aload_n 0, 1) := by decide +kernel
theorem kd_L_law_493 : decode kb_L_law 493 = .ok (.iload 4, 2) := by decide +kernel
theorem kd_L_law_495 : decode kb_L_law 495 = .ok (.iconst 2, 1) := by decide +kernel
theorem kd_L_law_496 : decode kb_L_law 496 = .ok (.iadd, 1) := by decide +kernel
theorem kd_L_law_497 : decode kb_L_law 497 = .ok (.iaload, 1) := by decide +kernel
theorem kd_L_law_498 : decode kb_L_law 498 = .ok (.aload_n 3, 1) := by decide +kernel
theorem kd_L_law_499 : decode kb_L_law 499 = .ok (.invokestatic 77, 3) := by decide +kernel
theorem kd_L_law_502 : decode kb_L_law 502 = .ok (.istore 5, 2) := by decide +kernel
theorem kd_L_law_504 : decode kb_L_law 504 = .ok (.aload_n 2, 1) := by decide +kernel
theorem kd_L_law_505 : decode kb_L_law 505 = .ok (.aload_n 0, 1) := by decide +kernel
theorem kd_L_law_506 : decode kb_L_law 506 = .ok (.iload 4, 2) := by decide +kernel
theorem kd_L_law_508 : decode kb_L_law 508 = .ok (.iconst 1, 1) := by decide +kernel
theorem kd_L_law_509 : decode kb_L_law 509 = .ok (.iadd, 1) := by decide +kernel
theorem kd_L_law_510 : decode kb_L_law 510 = .ok (.iaload, 1) := by decide +kernel
theorem kd_L_law_511 : decode kb_L_law 511 = .ok (.aload_n 0, 1) := by decide +kernel
theorem kd_L_law_512 : decode kb_L_law 512 = .ok (.iload 4, 2) := by decide +kernel
theorem kd_L_law_514 : decode kb_L_law 514 = .ok (.iconst 2, 1) := by decide +kernel
theorem kd_L_law_515 : decode kb_L_law 515 = .ok (.iadd, 1) := by decide +kernel
theorem kd_L_law_516 : decode kb_L_law 516 = .ok (.iaload, 1) := by decide +kernel
theorem kd_L_law_517 : decode kb_L_law 517 = .ok (.invokevirtual 79, 3) := by decide +kernel
theorem kd_L_law_520 : decode kb_L_law 520 = .ok (.istore 6, 2) := by decide +kernel
theorem kd_L_law_522 : decode kb_L_law 522 = .ok (.aload_n 2, 1) := by decide +kernel
theorem kd_L_law_523 : decode kb_L_law 523 = .ok (.invokevirtual 53, 3) := by decide +kernel
theorem kd_L_law_526 : decode kb_L_law 526 = .ok (.iload 5, 2) := by decide +kernel
theorem kd_L_law_528 : decode kb_L_law 528 = .ok (.if_icmp .eq 5, 3) := by decide +kernel
theorem kd_L_law_531 : decode kb_L_law 531 = .ok (.iconst 0, 1) := by decide +kernel
theorem kd_L_law_532 : decode kb_L_law 532 = .ok (.ireturn, 1) := by decide +kernel
theorem kd_L_law_533 : decode kb_L_law 533 = .ok (.iload 5, 2) := by decide +kernel
theorem kd_L_law_535 : decode kb_L_law 535 = .ok (.ifCond .ne 15, 3) := by decide +kernel
theorem kd_L_law_538 : decode kb_L_law 538 = .ok (.aload_n 3, 1) := by decide +kernel
theorem kd_L_law_539 : decode kb_L_law 539 = .ok (.iconst 0, 1) := by decide +kernel
theorem kd_L_law_540 : decode kb_L_law 540 = .ok (.laload, 1) := by decide +kernel
theorem kd_L_law_541 : decode kb_L_law 541 = .ok (.iload 6, 2) := by decide +kernel
theorem kd_L_law_543 : decode kb_L_law 543 = .ok (.i2l, 1) := by decide +kernel
theorem kd_L_law_544 : decode kb_L_law 544 = .ok (.lcmp, 1) := by decide +kernel
theorem kd_L_law_545 : decode kb_L_law 545 = .ok (.ifCond .eq 5, 3) := by decide +kernel
theorem kd_L_law_548 : decode kb_L_law 548 = .ok (.iconst 0, 1) := by decide +kernel
theorem kd_L_law_549 : decode kb_L_law 549 = .ok (.ireturn, 1) := by decide +kernel
theorem kd_L_law_550 : decode kb_L_law 550 = .ok (.goto 71, 3) := by decide +kernel
theorem kd_L_law_553 : decode kb_L_law 553 = .ok (.aload_n 1, 1) := by decide +kernel
theorem kd_L_law_554 : decode kb_L_law 554 = .ok (.aload_n 0, 1) := by decide +kernel
theorem kd_L_law_555 : decode kb_L_law 555 = .ok (.iload 4, 2) := by decide +kernel
theorem kd_L_law_557 : decode kb_L_law 557 = .ok (.iconst 1, 1) := by decide +kernel
theorem kd_L_law_558 : decode kb_L_law 558 = .ok (.iadd, 1) := by decide +kernel
theorem kd_L_law_559 : decode kb_L_law 559 = .ok (.iaload, 1) := by decide +kernel
theorem kd_L_law_560 : decode kb_L_law 560 = .ok (.aload_n 0, 1) := by decide +kernel
theorem kd_L_law_561 : decode kb_L_law 561 = .ok (.iload 4, 2) := by decide +kernel
theorem kd_L_law_563 : decode kb_L_law 563 = .ok (.iconst 2, 1) := by decide +kernel
theorem kd_L_law_564 : decode kb_L_law 564 = .ok (.iadd, 1) := by decide +kernel
theorem kd_L_law_565 : decode kb_L_law 565 = .ok (.iaload, 1) := by decide +kernel
theorem kd_L_law_566 : decode kb_L_law 566 = .ok (.aload_n 3, 1) := by decide +kernel
theorem kd_L_law_567 : decode kb_L_law 567 = .ok (.invokestatic 80, 3) := by decide +kernel
theorem kd_L_law_570 : decode kb_L_law 570 = .ok (.istore 5, 2) := by decide +kernel
theorem kd_L_law_572 : decode kb_L_law 572 = .ok (.aload_n 2, 1) := by decide +kernel
theorem kd_L_law_573 : decode kb_L_law 573 = .ok (.aload_n 0, 1) := by decide +kernel
theorem kd_L_law_574 : decode kb_L_law 574 = .ok (.iload 4, 2) := by decide +kernel
theorem kd_L_law_576 : decode kb_L_law 576 = .ok (.iconst 1, 1) := by decide +kernel
theorem kd_L_law_577 : decode kb_L_law 577 = .ok (.iadd, 1) := by decide +kernel
theorem kd_L_law_578 : decode kb_L_law 578 = .ok (.iaload, 1) := by decide +kernel
theorem kd_L_law_579 : decode kb_L_law 579 = .ok (.aload_n 0, 1) := by decide +kernel
theorem kd_L_law_580 : decode kb_L_law 580 = .ok (.iload 4, 2) := by decide +kernel
theorem kd_L_law_582 : decode kb_L_law 582 = .ok (.iconst 2, 1) := by decide +kernel
theorem kd_L_law_583 : decode kb_L_law 583 = .ok (.iadd, 1) := by decide +kernel
theorem kd_L_law_584 : decode kb_L_law 584 = .ok (.iaload, 1) := by decide +kernel
theorem kd_L_law_585 : decode kb_L_law 585 = .ok (.invokevirtual 82, 3) := by decide +kernel
theorem kd_L_law_588 : decode kb_L_law 588 = .ok (.istore 6, 2) := by decide +kernel
theorem kd_L_law_590 : decode kb_L_law 590 = .ok (.aload_n 2, 1) := by decide +kernel
theorem kd_L_law_591 : decode kb_L_law 591 = .ok (.invokevirtual 53, 3) := by decide +kernel
theorem kd_L_law_594 : decode kb_L_law 594 = .ok (.iload 5, 2) := by decide +kernel
theorem kd_L_law_596 : decode kb_L_law 596 = .ok (.if_icmp .eq 5, 3) := by decide +kernel
theorem kd_L_law_599 : decode kb_L_law 599 = .ok (.iconst 0, 1) := by decide +kernel
theorem kd_L_law_600 : decode kb_L_law 600 = .ok (.ireturn, 1) := by decide +kernel
theorem kd_L_law_601 : decode kb_L_law 601 = .ok (.iload 5, 2) := by decide +kernel
theorem kd_L_law_603 : decode kb_L_law 603 = .ok (.ifCond .ne 15, 3) := by decide +kernel
theorem kd_L_law_606 : decode kb_L_law 606 = .ok (.aload_n 3, 1) := by decide +kernel
theorem kd_L_law_607 : decode kb_L_law 607 = .ok (.iconst 0, 1) := by decide +kernel
theorem kd_L_law_608 : decode kb_L_law 608 = .ok (.laload, 1) := by decide +kernel
theorem kd_L_law_609 : decode kb_L_law 609 = .ok (.iload 6, 2) := by decide +kernel
theorem kd_L_law_611 : decode kb_L_law 611 = .ok (.i2l, 1) := by decide +kernel
theorem kd_L_law_612 : decode kb_L_law 612 = .ok (.lcmp, 1) := by decide +kernel
theorem kd_L_law_613 : decode kb_L_law 613 = .ok (.ifCond .eq 5, 3) := by decide +kernel
theorem kd_L_law_616 : decode kb_L_law 616 = .ok (.iconst 0, 1) := by decide +kernel
theorem kd_L_law_617 : decode kb_L_law 617 = .ok (.ireturn, 1) := by decide +kernel
theorem kd_L_law_618 : decode kb_L_law 618 = .ok (.goto 3, 3) := by decide +kernel
theorem kd_L_law_621 : decode kb_L_law 621 = .ok (.iinc 4 6, 3) := by decide +kernel
theorem kd_L_law_624 : decode kb_L_law 624 = .ok (.goto (-601), 3) := by decide +kernel
theorem kd_L_law_627 : decode kb_L_law 627 = .ok (.iconst 1, 1) := by decide +kernel
theorem kd_L_law_628 : decode kb_L_law 628 = .ok (.ireturn, 1) := by decide +kernel
end
section
/-! PURE ROWS 1: first places, first least and greatest places, counts -/
/-- r is the first place below n at which g is b, or -1 -/
def zf_FP (g : Nat → Int32) (n : Nat) (b r : Int32) : Prop :=
  (∃ k, k < n ∧ r = nI k ∧ g k = b ∧ ∀ j, j < k → g j ≠ b) ∨ (r = -1 ∧ ∀ j, j < n → g j ≠ b)
theorem zf_FP_u {g : Nat → Int32} {n : Nat} {b r r' : Int32} (h : zf_FP g n b r) (h' : zf_FP g n b r') : r = r' := by
  rcases h with ⟨k, hk, e, hg, hm⟩ | ⟨e, hm⟩ <;> rcases h' with ⟨k', hk', e', hg', hm'⟩ | ⟨e', hm'⟩
  · have : k = k' := by
      rcases Nat.lt_trichotomy k k' with q | q | q
      · exact absurd hg (hm' k q)
      · exact q
      · exact absurd hg' (hm k' q)
    rw [e, e', this]
  · exact absurd hg (hm' k hk)
  · exact absurd hg' (hm k' hk')
  · rw [e, e']
theorem zf_FP_c {g g' : Nat → Int32} {n : Nat} {b r : Int32} (hc : ∀ j, j < n → g' j = g j) (h : zf_FP g n b r) : zf_FP g' n b r := by
  rcases h with ⟨k, hk, e, hg, hm⟩ | ⟨e, hm⟩
  · exact Or.inl ⟨k, hk, e, by rw [hc k hk]; exact hg, fun j hj => by rw [hc j (by omega)]; exact hm j hj⟩
  · exact Or.inr ⟨e, fun j hj => by rw [hc j hj]; exact hm j hj⟩
theorem zf_ilt {x y : Int32} : x < y ↔ x.toInt < y.toInt := Int32.lt_iff_toInt_lt
theorem zf_ile {x y : Int32} : x ≤ y ↔ x.toInt ≤ y.toInt := Int32.le_iff_toInt_le
/-- r is the first place below n at which g is least -/
def zf_AM (g : Nat → Int32) (n r : Nat) : Prop := r < n ∧ (∀ j, j < n → ¬ g j < g r) ∧ ∀ j, j < r → g r < g j
theorem zf_AM_u {g : Nat → Int32} {n r r' : Nat} (h : zf_AM g n r) (h' : zf_AM g n r') : r = r' := by
  obtain ⟨h1, h2, h3⟩ := h
  obtain ⟨k1, k2, k3⟩ := h'
  rcases Nat.lt_trichotomy r r' with q | q | q
  · exact absurd (k3 r q) (h2 r' k1)
  · exact q
  · exact absurd (h3 r' q) (k2 r h1)
theorem zf_AM_c {g g' : Nat → Int32} {n r : Nat} (hc : ∀ j, j < n → g' j = g j) (h : zf_AM g n r) : zf_AM g' n r := by
  obtain ⟨h1, h2, h3⟩ := h
  exact ⟨h1, fun j hj => by rw [hc j hj, hc r h1]; exact h2 j hj, fun j hj => by rw [hc j (by omega), hc r h1]; exact h3 j hj⟩
theorem zf_AM_1 {g : Nat → Int32} : zf_AM g 1 0 := ⟨by omega, fun j hj => by
  have : j = 0 := by omega
  subst this
  rw [zf_ilt]; omega, fun j hj => by omega⟩
theorem zf_AM_t {g : Nat → Int32} {n r : Nat} (h : zf_AM g n r) (hl : g n < g r) : zf_AM g (n + 1) n := by
  obtain ⟨h1, h2, h3⟩ := h
  rw [zf_ilt] at hl
  refine ⟨by omega, fun j hj => ?_, fun j hj => ?_⟩
  · rcases Nat.lt_or_ge j n with q | q
    · have := h2 j q
      rw [zf_ilt] at this ⊢; omega
    · have : j = n := by omega
      subst this
      rw [zf_ilt]; omega
  · have := h2 j hj
    rw [zf_ilt] at this ⊢; omega
theorem zf_AM_f {g : Nat → Int32} {n r : Nat} (h : zf_AM g n r) (hl : ¬ g n < g r) : zf_AM g (n + 1) r := by
  obtain ⟨h1, h2, h3⟩ := h
  refine ⟨by omega, fun j hj => ?_, h3⟩
  rcases Nat.lt_or_ge j n with q | q
  · exact h2 j q
  · have : j = n := by omega
    subst this
    exact hl
/-- r is the first place below n at which g is greatest -/
def zf_AX (g : Nat → Int32) (n r : Nat) : Prop := r < n ∧ (∀ j, j < n → ¬ g r < g j) ∧ ∀ j, j < r → g j < g r
theorem zf_AX_1 {g : Nat → Int32} : zf_AX g 1 0 := ⟨by omega, fun j hj => by
  have : j = 0 := by omega
  subst this
  rw [zf_ilt]; omega, fun j hj => by omega⟩
theorem zf_AX_t {g : Nat → Int32} {n r : Nat} (h : zf_AX g n r) (hl : g r < g n) : zf_AX g (n + 1) n := by
  obtain ⟨h1, h2, h3⟩ := h
  rw [zf_ilt] at hl
  refine ⟨by omega, fun j hj => ?_, fun j hj => ?_⟩
  · rcases Nat.lt_or_ge j n with q | q
    · have := h2 j q
      rw [zf_ilt] at this ⊢; omega
    · have : j = n := by omega
      subst this
      rw [zf_ilt]; omega
  · have := h2 j hj
    rw [zf_ilt] at this ⊢; omega
theorem zf_AX_f {g : Nat → Int32} {n r : Nat} (h : zf_AX g n r) (hl : ¬ g r < g n) : zf_AX g (n + 1) r := by
  obtain ⟨h1, h2, h3⟩ := h
  refine ⟨by omega, fun j hj => ?_, h3⟩
  rcases Nat.lt_or_ge j n with q | q
  · exact h2 j q
  · have : j = n := by omega
    subst this
    exact hl
/-- how many below n -/
def zf_ct (p : Nat → Bool) : Nat → Nat
  | 0 => 0
  | n + 1 => zf_ct p n + if p n = true then 1 else 0
theorem zf_ct_le (p : Nat → Bool) : ∀ n, zf_ct p n ≤ n
  | 0 => Nat.le_refl _
  | n + 1 => by
    have := zf_ct_le p n
    unfold zf_ct
    split <;> omega
theorem zf_ct_z {p : Nat → Bool} {a : Nat} : ∀ b, a ≤ b → (∀ j, a ≤ j → j < b → p j = false) → zf_ct p b = zf_ct p a
  | 0, h, _ => by
    have : a = 0 := by omega
    rw [this]
  | b + 1, h, hz => by
    rcases Nat.lt_or_ge b a with q | q
    · have : a = b + 1 := by omega
      rw [this]
    · have e := zf_ct_z b q (fun j h1 h2 => hz j h1 (by omega))
      have f := hz b q (by omega)
      show zf_ct p b + (if p b = true then 1 else 0) = zf_ct p a
      rw [f, e]
      simp
theorem zf_ct_c {p q : Nat → Bool} : ∀ n, (∀ j, j < n → p j = q j) → zf_ct p n = zf_ct q n
  | 0, _ => rfl
  | n + 1, h => by
    unfold zf_ct
    rw [zf_ct_c n (fun j hj => h j (by omega)), h n (by omega)]
/-- a block of rows, laid close and laid apart -/
theorem zf_ct_sh {p q : Nat → Bool} {a b : Nat} : ∀ w, (∀ k, k < w → p (a + k) = q (b + k)) → zf_ct p a = zf_ct q b → zf_ct p (a + w) = zf_ct q (b + w)
  | 0, _, e => e
  | w + 1, h, e => by
    have i := zf_ct_sh w (fun k hk => h k (by omega)) e
    show zf_ct p (a + w) + (if p (a + w) = true then 1 else 0) = zf_ct q (b + w) + (if q (b + w) = true then 1 else 0)
    rw [i, h w (by omega)]
theorem zf_ct_lay {p q : Nat → Bool} {S W N : Nat} (hW : W ≤ 8) (h8 : 8 * S ≤ N) (hp : ∀ j, S * W ≤ j → j < N → p j = false) (hq : ∀ j, 8 * S ≤ j → j < N → q j = false)
    (hg : ∀ s k, s < S → W ≤ k → k < 8 → q (8 * s + k) = false) (he : ∀ s k, s < S → k < W → p (s * W + k) = q (8 * s + k)) : zf_ct p N = zf_ct q N := by
  have key : ∀ s, s ≤ S → zf_ct p (s * W) = zf_ct q (8 * s) := by
    intro s
    induction s with
    | zero => intro _; simp [zf_ct]
    | succ s ih =>
      intro hs
      have i := zf_ct_sh (p := p) (q := q) (a := s * W) (b := 8 * s) W (fun k hk => he s k (by omega) hk) (ih (by omega))
      have z : zf_ct q (8 * s + 8) = zf_ct q (8 * s + W) := zf_ct_z (8 * s + 8) (by omega) (fun j h1 h2 => by
        have := hg s (j - 8 * s) (by omega) (by omega) (by omega)
        rwa [show 8 * s + (j - 8 * s) = j by omega] at this)
      rw [Nat.succ_mul, i, ← z]
      rfl
  have hSW : S * W ≤ N := by
    have : S * W ≤ S * 8 := Nat.mul_le_mul_left _ hW
    omega
  rw [zf_ct_z N hSW hp, zf_ct_z N h8 hq]
  exact key S (Nat.le_refl _)
end
section
abbrev kw_Y_init : List Cond := Cond.code ky_Y_init kb_Y_init 1 none :: kw_all
abbrev kw_W_init : List Cond := Cond.code ky_W_init kb_W_init 1 none :: kw_all
abbrev kw_Y_accesses : List Cond := Cond.code ky_Y_accesses kb_Y_accesses 1 (some .int) :: kw_all
abbrev kw_W_length : List Cond := Cond.code ky_W_length kb_W_length 1 (some .int) :: kw_all
abbrev kw_Y_make : List Cond := Cond.code ky_Y_make kb_Y_make 7 none :: kw_all
abbrev kw_I_bitCount : List Cond := Cond.code ky_I_bitCount kb_I_bitCount 1 (some .int) :: kw_all
abbrev kw_Y_areBits : List Cond := Cond.code ky_Y_areBits kb_Y_areBits 1 (some .boolean) :: kw_all
abbrev kw_C_init : List Cond := Cond.code ky_C_init kb_C_init 1 none :: kw_all
abbrev kw_C_become : List Cond := Cond.code ky_C_become kb_C_become 5 none :: kw_all
abbrev kw_C_emptyAll : List Cond := Cond.code ky_C_emptyAll kb_C_emptyAll 2 none :: kw_all
abbrev kw_Y_access : List Cond := Cond.code ky_Y_access kb_Y_access 7 (some .int) :: kw_all
abbrev kw_W_keep : List Cond := Cond.code ky_W_keep kb_W_keep 2 none :: kw_all
abbrev kw_C_sees : List Cond := Cond.code ky_C_sees kb_C_sees 9 (some .boolean) :: kw_all
abbrev kw_C_countSets : List Cond := Cond.code ky_C_countSets kb_C_countSets 1 (some .int) :: kw_all
abbrev kw_C_findPlace : List Cond := Cond.code ky_C_findPlace kb_C_findPlace 4 (some .int) :: kw_all
abbrev kw_C_blockAt : List Cond := Cond.code ky_C_blockAt kb_C_blockAt 3 (some .int) :: kw_all
abbrev kw_C_slotOf : List Cond := Cond.code ky_C_slotOf kb_C_slotOf 3 (some .int) :: kw_all
abbrev kw_C_bringIn : List Cond := Cond.code ky_C_bringIn kb_C_bringIn 5 (some .int) :: kw_all
abbrev kw_C_pointedPlace : List Cond := Cond.code ky_C_pointedPlace kb_C_pointedPlace 7 (some .int) :: kw_all
abbrev kw_C_oldestPlace : List Cond := Cond.code ky_C_oldestPlace kb_C_oldestPlace 4 (some .int) :: kw_all
abbrev kw_C_isDirtyAt : List Cond := Cond.code ky_C_isDirtyAt kb_C_isDirtyAt 3 (some .boolean) :: kw_all
abbrev kw_C_pointAway : List Cond := Cond.code ky_C_pointAway kb_C_pointAway 6 none :: kw_all
abbrev kw_Y_flush : List Cond := Cond.code ky_Y_flush kb_Y_flush 2 (some .int) :: kw_all
abbrev kw_Y_madeCache : List Cond := Cond.code ky_Y_madeCache kb_Y_madeCache 3 (some (.object "CacheYard$Cache")) :: kw_all
abbrev kw_C_letAllGo : List Cond := Cond.code ky_C_letAllGo kb_C_letAllGo 2 (some .int) :: kw_all
abbrev kw_C_countDirty : List Cond := Cond.code ky_C_countDirty kb_C_countDirty 3 (some .int) :: kw_all
abbrev kw_Y_place : List Cond := Cond.code ky_Y_place kb_Y_place 6 (some .int) :: kw_all
abbrev kw_C_hasPlace : List Cond := Cond.code ky_C_hasPlace kb_C_hasPlace 3 (some .boolean) :: kw_all
abbrev kw_Y_about : List Cond := Cond.code ky_Y_about kb_Y_about 4 (some .int) :: kw_all
abbrev kw_C_countHeld : List Cond := Cond.code ky_C_countHeld kb_C_countHeld 3 (some .int) :: kw_all
abbrev kw_Y_curve : List Cond := Cond.code ky_Y_curve kb_Y_curve 3 (some .int) :: kw_all
abbrev kw_Y_requireLinesAndBits : List Cond := Cond.code ky_Y_requireLinesAndBits kb_Y_requireLinesAndBits 2 none :: kw_all
abbrev kw_W_countHits : List Cond := Cond.code ky_W_countHits kb_W_countHits 8 (some .int) :: kw_all
abbrev kw_W_findNextUses : List Cond := Cond.code ky_W_findNextUses kb_W_findNextUses 4 none :: kw_all
abbrev kw_W_findLine : List Cond := Cond.code ky_W_findLine kb_W_findLine 4 (some .int) :: kw_all
abbrev kw_W_lineNeededLast : List Cond := Cond.code ky_W_lineNeededLast kb_W_lineNeededLast 4 (some .int) :: kw_all
abbrev kw_W_bringToFront : List Cond := Cond.code ky_W_bringToFront kb_W_bringToFront 4 none :: kw_all
abbrev kw_Y_best : List Cond := Cond.code ky_Y_best kb_Y_best 3 (some .int) :: kw_all
abbrev kw_M_init : List Cond := Cond.code ky_M_init kb_M_init 1 none :: kw_all
abbrev kw_M_thrown : List Cond := Cond.code ky_M_thrown kb_M_thrown 1 (some .int) :: kw_all
abbrev kw_M_make : List Cond := Cond.code ky_M_make kb_M_make 8 none :: kw_all
abbrev kw_M_in : List Cond := Cond.code ky_M_in kb_M_in 3 (some .boolean) :: kw_all
abbrev kw_M_refuse : List Cond := Cond.code ky_M_refuse kb_M_refuse 4 (some .boolean) :: kw_all
abbrev kw_M_empty : List Cond := Cond.code ky_M_empty kb_M_empty 3 none :: kw_all
abbrev kw_M_access : List Cond := Cond.code ky_M_access kb_M_access 7 (some .int) :: kw_all
abbrev kw_M_see : List Cond := Cond.code ky_M_see kb_M_see 8 (some .boolean) :: kw_all
abbrev kw_M_placeOf : List Cond := Cond.code ky_M_placeOf kb_M_placeOf 6 (some .int) :: kw_all
abbrev kw_M_victimOf : List Cond := Cond.code ky_M_victimOf kb_M_victimOf 6 (some .int) :: kw_all
abbrev kw_M_pointed : List Cond := Cond.code ky_M_pointed kb_M_pointed 7 (some .int) :: kw_all
abbrev kw_M_turn : List Cond := Cond.code ky_M_turn kb_M_turn 8 none :: kw_all
abbrev kw_M_flush : List Cond := Cond.code ky_M_flush kb_M_flush 3 (some .int) :: kw_all
abbrev kw_M_isThere : List Cond := Cond.code ky_M_isThere kb_M_isThere 2 (some .boolean) :: kw_all
abbrev kw_M_count : List Cond := Cond.code ky_M_count kb_M_count 5 (some .int) :: kw_all
abbrev kw_M_place : List Cond := Cond.code ky_M_place kb_M_place 8 (some .int) :: kw_all
abbrev kw_M_about : List Cond := Cond.code ky_M_about kb_M_about 4 (some .int) :: kw_all
abbrev kw_M_accesses : List Cond := Cond.code ky_M_accesses kb_M_accesses 1 (some .int) :: kw_all
abbrev kw_M_curve : List Cond := Cond.code ky_M_curve kb_M_curve 5 (some .int) :: kw_all
abbrev kw_M_comes : List Cond := Cond.code ky_M_comes kb_M_comes 7 (some .boolean) :: kw_all
abbrev kw_M_best : List Cond := Cond.code ky_M_best kb_M_best 9 (some .int) :: kw_all
abbrev kw_M_nextOf : List Cond := Cond.code ky_M_nextOf kb_M_nextOf 4 (some .int) :: kw_all
theorem kl_C : ∀ w ∈ u_ws zk_RC zk_TC 12, w ∈ kw_all := kw_pick _ [158, 159, 160, 161, 162, 163, 164, 165, 166, 167, 168, 169] (by decide +kernel)
theorem kl_W : ∀ w ∈ u_ws zk_RW zk_TW 5, w ∈ kw_all := kw_pick _ [56, 57, 58, 59, 60] (by decide +kernel)
theorem kl_Y : ∀ w ∈ u_ws zk_RY zk_TY 2, w ∈ kw_all := kw_pick _ [64, 65] (by decide +kernel)
theorem kl_M : ∀ w ∈ u_ws zk_RM zk_TM 22, w ∈ kw_all := kw_pick _ [368, 369, 370, 371, 372, 373, 374, 375, 376, 377, 378, 379, 380, 381, 382, 383, 384, 385, 386, 387, 388, 389] (by decide +kernel)
/-! ROWS OF MY OWN: numbers, branches by numbers, array places by numbers; contracts in one form; calls with their frame -/
theorem zn_dec {a : Nat} (h : 0 < a) : nI a + (-1) = nI (a - 1) := by
  obtain ⟨b, rfl⟩ : ∃ b, a = b + 1 := ⟨a - 1, by omega⟩
  exact pk_m1 b
theorem zn_sl : ∀ n, n < 32 → ((nI n &&& 31).toBitVec.smod 32).toNat = n := by decide +kernel
theorem zn_shr {n k : Nat} (h : n < 2 ^ 31) (hk : k < 32) : nI n >>> (nI k &&& 31) = nI (n / 2 ^ k) := pk_shrN h _ k (zn_sl k hk)
theorem zn_shl1 {k : Nat} (h : k ≤ 16) : nI 1 <<< (nI k &&& 31) = nI (2 ^ k) := by
  rw [pk_shlN (n := 1) (nI k &&& 31) k (zn_sl k (by omega)) (by
    have : 2 ^ k ≤ 2 ^ 16 := Nat.pow_le_pow_right (by decide) h
    omega), Nat.one_mul]
theorem zn_mask {n k : Nat} (h : n < 2 ^ 31) (hk : k ≤ 16) : nI n &&& nI (2 ^ k - 1) = nI (n % 2 ^ k) :=
  pk_andN (by omega) k (pk_tn (by
    have : 2 ^ k ≤ 2 ^ 16 := Nat.pow_le_pow_right (by decide) hk
    omega))
section ZA
variable {p : Program} {l : Launch} {e : Env} {R : Room} {s : State} {m : MethodId} {args : Array Value} {below : List Frame} {meth : Method} {c : Code} {H : Heap} {locs : List Loc} {cells slots : Nat} {Q : State → Prop}
variable {cc : ByteArray} {pc : Nat} {ls : Array Slot} {rest : List Value}
theorem zz_top {x y : Int32} (h : x = y) (k : W p l e R s m args below meth c H locs cells slots Q (F0 m pc ls (.int y :: rest))) : W p l e R s m args below meth c H locs cells slots Q (F0 m pc ls (.int x :: rest)) := by
  rw [h]; exact k
theorem zz_icmp_lt (hx : p.tables.exec = Jvm.exec) (hb : c.code = cc) {a b : Nat} {off : Int} {tgt : Nat} (hdg : decode cc pc = .ok (.if_icmp .lt off, 3)) (ht : (pc : Int) + off = (tgt : Int)) (ha : a < 2 ^ 31) (hb2 : b < 2 ^ 31)
    (kt : a < b → W p l e R s m args below meth c H locs cells slots Q (F0 m tgt ls rest)) (kf : b ≤ a → W p l e R s m args below meth c H locs cells slots Q (F0 m (pc + 3) ls rest)) : W p l e R s m args below meth c H locs cells slots Q (F0 m pc ls (.int (nI b) :: .int (nI a) :: rest)) :=
  lv_icmp_lt hx hb hdg ht (fun h => kt ((nI_ltI ha hb2).mp h)) (fun h => kf (Nat.not_lt.mp fun q => h ((nI_ltI ha hb2).mpr q)))
theorem zz_icmp_ge (hx : p.tables.exec = Jvm.exec) (hb : c.code = cc) {a b : Nat} {off : Int} {tgt : Nat} (hdg : decode cc pc = .ok (.if_icmp .ge off, 3)) (ht : (pc : Int) + off = (tgt : Int)) (ha : a < 2 ^ 31) (hb2 : b < 2 ^ 31)
    (kt : b ≤ a → W p l e R s m args below meth c H locs cells slots Q (F0 m tgt ls rest)) (kf : a < b → W p l e R s m args below meth c H locs cells slots Q (F0 m (pc + 3) ls rest)) : W p l e R s m args below meth c H locs cells slots Q (F0 m pc ls (.int (nI b) :: .int (nI a) :: rest)) :=
  lv_icmp_ge hx hb hdg ht (fun h => kt ((nI_leI hb2 ha).mp h)) (fun h => kf (Nat.not_le.mp fun q => h ((nI_leI hb2 ha).mpr q)))
theorem zz_icmp_gt (hx : p.tables.exec = Jvm.exec) (hb : c.code = cc) {a b : Nat} {off : Int} {tgt : Nat} (hdg : decode cc pc = .ok (.if_icmp .gt off, 3)) (ht : (pc : Int) + off = (tgt : Int)) (ha : a < 2 ^ 31) (hb2 : b < 2 ^ 31)
    (kt : b < a → W p l e R s m args below meth c H locs cells slots Q (F0 m tgt ls rest)) (kf : a ≤ b → W p l e R s m args below meth c H locs cells slots Q (F0 m (pc + 3) ls rest)) : W p l e R s m args below meth c H locs cells slots Q (F0 m pc ls (.int (nI b) :: .int (nI a) :: rest)) :=
  lv_icmp_gt hx hb hdg ht (fun h => kt ((nI_ltI hb2 ha).mp h)) (fun h => kf (Nat.not_lt.mp fun q => h ((nI_ltI hb2 ha).mpr q)))
theorem zz_icmp_le (hx : p.tables.exec = Jvm.exec) (hb : c.code = cc) {a b : Nat} {off : Int} {tgt : Nat} (hdg : decode cc pc = .ok (.if_icmp .le off, 3)) (ht : (pc : Int) + off = (tgt : Int)) (ha : a < 2 ^ 31) (hb2 : b < 2 ^ 31)
    (kt : a ≤ b → W p l e R s m args below meth c H locs cells slots Q (F0 m tgt ls rest)) (kf : b < a → W p l e R s m args below meth c H locs cells slots Q (F0 m (pc + 3) ls rest)) : W p l e R s m args below meth c H locs cells slots Q (F0 m pc ls (.int (nI b) :: .int (nI a) :: rest)) :=
  lv_icmp_le hx hb hdg ht (fun h => kt ((nI_leI ha hb2).mp h)) (fun h => kf (Nat.not_le.mp fun q => h ((nI_leI ha hb2).mpr q)))
theorem zz_icmp_eq (hx : p.tables.exec = Jvm.exec) (hb : c.code = cc) {a b : Nat} {off : Int} {tgt : Nat} (hdg : decode cc pc = .ok (.if_icmp .eq off, 3)) (ht : (pc : Int) + off = (tgt : Int)) (ha : a < 2 ^ 31) (hb2 : b < 2 ^ 31)
    (kt : a = b → W p l e R s m args below meth c H locs cells slots Q (F0 m tgt ls rest)) (kf : ¬ a = b → W p l e R s m args below meth c H locs cells slots Q (F0 m (pc + 3) ls rest)) : W p l e R s m args below meth c H locs cells slots Q (F0 m pc ls (.int (nI b) :: .int (nI a) :: rest)) :=
  lv_icmp_eq hx hb hdg ht (fun h => kt ((nI_eq ha hb2).mp h)) (fun h => kf (fun q => h ((nI_eq ha hb2).mpr q)))
theorem zz_icmp_ne (hx : p.tables.exec = Jvm.exec) (hb : c.code = cc) {a b : Nat} {off : Int} {tgt : Nat} (hdg : decode cc pc = .ok (.if_icmp .ne off, 3)) (ht : (pc : Int) + off = (tgt : Int)) (ha : a < 2 ^ 31) (hb2 : b < 2 ^ 31)
    (kt : ¬ a = b → W p l e R s m args below meth c H locs cells slots Q (F0 m tgt ls rest)) (kf : a = b → W p l e R s m args below meth c H locs cells slots Q (F0 m (pc + 3) ls rest)) : W p l e R s m args below meth c H locs cells slots Q (F0 m pc ls (.int (nI b) :: .int (nI a) :: rest)) :=
  lv_icmp_ne hx hb hdg ht (fun h => kt (fun q => h ((nI_eq ha hb2).mpr q))) (fun h => kf ((nI_eq ha hb2).mp h))
theorem zz_if_eq (hx : p.tables.exec = Jvm.exec) (hb : c.code = cc) {a : Nat} {off : Int} {tgt : Nat} (hdg : decode cc pc = .ok (.ifCond .eq off, 3)) (ht : (pc : Int) + off = (tgt : Int)) (ha : a < 2 ^ 31)
    (kt : a = 0 → W p l e R s m args below meth c H locs cells slots Q (F0 m tgt ls rest)) (kf : 0 < a → W p l e R s m args below meth c H locs cells slots Q (F0 m (pc + 3) ls rest)) : W p l e R s m args below meth c H locs cells slots Q (F0 m pc ls (.int (nI a) :: rest)) :=
  lv_if_eq hx hb hdg ht (fun h => kt (Nat.eq_zero_of_not_pos fun q => nI_ne0 q ha h)) (fun h => kf (Nat.pos_of_ne_zero fun q => h (by rw [q]; rfl)))
theorem zz_if_ne (hx : p.tables.exec = Jvm.exec) (hb : c.code = cc) {a : Nat} {off : Int} {tgt : Nat} (hdg : decode cc pc = .ok (.ifCond .ne off, 3)) (ht : (pc : Int) + off = (tgt : Int)) (ha : a < 2 ^ 31)
    (kt : 0 < a → W p l e R s m args below meth c H locs cells slots Q (F0 m tgt ls rest)) (kf : a = 0 → W p l e R s m args below meth c H locs cells slots Q (F0 m (pc + 3) ls rest)) : W p l e R s m args below meth c H locs cells slots Q (F0 m pc ls (.int (nI a) :: rest)) :=
  lv_if_ne hx hb hdg ht (fun h => kt (Nat.pos_of_ne_zero fun q => h (by rw [q]; rfl))) (fun h => kf (Nat.eq_zero_of_not_pos fun q => nI_ne0 q ha h))
theorem zz_if_gt (hx : p.tables.exec = Jvm.exec) (hb : c.code = cc) {a : Nat} {off : Int} {tgt : Nat} (hdg : decode cc pc = .ok (.ifCond .gt off, 3)) (ht : (pc : Int) + off = (tgt : Int)) (ha : a < 2 ^ 31)
    (kt : 0 < a → W p l e R s m args below meth c H locs cells slots Q (F0 m tgt ls rest)) (kf : a = 0 → W p l e R s m args below meth c H locs cells slots Q (F0 m (pc + 3) ls rest)) : W p l e R s m args below meth c H locs cells slots Q (F0 m pc ls (.int (nI a) :: rest)) :=
  lv_if_gt hx hb hdg ht (fun h => kt ((nI_ltI (by decide) ha).mp h)) (fun h => kf (Nat.eq_zero_of_not_pos fun q => h ((nI_ltI (a := 0) (by decide) ha).mpr q)))
theorem zz_if_le (hx : p.tables.exec = Jvm.exec) (hb : c.code = cc) {a : Nat} {off : Int} {tgt : Nat} (hdg : decode cc pc = .ok (.ifCond .le off, 3)) (ht : (pc : Int) + off = (tgt : Int)) (ha : a < 2 ^ 31)
    (kt : a = 0 → W p l e R s m args below meth c H locs cells slots Q (F0 m tgt ls rest)) (kf : 0 < a → W p l e R s m args below meth c H locs cells slots Q (F0 m (pc + 3) ls rest)) : W p l e R s m args below meth c H locs cells slots Q (F0 m pc ls (.int (nI a) :: rest)) :=
  lv_if_le hx hb hdg ht (fun h => kt (Nat.eq_zero_of_not_pos fun q => nI_nle q ha h)) (fun h => kf (Nat.pos_of_ne_zero fun q => h (by rw [q]; exact (by decide : (0 : Int32) ≤ 0))))
theorem zz_if_lt (hx : p.tables.exec = Jvm.exec) (hb : c.code = cc) {a : Nat} {off : Int} (hdg : decode cc pc = .ok (.ifCond .lt off, 3)) {tgt : Nat} (ht : (pc : Int) + off = (tgt : Int)) (ha : a < 2 ^ 31)
    (kf : W p l e R s m args below meth c H locs cells slots Q (F0 m (pc + 3) ls rest)) : W p l e R s m args below meth c H locs cells slots Q (F0 m pc ls (.int (nI a) :: rest)) :=
  lv_if_lt hx hb hdg ht (fun h => absurd h (nI_pos ha)) (fun _ => kf)
theorem zz_if_ge (hx : p.tables.exec = Jvm.exec) (hb : c.code = cc) {a : Nat} {off : Int} {tgt : Nat} (hdg : decode cc pc = .ok (.ifCond .ge off, 3)) (ht : (pc : Int) + off = (tgt : Int)) (ha : a < 2 ^ 31)
    (kt : W p l e R s m args below meth c H locs cells slots Q (F0 m tgt ls rest)) : W p l e R s m args below meth c H locs cells slots Q (F0 m pc ls (.int (nI a) :: rest)) :=
  lv_if_ge hx hb hdg ht (fun _ => kt) (fun h => absurd (nI_pos' ha) h)
variable {D : va_G} {cl : List vw_C} {A : Nat → Prop} {a : Nat} {tys : List (ClassId × FieldType)} {ws : va_W} {H0 : Heap}
theorem zz_iald (hx : p.tables.exec = Jvm.exec) (hb : c.code = cc) (hK : va_K D cl tys s) (hP : va_P D cl ws H) (q0 t0 : Nat) {cA : ClassId} {n : Nat} {f : Nat → Int32} (ha : ws[q0]? = some (a, .inl (cA, n, .inl f))) (ht : tys[t0]? = some (cA, .int)) {k : Nat} (hk : k < n) (hn : n < 2 ^ 31) (hdg : decode cc pc = .ok (.iaload, 1))
    (kk : W p l e R s m args below meth c H locs cells slots Q (F0 m (pc + 1) ls (.int (f k) :: rest))) : W p l e R s m args below meth c H locs cells slots Q (F0 m pc ls (.int (nI k) :: .ref a :: rest)) :=
  va_iald hx hb hK hP q0 t0 ha ht (vp_in_nI hk hn) hdg (by rw [nI_clamp (by omega)]; exact kk)
theorem zz_zald (hx : p.tables.exec = Jvm.exec) (hb : c.code = cc) (hK : va_K D cl tys s) (hP : va_P D cl ws H) (q0 t0 : Nat) {cA : ClassId} {n : Nat} {f : Nat → Int32} (ha : ws[q0]? = some (a, .inl (cA, n, .inl f))) (ht : tys[t0]? = some (cA, .boolean)) {k : Nat} (hk : k < n) (hn : n < 2 ^ 31) (hdg : decode cc pc = .ok (.baload, 1))
    (kk : W p l e R s m args below meth c H locs cells slots Q (F0 m (pc + 1) ls (.int (f k) :: rest))) : W p l e R s m args below meth c H locs cells slots Q (F0 m pc ls (.int (nI k) :: .ref a :: rest)) :=
  va_zald hx hb hK hP q0 t0 ha ht (vp_in_nI hk hn) hdg (by rw [nI_clamp (by omega)]; exact kk)
theorem zz_lald (hx : p.tables.exec = Jvm.exec) (hb : c.code = cc) (hK : va_K D cl tys s) (hP : va_P D cl ws H) (q0 t0 : Nat) {cA : ClassId} {n : Nat} {f : Nat → Int64} (ha : ws[q0]? = some (a, .inl (cA, n, .inr (.inl f)))) (ht : tys[t0]? = some (cA, .long)) {k : Nat} (hk : k < n) (hn : n < 2 ^ 31) (hdg : decode cc pc = .ok (.laload, 1))
    (kk : W p l e R s m args below meth c H locs cells slots Q (F0 m (pc + 1) ls (.long (f k) :: rest))) : W p l e R s m args below meth c H locs cells slots Q (F0 m pc ls (.int (nI k) :: .ref a :: rest)) :=
  va_lald hx hb hK hP q0 t0 ha ht (vp_in_nI hk hn) hdg (by rw [nI_clamp (by omega)]; exact kk)
theorem zz_aald (hx : p.tables.exec = Jvm.exec) (hb : c.code = cc) (hK : va_K D cl tys s) (hP : va_P D cl ws H) (q0 t0 : Nat) {cA : ClassId} {C : String} {n : Nat} {f : Nat → Option Nat} (ha : ws[q0]? = some (a, .inl (cA, n, .inr (.inr (.inr (.inr f)))))) (ht : tys[t0]? = some (cA, .object C)) {k : Nat} (hk : k < n) (hn : n < 2 ^ 31) (hdg : decode cc pc = .ok (.aaload, 1))
    (kk : W p l e R s m args below meth c H locs cells slots Q (F0 m (pc + 1) ls (va_rf (f k) :: rest))) : W p l e R s m args below meth c H locs cells slots Q (F0 m pc ls (.int (nI k) :: .ref a :: rest)) :=
  va_aldq hx hb hK hP q0 t0 ha ht (vp_in_nI hk hn) hdg (by rw [nI_clamp (by omega)]; exact kk)
theorem zz_iast (hx : p.tables.exec = Jvm.exec) (hb : c.code = cc) (hK : va_K D cl tys s) (hP : va_P D cl ws H) (hD : va_D A ws) (hS : va_S A H0 H locs) (q0 t0 : Nat) {cA : ClassId} {n : Nat} {f : Nat → Int32} (ha : ws[q0]? = some (a, .inl (cA, n, .inl f))) (ht : tys[t0]? = some (cA, .int)) {k : Nat} {x : Int32} (hk : k < n) (hn : n < 2 ^ 31) (hdg : decode cc pc = .ok (.iastore, 1))
    (kk : ∀ (H1 : Heap) (locs1 : List Loc), va_P D cl (ws.set q0 (a, .inl (cA, n, .inl (upd f k x)))) H1 → va_D A (ws.set q0 (a, .inl (cA, n, .inl (upd f k x)))) → va_S A H0 H1 locs1 → W p l e R s m args below meth c H1 locs1 cells slots Q (F0 m (pc + 1) ls rest)) : W p l e R s m args below meth c H locs cells slots Q (F0 m pc ls (.int x :: .int (nI k) :: .ref a :: rest)) := by
  refine va_iast hx hb hK hP hD hS q0 t0 ha ht (vp_in_nI hk hn) hdg (fun H1 locs1 h1 h2 h3 => ?_)
  rw [nI_clamp (by omega)] at h1 h2
  exact kk H1 locs1 h1 h2 h3
theorem zz_last (hx : p.tables.exec = Jvm.exec) (hb : c.code = cc) (hK : va_K D cl tys s) (hP : va_P D cl ws H) (hD : va_D A ws) (hS : va_S A H0 H locs) (q0 t0 : Nat) {cA : ClassId} {n : Nat} {f : Nat → Int64} (ha : ws[q0]? = some (a, .inl (cA, n, .inr (.inl f)))) (ht : tys[t0]? = some (cA, .long)) {k : Nat} {x : Int64} (hk : k < n) (hn : n < 2 ^ 31) (hdg : decode cc pc = .ok (.lastore, 1))
    (kk : ∀ (H1 : Heap) (locs1 : List Loc), va_P D cl (ws.set q0 (a, .inl (cA, n, .inr (.inl (vp_updL f k x))))) H1 → va_D A (ws.set q0 (a, .inl (cA, n, .inr (.inl (vp_updL f k x))))) → va_S A H0 H1 locs1 → W p l e R s m args below meth c H1 locs1 cells slots Q (F0 m (pc + 1) ls rest)) : W p l e R s m args below meth c H locs cells slots Q (F0 m pc ls (.long x :: .int (nI k) :: .ref a :: rest)) := by
  refine va_last hx hb hK hP hD hS q0 t0 ha ht (vp_in_nI hk hn) hdg (fun H1 locs1 h1 h2 h3 => ?_)
  rw [nI_clamp (by omega)] at h1 h2
  exact kk H1 locs1 h1 h2 h3
theorem zz_bit {x : Int32} (h : x = 0 ∨ x = 1) : vp_nar .boolean x = x := by
  rcases h with rfl | rfl <;> rfl
theorem zz_zast (hx : p.tables.exec = Jvm.exec) (hb : c.code = cc) (hK : va_K D cl tys s) (hP : va_P D cl ws H) (hD : va_D A ws) (hS : va_S A H0 H locs) (q0 t0 : Nat) {cA : ClassId} {n : Nat} {f : Nat → Int32} (ha : ws[q0]? = some (a, .inl (cA, n, .inl f))) (ht : tys[t0]? = some (cA, .boolean)) {k : Nat} {x : Int32} (hk : k < n) (hn : n < 2 ^ 31) (hbit : x = 0 ∨ x = 1) (hdg : decode cc pc = .ok (.bastore, 1))
    (kk : ∀ (H1 : Heap) (locs1 : List Loc), va_P D cl (ws.set q0 (a, .inl (cA, n, .inl (upd f k x)))) H1 → va_D A (ws.set q0 (a, .inl (cA, n, .inl (upd f k x)))) → va_S A H0 H1 locs1 → W p l e R s m args below meth c H1 locs1 cells slots Q (F0 m (pc + 1) ls rest)) : W p l e R s m args below meth c H locs cells slots Q (F0 m pc ls (.int x :: .int (nI k) :: .ref a :: rest)) := by
  refine va_zast hx hb hK hP hD hS q0 t0 ha ht (vp_in_nI hk hn) hdg (fun H1 locs1 h1 h2 h3 => ?_)
  rw [nI_clamp (by omega), zz_bit hbit] at h1 h2
  exact kk H1 locs1 h1 h2 h3
end ZA
/-- contracts: the world ws ahead, a world behind -/
def zz_ty (cI cZ cO cL : ClassId) : List (ClassId × FieldType) := [(cI, .int), (cZ, .boolean), (cO, .object "CacheYard$Cache"), (cL, .long)]
def zz_Pre (D : va_G) (tys : List (ClassId × FieldType)) (ws : va_W) (sz : Nat) (av : List Value) : Array Value → State → Prop :=
  va_Pc av (fun U => U.heap.size = sz ∧ va_P D zk_cl ws U.heap ∧ va_K D zk_cl tys U ∧ va_D (fun _ => True) ws)
def zz_B (D : va_G) (tys : List (ClassId × FieldType)) (A : Nat → Prop) (w : va_W) (t : State) : Prop := va_P D zk_cl w t.heap ∧ va_K D zk_cl tys t ∧ va_D A w
def zz_Qi (D : va_G) (tys : List (ClassId × FieldType)) (ws : va_W) (sz : Nat) (post : Int32 → va_W → Prop) := va_Qi post (zz_B D tys (va_A ws sz)) (va_A ws sz)
def zz_Qv (D : va_G) (tys : List (ClassId × FieldType)) (ws : va_W) (sz : Nat) (post : va_W → Prop) := va_Qv post (zz_B D tys (va_A ws sz)) (va_A ws sz)
def zz_Qr (D : va_G) (tys : List (ClassId × FieldType)) (ws : va_W) (sz : Nat) (post : Nat → va_W → Prop) := va_Qr (fun _ : va_W => True) (fun w a t => post a w ∧ zz_B D tys (va_A ws sz) w t) (va_A ws sz)
def zz_Mi (l : Launch) (y : MethodName) (Ws : List Cond) (rm : Room) (D : va_G) (tys : List (ClassId × FieldType)) (ws : va_W) (av : List Value) (post : Int32 → va_W → Prop) (mc ms : Nat) : Prop :=
  ∀ sz, Met l y Ws rm (zz_Pre D tys ws sz av) (zz_Qi D tys ws sz post) mc ms (va_A ws sz)
def zz_Mv (l : Launch) (y : MethodName) (Ws : List Cond) (rm : Room) (D : va_G) (tys : List (ClassId × FieldType)) (ws : va_W) (av : List Value) (post : va_W → Prop) (mc ms : Nat) : Prop :=
  ∀ sz, Met l y Ws rm (zz_Pre D tys ws sz av) (zz_Qv D tys ws sz post) mc ms (va_A ws sz)
def zz_Mr (l : Launch) (y : MethodName) (Ws : List Cond) (rm : Room) (D : va_G) (tys : List (ClassId × FieldType)) (ws : va_W) (av : List Value) (post : Nat → va_W → Prop) (mc ms : Nat) : Prop :=
  ∀ sz, Met l y Ws rm (zz_Pre D tys ws sz av) (zz_Qr D tys ws sz post) mc ms (va_A ws sz)
/-- what holds at a method's entry -/
theorem zz_entry {l : Launch} {y : MethodName} {Ws : List Cond} {rm : Room} {D : va_G} {tys : List (ClassId × FieldType)} {ws : va_W} {av : List Value} {Qc : Array Value → State → Outcome → State → Prop} {mc ms sz : Nat} {cc : ByteArray} {maxL : Nat} {ret : Option FieldType} {own : String}
    (hy : plainName y.cls = true) (hw0 : Ws = Cond.code y cc maxL ret :: kw_all) (ho : y.cls = own) (hlen : (lg_sl av).length ≤ maxL)
    (body : ∀ (p : Program) (e : Env) (s : State) (m : MethodId) (args : Array Value) (below : List Frame) (meth : Method) (c : Code), p.tables.exec = Jvm.exec → c.code = cc → c.maxLocals = maxL → s.vm.findClass own = some m.cls → (∀ w ∈ kw_all, w.before args s = true) → meth.sig.returnType = ret → meth.locks = false → meth.name = y.name →
      va_P D zk_cl ws s.heap → va_K D zk_cl tys s → ∀ A : Nat → Prop, A = va_A ws sz → s.heap.size = sz → va_D A ws → (∀ q : Nat, s.heap.size ≤ q → A q) → va_S A s.heap s.heap [] → ∀ ls : Array Slot, lv_has ls maxL (lv_args 0 av) →
      W p l e rm s m args below meth c s.heap [] 0 0 (MQ below Qc args s mc ms A) (F0 m 0 ls [])) : Met l y Ws rm (zz_Pre D tys ws sz av) Qc mc ms (va_A ws sz) := by
  subst ho
  refine Met.ofW (cc := cc) (maxL := maxL) (ret := ret) hy hw0 ?_
  intro p e s m args below meth c s₁ B hml hv
  obtain ⟨rfl, hsz, hP, hK, hD0⟩ := hv
  have hl := lv_entry av (n := maxL) hlen
  rw [lg_entry_eq]
  refine body p e s m _ below meth c B.exec B.bytes hml (findClass_of_methodNamed B.named) (fun w hw => atoms_spec (ws := Ws) B.pre w (by rw [hw0]; exact List.mem_cons_of_mem _ hw)) B.returns B.notSynchronized (name_of_methodNamed B.named B.method).1 hP hK _ rfl hsz hD0.self (fun q h => Or.inr (by omega)) va_S.rf _ hl
section ZE
variable {l : Launch} {y : MethodName} {Ws : List Cond} {rm : Room} {D : va_G} {tys : List (ClassId × FieldType)} {ws : va_W} {av : List Value} {mc ms : Nat} {cc : ByteArray} {maxL : Nat} {own : String}
theorem zz_entry_i {post : Int32 → va_W → Prop} (hy : plainName y.cls = true) (hw : Ws = Cond.code y cc maxL (some .int) :: kw_all) (ho : y.cls = own) (hlen : (lg_sl av).length ≤ maxL)
    (body : ∀ (p : Program) (e : Env) (s : State) (m : MethodId) (args : Array Value) (below : List Frame) (meth : Method) (c : Code) (Q : State → Prop), p.tables.exec = Jvm.exec → c.code = cc → c.maxLocals = maxL → s.vm.findClass own = some m.cls → (∀ w ∈ kw_all, w.before args s = true) → meth.name = y.name →
      va_P D zk_cl ws s.heap → va_K D zk_cl tys s → ∀ A : Nat → Prop, va_D A ws → (∀ q : Nat, s.heap.size ≤ q → A q) → va_S A s.heap s.heap [] →
      (∀ (r : Int32) (w : va_W) (H : Heap) (locs : List Loc) (pc : Nat) (ls : Array Slot), decode cc pc = .ok (.ireturn, 1) → va_P D zk_cl w H → va_D A w → va_S A s.heap H locs → post r w → W p l e rm s m args below meth c H locs mc ms Q (F0 m pc ls [.int r])) →
      ∀ ls : Array Slot, lv_has ls maxL (lv_args 0 av) → W p l e rm s m args below meth c s.heap [] 0 0 Q (F0 m 0 ls [])) : zz_Mi l y Ws rm D tys ws av post mc ms := by
  intro sz
  refine zz_entry hy hw ho hlen ?_
  intro p e s m args below meth c hx hb hml hown hts hr hlocks hin hP hK A hAe hsz hD hA hS ls hl
  subst hAe
  refine body p e s m args below meth c _ hx hb hml hown hts hin hP hK _ hD hA hS (fun r w H locs pc ls hdg hP hD hS hpost => ?_) ls hl
  exact W.iret (v := r) hx hb hr (fun t ht hW => ⟨⟨r, w, rfl, hpost, by rw [ht]; exact hP, va_K.moved hW.alike hK, hD⟩, hS.F ht⟩) hS.2.2 hdg hlocks
theorem zz_entry_z {post : Int32 → va_W → Prop} (hy : plainName y.cls = true) (hw : Ws = Cond.code y cc maxL (some .boolean) :: kw_all) (ho : y.cls = own) (hlen : (lg_sl av).length ≤ maxL)
    (body : ∀ (p : Program) (e : Env) (s : State) (m : MethodId) (args : Array Value) (below : List Frame) (meth : Method) (c : Code) (Q : State → Prop), p.tables.exec = Jvm.exec → c.code = cc → c.maxLocals = maxL → s.vm.findClass own = some m.cls → (∀ w ∈ kw_all, w.before args s = true) → meth.name = y.name →
      va_P D zk_cl ws s.heap → va_K D zk_cl tys s → ∀ A : Nat → Prop, va_D A ws → (∀ q : Nat, s.heap.size ≤ q → A q) → va_S A s.heap s.heap [] →
      (∀ (r : Int32) (w : va_W) (H : Heap) (locs : List Loc) (pc : Nat) (ls : Array Slot), r = 0 ∨ r = 1 → decode cc pc = .ok (.ireturn, 1) → va_P D zk_cl w H → va_D A w → va_S A s.heap H locs → post r w → W p l e rm s m args below meth c H locs mc ms Q (F0 m pc ls [.int r])) →
      ∀ ls : Array Slot, lv_has ls maxL (lv_args 0 av) → W p l e rm s m args below meth c s.heap [] 0 0 Q (F0 m 0 ls [])) : zz_Mi l y Ws rm D tys ws av post mc ms := by
  intro sz
  refine zz_entry hy hw ho hlen ?_
  intro p e s m args below meth c hx hb hml hown hts hr hlocks hin hP hK A hAe hsz hD hA hS ls hl
  subst hAe
  refine body p e s m args below meth c _ hx hb hml hown hts hin hP hK _ hD hA hS (fun r w H locs pc ls hbit hdg hP hD hS hpost => ?_) ls hl
  exact W.zret (v := r) hx hb hr (by rcases hbit with rfl | rfl <;> rfl) (fun t ht hW => ⟨⟨r, w, rfl, hpost, by rw [ht]; exact hP, va_K.moved hW.alike hK, hD⟩, hS.F ht⟩) hS.2.2 hdg hlocks
theorem zz_entry_v {post : va_W → Prop} (hy : plainName y.cls = true) (hw : Ws = Cond.code y cc maxL none :: kw_all) (ho : y.cls = own) (hlen : (lg_sl av).length ≤ maxL)
    (body : ∀ (p : Program) (e : Env) (s : State) (m : MethodId) (args : Array Value) (below : List Frame) (meth : Method) (c : Code) (Q : State → Prop), p.tables.exec = Jvm.exec → c.code = cc → c.maxLocals = maxL → s.vm.findClass own = some m.cls → (∀ w ∈ kw_all, w.before args s = true) → meth.name = y.name →
      va_P D zk_cl ws s.heap → va_K D zk_cl tys s → ∀ A : Nat → Prop, va_D A ws → (∀ q : Nat, s.heap.size ≤ q → A q) → va_S A s.heap s.heap [] →
      (∀ (w : va_W) (H : Heap) (locs : List Loc) (pc : Nat) (ls : Array Slot), decode cc pc = .ok (.return_, 1) → va_P D zk_cl w H → va_D A w → va_S A s.heap H locs → post w → W p l e rm s m args below meth c H locs mc ms Q (F0 m pc ls [])) →
      ∀ ls : Array Slot, lv_has ls maxL (lv_args 0 av) → W p l e rm s m args below meth c s.heap [] 0 0 Q (F0 m 0 ls [])) : zz_Mv l y Ws rm D tys ws av post mc ms := by
  intro sz
  refine zz_entry hy hw ho hlen ?_
  intro p e s m args below meth c hx hb hml hown hts hr hlocks hin hP hK A hAe hsz hD hA hS ls hl
  subst hAe
  refine body p e s m args below meth c _ hx hb hml hown hts hin hP hK _ hD hA hS (fun w H locs pc ls hdg hP hD hS hpost => ?_) ls hl
  exact W.vret hx hb hr (fun t ht hW => ⟨⟨w, rfl, hpost, by rw [ht]; exact hP, va_K.moved hW.alike hK, hD⟩, hS.F ht⟩) hS.2.2 hdg hlocks
theorem zz_entry_r {post : Nat → va_W → Prop} {C : String} (hy : plainName y.cls = true) (hw : Ws = Cond.code y cc maxL (some (.object C)) :: kw_all) (ho : y.cls = own) (hlen : (lg_sl av).length ≤ maxL)
    (body : ∀ (p : Program) (e : Env) (s : State) (m : MethodId) (args : Array Value) (below : List Frame) (meth : Method) (c : Code) (Q : State → Prop), p.tables.exec = Jvm.exec → c.code = cc → c.maxLocals = maxL → s.vm.findClass own = some m.cls → (∀ w ∈ kw_all, w.before args s = true) → meth.name = y.name →
      va_P D zk_cl ws s.heap → va_K D zk_cl tys s → ∀ A : Nat → Prop, va_D A ws → (∀ q : Nat, s.heap.size ≤ q → A q) → va_S A s.heap s.heap [] →
      (∀ (r : Nat) (w : va_W) (H : Heap) (locs : List Loc) (pc : Nat) (ls : Array Slot), decode cc pc = .ok (.areturn, 1) → va_P D zk_cl w H → va_D A w → va_S A s.heap H locs → post r w → W p l e rm s m args below meth c H locs mc ms Q (F0 m pc ls [.ref r])) →
      ∀ ls : Array Slot, lv_has ls maxL (lv_args 0 av) → W p l e rm s m args below meth c s.heap [] 0 0 Q (F0 m 0 ls [])) : zz_Mr l y Ws rm D tys ws av post mc ms := by
  intro sz
  refine zz_entry hy hw ho hlen ?_
  intro p e s m args below meth c hx hb hml hown hts hr hlocks hin hP hK A hAe hsz hD hA hS ls hl
  subst hAe
  refine body p e s m args below meth c _ hx hb hml hown hts hin hP hK _ hD hA hS (fun r w H locs pc ls hdg hP hD hS hpost => ?_) ls hl
  exact W.aret (v := .ref r) hx hb hr (Or.inl ⟨_, rfl⟩) (Or.inr ⟨_, rfl⟩) (fun t ht hW => ⟨⟨w, r, rfl, trivial, hpost, by rw [ht]; exact hP, va_K.moved hW.alike hK, hD⟩, hS.F ht⟩) hS.2.2 hdg hlocks
end ZE
theorem zz_blind {D : va_G} {tys : List (ClassId × FieldType)} {ws : va_W} {sz : Nat} {av : List Value} : FrameBlind (zz_Pre D tys ws sz av) := by
  intro a U g mk q
  obtain ⟨q0, q1, qP, qK, qD⟩ := q
  exact ⟨q0, q1, qP, va_K.moved (u := U) (U := U.calling g mk a) (Vm.Alike.refl U.vm) qK, qD⟩
theorem zz_P.perm {D : va_G} {cl : List vw_C} {w w2 : va_W} {H : Heap} (h : List.Perm w w2) (hP : va_P D cl w H) : va_P D cl w2 H := by
  intro k q hk
  obtain ⟨i, hi⟩ := List.getElem?_of_mem (h.mem_iff.mpr (List.mem_of_getElem? hk))
  exact hP i q hi
theorem zz_D.pw {A : Nat → Prop} {w : va_W} : va_D A w ↔ (w.map Prod.fst).Nodup ∧ ∀ q ∈ w, A q.1 := by
  constructor
  · intro h
    refine ⟨?_, fun q hq => ?_⟩
    · rw [List.nodup_iff_pairwise_ne, List.pairwise_iff_getElem]
      intro i j hi hj hij e
      rw [List.length_map] at hi hj
      rw [List.getElem_map, List.getElem_map] at e
      have := h.1 i j _ _ (List.getElem?_eq_getElem hi) (List.getElem?_eq_getElem hj) e
      omega
    · obtain ⟨i, hi⟩ := List.getElem?_of_mem hq
      exact h.2 i q hi
  · rintro ⟨h1, h2⟩
    refine ⟨fun i j p q hi hj e => ?_, fun k q hk => h2 q (List.mem_of_getElem? hk)⟩
    rw [List.nodup_iff_pairwise_ne, List.pairwise_iff_getElem] at h1
    obtain ⟨li, ei⟩ := List.getElem?_eq_some_iff.mp hi
    obtain ⟨lj, ej⟩ := List.getElem?_eq_some_iff.mp hj
    rcases Nat.lt_trichotomy i j with z | z | z
    · refine absurd ?_ (h1 i j (by rw [List.length_map]; exact li) (by rw [List.length_map]; exact lj) z)
      rw [List.getElem_map, List.getElem_map, ei, ej]; exact e
    · exact z
    · refine absurd ?_ (h1 j i (by rw [List.length_map]; exact lj) (by rw [List.length_map]; exact li) z)
      rw [List.getElem_map, List.getElem_map, ei, ej]; exact e.symm
theorem zz_D.perm {A : Nat → Prop} {w w2 : va_W} (h : List.Perm w w2) (hD : va_D A w) : va_D A w2 := by
  rw [zz_D.pw] at hD ⊢
  exact ⟨(h.map Prod.fst).nodup_iff.mp hD.1, fun q hq => hD.2 q (h.mem_iff.mpr hq)⟩
theorem zz_P.l {D : va_G} {cl : List vw_C} {w w2 : va_W} {H : Heap} (h : va_P D cl (w ++ w2) H) : va_P D cl w H := fun k q hk => by
  obtain ⟨i, hi⟩ := List.getElem?_of_mem (List.mem_append_left w2 (List.mem_of_getElem? hk))
  exact h i q hi
theorem zz_P.r {D : va_G} {cl : List vw_C} {w w2 : va_W} {H : Heap} (h : va_P D cl (w ++ w2) H) : va_P D cl w2 H := fun k q hk => by
  obtain ⟨i, hi⟩ := List.getElem?_of_mem (List.mem_append_right w (List.mem_of_getElem? hk))
  exact h i q hi
theorem zz_D.l {A : Nat → Prop} {w w2 : va_W} (h : va_D A (w ++ w2)) : va_D A w := by
  rw [zz_D.pw, List.map_append] at h
  rw [zz_D.pw]
  exact ⟨(List.nodup_append.mp h.1).1, fun q hq => h.2 q (List.mem_append_left _ hq)⟩
theorem zz_D.r {A : Nat → Prop} {w w2 : va_W} (h : va_D A (w ++ w2)) : va_D A w2 := by
  rw [zz_D.pw, List.map_append] at h
  rw [zz_D.pw]
  exact ⟨(List.nodup_append.mp h.1).2.1, fun q hq => h.2 q (List.mem_append_right _ hq)⟩
/-- the frame: what isn't the callee's stays -/
theorem zz_join {A0 : Nat → Prop} {D : va_G} {cl : List vw_C} {wc wr w1 : va_W} {H H1 : Heap} (hP : va_P D cl (wr ++ wc) H) (hD : va_D A0 (wr ++ wc)) (hk : ∀ q : Nat, q < H.size → ¬ va_A wc H.size q → H1[q]? = H[q]?) (hF : ∀ q, va_A wc H.size q → A0 q) (hP1 : va_P D cl w1 H1) (hD1 : va_D (va_A wc H.size) w1) : va_P D cl (wr ++ w1) H1 ∧ va_D A0 (wr ++ w1) := by
  have apart : ∀ (k : Nat) (q : Nat × va_E), wr[k]? = some q → q.1 < H.size ∧ ¬ va_A wc H.size q.1 := by
    intro k q hq
    have hl := (zz_P.l hP k q hq).lt
    refine ⟨hl, fun h => ?_⟩
    rcases h with ⟨k2, e, h⟩ | h
    · have hk1 : k < wr.length := (List.getElem?_eq_some_iff.mp hq).1
      have h1 : (wr ++ wc)[k]? = some q := by rw [List.getElem?_append_left hk1]; exact hq
      have h2 : (wr ++ wc)[wr.length + k2]? = some (q.1, e) := by rw [List.getElem?_append_right (by omega), Nat.add_sub_cancel_left]; exact h
      have := hD.1 _ _ _ _ h1 h2 rfl
      omega
    · omega
  refine ⟨va_P.app (fun k q hq => ?_) hP1, va_D.app (zz_D.l hD) (hD1.weaken (fun k q _ h => hF q.1 h)) (fun i j x y hx hy hxy => ?_)⟩
  · obtain ⟨g1, g2⟩ := apart k q hq
    exact (zz_P.l hP k q hq).kept (hk q.1 g1 g2)
  · exact (apart i x hx).2 (by rw [hxy]; exact hD1.2 j y hy)
theorem zz_free {A0 : Nat → Prop} {wr wc : va_W} {H0 H : Heap} {locs : List Loc} (hD : va_D A0 (wr ++ wc)) (hS : va_S A0 H0 H locs) (hA : ∀ q, H0.size ≤ q → A0 q) : ∀ q, va_A wc H.size q → A0 q := by
  intro q h
  rcases h with ⟨k, e, h⟩ | h
  · exact (zz_D.r hD).2 k (q, e) h
  · exact hA q (Nat.le_trans hS.1 h)
theorem zz_pre {D : va_G} {tys : List (ClassId × FieldType)} {wr wc : va_W} {av : List Value} {A0 : Nat → Prop} {s : State} {H : Heap} (hP : va_P D zk_cl (wr ++ wc) H) (hD : va_D A0 (wr ++ wc)) (hK : va_K D zk_cl tys s) :
    ∀ U : State, U.heap = H → s.WarmedH U.vm → zz_Pre D tys wc H.size av av.toArray U := by
  intro U hU hW
  refine ⟨rfl, by rw [hU], ?_, va_K.moved hW.alike hK, (zz_D.r hD).weaken (fun _ _ _ _ => trivial)⟩
  rw [hU]
  exact zz_P.r hP
theorem zz_gw {y : MethodName} {bytes : ByteArray} {maxL : Nat} {ret : Option FieldType} (hcode : Cond.code y bytes maxL ret ∈ kw_all) : GoodIn kw_all (Cond.code y bytes maxL ret :: kw_all) := fun w h => (List.mem_cons.mp h).elim (fun e => e ▸ kw_good _ hcode) (kw_good w)
def zz_nm (y : MethodName) (n : Nat) : Prop := y.cls ≠ "java/lang/invoke/MethodHandle" ∧ y.cls ≠ "java/lang/invoke/VarHandle" ∧ (parseMethodDescriptor y.desc).map (fun d => d.parameters.length) = some n
theorem zz_cwV {R : Room} {s : State} {args : Array Value} {own C : String} {index maxL mc ms : Nat} {y : MethodName} {bytes : ByteArray} {ret : Option FieldType} {rm : Room} {n : Nat} (hts : ∀ w ∈ kw_all, w.before args s = true) (hcode : Cond.code y bytes maxL ret ∈ kw_all) (hini : Cond.initialized y.cls ∈ kw_all) (hl : Cond.methodLink own index y ∈ kw_all) (hin : Cond.instanceMethod y ∈ kw_all) (hsel : Cond.selects C y y ∈ kw_all) (hd : zz_nm y n) (hrc : rm.cells = mc) (hrs : rm.slots = ms) (hR : rm.frames + 1 ≤ R.frames ∧ 8 + (maxL + 11) + rm.locals ≤ R.locals) :
    CallW R s args own C index y bytes maxL ret (Cond.code y bytes maxL ret :: kw_all) rm mc ms n :=
  ⟨callB_of n hts (zz_gw hcode) rfl hrc hrs (hts _ hini) (hts _ hl) hd hR, hts _ hin, hts _ hsel⟩
theorem zz_cwS {R : Room} {s : State} {args : Array Value} {own : String} {index maxL mc ms : Nat} {y : MethodName} {bytes : ByteArray} {ret : Option FieldType} {rm : Room} {n : Nat} (hts : ∀ w ∈ kw_all, w.before args s = true) (hcode : Cond.code y bytes maxL ret ∈ kw_all) (hini : Cond.initialized y.cls ∈ kw_all) (hl : Cond.methodLink own index y ∈ kw_all) (hst : Cond.static y ∈ kw_all) (hd : zz_nm y n) (hrc : rm.cells = mc) (hrs : rm.slots = ms) (hR : rm.frames + 1 ≤ R.frames ∧ 8 + (maxL + 11) + rm.locals ≤ R.locals) :
    CallB R s args own index y bytes maxL ret (Cond.code y bytes maxL ret :: kw_all) rm mc ms n ∧ (Cond.static y).before args s = true :=
  ⟨callB_of n hts (zz_gw hcode) rfl hrc hrs (hts _ hini) (hts _ hl) hd hR, hts _ hst⟩
theorem zz_cwI {R : Room} {s : State} {args : Array Value} {own : String} {index maxL mc ms : Nat} {y : MethodName} {bytes : ByteArray} {rm : Room} {n : Nat} (hts : ∀ w ∈ kw_all, w.before args s = true) (hcode : Cond.code y bytes maxL none ∈ kw_all) (hini : Cond.initialized y.cls ∈ kw_all) (hl : Cond.methodLink own index y ∈ kw_all) (hin : Cond.instanceMethod y ∈ kw_all) (hy : y.name = "<init>") (hd : zz_nm y n) (hrc : rm.cells = mc) (hrs : rm.slots = ms) (hR : rm.frames + 1 ≤ R.frames ∧ 8 + (maxL + 11) + rm.locals ≤ R.locals) :
    CallB R s args own index y bytes maxL none (Cond.code y bytes maxL none :: kw_all) rm mc ms n ∧ y.name = "<init>" ∧ (Cond.instanceMethod y).before args s = true :=
  ⟨callB_of n hts (zz_gw hcode) rfl hrc hrs (hts _ hini) (hts _ hl) hd hR, hy, hts _ hin⟩
theorem zz_Keq {D : va_G} {cl : List vw_C} {tys : List (ClassId × FieldType)} {U : State} (hK : va_K D cl tys U) (i j : Nat) {a b : ClassId} {ty : FieldType} (hi : tys[i]? = some (a, ty)) (hj : tys[j]? = some (b, ty)) (hp : ty = .int ∨ ty = .boolean ∨ ty = .long) : a = b := by
  have h1 := (hK.2 i _ hi).2
  have h2 := (hK.2 j _ hj).2
  rcases hp with rfl | rfl | rfl
  · exact Option.some.inj (Eq.trans (Eq.symm h1) h2)
  · exact Option.some.inj (Eq.trans (Eq.symm h1) h2)
  · exact Option.some.inj (Eq.trans (Eq.symm h1) h2)
section ZC
variable {p : Program} {l : Launch} {e : Env} {R : Room} {s : State} {m : MethodId} {args : Array Value} {below : List Frame} {meth : Method} {c : Code} {H : Heap} {locs : List Loc} {cells slots : Nat} {Q : State → Prop}
variable {cc : ByteArray} {pc nL : Nat} {ls : Array Slot} {D : va_G} {tys : List (ClassId × FieldType)} {wc wr : va_W} {A0 : Nat → Prop} {H0 : Heap} {mc ms : Nat} {st0 rest : List Value} {a : Array Value}
theorem zz_calli {post : Int32 → va_W → Prop} (hr : va_Run p l e R s m args below meth c H locs cells slots mc ms (F0 m pc ls st0) rest (zz_Qi D tys wc H.size post a) (va_A wc H.size)) (hP : va_P D zk_cl (wr ++ wc) H) (hD : va_D A0 (wr ++ wc)) (hS : va_S A0 H0 H locs) (hA : ∀ q, H0.size ≤ q → A0 q)
    (kk : ∀ (r : Int32) (w1 : va_W) (H1 : Heap) (locs1 : List Loc), post r w1 → va_P D zk_cl (wr ++ w1) H1 → va_D A0 (wr ++ w1) → va_S A0 H0 H1 locs1 → W p l e R s m args below meth c H1 locs1 (cells + mc) (slots + ms) Q (F0 m (pc + 3) ls (.int r :: rest))) : W p l e R s m args below meth c H locs cells slots Q (F0 m pc ls st0) := by
  have hFc := zz_free hD hS hA
  refine va_calli hr hS (fun q _ h => hFc q h) hFc (fun r u t H1 locs1 ht hvm hw hB hz1 hk1 hS1 => ?_)
  obtain ⟨hP1, hK1, hD1⟩ := hB
  rw [ht] at hP1
  obtain ⟨hP2, hD2⟩ := zz_join hP hD hk1 hFc hP1 hD1
  exact kk r u H1 locs1 hw hP2 hD2 hS1
theorem zz_callv {post : va_W → Prop} (hr : va_Run p l e R s m args below meth c H locs cells slots mc ms (F0 m pc ls st0) rest (zz_Qv D tys wc H.size post a) (va_A wc H.size)) (hP : va_P D zk_cl (wr ++ wc) H) (hD : va_D A0 (wr ++ wc)) (hS : va_S A0 H0 H locs) (hA : ∀ q, H0.size ≤ q → A0 q)
    (kk : ∀ (w1 : va_W) (H1 : Heap) (locs1 : List Loc), post w1 → va_P D zk_cl (wr ++ w1) H1 → va_D A0 (wr ++ w1) → va_S A0 H0 H1 locs1 → W p l e R s m args below meth c H1 locs1 (cells + mc) (slots + ms) Q (F0 m (pc + 3) ls rest)) : W p l e R s m args below meth c H locs cells slots Q (F0 m pc ls st0) := by
  have hFc := zz_free hD hS hA
  refine va_callv hr hS (fun q _ h => hFc q h) hFc (fun u t H1 locs1 ht hvm hw hB hz1 hk1 hS1 => ?_)
  obtain ⟨hP1, hK1, hD1⟩ := hB
  rw [ht] at hP1
  obtain ⟨hP2, hD2⟩ := zz_join hP hD hk1 hFc hP1 hD1
  exact kk u H1 locs1 hw hP2 hD2 hS1
theorem zz_callr {post : Nat → va_W → Prop} (hr : va_Run p l e R s m args below meth c H locs cells slots mc ms (F0 m pc ls st0) rest (zz_Qr D tys wc H.size post a) (va_A wc H.size)) (hP : va_P D zk_cl (wr ++ wc) H) (hD : va_D A0 (wr ++ wc)) (hS : va_S A0 H0 H locs) (hA : ∀ q, H0.size ≤ q → A0 q)
    (kk : ∀ (r : Nat) (w1 : va_W) (H1 : Heap) (locs1 : List Loc), post r w1 → va_P D zk_cl (wr ++ w1) H1 → va_D A0 (wr ++ w1) → va_S A0 H0 H1 locs1 → W p l e R s m args below meth c H1 locs1 (cells + mc) (slots + ms) Q (F0 m (pc + 3) ls (.ref r :: rest))) : W p l e R s m args below meth c H locs cells slots Q (F0 m pc ls st0) := by
  have hFc := zz_free hD hS hA
  refine va_callr hr hS (fun q _ h => hFc q h) hFc (fun u ra t H1 locs1 ht hvm hw hB hz1 hk1 hS1 => ?_)
  obtain ⟨hp, hP1, hK1, hD1⟩ := hB
  rw [ht] at hP1
  obtain ⟨hP2, hD2⟩ := zz_join hP hD hk1 hFc hP1 hD1
  exact kk ra u H1 locs1 hp hP2 hD2 hS1
variable {y : MethodName} {bytes : ByteArray} {maxL n index : Nat} {ret : Option FieldType} {Ws Ts : List Cond} {rm : Room} {own C : String} {b : Nat} {As : List Value}
theorem zz_iV {post : Int32 → va_W → Prop} {q0 ci : Nat} {fs : List Value} {qc : vw_C} (S : CallFix p m c cc nL s args Ts own) (hM : zz_Mi l y Ws rm D tys wc (.ref b :: As) post mc ms) (cw : CallW R s args own C index y bytes maxL ret Ws rm mc ms n) (hP : va_P D zk_cl (wr ++ wc) H) (hD : va_D A0 (wr ++ wc)) (hK : va_K D zk_cl tys s) (hS : va_S A0 H0 H locs) (hA : ∀ q, H0.size ≤ q → A0 q)
    (he : wc[q0]? = some (b, .inr (ci, fs))) (hc : zk_cl[ci]? = some qc) (hC : qc.1 = C) (hn : As.length = n) (hsize : ls.size = nL) (hst : st0 = As.reverse ++ .ref b :: rest) (hW : (rest.map fun v => v.category).sum ≤ 8) (hdg : decode cc pc = .ok (.invokevirtual index, 3)) (hf : cells + mc ≤ R.cells ∧ slots + ms ≤ R.slots)
    (kk : ∀ (r : Int32) (w1 : va_W) (H1 : Heap) (locs1 : List Loc), post r w1 → va_P D zk_cl (wr ++ w1) H1 → va_D A0 (wr ++ w1) → va_S A0 H0 H1 locs1 → W p l e R s m args below meth c H1 locs1 (cells + mc) (slots + ms) Q (F0 m (pc + 3) ls (.int r :: rest))) : W p l e R s m args below meth c H locs cells slots Q (F0 m pc ls st0) := by
  subst hC
  exact zz_calli (va_runV S (hM H.size) cw ⟨zz_blind, va_recv hK (zz_P.r hP) hc he, zz_pre hP hD hK⟩ rfl hn hsize hst (lv_room hW) hdg hf) hP hD hS hA kk
theorem zz_vV {post : va_W → Prop} {q0 ci : Nat} {fs : List Value} {qc : vw_C} (S : CallFix p m c cc nL s args Ts own) (hM : zz_Mv l y Ws rm D tys wc (.ref b :: As) post mc ms) (cw : CallW R s args own C index y bytes maxL ret Ws rm mc ms n) (hP : va_P D zk_cl (wr ++ wc) H) (hD : va_D A0 (wr ++ wc)) (hK : va_K D zk_cl tys s) (hS : va_S A0 H0 H locs) (hA : ∀ q, H0.size ≤ q → A0 q)
    (he : wc[q0]? = some (b, .inr (ci, fs))) (hc : zk_cl[ci]? = some qc) (hC : qc.1 = C) (hn : As.length = n) (hsize : ls.size = nL) (hst : st0 = As.reverse ++ .ref b :: rest) (hW : (rest.map fun v => v.category).sum ≤ 8) (hdg : decode cc pc = .ok (.invokevirtual index, 3)) (hf : cells + mc ≤ R.cells ∧ slots + ms ≤ R.slots)
    (kk : ∀ (w1 : va_W) (H1 : Heap) (locs1 : List Loc), post w1 → va_P D zk_cl (wr ++ w1) H1 → va_D A0 (wr ++ w1) → va_S A0 H0 H1 locs1 → W p l e R s m args below meth c H1 locs1 (cells + mc) (slots + ms) Q (F0 m (pc + 3) ls rest)) : W p l e R s m args below meth c H locs cells slots Q (F0 m pc ls st0) := by
  subst hC
  exact zz_callv (va_runV S (hM H.size) cw ⟨zz_blind, va_recv hK (zz_P.r hP) hc he, zz_pre hP hD hK⟩ rfl hn hsize hst (lv_room hW) hdg hf) hP hD hS hA kk
theorem zz_iS {post : Int32 → va_W → Prop} (S : CallFix p m c cc nL s args Ts own) (hM : zz_Mi l y Ws rm D tys wc As post mc ms) (cw : CallB R s args own index y bytes maxL ret Ws rm mc ms n ∧ (Cond.static y).before args s = true) (hP : va_P D zk_cl (wr ++ wc) H) (hD : va_D A0 (wr ++ wc)) (hK : va_K D zk_cl tys s) (hS : va_S A0 H0 H locs) (hA : ∀ q, H0.size ≤ q → A0 q)
    (hn : As.length = n) (hsize : ls.size = nL) (hst : st0 = As.reverse ++ rest) (hW : (rest.map fun v => v.category).sum ≤ 8) (hdg : decode cc pc = .ok (.invokestatic index, 3)) (hf : cells + mc ≤ R.cells ∧ slots + ms ≤ R.slots)
    (kk : ∀ (r : Int32) (w1 : va_W) (H1 : Heap) (locs1 : List Loc), post r w1 → va_P D zk_cl (wr ++ w1) H1 → va_D A0 (wr ++ w1) → va_S A0 H0 H1 locs1 → W p l e R s m args below meth c H1 locs1 (cells + mc) (slots + ms) Q (F0 m (pc + 3) ls (.int r :: rest))) : W p l e R s m args below meth c H locs cells slots Q (F0 m pc ls st0) :=
  zz_calli (va_runS S (hM H.size) cw ⟨zz_blind, zz_pre hP hD hK⟩ rfl hn hsize hst (lv_room hW) hdg hf) hP hD hS hA kk
theorem zz_vS {post : va_W → Prop} (S : CallFix p m c cc nL s args Ts own) (hM : zz_Mv l y Ws rm D tys wc As post mc ms) (cw : CallB R s args own index y bytes maxL ret Ws rm mc ms n ∧ (Cond.static y).before args s = true) (hP : va_P D zk_cl (wr ++ wc) H) (hD : va_D A0 (wr ++ wc)) (hK : va_K D zk_cl tys s) (hS : va_S A0 H0 H locs) (hA : ∀ q, H0.size ≤ q → A0 q)
    (hn : As.length = n) (hsize : ls.size = nL) (hst : st0 = As.reverse ++ rest) (hW : (rest.map fun v => v.category).sum ≤ 8) (hdg : decode cc pc = .ok (.invokestatic index, 3)) (hf : cells + mc ≤ R.cells ∧ slots + ms ≤ R.slots)
    (kk : ∀ (w1 : va_W) (H1 : Heap) (locs1 : List Loc), post w1 → va_P D zk_cl (wr ++ w1) H1 → va_D A0 (wr ++ w1) → va_S A0 H0 H1 locs1 → W p l e R s m args below meth c H1 locs1 (cells + mc) (slots + ms) Q (F0 m (pc + 3) ls rest)) : W p l e R s m args below meth c H locs cells slots Q (F0 m pc ls st0) :=
  zz_callv (va_runS S (hM H.size) cw ⟨zz_blind, zz_pre hP hD hK⟩ rfl hn hsize hst (lv_room hW) hdg hf) hP hD hS hA kk
theorem zz_vI {post : va_W → Prop} (S : CallFix p m c cc nL s args Ts own) (hM : zz_Mv l y Ws rm D tys wc (.ref b :: As) post mc ms) (cw : CallB R s args own index y bytes maxL none Ws rm mc ms n ∧ y.name = "<init>" ∧ (Cond.instanceMethod y).before args s = true) (hP : va_P D zk_cl (wr ++ wc) H) (hD : va_D A0 (wr ++ wc)) (hK : va_K D zk_cl tys s) (hS : va_S A0 H0 H locs) (hA : ∀ q, H0.size ≤ q → A0 q)
    (hn : As.length = n) (hsize : ls.size = nL) (hst : st0 = As.reverse ++ .ref b :: rest) (hW : (rest.map fun v => v.category).sum ≤ 8) (hdg : decode cc pc = .ok (.invokespecial index, 3)) (hf : cells + mc ≤ R.cells ∧ slots + ms ≤ R.slots)
    (kk : ∀ (w1 : va_W) (H1 : Heap) (locs1 : List Loc), post w1 → va_P D zk_cl (wr ++ w1) H1 → va_D A0 (wr ++ w1) → va_S A0 H0 H1 locs1 → W p l e R s m args below meth c H1 locs1 (cells + mc) (slots + ms) Q (F0 m (pc + 3) ls rest)) : W p l e R s m args below meth c H locs cells slots Q (F0 m pc ls st0) :=
  zz_callv (va_runI S (hM H.size) cw ⟨zz_blind, zz_pre hP hD hK⟩ rfl hn hsize hst (lv_room hW) hdg hf) hP hD hS hA kk
end ZC
theorem kz_Y_init : zz_nm ky_Y_init 0 := ⟨by decide +kernel, by decide +kernel, by decide +kernel⟩
theorem kz_W_init : zz_nm ky_W_init 0 := ⟨by decide +kernel, by decide +kernel, by decide +kernel⟩
theorem kz_Y_accesses : zz_nm ky_Y_accesses 0 := ⟨by decide +kernel, by decide +kernel, by decide +kernel⟩
theorem kz_W_length : zz_nm ky_W_length 0 := ⟨by decide +kernel, by decide +kernel, by decide +kernel⟩
theorem kz_L_make : zz_nm ky_L_make 6 := ⟨by decide +kernel, by decide +kernel, by decide +kernel⟩
theorem kz_Y_make : zz_nm ky_Y_make 5 := ⟨by decide +kernel, by decide +kernel, by decide +kernel⟩
theorem kz_I_bitCount : zz_nm ky_I_bitCount 1 := ⟨by decide +kernel, by decide +kernel, by decide +kernel⟩
theorem kz_Y_areBits : zz_nm ky_Y_areBits 1 := ⟨by decide +kernel, by decide +kernel, by decide +kernel⟩
theorem kz_C_init : zz_nm ky_C_init 0 := ⟨by decide +kernel, by decide +kernel, by decide +kernel⟩
theorem kz_C_become : zz_nm ky_C_become 4 := ⟨by decide +kernel, by decide +kernel, by decide +kernel⟩
theorem kz_C_emptyAll : zz_nm ky_C_emptyAll 0 := ⟨by decide +kernel, by decide +kernel, by decide +kernel⟩
theorem kz_L_access : zz_nm ky_L_access 4 := ⟨by decide +kernel, by decide +kernel, by decide +kernel⟩
theorem kz_Y_access : zz_nm ky_Y_access 2 := ⟨by decide +kernel, by decide +kernel, by decide +kernel⟩
theorem kz_W_keep : zz_nm ky_W_keep 1 := ⟨by decide +kernel, by decide +kernel, by decide +kernel⟩
theorem kz_C_sees : zz_nm ky_C_sees 3 := ⟨by decide +kernel, by decide +kernel, by decide +kernel⟩
theorem kz_C_countSets : zz_nm ky_C_countSets 0 := ⟨by decide +kernel, by decide +kernel, by decide +kernel⟩
theorem kz_C_findPlace : zz_nm ky_C_findPlace 2 := ⟨by decide +kernel, by decide +kernel, by decide +kernel⟩
theorem kz_C_blockAt : zz_nm ky_C_blockAt 2 := ⟨by decide +kernel, by decide +kernel, by decide +kernel⟩
theorem kz_C_slotOf : zz_nm ky_C_slotOf 2 := ⟨by decide +kernel, by decide +kernel, by decide +kernel⟩
theorem kz_C_bringIn : zz_nm ky_C_bringIn 2 := ⟨by decide +kernel, by decide +kernel, by decide +kernel⟩
theorem kz_C_pointedPlace : zz_nm ky_C_pointedPlace 1 := ⟨by decide +kernel, by decide +kernel, by decide +kernel⟩
theorem kz_C_oldestPlace : zz_nm ky_C_oldestPlace 1 := ⟨by decide +kernel, by decide +kernel, by decide +kernel⟩
theorem kz_C_isDirtyAt : zz_nm ky_C_isDirtyAt 2 := ⟨by decide +kernel, by decide +kernel, by decide +kernel⟩
theorem kz_C_pointAway : zz_nm ky_C_pointAway 2 := ⟨by decide +kernel, by decide +kernel, by decide +kernel⟩
theorem kz_L_flush : zz_nm ky_L_flush 3 := ⟨by decide +kernel, by decide +kernel, by decide +kernel⟩
theorem kz_Y_flush : zz_nm ky_Y_flush 1 := ⟨by decide +kernel, by decide +kernel, by decide +kernel⟩
theorem kz_Y_madeCache : zz_nm ky_Y_madeCache 1 := ⟨by decide +kernel, by decide +kernel, by decide +kernel⟩
theorem kz_C_letAllGo : zz_nm ky_C_letAllGo 0 := ⟨by decide +kernel, by decide +kernel, by decide +kernel⟩
theorem kz_C_countDirty : zz_nm ky_C_countDirty 0 := ⟨by decide +kernel, by decide +kernel, by decide +kernel⟩
theorem kz_L_place : zz_nm ky_L_place 6 := ⟨by decide +kernel, by decide +kernel, by decide +kernel⟩
theorem kz_Y_place : zz_nm ky_Y_place 4 := ⟨by decide +kernel, by decide +kernel, by decide +kernel⟩
theorem kz_C_hasPlace : zz_nm ky_C_hasPlace 2 := ⟨by decide +kernel, by decide +kernel, by decide +kernel⟩
theorem kz_L_about : zz_nm ky_L_about 4 := ⟨by decide +kernel, by decide +kernel, by decide +kernel⟩
theorem kz_Y_about : zz_nm ky_Y_about 2 := ⟨by decide +kernel, by decide +kernel, by decide +kernel⟩
theorem kz_C_countHeld : zz_nm ky_C_countHeld 0 := ⟨by decide +kernel, by decide +kernel, by decide +kernel⟩
theorem kz_L_curve : zz_nm ky_L_curve 4 := ⟨by decide +kernel, by decide +kernel, by decide +kernel⟩
theorem kz_Y_curve : zz_nm ky_Y_curve 2 := ⟨by decide +kernel, by decide +kernel, by decide +kernel⟩
theorem kz_Y_requireLinesAndBits : zz_nm ky_Y_requireLinesAndBits 2 := ⟨by decide +kernel, by decide +kernel, by decide +kernel⟩
theorem kz_W_countHits : zz_nm ky_W_countHits 3 := ⟨by decide +kernel, by decide +kernel, by decide +kernel⟩
theorem kz_W_findNextUses : zz_nm ky_W_findNextUses 1 := ⟨by decide +kernel, by decide +kernel, by decide +kernel⟩
theorem kz_W_findLine : zz_nm ky_W_findLine 2 := ⟨by decide +kernel, by decide +kernel, by decide +kernel⟩
theorem kz_W_lineNeededLast : zz_nm ky_W_lineNeededLast 1 := ⟨by decide +kernel, by decide +kernel, by decide +kernel⟩
theorem kz_W_bringToFront : zz_nm ky_W_bringToFront 2 := ⟨by decide +kernel, by decide +kernel, by decide +kernel⟩
theorem kz_L_best : zz_nm ky_L_best 4 := ⟨by decide +kernel, by decide +kernel, by decide +kernel⟩
theorem kz_Y_best : zz_nm ky_Y_best 2 := ⟨by decide +kernel, by decide +kernel, by decide +kernel⟩
theorem kz_M_init : zz_nm ky_M_init 0 := ⟨by decide +kernel, by decide +kernel, by decide +kernel⟩
theorem kz_M_thrown : zz_nm ky_M_thrown 0 := ⟨by decide +kernel, by decide +kernel, by decide +kernel⟩
theorem kz_M_make : zz_nm ky_M_make 5 := ⟨by decide +kernel, by decide +kernel, by decide +kernel⟩
theorem kz_M_in : zz_nm ky_M_in 3 := ⟨by decide +kernel, by decide +kernel, by decide +kernel⟩
theorem kz_M_refuse : zz_nm ky_M_refuse 3 := ⟨by decide +kernel, by decide +kernel, by decide +kernel⟩
theorem kz_M_empty : zz_nm ky_M_empty 1 := ⟨by decide +kernel, by decide +kernel, by decide +kernel⟩
theorem kz_M_access : zz_nm ky_M_access 2 := ⟨by decide +kernel, by decide +kernel, by decide +kernel⟩
theorem kz_M_see : zz_nm ky_M_see 3 := ⟨by decide +kernel, by decide +kernel, by decide +kernel⟩
theorem kz_M_placeOf : zz_nm ky_M_placeOf 3 := ⟨by decide +kernel, by decide +kernel, by decide +kernel⟩
theorem kz_M_victimOf : zz_nm ky_M_victimOf 2 := ⟨by decide +kernel, by decide +kernel, by decide +kernel⟩
theorem kz_M_pointed : zz_nm ky_M_pointed 2 := ⟨by decide +kernel, by decide +kernel, by decide +kernel⟩
theorem kz_M_turn : zz_nm ky_M_turn 3 := ⟨by decide +kernel, by decide +kernel, by decide +kernel⟩
theorem kz_M_flush : zz_nm ky_M_flush 1 := ⟨by decide +kernel, by decide +kernel, by decide +kernel⟩
theorem kz_M_isThere : zz_nm ky_M_isThere 1 := ⟨by decide +kernel, by decide +kernel, by decide +kernel⟩
theorem kz_M_count : zz_nm ky_M_count 2 := ⟨by decide +kernel, by decide +kernel, by decide +kernel⟩
theorem kz_M_place : zz_nm ky_M_place 4 := ⟨by decide +kernel, by decide +kernel, by decide +kernel⟩
theorem kz_M_about : zz_nm ky_M_about 2 := ⟨by decide +kernel, by decide +kernel, by decide +kernel⟩
theorem kz_M_accesses : zz_nm ky_M_accesses 0 := ⟨by decide +kernel, by decide +kernel, by decide +kernel⟩
theorem kz_M_curve : zz_nm ky_M_curve 2 := ⟨by decide +kernel, by decide +kernel, by decide +kernel⟩
theorem kz_M_comes : zz_nm ky_M_comes 3 := ⟨by decide +kernel, by decide +kernel, by decide +kernel⟩
theorem kz_M_best : zz_nm ky_M_best 2 := ⟨by decide +kernel, by decide +kernel, by decide +kernel⟩
theorem kz_M_nextOf : zz_nm ky_M_nextOf 2 := ⟨by decide +kernel, by decide +kernel, by decide +kernel⟩
end
section
/-! PURE ROWS 2: the row of accesses: the class's lines (by next uses), the reference's lines (by blocks) and its ends -/
theorem zp_er {α : Type} : ∀ (l : List α) (i : Nat) (h : i < l.length), List.Perm l (l[i] :: l.eraseIdx i)
  | a :: l, 0, _ => List.Perm.refl _
  | a :: l, i + 1, h => by
    have q := zp_er l i (by simpa using h)
    exact (List.Perm.cons a q).trans (List.Perm.swap _ _ _)
theorem zp_set {α : Type} (x : α) : ∀ (l : List α) (i : Nat), i < l.length → List.Perm (l.set i x) (x :: l.eraseIdx i)
  | a :: l, 0, _ => List.Perm.refl _
  | a :: l, i + 1, h => by
    have q := zp_set x l i (by simpa using h)
    exact (List.Perm.cons a q).trans (List.Perm.swap _ _ _)
theorem zp_map {α β : Type} (f : α → β) : ∀ (l : List α) (i : Nat), (l.map f).eraseIdx i = (l.eraseIdx i).map f
  | [], _ => rfl
  | a :: l, 0 => rfl
  | a :: l, i + 1 => by
    show f a :: (l.map f).eraseIdx i = f a :: (l.eraseIdx i).map f
    rw [zp_map f l i]
/-- j is the next use behind i, 400 if there is none -/
def zx_NX (n : Nat) (bk : Nat → Nat) (i j : Nat) : Prop :=
  (i < j ∧ j < n ∧ bk j = bk i ∧ ∀ k, i < k → k < j → bk k ≠ bk i) ∨ (j = 400 ∧ ∀ k, i < k → k < n → bk k ≠ bk i)
theorem zx_NX_le {n : Nat} {bk : Nat → Nat} {i j : Nat} (hn : n ≤ 400) (h : zx_NX n bk i j) : j ≤ 400 := by
  rcases h with h | h
  · omega
  · omega
/-- two blocks can't have the same next use -/
theorem zx_NX_inj {n : Nat} {bk : Nat → Nat} {i i' j : Nat} (hj : j ≠ 400) (h : zx_NX n bk i j) (h' : zx_NX n bk i' j) (hl : i < i') : False := by
  rcases h with ⟨h1, h2, h3, h4⟩ | ⟨h1, -⟩
  · rcases h' with ⟨k1, k2, k3, k4⟩ | ⟨k1, -⟩
    · exact h4 i' hl k1 (by rw [← k3, h3])
    · exact hj k1
  · exact hj h1
/-- which line the class takes at the access x: one that is needed now, a new one, or the victim's -/
def zc_ch (bst : Bool) (lines : Nat) (L : List Nat) (x l : Nat) : Prop :=
  (l < L.length ∧ L[l]? = some x) ∨ (x ∉ L ∧ L.length < lines ∧ l = L.length) ∨
  (x ∉ L ∧ ¬ L.length < lines ∧ ((bst = false ∧ l + 1 = L.length) ∨ (bst = true ∧ ∃ v, L[l]? = some v ∧ ∀ w ∈ L, w ≤ v)))
def zc_R (bst : Bool) (lines : Nat) (nx : Nat → Nat) : Nat → List Nat → Nat → Prop
  | 0, L, c => L = [] ∧ c = 0
  | i + 1, L, c => ∃ (L0 : List Nat) (c0 l : Nat), zc_R bst lines nx i L0 c0 ∧ zc_ch bst lines L0 i l ∧ L = nx i :: L0.eraseIdx l ∧ c = c0 + if i ∈ L0 then 1 else 0
theorem zc_R_len {bst : Bool} {lines : Nat} {nx : Nat → Nat} (h1 : 1 ≤ lines) : ∀ (i : Nat) (L : List Nat) (c : Nat), zc_R bst lines nx i L c → L.length ≤ lines
  | 0, L, c, h => by rw [h.1]; simp
  | i + 1, L, c, ⟨L0, c0, l, h, hc, e, _⟩ => by
    have q := zc_R_len h1 i L0 c0 h
    rw [e]
    rcases hc with ⟨a, b⟩ | ⟨a, b, d⟩ | ⟨a, b, d⟩
    · rw [List.length_cons, List.length_eraseIdx_of_lt a]; omega
    · have := List.length_eraseIdx_le L0 l
      rw [List.length_cons]; omega
    · have hl : l < L0.length := by
        rcases d with ⟨-, d⟩ | ⟨-, v, d, -⟩
        · omega
        · exact (List.getElem?_eq_some_iff.mp d).1
      rw [List.length_cons, List.length_eraseIdx_of_lt hl]; omega
theorem zc_R_cnt {bst : Bool} {lines : Nat} {nx : Nat → Nat} : ∀ (i : Nat) (L : List Nat) (c : Nat), zc_R bst lines nx i L c → c ≤ i
  | 0, L, c, h => by rw [h.2]; exact Nat.le_refl _
  | i + 1, L, c, ⟨L0, c0, l, h, hc, e, ec⟩ => by
    have q := zc_R_cnt i L0 c0 h
    rw [ec]
    split <;> omega
/-- which line the reference takes: (block, when asked for) -/
def zm_ch (lines : Nat) (M : List (Nat × Nat)) (b l : Nat) : Prop :=
  (∃ a, M[l]? = some (b, a)) ∨ ((∀ m ∈ M, m.1 ≠ b) ∧ M.length < lines ∧ l = M.length) ∨
  ((∀ m ∈ M, m.1 ≠ b) ∧ ¬ M.length < lines ∧ ∃ v, M[l]? = some v ∧ ∀ w ∈ M, v.2 ≤ w.2)
def zm_up (M : List (Nat × Nat)) (l : Nat) (x : Nat × Nat) : List (Nat × Nat) := if l < M.length then M.set l x else M ++ [x]
def zm_R (lines : Nat) (bk : Nat → Nat) : Nat → List (Nat × Nat) → Nat → Prop
  | 0, M, c => M = [] ∧ c = 0
  | i + 1, M, c => ∃ (M0 : List (Nat × Nat)) (c0 l : Nat), zm_R lines bk i M0 c0 ∧ zm_ch lines M0 (bk i) l ∧ M = zm_up M0 l (bk i, i) ∧ c = c0 + if ∃ m ∈ M0, m.1 = bk i then 1 else 0
theorem zm_R_cnt {lines : Nat} {bk : Nat → Nat} : ∀ (i : Nat) (M : List (Nat × Nat)) (c : Nat), zm_R lines bk i M c → c ≤ i
  | 0, M, c, h => by rw [h.2]; exact Nat.le_refl _
  | i + 1, M, c, ⟨M0, c0, l, h, hc, e, ec⟩ => by
    have q := zm_R_cnt i M0 c0 h
    rw [ec]
    split <;> omega
/-- the tie: the times of the blocks that are held, the latest first -/
def zc_T (n : Nat) (bk nx : Nat → Nat) (i : Nat) (L : List Nat) (M : List (Nat × Nat)) (ts : List Nat) : Prop :=
  L = ts.map nx ∧ List.Perm M (ts.map fun t => (bk t, t)) ∧ ts.Pairwise (fun a b => b < a) ∧ ∀ t ∈ ts, t < i ∧ ∀ k, t < k → k < i → bk k ≠ bk t
theorem zc_hit {n : Nat} {bk nx : Nat → Nat} {i t : Nat} (hn : n ≤ 400) (hi : i < n) (hx : zx_NX n bk t (nx t)) (ht : t < i) (hk : ∀ k, t < k → k < i → bk k ≠ bk t) : nx t = i ↔ bk t = bk i := by
  constructor
  · intro e
    rcases hx with ⟨h1, h2, h3, -⟩ | ⟨h1, -⟩
    · rw [← h3, e]
    · omega
  · intro e
    rcases hx with ⟨h1, h2, h3, h4⟩ | ⟨-, h2⟩
    · rcases Nat.lt_trichotomy (nx t) i with q | q | q
      · exact absurd h3 (hk _ h1 q)
      · exact q
      · exact absurd e.symm (h4 i ht q)
    · exact absurd e.symm (h2 i ht hi)
theorem zc_tie {n lines : Nat} {bk nx : Nat → Nat} (hn : n ≤ 400) (hl : 1 ≤ lines) (hx : ∀ i, i < n → zx_NX n bk i (nx i)) : ∀ (i : Nat), i ≤ n → ∀ (L : List Nat) (c : Nat) (M : List (Nat × Nat)) (c' : Nat), zc_R false lines nx i L c → zm_R lines bk i M c' → c = c' ∧ ∃ ts, zc_T n bk nx i L M ts
  | 0, _, L, c, M, c', h, h' => by
    obtain ⟨rfl, rfl⟩ := h
    obtain ⟨rfl, rfl⟩ := h'
    exact ⟨rfl, [], rfl, List.Perm.refl _, List.Pairwise.nil, fun t h => by cases h⟩
  | i + 1, hi, L, c, M, c', ⟨L0, c0, l, h, hc, eL, ec⟩, ⟨M0, d0, l', h', hc', eM, ec'⟩ => by
    obtain ⟨e0, ts, hL, hM, hts, hk⟩ := zc_tie hn hl hx i (by omega) L0 c0 M0 d0 h h'
    have hin : i < n := by omega
    have hit : ∀ t ∈ ts, (nx t = i ↔ bk t = bk i) := fun t ht => zc_hit hn hin (hx t (by have := (hk t ht).1; omega)) (hk t ht).1 (hk t ht).2
    have hm1 : i ∈ L0 ↔ ∃ t ∈ ts, bk t = bk i := by
      rw [hL, List.mem_map]
      constructor
      · rintro ⟨t, ht, e⟩; exact ⟨t, ht, (hit t ht).mp e⟩
      · rintro ⟨t, ht, e⟩; exact ⟨t, ht, (hit t ht).mpr e⟩
    have hm2 : (∃ m ∈ M0, m.1 = bk i) ↔ ∃ t ∈ ts, bk t = bk i := by
      constructor
      · rintro ⟨m, hm, e⟩
        have := hM.mem_iff.mp hm
        obtain ⟨t, ht, e2⟩ := List.mem_map.mp this
        exact ⟨t, ht, by rw [← e, ← e2]⟩
      · rintro ⟨t, ht, e⟩
        exact ⟨(bk t, t), hM.mem_iff.mpr (List.mem_map.mpr ⟨t, ht, rfl⟩), e⟩
    have hone : ∀ t ∈ ts, ∀ t' ∈ ts, bk t = bk i → bk t' = bk i → t = t' := by
      intro t ht t' ht' e e'
      rcases Nat.lt_trichotomy t t' with q | q | q
      · exact absurd (e'.trans e.symm) ((hk t ht).2 t' q (hk t' ht').1)
      · exact q
      · exact absurd (e.trans e'.symm) ((hk t' ht').2 t q (hk t ht).1)
    have hlen : L0.length = ts.length := by rw [hL, List.length_map]
    have hlenM : M0.length = ts.length := by rw [hM.length_eq, List.length_map]
    have hnew : ∀ us : List Nat, us.Sublist ts → (∀ t ∈ us, bk t ≠ bk i) → (i :: us).Pairwise (fun a b => b < a) ∧ ∀ t ∈ i :: us, t < i + 1 ∧ ∀ k, t < k → k < i + 1 → bk k ≠ bk t := by
      intro us hs hne
      refine ⟨List.Pairwise.cons (fun t ht => (hk t (hs.subset ht)).1) (hts.sublist hs), fun t ht => ?_⟩
      rcases List.mem_cons.mp ht with e | ht2
      · subst e
        exact ⟨by omega, fun k h1 h2 => by omega⟩
      · refine ⟨by have := (hk t (hs.subset ht2)).1; omega, fun k h1 h2 => ?_⟩
        rcases Nat.lt_or_ge k i with q | q
        · exact (hk t (hs.subset ht2)).2 k h1 q
        · have : k = i := by omega
          rw [this]
          exact fun e => hne t ht2 e.symm
    refine ⟨?_, ?_⟩
    · rw [ec, ec', e0]
      by_cases q : ∃ t ∈ ts, bk t = bk i
      · rw [if_pos (hm1.mpr q), if_pos (hm2.mpr q)]
      · rw [if_neg (fun z => q (hm1.mp z)), if_neg (fun z => q (hm2.mp z))]
    · by_cases q : ∃ t ∈ ts, bk t = bk i
      · -- a hit
        obtain ⟨t0, ht0, hb0⟩ := q
        have hiL : i ∈ L0 := hm1.mpr ⟨t0, ht0, hb0⟩
        have hl1 : l < L0.length ∧ L0[l]? = some i := by
          rcases hc with z | ⟨z, -⟩ | ⟨z, -⟩
          · exact z
          · exact absurd hiL z
          · exact absurd hiL z
        have hll : l < ts.length := by omega
        have hnl : nx (ts[l]) = i := by
          have := hl1.2
          rw [hL, List.getElem?_map, List.getElem?_eq_getElem hll] at this
          exact Option.some.inj this
        have htl : ts[l] ∈ ts := List.getElem_mem hll
        have hbl : bk (ts[l]) = bk i := (hit _ htl).mp hnl
        have hl2 : ∃ a, M0[l']? = some (bk i, a) := by
          obtain ⟨m, hm, e⟩ := hm2.mpr ⟨t0, ht0, hb0⟩
          rcases hc' with z | ⟨z, -⟩ | ⟨z, -⟩
          · exact z
          · exact absurd e (z m hm)
          · exact absurd e (z m hm)
        obtain ⟨a, ha⟩ := hl2
        obtain ⟨hlM, ha'⟩ := List.getElem?_eq_some_iff.mp ha
        have hma : (bk i, a) ∈ M0 := List.mem_of_getElem? ha
        obtain ⟨t1, ht1, e1⟩ := List.mem_map.mp (hM.mem_iff.mp hma)
        have hb1 : bk t1 = bk i := congrArg Prod.fst e1
        have ha1 : t1 = a := congrArg Prod.snd e1
        have ht1l : t1 = ts[l] := hone t1 ht1 _ htl hb1 hbl
        have hP := zp_er ts l hll
        have hPM : List.Perm (M0.eraseIdx l') ((ts.eraseIdx l).map fun t => (bk t, t)) := by
          have h1 := zp_er M0 l' hlM
          have h2 := (h1.symm.trans hM).trans (hP.map fun t => (bk t, t))
          rw [List.map_cons] at h2
          have h3 : M0[l'] = (bk (ts[l]), ts[l]) := by rw [ha', ← ht1l, hb1, ha1]
          rw [h3] at h2
          exact h2.cons_inv
        have hne : ∀ t ∈ ts.eraseIdx l, bk t ≠ bk i := by
          intro t ht e
          have hnd : ts.Nodup := hts.imp (fun h => by omega)
          have hnd2 := (hP.nodup_iff.mp hnd)
          have : t = ts[l] := hone t ((List.eraseIdx_sublist ts l).subset ht) _ htl e hbl
          rw [this] at ht
          exact (List.nodup_cons.mp hnd2).1 ht
        obtain ⟨p1, p2⟩ := hnew (ts.eraseIdx l) (List.eraseIdx_sublist ts l) hne
        refine ⟨i :: ts.eraseIdx l, ?_, ?_, p1, p2⟩
        · rw [eL, hL, zp_map, List.map_cons]
        · rw [eM, zm_up, if_pos hlM, List.map_cons]
          exact (zp_set _ M0 l' hlM).trans (hPM.cons _)
      · have hniL : i ∉ L0 := fun z => q (hm1.mp z)
        have hnM : ¬ ∃ m ∈ M0, m.1 = bk i := fun z => q (hm2.mp z)
        have hneall : ∀ t ∈ ts, bk t ≠ bk i := fun t ht e => q ⟨t, ht, e⟩
        by_cases hf : L0.length < lines
        · have hl1 : l = L0.length := by
            rcases hc with ⟨-, z⟩ | ⟨-, -, z⟩ | ⟨-, z, -⟩
            · exact absurd (List.mem_of_getElem? z) hniL
            · exact z
            · exact absurd hf z
          have hl2 : l' = M0.length := by
            rcases hc' with ⟨a, z⟩ | ⟨-, -, z⟩ | ⟨-, z, -⟩
            · exact absurd ⟨_, List.mem_of_getElem? z, rfl⟩ hnM
            · exact z
            · omega
          obtain ⟨p1, p2⟩ := hnew ts (List.Sublist.refl _) hneall
          refine ⟨i :: ts, ?_, ?_, p1, p2⟩
          · rw [eL, hl1, List.eraseIdx_of_length_le (Nat.le_refl _), hL, List.map_cons]
          · rw [eM, zm_up, if_neg (by omega), List.map_cons]
            exact List.perm_append_comm.trans (hM.cons _)
        · have hl1 : l + 1 = L0.length := by
            rcases hc with ⟨-, z⟩ | ⟨-, z, -⟩ | ⟨-, -, z⟩
            · exact absurd (List.mem_of_getElem? z) hniL
            · exact absurd z hf
            · rcases z with ⟨-, z⟩ | ⟨z, -⟩
              · exact z
              · cases z
          have hl2 : ∃ v, M0[l']? = some v ∧ ∀ w ∈ M0, v.2 ≤ w.2 := by
            rcases hc' with ⟨a, z⟩ | ⟨-, z, -⟩ | ⟨-, -, z⟩
            · exact absurd ⟨_, List.mem_of_getElem? z, rfl⟩ hnM
            · omega
            · exact z
          obtain ⟨v, hv, hvm⟩ := hl2
          obtain ⟨hlM, hv'⟩ := List.getElem?_eq_some_iff.mp hv
          have hll : l < ts.length := by omega
          obtain ⟨t1, ht1, e1⟩ := List.mem_map.mp (hM.mem_iff.mp (List.mem_of_getElem? hv))
          have hmin : ∀ t ∈ ts, ts[l] ≤ t := by
            intro t ht
            obtain ⟨j, hj, e⟩ := List.getElem_of_mem ht
            rcases Nat.lt_trichotomy j l with z | z | z
            · have := (List.pairwise_iff_getElem.mp hts) j l hj hll z
              omega
            · subst z; omega
            · omega
          have ht1l : t1 = ts[l] := by
            have a1 := hmin t1 ht1
            have a2 := hvm _ (hM.mem_iff.mpr (List.mem_map.mpr ⟨ts[l], List.getElem_mem hll, rfl⟩))
            rw [← e1] at a2
            simp only at a2
            omega
          have hP := zp_er ts l hll
          have hPM : List.Perm (M0.eraseIdx l') ((ts.eraseIdx l).map fun t => (bk t, t)) := by
            have h1 := zp_er M0 l' hlM
            have h2 := (h1.symm.trans hM).trans (hP.map fun t => (bk t, t))
            rw [List.map_cons] at h2
            have h3 : M0[l'] = (bk (ts[l]), ts[l]) := by rw [hv', ← e1, ht1l]
            rw [h3] at h2
            exact h2.cons_inv
          obtain ⟨p1, p2⟩ := hnew (ts.eraseIdx l) (List.eraseIdx_sublist ts l) (fun t ht => hneall t ((List.eraseIdx_sublist ts l).subset ht))
          refine ⟨i :: ts.eraseIdx l, ?_, ?_, p1, p2⟩
          · rw [eL, hL, zp_map, List.map_cons]
          · rw [eM, zm_up, if_pos hlM, List.map_cons]
            exact (zp_set _ M0 l' hlM).trans (hPM.cons _)
/-- THE CURVE: class and reference count the same hits -/
theorem zc_curve {n lines : Nat} {bk nx : Nat → Nat} (hn : n ≤ 400) (hl : 1 ≤ lines) (hx : ∀ i, i < n → zx_NX n bk i (nx i)) {L : List Nat} {c : Nat} {M : List (Nat × Nat)} {c' : Nat} (h : zc_R false lines nx n L c) (h' : zm_R lines bk n M c') : c = c' :=
  (zc_tie hn hl hx n (Nat.le_refl _) L c M c' h h').1
end
section
/-! PURE ROWS 3: the best: the class's lines against the reference's kept ends -/
def zb_fin (L : List Nat) : List Nat := L.filter (fun x => decide (x ≠ 400))
/-- what the reference's row of ends is when the step t begins -/
def zb_in (nx : Nat → Nat) (t : Nat) (E : List Nat) : List Nat := if 0 < t ∧ nx (t - 1) ≠ 400 then E ++ [nx (t - 1)] else E
def zb_R (lines : Nat) (nx : Nat → Nat) : Nat → List Nat → Nat → Prop
  | 0, E, c => E = [] ∧ c = 0
  | t + 1, E, c => ∃ (E0 : List Nat) (c0 : Nat), zb_R lines nx t E0 c0 ∧ c = c0 + (zb_in nx t E0).count t ∧
    (((zb_in nx t E0).filter (fun x => decide (x ≠ t))).length < lines ∧ E = (zb_in nx t E0).filter (fun x => decide (x ≠ t)) ∨
     ¬ ((zb_in nx t E0).filter (fun x => decide (x ≠ t))).length < lines ∧ ∃ v, (∃ l, l < ((zb_in nx t E0).filter (fun x => decide (x ≠ t))).length ∧ ((zb_in nx t E0).filter (fun x => decide (x ≠ t)))[l]? = some v ∧ List.Perm E (((zb_in nx t E0).filter (fun x => decide (x ≠ t))).eraseIdx l)) ∧ ∀ w ∈ (zb_in nx t E0).filter (fun x => decide (x ≠ t)), w ≤ v)
def zb_T (nx : Nat → Nat) (t : Nat) (L E : List Nat) : Prop :=
  ((t = 0 ∧ L = [] ∧ E = []) ∨ ∃ O, 0 < t ∧ L = nx (t - 1) :: O ∧ List.Perm E (zb_fin O)) ∧ (zb_fin L).Nodup ∧ ∀ x ∈ L, ∃ u, u < t ∧ x = nx u
theorem zb_in_T {nx : Nat → Nat} {t : Nat} {L E : List Nat} (h : zb_T nx t L E) : List.Perm (zb_in nx t E) (zb_fin L) := by
  obtain ⟨⟨rfl, rfl, rfl⟩ | ⟨O, h0, rfl, hp⟩, -, -⟩ := h
  · simp [zb_in, zb_fin]
  · unfold zb_in
    by_cases q : nx (t - 1) = 400
    · rw [if_neg (fun z => z.2 q)]
      have : zb_fin (nx (t - 1) :: O) = zb_fin O := by simp [zb_fin, q]
      rw [this]; exact hp
    · rw [if_pos ⟨h0, q⟩]
      have : zb_fin (nx (t - 1) :: O) = nx (t - 1) :: zb_fin O := by simp [zb_fin, q]
      rw [this]
      exact List.perm_append_comm.trans (hp.cons _)
theorem zb_er {L : List Nat} {l v : Nat} (h : L[l]? = some v) : List.Perm L (v :: L.eraseIdx l) := by
  obtain ⟨hl, e⟩ := List.getElem?_eq_some_iff.mp h
  have := zp_er L l hl
  rwa [e] at this
theorem zb_tie {n lines : Nat} {bk nx : Nat → Nat} (hn : n ≤ 400) (hl : 1 ≤ lines) (hx : ∀ i, i < n → zx_NX n bk i (nx i)) : ∀ (t : Nat), t ≤ n → ∀ (L : List Nat) (c : Nat) (E : List Nat) (c' : Nat), zc_R true lines nx t L c → zb_R lines nx t E c' → c = c' ∧ zb_T nx t L E
  | 0, _, L, c, E, c', h, h' => by
    obtain ⟨rfl, rfl⟩ := h
    obtain ⟨rfl, rfl⟩ := h'
    exact ⟨rfl, Or.inl ⟨rfl, rfl, rfl⟩, by simp [zb_fin], fun x h => by cases h⟩
  | t + 1, ht, L, c, E, c', ⟨L0, c0, l, h, hc, eL, ec⟩, ⟨E0, d0, h', ec', hE⟩ => by
    obtain ⟨e0, hT⟩ := zb_tie hn hl hx t (by omega) L0 c0 E0 d0 h h'
    have hin := zb_in_T hT
    have hlen := zc_R_len hl t L0 c0 h
    obtain ⟨-, hnd, hval⟩ := hT
    have htn : t < n := by omega
    have h4 : t ≠ 400 := by omega
    generalize zb_in nx t E0 = E1 at hin ec' hE
    have hmem : t ∈ zb_fin L0 ↔ t ∈ L0 := by simp [zb_fin, h4]
    have hcnt : E1.count t = if t ∈ L0 then 1 else 0 := by
      rw [hin.count_eq, hnd.count]
      by_cases q : t ∈ L0
      · rw [if_pos (hmem.mpr q), if_pos q]
      · rw [if_neg (fun z => q (hmem.mp z)), if_neg q]
    have hE2 : List.Perm (E1.filter (fun x => decide (x ≠ t))) ((zb_fin L0).filter (fun x => decide (x ≠ t))) := hin.filter _
    generalize E1.filter (fun x => decide (x ≠ t)) = E2 at hE2 hE
    have hv4 : ∀ x ∈ L0, x ≤ 400 := fun x hx' => by
      obtain ⟨u, hu, e⟩ := hval x hx'
      rw [e]
      exact zx_NX_le hn (hx u (by omega))
    have hfl : ∀ K : List Nat, (zb_fin K).length ≤ K.length := fun K => List.length_filter_le _ _
    -- what is left of the class's lines
    have key : List.Perm E (zb_fin (L0.eraseIdx l)) := by
      rcases hc with ⟨hll, hlt⟩ | ⟨hnt, hlt, hle⟩ | ⟨hnt, hge, hv⟩
      · have hP := zb_er hlt
        have hPf : List.Perm (zb_fin L0) (t :: zb_fin (L0.eraseIdx l)) := by
          have := hP.filter (fun x => decide (x ≠ 400))
          rw [List.filter_cons_of_pos (by simp [h4])] at this
          exact this
        have hnt : t ∉ zb_fin (L0.eraseIdx l) := (List.nodup_cons.mp (hPf.nodup_iff.mp hnd)).1
        have hE3 : List.Perm E2 (zb_fin (L0.eraseIdx l)) := by
          refine hE2.trans ?_
          have := hPf.filter (fun x => decide (x ≠ t))
          rw [List.filter_cons_of_neg (by simp)] at this
          have e2 : (zb_fin (L0.eraseIdx l)).filter (fun x => decide (x ≠ t)) = zb_fin (L0.eraseIdx l) := List.filter_eq_self.mpr (fun a ha => by
            have : a ≠ t := fun e => hnt (e ▸ ha)
            simp [this])
          rw [e2] at this
          exact this
        have hlE : E2.length < lines := by
          have a1 := hE3.length_eq
          have a2 := hfl (L0.eraseIdx l)
          rw [List.length_eraseIdx_of_lt hll] at a2
          omega
        rcases hE with ⟨-, e⟩ | ⟨z, -⟩
        · rw [e]; exact hE3
        · exact absurd hlE z
      · have hE3 : List.Perm E2 (zb_fin L0) := by
          refine hE2.trans ?_
          rw [List.filter_eq_self.mpr (fun a ha => by
            have : a ≠ t := fun e => hnt (hmem.mp (e ▸ ha))
            simp [this])]
        have hlE : E2.length < lines := by
          have a1 := hE3.length_eq
          have a2 := hfl L0
          omega
        rcases hE with ⟨-, e⟩ | ⟨z, -⟩
        · rw [e, hle, List.eraseIdx_of_length_le (Nat.le_refl _)]; exact hE3
        · exact absurd hlE z
      · have hE3 : List.Perm E2 (zb_fin L0) := by
          refine hE2.trans ?_
          rw [List.filter_eq_self.mpr (fun a ha => by
            have : a ≠ t := fun e => hnt (hmem.mp (e ▸ ha))
            simp [this])]
        obtain ⟨-, v, hlv, hmax⟩ : true = true ∧ ∃ v, L0[l]? = some v ∧ ∀ w ∈ L0, w ≤ v := by
          rcases hv with ⟨z, -⟩ | z
          · cases z
          · exact z
        have hP := zb_er hlv
        have hll := (List.getElem?_eq_some_iff.mp hlv).1
        by_cases q : v = 400
        · have hPf : List.Perm (zb_fin L0) (zb_fin (L0.eraseIdx l)) := by
            have := hP.filter (fun x => decide (x ≠ 400))
            rw [List.filter_cons_of_neg (by simp [q])] at this
            exact this
          have hlE : E2.length < lines := by
            have a1 := (hE3.trans hPf).length_eq
            have a2 := hfl (L0.eraseIdx l)
            rw [List.length_eraseIdx_of_lt hll] at a2
            omega
          rcases hE with ⟨-, e⟩ | ⟨z, -⟩
          · rw [e]; exact hE3.trans hPf
          · exact absurd hlE z
        · have hall : ∀ w ∈ L0, w ≠ 400 := fun w hw e => by
            have a1 := hmax w hw
            have a2 := hv4 v (List.mem_of_getElem? hlv)
            omega
          have hfe : zb_fin L0 = L0 := List.filter_eq_self.mpr (fun a ha => by simp [hall a ha])
          have hfe2 : zb_fin (L0.eraseIdx l) = L0.eraseIdx l := List.filter_eq_self.mpr (fun a ha => by simp [hall a ((List.eraseIdx_sublist L0 l).subset ha)])
          rw [hfe] at hE3
          rw [hfe2]
          rcases hE with ⟨z, -⟩ | ⟨-, v', ⟨l', hl', hlv', hEp⟩, hmax'⟩
          · have := hE3.length_eq
            omega
          · have hvv : v' = v := by
              have a1 := hmax v' (hE3.mem_iff.mp (List.mem_of_getElem? hlv'))
              have a2 := hmax' v (hE3.mem_iff.mpr (List.mem_of_getElem? hlv))
              omega
            subst hvv
            have h1 := ((zb_er hlv').symm.trans hE3).trans hP
            exact hEp.trans h1.cons_inv
    refine ⟨by rw [ec, ec', hcnt, e0], Or.inr ⟨L0.eraseIdx l, by omega, by rw [eL]; rfl, key⟩, ?_, ?_⟩
    · rw [eL]
      have hsub : (zb_fin (L0.eraseIdx l)).Nodup := List.Nodup.sublist ((List.eraseIdx_sublist L0 l).filter _) hnd
      by_cases q : nx t = 400
      · have : zb_fin (nx t :: L0.eraseIdx l) = zb_fin (L0.eraseIdx l) := by simp [zb_fin, q]
        rw [this]; exact hsub
      · have : zb_fin (nx t :: L0.eraseIdx l) = nx t :: zb_fin (L0.eraseIdx l) := by simp [zb_fin, q]
        rw [this]
        refine List.nodup_cons.mpr ⟨fun hm => ?_, hsub⟩
        have hm2 : nx t ∈ L0 := (List.eraseIdx_sublist L0 l).subset (List.mem_filter.mp hm).1
        obtain ⟨u, hu, e⟩ := hval _ hm2
        exact zx_NX_inj q (e ▸ hx u (by omega)) (hx t htn) hu
    · rw [eL]
      intro x hx'
      rcases List.mem_cons.mp hx' with e | hm
      · exact ⟨t, by omega, e⟩
      · obtain ⟨u, hu, e⟩ := hval x ((List.eraseIdx_sublist L0 l).subset hm)
        exact ⟨u, by omega, e⟩
/-- THE BEST: class and reference count the same hits -/
theorem zb_best {n lines : Nat} {bk nx : Nat → Nat} (hn : n ≤ 400) (hl : 1 ≤ lines) (hx : ∀ i, i < n → zx_NX n bk i (nx i)) {L : List Nat} {c : Nat} {E : List Nat} {c' : Nat} (h : zc_R true lines nx n L c) (h' : zb_R lines nx n E c') : c = c' :=
  (zb_tie hn hl hx n (Nat.le_refl _) L c E c' h h').1
end
section
/-! PURE ROWS 4: the tree of a set -/
def zt_b (t : Nat) : Nat → Bool := fun j => decide (t / 2 ^ j % 2 = 1)
def zt_c (t n : Nat) : Nat := if t / 2 ^ n % 2 = 1 then t - 2 ^ n else t
def zt_s (t n : Nat) : Nat := if t / 2 ^ n % 2 = 1 then t else t + 2 ^ n
theorem zt_clr0 : ∀ t : Fin 256, ∀ n : Fin 8, nI t.val &&& ((nI 1 <<< (nI n.val &&& 31)) ^^^ (-1)) = nI (zt_c t.val n.val) := by decide +kernel
theorem zt_set0 : ∀ t : Fin 256, ∀ n : Fin 8, nI t.val ||| (nI 1 <<< (nI n.val &&& 31)) = nI (zt_s t.val n.val) := by decide +kernel
theorem zt_get0 : ∀ t : Fin 256, ∀ n : Fin 8, (nI t.val >>> (nI n.val &&& 31)) &&& nI 1 = nI (t.val / 2 ^ n.val % 2) := by decide +kernel
theorem zt_cb0 : ∀ t : Fin 256, ∀ n : Fin 8, zt_c t.val n.val < 256 ∧ ∀ j : Fin 8, zt_b (zt_c t.val n.val) j.val = if j.val = n.val then false else zt_b t.val j.val := by decide +kernel
theorem zt_sb0 : ∀ t : Fin 256, ∀ n : Fin 8, zt_s t.val n.val < 256 ∧ ∀ j : Fin 8, zt_b (zt_s t.val n.val) j.val = if j.val = n.val then true else zt_b t.val j.val := by decide +kernel
theorem zt_and0 : ∀ p : Fin 8, ∀ h : Fin 5, (h.val = 1 ∨ h.val = 2 ∨ h.val = 4) → nI p.val &&& nI h.val = nI (if p.val / h.val % 2 = 1 then h.val else 0) := by decide +kernel
theorem zt_clr {t n : Nat} (ht : t < 256) (hn : n < 8) : nI t &&& ((nI 1 <<< (nI n &&& 31)) ^^^ (-1)) = nI (zt_c t n) := zt_clr0 ⟨t, ht⟩ ⟨n, hn⟩
theorem zt_set {t n : Nat} (ht : t < 256) (hn : n < 8) : nI t ||| (nI 1 <<< (nI n &&& 31)) = nI (zt_s t n) := zt_set0 ⟨t, ht⟩ ⟨n, hn⟩
theorem zt_get {t n : Nat} (ht : t < 256) (hn : n < 8) : (nI t >>> (nI n &&& 31)) &&& nI 1 = nI (t / 2 ^ n % 2) := zt_get0 ⟨t, ht⟩ ⟨n, hn⟩
theorem zt_and {p h : Nat} (hp : p < 8) (hh : h = 1 ∨ h = 2 ∨ h = 4) : nI p &&& nI h = nI (if p / h % 2 = 1 then h else 0) := zt_and0 ⟨p, hp⟩ ⟨h, by omega⟩ hh
theorem zt_big {t j : Nat} (ht : t < 256) (hj : 8 ≤ j) : zt_b t j = false := by
  have h1 : 256 ≤ 2 ^ j := Nat.pow_le_pow_right (n := 2) (by decide) hj
  have h2 : t / 2 ^ j = 0 := Nat.div_eq_of_lt (by omega)
  simp [zt_b, h2]
theorem zt_cb {t n : Nat} (ht : t < 256) (hn : n < 8) : zt_c t n < 256 ∧ zt_b (zt_c t n) = fun j => if j = n then false else zt_b t j := by
  obtain ⟨h1, h2⟩ := zt_cb0 ⟨t, ht⟩ ⟨n, hn⟩
  refine ⟨h1, funext fun j => ?_⟩
  rcases Nat.lt_or_ge j 8 with q | q
  · exact h2 ⟨j, q⟩
  · rw [zt_big h1 q, zt_big ht q]; simp
theorem zt_sb {t n : Nat} (ht : t < 256) (hn : n < 8) : zt_s t n < 256 ∧ zt_b (zt_s t n) = fun j => if j = n then true else zt_b t j := by
  obtain ⟨h1, h2⟩ := zt_sb0 ⟨t, ht⟩ ⟨n, hn⟩
  refine ⟨h1, funext fun j => ?_⟩
  rcases Nat.lt_or_ge j 8 with q | q
  · exact h2 ⟨j, q⟩
  · rw [zt_big h1 q, zt_big ht q, if_neg (by omega)]
/-- to which place one is pointed -/
def zt_pt (tb : Nat → Bool) : Nat → Nat → Nat → Nat → Nat
  | 0, _, _, fr => fr
  | f + 1, half, node, fr => if half = 0 then fr else if tb node = true then zt_pt tb f (half / 2) (2 * node + 1) (fr + half) else zt_pt tb f (half / 2) (2 * node) fr
/-- how the tree points behind an access of the place pl: by comparing -/
def zt_mt (pl : Nat) : Nat → Nat → Nat → Nat → (Nat → Bool) → Nat → Bool
  | 0, _, _, _, tb => tb
  | f + 1, half, node, fr, tb => if half = 0 then tb else if fr + half ≤ pl then zt_mt pl f (half / 2) (2 * node + 1) (fr + half) (fun j => if j = node then false else tb j) else zt_mt pl f (half / 2) (2 * node) fr (fun j => if j = node then true else tb j)
/-- the same by the place's bits -/
def zt_pa (pl : Nat) : Nat → Nat → Nat → (Nat → Bool) → Nat → Bool
  | 0, _, _, tb => tb
  | f + 1, half, node, tb => if half = 0 then tb else if pl / half % 2 = 1 then zt_pa pl f (half / 2) (2 * node + 1) (fun j => if j = node then false else tb j) else zt_pa pl f (half / 2) (2 * node) (fun j => if j = node then true else tb j)
theorem zt_same {w pl : Nat} (hw : w = 1 ∨ w = 2 ∨ w = 4 ∨ w = 8) (hp : pl < w) (tb : Nat → Bool) : zt_pa pl 4 (w / 2) 1 tb = zt_mt pl 4 (w / 2) 1 0 tb := by
  rcases hw with rfl | rfl | rfl | rfl
  · rfl
  · rcases (show pl = 0 ∨ pl = 1 by omega) with rfl | rfl <;> rfl
  · rcases (show pl = 0 ∨ pl = 1 ∨ pl = 2 ∨ pl = 3 by omega) with rfl | rfl | rfl | rfl <;> rfl
  · rcases (show pl = 0 ∨ pl = 1 ∨ pl = 2 ∨ pl = 3 ∨ pl = 4 ∨ pl = 5 ∨ pl = 6 ∨ pl = 7 by omega) with rfl | rfl | rfl | rfl | rfl | rfl | rfl | rfl <;> rfl
theorem zt_pt_lt {tb : Nat → Bool} {w : Nat} (hw : w = 1 ∨ w = 2 ∨ w = 4 ∨ w = 8) : zt_pt tb 4 (w / 2) 1 0 < w := by
  rcases hw with rfl | rfl | rfl | rfl <;> simp [zt_pt] <;> (repeat' split) <;> omega
/-- the pictures of a tree agree -/
theorem zt_pt_c {tb tb' : Nat → Bool} (h : ∀ j, 1 ≤ j → j < 8 → tb j = tb' j) {w : Nat} (hw : w = 1 ∨ w = 2 ∨ w = 4 ∨ w = 8) : zt_pt tb 4 (w / 2) 1 0 = zt_pt tb' 4 (w / 2) 1 0 := by
  have h1 := h 1 (by omega) (by omega)
  have h2 := h 2 (by omega) (by omega)
  have h3 := h 3 (by omega) (by omega)
  have h4 := h 4 (by omega) (by omega)
  have h5 := h 5 (by omega) (by omega)
  have h6 := h 6 (by omega) (by omega)
  have h7 := h 7 (by omega) (by omega)
  rcases hw with rfl | rfl | rfl | rfl <;> simp [zt_pt, h1, h2, h3, h4, h5, h6, h7]
theorem zt_mt_c {pl : Nat} : ∀ (f half node fr : Nat) (tb tb' : Nat → Bool) (j : Nat), tb j = tb' j → zt_mt pl f half node fr tb j = zt_mt pl f half node fr tb' j
  | 0, _, _, _, _, _, _, h => h
  | f + 1, half, node, fr, tb, tb', j, h => by
    unfold zt_mt
    split
    · exact h
    · split
      · exact zt_mt_c f _ _ _ _ _ j (by show (if j = node then false else tb j) = (if j = node then false else tb' j); rw [h])
      · exact zt_mt_c f _ _ _ _ _ j (by show (if j = node then true else tb j) = (if j = node then true else tb' j); rw [h])
end
section
/-! the cells of an object, in short -/
def zc_ob (q : Nat → Nat) (sb wy kd bb : Nat) (hi mi vi wb : Int32) : va_E := .inr (0, [.int (nI sb), .int (nI wy), .int (nI kd), .int (nI bb), .ref (q 1), .ref (q 2), .ref (q 3), .ref (q 4), .int hi, .int mi, .int vi, .int wb])
end
section
/-! PURE ROWS 5: steps of the loops -/
theorem zu_ext {f : Nat → Int32} {k : Nat} {v : Int32} (h : ∀ j, j < k → f j = v) : ∀ j, j < k + 1 → upd f k v j = v := by
  intro j hj
  by_cases q : j = k
  · subst q; exact pk_us
  · rw [pk_un q]; exact h j (by omega)
theorem zu_nle {x y : Int32} (h : ¬ y ≤ x) : x < y := by
  rw [zf_ile] at h; rw [zf_ilt]; omega
theorem zu_nlt {x y : Int32} (h : y ≤ x) : ¬ x < y := by
  rw [zf_ile] at h; rw [zf_ilt]; omega
theorem zf_ct_t {p : Nat → Bool} {n : Nat} (h : p n = true) : zf_ct p (n + 1) = zf_ct p n + 1 := by
  show zf_ct p n + (if p n = true then 1 else 0) = _
  rw [h]; rfl
theorem zf_ct_f {p : Nat → Bool} {n : Nat} (h : p n = false) : zf_ct p (n + 1) = zf_ct p n := by
  show zf_ct p n + (if p n = true then 1 else 0) = _
  rw [h]; rfl
theorem zn_half {a : Nat} (h : a < 2 ^ 31) : nI a >>> (nI 1 &&& 31) = nI (a / 2) := zn_shr (k := 1) h (by decide)
theorem zn_bit {t n : Nat} (ht : t < 256) : nI (t / 2 ^ n) &&& nI 1 = nI (t / 2 ^ n % 2) := zn_mask (k := 1) (by have := Nat.div_le_self t (2 ^ n); omega) (by decide)
theorem zt_fu {half fl : Nat} (h0 : 0 < half) (hf : half < 2 ^ fl) : ∃ f, fl = f + 1 ∧ half / 2 < 2 ^ f := by
  cases fl with
  | zero => simp at hf; omega
  | succ f => exact ⟨f, rfl, by rw [Nat.pow_succ] at hf; omega⟩
theorem zt_pt_0 {tb : Nat → Bool} {fl node fr : Nat} : zt_pt tb fl 0 node fr = fr := by cases fl <;> rfl
theorem zt_pa_0 {pl fl node : Nat} {tb : Nat → Bool} : zt_pa pl fl 0 node tb = tb := by cases fl <;> rfl
theorem zt_mt_0 {pl fl node fr : Nat} {tb : Nat → Bool} : zt_mt pl fl 0 node fr tb = tb := by cases fl <;> rfl
theorem zt_pt_s {t fl half node fr : Nat} (h0 : 0 < half) (hf : half < 2 ^ fl) : zt_pt (zt_b t) fl half node fr = zt_pt (zt_b t) (fl - 1) (half / 2) (2 * node + t / 2 ^ node % 2) (fr + t / 2 ^ node % 2 * half) := by
  obtain ⟨f, rfl, -⟩ := zt_fu h0 hf
  rw [Nat.add_sub_cancel]
  conv => lhs; unfold zt_pt
  rw [if_neg (by omega)]
  rcases Nat.mod_two_eq_zero_or_one (t / 2 ^ node) with q | q
  · rw [if_neg (by simp [zt_b, q]), q]; simp
  · rw [if_pos (by simp [zt_b, q]), q]; simp
theorem zt_pt_t {tb : Nat → Bool} {fl half node fr : Nat} (h0 : 0 < half) (hf : half < 2 ^ fl) (hb : tb node = true) : zt_pt tb fl half node fr = zt_pt tb (fl - 1) (half / 2) (2 * node + 1) (fr + half) := by
  obtain ⟨f, rfl, -⟩ := zt_fu h0 hf
  rw [Nat.add_sub_cancel]
  conv => lhs; unfold zt_pt
  rw [if_neg (by omega), if_pos hb]
theorem zt_pt_f {tb : Nat → Bool} {fl half node fr : Nat} (h0 : 0 < half) (hf : half < 2 ^ fl) (hb : tb node = false) : zt_pt tb fl half node fr = zt_pt tb (fl - 1) (half / 2) (2 * node) fr := by
  obtain ⟨f, rfl, -⟩ := zt_fu h0 hf
  rw [Nat.add_sub_cancel]
  conv => lhs; unfold zt_pt
  rw [if_neg (by omega), if_neg (by rw [hb]; decide)]
theorem zt_pa_t {pl t fl half node : Nat} (h0 : 0 < half) (hf : half < 2 ^ fl) (hb : pl / half % 2 = 1) (ht : t < 256) (hn : node < 8) : zt_pa pl fl half node (zt_b t) = zt_pa pl (fl - 1) (half / 2) (2 * node + 1) (zt_b (zt_c t node)) := by
  obtain ⟨f, rfl, -⟩ := zt_fu h0 hf
  rw [Nat.add_sub_cancel, (zt_cb ht hn).2]
  conv => lhs; unfold zt_pa
  rw [if_neg (by omega), if_pos hb]
theorem zt_pa_f {pl t fl half node : Nat} (h0 : 0 < half) (hf : half < 2 ^ fl) (hb : ¬ pl / half % 2 = 1) (ht : t < 256) (hn : node < 8) : zt_pa pl fl half node (zt_b t) = zt_pa pl (fl - 1) (half / 2) (2 * node) (zt_b (zt_s t node)) := by
  obtain ⟨f, rfl, -⟩ := zt_fu h0 hf
  rw [Nat.add_sub_cancel, (zt_sb ht hn).2]
  conv => lhs; unfold zt_pa
  rw [if_neg (by omega), if_neg hb]
theorem zt_mt_t {pl fl half node fr : Nat} {tb : Nat → Bool} (h0 : 0 < half) (hf : half < 2 ^ fl) (hb : fr + half ≤ pl) : zt_mt pl fl half node fr tb = zt_mt pl (fl - 1) (half / 2) (2 * node + 1) (fr + half) (fun j => if j = node then false else tb j) := by
  obtain ⟨f, rfl, -⟩ := zt_fu h0 hf
  rw [Nat.add_sub_cancel]
  conv => lhs; unfold zt_mt
  rw [if_neg (by omega), if_pos hb]
theorem zt_mt_f {pl fl half node fr : Nat} {tb : Nat → Bool} (h0 : 0 < half) (hf : half < 2 ^ fl) (hb : ¬ fr + half ≤ pl) : zt_mt pl fl half node fr tb = zt_mt pl (fl - 1) (half / 2) (2 * node) fr (fun j => if j = node then true else tb j) := by
  obtain ⟨f, rfl, -⟩ := zt_fu h0 hf
  rw [Nat.add_sub_cancel]
  conv => lhs; unfold zt_mt
  rw [if_neg (by omega), if_neg hb]
theorem zt_hf {half fl : Nat} (h0 : 0 < half) (hf : half < 2 ^ fl) : half / 2 < 2 ^ (fl - 1) := by
  obtain ⟨f, rfl, h⟩ := zt_fu h0 hf
  rw [Nat.add_sub_cancel]; exact h
/-- half and node of a tree of at most 8 places -/
def zt_ok (half node : Nat) : Prop := half = 0 ∨ (half = 1 ∧ node ≤ 7) ∨ (half = 2 ∧ node ≤ 3) ∨ (half = 3 ∧ node ≤ 1) ∨ (half = 4 ∧ node ≤ 1)
theorem zt_ok_n {half node b : Nat} (h : zt_ok half node) (h0 : 0 < half) (hb : b ≤ 1) : zt_ok (half / 2) (2 * node + b) := by
  unfold zt_ok at h ⊢
  omega
theorem zt_ok_8 {half node : Nat} (h : zt_ok half node) (h0 : 0 < half) : node < 8 ∧ half ≤ 4 := by
  unfold zt_ok at h
  omega
theorem zt_ok_l {half node : Nat} (h : zt_ok half node) : half ≤ 4 := by
  unfold zt_ok at h
  omega
/-- which block goes, and what is counted -/
def zc_bi (wy kd : Nat) (gb gs gd : Nat → Int32) (tb : Nat → Bool) (pl : Nat) (vi wb vi2 wb2 : Int32) : Prop :=
  pl < wy ∧ ((zf_FP gb wy (-1) (nI pl) ∧ vi2 = vi ∧ wb2 = wb) ∨ (zf_FP gb wy (-1) (-1) ∧ ((kd = 2 ∧ pl = zt_pt tb 4 (wy / 2) 1 0) ∨ (kd ≠ 2 ∧ zf_AM gs wy pl)) ∧ vi2 = vi + 1 ∧ ((gd pl = 0 ∧ wb2 = wb) ∨ (¬ gd pl = 0 ∧ wb2 = wb + 1))))
theorem zf_FP_lt {g : Nat → Int32} {n : Nat} {b : Int32} {r : Int32} (h : zf_FP g n b r) (hr : ¬ r = -1) : ∃ k, k < n ∧ r = nI k := by
  rcases h with ⟨k, h1, h2, -⟩ | ⟨h1, -⟩
  · exact ⟨k, h1, h2⟩
  · exact absurd h1 hr
theorem zn_m1 {k : Nat} (h : k < 2 ^ 31) : ¬ nI k = -1 := by
  intro e
  have h1 := nI_toInt h
  rw [e] at h1
  have h2 : (-1 : Int32).toInt = -1 := by decide
  omega
theorem zu_bit {h : Nat} (hh : h ≤ 1) : nI h = 0 ∨ nI h = 1 := by
  rcases (show h = 0 ∨ h = 1 by omega) with z | z
  · subst z; exact Or.inl rfl
  · subst z; exact Or.inr rfl
theorem zu_ix {a wy : Nat} (ha : a < 16) (hw : wy ≤ 8) : a * wy + wy ≤ 128 := by
  have h1 : (a + 1) * wy ≤ 16 * 8 := Nat.mul_le_mul (by omega) hw
  rw [Nat.add_mul, Nat.one_mul] at h1
  exact h1
theorem zu_set {x sb : Nat} (h : sb ≤ 4) : x % 2 ^ sb < 16 := by
  have h1 : 2 ^ sb ≤ 2 ^ 4 := Nat.pow_le_pow_right (by decide) h
  have h2 := Nat.mod_lt x (show 0 < 2 ^ sb from Nat.two_pow_pos sb)
  omega
def zq_mk (a b c d e : Nat) : Nat → Nat := fun k => match k with
  | 0 => a
  | 1 => b
  | 2 => c
  | 3 => d
  | _ => e
end
section
/-! PURE ROWS 6: the row's loops -/
def zr_ob (q : Nat → Nat) (n : Nat) : va_E := .inr (1, [.ref (q 1), .int (nI n), .ref (q 2), .ref (q 3), .ref (q 4)])
theorem zu_app {f : Nat → Int32} {b : Nat → Nat} {k : Nat} {v : Int32} (h : ∀ j, j < k → f (b j) = v) : ∀ j, j < k + 1 → upd f (b k) v (b j) = v := by
  intro j hj
  by_cases q : b j = b k
  · rw [q]; exact pk_us
  · rw [pk_un q]
    refine h j ?_
    rcases Nat.lt_or_ge j k with z | z
    · exact z
    · exact absurd (by rw [show j = k by omega]) q
theorem zn_pm (x : Int32) : x + Int32.ofInt (-1) = x - nI 1 := by
  show x + (-1) = x - 1
  rw [Int32.sub_eq_add_neg]
theorem zn_k0 {k : Nat} (h : ¬ nI k - nI 1 < 0) : 0 < k := by
  rcases Nat.eq_zero_or_pos k with z | z
  · subst z; exact absurd (by decide) h
  · exact z
theorem zn_k1 {k : Nat} (hk : k < 2 ^ 31) (h : nI k - nI 1 < 0) : k = 0 := by
  rcases Nat.eq_zero_or_pos k with z | z
  · exact z
  · exact absurd h (by rw [pk_sub z]; exact nI_pos (by omega))
/-- u is the first use of the block x from k on, 400 if there is none -/
def zx_FU (n : Nat) (bk : Nat → Nat) (k x u : Nat) : Prop :=
  (k ≤ u ∧ u < n ∧ bk u = x ∧ ∀ i, k ≤ i → i < u → bk i ≠ x) ∨ (u = 400 ∧ ∀ i, k ≤ i → i < n → bk i ≠ x)
theorem zx_FU_NX {n : Nat} {bk : Nat → Nat} {k u : Nat} (hk : 0 < k) (h : zx_FU n bk k (bk (k - 1)) u) : zx_NX n bk (k - 1) u := by
  rcases h with ⟨h1, h2, h3, h4⟩ | ⟨h1, h2⟩
  · exact Or.inl ⟨by omega, h2, h3, fun i a b => h4 i (by omega) b⟩
  · exact Or.inr ⟨h1, fun i a b => h2 i (by omega) b⟩
theorem zx_FU_s {n : Nat} {bk : Nat → Nat} {ff : Nat → Int32} {k : Nat} (hk : 0 < k) (hn : k ≤ n) (h : ∀ j, j < n → ∃ u, ff (bk j) = nI u ∧ zx_FU n bk k (bk j) u) :
    ∀ j, j < n → ∃ u, upd ff (bk (k - 1)) (nI (k - 1)) (bk j) = nI u ∧ zx_FU n bk (k - 1) (bk j) u := by
  intro j hj
  by_cases q : bk j = bk (k - 1)
  · rw [q]
    exact ⟨k - 1, pk_us, Or.inl ⟨Nat.le_refl _, by omega, rfl, fun i a b => by omega⟩⟩
  · rw [pk_un q]
    obtain ⟨u, h1, h2⟩ := h j hj
    refine ⟨u, h1, ?_⟩
    rcases h2 with ⟨a1, a2, a3, a4⟩ | ⟨a1, a2⟩
    · refine Or.inl ⟨by omega, a2, a3, fun i b1 b2 => ?_⟩
      rcases Nat.lt_or_ge i k with z | z
      · rw [show i = k - 1 by omega]; exact fun e => q e.symm
      · exact a4 i z b2
    · refine Or.inr ⟨a1, fun i b1 b2 => ?_⟩
      rcases Nat.lt_or_ge i k with z | z
      · rw [show i = k - 1 by omega]; exact fun e => q e.symm
      · exact a2 i z b2
theorem zx_nx_s {n : Nat} {bk : Nat → Nat} {fn : Nat → Int32} {k u : Nat} (hk : 0 < k) (h : ∀ i, k ≤ i → i < n → ∃ u, fn i = nI u ∧ zx_NX n bk i u) (hu : zx_FU n bk k (bk (k - 1)) u) :
    ∀ i, k - 1 ≤ i → i < n → ∃ w, upd fn (k - 1) (nI u) i = nI w ∧ zx_NX n bk i w := by
  intro i a b
  by_cases q : i = k - 1
  · rw [q]; exact ⟨u, pk_us, zx_FU_NX hk hu⟩
  · rw [pk_un q]; exact h i (by omega) b
theorem zx_ch {n : Nat} {bk : Nat → Nat} {fn : Nat → Int32} (h : ∀ i, i < n → ∃ u, fn i = nI u ∧ zx_NX n bk i u) : ∃ nx : Nat → Nat, ∀ i, i < n → fn i = nI (nx i) ∧ zx_NX n bk i (nx i) := by
  have h0 : ∀ i : Nat, ∃ u : Nat, i < n → fn i = nI u ∧ zx_NX n bk i u := by
    intro i
    by_cases q : i < n
    · obtain ⟨u, hu⟩ := h i q
      exact ⟨u, fun _ => hu⟩
    · exact ⟨0, fun z => absurd z q⟩
  exact Classical.axiomOfChoice h0
/-- a row of lines -/
def zl_at (f : Nat → Int32) (Ls : List Nat) : Prop := ∀ j, j < Ls.length → f j = nI (Ls.getD j 0) ∧ Ls.getD j 0 ≤ 400
theorem zl_g {Ls : List Nat} {j : Nat} (h : j < Ls.length) : Ls[j]? = some (Ls.getD j 0) := by
  rw [List.getElem?_eq_getElem h]; simp [h]
theorem zl_found {f : Nat → Int32} {Ls : List Nat} {i l : Nat} (hf : zl_at f Ls) (hi : i < 400) (hL : Ls.length ≤ 64) (hl : l < Ls.length) (hfp : zf_FP f Ls.length (nI i) (nI l)) : Ls[l]? = some i := by
  rcases hfp with ⟨k, h1, h2, h3, -⟩ | ⟨h1, -⟩
  · have hkl : l = k := (nI_eq (by omega) (by omega)).mp h2
    subst hkl
    rw [(hf l h1).1] at h3
    have := (nI_eq (by have := (hf l h1).2; omega) (by omega)).mp h3
    rw [zl_g h1, this]
  · exact absurd h1 (zn_m1 (by omega))
theorem zl_none {f : Nat → Int32} {Ls : List Nat} {i : Nat} (hf : zl_at f Ls) (hL : Ls.length ≤ 64) (hfp : zf_FP f Ls.length (nI i) (-1)) : i ∉ Ls := by
  intro hm
  obtain ⟨j, hj, e⟩ := List.getElem_of_mem hm
  have e2 : Ls.getD j 0 = i := by simp [hj, e]
  rcases hfp with ⟨k, h1, h2, -⟩ | ⟨-, h2⟩
  · exact absurd h2.symm (zn_m1 (by omega))
  · exact h2 j hj (by rw [(hf j hj).1, e2])
theorem zl_max {f : Nat → Int32} {Ls : List Nat} {l : Nat} (hf : zl_at f Ls) (hax : zf_AX f Ls.length l) : ∃ v, Ls[l]? = some v ∧ ∀ w ∈ Ls, w ≤ v := by
  obtain ⟨h1, h2, -⟩ := hax
  refine ⟨Ls.getD l 0, zl_g h1, fun w hw => ?_⟩
  obtain ⟨j, hj, e⟩ := List.getElem_of_mem hw
  have e2 : Ls.getD j 0 = w := by simp [hj, e]
  have h3 := h2 j hj
  rw [(hf l h1).1, (hf j hj).1, e2] at h3
  have a1 := (hf l h1).2
  have a2 := (hf j hj).2
  rw [e2] at a2
  rcases Nat.lt_or_ge (Ls.getD l 0) w with z | z
  · exact absurd ((nI_ltI (by omega) (by omega)).mpr z) h3
  · exact z
theorem zl_er {Ls : List Nat} {l j : Nat} (hj : j < (Ls.eraseIdx l).length) : (Ls.eraseIdx l).getD j 0 = if j < l then Ls.getD j 0 else Ls.getD (j + 1) 0 := by
  have h1 : (Ls.eraseIdx l)[j]? = if j < l then Ls[j]? else Ls[j + 1]? := by
    rw [List.getElem?_eraseIdx]
  rw [List.getD_eq_getElem?_getD, h1]
  split
  · rw [List.getD_eq_getElem?_getD]
  · rw [List.getD_eq_getElem?_getD]
theorem zl_front {f f2 : Nat → Int32} {Ls : List Nat} {l u : Nat} (hf : zl_at f Ls) (hu : u ≤ 400) (hl : l ≤ Ls.length) (b0 : f2 0 = nI u) (b1 : ∀ j, j < l → f2 (j + 1) = f j) (b2 : ∀ j, l < j → f2 j = f j) : zl_at f2 (u :: Ls.eraseIdx l) := by
  intro j hj
  cases j with
  | zero => exact ⟨b0, hu⟩
  | succ j =>
    rw [List.length_cons] at hj
    have hj1 : j < (Ls.eraseIdx l).length := by omega
    have e : (u :: Ls.eraseIdx l).getD (j + 1) 0 = (Ls.eraseIdx l).getD j 0 := rfl
    rw [e, zl_er hj1]
    have hle := List.length_eraseIdx_le Ls l
    by_cases q : j < l
    · rw [if_pos q, b1 j q]
      exact hf j (by omega)
    · rw [if_neg q, b2 (j + 1) (by omega)]
      refine hf (j + 1) ?_
      rcases Nat.lt_or_ge l Ls.length with z | z
      · rw [List.length_eraseIdx_of_lt z] at hj1; omega
      · omega
theorem zl_len {Ls : List Nat} {l : Nat} (hl : l < Ls.length) : Ls.length = (Ls.eraseIdx l).length + 1 := by
  rw [List.length_eraseIdx_of_lt hl]; omega
end
section
/-! PURE ROWS 7: the reference's loops -/
def zm_ob (q : Nat → Nat) (th n lc kp : Nat) : va_E := .inr (3, [.int (nI th), .int (nI n), .ref (q 1), .ref (q 2), .ref (q 3), .ref (q 4), .ref (q 5), .ref (q 6), .ref (q 7), .ref (q 8), .ref (q 9), .ref (q 10), .ref (q 11), .ref (q 12), .ref (q 13), .ref (q 14), .ref (q 15), .int (nI lc), .ref (q 16), .ref (q 17), .int (nI kp), .ref (q 18)])
def zm_in (h : Nat) (v lo hi : Int32) : Prop := (h = 1 ∧ ¬ v < lo ∧ ¬ hi < v) ∨ (h = 0 ∧ (v < lo ∨ hi < v))
theorem zm_inT {h : Nat} {v lo hi : Int32} (hf : zm_in h v lo hi) (h1 : ¬ v < lo) (h2 : ¬ hi < v) : ¬ h = 0 := by
  rcases hf with ⟨z, -⟩ | ⟨-, z | z⟩
  · omega
  · exact absurd z h1
  · exact absurd z h2
theorem zm_inN {h : Nat} {v : Int32} {lo hi : Nat} (hlo : lo < 2 ^ 31) (hhi : hi < 2 ^ 31) (hf : zm_in h v (nI lo) (nI hi)) (h0 : 0 < h) : ∃ k, lo ≤ k ∧ k ≤ hi ∧ v = nI k := by
  rcases hf with ⟨-, z1, z2⟩ | ⟨z, -⟩
  · have h3 : ¬ v < 0 := by
      rw [zf_ilt] at z1 ⊢
      rw [nI_toInt hlo] at z1
      have : (0 : Int32).toInt = 0 := by decide
      omega
    obtain ⟨k, hk, rfl⟩ := nI_of h3
    refine ⟨k, ?_, ?_, rfl⟩
    · rcases Nat.lt_or_ge k lo with q | q
      · exact absurd ((nI_ltI hk hlo).mpr q) z1
      · exact q
    · rcases Nat.lt_or_ge hi k with q | q
      · exact absurd ((nI_ltI hhi hk).mpr q) z2
      · exact q
  · omega
theorem zm_in1 {h : Nat} {lo hi k : Nat} (hlo : lo < 2 ^ 31) (hhi : hi < 2 ^ 31) (hk : k < 2 ^ 31) (hf : zm_in h (nI k) (nI lo) (nI hi)) : (0 < h ↔ lo ≤ k ∧ k ≤ hi) ∧ h ≤ 1 := by
  rcases hf with ⟨z, z1, z2⟩ | ⟨z, z1⟩
  · rw [nI_ltI hk hlo] at z1
    rw [nI_ltI hhi hk] at z2
    omega
  · rw [nI_ltI hk hlo, nI_ltI hhi hk] at z1
    omega
theorem zm_in0 {h : Nat} {v : Int32} {lo hi : Nat} (hlo : lo < 2 ^ 31) (hhi : hi < 2 ^ 31) (hf : zm_in h v (nI lo) (nI hi)) (h0 : h = 0) : ∀ k, lo ≤ k → k ≤ hi → v ≠ nI k := by
  intro k a b e
  rcases hf with ⟨z, -⟩ | ⟨-, z⟩
  · omega
  · rw [e, nI_ltI (by omega) hlo, nI_ltI hhi (by omega)] at z
    omega
/-- a block of places is filled -/
def zu_Bk (f f1 : Nat → Int32) (o k : Nat) (v : Int32) : Prop := (∀ j, j < k → f1 (o + j) = v) ∧ ∀ j, (j < o ∨ o + k ≤ j) → f1 j = f j
theorem zu_B0 {f : Nat → Int32} {o : Nat} {v : Int32} : zu_Bk f f o 0 v := ⟨fun j h => by omega, fun _ _ => rfl⟩
theorem zu_Bs {f f1 : Nat → Int32} {o k : Nat} {v : Int32} (h : zu_Bk f f1 o k v) : zu_Bk f (upd f1 (o + k) v) o (k + 1) v := by
  refine ⟨fun j hj => ?_, fun j hj => ?_⟩
  · by_cases q : j = k
    · rw [q]; exact pk_us
    · rw [pk_un (by omega)]; exact h.1 j (by omega)
  · rw [pk_un (by omega)]; exact h.2 j (by omega)
/-- the first place from k on -/
def zf_FR (g : Nat → Int32) (k n : Nat) (b r : Int32) : Prop :=
  (∃ m, k ≤ m ∧ m < n ∧ r = nI m ∧ g m = b ∧ ∀ j, k ≤ j → j < m → g j ≠ b) ∨ (r = -1 ∧ ∀ j, k ≤ j → j < n → g j ≠ b)
theorem zf_FR_0 {g : Nat → Int32} {n : Nat} {b : Int32} : zf_FR g n n b (-1) := Or.inr ⟨rfl, fun j a c => by omega⟩
theorem zf_FR_t {g : Nat → Int32} {k n : Nat} {b : Int32} (hk : 0 < k) (hn : k ≤ n) (h : g (k - 1) = b) : zf_FR g (k - 1) n b (nI (k - 1)) := Or.inl ⟨k - 1, Nat.le_refl _, by omega, rfl, h, fun j a c => by omega⟩
theorem zf_FR_f {g : Nat → Int32} {k n : Nat} {b r : Int32} (hk : 0 < k) (h : ¬ g (k - 1) = b) (hr : zf_FR g k n b r) : zf_FR g (k - 1) n b r := by
  rcases hr with ⟨m, h1, h2, h3, h4, h5⟩ | ⟨h1, h2⟩
  · refine Or.inl ⟨m, by omega, h2, h3, h4, fun j a c => ?_⟩
    rcases Nat.lt_or_ge j k with z | z
    · rw [show j = k - 1 by omega]; exact h
    · exact h5 j z c
  · refine Or.inr ⟨h1, fun j a c => ?_⟩
    rcases Nat.lt_or_ge j k with z | z
    · rw [show j = k - 1 by omega]; exact h
    · exact h2 j z c
theorem zf_FR_P {g : Nat → Int32} {n : Nat} {b r : Int32} (h : zf_FR g 0 n b r) : zf_FP g n b r := by
  rcases h with ⟨m, -, h2, h3, h4, h5⟩ | ⟨h1, h2⟩
  · exact Or.inl ⟨m, h2, h3, h4, fun j c => h5 j (by omega) c⟩
  · exact Or.inr ⟨h1, fun j c => h2 j (by omega) c⟩
/-- the picture of a tree in the reference -/
def zm_tb (gp : Nat → Int32) (o : Nat) : Nat → Bool := fun j => decide (gp (o + j) ≠ 0)
theorem zm_tb1 {gp : Nat → Int32} {o n : Nat} : zm_tb (upd gp (o + n) (nI 1)) o = fun j => if j = n then true else zm_tb gp o j := by
  funext j
  by_cases q : j = n
  · rw [if_pos q, q]; simp only [zm_tb, pk_us]; decide
  · rw [if_neg q]; simp only [zm_tb]; rw [pk_un (by omega)]
theorem zm_tb0 {gp : Nat → Int32} {o n : Nat} : zm_tb (upd gp (o + n) (nI 0)) o = fun j => if j = n then false else zm_tb gp o j := by
  funext j
  by_cases q : j = n
  · rw [if_pos q, q]; simp only [zm_tb, pk_us]; decide
  · rw [if_neg q]; simp only [zm_tb]; rw [pk_un (by omega)]
def zm_gs (kd o : Nat) (gl gc : Nat → Int32) : Nat → Int32 := fun j => if kd = 0 then gl (o + j) else gc (o + j)
theorem zm_gs0 {kd o : Nat} {gl gc : Nat → Int32} (h : kd = 0) : zm_gs kd o gl gc = fun j => gl (o + j) := by funext j; simp [zm_gs, h]
theorem zm_gs1 {kd o : Nat} {gl gc : Nat → Int32} (h : 0 < kd) : zm_gs kd o gl gc = fun j => gc (o + j) := by funext j; simp [zm_gs, show kd ≠ 0 by omega]
def zm_cp (gb gd : Nat → Int32) (o dz : Nat) : Nat → Bool := fun j => decide (¬ gb (o + j) < 0 ∧ (dz = 0 ∨ ¬ gd (o + j) = 0))
def zm_rf (o1 o2 o3 t : Nat) : Prop := (0 < o1 ∧ t = 1) ∨ (o1 = 0 ∧ 0 < o2 ∧ t = 2) ∨ (o1 = 0 ∧ o2 = 0 ∧ 0 < o3 ∧ t = 3) ∨ (o1 = 0 ∧ o2 = 0 ∧ o3 = 0 ∧ t = 0)
end
section
/-! PURE ROWS 8: signs of places -/
theorem zf_FP_neg {g : Nat → Int32} {n : Nat} {b r : Int32} (hn : n < 2 ^ 31) (h : zf_FP g n b r) (hr : r < 0) : r = -1 := by
  rcases h with ⟨k, h1, h2, -⟩ | ⟨h1, -⟩
  · rw [h2] at hr; exact absurd hr (nI_pos (by omega))
  · exact h1
theorem zf_FP_pos {g : Nat → Int32} {n : Nat} {b r : Int32} (h : zf_FP g n b r) (hr : ¬ r < 0) : ∃ k, k < n ∧ r = nI k := by
  rcases h with ⟨k, h1, h2, -⟩ | ⟨h1, -⟩
  · exact ⟨k, h1, h2⟩
  · rw [h1] at hr; exact absurd (by decide) hr
theorem zm_cp_t {gb gd : Nat → Int32} {o dz j : Nat} (h1 : ¬ gb (o + j) < 0) (h2 : dz = 0 ∨ ¬ gd (o + j) = 0) : zm_cp gb gd o dz j = true := by
  simp only [zm_cp, decide_eq_true_eq]; exact ⟨h1, h2⟩
theorem zm_cp_f {gb gd : Nat → Int32} {o dz j : Nat} (h : gb (o + j) < 0 ∨ (0 < dz ∧ gd (o + j) = 0)) : zm_cp gb gd o dz j = false := by
  simp only [zm_cp, decide_eq_false_iff_not]
  rintro ⟨h1, h2⟩
  rcases h with h | ⟨h3, h4⟩
  · exact h1 h
  · rcases h2 with h2 | h2
    · omega
    · exact h2 h4
end
section
/-! PURE ROWS 9: the reference's curve and best -/
theorem zx_ex (n : Nat) (bk : Nat → Nat) (i : Nat) : ∃ j, zx_NX n bk i j := by
  by_cases h : ∃ k, i < k ∧ k < n ∧ bk k = bk i
  · obtain ⟨k, ⟨h1, h2, h3⟩, h4⟩ := pk_least (fun k => i < k ∧ k < n ∧ bk k = bk i) h
    exact ⟨k, Or.inl ⟨h1, h2, h3, fun j a b e => h4 j b ⟨a, by omega, e⟩⟩⟩
  · exact ⟨400, Or.inr ⟨rfl, fun k a b e => h ⟨k, a, b, e⟩⟩⟩
theorem zx_NX_u {n : Nat} {bk : Nat → Nat} {i j j' : Nat} (h : zx_NX n bk i j) (h' : zx_NX n bk i j') : j = j' := by
  rcases h with ⟨h1, h2, h3, h4⟩ | ⟨h1, h2⟩ <;> rcases h' with ⟨k1, k2, k3, k4⟩ | ⟨k1, k2⟩
  · rcases Nat.lt_trichotomy j j' with z | z | z
    · exact absurd h3 (k4 j h1 z)
    · exact z
    · exact absurd k3 (h4 j' k1 z)
  · exact absurd h3 (k2 j h1 h2)
  · exact absurd k3 (h2 j' k1 k2)
  · omega
theorem zx_all (n : Nat) (bk : Nat → Nat) : ∃ nx : Nat → Nat, ∀ i, zx_NX n bk i (nx i) := Classical.axiomOfChoice (zx_ex n bk)
theorem zb_R_c {li : Nat} {nx nx' : Nat → Nat} : ∀ (t : Nat) (E : List Nat) (c : Nat), (∀ i, i < t → nx i = nx' i) → zb_R li nx t E c → zb_R li nx' t E c
  | 0, E, c, _, h => h
  | t + 1, E, c, hx, ⟨E0, c0, h1, h2⟩ => by
    have e : zb_in nx t E0 = zb_in nx' t E0 := by
      unfold zb_in
      by_cases q : 0 < t
      · rw [hx (t - 1) (by omega)]
      · rw [if_neg (fun z => q z.1), if_neg (fun z => q z.1)]
    refine ⟨E0, c0, zb_R_c t E0 c0 (fun i hi => hx i (by omega)) h1, ?_⟩
    rw [← e]; exact h2
/-- a first place, or any -/
def zf_FA (g : Nat → Int32) (k : Nat) (b f : Int32) : Prop := (∃ m, m < k ∧ f = nI m ∧ g m = b) ∨ (f = -1 ∧ ∀ j, j < k → g j ≠ b)
theorem zf_FA_0 {g : Nat → Int32} {b : Int32} : zf_FA g 0 b (-1) := Or.inr ⟨rfl, fun j h => by omega⟩
theorem zf_FA_t {g : Nat → Int32} {k : Nat} {b : Int32} (h : g k = b) : zf_FA g (k + 1) b (nI k) := Or.inl ⟨k, by omega, rfl, h⟩
theorem zf_FA_f {g : Nat → Int32} {k : Nat} {b f : Int32} (h : ¬ g k = b) (hf : zf_FA g k b f) : zf_FA g (k + 1) b f := by
  rcases hf with ⟨m, h1, h2, h3⟩ | ⟨h1, h2⟩
  · exact Or.inl ⟨m, by omega, h2, h3⟩
  · refine Or.inr ⟨h1, fun j hj => ?_⟩
    rcases Nat.lt_or_ge j k with z | z
    · exact h2 j z
    · rw [show j = k by omega]; exact h
theorem zf_FA_pos {g : Nat → Int32} {k : Nat} {b f : Int32} (h : zf_FA g k b f) (hf : ¬ f < 0) : ∃ m, m < k ∧ f = nI m ∧ g m = b := by
  rcases h with h | ⟨h1, -⟩
  · exact h
  · rw [h1] at hf; exact absurd (by decide) hf
theorem zf_FA_neg {g : Nat → Int32} {k : Nat} {b f : Int32} (hk : k < 2 ^ 31) (h : zf_FA g k b f) (hf : f < 0) : ∀ j, j < k → g j ≠ b := by
  rcases h with ⟨m, h1, h2, -⟩ | ⟨-, h2⟩
  · rw [h2] at hf; exact absurd hf (nI_pos (by omega))
  · exact h2
def zf_AM0 (g : Nat → Int32) (k o : Nat) : Prop := (k = 0 ∧ o = 0) ∨ zf_AM g k o
theorem zf_AM0_t {g : Nat → Int32} {k o : Nat} (h : zf_AM0 g k o) (hl : g k < g o) : zf_AM0 g (k + 1) k := by
  rcases h with ⟨rfl, rfl⟩ | h
  · rw [zf_ilt] at hl; omega
  · exact Or.inr (zf_AM_t h hl)
theorem zf_AM0_f {g : Nat → Int32} {k o : Nat} (h : zf_AM0 g k o) (hl : ¬ g k < g o) : zf_AM0 g (k + 1) o := by
  rcases h with ⟨rfl, rfl⟩ | h
  · exact Or.inr zf_AM_1
  · exact Or.inr (zf_AM_f h hl)
theorem zf_AM0_le {g : Nat → Int32} {k o : Nat} (h : zf_AM0 g k o) : o ≤ k := by
  rcases h with ⟨rfl, rfl⟩ | h
  · omega
  · have := h.1; omega
/-- the reference's lines as a list -/
def zM_at (f g : Nat → Int32) (M : List (Nat × Nat)) : Prop := ∀ j (h : j < M.length), f j = nI (M[j].1) ∧ g j = nI (M[j].2) ∧ M[j].1 < 4096 ∧ M[j].2 < 400
theorem zM_in {f g : Nat → Int32} {M : List (Nat × Nat)} {b : Nat} (hM : zM_at f g M) (hb : b < 4096) (h : ∀ j, j < M.length → f j ≠ nI b) : ∀ m ∈ M, m.1 ≠ b := by
  intro m hm e
  obtain ⟨j, hj, e2⟩ := List.getElem_of_mem hm
  exact h j hj (by rw [(hM j hj).1, e2, e])
theorem zM_hit {f g : Nat → Int32} {M : List (Nat × Nat)} {b l : Nat} (hM : zM_at f g M) (hb : b < 4096) (hl : l < M.length) (h : f l = nI b) : ∃ a, M[l]? = some (b, a) := by
  have h1 := hM l hl
  rw [h1.1] at h
  have h2 := (nI_eq (by omega) (by omega)).mp h
  exact ⟨M[l].2, by rw [List.getElem?_eq_getElem hl, ← h2]⟩
theorem zM_min {f g : Nat → Int32} {M : List (Nat × Nat)} {l : Nat} (hM : zM_at f g M) (h : zf_AM g M.length l) : ∃ v, M[l]? = some v ∧ ∀ w ∈ M, v.2 ≤ w.2 := by
  obtain ⟨h1, h2, -⟩ := h
  refine ⟨M[l], List.getElem?_eq_getElem h1, fun w hw => ?_⟩
  obtain ⟨j, hj, e⟩ := List.getElem_of_mem hw
  have h3 := h2 j hj
  have a1 := hM l h1
  have a2 := hM j hj
  rw [a1.2.1, a2.2.1] at h3
  rw [← e]
  rcases Nat.lt_or_ge (M[j].2) (M[l].2) with z | z
  · exact absurd ((nI_ltI (by omega) (by omega)).mpr z) h3
  · exact z
theorem zM_up {f g : Nat → Int32} {M : List (Nat × Nat)} {b i l : Nat} (hM : zM_at f g M) (hb : b < 4096) (hi : i < 400) (hl : l ≤ M.length) : zM_at (upd f l (nI b)) (upd g l (nI i)) (zm_up M l (b, i)) := by
  intro j hj
  unfold zm_up at hj ⊢
  by_cases q : l < M.length
  · simp only [if_pos q] at hj ⊢
    rw [List.length_set] at hj
    by_cases z : j = l
    · subst z
      rw [pk_us, pk_us]; simp; omega
    · rw [pk_un z, pk_un z]
      have e : (M.set l (b, i))[j]'(by rw [List.length_set]; exact hj) = M[j] := by rw [List.getElem_set_ne (by omega)]
      rw [e]; exact hM j hj
  · have hl2 : l = M.length := by omega
    simp only [if_neg q] at hj ⊢
    rw [List.length_append, List.length_singleton] at hj
    by_cases z : j = l
    · subst z
      rw [pk_us, pk_us]
      have e : (M ++ [(b, i)])[j]'(by simp; omega) = (b, i) := by
        rw [List.getElem_append_right (by omega)]; simp
      rw [e]; exact ⟨rfl, rfl, hb, hi⟩
    · rw [pk_un z, pk_un z]
      have e : (M ++ [(b, i)])[j]'(by simp; omega) = M[j]'(by omega) := List.getElem_append_left (by omega)
      rw [e]; exact hM j (by omega)
theorem zM_len {M : List (Nat × Nat)} {l : Nat} {x : Nat × Nat} : (zm_up M l x).length = if l < M.length then M.length else M.length + 1 := by
  unfold zm_up
  split
  · rw [List.length_set]
  · rw [List.length_append, List.length_singleton]
theorem zM_mem {M : List (Nat × Nat)} {l b a : Nat} (h : M[l]? = some (b, a)) : ∃ m ∈ M, m.1 = b := ⟨_, List.mem_of_getElem? h, rfl⟩
end
section
def rm_cc_countSets : Room := { frames := 0, cells := 0, slots := 0, locals := 0 }
set_option maxHeartbeats 4000000 in
set_option maxRecDepth 100000 in
/-- how many sets -/
theorem cc_countSets (l : Launch) (dC : Nat → ClassId) (dI : Nat → Nat → Nat) (cI cZ cO cL : ClassId) (q : Nat → Nat) (sb : Nat) (wy : Nat) (kd : Nat) (bb : Nat) (hi : Int32) (mi : Int32) (vi : Int32) (wb : Int32) (hsb : sb ≤ 4) : zz_Mi l ky_C_countSets kw_C_countSets rm_cc_countSets (dC, dI) (zz_ty cI cZ cO cL) [(q 0, zc_ob q sb wy kd bb hi mi vi wb)] [.ref (q 0)] (fun (r : Int32) (w : va_W) => w = [(q 0, zc_ob q sb wy kd bb hi mi vi wb)] ∧ (r = nI (2 ^ sb))) 0 0 := by
  refine zz_entry_i (cc := kb_C_countSets) (maxL := 1) (own := zk_RC) (by decide) rfl rfl (Nat.le_of_ble_eq_true rfl) ?_
  intro p e s m args below meth c Q hx hb hml hown hts hin hP hK A hD hA hS hret ls hl
  have hl : lv_has ls 1 [(0, .ref (q 0))] := hl
  obtain ⟨H, eH⟩ : ∃ z, z = s.heap := ⟨_, rfl⟩
  obtain ⟨locs, eL⟩ : ∃ z : List Loc, z = [] := ⟨_, rfl⟩
  rw [← eH] at hP ⊢
  have hS : va_S A s.heap H locs := by rw [eH, eL]; exact hS
  rw [← eL]
  refine lv_iconst (v := nI 1) hx hb kd_C_countSets_0 (by decide) ?_
  refine lv_aload_n hx hb kd_C_countSets_1 rfl (lv_at hl 0 rfl) ?_
  refine va_get (D := (dC, dI)) (ci := 0) (v := .int (nI sb)) (C := zk_RC) (T := zk_TC) (N := 12) hx hb hts kl_C hown hK hP 0 rfl rfl 0 (by decide) (hts _ kj_142) (fun _ h9 => h9) rfl kd_C_countSets_2 ?_
  refine lv_ishl hx hb kd_C_countSets_5 ?_
  refine zz_top (y := nI (2 ^ sb)) (zn_shl1 (by omega)) ?_
  exact hret _ _ _ _ _ _ kd_C_countSets_6 hP hD hS (⟨rfl, rfl⟩)

def rm_cc_slotOf : Room := { frames := 0, cells := 0, slots := 0, locals := 0 }
set_option maxHeartbeats 4000000 in
set_option maxRecDepth 100000 in
/-- where a place of a set lies -/
theorem cc_slotOf (l : Launch) (dC : Nat → ClassId) (dI : Nat → Nat → Nat) (cI cZ cO cL : ClassId) (q : Nat → Nat) (sb : Nat) (wy : Nat) (kd : Nat) (bb : Nat) (hi : Int32) (mi : Int32) (vi : Int32) (wb : Int32) (a : Nat) (b : Nat)  : zz_Mi l ky_C_slotOf kw_C_slotOf rm_cc_slotOf (dC, dI) (zz_ty cI cZ cO cL) [(q 0, zc_ob q sb wy kd bb hi mi vi wb)] [.ref (q 0), .int (nI a), .int (nI b)] (fun (r : Int32) (w : va_W) => w = [(q 0, zc_ob q sb wy kd bb hi mi vi wb)] ∧ (r = nI (a * wy + b))) 0 0 := by
  refine zz_entry_i (cc := kb_C_slotOf) (maxL := 3) (own := zk_RC) (by decide) rfl rfl (Nat.le_of_ble_eq_true rfl) ?_
  intro p e s m args below meth c Q hx hb hml hown hts hin hP hK A hD hA hS hret ls hl
  have hl : lv_has ls 3 [(0, .ref (q 0)), (1, .int (nI a)), (2, .int (nI b))] := hl
  obtain ⟨H, eH⟩ : ∃ z, z = s.heap := ⟨_, rfl⟩
  obtain ⟨locs, eL⟩ : ∃ z : List Loc, z = [] := ⟨_, rfl⟩
  rw [← eH] at hP ⊢
  have hS : va_S A s.heap H locs := by rw [eH, eL]; exact hS
  rw [← eL]
  refine lv_iload_n hx hb kd_C_slotOf_0 rfl (lv_at hl 1 rfl) ?_
  refine lv_aload_n hx hb kd_C_slotOf_1 rfl (lv_at hl 0 rfl) ?_
  refine va_get (D := (dC, dI)) (ci := 0) (v := .int (nI wy)) (C := zk_RC) (T := zk_TC) (N := 12) hx hb hts kl_C hown hK hP 0 rfl rfl 1 (by decide) (hts _ kj_143) (fun _ h9 => h9) rfl kd_C_slotOf_2 ?_
  refine lv_imul hx hb kd_C_slotOf_5 ?_
  refine zz_top (y := nI (a * wy)) (pk_mul _ _) ?_
  refine lv_iload_n hx hb kd_C_slotOf_6 rfl (lv_at hl 2 rfl) ?_
  refine lv_iadd hx hb kd_C_slotOf_7 ?_
  refine zz_top (y := nI (a * wy + b)) (nI_add _ _) ?_
  exact hret _ _ _ _ _ _ kd_C_slotOf_8 hP hD hS (⟨rfl, rfl⟩)

def rm_cc_blockAt : Room := { frames := 1, cells := 0, slots := 0, locals := 22 }
set_option maxHeartbeats 4000000 in
set_option maxRecDepth 100000 in
/-- the block at a place -/
theorem cc_blockAt (l : Launch) (dC : Nat → ClassId) (dI : Nat → Nat → Nat) (cI cZ cO cL : ClassId) (q : Nat → Nat) (sb : Nat) (wy : Nat) (kd : Nat) (bb : Nat) (hi : Int32) (mi : Int32) (vi : Int32) (wb : Int32) (fb : Nat → Int32) (a : Nat) (b : Nat) (hi0 : a * wy + b < 128) : zz_Mi l ky_C_blockAt kw_C_blockAt rm_cc_blockAt (dC, dI) (zz_ty cI cZ cO cL) [(q 0, zc_ob q sb wy kd bb hi mi vi wb), (q 1, .inl (cI, 128, .inl fb))] [.ref (q 0), .int (nI a), .int (nI b)] (fun (r : Int32) (w : va_W) => w = [(q 0, zc_ob q sb wy kd bb hi mi vi wb), (q 1, .inl (cI, 128, .inl fb))] ∧ (r = fb (a * wy + b))) 0 0 := by
  refine zz_entry_i (cc := kb_C_blockAt) (maxL := 3) (own := zk_RC) (by decide) rfl rfl (Nat.le_of_ble_eq_true rfl) ?_
  intro p e s m args below meth c Q hx hb hml hown hts hin hP hK A hD hA hS hret ls hl
  have hl : lv_has ls 3 [(0, .ref (q 0)), (1, .int (nI a)), (2, .int (nI b))] := hl
  obtain ⟨H, eH⟩ : ∃ z, z = s.heap := ⟨_, rfl⟩
  obtain ⟨locs, eL⟩ : ∃ z : List Loc, z = [] := ⟨_, rfl⟩
  rw [← eH] at hP ⊢
  have hS : va_S A s.heap H locs := by rw [eH, eL]; exact hS
  rw [← eL]
  refine lv_aload_n hx hb kd_C_blockAt_0 rfl (lv_at hl 0 rfl) ?_
  refine va_get (D := (dC, dI)) (ci := 0) (v := .ref (q 1)) (C := zk_RC) (T := zk_TC) (N := 12) hx hb hts kl_C hown hK hP 0 rfl rfl 4 (by decide) (hts _ kj_146) (fun _ h9 => h9) rfl kd_C_blockAt_1 ?_
  refine lv_aload_n hx hb kd_C_blockAt_4 rfl (lv_at hl 0 rfl) ?_
  refine lv_iload_n hx hb kd_C_blockAt_5 rfl (lv_at hl 1 rfl) ?_
  refine lv_iload_n hx hb kd_C_blockAt_6 rfl (lv_at hl 2 rfl) ?_
  refine zz_iV (As := [.int (nI a), .int (nI b)]) (rest := [.ref (q 1)]) (wc := [(q 0, zc_ob q sb wy kd bb hi mi vi wb)]) (wr := [(q 1, .inl (cI, 128, .inl fb))]) ⟨hx, hb, hml, hown, hts⟩ (cc_slotOf l dC dI cI cZ cO cL q sb wy kd bb hi mi vi wb a b ) (zz_cwV hts kj_219 kj_33 kj_217 kj_218 kj_3 kz_C_slotOf rfl rfl ⟨Nat.le_of_ble_eq_true rfl, Nat.le_of_ble_eq_true rfl⟩) (hP.sub [1, 0] rfl) (hD.sub [1, 0] (by decide) rfl) hK hS hA (q0 := 0) rfl rfl rfl rfl hl.1 rfl (Nat.le_of_ble_eq_true rfl) kd_C_blockAt_7 ⟨by decide, by decide⟩ (fun r9 w9 H locs hw hP hD hS => ?_)
  obtain ⟨rfl, rfl⟩ := hw
  have hP : va_P (dC, dI) zk_cl [(q 1, .inl (cI, 128, .inl fb)), (q 0, zc_ob q sb wy kd bb hi mi vi wb)] H := hP
  have hD : va_D A [(q 1, .inl (cI, 128, .inl fb)), (q 0, zc_ob q sb wy kd bb hi mi vi wb)] := hD
  refine zz_iald hx hb hK hP 0 0 rfl rfl (k := a * wy + b) hi0 (by decide) kd_C_blockAt_10 ?_
  exact hret _ _ _ _ _ _ kd_C_blockAt_11 (hP.sub [1, 0] rfl) (hD.sub [1, 0] (by decide) rfl) hS (⟨rfl, rfl⟩)

def rm_cc_isDirtyAt : Room := { frames := 1, cells := 0, slots := 0, locals := 22 }
set_option maxHeartbeats 4000000 in
set_option maxRecDepth 100000 in
/-- whether it is dirty -/
theorem cc_isDirtyAt (l : Launch) (dC : Nat → ClassId) (dI : Nat → Nat → Nat) (cI cZ cO cL : ClassId) (q : Nat → Nat) (sb : Nat) (wy : Nat) (kd : Nat) (bb : Nat) (hi : Int32) (mi : Int32) (vi : Int32) (wb : Int32) (fd : Nat → Int32) (a : Nat) (b : Nat) (hi0 : a * wy + b < 128) (hb0 : fd (a * wy + b) = 0 ∨ fd (a * wy + b) = 1) : zz_Mi l ky_C_isDirtyAt kw_C_isDirtyAt rm_cc_isDirtyAt (dC, dI) (zz_ty cI cZ cO cL) [(q 0, zc_ob q sb wy kd bb hi mi vi wb), (q 2, .inl (cZ, 128, .inl fd))] [.ref (q 0), .int (nI a), .int (nI b)] (fun (r : Int32) (w : va_W) => w = [(q 0, zc_ob q sb wy kd bb hi mi vi wb), (q 2, .inl (cZ, 128, .inl fd))] ∧ (r = fd (a * wy + b))) 0 0 := by
  refine zz_entry_z (cc := kb_C_isDirtyAt) (maxL := 3) (own := zk_RC) (by decide) rfl rfl (Nat.le_of_ble_eq_true rfl) ?_
  intro p e s m args below meth c Q hx hb hml hown hts hin hP hK A hD hA hS hret ls hl
  have hl : lv_has ls 3 [(0, .ref (q 0)), (1, .int (nI a)), (2, .int (nI b))] := hl
  obtain ⟨H, eH⟩ : ∃ z, z = s.heap := ⟨_, rfl⟩
  obtain ⟨locs, eL⟩ : ∃ z : List Loc, z = [] := ⟨_, rfl⟩
  rw [← eH] at hP ⊢
  have hS : va_S A s.heap H locs := by rw [eH, eL]; exact hS
  rw [← eL]
  refine lv_aload_n hx hb kd_C_isDirtyAt_0 rfl (lv_at hl 0 rfl) ?_
  refine va_get (D := (dC, dI)) (ci := 0) (v := .ref (q 2)) (C := zk_RC) (T := zk_TC) (N := 12) hx hb hts kl_C hown hK hP 0 rfl rfl 5 (by decide) (hts _ kj_147) (fun _ h9 => h9) rfl kd_C_isDirtyAt_1 ?_
  refine lv_aload_n hx hb kd_C_isDirtyAt_4 rfl (lv_at hl 0 rfl) ?_
  refine lv_iload_n hx hb kd_C_isDirtyAt_5 rfl (lv_at hl 1 rfl) ?_
  refine lv_iload_n hx hb kd_C_isDirtyAt_6 rfl (lv_at hl 2 rfl) ?_
  refine zz_iV (As := [.int (nI a), .int (nI b)]) (rest := [.ref (q 2)]) (wc := [(q 0, zc_ob q sb wy kd bb hi mi vi wb)]) (wr := [(q 2, .inl (cZ, 128, .inl fd))]) ⟨hx, hb, hml, hown, hts⟩ (cc_slotOf l dC dI cI cZ cO cL q sb wy kd bb hi mi vi wb a b ) (zz_cwV hts kj_219 kj_33 kj_217 kj_218 kj_3 kz_C_slotOf rfl rfl ⟨Nat.le_of_ble_eq_true rfl, Nat.le_of_ble_eq_true rfl⟩) (hP.sub [1, 0] rfl) (hD.sub [1, 0] (by decide) rfl) hK hS hA (q0 := 0) rfl rfl rfl rfl hl.1 rfl (Nat.le_of_ble_eq_true rfl) kd_C_isDirtyAt_7 ⟨by decide, by decide⟩ (fun r9 w9 H locs hw hP hD hS => ?_)
  obtain ⟨rfl, rfl⟩ := hw
  have hP : va_P (dC, dI) zk_cl [(q 2, .inl (cZ, 128, .inl fd)), (q 0, zc_ob q sb wy kd bb hi mi vi wb)] H := hP
  have hD : va_D A [(q 2, .inl (cZ, 128, .inl fd)), (q 0, zc_ob q sb wy kd bb hi mi vi wb)] := hD
  refine zz_zald hx hb hK hP 0 1 rfl rfl (k := a * wy + b) hi0 (by decide) kd_C_isDirtyAt_10 ?_
  exact hret _ _ _ _ _ _ hb0 kd_C_isDirtyAt_11 (hP.sub [1, 0] rfl) (hD.sub [1, 0] (by decide) rfl) hS (⟨rfl, rfl⟩)

def rm_cc_findPlace : Room := { frames := 2, cells := 0, slots := 0, locals := 44 }
set_option maxHeartbeats 4000000 in
set_option maxRecDepth 100000 in
/-- the first place that holds the block -/
theorem cc_findPlace (l : Launch) (dC : Nat → ClassId) (dI : Nat → Nat → Nat) (cI cZ cO cL : ClassId) (q : Nat → Nat) (sb : Nat) (wy : Nat) (kd : Nat) (bb : Nat) (hi : Int32) (mi : Int32) (vi : Int32) (wb : Int32) (fb : Nat → Int32) (a : Nat) (x : Int32) (hwy : wy ≤ 8) (hi0 : a * wy + wy ≤ 128) : zz_Mi l ky_C_findPlace kw_C_findPlace rm_cc_findPlace (dC, dI) (zz_ty cI cZ cO cL) [(q 0, zc_ob q sb wy kd bb hi mi vi wb), (q 1, .inl (cI, 128, .inl fb))] [.ref (q 0), .int (nI a), .int x] (fun (r : Int32) (w : va_W) => w = [(q 0, zc_ob q sb wy kd bb hi mi vi wb), (q 1, .inl (cI, 128, .inl fb))] ∧ (zf_FP (fun k => fb (a * wy + k)) wy x r)) 0 0 := by
  refine zz_entry_i (cc := kb_C_findPlace) (maxL := 4) (own := zk_RC) (by decide) rfl rfl (Nat.le_of_ble_eq_true rfl) ?_
  intro p e s m args below meth c Q hx hb hml hown hts hin hP hK A hD hA hS hret ls hl
  have hl : lv_has ls 4 [(0, .ref (q 0)), (1, .int (nI a)), (2, .int x)] := hl
  obtain ⟨H, eH⟩ : ∃ z, z = s.heap := ⟨_, rfl⟩
  obtain ⟨locs, eL⟩ : ∃ z : List Loc, z = [] := ⟨_, rfl⟩
  rw [← eH] at hP ⊢
  have hS : va_S A s.heap H locs := by rw [eH, eL]; exact hS
  rw [← eL]
  refine lv_iconst (v := nI 0) hx hb kd_C_findPlace_0 (by decide) ?_
  refine lv_istore_n (lv' := [(3, .int (nI 0)), (0, .ref (q 0)), (1, .int (nI a)), (2, .int x)]) hx hb kd_C_findPlace_1 rfl hl (by decide) rfl (fun ls hl => ?_)
  have hc2 : ∀ (nn : Nat), ∀ (k : Nat), wy - k < nn → (k ≤ wy) → (∀ j, j < k → fb (a * wy + j) ≠ x) → ∀ (H : Heap) (locs : List Loc), va_P (dC, dI) zk_cl [(q 0, zc_ob q sb wy kd bb hi mi vi wb), (q 1, .inl (cI, 128, .inl fb))] H → va_D A [(q 0, zc_ob q sb wy kd bb hi mi vi wb), (q 1, .inl (cI, 128, .inl fb))] → va_S A s.heap H locs → ∀ ls : Array Slot, lv_has ls 4 [(0, .ref (q 0)), (1, .int (nI a)), (2, .int x), (3, .int (nI k))] → W p l e rm_cc_findPlace s m args below meth c H locs 0 0 Q (F0 m 2 ls []) := by
    intro nn
    induction nn with
    | zero => intro k hm; exact absurd hm (Nat.not_lt_zero _)
    | succ nn ih =>
      intro k hm hk hn H locs hP hD hS ls hl
      refine lv_iload_n hx hb kd_C_findPlace_2 rfl (lv_at hl 3 rfl) ?_
      refine lv_aload_n hx hb kd_C_findPlace_3 rfl (lv_at hl 0 rfl) ?_
      refine va_get (D := (dC, dI)) (ci := 0) (v := .int (nI wy)) (C := zk_RC) (T := zk_TC) (N := 12) hx hb hts kl_C hown hK hP 0 rfl rfl 1 (by decide) (hts _ kj_143) (fun _ h9 => h9) rfl kd_C_findPlace_4 ?_
      refine zz_icmp_ge (tgt := 28) hx hb kd_C_findPlace_7 (by decide) (by omega) (by omega) (fun c7 => ?_) (fun c7 => ?_)
      · skip
        refine lv_iconst (v := (-1)) hx hb kd_C_findPlace_28 (by decide) ?_
        exact hret _ _ _ _ _ _ kd_C_findPlace_29 hP hD hS (⟨rfl, (Or.inr ⟨rfl, fun j h => hn j (by omega)⟩)⟩)
      · skip
        refine lv_aload_n hx hb kd_C_findPlace_10 rfl (lv_at hl 0 rfl) ?_
        refine lv_iload_n hx hb kd_C_findPlace_11 rfl (lv_at hl 1 rfl) ?_
        refine lv_iload_n hx hb kd_C_findPlace_12 rfl (lv_at hl 3 rfl) ?_
        refine zz_iV (As := [.int (nI a), .int (nI k)]) (rest := []) (wc := [(q 0, zc_ob q sb wy kd bb hi mi vi wb), (q 1, .inl (cI, 128, .inl fb))]) (wr := []) ⟨hx, hb, hml, hown, hts⟩ (cc_blockAt l dC dI cI cZ cO cL q sb wy kd bb hi mi vi wb fb a k (by omega)) (zz_cwV hts kj_216 kj_33 kj_213 kj_214 kj_215 kz_C_blockAt rfl rfl ⟨Nat.le_of_ble_eq_true rfl, Nat.le_of_ble_eq_true rfl⟩) hP hD hK hS hA (q0 := 0) rfl rfl rfl rfl hl.1 rfl (Nat.le_of_ble_eq_true rfl) kd_C_findPlace_13 ⟨by decide, by decide⟩ (fun r9 w9 H locs hw hP hD hS => ?_)
        obtain ⟨rfl, rfl⟩ := hw
        have hP : va_P (dC, dI) zk_cl [(q 0, zc_ob q sb wy kd bb hi mi vi wb), (q 1, .inl (cI, 128, .inl fb))] H := hP
        have hD : va_D A [(q 0, zc_ob q sb wy kd bb hi mi vi wb), (q 1, .inl (cI, 128, .inl fb))] := hD
        refine lv_iload_n hx hb kd_C_findPlace_16 rfl (lv_at hl 2 rfl) ?_
        refine lv_icmp_ne (tgt := 22) hx hb kd_C_findPlace_17 (by decide) (fun c17 => ?_) (fun c17 => ?_)
        · skip
          refine lv_iinc (v := nI (k + 1)) (lv' := [(3, .int (nI (k + 1))), (0, .ref (q 0)), (1, .int (nI a)), (2, .int x)]) hx hb kd_C_findPlace_22 hl (k := 3) rfl (by first | exact nI_1 _ | (show _ + _ = _; exact nI_1 _)) (by decide) rfl (fun ls hl => ?_)
          refine lv_goto (tgt := 2) hx hb kd_C_findPlace_25 (by decide) ?_
          exact ih (k + 1) (by omega) (by omega) (fun j h => by
            rcases Nat.lt_or_ge j k with z | z
            · exact hn j z
            · rw [show j = k by omega]; exact c17) _ _ hP hD hS ls (lv_sub hl [1, 2, 3, 0] rfl)
        · skip
          refine lv_iload_n hx hb kd_C_findPlace_20 rfl (lv_at hl 3 rfl) ?_
          exact hret _ _ _ _ _ _ kd_C_findPlace_21 hP hD hS (⟨rfl, (Or.inl ⟨k, by omega, rfl, c17, hn⟩)⟩)
  exact hc2 _ 0 (Nat.lt_succ_self _) (by omega) (fun j h => by omega) _ _ hP hD hS ls (lv_sub hl [1, 2, 3, 0] rfl)
end
section
def rm_cc_countHeld : Room := { frames := 0, cells := 0, slots := 0, locals := 0 }
set_option maxHeartbeats 4000000 in
set_option maxRecDepth 100000 in
/-- how many blocks it has -/
theorem cc_countHeld (l : Launch) (dC : Nat → ClassId) (dI : Nat → Nat → Nat) (cI cZ cO cL : ClassId) (q : Nat → Nat) (sb : Nat) (wy : Nat) (kd : Nat) (bb : Nat) (hi : Int32) (mi : Int32) (vi : Int32) (wb : Int32) (fb : Nat → Int32)  : zz_Mi l ky_C_countHeld kw_C_countHeld rm_cc_countHeld (dC, dI) (zz_ty cI cZ cO cL) [(q 0, zc_ob q sb wy kd bb hi mi vi wb), (q 1, .inl (cI, 128, .inl fb))] [.ref (q 0)] (fun (r : Int32) (w : va_W) => w = [(q 0, zc_ob q sb wy kd bb hi mi vi wb), (q 1, .inl (cI, 128, .inl fb))] ∧ (r = nI (zf_ct (fun j => decide (fb j ≠ -1)) 128))) 0 0 := by
  refine zz_entry_i (cc := kb_C_countHeld) (maxL := 3) (own := zk_RC) (by decide) rfl rfl (Nat.le_of_ble_eq_true rfl) ?_
  intro p e s m args below meth c Q hx hb hml hown hts hin hP hK A hD hA hS hret ls hl
  have hl : lv_has ls 3 [(0, .ref (q 0))] := hl
  obtain ⟨H, eH⟩ : ∃ z, z = s.heap := ⟨_, rfl⟩
  obtain ⟨locs, eL⟩ : ∃ z : List Loc, z = [] := ⟨_, rfl⟩
  rw [← eH] at hP ⊢
  have hS : va_S A s.heap H locs := by rw [eH, eL]; exact hS
  rw [← eL]
  refine lv_iconst (v := nI 0) hx hb kd_C_countHeld_0 (by decide) ?_
  refine lv_istore_n (lv' := [(1, .int (nI 0)), (0, .ref (q 0))]) hx hb kd_C_countHeld_1 rfl hl (by decide) rfl (fun ls hl => ?_)
  refine lv_iconst (v := nI 0) hx hb kd_C_countHeld_2 (by decide) ?_
  refine lv_istore_n (lv' := [(2, .int (nI 0)), (1, .int (nI 0)), (0, .ref (q 0))]) hx hb kd_C_countHeld_3 rfl hl (by decide) rfl (fun ls hl => ?_)
  have hc4 : ∀ (nn : Nat), ∀ (n : Nat) (k : Nat), 128 - k < nn → (k ≤ 128) → (n = zf_ct (fun j => decide (fb j ≠ -1)) k) → ∀ (H : Heap) (locs : List Loc), va_P (dC, dI) zk_cl [(q 0, zc_ob q sb wy kd bb hi mi vi wb), (q 1, .inl (cI, 128, .inl fb))] H → va_D A [(q 0, zc_ob q sb wy kd bb hi mi vi wb), (q 1, .inl (cI, 128, .inl fb))] → va_S A s.heap H locs → ∀ ls : Array Slot, lv_has ls 3 [(0, .ref (q 0)), (1, .int (nI n)), (2, .int (nI k))] → W p l e rm_cc_countHeld s m args below meth c H locs 0 0 Q (F0 m 4 ls []) := by
    intro nn
    induction nn with
    | zero => intro n k hm; exact absurd hm (Nat.not_lt_zero _)
    | succ nn ih =>
      intro n k hm hk hn H locs hP hD hS ls hl
      refine lv_iload_n hx hb kd_C_countHeld_4 rfl (lv_at hl 2 rfl) ?_
      refine lv_aload_n hx hb kd_C_countHeld_5 rfl (lv_at hl 0 rfl) ?_
      refine va_get (D := (dC, dI)) (ci := 0) (v := .ref (q 1)) (C := zk_RC) (T := zk_TC) (N := 12) hx hb hts kl_C hown hK hP 0 rfl rfl 4 (by decide) (hts _ kj_146) (fun _ h9 => h9) rfl kd_C_countHeld_6 ?_
      refine va_alen (v := nI 128) hx hb hK hP 1 0 rfl rfl rfl kd_C_countHeld_9 ?_
      refine zz_icmp_ge (tgt := 32) hx hb kd_C_countHeld_10 (by decide) (by omega) (by decide) (fun c10 => ?_) (fun c10 => ?_)
      · skip
        refine lv_iload_n hx hb kd_C_countHeld_32 rfl (lv_at hl 1 rfl) ?_
        exact hret _ _ _ _ _ _ kd_C_countHeld_33 hP hD hS (⟨rfl, by rw [hn, show k = 128 by omega]⟩)
      · skip
        refine lv_aload_n hx hb kd_C_countHeld_13 rfl (lv_at hl 0 rfl) ?_
        refine va_get (D := (dC, dI)) (ci := 0) (v := .ref (q 1)) (C := zk_RC) (T := zk_TC) (N := 12) hx hb hts kl_C hown hK hP 0 rfl rfl 4 (by decide) (hts _ kj_146) (fun _ h9 => h9) rfl kd_C_countHeld_14 ?_
        refine lv_iload_n hx hb kd_C_countHeld_17 rfl (lv_at hl 2 rfl) ?_
        refine zz_iald hx hb hK hP 1 0 rfl rfl (k := k) (by omega) (by decide) kd_C_countHeld_18 ?_
        refine lv_iconst (v := (-1)) hx hb kd_C_countHeld_19 (by decide) ?_
        refine lv_icmp_eq (tgt := 26) hx hb kd_C_countHeld_20 (by decide) (fun c20 => ?_) (fun c20 => ?_)
        · skip
          refine lv_iinc (v := nI (k + 1)) (lv' := [(2, .int (nI (k + 1))), (0, .ref (q 0)), (1, .int (nI n))]) hx hb kd_C_countHeld_26 hl (k := 2) rfl (by first | exact nI_1 _ | (show _ + _ = _; exact nI_1 _)) (by decide) rfl (fun ls hl => ?_)
          refine lv_goto (tgt := 4) hx hb kd_C_countHeld_29 (by decide) ?_
          exact ih n (k + 1) (by omega) (by omega) (by first | (rw [zf_ct_t (by simp [c20]), hn]; done) | (rw [zf_ct_f (by simp [c20]), hn]; done)) _ _ hP hD hS ls (lv_sub hl [1, 2, 0] rfl)
        · skip
          refine lv_iinc (v := nI (n + 1)) (lv' := [(1, .int (nI (n + 1))), (0, .ref (q 0)), (2, .int (nI k))]) hx hb kd_C_countHeld_23 hl (k := 1) rfl (by first | exact nI_1 _ | (show _ + _ = _; exact nI_1 _)) (by decide) rfl (fun ls hl => ?_)
          refine lv_iinc (v := nI (k + 1)) (lv' := [(2, .int (nI (k + 1))), (1, .int (nI (n + 1))), (0, .ref (q 0))]) hx hb kd_C_countHeld_26 hl (k := 2) rfl (by first | exact nI_1 _ | (show _ + _ = _; exact nI_1 _)) (by decide) rfl (fun ls hl => ?_)
          refine lv_goto (tgt := 4) hx hb kd_C_countHeld_29 (by decide) ?_
          exact ih (n + 1) (k + 1) (by omega) (by omega) (by first | (rw [zf_ct_t (by simp [c20]), hn]; done) | (rw [zf_ct_f (by simp [c20]), hn]; done)) _ _ hP hD hS ls (lv_sub hl [2, 1, 0] rfl)
  exact hc4 _ 0 0 (Nat.lt_succ_self _) (by omega) (rfl) _ _ hP hD hS ls (lv_sub hl [2, 1, 0] rfl)

def rm_cc_countDirty : Room := { frames := 0, cells := 0, slots := 0, locals := 0 }
set_option maxHeartbeats 4000000 in
set_option maxRecDepth 100000 in
/-- how many of them are dirty -/
theorem cc_countDirty (l : Launch) (dC : Nat → ClassId) (dI : Nat → Nat → Nat) (cI cZ cO cL : ClassId) (q : Nat → Nat) (sb : Nat) (wy : Nat) (kd : Nat) (bb : Nat) (hi : Int32) (mi : Int32) (vi : Int32) (wb : Int32) (fd : Nat → Int32)  : zz_Mi l ky_C_countDirty kw_C_countDirty rm_cc_countDirty (dC, dI) (zz_ty cI cZ cO cL) [(q 0, zc_ob q sb wy kd bb hi mi vi wb), (q 2, .inl (cZ, 128, .inl fd))] [.ref (q 0)] (fun (r : Int32) (w : va_W) => w = [(q 0, zc_ob q sb wy kd bb hi mi vi wb), (q 2, .inl (cZ, 128, .inl fd))] ∧ (r = nI (zf_ct (fun j => decide (fd j ≠ 0)) 128))) 0 0 := by
  refine zz_entry_i (cc := kb_C_countDirty) (maxL := 3) (own := zk_RC) (by decide) rfl rfl (Nat.le_of_ble_eq_true rfl) ?_
  intro p e s m args below meth c Q hx hb hml hown hts hin hP hK A hD hA hS hret ls hl
  have hl : lv_has ls 3 [(0, .ref (q 0))] := hl
  obtain ⟨H, eH⟩ : ∃ z, z = s.heap := ⟨_, rfl⟩
  obtain ⟨locs, eL⟩ : ∃ z : List Loc, z = [] := ⟨_, rfl⟩
  rw [← eH] at hP ⊢
  have hS : va_S A s.heap H locs := by rw [eH, eL]; exact hS
  rw [← eL]
  refine lv_iconst (v := nI 0) hx hb kd_C_countDirty_0 (by decide) ?_
  refine lv_istore_n (lv' := [(1, .int (nI 0)), (0, .ref (q 0))]) hx hb kd_C_countDirty_1 rfl hl (by decide) rfl (fun ls hl => ?_)
  refine lv_iconst (v := nI 0) hx hb kd_C_countDirty_2 (by decide) ?_
  refine lv_istore_n (lv' := [(2, .int (nI 0)), (1, .int (nI 0)), (0, .ref (q 0))]) hx hb kd_C_countDirty_3 rfl hl (by decide) rfl (fun ls hl => ?_)
  have hc4 : ∀ (nn : Nat), ∀ (n : Nat) (k : Nat), 128 - k < nn → (k ≤ 128) → (n = zf_ct (fun j => decide (fd j ≠ 0)) k) → ∀ (H : Heap) (locs : List Loc), va_P (dC, dI) zk_cl [(q 0, zc_ob q sb wy kd bb hi mi vi wb), (q 2, .inl (cZ, 128, .inl fd))] H → va_D A [(q 0, zc_ob q sb wy kd bb hi mi vi wb), (q 2, .inl (cZ, 128, .inl fd))] → va_S A s.heap H locs → ∀ ls : Array Slot, lv_has ls 3 [(0, .ref (q 0)), (1, .int (nI n)), (2, .int (nI k))] → W p l e rm_cc_countDirty s m args below meth c H locs 0 0 Q (F0 m 4 ls []) := by
    intro nn
    induction nn with
    | zero => intro n k hm; exact absurd hm (Nat.not_lt_zero _)
    | succ nn ih =>
      intro n k hm hk hn H locs hP hD hS ls hl
      refine lv_iload_n hx hb kd_C_countDirty_4 rfl (lv_at hl 2 rfl) ?_
      refine lv_aload_n hx hb kd_C_countDirty_5 rfl (lv_at hl 0 rfl) ?_
      refine va_get (D := (dC, dI)) (ci := 0) (v := .ref (q 2)) (C := zk_RC) (T := zk_TC) (N := 12) hx hb hts kl_C hown hK hP 0 rfl rfl 5 (by decide) (hts _ kj_147) (fun _ h9 => h9) rfl kd_C_countDirty_6 ?_
      refine va_alen (v := nI 128) hx hb hK hP 1 1 rfl rfl rfl kd_C_countDirty_9 ?_
      refine zz_icmp_ge (tgt := 31) hx hb kd_C_countDirty_10 (by decide) (by omega) (by decide) (fun c10 => ?_) (fun c10 => ?_)
      · skip
        refine lv_iload_n hx hb kd_C_countDirty_31 rfl (lv_at hl 1 rfl) ?_
        exact hret _ _ _ _ _ _ kd_C_countDirty_32 hP hD hS (⟨rfl, by rw [hn, show k = 128 by omega]⟩)
      · skip
        refine lv_aload_n hx hb kd_C_countDirty_13 rfl (lv_at hl 0 rfl) ?_
        refine va_get (D := (dC, dI)) (ci := 0) (v := .ref (q 2)) (C := zk_RC) (T := zk_TC) (N := 12) hx hb hts kl_C hown hK hP 0 rfl rfl 5 (by decide) (hts _ kj_147) (fun _ h9 => h9) rfl kd_C_countDirty_14 ?_
        refine lv_iload_n hx hb kd_C_countDirty_17 rfl (lv_at hl 2 rfl) ?_
        refine zz_zald hx hb hK hP 1 1 rfl rfl (k := k) (by omega) (by decide) kd_C_countDirty_18 ?_
        refine lv_if_eq (tgt := 25) hx hb kd_C_countDirty_19 (by decide) (fun c19 => ?_) (fun c19 => ?_)
        · skip
          refine lv_iinc (v := nI (k + 1)) (lv' := [(2, .int (nI (k + 1))), (0, .ref (q 0)), (1, .int (nI n))]) hx hb kd_C_countDirty_25 hl (k := 2) rfl (by first | exact nI_1 _ | (show _ + _ = _; exact nI_1 _)) (by decide) rfl (fun ls hl => ?_)
          refine lv_goto (tgt := 4) hx hb kd_C_countDirty_28 (by decide) ?_
          exact ih n (k + 1) (by omega) (by omega) (by first | (rw [zf_ct_t (by simp [c19]), hn]; done) | (rw [zf_ct_f (by simp [c19]), hn]; done)) _ _ hP hD hS ls (lv_sub hl [1, 2, 0] rfl)
        · skip
          refine lv_iinc (v := nI (n + 1)) (lv' := [(1, .int (nI (n + 1))), (0, .ref (q 0)), (2, .int (nI k))]) hx hb kd_C_countDirty_22 hl (k := 1) rfl (by first | exact nI_1 _ | (show _ + _ = _; exact nI_1 _)) (by decide) rfl (fun ls hl => ?_)
          refine lv_iinc (v := nI (k + 1)) (lv' := [(2, .int (nI (k + 1))), (1, .int (nI (n + 1))), (0, .ref (q 0))]) hx hb kd_C_countDirty_25 hl (k := 2) rfl (by first | exact nI_1 _ | (show _ + _ = _; exact nI_1 _)) (by decide) rfl (fun ls hl => ?_)
          refine lv_goto (tgt := 4) hx hb kd_C_countDirty_28 (by decide) ?_
          exact ih (n + 1) (k + 1) (by omega) (by omega) (by first | (rw [zf_ct_t (by simp [c19]), hn]; done) | (rw [zf_ct_f (by simp [c19]), hn]; done)) _ _ hP hD hS ls (lv_sub hl [2, 1, 0] rfl)
  exact hc4 _ 0 0 (Nat.lt_succ_self _) (by omega) (rfl) _ _ hP hD hS ls (lv_sub hl [2, 1, 0] rfl)

def rm_cc_emptyAll : Room := { frames := 0, cells := 0, slots := 0, locals := 0 }
set_option maxHeartbeats 4000000 in
set_option maxRecDepth 100000 in
/-- all of it is empty -/
theorem cc_emptyAll (l : Launch) (dC : Nat → ClassId) (dI : Nat → Nat → Nat) (cI cZ cO cL : ClassId) (q : Nat → Nat) (sb : Nat) (wy : Nat) (kd : Nat) (bb : Nat) (hi : Int32) (mi : Int32) (vi : Int32) (wb : Int32) (fb : Nat → Int32) (fd : Nat → Int32) (fs : Nat → Int32) (ft : Nat → Int32)  : zz_Mv l ky_C_emptyAll kw_C_emptyAll rm_cc_emptyAll (dC, dI) (zz_ty cI cZ cO cL) [(q 0, zc_ob q sb wy kd bb hi mi vi wb), (q 1, .inl (cI, 128, .inl fb)), (q 2, .inl (cZ, 128, .inl fd)), (q 3, .inl (cI, 128, .inl fs)), (q 4, .inl (cI, 16, .inl ft))] [.ref (q 0)] (fun (w : va_W) => ∃ (fb2 : Nat → Int32), ∃ (fd2 : Nat → Int32), ∃ (fs2 : Nat → Int32), ∃ (ft2 : Nat → Int32), w = [(q 0, zc_ob q sb wy kd bb hi mi vi wb), (q 1, .inl (cI, 128, .inl fb2)), (q 2, .inl (cZ, 128, .inl fd2)), (q 3, .inl (cI, 128, .inl fs2)), (q 4, .inl (cI, 16, .inl ft2))] ∧ (∀ j, j < 128 → fb2 j = -1) ∧ (∀ j, j < 128 → fd2 j = 0) ∧ (∀ j, j < 128 → fs2 j = 0) ∧ (∀ j, j < 16 → ft2 j = 0)) 0 0 := by
  refine zz_entry_v (cc := kb_C_emptyAll) (maxL := 2) (own := zk_RC) (by decide) rfl rfl (Nat.le_of_ble_eq_true rfl) ?_
  intro p e s m args below meth c Q hx hb hml hown hts hin hP hK A hD hA hS hret ls hl
  have hl : lv_has ls 2 [(0, .ref (q 0))] := hl
  obtain ⟨H, eH⟩ : ∃ z, z = s.heap := ⟨_, rfl⟩
  obtain ⟨locs, eL⟩ : ∃ z : List Loc, z = [] := ⟨_, rfl⟩
  rw [← eH] at hP ⊢
  have hS : va_S A s.heap H locs := by rw [eH, eL]; exact hS
  rw [← eL]
  refine lv_iconst (v := nI 0) hx hb kd_C_emptyAll_0 (by decide) ?_
  refine lv_istore_n (lv' := [(1, .int (nI 0)), (0, .ref (q 0))]) hx hb kd_C_emptyAll_1 rfl hl (by decide) rfl (fun ls hl => ?_)
  have hc2 : ∀ (nn : Nat), ∀ (k : Nat) (fb1 : Nat → Int32) (fd1 : Nat → Int32) (fs1 : Nat → Int32), 128 - k < nn → (k ≤ 128) → (∀ j, j < k → fb1 j = -1) → (∀ j, j < k → fd1 j = 0) → (∀ j, j < k → fs1 j = 0) → ∀ (H : Heap) (locs : List Loc), va_P (dC, dI) zk_cl [(q 0, zc_ob q sb wy kd bb hi mi vi wb), (q 1, .inl (cI, 128, .inl fb1)), (q 2, .inl (cZ, 128, .inl fd1)), (q 3, .inl (cI, 128, .inl fs1)), (q 4, .inl (cI, 16, .inl ft))] H → va_D A [(q 0, zc_ob q sb wy kd bb hi mi vi wb), (q 1, .inl (cI, 128, .inl fb1)), (q 2, .inl (cZ, 128, .inl fd1)), (q 3, .inl (cI, 128, .inl fs1)), (q 4, .inl (cI, 16, .inl ft))] → va_S A s.heap H locs → ∀ ls : Array Slot, lv_has ls 2 [(0, .ref (q 0)), (1, .int (nI k))] → W p l e rm_cc_emptyAll s m args below meth c H locs 0 0 Q (F0 m 2 ls []) := by
    intro nn
    induction nn with
    | zero => intro k fb1 fd1 fs1 hm; exact absurd hm (Nat.not_lt_zero _)
    | succ nn ih =>
      intro k fb1 fd1 fs1 hm hk h1 h2 h3 H locs hP hD hS ls hl
      refine lv_iload_n hx hb kd_C_emptyAll_2 rfl (lv_at hl 1 rfl) ?_
      refine lv_aload_n hx hb kd_C_emptyAll_3 rfl (lv_at hl 0 rfl) ?_
      refine va_get (D := (dC, dI)) (ci := 0) (v := .ref (q 1)) (C := zk_RC) (T := zk_TC) (N := 12) hx hb hts kl_C hown hK hP 0 rfl rfl 4 (by decide) (hts _ kj_146) (fun _ h9 => h9) rfl kd_C_emptyAll_4 ?_
      refine va_alen (v := nI 128) hx hb hK hP 1 0 rfl rfl rfl kd_C_emptyAll_7 ?_
      refine zz_icmp_ge (tgt := 38) hx hb kd_C_emptyAll_8 (by decide) (by omega) (by decide) (fun c8 => ?_) (fun c8 => ?_)
      · skip
        refine lv_iconst (v := nI 0) hx hb kd_C_emptyAll_38 (by decide) ?_
        refine lv_istore_n (lv' := [(1, .int (nI 0)), (0, .ref (q 0))]) hx hb kd_C_emptyAll_39 rfl hl (by decide) rfl (fun ls hl => ?_)
        have hc40 : ∀ (nn : Nat), ∀ (k2 : Nat) (ft1 : Nat → Int32), 16 - k2 < nn → (k2 ≤ 16) → (∀ j, j < k2 → ft1 j = 0) → ∀ (H : Heap) (locs : List Loc), va_P (dC, dI) zk_cl [(q 0, zc_ob q sb wy kd bb hi mi vi wb), (q 1, .inl (cI, 128, .inl fb1)), (q 2, .inl (cZ, 128, .inl fd1)), (q 3, .inl (cI, 128, .inl fs1)), (q 4, .inl (cI, 16, .inl ft1))] H → va_D A [(q 0, zc_ob q sb wy kd bb hi mi vi wb), (q 1, .inl (cI, 128, .inl fb1)), (q 2, .inl (cZ, 128, .inl fd1)), (q 3, .inl (cI, 128, .inl fs1)), (q 4, .inl (cI, 16, .inl ft1))] → va_S A s.heap H locs → ∀ ls : Array Slot, lv_has ls 2 [(0, .ref (q 0)), (1, .int (nI k2))] → W p l e rm_cc_emptyAll s m args below meth c H locs 0 0 Q (F0 m 40 ls []) := by
          intro nn
          induction nn with
          | zero => intro k2 ft1 hm; exact absurd hm (Nat.not_lt_zero _)
          | succ nn ih40 =>
            intro k2 ft1 hm hk2 h4 H locs hP hD hS ls hl
            refine lv_iload_n hx hb kd_C_emptyAll_40 rfl (lv_at hl 1 rfl) ?_
            refine lv_aload_n hx hb kd_C_emptyAll_41 rfl (lv_at hl 0 rfl) ?_
            refine va_get (D := (dC, dI)) (ci := 0) (v := .ref (q 4)) (C := zk_RC) (T := zk_TC) (N := 12) hx hb hts kl_C hown hK hP 0 rfl rfl 7 (by decide) (hts _ kj_149) (fun _ h9 => h9) rfl kd_C_emptyAll_42 ?_
            refine va_alen (v := nI 16) hx hb hK hP 4 0 rfl rfl rfl kd_C_emptyAll_45 ?_
            refine zz_icmp_ge (tgt := 62) hx hb kd_C_emptyAll_46 (by decide) (by omega) (by decide) (fun c46 => ?_) (fun c46 => ?_)
            · skip
              exact hret _ _ _ _ _ kd_C_emptyAll_62 hP hD hS (⟨fb1, fd1, fs1, ft1, rfl, (fun j h => h1 j (by omega)), (fun j h => h2 j (by omega)), (fun j h => h3 j (by omega)), (fun j h => h4 j (by omega))⟩)
            · skip
              refine lv_aload_n hx hb kd_C_emptyAll_49 rfl (lv_at hl 0 rfl) ?_
              refine va_get (D := (dC, dI)) (ci := 0) (v := .ref (q 4)) (C := zk_RC) (T := zk_TC) (N := 12) hx hb hts kl_C hown hK hP 0 rfl rfl 7 (by decide) (hts _ kj_149) (fun _ h9 => h9) rfl kd_C_emptyAll_50 ?_
              refine lv_iload_n hx hb kd_C_emptyAll_53 rfl (lv_at hl 1 rfl) ?_
              refine lv_iconst (v := nI 0) hx hb kd_C_emptyAll_54 (by decide) ?_
              refine zz_iast hx hb hK hP hD hS 4 0 rfl rfl (k := k2) (by omega) (by decide) kd_C_emptyAll_55 (fun H locs hP hD hS => ?_)
              have hP : va_P (dC, dI) zk_cl [(q 0, zc_ob q sb wy kd bb hi mi vi wb), (q 1, .inl (cI, 128, .inl fb1)), (q 2, .inl (cZ, 128, .inl fd1)), (q 3, .inl (cI, 128, .inl fs1)), (q 4, .inl (cI, 16, .inl (upd ft1 k2 (nI 0))))] H := hP
              have hD : va_D A [(q 0, zc_ob q sb wy kd bb hi mi vi wb), (q 1, .inl (cI, 128, .inl fb1)), (q 2, .inl (cZ, 128, .inl fd1)), (q 3, .inl (cI, 128, .inl fs1)), (q 4, .inl (cI, 16, .inl (upd ft1 k2 (nI 0))))] := hD
              refine lv_iinc (v := nI (k2 + 1)) (lv' := [(1, .int (nI (k2 + 1))), (0, .ref (q 0))]) hx hb kd_C_emptyAll_56 hl (k := 1) rfl (by first | exact nI_1 _ | (show _ + _ = _; exact nI_1 _)) (by decide) rfl (fun ls hl => ?_)
              refine lv_goto (tgt := 40) hx hb kd_C_emptyAll_59 (by decide) ?_
              exact ih40 (k2 + 1) (upd ft1 k2 (nI 0)) (by omega) (by omega) (zu_ext h4) _ _ hP hD hS ls (lv_sub hl [1, 0] rfl)
        exact hc40 _ 0 ft (Nat.lt_succ_self _) (by omega) (fun j h => by omega) _ _ hP hD hS ls (lv_sub hl [1, 0] rfl)
      · skip
        refine lv_aload_n hx hb kd_C_emptyAll_11 rfl (lv_at hl 0 rfl) ?_
        refine va_get (D := (dC, dI)) (ci := 0) (v := .ref (q 1)) (C := zk_RC) (T := zk_TC) (N := 12) hx hb hts kl_C hown hK hP 0 rfl rfl 4 (by decide) (hts _ kj_146) (fun _ h9 => h9) rfl kd_C_emptyAll_12 ?_
        refine lv_iload_n hx hb kd_C_emptyAll_15 rfl (lv_at hl 1 rfl) ?_
        refine lv_iconst (v := (-1)) hx hb kd_C_emptyAll_16 (by decide) ?_
        refine zz_iast hx hb hK hP hD hS 1 0 rfl rfl (k := k) (by omega) (by decide) kd_C_emptyAll_17 (fun H locs hP hD hS => ?_)
        have hP : va_P (dC, dI) zk_cl [(q 0, zc_ob q sb wy kd bb hi mi vi wb), (q 1, .inl (cI, 128, .inl (upd fb1 k (-1)))), (q 2, .inl (cZ, 128, .inl fd1)), (q 3, .inl (cI, 128, .inl fs1)), (q 4, .inl (cI, 16, .inl ft))] H := hP
        have hD : va_D A [(q 0, zc_ob q sb wy kd bb hi mi vi wb), (q 1, .inl (cI, 128, .inl (upd fb1 k (-1)))), (q 2, .inl (cZ, 128, .inl fd1)), (q 3, .inl (cI, 128, .inl fs1)), (q 4, .inl (cI, 16, .inl ft))] := hD
        refine lv_aload_n hx hb kd_C_emptyAll_18 rfl (lv_at hl 0 rfl) ?_
        refine va_get (D := (dC, dI)) (ci := 0) (v := .ref (q 2)) (C := zk_RC) (T := zk_TC) (N := 12) hx hb hts kl_C hown hK hP 0 rfl rfl 5 (by decide) (hts _ kj_147) (fun _ h9 => h9) rfl kd_C_emptyAll_19 ?_
        refine lv_iload_n hx hb kd_C_emptyAll_22 rfl (lv_at hl 1 rfl) ?_
        refine lv_iconst (v := nI 0) hx hb kd_C_emptyAll_23 (by decide) ?_
        refine zz_zast hx hb hK hP hD hS 2 1 rfl rfl (k := k) (by omega) (by decide) (Or.inl rfl) kd_C_emptyAll_24 (fun H locs hP hD hS => ?_)
        have hP : va_P (dC, dI) zk_cl [(q 0, zc_ob q sb wy kd bb hi mi vi wb), (q 1, .inl (cI, 128, .inl (upd fb1 k (-1)))), (q 2, .inl (cZ, 128, .inl (upd fd1 k (nI 0)))), (q 3, .inl (cI, 128, .inl fs1)), (q 4, .inl (cI, 16, .inl ft))] H := hP
        have hD : va_D A [(q 0, zc_ob q sb wy kd bb hi mi vi wb), (q 1, .inl (cI, 128, .inl (upd fb1 k (-1)))), (q 2, .inl (cZ, 128, .inl (upd fd1 k (nI 0)))), (q 3, .inl (cI, 128, .inl fs1)), (q 4, .inl (cI, 16, .inl ft))] := hD
        refine lv_aload_n hx hb kd_C_emptyAll_25 rfl (lv_at hl 0 rfl) ?_
        refine va_get (D := (dC, dI)) (ci := 0) (v := .ref (q 3)) (C := zk_RC) (T := zk_TC) (N := 12) hx hb hts kl_C hown hK hP 0 rfl rfl 6 (by decide) (hts _ kj_148) (fun _ h9 => h9) rfl kd_C_emptyAll_26 ?_
        refine lv_iload_n hx hb kd_C_emptyAll_29 rfl (lv_at hl 1 rfl) ?_
        refine lv_iconst (v := nI 0) hx hb kd_C_emptyAll_30 (by decide) ?_
        refine zz_iast hx hb hK hP hD hS 3 0 rfl rfl (k := k) (by omega) (by decide) kd_C_emptyAll_31 (fun H locs hP hD hS => ?_)
        have hP : va_P (dC, dI) zk_cl [(q 0, zc_ob q sb wy kd bb hi mi vi wb), (q 1, .inl (cI, 128, .inl (upd fb1 k (-1)))), (q 2, .inl (cZ, 128, .inl (upd fd1 k (nI 0)))), (q 3, .inl (cI, 128, .inl (upd fs1 k (nI 0)))), (q 4, .inl (cI, 16, .inl ft))] H := hP
        have hD : va_D A [(q 0, zc_ob q sb wy kd bb hi mi vi wb), (q 1, .inl (cI, 128, .inl (upd fb1 k (-1)))), (q 2, .inl (cZ, 128, .inl (upd fd1 k (nI 0)))), (q 3, .inl (cI, 128, .inl (upd fs1 k (nI 0)))), (q 4, .inl (cI, 16, .inl ft))] := hD
        refine lv_iinc (v := nI (k + 1)) (lv' := [(1, .int (nI (k + 1))), (0, .ref (q 0))]) hx hb kd_C_emptyAll_32 hl (k := 1) rfl (by first | exact nI_1 _ | (show _ + _ = _; exact nI_1 _)) (by decide) rfl (fun ls hl => ?_)
        refine lv_goto (tgt := 2) hx hb kd_C_emptyAll_35 (by decide) ?_
        exact ih (k + 1) (upd fb1 k (-1)) (upd fd1 k (nI 0)) (upd fs1 k (nI 0)) (by omega) (by omega) (zu_ext h1) (zu_ext h2) (zu_ext h3) _ _ hP hD hS ls (lv_sub hl [1, 0] rfl)
  exact hc2 _ 0 fb fd fs (Nat.lt_succ_self _) (by omega) (fun j h => by omega) (fun j h => by omega) (fun j h => by omega) _ _ hP hD hS ls (lv_sub hl [1, 0] rfl)

def rm_cc_hasPlace : Room := { frames := 1, cells := 0, slots := 0, locals := 20 }
set_option maxHeartbeats 4000000 in
set_option maxRecDepth 100000 in
/-- whether there is such a place -/
theorem cc_hasPlace (l : Launch) (dC : Nat → ClassId) (dI : Nat → Nat → Nat) (cI cZ cO cL : ClassId) (q : Nat → Nat) (sb : Nat) (wy : Nat) (kd : Nat) (bb : Nat) (hi : Int32) (mi : Int32) (vi : Int32) (wb : Int32) (x : Int32) (y : Int32) (hsb : sb ≤ 4) : zz_Mi l ky_C_hasPlace kw_C_hasPlace rm_cc_hasPlace (dC, dI) (zz_ty cI cZ cO cL) [(q 0, zc_ob q sb wy kd bb hi mi vi wb)] [.ref (q 0), .int x, .int y] (fun (r : Int32) (w : va_W) => w = [(q 0, zc_ob q sb wy kd bb hi mi vi wb)] ∧ ((r = 1 ∧ ¬ x < 0 ∧ ¬ nI (2 ^ sb) ≤ x ∧ ¬ y < 0 ∧ ¬ nI wy ≤ y) ∨ (r = 0 ∧ (x < 0 ∨ nI (2 ^ sb) ≤ x ∨ y < 0 ∨ nI wy ≤ y)))) 0 0 := by
  refine zz_entry_z (cc := kb_C_hasPlace) (maxL := 3) (own := zk_RC) (by decide) rfl rfl (Nat.le_of_ble_eq_true rfl) ?_
  intro p e s m args below meth c Q hx hb hml hown hts hin hP hK A hD hA hS hret ls hl
  have hl : lv_has ls 3 [(0, .ref (q 0)), (1, .int x), (2, .int y)] := hl
  obtain ⟨H, eH⟩ : ∃ z, z = s.heap := ⟨_, rfl⟩
  obtain ⟨locs, eL⟩ : ∃ z : List Loc, z = [] := ⟨_, rfl⟩
  rw [← eH] at hP ⊢
  have hS : va_S A s.heap H locs := by rw [eH, eL]; exact hS
  rw [← eL]
  refine lv_iload_n hx hb kd_C_hasPlace_0 rfl (lv_at hl 1 rfl) ?_
  refine lv_if_lt (tgt := 28) hx hb kd_C_hasPlace_1 (by decide) (fun c1 => ?_) (fun c1 => ?_)
  · skip
    refine lv_iconst (v := nI 0) hx hb kd_C_hasPlace_28 (by decide) ?_
    exact hret _ _ _ _ _ _ (Or.inl rfl) kd_C_hasPlace_29 hP hD hS (⟨rfl, (by first | exact Or.inl ⟨rfl, c1, c9, c13, c21⟩ | exact Or.inr ⟨rfl, Or.inr (Or.inr (Or.inr c21))⟩ | exact Or.inr ⟨rfl, Or.inr (Or.inr (Or.inl c13))⟩ | exact Or.inr ⟨rfl, Or.inr (Or.inl c9)⟩ | exact Or.inr ⟨rfl, Or.inl c1⟩)⟩)
  · skip
    refine lv_iload_n hx hb kd_C_hasPlace_4 rfl (lv_at hl 1 rfl) ?_
    refine lv_aload_n hx hb kd_C_hasPlace_5 rfl (lv_at hl 0 rfl) ?_
    refine zz_iV (As := []) (rest := [.int x]) (wc := [(q 0, zc_ob q sb wy kd bb hi mi vi wb)]) (wr := []) ⟨hx, hb, hml, hown, hts⟩ (cc_countSets l dC dI cI cZ cO cL q sb wy kd bb hi mi vi wb (by omega)) (zz_cwV hts kj_209 kj_33 kj_207 kj_208 kj_1 kz_C_countSets rfl rfl ⟨Nat.le_of_ble_eq_true rfl, Nat.le_of_ble_eq_true rfl⟩) hP hD hK hS hA (q0 := 0) rfl rfl rfl rfl hl.1 rfl (Nat.le_of_ble_eq_true rfl) kd_C_hasPlace_6 ⟨by decide, by decide⟩ (fun r9 w9 H locs hw hP hD hS => ?_)
    obtain ⟨rfl, rfl⟩ := hw
    have hP : va_P (dC, dI) zk_cl [(q 0, zc_ob q sb wy kd bb hi mi vi wb)] H := hP
    have hD : va_D A [(q 0, zc_ob q sb wy kd bb hi mi vi wb)] := hD
    refine lv_icmp_ge (tgt := 28) hx hb kd_C_hasPlace_9 (by decide) (fun c9 => ?_) (fun c9 => ?_)
    · skip
      refine lv_iconst (v := nI 0) hx hb kd_C_hasPlace_28 (by decide) ?_
      exact hret _ _ _ _ _ _ (Or.inl rfl) kd_C_hasPlace_29 hP hD hS (⟨rfl, (by first | exact Or.inl ⟨rfl, c1, c9, c13, c21⟩ | exact Or.inr ⟨rfl, Or.inr (Or.inr (Or.inr c21))⟩ | exact Or.inr ⟨rfl, Or.inr (Or.inr (Or.inl c13))⟩ | exact Or.inr ⟨rfl, Or.inr (Or.inl c9)⟩ | exact Or.inr ⟨rfl, Or.inl c1⟩)⟩)
    · skip
      refine lv_iload_n hx hb kd_C_hasPlace_12 rfl (lv_at hl 2 rfl) ?_
      refine lv_if_lt (tgt := 28) hx hb kd_C_hasPlace_13 (by decide) (fun c13 => ?_) (fun c13 => ?_)
      · skip
        refine lv_iconst (v := nI 0) hx hb kd_C_hasPlace_28 (by decide) ?_
        exact hret _ _ _ _ _ _ (Or.inl rfl) kd_C_hasPlace_29 hP hD hS (⟨rfl, (by first | exact Or.inl ⟨rfl, c1, c9, c13, c21⟩ | exact Or.inr ⟨rfl, Or.inr (Or.inr (Or.inr c21))⟩ | exact Or.inr ⟨rfl, Or.inr (Or.inr (Or.inl c13))⟩ | exact Or.inr ⟨rfl, Or.inr (Or.inl c9)⟩ | exact Or.inr ⟨rfl, Or.inl c1⟩)⟩)
      · skip
        refine lv_iload_n hx hb kd_C_hasPlace_16 rfl (lv_at hl 2 rfl) ?_
        refine lv_aload_n hx hb kd_C_hasPlace_17 rfl (lv_at hl 0 rfl) ?_
        refine va_get (D := (dC, dI)) (ci := 0) (v := .int (nI wy)) (C := zk_RC) (T := zk_TC) (N := 12) hx hb hts kl_C hown hK hP 0 rfl rfl 1 (by decide) (hts _ kj_143) (fun _ h9 => h9) rfl kd_C_hasPlace_18 ?_
        refine lv_icmp_ge (tgt := 28) hx hb kd_C_hasPlace_21 (by decide) (fun c21 => ?_) (fun c21 => ?_)
        · skip
          refine lv_iconst (v := nI 0) hx hb kd_C_hasPlace_28 (by decide) ?_
          exact hret _ _ _ _ _ _ (Or.inl rfl) kd_C_hasPlace_29 hP hD hS (⟨rfl, (by first | exact Or.inl ⟨rfl, c1, c9, c13, c21⟩ | exact Or.inr ⟨rfl, Or.inr (Or.inr (Or.inr c21))⟩ | exact Or.inr ⟨rfl, Or.inr (Or.inr (Or.inl c13))⟩ | exact Or.inr ⟨rfl, Or.inr (Or.inl c9)⟩ | exact Or.inr ⟨rfl, Or.inl c1⟩)⟩)
        · skip
          refine lv_iconst (v := nI 1) hx hb kd_C_hasPlace_24 (by decide) ?_
          refine lv_goto (tgt := 29) hx hb kd_C_hasPlace_25 (by decide) ?_
          exact hret _ _ _ _ _ _ (Or.inr rfl) kd_C_hasPlace_29 hP hD hS (⟨rfl, (by first | exact Or.inl ⟨rfl, c1, c9, c13, c21⟩ | exact Or.inr ⟨rfl, Or.inr (Or.inr (Or.inr c21))⟩ | exact Or.inr ⟨rfl, Or.inr (Or.inr (Or.inl c13))⟩ | exact Or.inr ⟨rfl, Or.inr (Or.inl c9)⟩ | exact Or.inr ⟨rfl, Or.inl c1⟩)⟩)

def rm_cc_oldestPlace : Room := { frames := 1, cells := 0, slots := 0, locals := 22 }
set_option maxHeartbeats 4000000 in
set_option maxRecDepth 100000 in
/-- the first place with the least stamp -/
theorem cc_oldestPlace (l : Launch) (dC : Nat → ClassId) (dI : Nat → Nat → Nat) (cI cZ cO cL : ClassId) (q : Nat → Nat) (sb : Nat) (wy : Nat) (kd : Nat) (bb : Nat) (hi : Int32) (mi : Int32) (vi : Int32) (wb : Int32) (fs : Nat → Int32) (a : Nat) (hwy : 1 ≤ wy ∧ wy ≤ 8) (hi0 : a * wy + wy ≤ 128) : zz_Mi l ky_C_oldestPlace kw_C_oldestPlace rm_cc_oldestPlace (dC, dI) (zz_ty cI cZ cO cL) [(q 0, zc_ob q sb wy kd bb hi mi vi wb), (q 3, .inl (cI, 128, .inl fs))] [.ref (q 0), .int (nI a)] (fun (r : Int32) (w : va_W) => ∃ (o : Nat), w = [(q 0, zc_ob q sb wy kd bb hi mi vi wb), (q 3, .inl (cI, 128, .inl fs))] ∧ (r = nI o) ∧ (zf_AM (fun j => fs (a * wy + j)) wy o)) 0 0 := by
  refine zz_entry_i (cc := kb_C_oldestPlace) (maxL := 4) (own := zk_RC) (by decide) rfl rfl (Nat.le_of_ble_eq_true rfl) ?_
  intro p e s m args below meth c Q hx hb hml hown hts hin hP hK A hD hA hS hret ls hl
  have hl : lv_has ls 4 [(0, .ref (q 0)), (1, .int (nI a))] := hl
  obtain ⟨H, eH⟩ : ∃ z, z = s.heap := ⟨_, rfl⟩
  obtain ⟨locs, eL⟩ : ∃ z : List Loc, z = [] := ⟨_, rfl⟩
  rw [← eH] at hP ⊢
  have hS : va_S A s.heap H locs := by rw [eH, eL]; exact hS
  rw [← eL]
  refine lv_iconst (v := nI 0) hx hb kd_C_oldestPlace_0 (by decide) ?_
  refine lv_istore_n (lv' := [(2, .int (nI 0)), (0, .ref (q 0)), (1, .int (nI a))]) hx hb kd_C_oldestPlace_1 rfl hl (by decide) rfl (fun ls hl => ?_)
  refine lv_iconst (v := nI 1) hx hb kd_C_oldestPlace_2 (by decide) ?_
  refine lv_istore_n (lv' := [(3, .int (nI 1)), (2, .int (nI 0)), (0, .ref (q 0)), (1, .int (nI a))]) hx hb kd_C_oldestPlace_3 rfl hl (by decide) rfl (fun ls hl => ?_)
  have hc4 : ∀ (nn : Nat), ∀ (o : Nat) (k : Nat), wy - k < nn → (1 ≤ k ∧ k ≤ wy) → (zf_AM (fun j => fs (a * wy + j)) k o) → ∀ (H : Heap) (locs : List Loc), va_P (dC, dI) zk_cl [(q 0, zc_ob q sb wy kd bb hi mi vi wb), (q 3, .inl (cI, 128, .inl fs))] H → va_D A [(q 0, zc_ob q sb wy kd bb hi mi vi wb), (q 3, .inl (cI, 128, .inl fs))] → va_S A s.heap H locs → ∀ ls : Array Slot, lv_has ls 4 [(0, .ref (q 0)), (1, .int (nI a)), (2, .int (nI o)), (3, .int (nI k))] → W p l e rm_cc_oldestPlace s m args below meth c H locs 0 0 Q (F0 m 4 ls []) := by
    intro nn
    induction nn with
    | zero => intro o k hm; exact absurd hm (Nat.not_lt_zero _)
    | succ nn ih =>
      intro o k hm hk ham H locs hP hD hS ls hl
      have ho := ham.1
      refine lv_iload_n hx hb kd_C_oldestPlace_4 rfl (lv_at hl 3 rfl) ?_
      refine lv_aload_n hx hb kd_C_oldestPlace_5 rfl (lv_at hl 0 rfl) ?_
      refine va_get (D := (dC, dI)) (ci := 0) (v := .int (nI wy)) (C := zk_RC) (T := zk_TC) (N := 12) hx hb hts kl_C hown hK hP 0 rfl rfl 1 (by decide) (hts _ kj_143) (fun _ h9 => h9) rfl kd_C_oldestPlace_6 ?_
      refine zz_icmp_ge (tgt := 45) hx hb kd_C_oldestPlace_9 (by decide) (by omega) (by omega) (fun c9 => ?_) (fun c9 => ?_)
      · skip
        refine lv_iload_n hx hb kd_C_oldestPlace_45 rfl (lv_at hl 2 rfl) ?_
        exact hret _ _ _ _ _ _ kd_C_oldestPlace_46 hP hD hS (⟨o, rfl, rfl, ((show k = wy by omega) ▸ ham)⟩)
      · skip
        refine lv_aload_n hx hb kd_C_oldestPlace_12 rfl (lv_at hl 0 rfl) ?_
        refine va_get (D := (dC, dI)) (ci := 0) (v := .ref (q 3)) (C := zk_RC) (T := zk_TC) (N := 12) hx hb hts kl_C hown hK hP 0 rfl rfl 6 (by decide) (hts _ kj_148) (fun _ h9 => h9) rfl kd_C_oldestPlace_13 ?_
        refine lv_aload_n hx hb kd_C_oldestPlace_16 rfl (lv_at hl 0 rfl) ?_
        refine lv_iload_n hx hb kd_C_oldestPlace_17 rfl (lv_at hl 1 rfl) ?_
        refine lv_iload_n hx hb kd_C_oldestPlace_18 rfl (lv_at hl 3 rfl) ?_
        refine zz_iV (As := [.int (nI a), .int (nI k)]) (rest := [.ref (q 3)]) (wc := [(q 0, zc_ob q sb wy kd bb hi mi vi wb)]) (wr := [(q 3, .inl (cI, 128, .inl fs))]) ⟨hx, hb, hml, hown, hts⟩ (cc_slotOf l dC dI cI cZ cO cL q sb wy kd bb hi mi vi wb a k ) (zz_cwV hts kj_219 kj_33 kj_217 kj_218 kj_3 kz_C_slotOf rfl rfl ⟨Nat.le_of_ble_eq_true rfl, Nat.le_of_ble_eq_true rfl⟩) (hP.sub [1, 0] rfl) (hD.sub [1, 0] (by decide) rfl) hK hS hA (q0 := 0) rfl rfl rfl rfl hl.1 rfl (Nat.le_of_ble_eq_true rfl) kd_C_oldestPlace_19 ⟨by decide, by decide⟩ (fun r9 w9 H locs hw hP hD hS => ?_)
        obtain ⟨rfl, rfl⟩ := hw
        have hP : va_P (dC, dI) zk_cl [(q 3, .inl (cI, 128, .inl fs)), (q 0, zc_ob q sb wy kd bb hi mi vi wb)] H := hP
        have hD : va_D A [(q 3, .inl (cI, 128, .inl fs)), (q 0, zc_ob q sb wy kd bb hi mi vi wb)] := hD
        refine zz_iald hx hb hK hP 0 0 rfl rfl (k := a * wy + k) (by omega) (by decide) kd_C_oldestPlace_22 ?_
        refine lv_aload_n hx hb kd_C_oldestPlace_23 rfl (lv_at hl 0 rfl) ?_
        refine va_get (D := (dC, dI)) (ci := 0) (v := .ref (q 3)) (C := zk_RC) (T := zk_TC) (N := 12) hx hb hts kl_C hown hK hP 1 rfl rfl 6 (by decide) (hts _ kj_148) (fun _ h9 => h9) rfl kd_C_oldestPlace_24 ?_
        refine lv_aload_n hx hb kd_C_oldestPlace_27 rfl (lv_at hl 0 rfl) ?_
        refine lv_iload_n hx hb kd_C_oldestPlace_28 rfl (lv_at hl 1 rfl) ?_
        refine lv_iload_n hx hb kd_C_oldestPlace_29 rfl (lv_at hl 2 rfl) ?_
        refine zz_iV (As := [.int (nI a), .int (nI o)]) (rest := [.ref (q 3), .int (fs (a * wy + k))]) (wc := [(q 0, zc_ob q sb wy kd bb hi mi vi wb)]) (wr := [(q 3, .inl (cI, 128, .inl fs))]) ⟨hx, hb, hml, hown, hts⟩ (cc_slotOf l dC dI cI cZ cO cL q sb wy kd bb hi mi vi wb a o ) (zz_cwV hts kj_219 kj_33 kj_217 kj_218 kj_3 kz_C_slotOf rfl rfl ⟨Nat.le_of_ble_eq_true rfl, Nat.le_of_ble_eq_true rfl⟩) hP hD hK hS hA (q0 := 0) rfl rfl rfl rfl hl.1 rfl (Nat.le_of_ble_eq_true rfl) kd_C_oldestPlace_30 ⟨by decide, by decide⟩ (fun r9 w9 H locs hw hP hD hS => ?_)
        obtain ⟨rfl, rfl⟩ := hw
        have hP : va_P (dC, dI) zk_cl [(q 3, .inl (cI, 128, .inl fs)), (q 0, zc_ob q sb wy kd bb hi mi vi wb)] H := hP
        have hD : va_D A [(q 3, .inl (cI, 128, .inl fs)), (q 0, zc_ob q sb wy kd bb hi mi vi wb)] := hD
        refine zz_iald hx hb hK hP 0 0 rfl rfl (k := a * wy + o) (by omega) (by decide) kd_C_oldestPlace_33 ?_
        refine lv_icmp_ge (tgt := 39) hx hb kd_C_oldestPlace_34 (by decide) (fun c34 => ?_) (fun c34 => ?_)
        · skip
          refine lv_iinc (v := nI (k + 1)) (lv' := [(3, .int (nI (k + 1))), (0, .ref (q 0)), (1, .int (nI a)), (2, .int (nI o))]) hx hb kd_C_oldestPlace_39 hl (k := 3) rfl (by first | exact nI_1 _ | (show _ + _ = _; exact nI_1 _)) (by decide) rfl (fun ls hl => ?_)
          refine lv_goto (tgt := 4) hx hb kd_C_oldestPlace_42 (by decide) ?_
          exact ih o (k + 1) (by omega) (by omega) (by first | exact zf_AM_t ham (zu_nle c34) | exact zf_AM_f ham (zu_nlt c34)) _ _ (hP.sub [1, 0] rfl) (hD.sub [1, 0] (by decide) rfl) hS ls (lv_sub hl [1, 2, 3, 0] rfl)
        · skip
          refine lv_iload_n hx hb kd_C_oldestPlace_37 rfl (lv_at hl 3 rfl) ?_
          refine lv_istore_n (lv' := [(2, .int (nI k)), (0, .ref (q 0)), (1, .int (nI a)), (3, .int (nI k))]) hx hb kd_C_oldestPlace_38 rfl hl (by decide) rfl (fun ls hl => ?_)
          refine lv_iinc (v := nI (k + 1)) (lv' := [(3, .int (nI (k + 1))), (2, .int (nI k)), (0, .ref (q 0)), (1, .int (nI a))]) hx hb kd_C_oldestPlace_39 hl (k := 3) rfl (by first | exact nI_1 _ | (show _ + _ = _; exact nI_1 _)) (by decide) rfl (fun ls hl => ?_)
          refine lv_goto (tgt := 4) hx hb kd_C_oldestPlace_42 (by decide) ?_
          exact ih k (k + 1) (by omega) (by omega) (by first | exact zf_AM_t ham (zu_nle c34) | exact zf_AM_f ham (zu_nlt c34)) _ _ (hP.sub [1, 0] rfl) (hD.sub [1, 0] (by decide) rfl) hS ls (lv_sub hl [2, 3, 1, 0] rfl)
  exact hc4 _ 0 1 (Nat.lt_succ_self _) (by omega) (zf_AM_1) _ _ hP hD hS ls (lv_sub hl [2, 3, 1, 0] rfl)
end
section
def rm_cc_pointedPlace : Room := { frames := 0, cells := 0, slots := 0, locals := 0 }
set_option maxHeartbeats 4000000 in
set_option maxRecDepth 100000 in
/-- the place to which the tree points -/
theorem cc_pointedPlace (l : Launch) (dC : Nat → ClassId) (dI : Nat → Nat → Nat) (cI cZ cO cL : ClassId) (q : Nat → Nat) (sb : Nat) (wy : Nat) (kd : Nat) (bb : Nat) (hi : Int32) (mi : Int32) (vi : Int32) (wb : Int32) (ft : Nat → Int32) (a : Nat) (t : Nat) (hwy : wy = 1 ∨ wy = 2 ∨ wy = 4 ∨ wy = 8) (ha : a < 16) (hft : ft a = nI t) (ht : t < 256) : zz_Mi l ky_C_pointedPlace kw_C_pointedPlace rm_cc_pointedPlace (dC, dI) (zz_ty cI cZ cO cL) [(q 0, zc_ob q sb wy kd bb hi mi vi wb), (q 4, .inl (cI, 16, .inl ft))] [.ref (q 0), .int (nI a)] (fun (r : Int32) (w : va_W) => w = [(q 0, zc_ob q sb wy kd bb hi mi vi wb), (q 4, .inl (cI, 16, .inl ft))] ∧ (r = nI (zt_pt (zt_b t) 4 (wy / 2) 1 0))) 0 0 := by
  refine zz_entry_i (cc := kb_C_pointedPlace) (maxL := 7) (own := zk_RC) (by decide) rfl rfl (Nat.le_of_ble_eq_true rfl) ?_
  intro p e s m args below meth c Q hx hb hml hown hts hin hP hK A hD hA hS hret ls hl
  have hl : lv_has ls 7 [(0, .ref (q 0)), (1, .int (nI a))] := hl
  obtain ⟨H, eH⟩ : ∃ z, z = s.heap := ⟨_, rfl⟩
  obtain ⟨locs, eL⟩ : ∃ z : List Loc, z = [] := ⟨_, rfl⟩
  rw [← eH] at hP ⊢
  have hS : va_S A s.heap H locs := by rw [eH, eL]; exact hS
  rw [← eL]
  refine lv_aload_n hx hb kd_C_pointedPlace_0 rfl (lv_at hl 0 rfl) ?_
  refine va_get (D := (dC, dI)) (ci := 0) (v := .ref (q 4)) (C := zk_RC) (T := zk_TC) (N := 12) hx hb hts kl_C hown hK hP 0 rfl rfl 7 (by decide) (hts _ kj_149) (fun _ h9 => h9) rfl kd_C_pointedPlace_1 ?_
  refine lv_iload_n hx hb kd_C_pointedPlace_4 rfl (lv_at hl 1 rfl) ?_
  refine zz_iald hx hb hK hP 1 0 rfl rfl (k := a) (by omega) (by decide) kd_C_pointedPlace_5 ?_
  refine zz_top (y := nI t) (hft) ?_
  refine lv_istore_n (lv' := [(2, .int (nI t)), (0, .ref (q 0)), (1, .int (nI a))]) hx hb kd_C_pointedPlace_6 rfl hl (by decide) rfl (fun ls hl => ?_)
  refine lv_iconst (v := nI 1) hx hb kd_C_pointedPlace_7 (by decide) ?_
  refine lv_istore_n (lv' := [(3, .int (nI 1)), (2, .int (nI t)), (0, .ref (q 0)), (1, .int (nI a))]) hx hb kd_C_pointedPlace_8 rfl hl (by decide) rfl (fun ls hl => ?_)
  refine lv_iconst (v := nI 0) hx hb kd_C_pointedPlace_9 (by decide) ?_
  refine lv_istore (lv' := [(4, .int (nI 0)), (3, .int (nI 1)), (2, .int (nI t)), (0, .ref (q 0)), (1, .int (nI a))]) hx hb kd_C_pointedPlace_10 hl (by decide) rfl (fun ls hl => ?_)
  refine lv_aload_n hx hb kd_C_pointedPlace_12 rfl (lv_at hl 3 rfl) ?_
  refine va_get (D := (dC, dI)) (ci := 0) (v := .int (nI wy)) (C := zk_RC) (T := zk_TC) (N := 12) hx hb hts kl_C hown hK hP 0 rfl rfl 1 (by decide) (hts _ kj_143) (fun _ h9 => h9) rfl kd_C_pointedPlace_13 ?_
  refine lv_iconst (v := nI 1) hx hb kd_C_pointedPlace_16 (by decide) ?_
  refine lv_ishr hx hb kd_C_pointedPlace_17 ?_
  refine zz_top (y := nI (wy / 2)) (zn_half (by omega)) ?_
  refine lv_istore (lv' := [(5, .int (nI (wy / 2))), (4, .int (nI 0)), (3, .int (nI 1)), (2, .int (nI t)), (0, .ref (q 0)), (1, .int (nI a))]) hx hb kd_C_pointedPlace_18 hl (by decide) rfl (fun ls hl => ?_)
  have hc20 : ∀ (nn : Nat), ∀ (half : Nat) (node : Nat) (pl : Nat) (fl : Nat), half < nn → (zt_pt (zt_b t) 4 (wy / 2) 1 0 = zt_pt (zt_b t) fl half node pl) → (half < 2 ^ fl) → (zt_ok half node) → ∀ (H : Heap) (locs : List Loc), va_P (dC, dI) zk_cl [(q 0, zc_ob q sb wy kd bb hi mi vi wb), (q 4, .inl (cI, 16, .inl ft))] H → va_D A [(q 0, zc_ob q sb wy kd bb hi mi vi wb), (q 4, .inl (cI, 16, .inl ft))] → va_S A s.heap H locs → ∀ ls : Array Slot, lv_has ls 7 [(0, .ref (q 0)), (2, .int (nI t)), (3, .int (nI node)), (4, .int (nI pl)), (5, .int (nI half))] → W p l e rm_cc_pointedPlace s m args below meth c H locs 0 0 Q (F0 m 20 ls []) := by
    intro nn
    induction nn with
    | zero => intro half node pl fl hm; exact absurd hm (Nat.not_lt_zero _)
    | succ nn ih =>
      intro half node pl fl hm heq hf hok H locs hP hD hS ls hl
      have hl4 := zt_ok_l hok
      refine lv_iload hx hb kd_C_pointedPlace_20 (lv_at hl 4 rfl) ?_
      refine zz_if_le (tgt := 58) hx hb kd_C_pointedPlace_22 (by decide) (by omega) (fun c22 => ?_) (fun c22 => ?_)
      · skip
        refine lv_iload hx hb kd_C_pointedPlace_58 (lv_at hl 3 rfl) ?_
        exact hret _ _ _ _ _ _ kd_C_pointedPlace_60 hP hD hS (⟨rfl, by rw [heq, c22, zt_pt_0]⟩)
      · skip
        refine lv_iload_n hx hb kd_C_pointedPlace_25 rfl (lv_at hl 1 rfl) ?_
        refine lv_iload_n hx hb kd_C_pointedPlace_26 rfl (lv_at hl 2 rfl) ?_
        refine lv_ishr hx hb kd_C_pointedPlace_27 ?_
        refine zz_top (y := nI (t / 2 ^ node)) (zn_shr (by omega) (by have := zt_ok_8 hok c22; omega)) ?_
        refine lv_iconst (v := nI 1) hx hb kd_C_pointedPlace_28 (by decide) ?_
        refine lv_iand hx hb kd_C_pointedPlace_29 ?_
        refine zz_top (y := nI (t / 2 ^ node % 2)) (zn_bit ht) ?_
        refine lv_istore (lv' := [(6, .int (nI (t / 2 ^ node % 2))), (0, .ref (q 0)), (2, .int (nI t)), (3, .int (nI node)), (4, .int (nI pl)), (5, .int (nI half))]) hx hb kd_C_pointedPlace_30 hl (by decide) rfl (fun ls hl => ?_)
        refine lv_iload hx hb kd_C_pointedPlace_32 (lv_at hl 4 rfl) ?_
        refine lv_iload hx hb kd_C_pointedPlace_34 (lv_at hl 0 rfl) ?_
        refine lv_iload hx hb kd_C_pointedPlace_36 (lv_at hl 5 rfl) ?_
        refine lv_imul hx hb kd_C_pointedPlace_38 ?_
        refine zz_top (y := nI ((t / 2 ^ node % 2) * half)) (pk_mul _ _) ?_
        refine lv_iadd hx hb kd_C_pointedPlace_39 ?_
        refine zz_top (y := nI (pl + ((t / 2 ^ node % 2) * half))) (nI_add _ _) ?_
        refine lv_istore (lv' := [(4, .int (nI (pl + ((t / 2 ^ node % 2) * half)))), (6, .int (nI (t / 2 ^ node % 2))), (0, .ref (q 0)), (2, .int (nI t)), (3, .int (nI node)), (5, .int (nI half))]) hx hb kd_C_pointedPlace_40 hl (by decide) rfl (fun ls hl => ?_)
        refine lv_iconst (v := nI 2) hx hb kd_C_pointedPlace_42 (by decide) ?_
        refine lv_iload_n hx hb kd_C_pointedPlace_43 rfl (lv_at hl 4 rfl) ?_
        refine lv_imul hx hb kd_C_pointedPlace_44 ?_
        refine zz_top (y := nI (2 * node)) (pk_mul _ _) ?_
        refine lv_iload hx hb kd_C_pointedPlace_45 (lv_at hl 1 rfl) ?_
        refine lv_iadd hx hb kd_C_pointedPlace_47 ?_
        refine zz_top (y := nI (2 * node + (t / 2 ^ node % 2))) (nI_add _ _) ?_
        refine lv_istore_n (lv' := [(3, .int (nI (2 * node + (t / 2 ^ node % 2)))), (4, .int (nI (pl + ((t / 2 ^ node % 2) * half)))), (6, .int (nI (t / 2 ^ node % 2))), (0, .ref (q 0)), (2, .int (nI t)), (5, .int (nI half))]) hx hb kd_C_pointedPlace_48 rfl hl (by decide) rfl (fun ls hl => ?_)
        refine lv_iload hx hb kd_C_pointedPlace_49 (lv_at hl 5 rfl) ?_
        refine lv_iconst (v := nI 1) hx hb kd_C_pointedPlace_51 (by decide) ?_
        refine lv_ishr hx hb kd_C_pointedPlace_52 ?_
        refine zz_top (y := nI (half / 2)) (zn_half (by omega)) ?_
        refine lv_istore (lv' := [(5, .int (nI (half / 2))), (3, .int (nI (2 * node + (t / 2 ^ node % 2)))), (4, .int (nI (pl + ((t / 2 ^ node % 2) * half)))), (6, .int (nI (t / 2 ^ node % 2))), (0, .ref (q 0)), (2, .int (nI t))]) hx hb kd_C_pointedPlace_53 hl (by decide) rfl (fun ls hl => ?_)
        refine lv_goto (tgt := 20) hx hb kd_C_pointedPlace_55 (by decide) ?_
        exact ih (half / 2) (2 * node + (t / 2 ^ node % 2)) (pl + ((t / 2 ^ node % 2) * half)) (fl - 1) (by omega) (by rw [heq]; exact zt_pt_s c22 hf) (zt_hf c22 hf) (zt_ok_n hok c22 (by omega)) _ _ hP hD hS ls (lv_sub hl [4, 5, 1, 2, 0] rfl)
  exact hc20 _ (wy / 2) 1 0 4 (Nat.lt_succ_self _) (rfl) (by omega) (by unfold zt_ok; omega) _ _ hP hD hS ls (lv_sub hl [4, 3, 2, 1, 0] rfl)

def rm_cc_pointAway : Room := { frames := 0, cells := 0, slots := 0, locals := 0 }
set_option maxHeartbeats 4000000 in
set_option maxRecDepth 100000 in
/-- the tree points away from the place -/
theorem cc_pointAway (l : Launch) (dC : Nat → ClassId) (dI : Nat → Nat → Nat) (cI cZ cO cL : ClassId) (q : Nat → Nat) (sb : Nat) (wy : Nat) (kd : Nat) (bb : Nat) (hi : Int32) (mi : Int32) (vi : Int32) (wb : Int32) (ft : Nat → Int32) (a : Nat) (pl : Nat) (t : Nat) (hwy : wy = 1 ∨ wy = 2 ∨ wy = 4 ∨ wy = 8) (ha : a < 16) (hpl : pl < 8) (hft : ft a = nI t) (ht : t < 256) : zz_Mv l ky_C_pointAway kw_C_pointAway rm_cc_pointAway (dC, dI) (zz_ty cI cZ cO cL) [(q 0, zc_ob q sb wy kd bb hi mi vi wb), (q 4, .inl (cI, 16, .inl ft))] [.ref (q 0), .int (nI a), .int (nI pl)] (fun (w : va_W) => ∃ (t2 : Nat), w = [(q 0, zc_ob q sb wy kd bb hi mi vi wb), (q 4, .inl (cI, 16, .inl (upd ft a (nI t2))))] ∧ (t2 < 256) ∧ (zt_b t2 = zt_pa pl 4 (wy / 2) 1 (zt_b t))) 0 0 := by
  refine zz_entry_v (cc := kb_C_pointAway) (maxL := 6) (own := zk_RC) (by decide) rfl rfl (Nat.le_of_ble_eq_true rfl) ?_
  intro p e s m args below meth c Q hx hb hml hown hts hin hP hK A hD hA hS hret ls hl
  have hl : lv_has ls 6 [(0, .ref (q 0)), (1, .int (nI a)), (2, .int (nI pl))] := hl
  obtain ⟨H, eH⟩ : ∃ z, z = s.heap := ⟨_, rfl⟩
  obtain ⟨locs, eL⟩ : ∃ z : List Loc, z = [] := ⟨_, rfl⟩
  rw [← eH] at hP ⊢
  have hS : va_S A s.heap H locs := by rw [eH, eL]; exact hS
  rw [← eL]
  refine lv_aload_n hx hb kd_C_pointAway_0 rfl (lv_at hl 0 rfl) ?_
  refine va_get (D := (dC, dI)) (ci := 0) (v := .ref (q 4)) (C := zk_RC) (T := zk_TC) (N := 12) hx hb hts kl_C hown hK hP 0 rfl rfl 7 (by decide) (hts _ kj_149) (fun _ h9 => h9) rfl kd_C_pointAway_1 ?_
  refine lv_iload_n hx hb kd_C_pointAway_4 rfl (lv_at hl 1 rfl) ?_
  refine zz_iald hx hb hK hP 1 0 rfl rfl (k := a) (by omega) (by decide) kd_C_pointAway_5 ?_
  refine zz_top (y := nI t) (hft) ?_
  refine lv_istore_n (lv' := [(3, .int (nI t)), (0, .ref (q 0)), (1, .int (nI a)), (2, .int (nI pl))]) hx hb kd_C_pointAway_6 rfl hl (by decide) rfl (fun ls hl => ?_)
  refine lv_iconst (v := nI 1) hx hb kd_C_pointAway_7 (by decide) ?_
  refine lv_istore (lv' := [(4, .int (nI 1)), (3, .int (nI t)), (0, .ref (q 0)), (1, .int (nI a)), (2, .int (nI pl))]) hx hb kd_C_pointAway_8 hl (by decide) rfl (fun ls hl => ?_)
  refine lv_aload_n hx hb kd_C_pointAway_10 rfl (lv_at hl 2 rfl) ?_
  refine va_get (D := (dC, dI)) (ci := 0) (v := .int (nI wy)) (C := zk_RC) (T := zk_TC) (N := 12) hx hb hts kl_C hown hK hP 0 rfl rfl 1 (by decide) (hts _ kj_143) (fun _ h9 => h9) rfl kd_C_pointAway_11 ?_
  refine lv_iconst (v := nI 1) hx hb kd_C_pointAway_14 (by decide) ?_
  refine lv_ishr hx hb kd_C_pointAway_15 ?_
  refine zz_top (y := nI (wy / 2)) (zn_half (by omega)) ?_
  refine lv_istore (lv' := [(5, .int (nI (wy / 2))), (4, .int (nI 1)), (3, .int (nI t)), (0, .ref (q 0)), (1, .int (nI a)), (2, .int (nI pl))]) hx hb kd_C_pointAway_16 hl (by decide) rfl (fun ls hl => ?_)
  have hc18 : ∀ (nn : Nat), ∀ (half : Nat) (node : Nat) (t1 : Nat) (fl : Nat), half < nn → (zt_pa pl 4 (wy / 2) 1 (zt_b t) = zt_pa pl fl half node (zt_b t1)) → (half < 2 ^ fl) → (zt_ok half node) → (t1 < 256) → (half ≠ 3) → ∀ (H : Heap) (locs : List Loc), va_P (dC, dI) zk_cl [(q 0, zc_ob q sb wy kd bb hi mi vi wb), (q 4, .inl (cI, 16, .inl ft))] H → va_D A [(q 0, zc_ob q sb wy kd bb hi mi vi wb), (q 4, .inl (cI, 16, .inl ft))] → va_S A s.heap H locs → ∀ ls : Array Slot, lv_has ls 6 [(0, .ref (q 0)), (1, .int (nI a)), (2, .int (nI pl)), (3, .int (nI t1)), (4, .int (nI node)), (5, .int (nI half))] → W p l e rm_cc_pointAway s m args below meth c H locs 0 0 Q (F0 m 18 ls []) := by
    intro nn
    induction nn with
    | zero => intro half node t1 fl hm; exact absurd hm (Nat.not_lt_zero _)
    | succ nn ih =>
      intro half node t1 fl hm heq hf hok ht1 h3 H locs hP hD hS ls hl
      have hl4 := zt_ok_l hok
      refine lv_iload hx hb kd_C_pointAway_18 (lv_at hl 5 rfl) ?_
      refine zz_if_le (tgt := 72) hx hb kd_C_pointAway_20 (by decide) (by omega) (fun c20 => ?_) (fun c20 => ?_)
      · skip
        refine lv_aload_n hx hb kd_C_pointAway_72 rfl (lv_at hl 0 rfl) ?_
        refine va_get (D := (dC, dI)) (ci := 0) (v := .ref (q 4)) (C := zk_RC) (T := zk_TC) (N := 12) hx hb hts kl_C hown hK hP 0 rfl rfl 7 (by decide) (hts _ kj_149) (fun _ h9 => h9) rfl kd_C_pointAway_73 ?_
        refine lv_iload_n hx hb kd_C_pointAway_76 rfl (lv_at hl 1 rfl) ?_
        refine lv_iload_n hx hb kd_C_pointAway_77 rfl (lv_at hl 3 rfl) ?_
        refine zz_iast hx hb hK hP hD hS 1 0 rfl rfl (k := a) (by omega) (by decide) kd_C_pointAway_78 (fun H locs hP hD hS => ?_)
        have hP : va_P (dC, dI) zk_cl [(q 0, zc_ob q sb wy kd bb hi mi vi wb), (q 4, .inl (cI, 16, .inl (upd ft a (nI t1))))] H := hP
        have hD : va_D A [(q 0, zc_ob q sb wy kd bb hi mi vi wb), (q 4, .inl (cI, 16, .inl (upd ft a (nI t1))))] := hD
        exact hret _ _ _ _ _ kd_C_pointAway_79 hP hD hS (⟨t1, rfl, (ht1), (by rw [heq, c20, zt_pa_0])⟩)
      · skip
        refine lv_iload_n hx hb kd_C_pointAway_23 rfl (lv_at hl 2 rfl) ?_
        refine lv_iload hx hb kd_C_pointAway_24 (lv_at hl 5 rfl) ?_
        refine lv_iand hx hb kd_C_pointAway_26 ?_
        refine zz_top (y := nI (if pl / half % 2 = 1 then half else 0)) (zt_and hpl (by omega)) ?_
        refine zz_if_eq (tgt := 50) hx hb kd_C_pointAway_27 (by decide) (by split <;> omega) (fun c27 => ?_) (fun c27 => ?_)
        · skip
          refine lv_iload_n hx hb kd_C_pointAway_50 rfl (lv_at hl 3 rfl) ?_
          refine lv_iconst (v := nI 1) hx hb kd_C_pointAway_51 (by decide) ?_
          refine lv_iload hx hb kd_C_pointAway_52 (lv_at hl 4 rfl) ?_
          refine lv_ishl hx hb kd_C_pointAway_54 ?_
          refine lv_ior hx hb kd_C_pointAway_55 ?_
          refine zz_top (y := nI (zt_s t1 node)) (zt_set ht1 (zt_ok_8 hok c20).1) ?_
          refine lv_istore_n (lv' := [(3, .int (nI (zt_s t1 node))), (0, .ref (q 0)), (1, .int (nI a)), (2, .int (nI pl)), (4, .int (nI node)), (5, .int (nI half))]) hx hb kd_C_pointAway_56 rfl hl (by decide) rfl (fun ls hl => ?_)
          refine lv_iconst (v := nI 2) hx hb kd_C_pointAway_57 (by decide) ?_
          refine lv_iload hx hb kd_C_pointAway_58 (lv_at hl 4 rfl) ?_
          refine lv_imul hx hb kd_C_pointAway_60 ?_
          refine zz_top (y := nI (2 * node)) (pk_mul _ _) ?_
          refine lv_istore (lv' := [(4, .int (nI (2 * node))), (3, .int (nI (zt_s t1 node))), (0, .ref (q 0)), (1, .int (nI a)), (2, .int (nI pl)), (5, .int (nI half))]) hx hb kd_C_pointAway_61 hl (by decide) rfl (fun ls hl => ?_)
          refine lv_iload hx hb kd_C_pointAway_63 (lv_at hl 5 rfl) ?_
          refine lv_iconst (v := nI 1) hx hb kd_C_pointAway_65 (by decide) ?_
          refine lv_ishr hx hb kd_C_pointAway_66 ?_
          refine zz_top (y := nI (half / 2)) (zn_half (by omega)) ?_
          refine lv_istore (lv' := [(5, .int (nI (half / 2))), (4, .int (nI (2 * node))), (3, .int (nI (zt_s t1 node))), (0, .ref (q 0)), (1, .int (nI a)), (2, .int (nI pl))]) hx hb kd_C_pointAway_67 hl (by decide) rfl (fun ls hl => ?_)
          refine lv_goto (tgt := 18) hx hb kd_C_pointAway_69 (by decide) ?_
          exact ih (half / 2) (2 * node) (zt_s t1 node) (fl - 1) (by omega) (by first | exact heq.trans (zt_pa_t c20 hf (by split at c27 <;> omega) ht1 (zt_ok_8 hok c20).1) | exact heq.trans (zt_pa_f c20 hf (by split at c27 <;> omega) ht1 (zt_ok_8 hok c20).1)) (zt_hf c20 hf) (by first | exact zt_ok_n (b := 1) hok c20 (by omega) | exact zt_ok_n (b := 0) hok c20 (by omega)) (by first | exact (zt_cb ht1 (zt_ok_8 hok c20).1).1 | exact (zt_sb ht1 (zt_ok_8 hok c20).1).1) (by omega) _ _ hP hD hS ls (lv_sub hl [3, 4, 5, 2, 1, 0] rfl)
        · skip
          refine lv_iload_n hx hb kd_C_pointAway_30 rfl (lv_at hl 3 rfl) ?_
          refine lv_iconst (v := nI 1) hx hb kd_C_pointAway_31 (by decide) ?_
          refine lv_iload hx hb kd_C_pointAway_32 (lv_at hl 4 rfl) ?_
          refine lv_ishl hx hb kd_C_pointAway_34 ?_
          refine lv_iconst (v := (-1)) hx hb kd_C_pointAway_35 (by decide) ?_
          refine lv_ixor hx hb kd_C_pointAway_36 ?_
          refine lv_iand hx hb kd_C_pointAway_37 ?_
          refine zz_top (y := nI (zt_c t1 node)) (zt_clr ht1 (zt_ok_8 hok c20).1) ?_
          refine lv_istore_n (lv' := [(3, .int (nI (zt_c t1 node))), (0, .ref (q 0)), (1, .int (nI a)), (2, .int (nI pl)), (4, .int (nI node)), (5, .int (nI half))]) hx hb kd_C_pointAway_38 rfl hl (by decide) rfl (fun ls hl => ?_)
          refine lv_iconst (v := nI 2) hx hb kd_C_pointAway_39 (by decide) ?_
          refine lv_iload hx hb kd_C_pointAway_40 (lv_at hl 4 rfl) ?_
          refine lv_imul hx hb kd_C_pointAway_42 ?_
          refine zz_top (y := nI (2 * node)) (pk_mul _ _) ?_
          refine lv_iconst (v := nI 1) hx hb kd_C_pointAway_43 (by decide) ?_
          refine lv_iadd hx hb kd_C_pointAway_44 ?_
          refine zz_top (y := nI (2 * node + 1)) (nI_add _ _) ?_
          refine lv_istore (lv' := [(4, .int (nI (2 * node + 1))), (3, .int (nI (zt_c t1 node))), (0, .ref (q 0)), (1, .int (nI a)), (2, .int (nI pl)), (5, .int (nI half))]) hx hb kd_C_pointAway_45 hl (by decide) rfl (fun ls hl => ?_)
          refine lv_goto (tgt := 63) hx hb kd_C_pointAway_47 (by decide) ?_
          refine lv_iload hx hb kd_C_pointAway_63 (lv_at hl 5 rfl) ?_
          refine lv_iconst (v := nI 1) hx hb kd_C_pointAway_65 (by decide) ?_
          refine lv_ishr hx hb kd_C_pointAway_66 ?_
          refine zz_top (y := nI (half / 2)) (zn_half (by omega)) ?_
          refine lv_istore (lv' := [(5, .int (nI (half / 2))), (4, .int (nI (2 * node + 1))), (3, .int (nI (zt_c t1 node))), (0, .ref (q 0)), (1, .int (nI a)), (2, .int (nI pl))]) hx hb kd_C_pointAway_67 hl (by decide) rfl (fun ls hl => ?_)
          refine lv_goto (tgt := 18) hx hb kd_C_pointAway_69 (by decide) ?_
          exact ih (half / 2) (2 * node + 1) (zt_c t1 node) (fl - 1) (by omega) (by first | exact heq.trans (zt_pa_t c20 hf (by split at c27 <;> omega) ht1 (zt_ok_8 hok c20).1) | exact heq.trans (zt_pa_f c20 hf (by split at c27 <;> omega) ht1 (zt_ok_8 hok c20).1)) (zt_hf c20 hf) (by first | exact zt_ok_n (b := 1) hok c20 (by omega) | exact zt_ok_n (b := 0) hok c20 (by omega)) (by first | exact (zt_cb ht1 (zt_ok_8 hok c20).1).1 | exact (zt_sb ht1 (zt_ok_8 hok c20).1).1) (by omega) _ _ hP hD hS ls (lv_sub hl [3, 4, 5, 2, 1, 0] rfl)
  exact hc18 _ (wy / 2) 1 t 4 (Nat.lt_succ_self _) (rfl) (by omega) (by unfold zt_ok; omega) (ht) (by omega) _ _ hP hD hS ls (lv_sub hl [3, 4, 5, 2, 1, 0] rfl)

def rm_cc_letAllGo : Room := { frames := 1, cells := 0, slots := 0, locals := 22 }
set_option maxHeartbeats 4000000 in
set_option maxRecDepth 100000 in
/-- all blocks go -/
theorem cc_letAllGo (l : Launch) (dC : Nat → ClassId) (dI : Nat → Nat → Nat) (cI cZ cO cL : ClassId) (q : Nat → Nat) (sb : Nat) (wy : Nat) (kd : Nat) (bb : Nat) (hi : Int32) (mi : Int32) (vi : Int32) (wb : Int32) (fb : Nat → Int32) (fd : Nat → Int32) (fs : Nat → Int32) (ft : Nat → Int32)  : zz_Mi l ky_C_letAllGo kw_C_letAllGo rm_cc_letAllGo (dC, dI) (zz_ty cI cZ cO cL) [(q 0, zc_ob q sb wy kd bb hi mi vi wb), (q 1, .inl (cI, 128, .inl fb)), (q 2, .inl (cZ, 128, .inl fd)), (q 3, .inl (cI, 128, .inl fs)), (q 4, .inl (cI, 16, .inl ft))] [.ref (q 0)] (fun (r : Int32) (w : va_W) => ∃ (fb2 : Nat → Int32), ∃ (fd2 : Nat → Int32), ∃ (fs2 : Nat → Int32), ∃ (ft2 : Nat → Int32), w = [(q 0, zc_ob q sb wy kd bb hi mi vi (wb + nI (zf_ct (fun j => decide (fd j ≠ 0)) 128))), (q 1, .inl (cI, 128, .inl fb2)), (q 2, .inl (cZ, 128, .inl fd2)), (q 3, .inl (cI, 128, .inl fs2)), (q 4, .inl (cI, 16, .inl ft2))] ∧ (r = nI (zf_ct (fun j => decide (fd j ≠ 0)) 128)) ∧ (∀ j, j < 128 → fb2 j = -1) ∧ (∀ j, j < 128 → fd2 j = 0) ∧ (∀ j, j < 128 → fs2 j = 0) ∧ (∀ j, j < 16 → ft2 j = 0)) 0 0 := by
  refine zz_entry_i (cc := kb_C_letAllGo) (maxL := 2) (own := zk_RC) (by decide) rfl rfl (Nat.le_of_ble_eq_true rfl) ?_
  intro p e s m args below meth c Q hx hb hml hown hts hin hP hK A hD hA hS hret ls hl
  have hl : lv_has ls 2 [(0, .ref (q 0))] := hl
  obtain ⟨H, eH⟩ : ∃ z, z = s.heap := ⟨_, rfl⟩
  obtain ⟨locs, eL⟩ : ∃ z : List Loc, z = [] := ⟨_, rfl⟩
  rw [← eH] at hP ⊢
  have hS : va_S A s.heap H locs := by rw [eH, eL]; exact hS
  rw [← eL]
  refine lv_aload_n hx hb kd_C_letAllGo_0 rfl (lv_at hl 0 rfl) ?_
  refine zz_iV (As := []) (rest := []) (wc := [(q 0, zc_ob q sb wy kd bb hi mi vi wb), (q 2, .inl (cZ, 128, .inl fd))]) (wr := [(q 1, .inl (cI, 128, .inl fb)), (q 3, .inl (cI, 128, .inl fs)), (q 4, .inl (cI, 16, .inl ft))]) ⟨hx, hb, hml, hown, hts⟩ (cc_countDirty l dC dI cI cZ cO cL q sb wy kd bb hi mi vi wb fd ) (zz_cwV hts kj_267 kj_33 kj_264 kj_265 kj_266 kz_C_countDirty rfl rfl ⟨Nat.le_of_ble_eq_true rfl, Nat.le_of_ble_eq_true rfl⟩) (hP.sub [1, 3, 4, 0, 2] rfl) (hD.sub [1, 3, 4, 0, 2] (by decide) rfl) hK hS hA (q0 := 0) rfl rfl rfl rfl hl.1 rfl (Nat.le_of_ble_eq_true rfl) kd_C_letAllGo_1 ⟨by decide, by decide⟩ (fun r9 w9 H locs hw hP hD hS => ?_)
  obtain ⟨rfl, rfl⟩ := hw
  have hP : va_P (dC, dI) zk_cl [(q 1, .inl (cI, 128, .inl fb)), (q 3, .inl (cI, 128, .inl fs)), (q 4, .inl (cI, 16, .inl ft)), (q 0, zc_ob q sb wy kd bb hi mi vi wb), (q 2, .inl (cZ, 128, .inl fd))] H := hP
  have hD : va_D A [(q 1, .inl (cI, 128, .inl fb)), (q 3, .inl (cI, 128, .inl fs)), (q 4, .inl (cI, 16, .inl ft)), (q 0, zc_ob q sb wy kd bb hi mi vi wb), (q 2, .inl (cZ, 128, .inl fd))] := hD
  refine lv_istore_n (lv' := [(1, .int (nI (zf_ct (fun j => decide (fd j ≠ 0)) 128))), (0, .ref (q 0))]) hx hb kd_C_letAllGo_4 rfl hl (by decide) rfl (fun ls hl => ?_)
  refine lv_aload_n hx hb kd_C_letAllGo_5 rfl (lv_at hl 1 rfl) ?_
  refine lv_dup hx hb kd_C_letAllGo_6 rfl ?_
  refine va_get (D := (dC, dI)) (ci := 0) (v := .int wb) (C := zk_RC) (T := zk_TC) (N := 12) hx hb hts kl_C hown hK hP 3 rfl rfl 11 (by decide) (hts _ kj_156) (fun _ h9 => h9) rfl kd_C_letAllGo_7 ?_
  refine lv_iload_n hx hb kd_C_letAllGo_10 rfl (lv_at hl 0 rfl) ?_
  refine lv_iadd hx hb kd_C_letAllGo_11 ?_
  refine va_put (D := (dC, dI)) (ci := 0) (v := .int (wb + (nI (zf_ct (fun j => decide (fd j ≠ 0)) 128)))) (ty := .int) (C := zk_RC) (T := zk_TC) (N := 12) hx hb hts kl_C zk_tC zk_kC zk_nC hown hK hP hD hS 3 rfl rfl 11 (by decide) (hts _ kj_156) (fun _ h9 => h9) rfl (by decide +kernel) rfl rfl (Nat.le_of_ble_eq_true rfl) kd_C_letAllGo_12 (fun H locs hP hD hS => ?_)
  have hP : va_P (dC, dI) zk_cl [(q 1, .inl (cI, 128, .inl fb)), (q 3, .inl (cI, 128, .inl fs)), (q 4, .inl (cI, 16, .inl ft)), (q 0, zc_ob q sb wy kd bb hi mi vi (wb + (nI (zf_ct (fun j => decide (fd j ≠ 0)) 128)))), (q 2, .inl (cZ, 128, .inl fd))] H := hP
  have hD : va_D A [(q 1, .inl (cI, 128, .inl fb)), (q 3, .inl (cI, 128, .inl fs)), (q 4, .inl (cI, 16, .inl ft)), (q 0, zc_ob q sb wy kd bb hi mi vi (wb + (nI (zf_ct (fun j => decide (fd j ≠ 0)) 128)))), (q 2, .inl (cZ, 128, .inl fd))] := hD
  refine lv_aload_n hx hb kd_C_letAllGo_15 rfl (lv_at hl 1 rfl) ?_
  refine zz_vV (As := []) (rest := []) (wc := [(q 0, zc_ob q sb wy kd bb hi mi vi (wb + (nI (zf_ct (fun j => decide (fd j ≠ 0)) 128)))), (q 1, .inl (cI, 128, .inl fb)), (q 2, .inl (cZ, 128, .inl fd)), (q 3, .inl (cI, 128, .inl fs)), (q 4, .inl (cI, 16, .inl ft))]) (wr := []) ⟨hx, hb, hml, hown, hts⟩ (cc_emptyAll l dC dI cI cZ cO cL q sb wy kd bb hi mi vi (wb + (nI (zf_ct (fun j => decide (fd j ≠ 0)) 128))) fb fd fs ft ) (zz_cwV hts kj_177 kj_33 kj_175 kj_176 kj_0 kz_C_emptyAll rfl rfl ⟨Nat.le_of_ble_eq_true rfl, Nat.le_of_ble_eq_true rfl⟩) (hP.sub [3, 0, 4, 1, 2] rfl) (hD.sub [3, 0, 4, 1, 2] (by decide) rfl) hK hS hA (q0 := 0) rfl rfl rfl rfl hl.1 rfl (Nat.le_of_ble_eq_true rfl) kd_C_letAllGo_16 ⟨by decide, by decide⟩ (fun w9 H locs hw hP hD hS => ?_)
  obtain ⟨fb2_2, fd2_3, fs2_4, ft2_5, rfl, eb16, ed16, es16, et16⟩ := hw
  have hP : va_P (dC, dI) zk_cl [(q 0, zc_ob q sb wy kd bb hi mi vi (wb + (nI (zf_ct (fun j => decide (fd j ≠ 0)) 128)))), (q 1, .inl (cI, 128, .inl fb2_2)), (q 2, .inl (cZ, 128, .inl fd2_3)), (q 3, .inl (cI, 128, .inl fs2_4)), (q 4, .inl (cI, 16, .inl ft2_5))] H := hP
  have hD : va_D A [(q 0, zc_ob q sb wy kd bb hi mi vi (wb + (nI (zf_ct (fun j => decide (fd j ≠ 0)) 128)))), (q 1, .inl (cI, 128, .inl fb2_2)), (q 2, .inl (cZ, 128, .inl fd2_3)), (q 3, .inl (cI, 128, .inl fs2_4)), (q 4, .inl (cI, 16, .inl ft2_5))] := hD
  refine lv_iload_n hx hb kd_C_letAllGo_19 rfl (lv_at hl 0 rfl) ?_
  exact hret _ _ _ _ _ _ kd_C_letAllGo_20 hP hD hS (⟨fb2_2, fd2_3, fs2_4, ft2_5, rfl, rfl, (eb16), (ed16), (es16), (et16)⟩)

def rm_cc_become : Room := { frames := 1, cells := 0, slots := 0, locals := 21 }
set_option maxHeartbeats 4000000 in
set_option maxRecDepth 100000 in
/-- it becomes an empty cache of this shape -/
theorem cc_become (l : Launch) (dC : Nat → ClassId) (dI : Nat → Nat → Nat) (cI cZ cO cL : ClassId) (q : Nat → Nat) (sb : Nat) (wy : Nat) (kd : Nat) (bb : Nat) (hi : Int32) (mi : Int32) (vi : Int32) (wb : Int32) (fb : Nat → Int32) (fd : Nat → Int32) (fs : Nat → Int32) (ft : Nat → Int32) (sc : Nat) (wc : Nat) (kc : Nat) (bc : Nat)  : zz_Mv l ky_C_become kw_C_become rm_cc_become (dC, dI) (zz_ty cI cZ cO cL) [(q 0, zc_ob q sb wy kd bb hi mi vi wb), (q 1, .inl (cI, 128, .inl fb)), (q 2, .inl (cZ, 128, .inl fd)), (q 3, .inl (cI, 128, .inl fs)), (q 4, .inl (cI, 16, .inl ft))] [.ref (q 0), .int (nI sc), .int (nI wc), .int (nI kc), .int (nI bc)] (fun (w : va_W) => ∃ (fb2 : Nat → Int32), ∃ (fd2 : Nat → Int32), ∃ (fs2 : Nat → Int32), ∃ (ft2 : Nat → Int32), w = [(q 0, zc_ob q sc wc kc bc (nI 0) (nI 0) (nI 0) (nI 0)), (q 1, .inl (cI, 128, .inl fb2)), (q 2, .inl (cZ, 128, .inl fd2)), (q 3, .inl (cI, 128, .inl fs2)), (q 4, .inl (cI, 16, .inl ft2))] ∧ (∀ j, j < 128 → fb2 j = -1) ∧ (∀ j, j < 128 → fd2 j = 0) ∧ (∀ j, j < 128 → fs2 j = 0) ∧ (∀ j, j < 16 → ft2 j = 0)) 0 0 := by
  refine zz_entry_v (cc := kb_C_become) (maxL := 5) (own := zk_RC) (by decide) rfl rfl (Nat.le_of_ble_eq_true rfl) ?_
  intro p e s m args below meth c Q hx hb hml hown hts hin hP hK A hD hA hS hret ls hl
  have hl : lv_has ls 5 [(0, .ref (q 0)), (1, .int (nI sc)), (2, .int (nI wc)), (3, .int (nI kc)), (4, .int (nI bc))] := hl
  obtain ⟨H, eH⟩ : ∃ z, z = s.heap := ⟨_, rfl⟩
  obtain ⟨locs, eL⟩ : ∃ z : List Loc, z = [] := ⟨_, rfl⟩
  rw [← eH] at hP ⊢
  have hS : va_S A s.heap H locs := by rw [eH, eL]; exact hS
  rw [← eL]
  refine lv_aload_n hx hb kd_C_become_0 rfl (lv_at hl 0 rfl) ?_
  refine lv_iload_n hx hb kd_C_become_1 rfl (lv_at hl 1 rfl) ?_
  refine va_put (D := (dC, dI)) (ci := 0) (v := .int (nI sc)) (ty := .int) (C := zk_RC) (T := zk_TC) (N := 12) hx hb hts kl_C zk_tC zk_kC zk_nC hown hK hP hD hS 0 rfl rfl 0 (by decide) (hts _ kj_142) (fun _ h9 => h9) rfl (by decide +kernel) rfl rfl (Nat.le_of_ble_eq_true rfl) kd_C_become_2 (fun H locs hP hD hS => ?_)
  have hP : va_P (dC, dI) zk_cl [(q 0, zc_ob q sc wy kd bb hi mi vi wb), (q 1, .inl (cI, 128, .inl fb)), (q 2, .inl (cZ, 128, .inl fd)), (q 3, .inl (cI, 128, .inl fs)), (q 4, .inl (cI, 16, .inl ft))] H := hP
  have hD : va_D A [(q 0, zc_ob q sc wy kd bb hi mi vi wb), (q 1, .inl (cI, 128, .inl fb)), (q 2, .inl (cZ, 128, .inl fd)), (q 3, .inl (cI, 128, .inl fs)), (q 4, .inl (cI, 16, .inl ft))] := hD
  refine lv_aload_n hx hb kd_C_become_5 rfl (lv_at hl 0 rfl) ?_
  refine lv_iload_n hx hb kd_C_become_6 rfl (lv_at hl 2 rfl) ?_
  refine va_put (D := (dC, dI)) (ci := 0) (v := .int (nI wc)) (ty := .int) (C := zk_RC) (T := zk_TC) (N := 12) hx hb hts kl_C zk_tC zk_kC zk_nC hown hK hP hD hS 0 rfl rfl 1 (by decide) (hts _ kj_143) (fun _ h9 => h9) rfl (by decide +kernel) rfl rfl (Nat.le_of_ble_eq_true rfl) kd_C_become_7 (fun H locs hP hD hS => ?_)
  have hP : va_P (dC, dI) zk_cl [(q 0, zc_ob q sc wc kd bb hi mi vi wb), (q 1, .inl (cI, 128, .inl fb)), (q 2, .inl (cZ, 128, .inl fd)), (q 3, .inl (cI, 128, .inl fs)), (q 4, .inl (cI, 16, .inl ft))] H := hP
  have hD : va_D A [(q 0, zc_ob q sc wc kd bb hi mi vi wb), (q 1, .inl (cI, 128, .inl fb)), (q 2, .inl (cZ, 128, .inl fd)), (q 3, .inl (cI, 128, .inl fs)), (q 4, .inl (cI, 16, .inl ft))] := hD
  refine lv_aload_n hx hb kd_C_become_10 rfl (lv_at hl 0 rfl) ?_
  refine lv_iload_n hx hb kd_C_become_11 rfl (lv_at hl 3 rfl) ?_
  refine va_put (D := (dC, dI)) (ci := 0) (v := .int (nI kc)) (ty := .int) (C := zk_RC) (T := zk_TC) (N := 12) hx hb hts kl_C zk_tC zk_kC zk_nC hown hK hP hD hS 0 rfl rfl 2 (by decide) (hts _ kj_144) (fun _ h9 => h9) rfl (by decide +kernel) rfl rfl (Nat.le_of_ble_eq_true rfl) kd_C_become_12 (fun H locs hP hD hS => ?_)
  have hP : va_P (dC, dI) zk_cl [(q 0, zc_ob q sc wc kc bb hi mi vi wb), (q 1, .inl (cI, 128, .inl fb)), (q 2, .inl (cZ, 128, .inl fd)), (q 3, .inl (cI, 128, .inl fs)), (q 4, .inl (cI, 16, .inl ft))] H := hP
  have hD : va_D A [(q 0, zc_ob q sc wc kc bb hi mi vi wb), (q 1, .inl (cI, 128, .inl fb)), (q 2, .inl (cZ, 128, .inl fd)), (q 3, .inl (cI, 128, .inl fs)), (q 4, .inl (cI, 16, .inl ft))] := hD
  refine lv_aload_n hx hb kd_C_become_15 rfl (lv_at hl 0 rfl) ?_
  refine lv_iload hx hb kd_C_become_16 (lv_at hl 4 rfl) ?_
  refine va_put (D := (dC, dI)) (ci := 0) (v := .int (nI bc)) (ty := .int) (C := zk_RC) (T := zk_TC) (N := 12) hx hb hts kl_C zk_tC zk_kC zk_nC hown hK hP hD hS 0 rfl rfl 3 (by decide) (hts _ kj_145) (fun _ h9 => h9) rfl (by decide +kernel) rfl rfl (Nat.le_of_ble_eq_true rfl) kd_C_become_18 (fun H locs hP hD hS => ?_)
  have hP : va_P (dC, dI) zk_cl [(q 0, zc_ob q sc wc kc bc hi mi vi wb), (q 1, .inl (cI, 128, .inl fb)), (q 2, .inl (cZ, 128, .inl fd)), (q 3, .inl (cI, 128, .inl fs)), (q 4, .inl (cI, 16, .inl ft))] H := hP
  have hD : va_D A [(q 0, zc_ob q sc wc kc bc hi mi vi wb), (q 1, .inl (cI, 128, .inl fb)), (q 2, .inl (cZ, 128, .inl fd)), (q 3, .inl (cI, 128, .inl fs)), (q 4, .inl (cI, 16, .inl ft))] := hD
  refine lv_aload_n hx hb kd_C_become_21 rfl (lv_at hl 0 rfl) ?_
  refine lv_iconst (v := nI 0) hx hb kd_C_become_22 (by decide) ?_
  refine va_put (D := (dC, dI)) (ci := 0) (v := .int (nI 0)) (ty := .int) (C := zk_RC) (T := zk_TC) (N := 12) hx hb hts kl_C zk_tC zk_kC zk_nC hown hK hP hD hS 0 rfl rfl 8 (by decide) (hts _ kj_150) (fun _ h9 => h9) rfl (by decide +kernel) rfl rfl (Nat.le_of_ble_eq_true rfl) kd_C_become_23 (fun H locs hP hD hS => ?_)
  have hP : va_P (dC, dI) zk_cl [(q 0, zc_ob q sc wc kc bc (nI 0) mi vi wb), (q 1, .inl (cI, 128, .inl fb)), (q 2, .inl (cZ, 128, .inl fd)), (q 3, .inl (cI, 128, .inl fs)), (q 4, .inl (cI, 16, .inl ft))] H := hP
  have hD : va_D A [(q 0, zc_ob q sc wc kc bc (nI 0) mi vi wb), (q 1, .inl (cI, 128, .inl fb)), (q 2, .inl (cZ, 128, .inl fd)), (q 3, .inl (cI, 128, .inl fs)), (q 4, .inl (cI, 16, .inl ft))] := hD
  refine lv_aload_n hx hb kd_C_become_26 rfl (lv_at hl 0 rfl) ?_
  refine lv_iconst (v := nI 0) hx hb kd_C_become_27 (by decide) ?_
  refine va_put (D := (dC, dI)) (ci := 0) (v := .int (nI 0)) (ty := .int) (C := zk_RC) (T := zk_TC) (N := 12) hx hb hts kl_C zk_tC zk_kC zk_nC hown hK hP hD hS 0 rfl rfl 9 (by decide) (hts _ kj_152) (fun _ h9 => h9) rfl (by decide +kernel) rfl rfl (Nat.le_of_ble_eq_true rfl) kd_C_become_28 (fun H locs hP hD hS => ?_)
  have hP : va_P (dC, dI) zk_cl [(q 0, zc_ob q sc wc kc bc (nI 0) (nI 0) vi wb), (q 1, .inl (cI, 128, .inl fb)), (q 2, .inl (cZ, 128, .inl fd)), (q 3, .inl (cI, 128, .inl fs)), (q 4, .inl (cI, 16, .inl ft))] H := hP
  have hD : va_D A [(q 0, zc_ob q sc wc kc bc (nI 0) (nI 0) vi wb), (q 1, .inl (cI, 128, .inl fb)), (q 2, .inl (cZ, 128, .inl fd)), (q 3, .inl (cI, 128, .inl fs)), (q 4, .inl (cI, 16, .inl ft))] := hD
  refine lv_aload_n hx hb kd_C_become_31 rfl (lv_at hl 0 rfl) ?_
  refine lv_iconst (v := nI 0) hx hb kd_C_become_32 (by decide) ?_
  refine va_put (D := (dC, dI)) (ci := 0) (v := .int (nI 0)) (ty := .int) (C := zk_RC) (T := zk_TC) (N := 12) hx hb hts kl_C zk_tC zk_kC zk_nC hown hK hP hD hS 0 rfl rfl 10 (by decide) (hts _ kj_154) (fun _ h9 => h9) rfl (by decide +kernel) rfl rfl (Nat.le_of_ble_eq_true rfl) kd_C_become_33 (fun H locs hP hD hS => ?_)
  have hP : va_P (dC, dI) zk_cl [(q 0, zc_ob q sc wc kc bc (nI 0) (nI 0) (nI 0) wb), (q 1, .inl (cI, 128, .inl fb)), (q 2, .inl (cZ, 128, .inl fd)), (q 3, .inl (cI, 128, .inl fs)), (q 4, .inl (cI, 16, .inl ft))] H := hP
  have hD : va_D A [(q 0, zc_ob q sc wc kc bc (nI 0) (nI 0) (nI 0) wb), (q 1, .inl (cI, 128, .inl fb)), (q 2, .inl (cZ, 128, .inl fd)), (q 3, .inl (cI, 128, .inl fs)), (q 4, .inl (cI, 16, .inl ft))] := hD
  refine lv_aload_n hx hb kd_C_become_36 rfl (lv_at hl 0 rfl) ?_
  refine lv_iconst (v := nI 0) hx hb kd_C_become_37 (by decide) ?_
  refine va_put (D := (dC, dI)) (ci := 0) (v := .int (nI 0)) (ty := .int) (C := zk_RC) (T := zk_TC) (N := 12) hx hb hts kl_C zk_tC zk_kC zk_nC hown hK hP hD hS 0 rfl rfl 11 (by decide) (hts _ kj_156) (fun _ h9 => h9) rfl (by decide +kernel) rfl rfl (Nat.le_of_ble_eq_true rfl) kd_C_become_38 (fun H locs hP hD hS => ?_)
  have hP : va_P (dC, dI) zk_cl [(q 0, zc_ob q sc wc kc bc (nI 0) (nI 0) (nI 0) (nI 0)), (q 1, .inl (cI, 128, .inl fb)), (q 2, .inl (cZ, 128, .inl fd)), (q 3, .inl (cI, 128, .inl fs)), (q 4, .inl (cI, 16, .inl ft))] H := hP
  have hD : va_D A [(q 0, zc_ob q sc wc kc bc (nI 0) (nI 0) (nI 0) (nI 0)), (q 1, .inl (cI, 128, .inl fb)), (q 2, .inl (cZ, 128, .inl fd)), (q 3, .inl (cI, 128, .inl fs)), (q 4, .inl (cI, 16, .inl ft))] := hD
  refine lv_aload_n hx hb kd_C_become_41 rfl (lv_at hl 0 rfl) ?_
  refine zz_vV (As := []) (rest := []) (wc := [(q 0, zc_ob q sc wc kc bc (nI 0) (nI 0) (nI 0) (nI 0)), (q 1, .inl (cI, 128, .inl fb)), (q 2, .inl (cZ, 128, .inl fd)), (q 3, .inl (cI, 128, .inl fs)), (q 4, .inl (cI, 16, .inl ft))]) (wr := []) ⟨hx, hb, hml, hown, hts⟩ (cc_emptyAll l dC dI cI cZ cO cL q sc wc kc bc (nI 0) (nI 0) (nI 0) (nI 0) fb fd fs ft ) (zz_cwV hts kj_177 kj_33 kj_175 kj_176 kj_0 kz_C_emptyAll rfl rfl ⟨Nat.le_of_ble_eq_true rfl, Nat.le_of_ble_eq_true rfl⟩) hP hD hK hS hA (q0 := 0) rfl rfl rfl rfl hl.1 rfl (Nat.le_of_ble_eq_true rfl) kd_C_become_42 ⟨by decide, by decide⟩ (fun w9 H locs hw hP hD hS => ?_)
  obtain ⟨fb2_1, fd2_2, fs2_3, ft2_4, rfl, eb42, ed42, es42, et42⟩ := hw
  have hP : va_P (dC, dI) zk_cl [(q 0, zc_ob q sc wc kc bc (nI 0) (nI 0) (nI 0) (nI 0)), (q 1, .inl (cI, 128, .inl fb2_1)), (q 2, .inl (cZ, 128, .inl fd2_2)), (q 3, .inl (cI, 128, .inl fs2_3)), (q 4, .inl (cI, 16, .inl ft2_4))] H := hP
  have hD : va_D A [(q 0, zc_ob q sc wc kc bc (nI 0) (nI 0) (nI 0) (nI 0)), (q 1, .inl (cI, 128, .inl fb2_1)), (q 2, .inl (cZ, 128, .inl fd2_2)), (q 3, .inl (cI, 128, .inl fs2_3)), (q 4, .inl (cI, 16, .inl ft2_4))] := hD
  exact hret _ _ _ _ _ kd_C_become_45 hP hD hS (⟨fb2_1, fd2_2, fs2_3, ft2_4, rfl, (eb42), (ed42), (es42), (et42)⟩)
end
section
def rm_cc_init : Room := { frames := 1, cells := 4, slots := 400, locals := 20 }
set_option maxHeartbeats 4000000 in
set_option maxRecDepth 100000 in
/-- a new cache -/
theorem cc_init (l : Launch) (dC : Nat → ClassId) (dI : Nat → Nat → Nat) (cI cZ cO cL : ClassId) (h : Nat)  : zz_Mv l ky_C_init kw_C_init rm_cc_init (dC, dI) (zz_ty cI cZ cO cL) [(h, .inr (0, [.int (nI 0), .int (nI 0), .int (nI 0), .int (nI 0), .null, .null, .null, .null, .int (nI 0), .int (nI 0), .int (nI 0), .int (nI 0)]))] [.ref h] (fun (w : va_W) => ∃ (q2 : Nat → Nat), w = [(q2 0, zc_ob q2 0 0 0 0 (nI 0) (nI 0) (nI 0) (nI 0)), (q2 1, .inl (cI, 128, .inl (fun _ => 0))), (q2 2, .inl (cZ, 128, .inl (fun _ => 0))), (q2 3, .inl (cI, 128, .inl (fun _ => 0))), (q2 4, .inl (cI, 16, .inl (fun _ => 0)))] ∧ (q2 0 = h)) 4 400 := by
  refine zz_entry_v (cc := kb_C_init) (maxL := 1) (own := zk_RC) (by decide) rfl rfl (Nat.le_of_ble_eq_true rfl) ?_
  intro p e s m args below meth c Q hx hb hml hown hts hin hP hK A hD hA hS hret ls hl
  have hl : lv_has ls 1 [(0, .ref h)] := hl
  obtain ⟨H, eH⟩ : ∃ z, z = s.heap := ⟨_, rfl⟩
  obtain ⟨locs, eL⟩ : ∃ z : List Loc, z = [] := ⟨_, rfl⟩
  rw [← eH] at hP ⊢
  have hS : va_S A s.heap H locs := by rw [eH, eL]; exact hS
  rw [← eL]
  refine lv_aload_n hx hb kd_C_init_0 rfl (lv_at hl 0 rfl) ?_
  refine W.objInit hx hb hown (hts _ kj_141) (hts _ kj_43) (hts _ kj_44) rfl (by rw [hml]; exact hl.1) rfl kd_C_init_1 (Nat.le_of_ble_eq_true rfl) (Nat.le_of_ble_eq_true rfl) ?_
  refine W.eq (g2 := F0 m 4 ls []) rfl ?_
  refine lv_aload_n hx hb kd_C_init_4 rfl (lv_at hl 0 rfl) ?_
  refine lv_sipush (v := nI 128) hx hb kd_C_init_5 (by decide) ?_
  refine va_newa (atype := .int) (ty := .int) (a0 := (128, .inl (fun _ => 0))) hx hb (hts _ kj_61) rfl hK hP hD hS hA (fun _ => rfl) (by decide) (by decide) (by decide) (by decide) (by decide) kd_C_init_8 (fun q_1 cA_2 H hK hP hD hS => ?_)
  obtain rfl : cI = cA_2 := zz_Keq hK 0 4 rfl rfl (by decide)
  have hK := hK.sub (tys' := zz_ty cI cZ cO cL) [0, 1, 2, 3] rfl
  have hP : va_P (dC, dI) zk_cl [(h, .inr (0, [.int (nI 0), .int (nI 0), .int (nI 0), .int (nI 0), .null, .null, .null, .null, .int (nI 0), .int (nI 0), .int (nI 0), .int (nI 0)])), (q_1, .inl (cI, 128, .inl (fun _ => 0)))] H := hP
  have hD : va_D A [(h, .inr (0, [.int (nI 0), .int (nI 0), .int (nI 0), .int (nI 0), .null, .null, .null, .null, .int (nI 0), .int (nI 0), .int (nI 0), .int (nI 0)])), (q_1, .inl (cI, 128, .inl (fun _ => 0)))] := hD
  refine W.widen (k := 1) (n := 128) (by decide) (by decide) ?_
  refine va_putF (D := (dC, dI)) (ci := 0) (v := .ref q_1) (ty := .array .int) (C := zk_RC) (T := zk_TC) (N := 12) hx hb hts kl_C zk_tC zk_kC zk_nC hown hK hP hD hS 0 rfl rfl 4 (by decide) (hts _ kj_146) (fun _ h9 => h9) rfl hin rfl (by decide +kernel) rfl rfl (Nat.le_of_ble_eq_true rfl) kd_C_init_10 (fun H locs hP hD hS => ?_)
  have hP : va_P (dC, dI) zk_cl [(h, .inr (0, [.int (nI 0), .int (nI 0), .int (nI 0), .int (nI 0), .ref q_1, .null, .null, .null, .int (nI 0), .int (nI 0), .int (nI 0), .int (nI 0)])), (q_1, .inl (cI, 128, .inl (fun _ => 0)))] H := hP
  have hD : va_D A [(h, .inr (0, [.int (nI 0), .int (nI 0), .int (nI 0), .int (nI 0), .ref q_1, .null, .null, .null, .int (nI 0), .int (nI 0), .int (nI 0), .int (nI 0)])), (q_1, .inl (cI, 128, .inl (fun _ => 0)))] := hD
  refine lv_aload_n hx hb kd_C_init_13 rfl (lv_at hl 0 rfl) ?_
  refine lv_sipush (v := nI 128) hx hb kd_C_init_14 (by decide) ?_
  refine va_newa (atype := .boolean) (ty := .boolean) (a0 := (128, .inl (fun _ => 0))) hx hb (hts _ kj_170) rfl hK hP hD hS hA (fun _ => rfl) (by decide) (by decide) (by decide) (by decide) (by decide) kd_C_init_17 (fun q_3 cA_4 H hK hP hD hS => ?_)
  obtain rfl : cZ = cA_4 := zz_Keq hK 1 4 rfl rfl (by decide)
  have hK := hK.sub (tys' := zz_ty cI cZ cO cL) [0, 1, 2, 3] rfl
  have hP : va_P (dC, dI) zk_cl [(h, .inr (0, [.int (nI 0), .int (nI 0), .int (nI 0), .int (nI 0), .ref q_1, .null, .null, .null, .int (nI 0), .int (nI 0), .int (nI 0), .int (nI 0)])), (q_1, .inl (cI, 128, .inl (fun _ => 0))), (q_3, .inl (cZ, 128, .inl (fun _ => 0)))] H := hP
  have hD : va_D A [(h, .inr (0, [.int (nI 0), .int (nI 0), .int (nI 0), .int (nI 0), .ref q_1, .null, .null, .null, .int (nI 0), .int (nI 0), .int (nI 0), .int (nI 0)])), (q_1, .inl (cI, 128, .inl (fun _ => 0))), (q_3, .inl (cZ, 128, .inl (fun _ => 0)))] := hD
  refine W.widen (k := 2) (n := 256) (by decide) (by decide) ?_
  refine va_putF (D := (dC, dI)) (ci := 0) (v := .ref q_3) (ty := .array .boolean) (C := zk_RC) (T := zk_TC) (N := 12) hx hb hts kl_C zk_tC zk_kC zk_nC hown hK hP hD hS 0 rfl rfl 5 (by decide) (hts _ kj_147) (fun _ h9 => h9) rfl hin rfl (by decide +kernel) rfl rfl (Nat.le_of_ble_eq_true rfl) kd_C_init_19 (fun H locs hP hD hS => ?_)
  have hP : va_P (dC, dI) zk_cl [(h, .inr (0, [.int (nI 0), .int (nI 0), .int (nI 0), .int (nI 0), .ref q_1, .ref q_3, .null, .null, .int (nI 0), .int (nI 0), .int (nI 0), .int (nI 0)])), (q_1, .inl (cI, 128, .inl (fun _ => 0))), (q_3, .inl (cZ, 128, .inl (fun _ => 0)))] H := hP
  have hD : va_D A [(h, .inr (0, [.int (nI 0), .int (nI 0), .int (nI 0), .int (nI 0), .ref q_1, .ref q_3, .null, .null, .int (nI 0), .int (nI 0), .int (nI 0), .int (nI 0)])), (q_1, .inl (cI, 128, .inl (fun _ => 0))), (q_3, .inl (cZ, 128, .inl (fun _ => 0)))] := hD
  refine lv_aload_n hx hb kd_C_init_22 rfl (lv_at hl 0 rfl) ?_
  refine lv_sipush (v := nI 128) hx hb kd_C_init_23 (by decide) ?_
  refine va_newa (atype := .int) (ty := .int) (a0 := (128, .inl (fun _ => 0))) hx hb (hts _ kj_61) rfl hK hP hD hS hA (fun _ => rfl) (by decide) (by decide) (by decide) (by decide) (by decide) kd_C_init_26 (fun q_5 cA_6 H hK hP hD hS => ?_)
  obtain rfl : cI = cA_6 := zz_Keq hK 0 4 rfl rfl (by decide)
  have hK := hK.sub (tys' := zz_ty cI cZ cO cL) [0, 1, 2, 3] rfl
  have hP : va_P (dC, dI) zk_cl [(h, .inr (0, [.int (nI 0), .int (nI 0), .int (nI 0), .int (nI 0), .ref q_1, .ref q_3, .null, .null, .int (nI 0), .int (nI 0), .int (nI 0), .int (nI 0)])), (q_1, .inl (cI, 128, .inl (fun _ => 0))), (q_3, .inl (cZ, 128, .inl (fun _ => 0))), (q_5, .inl (cI, 128, .inl (fun _ => 0)))] H := hP
  have hD : va_D A [(h, .inr (0, [.int (nI 0), .int (nI 0), .int (nI 0), .int (nI 0), .ref q_1, .ref q_3, .null, .null, .int (nI 0), .int (nI 0), .int (nI 0), .int (nI 0)])), (q_1, .inl (cI, 128, .inl (fun _ => 0))), (q_3, .inl (cZ, 128, .inl (fun _ => 0))), (q_5, .inl (cI, 128, .inl (fun _ => 0)))] := hD
  refine W.widen (k := 3) (n := 384) (by decide) (by decide) ?_
  refine va_putF (D := (dC, dI)) (ci := 0) (v := .ref q_5) (ty := .array .int) (C := zk_RC) (T := zk_TC) (N := 12) hx hb hts kl_C zk_tC zk_kC zk_nC hown hK hP hD hS 0 rfl rfl 6 (by decide) (hts _ kj_148) (fun _ h9 => h9) rfl hin rfl (by decide +kernel) rfl rfl (Nat.le_of_ble_eq_true rfl) kd_C_init_28 (fun H locs hP hD hS => ?_)
  have hP : va_P (dC, dI) zk_cl [(h, .inr (0, [.int (nI 0), .int (nI 0), .int (nI 0), .int (nI 0), .ref q_1, .ref q_3, .ref q_5, .null, .int (nI 0), .int (nI 0), .int (nI 0), .int (nI 0)])), (q_1, .inl (cI, 128, .inl (fun _ => 0))), (q_3, .inl (cZ, 128, .inl (fun _ => 0))), (q_5, .inl (cI, 128, .inl (fun _ => 0)))] H := hP
  have hD : va_D A [(h, .inr (0, [.int (nI 0), .int (nI 0), .int (nI 0), .int (nI 0), .ref q_1, .ref q_3, .ref q_5, .null, .int (nI 0), .int (nI 0), .int (nI 0), .int (nI 0)])), (q_1, .inl (cI, 128, .inl (fun _ => 0))), (q_3, .inl (cZ, 128, .inl (fun _ => 0))), (q_5, .inl (cI, 128, .inl (fun _ => 0)))] := hD
  refine lv_aload_n hx hb kd_C_init_31 rfl (lv_at hl 0 rfl) ?_
  refine lv_bipush (v := nI 16) hx hb kd_C_init_32 (by decide) ?_
  refine va_newa (atype := .int) (ty := .int) (a0 := (16, .inl (fun _ => 0))) hx hb (hts _ kj_61) rfl hK hP hD hS hA (fun _ => rfl) (by decide) (by decide) (by decide) (by decide) (by decide) kd_C_init_34 (fun q_7 cA_8 H hK hP hD hS => ?_)
  obtain rfl : cI = cA_8 := zz_Keq hK 0 4 rfl rfl (by decide)
  have hK := hK.sub (tys' := zz_ty cI cZ cO cL) [0, 1, 2, 3] rfl
  have hP : va_P (dC, dI) zk_cl [(h, .inr (0, [.int (nI 0), .int (nI 0), .int (nI 0), .int (nI 0), .ref q_1, .ref q_3, .ref q_5, .null, .int (nI 0), .int (nI 0), .int (nI 0), .int (nI 0)])), (q_1, .inl (cI, 128, .inl (fun _ => 0))), (q_3, .inl (cZ, 128, .inl (fun _ => 0))), (q_5, .inl (cI, 128, .inl (fun _ => 0))), (q_7, .inl (cI, 16, .inl (fun _ => 0)))] H := hP
  have hD : va_D A [(h, .inr (0, [.int (nI 0), .int (nI 0), .int (nI 0), .int (nI 0), .ref q_1, .ref q_3, .ref q_5, .null, .int (nI 0), .int (nI 0), .int (nI 0), .int (nI 0)])), (q_1, .inl (cI, 128, .inl (fun _ => 0))), (q_3, .inl (cZ, 128, .inl (fun _ => 0))), (q_5, .inl (cI, 128, .inl (fun _ => 0))), (q_7, .inl (cI, 16, .inl (fun _ => 0)))] := hD
  refine W.widen (k := 4) (n := 400) (by decide) (by decide) ?_
  refine va_putF (D := (dC, dI)) (ci := 0) (v := .ref q_7) (ty := .array .int) (C := zk_RC) (T := zk_TC) (N := 12) hx hb hts kl_C zk_tC zk_kC zk_nC hown hK hP hD hS 0 rfl rfl 7 (by decide) (hts _ kj_149) (fun _ h9 => h9) rfl hin rfl (by decide +kernel) rfl rfl (Nat.le_of_ble_eq_true rfl) kd_C_init_36 (fun H locs hP hD hS => ?_)
  have hP : va_P (dC, dI) zk_cl [(h, .inr (0, [.int (nI 0), .int (nI 0), .int (nI 0), .int (nI 0), .ref q_1, .ref q_3, .ref q_5, .ref q_7, .int (nI 0), .int (nI 0), .int (nI 0), .int (nI 0)])), (q_1, .inl (cI, 128, .inl (fun _ => 0))), (q_3, .inl (cZ, 128, .inl (fun _ => 0))), (q_5, .inl (cI, 128, .inl (fun _ => 0))), (q_7, .inl (cI, 16, .inl (fun _ => 0)))] H := hP
  have hD : va_D A [(h, .inr (0, [.int (nI 0), .int (nI 0), .int (nI 0), .int (nI 0), .ref q_1, .ref q_3, .ref q_5, .ref q_7, .int (nI 0), .int (nI 0), .int (nI 0), .int (nI 0)])), (q_1, .inl (cI, 128, .inl (fun _ => 0))), (q_3, .inl (cZ, 128, .inl (fun _ => 0))), (q_5, .inl (cI, 128, .inl (fun _ => 0))), (q_7, .inl (cI, 16, .inl (fun _ => 0)))] := hD
  exact hret _ _ _ _ _ kd_C_init_39 hP hD hS (⟨zq_mk h q_1 q_3 q_5 q_7, rfl, (rfl)⟩)

def rm_cc_bringIn : Room := { frames := 3, cells := 0, slots := 0, locals := 67 }
set_option maxHeartbeats 4000000 in
set_option maxRecDepth 100000 in
/-- a block comes to the set -/
theorem cc_bringIn (l : Launch) (dC : Nat → ClassId) (dI : Nat → Nat → Nat) (cI cZ cO cL : ClassId) (q : Nat → Nat) (sb : Nat) (wy : Nat) (kd : Nat) (bb : Nat) (hi : Int32) (mi : Int32) (vi : Int32) (wb : Int32) (fb : Nat → Int32) (fd : Nat → Int32) (fs : Nat → Int32) (ft : Nat → Int32) (a : Nat) (t : Nat) (x : Int32) (hwy : 1 ≤ wy ∧ wy ≤ 8) (hk2 : kd = 2 → wy = 1 ∨ wy = 2 ∨ wy = 4 ∨ wy = 8) (ha : a < 16) (hft : ft a = nI t) (ht : t < 256) (hkd : kd ≤ 2) (hbit : ∀ j, j < 128 → fd j = 0 ∨ fd j = 1) : zz_Mi l ky_C_bringIn kw_C_bringIn rm_cc_bringIn (dC, dI) (zz_ty cI cZ cO cL) [(q 0, zc_ob q sb wy kd bb hi mi vi wb), (q 1, .inl (cI, 128, .inl fb)), (q 2, .inl (cZ, 128, .inl fd)), (q 3, .inl (cI, 128, .inl fs)), (q 4, .inl (cI, 16, .inl ft))] [.ref (q 0), .int (nI a), .int x] (fun (r : Int32) (w : va_W) => ∃ (pl : Nat), ∃ (vi2 : Int32), ∃ (wb2 : Int32), w = [(q 0, zc_ob q sb wy kd bb hi mi vi2 wb2), (q 1, .inl (cI, 128, .inl (upd fb (a * wy + pl) x))), (q 2, .inl (cZ, 128, .inl (upd fd (a * wy + pl) (nI 0)))), (q 3, .inl (cI, 128, .inl fs)), (q 4, .inl (cI, 16, .inl ft))] ∧ (r = nI pl) ∧ (zc_bi wy kd (fun k => fb (a * wy + k)) (fun k => fs (a * wy + k)) (fun k => fd (a * wy + k)) (zt_b t) pl vi wb vi2 wb2)) 0 0 := by
  refine zz_entry_i (cc := kb_C_bringIn) (maxL := 5) (own := zk_RC) (by decide) rfl rfl (Nat.le_of_ble_eq_true rfl) ?_
  intro p e s m args below meth c Q hx hb hml hown hts hin hP hK A hD hA hS hret ls hl
  have hl : lv_has ls 5 [(0, .ref (q 0)), (1, .int (nI a)), (2, .int x)] := hl
  obtain ⟨H, eH⟩ : ∃ z, z = s.heap := ⟨_, rfl⟩
  obtain ⟨locs, eL⟩ : ∃ z : List Loc, z = [] := ⟨_, rfl⟩
  rw [← eH] at hP ⊢
  have hS : va_S A s.heap H locs := by rw [eH, eL]; exact hS
  rw [← eL]
  have hc63 : ∀ (pl : Nat) (vi1 : Int32) (wb1 : Int32), (zc_bi wy kd (fun k => fb (a * wy + k)) (fun k => fs (a * wy + k)) (fun k => fd (a * wy + k)) (zt_b t) pl vi wb vi1 wb1) → ∀ (H : Heap) (locs : List Loc), va_P (dC, dI) zk_cl [(q 0, zc_ob q sb wy kd bb hi mi vi1 wb1), (q 1, .inl (cI, 128, .inl fb)), (q 2, .inl (cZ, 128, .inl fd)), (q 3, .inl (cI, 128, .inl fs)), (q 4, .inl (cI, 16, .inl ft))] H → va_D A [(q 0, zc_ob q sb wy kd bb hi mi vi1 wb1), (q 1, .inl (cI, 128, .inl fb)), (q 2, .inl (cZ, 128, .inl fd)), (q 3, .inl (cI, 128, .inl fs)), (q 4, .inl (cI, 16, .inl ft))] → va_S A s.heap H locs → ∀ ls : Array Slot, lv_has ls 5 [(0, .ref (q 0)), (1, .int (nI a)), (2, .int x), (3, .int (nI pl))] → W p l e rm_cc_bringIn s m args below meth c H locs 0 0 Q (F0 m 63 ls []) := by
    intro pl vi1 wb1 hbi H locs hP hD hS ls hl
    have hpl := hbi.1
    have hi0 := zu_ix ha hwy.2
    refine lv_aload_n hx hb kd_C_bringIn_63 rfl (lv_at hl 0 rfl) ?_
    refine lv_iload_n hx hb kd_C_bringIn_64 rfl (lv_at hl 1 rfl) ?_
    refine lv_iload_n hx hb kd_C_bringIn_65 rfl (lv_at hl 3 rfl) ?_
    refine zz_iV (As := [.int (nI a), .int (nI pl)]) (rest := []) (wc := [(q 0, zc_ob q sb wy kd bb hi mi vi1 wb1)]) (wr := [(q 1, .inl (cI, 128, .inl fb)), (q 2, .inl (cZ, 128, .inl fd)), (q 3, .inl (cI, 128, .inl fs)), (q 4, .inl (cI, 16, .inl ft))]) ⟨hx, hb, hml, hown, hts⟩ (cc_slotOf l dC dI cI cZ cO cL q sb wy kd bb hi mi vi1 wb1 a pl ) (zz_cwV hts kj_219 kj_33 kj_217 kj_218 kj_3 kz_C_slotOf rfl rfl ⟨Nat.le_of_ble_eq_true rfl, Nat.le_of_ble_eq_true rfl⟩) (hP.sub [1, 2, 3, 4, 0] rfl) (hD.sub [1, 2, 3, 4, 0] (by decide) rfl) hK hS hA (q0 := 0) rfl rfl rfl rfl hl.1 rfl (Nat.le_of_ble_eq_true rfl) kd_C_bringIn_66 ⟨by decide, by decide⟩ (fun r9 w9 H locs hw hP hD hS => ?_)
    obtain ⟨rfl, rfl⟩ := hw
    have hP : va_P (dC, dI) zk_cl [(q 1, .inl (cI, 128, .inl fb)), (q 2, .inl (cZ, 128, .inl fd)), (q 3, .inl (cI, 128, .inl fs)), (q 4, .inl (cI, 16, .inl ft)), (q 0, zc_ob q sb wy kd bb hi mi vi1 wb1)] H := hP
    have hD : va_D A [(q 1, .inl (cI, 128, .inl fb)), (q 2, .inl (cZ, 128, .inl fd)), (q 3, .inl (cI, 128, .inl fs)), (q 4, .inl (cI, 16, .inl ft)), (q 0, zc_ob q sb wy kd bb hi mi vi1 wb1)] := hD
    refine lv_istore (lv' := [(4, .int (nI (a * wy + pl))), (0, .ref (q 0)), (1, .int (nI a)), (2, .int x), (3, .int (nI pl))]) hx hb kd_C_bringIn_69 hl (by decide) rfl (fun ls hl => ?_)
    refine lv_aload_n hx hb kd_C_bringIn_71 rfl (lv_at hl 1 rfl) ?_
    refine va_get (D := (dC, dI)) (ci := 0) (v := .ref (q 1)) (C := zk_RC) (T := zk_TC) (N := 12) hx hb hts kl_C hown hK hP 4 rfl rfl 4 (by decide) (hts _ kj_146) (fun _ h9 => h9) rfl kd_C_bringIn_72 ?_
    refine lv_iload hx hb kd_C_bringIn_75 (lv_at hl 0 rfl) ?_
    refine lv_iload_n hx hb kd_C_bringIn_77 rfl (lv_at hl 3 rfl) ?_
    refine zz_iast hx hb hK hP hD hS 0 0 rfl rfl (k := a * wy + pl) (by omega) (by decide) kd_C_bringIn_78 (fun H locs hP hD hS => ?_)
    have hP : va_P (dC, dI) zk_cl [(q 1, .inl (cI, 128, .inl (upd fb (a * wy + pl) x))), (q 2, .inl (cZ, 128, .inl fd)), (q 3, .inl (cI, 128, .inl fs)), (q 4, .inl (cI, 16, .inl ft)), (q 0, zc_ob q sb wy kd bb hi mi vi1 wb1)] H := hP
    have hD : va_D A [(q 1, .inl (cI, 128, .inl (upd fb (a * wy + pl) x))), (q 2, .inl (cZ, 128, .inl fd)), (q 3, .inl (cI, 128, .inl fs)), (q 4, .inl (cI, 16, .inl ft)), (q 0, zc_ob q sb wy kd bb hi mi vi1 wb1)] := hD
    refine lv_aload_n hx hb kd_C_bringIn_79 rfl (lv_at hl 1 rfl) ?_
    refine va_get (D := (dC, dI)) (ci := 0) (v := .ref (q 2)) (C := zk_RC) (T := zk_TC) (N := 12) hx hb hts kl_C hown hK hP 4 rfl rfl 5 (by decide) (hts _ kj_147) (fun _ h9 => h9) rfl kd_C_bringIn_80 ?_
    refine lv_iload hx hb kd_C_bringIn_83 (lv_at hl 0 rfl) ?_
    refine lv_iconst (v := nI 0) hx hb kd_C_bringIn_85 (by decide) ?_
    refine zz_zast hx hb hK hP hD hS 1 1 rfl rfl (k := a * wy + pl) (by omega) (by decide) (Or.inl rfl) kd_C_bringIn_86 (fun H locs hP hD hS => ?_)
    have hP : va_P (dC, dI) zk_cl [(q 1, .inl (cI, 128, .inl (upd fb (a * wy + pl) x))), (q 2, .inl (cZ, 128, .inl (upd fd (a * wy + pl) (nI 0)))), (q 3, .inl (cI, 128, .inl fs)), (q 4, .inl (cI, 16, .inl ft)), (q 0, zc_ob q sb wy kd bb hi mi vi1 wb1)] H := hP
    have hD : va_D A [(q 1, .inl (cI, 128, .inl (upd fb (a * wy + pl) x))), (q 2, .inl (cZ, 128, .inl (upd fd (a * wy + pl) (nI 0)))), (q 3, .inl (cI, 128, .inl fs)), (q 4, .inl (cI, 16, .inl ft)), (q 0, zc_ob q sb wy kd bb hi mi vi1 wb1)] := hD
    refine lv_iload_n hx hb kd_C_bringIn_87 rfl (lv_at hl 4 rfl) ?_
    exact hret _ _ _ _ _ _ kd_C_bringIn_88 (hP.sub [4, 0, 1, 2, 3] rfl) (hD.sub [4, 0, 1, 2, 3] (by decide) rfl) hS (⟨pl, vi1, wb1, rfl, rfl, (hbi)⟩)
  refine lv_aload_n hx hb kd_C_bringIn_0 rfl (lv_at hl 0 rfl) ?_
  refine lv_iload_n hx hb kd_C_bringIn_1 rfl (lv_at hl 1 rfl) ?_
  refine lv_iconst (v := (-1)) hx hb kd_C_bringIn_2 (by decide) ?_
  refine zz_iV (As := [.int (nI a), .int (-1)]) (rest := []) (wc := [(q 0, zc_ob q sb wy kd bb hi mi vi wb), (q 1, .inl (cI, 128, .inl fb))]) (wr := [(q 2, .inl (cZ, 128, .inl fd)), (q 3, .inl (cI, 128, .inl fs)), (q 4, .inl (cI, 16, .inl ft))]) ⟨hx, hb, hml, hown, hts⟩ (cc_findPlace l dC dI cI cZ cO cL q sb wy kd bb hi mi vi wb fb a (-1) (hwy.2) (zu_ix ha hwy.2)) (zz_cwV hts kj_212 kj_33 kj_210 kj_211 kj_2 kz_C_findPlace rfl rfl ⟨Nat.le_of_ble_eq_true rfl, Nat.le_of_ble_eq_true rfl⟩) (hP.sub [2, 3, 4, 0, 1] rfl) (hD.sub [2, 3, 4, 0, 1] (by decide) rfl) hK hS hA (q0 := 0) rfl rfl rfl rfl hl.1 rfl (Nat.le_of_ble_eq_true rfl) kd_C_bringIn_3 ⟨by decide, by decide⟩ (fun r9 w9 H locs hw hP hD hS => ?_)
  generalize r9 = r0 at hw ⊢
  obtain ⟨rfl, fp3⟩ := hw
  have hP : va_P (dC, dI) zk_cl [(q 2, .inl (cZ, 128, .inl fd)), (q 3, .inl (cI, 128, .inl fs)), (q 4, .inl (cI, 16, .inl ft)), (q 0, zc_ob q sb wy kd bb hi mi vi wb), (q 1, .inl (cI, 128, .inl fb))] H := hP
  have hD : va_D A [(q 2, .inl (cZ, 128, .inl fd)), (q 3, .inl (cI, 128, .inl fs)), (q 4, .inl (cI, 16, .inl ft)), (q 0, zc_ob q sb wy kd bb hi mi vi wb), (q 1, .inl (cI, 128, .inl fb))] := hD
  refine lv_istore_n (lv' := [(3, .int r0), (0, .ref (q 0)), (1, .int (nI a)), (2, .int x)]) hx hb kd_C_bringIn_6 rfl hl (by decide) rfl (fun ls hl => ?_)
  refine lv_iload_n hx hb kd_C_bringIn_7 rfl (lv_at hl 0 rfl) ?_
  refine lv_iconst (v := (-1)) hx hb kd_C_bringIn_8 (by decide) ?_
  refine lv_icmp_ne (tgt := 63) hx hb kd_C_bringIn_9 (by decide) (fun c9 => ?_) (fun c9 => ?_)
  · skip
    obtain ⟨pl0, hpl0, rfl⟩ := zf_FP_lt fp3 c9
    exact hc63 pl0 vi wb  (by first | exact ⟨hpl0, Or.inl ⟨fp3, rfl, rfl⟩⟩ | exact ⟨hpl, Or.inr ⟨c9 ▸ fp3, hv, rfl, Or.inl ⟨c50, rfl⟩⟩⟩ | exact ⟨hpl, Or.inr ⟨c9 ▸ fp3, hv, rfl, Or.inr ⟨c50, rfl⟩⟩⟩) _ _ (hP.sub [3, 4, 0, 1, 2] rfl) (hD.sub [3, 4, 0, 1, 2] (by decide) rfl) hS ls (lv_sub hl [1, 2, 3, 0] rfl)
  · skip
    have hc33 : ∀ (pl : Nat), (pl < wy) → ((kd = 2 ∧ pl = zt_pt (zt_b t) 4 (wy / 2) 1 0) ∨ (kd ≠ 2 ∧ zf_AM (fun k => fs (a * wy + k)) wy pl)) → ∀ (H : Heap) (locs : List Loc), va_P (dC, dI) zk_cl [(q 0, zc_ob q sb wy kd bb hi mi vi wb), (q 1, .inl (cI, 128, .inl fb)), (q 2, .inl (cZ, 128, .inl fd)), (q 3, .inl (cI, 128, .inl fs)), (q 4, .inl (cI, 16, .inl ft))] H → va_D A [(q 0, zc_ob q sb wy kd bb hi mi vi wb), (q 1, .inl (cI, 128, .inl fb)), (q 2, .inl (cZ, 128, .inl fd)), (q 3, .inl (cI, 128, .inl fs)), (q 4, .inl (cI, 16, .inl ft))] → va_S A s.heap H locs → ∀ ls : Array Slot, lv_has ls 5 [(0, .ref (q 0)), (1, .int (nI a)), (2, .int x)] → W p l e rm_cc_bringIn s m args below meth c H locs 0 0 Q (F0 m 33 ls [.int (nI pl)]) := by
      intro pl hpl hv H locs hP hD hS ls hl
      have hi0 := zu_ix ha hwy.2
      refine lv_istore_n (lv' := [(3, .int (nI pl)), (0, .ref (q 0)), (1, .int (nI a)), (2, .int x)]) hx hb kd_C_bringIn_33 rfl hl (by decide) rfl (fun ls hl => ?_)
      refine lv_aload_n hx hb kd_C_bringIn_34 rfl (lv_at hl 1 rfl) ?_
      refine lv_dup hx hb kd_C_bringIn_35 rfl ?_
      refine va_get (D := (dC, dI)) (ci := 0) (v := .int vi) (C := zk_RC) (T := zk_TC) (N := 12) hx hb hts kl_C hown hK hP 0 rfl rfl 10 (by decide) (hts _ kj_154) (fun _ h9 => h9) rfl kd_C_bringIn_36 ?_
      refine lv_iconst (v := nI 1) hx hb kd_C_bringIn_39 (by decide) ?_
      refine lv_iadd hx hb kd_C_bringIn_40 ?_
      refine va_put (D := (dC, dI)) (ci := 0) (v := .int (vi + (nI 1))) (ty := .int) (C := zk_RC) (T := zk_TC) (N := 12) hx hb hts kl_C zk_tC zk_kC zk_nC hown hK hP hD hS 0 rfl rfl 10 (by decide) (hts _ kj_154) (fun _ h9 => h9) rfl (by decide +kernel) rfl rfl (Nat.le_of_ble_eq_true rfl) kd_C_bringIn_41 (fun H locs hP hD hS => ?_)
      have hP : va_P (dC, dI) zk_cl [(q 0, zc_ob q sb wy kd bb hi mi (vi + (nI 1)) wb), (q 1, .inl (cI, 128, .inl fb)), (q 2, .inl (cZ, 128, .inl fd)), (q 3, .inl (cI, 128, .inl fs)), (q 4, .inl (cI, 16, .inl ft))] H := hP
      have hD : va_D A [(q 0, zc_ob q sb wy kd bb hi mi (vi + (nI 1)) wb), (q 1, .inl (cI, 128, .inl fb)), (q 2, .inl (cZ, 128, .inl fd)), (q 3, .inl (cI, 128, .inl fs)), (q 4, .inl (cI, 16, .inl ft))] := hD
      refine lv_aload_n hx hb kd_C_bringIn_44 rfl (lv_at hl 1 rfl) ?_
      refine lv_iload_n hx hb kd_C_bringIn_45 rfl (lv_at hl 2 rfl) ?_
      refine lv_iload_n hx hb kd_C_bringIn_46 rfl (lv_at hl 0 rfl) ?_
      refine zz_iV (As := [.int (nI a), .int (nI pl)]) (rest := []) (wc := [(q 0, zc_ob q sb wy kd bb hi mi (vi + (nI 1)) wb), (q 2, .inl (cZ, 128, .inl fd))]) (wr := [(q 1, .inl (cI, 128, .inl fb)), (q 3, .inl (cI, 128, .inl fs)), (q 4, .inl (cI, 16, .inl ft))]) ⟨hx, hb, hml, hown, hts⟩ (cc_isDirtyAt l dC dI cI cZ cO cL q sb wy kd bb hi mi (vi + (nI 1)) wb fd a pl (by omega) (hbit _ (by omega))) (zz_cwV hts kj_232 kj_33 kj_229 kj_230 kj_231 kz_C_isDirtyAt rfl rfl ⟨Nat.le_of_ble_eq_true rfl, Nat.le_of_ble_eq_true rfl⟩) (hP.sub [1, 3, 4, 0, 2] rfl) (hD.sub [1, 3, 4, 0, 2] (by decide) rfl) hK hS hA (q0 := 0) rfl rfl rfl rfl hl.1 rfl (Nat.le_of_ble_eq_true rfl) kd_C_bringIn_47 ⟨by decide, by decide⟩ (fun r9 w9 H locs hw hP hD hS => ?_)
      obtain ⟨rfl, rfl⟩ := hw
      have hP : va_P (dC, dI) zk_cl [(q 1, .inl (cI, 128, .inl fb)), (q 3, .inl (cI, 128, .inl fs)), (q 4, .inl (cI, 16, .inl ft)), (q 0, zc_ob q sb wy kd bb hi mi (vi + (nI 1)) wb), (q 2, .inl (cZ, 128, .inl fd))] H := hP
      have hD : va_D A [(q 1, .inl (cI, 128, .inl fb)), (q 3, .inl (cI, 128, .inl fs)), (q 4, .inl (cI, 16, .inl ft)), (q 0, zc_ob q sb wy kd bb hi mi (vi + (nI 1)) wb), (q 2, .inl (cZ, 128, .inl fd))] := hD
      refine lv_if_eq (tgt := 63) hx hb kd_C_bringIn_50 (by decide) (fun c50 => ?_) (fun c50 => ?_)
      · skip
        exact hc63 pl (vi + (nI 1)) wb  (by first | exact ⟨hpl0, Or.inl ⟨fp3, rfl, rfl⟩⟩ | exact ⟨hpl, Or.inr ⟨c9 ▸ fp3, hv, rfl, Or.inl ⟨c50, rfl⟩⟩⟩ | exact ⟨hpl, Or.inr ⟨c9 ▸ fp3, hv, rfl, Or.inr ⟨c50, rfl⟩⟩⟩) _ _ (hP.sub [3, 0, 4, 1, 2] rfl) (hD.sub [3, 0, 4, 1, 2] (by decide) rfl) hS ls (lv_sub hl [1, 2, 3, 0] rfl)
      · skip
        refine lv_aload_n hx hb kd_C_bringIn_53 rfl (lv_at hl 1 rfl) ?_
        refine lv_dup hx hb kd_C_bringIn_54 rfl ?_
        refine va_get (D := (dC, dI)) (ci := 0) (v := .int wb) (C := zk_RC) (T := zk_TC) (N := 12) hx hb hts kl_C hown hK hP 3 rfl rfl 11 (by decide) (hts _ kj_156) (fun _ h9 => h9) rfl kd_C_bringIn_55 ?_
        refine lv_iconst (v := nI 1) hx hb kd_C_bringIn_58 (by decide) ?_
        refine lv_iadd hx hb kd_C_bringIn_59 ?_
        refine va_put (D := (dC, dI)) (ci := 0) (v := .int (wb + (nI 1))) (ty := .int) (C := zk_RC) (T := zk_TC) (N := 12) hx hb hts kl_C zk_tC zk_kC zk_nC hown hK hP hD hS 3 rfl rfl 11 (by decide) (hts _ kj_156) (fun _ h9 => h9) rfl (by decide +kernel) rfl rfl (Nat.le_of_ble_eq_true rfl) kd_C_bringIn_60 (fun H locs hP hD hS => ?_)
        have hP : va_P (dC, dI) zk_cl [(q 1, .inl (cI, 128, .inl fb)), (q 3, .inl (cI, 128, .inl fs)), (q 4, .inl (cI, 16, .inl ft)), (q 0, zc_ob q sb wy kd bb hi mi (vi + (nI 1)) (wb + (nI 1))), (q 2, .inl (cZ, 128, .inl fd))] H := hP
        have hD : va_D A [(q 1, .inl (cI, 128, .inl fb)), (q 3, .inl (cI, 128, .inl fs)), (q 4, .inl (cI, 16, .inl ft)), (q 0, zc_ob q sb wy kd bb hi mi (vi + (nI 1)) (wb + (nI 1))), (q 2, .inl (cZ, 128, .inl fd))] := hD
        exact hc63 pl (vi + (nI 1)) (wb + (nI 1))  (by first | exact ⟨hpl0, Or.inl ⟨fp3, rfl, rfl⟩⟩ | exact ⟨hpl, Or.inr ⟨c9 ▸ fp3, hv, rfl, Or.inl ⟨c50, rfl⟩⟩⟩ | exact ⟨hpl, Or.inr ⟨c9 ▸ fp3, hv, rfl, Or.inr ⟨c50, rfl⟩⟩⟩) _ _ (hP.sub [3, 0, 4, 1, 2] rfl) (hD.sub [3, 0, 4, 1, 2] (by decide) rfl) hS ls (lv_sub hl [1, 2, 3, 0] rfl)
    refine lv_aload_n hx hb kd_C_bringIn_12 rfl (lv_at hl 1 rfl) ?_
    refine va_get (D := (dC, dI)) (ci := 0) (v := .int (nI kd)) (C := zk_RC) (T := zk_TC) (N := 12) hx hb hts kl_C hown hK hP 3 rfl rfl 2 (by decide) (hts _ kj_144) (fun _ h9 => h9) rfl kd_C_bringIn_13 ?_
    refine lv_iconst (v := nI 2) hx hb kd_C_bringIn_16 (by decide) ?_
    refine zz_icmp_ne (tgt := 28) hx hb kd_C_bringIn_17 (by decide) (by omega) (by decide) (fun c17 => ?_) (fun c17 => ?_)
    · skip
      refine lv_aload_n hx hb kd_C_bringIn_28 rfl (lv_at hl 1 rfl) ?_
      refine lv_iload_n hx hb kd_C_bringIn_29 rfl (lv_at hl 2 rfl) ?_
      refine zz_iV (As := [.int (nI a)]) (rest := []) (wc := [(q 0, zc_ob q sb wy kd bb hi mi vi wb), (q 3, .inl (cI, 128, .inl fs))]) (wr := [(q 2, .inl (cZ, 128, .inl fd)), (q 4, .inl (cI, 16, .inl ft)), (q 1, .inl (cI, 128, .inl fb))]) ⟨hx, hb, hml, hown, hts⟩ (cc_oldestPlace l dC dI cI cZ cO cL q sb wy kd bb hi mi vi wb fs a (hwy) (zu_ix ha hwy.2)) (zz_cwV hts kj_228 kj_33 kj_226 kj_227 kj_6 kz_C_oldestPlace rfl rfl ⟨Nat.le_of_ble_eq_true rfl, Nat.le_of_ble_eq_true rfl⟩) (hP.sub [0, 2, 4, 3, 1] rfl) (hD.sub [0, 2, 4, 3, 1] (by decide) rfl) hK hS hA (q0 := 0) rfl rfl rfl rfl hl.1 rfl (Nat.le_of_ble_eq_true rfl) kd_C_bringIn_30 ⟨by decide, by decide⟩ (fun r9 w9 H locs hw hP hD hS => ?_)
      obtain ⟨o_3, rfl, rfl, am30⟩ := hw
      have hP : va_P (dC, dI) zk_cl [(q 2, .inl (cZ, 128, .inl fd)), (q 4, .inl (cI, 16, .inl ft)), (q 1, .inl (cI, 128, .inl fb)), (q 0, zc_ob q sb wy kd bb hi mi vi wb), (q 3, .inl (cI, 128, .inl fs))] H := hP
      have hD : va_D A [(q 2, .inl (cZ, 128, .inl fd)), (q 4, .inl (cI, 16, .inl ft)), (q 1, .inl (cI, 128, .inl fb)), (q 0, zc_ob q sb wy kd bb hi mi vi wb), (q 3, .inl (cI, 128, .inl fs))] := hD
      exact hc33 o_3  (by first | exact zt_pt_lt (hk2 c17) | exact am30.1) (by first | exact Or.inl ⟨c17, rfl⟩ | exact Or.inr ⟨c17, am30⟩) _ _ (hP.sub [3, 2, 0, 4, 1] rfl) (hD.sub [3, 2, 0, 4, 1] (by decide) rfl) hS ls (lv_sub hl [1, 2, 3] rfl)
    · skip
      refine lv_aload_n hx hb kd_C_bringIn_20 rfl (lv_at hl 1 rfl) ?_
      refine lv_iload_n hx hb kd_C_bringIn_21 rfl (lv_at hl 2 rfl) ?_
      refine zz_iV (As := [.int (nI a)]) (rest := []) (wc := [(q 0, zc_ob q sb wy kd bb hi mi vi wb), (q 4, .inl (cI, 16, .inl ft))]) (wr := [(q 2, .inl (cZ, 128, .inl fd)), (q 3, .inl (cI, 128, .inl fs)), (q 1, .inl (cI, 128, .inl fb))]) ⟨hx, hb, hml, hown, hts⟩ (cc_pointedPlace l dC dI cI cZ cO cL q sb wy kd bb hi mi vi wb ft a t (hk2 c17) (ha) (hft) (ht)) (zz_cwV hts kj_225 kj_33 kj_223 kj_224 kj_5 kz_C_pointedPlace rfl rfl ⟨Nat.le_of_ble_eq_true rfl, Nat.le_of_ble_eq_true rfl⟩) (hP.sub [0, 1, 4, 3, 2] rfl) (hD.sub [0, 1, 4, 3, 2] (by decide) rfl) hK hS hA (q0 := 0) rfl rfl rfl rfl hl.1 rfl (Nat.le_of_ble_eq_true rfl) kd_C_bringIn_22 ⟨by decide, by decide⟩ (fun r9 w9 H locs hw hP hD hS => ?_)
      obtain ⟨rfl, rfl⟩ := hw
      have hP : va_P (dC, dI) zk_cl [(q 2, .inl (cZ, 128, .inl fd)), (q 3, .inl (cI, 128, .inl fs)), (q 1, .inl (cI, 128, .inl fb)), (q 0, zc_ob q sb wy kd bb hi mi vi wb), (q 4, .inl (cI, 16, .inl ft))] H := hP
      have hD : va_D A [(q 2, .inl (cZ, 128, .inl fd)), (q 3, .inl (cI, 128, .inl fs)), (q 1, .inl (cI, 128, .inl fb)), (q 0, zc_ob q sb wy kd bb hi mi vi wb), (q 4, .inl (cI, 16, .inl ft))] := hD
      refine lv_goto (tgt := 33) hx hb kd_C_bringIn_25 (by decide) ?_
      exact hc33 (zt_pt (zt_b t) 4 (wy / 2) 1 0)  (by first | exact zt_pt_lt (hk2 c17) | exact am30.1) (by first | exact Or.inl ⟨c17, rfl⟩ | exact Or.inr ⟨c17, am30⟩) _ _ (hP.sub [3, 2, 0, 1, 4] rfl) (hD.sub [3, 2, 0, 1, 4] (by decide) rfl) hS ls (lv_sub hl [1, 2, 3] rfl)

def rm_cc_sees : Room := { frames := 4, cells := 0, slots := 0, locals := 91 }
set_option maxHeartbeats 4000000 in
set_option maxRecDepth 100000 in
/-- a cache sees an access -/
theorem cc_sees (l : Launch) (dC : Nat → ClassId) (dI : Nat → Nat → Nat) (cI cZ cO cL : ClassId) (q : Nat → Nat) (sb : Nat) (wy : Nat) (kd : Nat) (bb : Nat) (hi : Int32) (mi : Int32) (vi : Int32) (wb : Int32) (fb : Nat → Int32) (fd : Nat → Int32) (fs : Nat → Int32) (ft : Nat → Int32) (tr : Nat → Nat) (ad : Nat) (b : Nat) (a : Nat) (wr : Int32) (num : Int32) (had : ad < 4096) (hsb : sb ≤ 4) (hbb : bb ≤ 6) (hwy : 1 ≤ wy ∧ wy ≤ 8) (hk2 : kd = 2 → wy = 1 ∨ wy = 2 ∨ wy = 4 ∨ wy = 8) (hkd : kd ≤ 2) (hbit : ∀ j, j < 128 → fd j = 0 ∨ fd j = 1) (htr : ∀ j, j < 16 → ft j = nI (tr j) ∧ tr j < 256) (hb1 : ad / 2 ^ bb = b) (ha1 : b % 2 ^ sb = a) (hb2 : b < 4096) : zz_Mi l ky_C_sees kw_C_sees rm_cc_sees (dC, dI) (zz_ty cI cZ cO cL) [(q 0, zc_ob q sb wy kd bb hi mi vi wb), (q 1, .inl (cI, 128, .inl fb)), (q 2, .inl (cZ, 128, .inl fd)), (q 3, .inl (cI, 128, .inl fs)), (q 4, .inl (cI, 16, .inl ft))] [.ref (q 0), .int (nI ad), .int wr, .int num] (fun (r : Int32) (w : va_W) => ∃ (h : Nat), ∃ (pl : Nat), ∃ (fb2 : Nat → Int32), ∃ (fd2 : Nat → Int32), ∃ (fs2 : Nat → Int32), ∃ (ft2 : Nat → Int32), ∃ (hi2 : Int32), ∃ (mi2 : Int32), ∃ (vi2 : Int32), ∃ (wb2 : Int32), w = [(q 0, zc_ob q sb wy kd bb hi2 mi2 vi2 wb2), (q 1, .inl (cI, 128, .inl fb2)), (q 2, .inl (cZ, 128, .inl fd2)), (q 3, .inl (cI, 128, .inl fs2)), (q 4, .inl (cI, 16, .inl ft2))] ∧ (r = nI h) ∧ (pl < wy) ∧ ((h = 1 ∧ zf_FP (fun k => fb (a * wy + k)) wy (nI b) (nI pl) ∧ hi2 = hi + 1 ∧ mi2 = mi ∧ vi2 = vi ∧ wb2 = wb ∧ fb2 = fb) ∨ (h = 0 ∧ zf_FP (fun k => fb (a * wy + k)) wy (nI b) (-1) ∧ zc_bi wy kd (fun k => fb (a * wy + k)) (fun k => fs (a * wy + k)) (fun k => fd (a * wy + k)) (zt_b (tr a)) pl vi wb vi2 wb2 ∧ hi2 = hi ∧ mi2 = mi + 1 ∧ fb2 = upd fb (a * wy + pl) (nI b))) ∧ ((∀ j, j ≠ a * wy + pl → fd2 j = fd j) ∧ fd2 (a * wy + pl) = if wr = 0 then (if h = 1 then fd (a * wy + pl) else 0) else 1) ∧ ((∀ j, j ≠ a * wy + pl → fs2 j = fs j) ∧ fs2 (a * wy + pl) = if h = 1 ∧ kd = 1 then fs (a * wy + pl) else num) ∧ ((kd ≠ 2 → ft2 = ft) ∧ (kd = 2 → ∃ t2, t2 < 256 ∧ ft2 = upd ft a (nI t2) ∧ zt_b t2 = zt_pa pl 4 (wy / 2) 1 (zt_b (tr a))))) 0 0 := by
  refine zz_entry_z (cc := kb_C_sees) (maxL := 9) (own := zk_RC) (by decide) rfl rfl (Nat.le_of_ble_eq_true rfl) ?_
  intro p e s m args below meth c Q hx hb hml hown hts hin hP hK A hD hA hS hret ls hl
  have hl : lv_has ls 9 [(0, .ref (q 0)), (1, .int (nI ad)), (2, .int wr), (3, .int num)] := hl
  obtain ⟨H, eH⟩ : ∃ z, z = s.heap := ⟨_, rfl⟩
  obtain ⟨locs, eL⟩ : ∃ z : List Loc, z = [] := ⟨_, rfl⟩
  rw [← eH] at hP ⊢
  have hS : va_S A s.heap H locs := by rw [eH, eL]; exact hS
  rw [← eL]
  have ha : a < 16 := by rw [← ha1]; exact zu_set hsb
  have hi0 := zu_ix ha hwy.2
  refine lv_iload_n hx hb kd_C_sees_0 rfl (lv_at hl 1 rfl) ?_
  refine lv_aload_n hx hb kd_C_sees_1 rfl (lv_at hl 0 rfl) ?_
  refine va_get (D := (dC, dI)) (ci := 0) (v := .int (nI bb)) (C := zk_RC) (T := zk_TC) (N := 12) hx hb hts kl_C hown hK hP 0 rfl rfl 3 (by decide) (hts _ kj_145) (fun _ h9 => h9) rfl kd_C_sees_2 ?_
  refine lv_ishr hx hb kd_C_sees_5 ?_
  refine zz_top (y := nI b) ((zn_shr (by omega) (by omega)).trans (by rw [hb1])) ?_
  refine lv_istore (lv' := [(4, .int (nI b)), (0, .ref (q 0)), (1, .int (nI ad)), (2, .int wr), (3, .int num)]) hx hb kd_C_sees_6 hl (by decide) rfl (fun ls hl => ?_)
  refine lv_iload hx hb kd_C_sees_8 (lv_at hl 0 rfl) ?_
  refine lv_aload_n hx hb kd_C_sees_10 rfl (lv_at hl 1 rfl) ?_
  refine zz_iV (As := []) (rest := [.int (nI b)]) (wc := [(q 0, zc_ob q sb wy kd bb hi mi vi wb)]) (wr := [(q 1, .inl (cI, 128, .inl fb)), (q 2, .inl (cZ, 128, .inl fd)), (q 3, .inl (cI, 128, .inl fs)), (q 4, .inl (cI, 16, .inl ft))]) ⟨hx, hb, hml, hown, hts⟩ (cc_countSets l dC dI cI cZ cO cL q sb wy kd bb hi mi vi wb (by omega)) (zz_cwV hts kj_209 kj_33 kj_207 kj_208 kj_1 kz_C_countSets rfl rfl ⟨Nat.le_of_ble_eq_true rfl, Nat.le_of_ble_eq_true rfl⟩) (hP.sub [1, 2, 3, 4, 0] rfl) (hD.sub [1, 2, 3, 4, 0] (by decide) rfl) hK hS hA (q0 := 0) rfl rfl rfl rfl hl.1 rfl (Nat.le_of_ble_eq_true rfl) kd_C_sees_11 ⟨by decide, by decide⟩ (fun r9 w9 H locs hw hP hD hS => ?_)
  obtain ⟨rfl, rfl⟩ := hw
  have hP : va_P (dC, dI) zk_cl [(q 1, .inl (cI, 128, .inl fb)), (q 2, .inl (cZ, 128, .inl fd)), (q 3, .inl (cI, 128, .inl fs)), (q 4, .inl (cI, 16, .inl ft)), (q 0, zc_ob q sb wy kd bb hi mi vi wb)] H := hP
  have hD : va_D A [(q 1, .inl (cI, 128, .inl fb)), (q 2, .inl (cZ, 128, .inl fd)), (q 3, .inl (cI, 128, .inl fs)), (q 4, .inl (cI, 16, .inl ft)), (q 0, zc_ob q sb wy kd bb hi mi vi wb)] := hD
  refine lv_iconst (v := nI 1) hx hb kd_C_sees_14 (by decide) ?_
  refine lv_isub hx hb kd_C_sees_15 ?_
  refine zz_top (y := nI (2 ^ sb - 1)) (pk_sub Nat.one_le_two_pow) ?_
  refine lv_iand hx hb kd_C_sees_16 ?_
  refine zz_top (y := nI a) ((zn_mask (by omega) (by omega)).trans (by rw [ha1])) ?_
  refine lv_istore (lv' := [(5, .int (nI a)), (4, .int (nI b)), (0, .ref (q 0)), (1, .int (nI ad)), (2, .int wr), (3, .int num)]) hx hb kd_C_sees_17 hl (by decide) rfl (fun ls hl => ?_)
  refine lv_aload_n hx hb kd_C_sees_19 rfl (lv_at hl 2 rfl) ?_
  refine lv_iload hx hb kd_C_sees_20 (lv_at hl 0 rfl) ?_
  refine lv_iload hx hb kd_C_sees_22 (lv_at hl 1 rfl) ?_
  refine zz_iV (As := [.int (nI a), .int (nI b)]) (rest := []) (wc := [(q 0, zc_ob q sb wy kd bb hi mi vi wb), (q 1, .inl (cI, 128, .inl fb))]) (wr := [(q 2, .inl (cZ, 128, .inl fd)), (q 3, .inl (cI, 128, .inl fs)), (q 4, .inl (cI, 16, .inl ft))]) ⟨hx, hb, hml, hown, hts⟩ (cc_findPlace l dC dI cI cZ cO cL q sb wy kd bb hi mi vi wb fb a (nI b) (hwy.2) (hi0)) (zz_cwV hts kj_212 kj_33 kj_210 kj_211 kj_2 kz_C_findPlace rfl rfl ⟨Nat.le_of_ble_eq_true rfl, Nat.le_of_ble_eq_true rfl⟩) (hP.sub [1, 2, 3, 4, 0] rfl) (hD.sub [1, 2, 3, 4, 0] (by decide) rfl) hK hS hA (q0 := 0) rfl rfl rfl rfl hl.1 rfl (Nat.le_of_ble_eq_true rfl) kd_C_sees_24 ⟨by decide, by decide⟩ (fun r9 w9 H locs hw hP hD hS => ?_)
  generalize r9 = r0 at hw ⊢
  obtain ⟨rfl, fp24⟩ := hw
  have hP : va_P (dC, dI) zk_cl [(q 2, .inl (cZ, 128, .inl fd)), (q 3, .inl (cI, 128, .inl fs)), (q 4, .inl (cI, 16, .inl ft)), (q 0, zc_ob q sb wy kd bb hi mi vi wb), (q 1, .inl (cI, 128, .inl fb))] H := hP
  have hD : va_D A [(q 2, .inl (cZ, 128, .inl fd)), (q 3, .inl (cI, 128, .inl fs)), (q 4, .inl (cI, 16, .inl ft)), (q 0, zc_ob q sb wy kd bb hi mi vi wb), (q 1, .inl (cI, 128, .inl fb))] := hD
  refine lv_istore (lv' := [(6, .int r0), (5, .int (nI a)), (4, .int (nI b)), (0, .ref (q 0)), (1, .int (nI ad)), (2, .int wr), (3, .int num)]) hx hb kd_C_sees_27 hl (by decide) rfl (fun ls hl => ?_)
  have hc80 : ∀ (h : Nat) (pl : Nat) (fb1 : Nat → Int32) (fd1 : Nat → Int32) (hi1 : Int32) (mi1 : Int32) (vi1 : Int32) (wb1 : Int32), (pl < wy) → ((h = 1 ∧ zf_FP (fun k => fb (a * wy + k)) wy (nI b) (nI pl) ∧ hi1 = hi + 1 ∧ mi1 = mi ∧ vi1 = vi ∧ wb1 = wb ∧ fb1 = fb) ∨ (h = 0 ∧ zf_FP (fun k => fb (a * wy + k)) wy (nI b) (-1) ∧ zc_bi wy kd (fun k => fb (a * wy + k)) (fun k => fs (a * wy + k)) (fun k => fd (a * wy + k)) (zt_b (tr a)) pl vi wb vi1 wb1 ∧ hi1 = hi ∧ mi1 = mi + 1 ∧ fb1 = upd fb (a * wy + pl) (nI b))) → ((∀ j, j ≠ a * wy + pl → fd1 j = fd j) ∧ fd1 (a * wy + pl) = if h = 1 then fd (a * wy + pl) else 0) → ∀ (H : Heap) (locs : List Loc), va_P (dC, dI) zk_cl [(q 0, zc_ob q sb wy kd bb hi1 mi1 vi1 wb1), (q 1, .inl (cI, 128, .inl fb1)), (q 2, .inl (cZ, 128, .inl fd1)), (q 3, .inl (cI, 128, .inl fs)), (q 4, .inl (cI, 16, .inl ft))] H → va_D A [(q 0, zc_ob q sb wy kd bb hi1 mi1 vi1 wb1), (q 1, .inl (cI, 128, .inl fb1)), (q 2, .inl (cZ, 128, .inl fd1)), (q 3, .inl (cI, 128, .inl fs)), (q 4, .inl (cI, 16, .inl ft))] → va_S A s.heap H locs → ∀ ls : Array Slot, lv_has ls 9 [(0, .ref (q 0)), (2, .int wr), (3, .int num), (5, .int (nI a)), (6, .int (nI pl)), (7, .int (nI h))] → W p l e rm_cc_sees s m args below meth c H locs 0 0 Q (F0 m 80 ls []) := by
    intro h pl fb1 fd1 hi1 mi1 vi1 wb1 hpl hc hd1 H locs hP hD hS ls hl
    have hh : h ≤ 1 := by rcases hc with ⟨z, _⟩ | ⟨z, _⟩ <;> omega
    have ha : a < 16 := by rw [← ha1]; exact zu_set hsb
    have hi0 := zu_ix ha hwy.2
    refine lv_aload_n hx hb kd_C_sees_80 rfl (lv_at hl 0 rfl) ?_
    refine lv_iload hx hb kd_C_sees_81 (lv_at hl 3 rfl) ?_
    refine lv_iload hx hb kd_C_sees_83 (lv_at hl 4 rfl) ?_
    refine zz_iV (As := [.int (nI a), .int (nI pl)]) (rest := []) (wc := [(q 0, zc_ob q sb wy kd bb hi1 mi1 vi1 wb1)]) (wr := [(q 1, .inl (cI, 128, .inl fb1)), (q 2, .inl (cZ, 128, .inl fd1)), (q 3, .inl (cI, 128, .inl fs)), (q 4, .inl (cI, 16, .inl ft))]) ⟨hx, hb, hml, hown, hts⟩ (cc_slotOf l dC dI cI cZ cO cL q sb wy kd bb hi1 mi1 vi1 wb1 a pl ) (zz_cwV hts kj_219 kj_33 kj_217 kj_218 kj_3 kz_C_slotOf rfl rfl ⟨Nat.le_of_ble_eq_true rfl, Nat.le_of_ble_eq_true rfl⟩) (hP.sub [1, 2, 3, 4, 0] rfl) (hD.sub [1, 2, 3, 4, 0] (by decide) rfl) hK hS hA (q0 := 0) rfl rfl rfl rfl hl.1 rfl (Nat.le_of_ble_eq_true rfl) kd_C_sees_85 ⟨by decide, by decide⟩ (fun r9 w9 H locs hw hP hD hS => ?_)
    obtain ⟨rfl, rfl⟩ := hw
    have hP : va_P (dC, dI) zk_cl [(q 1, .inl (cI, 128, .inl fb1)), (q 2, .inl (cZ, 128, .inl fd1)), (q 3, .inl (cI, 128, .inl fs)), (q 4, .inl (cI, 16, .inl ft)), (q 0, zc_ob q sb wy kd bb hi1 mi1 vi1 wb1)] H := hP
    have hD : va_D A [(q 1, .inl (cI, 128, .inl fb1)), (q 2, .inl (cZ, 128, .inl fd1)), (q 3, .inl (cI, 128, .inl fs)), (q 4, .inl (cI, 16, .inl ft)), (q 0, zc_ob q sb wy kd bb hi1 mi1 vi1 wb1)] := hD
    refine lv_istore (lv' := [(8, .int (nI (a * wy + pl))), (0, .ref (q 0)), (2, .int wr), (3, .int num), (5, .int (nI a)), (6, .int (nI pl)), (7, .int (nI h))]) hx hb kd_C_sees_88 hl (by decide) rfl (fun ls hl => ?_)
    have hc123 : ∀ (fd2 : Nat → Int32) (fs2 : Nat → Int32), ((∀ j, j ≠ a * wy + pl → fd2 j = fd j) ∧ fd2 (a * wy + pl) = if wr = 0 then (if h = 1 then fd (a * wy + pl) else 0) else 1) → ((∀ j, j ≠ a * wy + pl → fs2 j = fs j) ∧ fs2 (a * wy + pl) = if h = 1 ∧ kd = 1 then fs (a * wy + pl) else num) → ∀ (H : Heap) (locs : List Loc), va_P (dC, dI) zk_cl [(q 0, zc_ob q sb wy kd bb hi1 mi1 vi1 wb1), (q 1, .inl (cI, 128, .inl fb1)), (q 2, .inl (cZ, 128, .inl fd2)), (q 3, .inl (cI, 128, .inl fs2)), (q 4, .inl (cI, 16, .inl ft))] H → va_D A [(q 0, zc_ob q sb wy kd bb hi1 mi1 vi1 wb1), (q 1, .inl (cI, 128, .inl fb1)), (q 2, .inl (cZ, 128, .inl fd2)), (q 3, .inl (cI, 128, .inl fs2)), (q 4, .inl (cI, 16, .inl ft))] → va_S A s.heap H locs → ∀ ls : Array Slot, lv_has ls 9 [(0, .ref (q 0)), (2, .int wr), (3, .int num), (5, .int (nI a)), (6, .int (nI pl)), (7, .int (nI h)), (8, .int (nI (a * wy + pl)))] → W p l e rm_cc_sees s m args below meth c H locs 0 0 Q (F0 m 123 ls []) := by
      intro fd2 fs2 hd2 hs2 H locs hP hD hS ls hl
      refine lv_aload_n hx hb kd_C_sees_123 rfl (lv_at hl 0 rfl) ?_
      refine va_get (D := (dC, dI)) (ci := 0) (v := .int (nI kd)) (C := zk_RC) (T := zk_TC) (N := 12) hx hb hts kl_C hown hK hP 0 rfl rfl 2 (by decide) (hts _ kj_144) (fun _ h9 => h9) rfl kd_C_sees_124 ?_
      refine lv_iconst (v := nI 2) hx hb kd_C_sees_127 (by decide) ?_
      refine zz_icmp_ne (tgt := 139) hx hb kd_C_sees_128 (by decide) (by omega) (by decide) (fun c128 => ?_) (fun c128 => ?_)
      · skip
        refine lv_iload hx hb kd_C_sees_139 (lv_at hl 5 rfl) ?_
        exact hret _ _ _ _ _ _ (zu_bit hh) kd_C_sees_141 hP hD hS (⟨h, pl, fb1, fd2, fs2, ft, hi1, mi1, vi1, wb1, rfl, rfl, (hpl), (hc), (hd2), (hs2), (by first | exact ⟨fun _ => rfl, fun z => absurd z c128⟩ | exact ⟨fun z => absurd c128 z, fun _ => ⟨_, g1, rfl, g2⟩⟩)⟩)
      · skip
        refine lv_aload_n hx hb kd_C_sees_131 rfl (lv_at hl 0 rfl) ?_
        refine lv_iload hx hb kd_C_sees_132 (lv_at hl 3 rfl) ?_
        refine lv_iload hx hb kd_C_sees_134 (lv_at hl 4 rfl) ?_
        refine zz_vV (As := [.int (nI a), .int (nI pl)]) (rest := []) (wc := [(q 0, zc_ob q sb wy kd bb hi1 mi1 vi1 wb1), (q 4, .inl (cI, 16, .inl ft))]) (wr := [(q 1, .inl (cI, 128, .inl fb1)), (q 2, .inl (cZ, 128, .inl fd2)), (q 3, .inl (cI, 128, .inl fs2))]) ⟨hx, hb, hml, hown, hts⟩ (cc_pointAway l dC dI cI cZ cO cL q sb wy kd bb hi1 mi1 vi1 wb1 ft a pl (tr a) (hk2 c128) (ha) (by omega) ((htr a ha).1) ((htr a ha).2)) (zz_cwV hts kj_235 kj_33 kj_233 kj_234 kj_7 kz_C_pointAway rfl rfl ⟨Nat.le_of_ble_eq_true rfl, Nat.le_of_ble_eq_true rfl⟩) (hP.sub [1, 2, 3, 0, 4] rfl) (hD.sub [1, 2, 3, 0, 4] (by decide) rfl) hK hS hA (q0 := 0) rfl rfl rfl rfl hl.1 rfl (Nat.le_of_ble_eq_true rfl) kd_C_sees_136 ⟨by decide, by decide⟩ (fun w9 H locs hw hP hD hS => ?_)
        obtain ⟨t2_3, rfl, g1, g2⟩ := hw
        have hP : va_P (dC, dI) zk_cl [(q 1, .inl (cI, 128, .inl fb1)), (q 2, .inl (cZ, 128, .inl fd2)), (q 3, .inl (cI, 128, .inl fs2)), (q 0, zc_ob q sb wy kd bb hi1 mi1 vi1 wb1), (q 4, .inl (cI, 16, .inl (upd ft a (nI t2_3))))] H := hP
        have hD : va_D A [(q 1, .inl (cI, 128, .inl fb1)), (q 2, .inl (cZ, 128, .inl fd2)), (q 3, .inl (cI, 128, .inl fs2)), (q 0, zc_ob q sb wy kd bb hi1 mi1 vi1 wb1), (q 4, .inl (cI, 16, .inl (upd ft a (nI t2_3))))] := hD
        refine lv_iload hx hb kd_C_sees_139 (lv_at hl 5 rfl) ?_
        exact hret _ _ _ _ _ _ (zu_bit hh) kd_C_sees_141 (hP.sub [3, 0, 1, 2, 4] rfl) (hD.sub [3, 0, 1, 2, 4] (by decide) rfl) hS (⟨h, pl, fb1, fd2, fs2, upd ft a (nI t2_3), hi1, mi1, vi1, wb1, rfl, rfl, (hpl), (hc), (hd2), (hs2), (by first | exact ⟨fun _ => rfl, fun z => absurd z c128⟩ | exact ⟨fun z => absurd c128 z, fun _ => ⟨_, g1, rfl, g2⟩⟩)⟩)
    have hc102 : ∀ (fd2 : Nat → Int32), ((∀ j, j ≠ a * wy + pl → fd2 j = fd j) ∧ fd2 (a * wy + pl) = if wr = 0 then (if h = 1 then fd (a * wy + pl) else 0) else 1) → ∀ (H : Heap) (locs : List Loc), va_P (dC, dI) zk_cl [(q 0, zc_ob q sb wy kd bb hi1 mi1 vi1 wb1), (q 1, .inl (cI, 128, .inl fb1)), (q 2, .inl (cZ, 128, .inl fd2)), (q 3, .inl (cI, 128, .inl fs)), (q 4, .inl (cI, 16, .inl ft))] H → va_D A [(q 0, zc_ob q sb wy kd bb hi1 mi1 vi1 wb1), (q 1, .inl (cI, 128, .inl fb1)), (q 2, .inl (cZ, 128, .inl fd2)), (q 3, .inl (cI, 128, .inl fs)), (q 4, .inl (cI, 16, .inl ft))] → va_S A s.heap H locs → ∀ ls : Array Slot, lv_has ls 9 [(0, .ref (q 0)), (2, .int wr), (3, .int num), (5, .int (nI a)), (6, .int (nI pl)), (7, .int (nI h)), (8, .int (nI (a * wy + pl)))] → W p l e rm_cc_sees s m args below meth c H locs 0 0 Q (F0 m 102 ls []) := by
      intro fd2 hd2 H locs hP hD hS ls hl
      refine lv_iload hx hb kd_C_sees_102 (lv_at hl 5 rfl) ?_
      refine zz_if_eq (tgt := 115) hx hb kd_C_sees_104 (by decide) (by omega) (fun c104 => ?_) (fun c104 => ?_)
      · skip
        refine lv_aload_n hx hb kd_C_sees_115 rfl (lv_at hl 0 rfl) ?_
        refine va_get (D := (dC, dI)) (ci := 0) (v := .ref (q 3)) (C := zk_RC) (T := zk_TC) (N := 12) hx hb hts kl_C hown hK hP 0 rfl rfl 6 (by decide) (hts _ kj_148) (fun _ h9 => h9) rfl kd_C_sees_116 ?_
        refine lv_iload hx hb kd_C_sees_119 (lv_at hl 6 rfl) ?_
        refine lv_iload_n hx hb kd_C_sees_121 rfl (lv_at hl 2 rfl) ?_
        refine zz_iast hx hb hK hP hD hS 3 0 rfl rfl (k := a * wy + pl) (by omega) (by decide) kd_C_sees_122 (fun H locs hP hD hS => ?_)
        have hP : va_P (dC, dI) zk_cl [(q 0, zc_ob q sb wy kd bb hi1 mi1 vi1 wb1), (q 1, .inl (cI, 128, .inl fb1)), (q 2, .inl (cZ, 128, .inl fd2)), (q 3, .inl (cI, 128, .inl (upd fs (a * wy + pl) num))), (q 4, .inl (cI, 16, .inl ft))] H := hP
        have hD : va_D A [(q 0, zc_ob q sb wy kd bb hi1 mi1 vi1 wb1), (q 1, .inl (cI, 128, .inl fb1)), (q 2, .inl (cZ, 128, .inl fd2)), (q 3, .inl (cI, 128, .inl (upd fs (a * wy + pl) num))), (q 4, .inl (cI, 16, .inl ft))] := hD
        exact hc123 fd2 (upd fs (a * wy + pl) num)  (hd2) (by first | exact ⟨fun _ _ => rfl, by rw [if_pos ⟨by omega, c112⟩]⟩ | exact ⟨fun j hj => pk_un hj, by rw [pk_us, if_neg (by omega)]⟩) _ _ hP hD hS ls (lv_sub hl [0, 1, 2, 3, 4, 5, 6] rfl)
      · skip
        refine lv_aload_n hx hb kd_C_sees_107 rfl (lv_at hl 0 rfl) ?_
        refine va_get (D := (dC, dI)) (ci := 0) (v := .int (nI kd)) (C := zk_RC) (T := zk_TC) (N := 12) hx hb hts kl_C hown hK hP 0 rfl rfl 2 (by decide) (hts _ kj_144) (fun _ h9 => h9) rfl kd_C_sees_108 ?_
        refine lv_iconst (v := nI 1) hx hb kd_C_sees_111 (by decide) ?_
        refine zz_icmp_eq (tgt := 123) hx hb kd_C_sees_112 (by decide) (by omega) (by decide) (fun c112 => ?_) (fun c112 => ?_)
        · skip
          exact hc123 fd2 fs  (hd2) (by first | exact ⟨fun _ _ => rfl, by rw [if_pos ⟨by omega, c112⟩]⟩ | exact ⟨fun j hj => pk_un hj, by rw [pk_us, if_neg (by omega)]⟩) _ _ hP hD hS ls (lv_sub hl [0, 1, 2, 3, 4, 5, 6] rfl)
        · skip
          refine lv_aload_n hx hb kd_C_sees_115 rfl (lv_at hl 0 rfl) ?_
          refine va_get (D := (dC, dI)) (ci := 0) (v := .ref (q 3)) (C := zk_RC) (T := zk_TC) (N := 12) hx hb hts kl_C hown hK hP 0 rfl rfl 6 (by decide) (hts _ kj_148) (fun _ h9 => h9) rfl kd_C_sees_116 ?_
          refine lv_iload hx hb kd_C_sees_119 (lv_at hl 6 rfl) ?_
          refine lv_iload_n hx hb kd_C_sees_121 rfl (lv_at hl 2 rfl) ?_
          refine zz_iast hx hb hK hP hD hS 3 0 rfl rfl (k := a * wy + pl) (by omega) (by decide) kd_C_sees_122 (fun H locs hP hD hS => ?_)
          have hP : va_P (dC, dI) zk_cl [(q 0, zc_ob q sb wy kd bb hi1 mi1 vi1 wb1), (q 1, .inl (cI, 128, .inl fb1)), (q 2, .inl (cZ, 128, .inl fd2)), (q 3, .inl (cI, 128, .inl (upd fs (a * wy + pl) num))), (q 4, .inl (cI, 16, .inl ft))] H := hP
          have hD : va_D A [(q 0, zc_ob q sb wy kd bb hi1 mi1 vi1 wb1), (q 1, .inl (cI, 128, .inl fb1)), (q 2, .inl (cZ, 128, .inl fd2)), (q 3, .inl (cI, 128, .inl (upd fs (a * wy + pl) num))), (q 4, .inl (cI, 16, .inl ft))] := hD
          exact hc123 fd2 (upd fs (a * wy + pl) num)  (hd2) (by first | exact ⟨fun _ _ => rfl, by rw [if_pos ⟨by omega, c112⟩]⟩ | exact ⟨fun j hj => pk_un hj, by rw [pk_us, if_neg (by omega)]⟩) _ _ hP hD hS ls (lv_sub hl [0, 1, 2, 3, 4, 5, 6] rfl)
    refine lv_iload_n hx hb kd_C_sees_90 rfl (lv_at hl 2 rfl) ?_
    refine lv_if_eq (tgt := 102) hx hb kd_C_sees_91 (by decide) (fun c91 => ?_) (fun c91 => ?_)
    · skip
      exact hc102 fd1  (by first | exact ⟨hd1.1, by rw [if_pos c91]; exact hd1.2⟩ | exact ⟨fun j hj => by rw [pk_un hj]; exact hd1.1 j hj, by rw [pk_us, if_neg c91]; rfl⟩) _ _ (hP.sub [4, 0, 1, 2, 3] rfl) (hD.sub [4, 0, 1, 2, 3] (by decide) rfl) hS ls (lv_sub hl [1, 2, 3, 4, 5, 6, 0] rfl)
    · skip
      refine lv_aload_n hx hb kd_C_sees_94 rfl (lv_at hl 1 rfl) ?_
      refine va_get (D := (dC, dI)) (ci := 0) (v := .ref (q 2)) (C := zk_RC) (T := zk_TC) (N := 12) hx hb hts kl_C hown hK hP 4 rfl rfl 5 (by decide) (hts _ kj_147) (fun _ h9 => h9) rfl kd_C_sees_95 ?_
      refine lv_iload hx hb kd_C_sees_98 (lv_at hl 0 rfl) ?_
      refine lv_iconst (v := nI 1) hx hb kd_C_sees_100 (by decide) ?_
      refine zz_zast hx hb hK hP hD hS 1 1 rfl rfl (k := a * wy + pl) (by omega) (by decide) (Or.inr rfl) kd_C_sees_101 (fun H locs hP hD hS => ?_)
      have hP : va_P (dC, dI) zk_cl [(q 1, .inl (cI, 128, .inl fb1)), (q 2, .inl (cZ, 128, .inl (upd fd1 (a * wy + pl) (nI 1)))), (q 3, .inl (cI, 128, .inl fs)), (q 4, .inl (cI, 16, .inl ft)), (q 0, zc_ob q sb wy kd bb hi1 mi1 vi1 wb1)] H := hP
      have hD : va_D A [(q 1, .inl (cI, 128, .inl fb1)), (q 2, .inl (cZ, 128, .inl (upd fd1 (a * wy + pl) (nI 1)))), (q 3, .inl (cI, 128, .inl fs)), (q 4, .inl (cI, 16, .inl ft)), (q 0, zc_ob q sb wy kd bb hi1 mi1 vi1 wb1)] := hD
      exact hc102 (upd fd1 (a * wy + pl) (nI 1))  (by first | exact ⟨hd1.1, by rw [if_pos c91]; exact hd1.2⟩ | exact ⟨fun j hj => by rw [pk_un hj]; exact hd1.1 j hj, by rw [pk_us, if_neg c91]; rfl⟩) _ _ (hP.sub [4, 0, 1, 2, 3] rfl) (hD.sub [4, 0, 1, 2, 3] (by decide) rfl) hS ls (lv_sub hl [1, 2, 3, 4, 5, 6, 0] rfl)
  refine lv_iload hx hb kd_C_sees_29 (lv_at hl 0 rfl) ?_
  refine lv_iconst (v := (-1)) hx hb kd_C_sees_31 (by decide) ?_
  refine lv_icmp_eq (tgt := 39) hx hb kd_C_sees_32 (by decide) (fun c32 => ?_) (fun c32 => ?_)
  · skip
    refine lv_iconst (v := nI 0) hx hb kd_C_sees_39 (by decide) ?_
    refine lv_istore (lv' := [(7, .int (nI 0)), (6, .int r0), (5, .int (nI a)), (4, .int (nI b)), (0, .ref (q 0)), (1, .int (nI ad)), (2, .int wr), (3, .int num)]) hx hb kd_C_sees_40 hl (by decide) rfl (fun ls hl => ?_)
    refine lv_iload hx hb kd_C_sees_42 (lv_at hl 0 rfl) ?_
    refine zz_if_eq (tgt := 60) hx hb kd_C_sees_44 (by decide) (by decide) (fun _ => ?_) (fun c9 => absurd c9 (by decide))
    refine lv_aload_n hx hb kd_C_sees_60 rfl (lv_at hl 4 rfl) ?_
    refine lv_dup hx hb kd_C_sees_61 rfl ?_
    refine va_get (D := (dC, dI)) (ci := 0) (v := .int mi) (C := zk_RC) (T := zk_TC) (N := 12) hx hb hts kl_C hown hK hP 3 rfl rfl 9 (by decide) (hts _ kj_152) (fun _ h9 => h9) rfl kd_C_sees_62 ?_
    refine lv_iconst (v := nI 1) hx hb kd_C_sees_65 (by decide) ?_
    refine lv_iadd hx hb kd_C_sees_66 ?_
    refine va_put (D := (dC, dI)) (ci := 0) (v := .int (mi + (nI 1))) (ty := .int) (C := zk_RC) (T := zk_TC) (N := 12) hx hb hts kl_C zk_tC zk_kC zk_nC hown hK hP hD hS 3 rfl rfl 9 (by decide) (hts _ kj_152) (fun _ h9 => h9) rfl (by decide +kernel) rfl rfl (Nat.le_of_ble_eq_true rfl) kd_C_sees_67 (fun H locs hP hD hS => ?_)
    have hP : va_P (dC, dI) zk_cl [(q 2, .inl (cZ, 128, .inl fd)), (q 3, .inl (cI, 128, .inl fs)), (q 4, .inl (cI, 16, .inl ft)), (q 0, zc_ob q sb wy kd bb hi (mi + (nI 1)) vi wb), (q 1, .inl (cI, 128, .inl fb))] H := hP
    have hD : va_D A [(q 2, .inl (cZ, 128, .inl fd)), (q 3, .inl (cI, 128, .inl fs)), (q 4, .inl (cI, 16, .inl ft)), (q 0, zc_ob q sb wy kd bb hi (mi + (nI 1)) vi wb), (q 1, .inl (cI, 128, .inl fb))] := hD
    refine lv_aload_n hx hb kd_C_sees_70 rfl (lv_at hl 4 rfl) ?_
    refine lv_iload hx hb kd_C_sees_71 (lv_at hl 2 rfl) ?_
    refine lv_iload hx hb kd_C_sees_73 (lv_at hl 3 rfl) ?_
    refine zz_iV (As := [.int (nI a), .int (nI b)]) (rest := []) (wc := [(q 0, zc_ob q sb wy kd bb hi (mi + (nI 1)) vi wb), (q 1, .inl (cI, 128, .inl fb)), (q 2, .inl (cZ, 128, .inl fd)), (q 3, .inl (cI, 128, .inl fs)), (q 4, .inl (cI, 16, .inl ft))]) (wr := []) ⟨hx, hb, hml, hown, hts⟩ (cc_bringIn l dC dI cI cZ cO cL q sb wy kd bb hi (mi + (nI 1)) vi wb fb fd fs ft a (tr a) (nI b) (hwy) (hk2) (ha) ((htr a ha).1) ((htr a ha).2) (hkd) (hbit)) (zz_cwV hts kj_222 kj_33 kj_220 kj_221 kj_4 kz_C_bringIn rfl rfl ⟨Nat.le_of_ble_eq_true rfl, Nat.le_of_ble_eq_true rfl⟩) (hP.sub [3, 4, 0, 1, 2] rfl) (hD.sub [3, 4, 0, 1, 2] (by decide) rfl) hK hS hA (q0 := 0) rfl rfl rfl rfl hl.1 rfl (Nat.le_of_ble_eq_true rfl) kd_C_sees_75 ⟨by decide, by decide⟩ (fun r9 w9 H locs hw hP hD hS => ?_)
    obtain ⟨pl_5, vi2_6, wb2_7, rfl, rfl, hbi75⟩ := hw
    have hP : va_P (dC, dI) zk_cl [(q 0, zc_ob q sb wy kd bb hi (mi + (nI 1)) vi2_6 wb2_7), (q 1, .inl (cI, 128, .inl (upd fb (a * wy + pl_5) (nI b)))), (q 2, .inl (cZ, 128, .inl (upd fd (a * wy + pl_5) (nI 0)))), (q 3, .inl (cI, 128, .inl fs)), (q 4, .inl (cI, 16, .inl ft))] H := hP
    have hD : va_D A [(q 0, zc_ob q sb wy kd bb hi (mi + (nI 1)) vi2_6 wb2_7), (q 1, .inl (cI, 128, .inl (upd fb (a * wy + pl_5) (nI b)))), (q 2, .inl (cZ, 128, .inl (upd fd (a * wy + pl_5) (nI 0)))), (q 3, .inl (cI, 128, .inl fs)), (q 4, .inl (cI, 16, .inl ft))] := hD
    refine lv_istore (lv' := [(6, .int (nI pl_5)), (7, .int (nI 0)), (5, .int (nI a)), (4, .int (nI b)), (0, .ref (q 0)), (1, .int (nI ad)), (2, .int wr), (3, .int num)]) hx hb kd_C_sees_78 hl (by decide) rfl (fun ls hl => ?_)
    exact hc80 0 pl_5 (upd fb (a * wy + pl_5) (nI b)) (upd fd (a * wy + pl_5) (nI 0)) hi (mi + (nI 1)) vi2_6 wb2_7  (by first | exact hpl0 | exact hbi75.1) (by first | exact Or.inl ⟨rfl, fp24, rfl, rfl, rfl, rfl, rfl⟩ | exact Or.inr ⟨rfl, c32 ▸ fp24, hbi75, rfl, rfl, rfl⟩) (by first | exact ⟨fun _ _ => rfl, by rw [if_pos rfl]⟩ | exact ⟨fun j hj => pk_un hj, by rw [pk_us, if_neg (by decide)]; rfl⟩) _ _ hP hD hS ls (lv_sub hl [4, 6, 7, 2, 0, 1] rfl)
  · skip
    obtain ⟨pl0, hpl0, rfl⟩ := zf_FP_lt fp24 c32
    refine lv_iconst (v := nI 1) hx hb kd_C_sees_35 (by decide) ?_
    refine lv_goto (tgt := 40) hx hb kd_C_sees_36 (by decide) ?_
    refine lv_istore (lv' := [(7, .int (nI 1)), (6, .int (nI pl0)), (5, .int (nI a)), (4, .int (nI b)), (0, .ref (q 0)), (1, .int (nI ad)), (2, .int wr), (3, .int num)]) hx hb kd_C_sees_40 hl (by decide) rfl (fun ls hl => ?_)
    refine lv_iload hx hb kd_C_sees_42 (lv_at hl 0 rfl) ?_
    refine zz_if_eq (tgt := 60) hx hb kd_C_sees_44 (by decide) (by decide) (fun c9 => absurd c9 (by decide)) (fun _ => ?_)
    refine lv_aload_n hx hb kd_C_sees_47 rfl (lv_at hl 4 rfl) ?_
    refine lv_dup hx hb kd_C_sees_48 rfl ?_
    refine va_get (D := (dC, dI)) (ci := 0) (v := .int hi) (C := zk_RC) (T := zk_TC) (N := 12) hx hb hts kl_C hown hK hP 3 rfl rfl 8 (by decide) (hts _ kj_150) (fun _ h9 => h9) rfl kd_C_sees_49 ?_
    refine lv_iconst (v := nI 1) hx hb kd_C_sees_52 (by decide) ?_
    refine lv_iadd hx hb kd_C_sees_53 ?_
    refine va_put (D := (dC, dI)) (ci := 0) (v := .int (hi + (nI 1))) (ty := .int) (C := zk_RC) (T := zk_TC) (N := 12) hx hb hts kl_C zk_tC zk_kC zk_nC hown hK hP hD hS 3 rfl rfl 8 (by decide) (hts _ kj_150) (fun _ h9 => h9) rfl (by decide +kernel) rfl rfl (Nat.le_of_ble_eq_true rfl) kd_C_sees_54 (fun H locs hP hD hS => ?_)
    have hP : va_P (dC, dI) zk_cl [(q 2, .inl (cZ, 128, .inl fd)), (q 3, .inl (cI, 128, .inl fs)), (q 4, .inl (cI, 16, .inl ft)), (q 0, zc_ob q sb wy kd bb (hi + (nI 1)) mi vi wb), (q 1, .inl (cI, 128, .inl fb))] H := hP
    have hD : va_D A [(q 2, .inl (cZ, 128, .inl fd)), (q 3, .inl (cI, 128, .inl fs)), (q 4, .inl (cI, 16, .inl ft)), (q 0, zc_ob q sb wy kd bb (hi + (nI 1)) mi vi wb), (q 1, .inl (cI, 128, .inl fb))] := hD
    refine lv_goto (tgt := 80) hx hb kd_C_sees_57 (by decide) ?_
    exact hc80 1 pl0 fb fd (hi + (nI 1)) mi vi wb  (by first | exact hpl0 | exact hbi75.1) (by first | exact Or.inl ⟨rfl, fp24, rfl, rfl, rfl, rfl, rfl⟩ | exact Or.inr ⟨rfl, c32 ▸ fp24, hbi75, rfl, rfl, rfl⟩) (by first | exact ⟨fun _ _ => rfl, by rw [if_pos rfl]⟩ | exact ⟨fun j hj => pk_un hj, by rw [pk_us, if_neg (by decide)]; rfl⟩) _ _ (hP.sub [3, 4, 0, 1, 2] rfl) (hD.sub [3, 4, 0, 1, 2] (by decide) rfl) hS ls (lv_sub hl [4, 6, 7, 2, 1, 0] rfl)
end
section
def rm_cr_init : Room := { frames := 1, cells := 4, slots := 4960, locals := 20 }
set_option maxHeartbeats 4000000 in
set_option maxRecDepth 100000 in
/-- a new row -/
theorem cr_init (l : Launch) (dC : Nat → ClassId) (dI : Nat → Nat → Nat) (cI cZ cO cL : ClassId) (h : Nat)  : zz_Mv l ky_W_init kw_W_init rm_cr_init (dC, dI) (zz_ty cI cZ cO cL) [(h, .inr (1, [.null, .int (nI 0), .null, .null, .null]))] [.ref h] (fun (w : va_W) => ∃ (q2 : Nat → Nat), w = [(q2 0, zr_ob q2 0), (q2 1, .inl (cI, 400, .inl (fun _ => 0))), (q2 2, .inl (cI, 400, .inl (fun _ => 0))), (q2 3, .inl (cI, 4096, .inl (fun _ => 0))), (q2 4, .inl (cI, 64, .inl (fun _ => 0)))] ∧ (q2 0 = h)) 4 4960 := by
  refine zz_entry_v (cc := kb_W_init) (maxL := 1) (own := zk_RW) (by decide) rfl rfl (Nat.le_of_ble_eq_true rfl) ?_
  intro p e s m args below meth c Q hx hb hml hown hts hin hP hK A hD hA hS hret ls hl
  have hl : lv_has ls 1 [(0, .ref h)] := hl
  obtain ⟨H, eH⟩ : ∃ z, z = s.heap := ⟨_, rfl⟩
  obtain ⟨locs, eL⟩ : ∃ z : List Loc, z = [] := ⟨_, rfl⟩
  rw [← eH] at hP ⊢
  have hS : va_S A s.heap H locs := by rw [eH, eL]; exact hS
  rw [← eL]
  refine lv_aload_n hx hb kd_W_init_0 rfl (lv_at hl 0 rfl) ?_
  refine W.objInit hx hb hown (hts _ kj_50) (hts _ kj_43) (hts _ kj_44) rfl (by rw [hml]; exact hl.1) rfl kd_W_init_1 (Nat.le_of_ble_eq_true rfl) (Nat.le_of_ble_eq_true rfl) ?_
  refine W.eq (g2 := F0 m 4 ls []) rfl ?_
  refine lv_aload_n hx hb kd_W_init_4 rfl (lv_at hl 0 rfl) ?_
  refine lv_sipush (v := nI 400) hx hb kd_W_init_5 (by decide) ?_
  refine va_newa (atype := .int) (ty := .int) (a0 := (400, .inl (fun _ => 0))) hx hb (hts _ kj_61) rfl hK hP hD hS hA (fun _ => rfl) (by decide) (by decide) (by decide) (by decide) (by decide) kd_W_init_8 (fun q_1 cA_2 H hK hP hD hS => ?_)
  obtain rfl : cI = cA_2 := zz_Keq hK 0 4 rfl rfl (by decide)
  have hK := hK.sub (tys' := zz_ty cI cZ cO cL) [0, 1, 2, 3] rfl
  have hP : va_P (dC, dI) zk_cl [(h, .inr (1, [.null, .int (nI 0), .null, .null, .null])), (q_1, .inl (cI, 400, .inl (fun _ => 0)))] H := hP
  have hD : va_D A [(h, .inr (1, [.null, .int (nI 0), .null, .null, .null])), (q_1, .inl (cI, 400, .inl (fun _ => 0)))] := hD
  refine W.widen (k := 1) (n := 400) (by decide) (by decide) ?_
  refine va_putF (D := (dC, dI)) (ci := 1) (v := .ref q_1) (ty := .array .int) (C := zk_RW) (T := zk_TW) (N := 5) hx hb hts kl_W zk_tW zk_kW zk_nW hown hK hP hD hS 0 rfl rfl 0 (by decide) (hts _ kj_51) (fun _ h9 => h9) rfl hin rfl (by decide +kernel) rfl rfl (Nat.le_of_ble_eq_true rfl) kd_W_init_10 (fun H locs hP hD hS => ?_)
  have hP : va_P (dC, dI) zk_cl [(h, .inr (1, [.ref q_1, .int (nI 0), .null, .null, .null])), (q_1, .inl (cI, 400, .inl (fun _ => 0)))] H := hP
  have hD : va_D A [(h, .inr (1, [.ref q_1, .int (nI 0), .null, .null, .null])), (q_1, .inl (cI, 400, .inl (fun _ => 0)))] := hD
  refine lv_aload_n hx hb kd_W_init_13 rfl (lv_at hl 0 rfl) ?_
  refine lv_sipush (v := nI 400) hx hb kd_W_init_14 (by decide) ?_
  refine va_newa (atype := .int) (ty := .int) (a0 := (400, .inl (fun _ => 0))) hx hb (hts _ kj_61) rfl hK hP hD hS hA (fun _ => rfl) (by decide) (by decide) (by decide) (by decide) (by decide) kd_W_init_17 (fun q_3 cA_4 H hK hP hD hS => ?_)
  obtain rfl : cI = cA_4 := zz_Keq hK 0 4 rfl rfl (by decide)
  have hK := hK.sub (tys' := zz_ty cI cZ cO cL) [0, 1, 2, 3] rfl
  have hP : va_P (dC, dI) zk_cl [(h, .inr (1, [.ref q_1, .int (nI 0), .null, .null, .null])), (q_1, .inl (cI, 400, .inl (fun _ => 0))), (q_3, .inl (cI, 400, .inl (fun _ => 0)))] H := hP
  have hD : va_D A [(h, .inr (1, [.ref q_1, .int (nI 0), .null, .null, .null])), (q_1, .inl (cI, 400, .inl (fun _ => 0))), (q_3, .inl (cI, 400, .inl (fun _ => 0)))] := hD
  refine W.widen (k := 2) (n := 800) (by decide) (by decide) ?_
  refine va_putF (D := (dC, dI)) (ci := 1) (v := .ref q_3) (ty := .array .int) (C := zk_RW) (T := zk_TW) (N := 5) hx hb hts kl_W zk_tW zk_kW zk_nW hown hK hP hD hS 0 rfl rfl 2 (by decide) (hts _ kj_53) (fun _ h9 => h9) rfl hin rfl (by decide +kernel) rfl rfl (Nat.le_of_ble_eq_true rfl) kd_W_init_19 (fun H locs hP hD hS => ?_)
  have hP : va_P (dC, dI) zk_cl [(h, .inr (1, [.ref q_1, .int (nI 0), .ref q_3, .null, .null])), (q_1, .inl (cI, 400, .inl (fun _ => 0))), (q_3, .inl (cI, 400, .inl (fun _ => 0)))] H := hP
  have hD : va_D A [(h, .inr (1, [.ref q_1, .int (nI 0), .ref q_3, .null, .null])), (q_1, .inl (cI, 400, .inl (fun _ => 0))), (q_3, .inl (cI, 400, .inl (fun _ => 0)))] := hD
  refine lv_aload_n hx hb kd_W_init_22 rfl (lv_at hl 0 rfl) ?_
  refine lv_sipush (v := nI 4096) hx hb kd_W_init_23 (by decide) ?_
  refine va_newa (atype := .int) (ty := .int) (a0 := (4096, .inl (fun _ => 0))) hx hb (hts _ kj_61) rfl hK hP hD hS hA (fun _ => rfl) (by decide) (by decide) (by decide) (by decide) (by decide) kd_W_init_26 (fun q_5 cA_6 H hK hP hD hS => ?_)
  obtain rfl : cI = cA_6 := zz_Keq hK 0 4 rfl rfl (by decide)
  have hK := hK.sub (tys' := zz_ty cI cZ cO cL) [0, 1, 2, 3] rfl
  have hP : va_P (dC, dI) zk_cl [(h, .inr (1, [.ref q_1, .int (nI 0), .ref q_3, .null, .null])), (q_1, .inl (cI, 400, .inl (fun _ => 0))), (q_3, .inl (cI, 400, .inl (fun _ => 0))), (q_5, .inl (cI, 4096, .inl (fun _ => 0)))] H := hP
  have hD : va_D A [(h, .inr (1, [.ref q_1, .int (nI 0), .ref q_3, .null, .null])), (q_1, .inl (cI, 400, .inl (fun _ => 0))), (q_3, .inl (cI, 400, .inl (fun _ => 0))), (q_5, .inl (cI, 4096, .inl (fun _ => 0)))] := hD
  refine W.widen (k := 3) (n := 4896) (by decide) (by decide) ?_
  refine va_putF (D := (dC, dI)) (ci := 1) (v := .ref q_5) (ty := .array .int) (C := zk_RW) (T := zk_TW) (N := 5) hx hb hts kl_W zk_tW zk_kW zk_nW hown hK hP hD hS 0 rfl rfl 3 (by decide) (hts _ kj_54) (fun _ h9 => h9) rfl hin rfl (by decide +kernel) rfl rfl (Nat.le_of_ble_eq_true rfl) kd_W_init_28 (fun H locs hP hD hS => ?_)
  have hP : va_P (dC, dI) zk_cl [(h, .inr (1, [.ref q_1, .int (nI 0), .ref q_3, .ref q_5, .null])), (q_1, .inl (cI, 400, .inl (fun _ => 0))), (q_3, .inl (cI, 400, .inl (fun _ => 0))), (q_5, .inl (cI, 4096, .inl (fun _ => 0)))] H := hP
  have hD : va_D A [(h, .inr (1, [.ref q_1, .int (nI 0), .ref q_3, .ref q_5, .null])), (q_1, .inl (cI, 400, .inl (fun _ => 0))), (q_3, .inl (cI, 400, .inl (fun _ => 0))), (q_5, .inl (cI, 4096, .inl (fun _ => 0)))] := hD
  refine lv_aload_n hx hb kd_W_init_31 rfl (lv_at hl 0 rfl) ?_
  refine lv_bipush (v := nI 64) hx hb kd_W_init_32 (by decide) ?_
  refine va_newa (atype := .int) (ty := .int) (a0 := (64, .inl (fun _ => 0))) hx hb (hts _ kj_61) rfl hK hP hD hS hA (fun _ => rfl) (by decide) (by decide) (by decide) (by decide) (by decide) kd_W_init_34 (fun q_7 cA_8 H hK hP hD hS => ?_)
  obtain rfl : cI = cA_8 := zz_Keq hK 0 4 rfl rfl (by decide)
  have hK := hK.sub (tys' := zz_ty cI cZ cO cL) [0, 1, 2, 3] rfl
  have hP : va_P (dC, dI) zk_cl [(h, .inr (1, [.ref q_1, .int (nI 0), .ref q_3, .ref q_5, .null])), (q_1, .inl (cI, 400, .inl (fun _ => 0))), (q_3, .inl (cI, 400, .inl (fun _ => 0))), (q_5, .inl (cI, 4096, .inl (fun _ => 0))), (q_7, .inl (cI, 64, .inl (fun _ => 0)))] H := hP
  have hD : va_D A [(h, .inr (1, [.ref q_1, .int (nI 0), .ref q_3, .ref q_5, .null])), (q_1, .inl (cI, 400, .inl (fun _ => 0))), (q_3, .inl (cI, 400, .inl (fun _ => 0))), (q_5, .inl (cI, 4096, .inl (fun _ => 0))), (q_7, .inl (cI, 64, .inl (fun _ => 0)))] := hD
  refine W.widen (k := 4) (n := 4960) (by decide) (by decide) ?_
  refine va_putF (D := (dC, dI)) (ci := 1) (v := .ref q_7) (ty := .array .int) (C := zk_RW) (T := zk_TW) (N := 5) hx hb hts kl_W zk_tW zk_kW zk_nW hown hK hP hD hS 0 rfl rfl 4 (by decide) (hts _ kj_55) (fun _ h9 => h9) rfl hin rfl (by decide +kernel) rfl rfl (Nat.le_of_ble_eq_true rfl) kd_W_init_36 (fun H locs hP hD hS => ?_)
  have hP : va_P (dC, dI) zk_cl [(h, .inr (1, [.ref q_1, .int (nI 0), .ref q_3, .ref q_5, .ref q_7])), (q_1, .inl (cI, 400, .inl (fun _ => 0))), (q_3, .inl (cI, 400, .inl (fun _ => 0))), (q_5, .inl (cI, 4096, .inl (fun _ => 0))), (q_7, .inl (cI, 64, .inl (fun _ => 0)))] H := hP
  have hD : va_D A [(h, .inr (1, [.ref q_1, .int (nI 0), .ref q_3, .ref q_5, .ref q_7])), (q_1, .inl (cI, 400, .inl (fun _ => 0))), (q_3, .inl (cI, 400, .inl (fun _ => 0))), (q_5, .inl (cI, 4096, .inl (fun _ => 0))), (q_7, .inl (cI, 64, .inl (fun _ => 0)))] := hD
  exact hret _ _ _ _ _ kd_W_init_39 hP hD hS (⟨zq_mk h q_1 q_3 q_5 q_7, rfl, (rfl)⟩)

def rm_cr_length : Room := { frames := 0, cells := 0, slots := 0, locals := 0 }
set_option maxHeartbeats 4000000 in
set_option maxRecDepth 100000 in
/-- how many accesses -/
theorem cr_length (l : Launch) (dC : Nat → ClassId) (dI : Nat → Nat → Nat) (cI cZ cO cL : ClassId) (q : Nat → Nat) (n : Nat)  : zz_Mi l ky_W_length kw_W_length rm_cr_length (dC, dI) (zz_ty cI cZ cO cL) [(q 0, zr_ob q n)] [.ref (q 0)] (fun (r : Int32) (w : va_W) => w = [(q 0, zr_ob q n)] ∧ (r = nI n)) 0 0 := by
  refine zz_entry_i (cc := kb_W_length) (maxL := 1) (own := zk_RW) (by decide) rfl rfl (Nat.le_of_ble_eq_true rfl) ?_
  intro p e s m args below meth c Q hx hb hml hown hts hin hP hK A hD hA hS hret ls hl
  have hl : lv_has ls 1 [(0, .ref (q 0))] := hl
  obtain ⟨H, eH⟩ : ∃ z, z = s.heap := ⟨_, rfl⟩
  obtain ⟨locs, eL⟩ : ∃ z : List Loc, z = [] := ⟨_, rfl⟩
  rw [← eH] at hP ⊢
  have hS : va_S A s.heap H locs := by rw [eH, eL]; exact hS
  rw [← eL]
  refine lv_aload_n hx hb kd_W_length_0 rfl (lv_at hl 0 rfl) ?_
  refine va_get (D := (dC, dI)) (ci := 1) (v := .int (nI n)) (C := zk_RW) (T := zk_TW) (N := 5) hx hb hts kl_W hown hK hP 0 rfl rfl 1 (by decide) (hts _ kj_52) (fun _ h9 => h9) rfl kd_W_length_1 ?_
  exact hret _ _ _ _ _ _ kd_W_length_4 hP hD hS (⟨rfl, rfl⟩)

def rm_cr_keep : Room := { frames := 0, cells := 0, slots := 0, locals := 0 }
set_option maxHeartbeats 4000000 in
set_option maxRecDepth 100000 in
/-- an access is kept -/
theorem cr_keep (l : Launch) (dC : Nat → ClassId) (dI : Nat → Nat → Nat) (cI cZ cO cL : ClassId) (q : Nat → Nat) (n : Nat) (fa : Nat → Int32) (x : Int32) (hn : n < 400) : zz_Mv l ky_W_keep kw_W_keep rm_cr_keep (dC, dI) (zz_ty cI cZ cO cL) [(q 0, zr_ob q n), (q 1, .inl (cI, 400, .inl fa))] [.ref (q 0), .int x] (fun (w : va_W) => w = [(q 0, zr_ob q (n + 1)), (q 1, .inl (cI, 400, .inl (upd fa n x)))]) 0 0 := by
  refine zz_entry_v (cc := kb_W_keep) (maxL := 2) (own := zk_RW) (by decide) rfl rfl (Nat.le_of_ble_eq_true rfl) ?_
  intro p e s m args below meth c Q hx hb hml hown hts hin hP hK A hD hA hS hret ls hl
  have hl : lv_has ls 2 [(0, .ref (q 0)), (1, .int x)] := hl
  obtain ⟨H, eH⟩ : ∃ z, z = s.heap := ⟨_, rfl⟩
  obtain ⟨locs, eL⟩ : ∃ z : List Loc, z = [] := ⟨_, rfl⟩
  rw [← eH] at hP ⊢
  have hS : va_S A s.heap H locs := by rw [eH, eL]; exact hS
  rw [← eL]
  refine lv_aload_n hx hb kd_W_keep_0 rfl (lv_at hl 0 rfl) ?_
  refine va_get (D := (dC, dI)) (ci := 1) (v := .int (nI n)) (C := zk_RW) (T := zk_TW) (N := 5) hx hb hts kl_W hown hK hP 0 rfl rfl 1 (by decide) (hts _ kj_52) (fun _ h9 => h9) rfl kd_W_keep_1 ?_
  refine lv_sipush (v := nI 400) hx hb kd_W_keep_4 (by decide) ?_
  refine zz_icmp_ge (tgt := 30) hx hb kd_W_keep_7 (by decide) (by omega) (by decide) (fun c7 => ?_) (fun c7 => ?_)
  · skip
    exact absurd c7 (by omega)
  · skip
    refine lv_aload_n hx hb kd_W_keep_10 rfl (lv_at hl 0 rfl) ?_
    refine va_get (D := (dC, dI)) (ci := 1) (v := .ref (q 1)) (C := zk_RW) (T := zk_TW) (N := 5) hx hb hts kl_W hown hK hP 0 rfl rfl 0 (by decide) (hts _ kj_51) (fun _ h9 => h9) rfl kd_W_keep_11 ?_
    refine lv_aload_n hx hb kd_W_keep_14 rfl (lv_at hl 0 rfl) ?_
    refine va_get (D := (dC, dI)) (ci := 1) (v := .int (nI n)) (C := zk_RW) (T := zk_TW) (N := 5) hx hb hts kl_W hown hK hP 0 rfl rfl 1 (by decide) (hts _ kj_52) (fun _ h9 => h9) rfl kd_W_keep_15 ?_
    refine lv_iload_n hx hb kd_W_keep_18 rfl (lv_at hl 1 rfl) ?_
    refine zz_iast hx hb hK hP hD hS 1 0 rfl rfl (k := n) (by omega) (by decide) kd_W_keep_19 (fun H locs hP hD hS => ?_)
    have hP : va_P (dC, dI) zk_cl [(q 0, zr_ob q n), (q 1, .inl (cI, 400, .inl (upd fa n x)))] H := hP
    have hD : va_D A [(q 0, zr_ob q n), (q 1, .inl (cI, 400, .inl (upd fa n x)))] := hD
    refine lv_aload_n hx hb kd_W_keep_20 rfl (lv_at hl 0 rfl) ?_
    refine lv_dup hx hb kd_W_keep_21 rfl ?_
    refine va_get (D := (dC, dI)) (ci := 1) (v := .int (nI n)) (C := zk_RW) (T := zk_TW) (N := 5) hx hb hts kl_W hown hK hP 0 rfl rfl 1 (by decide) (hts _ kj_52) (fun _ h9 => h9) rfl kd_W_keep_22 ?_
    refine lv_iconst (v := nI 1) hx hb kd_W_keep_25 (by decide) ?_
    refine lv_iadd hx hb kd_W_keep_26 ?_
    refine zz_top (y := nI (n + 1)) (nI_add _ _) ?_
    refine va_put (D := (dC, dI)) (ci := 1) (v := .int (nI (n + 1))) (ty := .int) (C := zk_RW) (T := zk_TW) (N := 5) hx hb hts kl_W zk_tW zk_kW zk_nW hown hK hP hD hS 0 rfl rfl 1 (by decide) (hts _ kj_52) (fun _ h9 => h9) rfl (by decide +kernel) rfl rfl (Nat.le_of_ble_eq_true rfl) kd_W_keep_27 (fun H locs hP hD hS => ?_)
    have hP : va_P (dC, dI) zk_cl [(q 0, zr_ob q (n + 1)), (q 1, .inl (cI, 400, .inl (upd fa n x)))] H := hP
    have hD : va_D A [(q 0, zr_ob q (n + 1)), (q 1, .inl (cI, 400, .inl (upd fa n x)))] := hD
    exact hret _ _ _ _ _ kd_W_keep_30 hP hD hS (rfl)

def rm_cr_findLine : Room := { frames := 0, cells := 0, slots := 0, locals := 0 }
set_option maxHeartbeats 4000000 in
set_option maxRecDepth 100000 in
/-- the first line with this use -/
theorem cr_findLine (l : Launch) (dC : Nat → ClassId) (dI : Nat → Nat → Nat) (cI cZ cO cL : ClassId) (q : Nat → Nat) (n : Nat) (fl : Nat → Int32) (hd : Nat) (x : Int32) (hh : hd ≤ 64) : zz_Mi l ky_W_findLine kw_W_findLine rm_cr_findLine (dC, dI) (zz_ty cI cZ cO cL) [(q 0, zr_ob q n), (q 4, .inl (cI, 64, .inl fl))] [.ref (q 0), .int x, .int (nI hd)] (fun (r : Int32) (w : va_W) => w = [(q 0, zr_ob q n), (q 4, .inl (cI, 64, .inl fl))] ∧ (zf_FP fl hd x r)) 0 0 := by
  refine zz_entry_i (cc := kb_W_findLine) (maxL := 4) (own := zk_RW) (by decide) rfl rfl (Nat.le_of_ble_eq_true rfl) ?_
  intro p e s m args below meth c Q hx hb hml hown hts hin hP hK A hD hA hS hret ls hl
  have hl : lv_has ls 4 [(0, .ref (q 0)), (1, .int x), (2, .int (nI hd))] := hl
  obtain ⟨H, eH⟩ : ∃ z, z = s.heap := ⟨_, rfl⟩
  obtain ⟨locs, eL⟩ : ∃ z : List Loc, z = [] := ⟨_, rfl⟩
  rw [← eH] at hP ⊢
  have hS : va_S A s.heap H locs := by rw [eH, eL]; exact hS
  rw [← eL]
  refine lv_iconst (v := nI 0) hx hb kd_W_findLine_0 (by decide) ?_
  refine lv_istore_n (lv' := [(3, .int (nI 0)), (0, .ref (q 0)), (1, .int x), (2, .int (nI hd))]) hx hb kd_W_findLine_1 rfl hl (by decide) rfl (fun ls hl => ?_)
  have hc2 : ∀ (nn : Nat), ∀ (k : Nat), hd - k < nn → (k ≤ hd) → (∀ j, j < k → fl j ≠ x) → ∀ (H : Heap) (locs : List Loc), va_P (dC, dI) zk_cl [(q 0, zr_ob q n), (q 4, .inl (cI, 64, .inl fl))] H → va_D A [(q 0, zr_ob q n), (q 4, .inl (cI, 64, .inl fl))] → va_S A s.heap H locs → ∀ ls : Array Slot, lv_has ls 4 [(0, .ref (q 0)), (1, .int x), (2, .int (nI hd)), (3, .int (nI k))] → W p l e rm_cr_findLine s m args below meth c H locs 0 0 Q (F0 m 2 ls []) := by
    intro nn
    induction nn with
    | zero => intro k hm; exact absurd hm (Nat.not_lt_zero _)
    | succ nn ih =>
      intro k hm hk hn H locs hP hD hS ls hl
      refine lv_iload_n hx hb kd_W_findLine_2 rfl (lv_at hl 3 rfl) ?_
      refine lv_iload_n hx hb kd_W_findLine_3 rfl (lv_at hl 2 rfl) ?_
      refine zz_icmp_ge (tgt := 25) hx hb kd_W_findLine_4 (by decide) (by omega) (by omega) (fun c4 => ?_) (fun c4 => ?_)
      · skip
        refine lv_iconst (v := (-1)) hx hb kd_W_findLine_25 (by decide) ?_
        exact hret _ _ _ _ _ _ kd_W_findLine_26 hP hD hS (⟨rfl, (Or.inr ⟨rfl, fun j h => hn j (by omega)⟩)⟩)
      · skip
        refine lv_aload_n hx hb kd_W_findLine_7 rfl (lv_at hl 0 rfl) ?_
        refine va_get (D := (dC, dI)) (ci := 1) (v := .ref (q 4)) (C := zk_RW) (T := zk_TW) (N := 5) hx hb hts kl_W hown hK hP 0 rfl rfl 4 (by decide) (hts _ kj_55) (fun _ h9 => h9) rfl kd_W_findLine_8 ?_
        refine lv_iload_n hx hb kd_W_findLine_11 rfl (lv_at hl 3 rfl) ?_
        refine zz_iald hx hb hK hP 1 0 rfl rfl (k := k) (by omega) (by decide) kd_W_findLine_12 ?_
        refine lv_iload_n hx hb kd_W_findLine_13 rfl (lv_at hl 1 rfl) ?_
        refine lv_icmp_ne (tgt := 19) hx hb kd_W_findLine_14 (by decide) (fun c14 => ?_) (fun c14 => ?_)
        · skip
          refine lv_iinc (v := nI (k + 1)) (lv' := [(3, .int (nI (k + 1))), (0, .ref (q 0)), (1, .int x), (2, .int (nI hd))]) hx hb kd_W_findLine_19 hl (k := 3) rfl (by first | exact nI_1 _ | (show _ + _ = _; exact nI_1 _)) (by decide) rfl (fun ls hl => ?_)
          refine lv_goto (tgt := 2) hx hb kd_W_findLine_22 (by decide) ?_
          exact ih (k + 1) (by omega) (by omega) (fun j h => by
            rcases Nat.lt_or_ge j k with z | z
            · exact hn j z
            · rw [show j = k by omega]; exact c14) _ _ hP hD hS ls (lv_sub hl [1, 2, 3, 0] rfl)
        · skip
          refine lv_iload_n hx hb kd_W_findLine_17 rfl (lv_at hl 3 rfl) ?_
          exact hret _ _ _ _ _ _ kd_W_findLine_18 hP hD hS (⟨rfl, (Or.inl ⟨k, by omega, rfl, c14, hn⟩)⟩)
  exact hc2 _ 0 (Nat.lt_succ_self _) (by omega) (fun j h => by omega) _ _ hP hD hS ls (lv_sub hl [1, 2, 3, 0] rfl)

def rm_cr_lineNeededLast : Room := { frames := 0, cells := 0, slots := 0, locals := 0 }
set_option maxHeartbeats 4000000 in
set_option maxRecDepth 100000 in
/-- the line that is needed the latest -/
theorem cr_lineNeededLast (l : Launch) (dC : Nat → ClassId) (dI : Nat → Nat → Nat) (cI cZ cO cL : ClassId) (q : Nat → Nat) (n : Nat) (fl : Nat → Int32) (hd : Nat) (hh : 1 ≤ hd ∧ hd ≤ 64) : zz_Mi l ky_W_lineNeededLast kw_W_lineNeededLast rm_cr_lineNeededLast (dC, dI) (zz_ty cI cZ cO cL) [(q 0, zr_ob q n), (q 4, .inl (cI, 64, .inl fl))] [.ref (q 0), .int (nI hd)] (fun (r : Int32) (w : va_W) => ∃ (o : Nat), w = [(q 0, zr_ob q n), (q 4, .inl (cI, 64, .inl fl))] ∧ (r = nI o) ∧ (zf_AX fl hd o)) 0 0 := by
  refine zz_entry_i (cc := kb_W_lineNeededLast) (maxL := 4) (own := zk_RW) (by decide) rfl rfl (Nat.le_of_ble_eq_true rfl) ?_
  intro p e s m args below meth c Q hx hb hml hown hts hin hP hK A hD hA hS hret ls hl
  have hl : lv_has ls 4 [(0, .ref (q 0)), (1, .int (nI hd))] := hl
  obtain ⟨H, eH⟩ : ∃ z, z = s.heap := ⟨_, rfl⟩
  obtain ⟨locs, eL⟩ : ∃ z : List Loc, z = [] := ⟨_, rfl⟩
  rw [← eH] at hP ⊢
  have hS : va_S A s.heap H locs := by rw [eH, eL]; exact hS
  rw [← eL]
  refine lv_iconst (v := nI 0) hx hb kd_W_lineNeededLast_0 (by decide) ?_
  refine lv_istore_n (lv' := [(2, .int (nI 0)), (0, .ref (q 0)), (1, .int (nI hd))]) hx hb kd_W_lineNeededLast_1 rfl hl (by decide) rfl (fun ls hl => ?_)
  refine lv_iconst (v := nI 1) hx hb kd_W_lineNeededLast_2 (by decide) ?_
  refine lv_istore_n (lv' := [(3, .int (nI 1)), (2, .int (nI 0)), (0, .ref (q 0)), (1, .int (nI hd))]) hx hb kd_W_lineNeededLast_3 rfl hl (by decide) rfl (fun ls hl => ?_)
  have hc4 : ∀ (nn : Nat), ∀ (o : Nat) (k : Nat), hd - k < nn → (1 ≤ k ∧ k ≤ hd) → (zf_AX fl k o) → ∀ (H : Heap) (locs : List Loc), va_P (dC, dI) zk_cl [(q 0, zr_ob q n), (q 4, .inl (cI, 64, .inl fl))] H → va_D A [(q 0, zr_ob q n), (q 4, .inl (cI, 64, .inl fl))] → va_S A s.heap H locs → ∀ ls : Array Slot, lv_has ls 4 [(0, .ref (q 0)), (1, .int (nI hd)), (2, .int (nI o)), (3, .int (nI k))] → W p l e rm_cr_lineNeededLast s m args below meth c H locs 0 0 Q (F0 m 4 ls []) := by
    intro nn
    induction nn with
    | zero => intro o k hm; exact absurd hm (Nat.not_lt_zero _)
    | succ nn ih =>
      intro o k hm hk hax H locs hP hD hS ls hl
      have ho := hax.1
      refine lv_iload_n hx hb kd_W_lineNeededLast_4 rfl (lv_at hl 3 rfl) ?_
      refine lv_iload_n hx hb kd_W_lineNeededLast_5 rfl (lv_at hl 1 rfl) ?_
      refine zz_icmp_ge (tgt := 32) hx hb kd_W_lineNeededLast_6 (by decide) (by omega) (by omega) (fun c6 => ?_) (fun c6 => ?_)
      · skip
        refine lv_iload_n hx hb kd_W_lineNeededLast_32 rfl (lv_at hl 2 rfl) ?_
        exact hret _ _ _ _ _ _ kd_W_lineNeededLast_33 hP hD hS (⟨o, rfl, rfl, ((show k = hd by omega) ▸ hax)⟩)
      · skip
        refine lv_aload_n hx hb kd_W_lineNeededLast_9 rfl (lv_at hl 0 rfl) ?_
        refine va_get (D := (dC, dI)) (ci := 1) (v := .ref (q 4)) (C := zk_RW) (T := zk_TW) (N := 5) hx hb hts kl_W hown hK hP 0 rfl rfl 4 (by decide) (hts _ kj_55) (fun _ h9 => h9) rfl kd_W_lineNeededLast_10 ?_
        refine lv_iload_n hx hb kd_W_lineNeededLast_13 rfl (lv_at hl 3 rfl) ?_
        refine zz_iald hx hb hK hP 1 0 rfl rfl (k := k) (by omega) (by decide) kd_W_lineNeededLast_14 ?_
        refine lv_aload_n hx hb kd_W_lineNeededLast_15 rfl (lv_at hl 0 rfl) ?_
        refine va_get (D := (dC, dI)) (ci := 1) (v := .ref (q 4)) (C := zk_RW) (T := zk_TW) (N := 5) hx hb hts kl_W hown hK hP 0 rfl rfl 4 (by decide) (hts _ kj_55) (fun _ h9 => h9) rfl kd_W_lineNeededLast_16 ?_
        refine lv_iload_n hx hb kd_W_lineNeededLast_19 rfl (lv_at hl 2 rfl) ?_
        refine zz_iald hx hb hK hP 1 0 rfl rfl (k := o) (by omega) (by decide) kd_W_lineNeededLast_20 ?_
        refine lv_icmp_le (tgt := 26) hx hb kd_W_lineNeededLast_21 (by decide) (fun c21 => ?_) (fun c21 => ?_)
        · skip
          refine lv_iinc (v := nI (k + 1)) (lv' := [(3, .int (nI (k + 1))), (0, .ref (q 0)), (1, .int (nI hd)), (2, .int (nI o))]) hx hb kd_W_lineNeededLast_26 hl (k := 3) rfl (by first | exact nI_1 _ | (show _ + _ = _; exact nI_1 _)) (by decide) rfl (fun ls hl => ?_)
          refine lv_goto (tgt := 4) hx hb kd_W_lineNeededLast_29 (by decide) ?_
          exact ih o (k + 1) (by omega) (by omega) (by first | exact zf_AX_t hax (zu_nle c21) | exact zf_AX_f hax (zu_nlt c21)) _ _ hP hD hS ls (lv_sub hl [1, 2, 3, 0] rfl)
        · skip
          refine lv_iload_n hx hb kd_W_lineNeededLast_24 rfl (lv_at hl 3 rfl) ?_
          refine lv_istore_n (lv' := [(2, .int (nI k)), (0, .ref (q 0)), (1, .int (nI hd)), (3, .int (nI k))]) hx hb kd_W_lineNeededLast_25 rfl hl (by decide) rfl (fun ls hl => ?_)
          refine lv_iinc (v := nI (k + 1)) (lv' := [(3, .int (nI (k + 1))), (2, .int (nI k)), (0, .ref (q 0)), (1, .int (nI hd))]) hx hb kd_W_lineNeededLast_26 hl (k := 3) rfl (by first | exact nI_1 _ | (show _ + _ = _; exact nI_1 _)) (by decide) rfl (fun ls hl => ?_)
          refine lv_goto (tgt := 4) hx hb kd_W_lineNeededLast_29 (by decide) ?_
          exact ih k (k + 1) (by omega) (by omega) (by first | exact zf_AX_t hax (zu_nle c21) | exact zf_AX_f hax (zu_nlt c21)) _ _ hP hD hS ls (lv_sub hl [2, 3, 1, 0] rfl)
  exact hc4 _ 0 1 (Nat.lt_succ_self _) (by omega) (zf_AX_1) _ _ hP hD hS ls (lv_sub hl [2, 3, 1, 0] rfl)

def rm_cr_bringToFront : Room := { frames := 0, cells := 0, slots := 0, locals := 0 }
set_option maxHeartbeats 4000000 in
set_option maxRecDepth 100000 in
/-- a line comes to the front -/
theorem cr_bringToFront (l : Launch) (dC : Nat → ClassId) (dI : Nat → Nat → Nat) (cI cZ cO cL : ClassId) (q : Nat → Nat) (n : Nat) (fl : Nat → Int32) (li : Nat) (x : Int32) (hli : li < 64) : zz_Mv l ky_W_bringToFront kw_W_bringToFront rm_cr_bringToFront (dC, dI) (zz_ty cI cZ cO cL) [(q 0, zr_ob q n), (q 4, .inl (cI, 64, .inl fl))] [.ref (q 0), .int (nI li), .int x] (fun (w : va_W) => ∃ (fl2 : Nat → Int32), w = [(q 0, zr_ob q n), (q 4, .inl (cI, 64, .inl fl2))] ∧ (fl2 0 = x) ∧ (∀ j, j < li → fl2 (j + 1) = fl j) ∧ (∀ j, li < j → fl2 j = fl j)) 0 0 := by
  refine zz_entry_v (cc := kb_W_bringToFront) (maxL := 4) (own := zk_RW) (by decide) rfl rfl (Nat.le_of_ble_eq_true rfl) ?_
  intro p e s m args below meth c Q hx hb hml hown hts hin hP hK A hD hA hS hret ls hl
  have hl : lv_has ls 4 [(0, .ref (q 0)), (1, .int (nI li)), (2, .int x)] := hl
  obtain ⟨H, eH⟩ : ∃ z, z = s.heap := ⟨_, rfl⟩
  obtain ⟨locs, eL⟩ : ∃ z : List Loc, z = [] := ⟨_, rfl⟩
  rw [← eH] at hP ⊢
  have hS : va_S A s.heap H locs := by rw [eH, eL]; exact hS
  rw [← eL]
  refine lv_iload_n hx hb kd_W_bringToFront_0 rfl (lv_at hl 1 rfl) ?_
  refine lv_istore_n (lv' := [(3, .int (nI li)), (0, .ref (q 0)), (1, .int (nI li)), (2, .int x)]) hx hb kd_W_bringToFront_1 rfl hl (by decide) rfl (fun ls hl => ?_)
  have hc2 : ∀ (nn : Nat), ∀ (k : Nat) (fl1 : Nat → Int32), k < nn → (k ≤ li) → (∀ j, k ≤ j → j < li → fl1 (j + 1) = fl j) → (∀ j, j ≤ k → fl1 j = fl j) → (∀ j, li < j → fl1 j = fl j) → ∀ (H : Heap) (locs : List Loc), va_P (dC, dI) zk_cl [(q 0, zr_ob q n), (q 4, .inl (cI, 64, .inl fl1))] H → va_D A [(q 0, zr_ob q n), (q 4, .inl (cI, 64, .inl fl1))] → va_S A s.heap H locs → ∀ ls : Array Slot, lv_has ls 4 [(0, .ref (q 0)), (2, .int x), (3, .int (nI k))] → W p l e rm_cr_bringToFront s m args below meth c H locs 0 0 Q (F0 m 2 ls []) := by
    intro nn
    induction nn with
    | zero => intro k fl1 hm; exact absurd hm (Nat.not_lt_zero _)
    | succ nn ih =>
      intro k fl1 hm hk g1 g2 g3 H locs hP hD hS ls hl
      refine lv_iload_n hx hb kd_W_bringToFront_2 rfl (lv_at hl 2 rfl) ?_
      refine zz_if_le (tgt := 26) hx hb kd_W_bringToFront_3 (by decide) (by omega) (fun c3 => ?_) (fun c3 => ?_)
      · skip
        refine lv_aload_n hx hb kd_W_bringToFront_26 rfl (lv_at hl 0 rfl) ?_
        refine va_get (D := (dC, dI)) (ci := 1) (v := .ref (q 4)) (C := zk_RW) (T := zk_TW) (N := 5) hx hb hts kl_W hown hK hP 0 rfl rfl 4 (by decide) (hts _ kj_55) (fun _ h9 => h9) rfl kd_W_bringToFront_27 ?_
        refine lv_iconst (v := nI 0) hx hb kd_W_bringToFront_30 (by decide) ?_
        refine lv_iload_n hx hb kd_W_bringToFront_31 rfl (lv_at hl 1 rfl) ?_
        refine zz_iast hx hb hK hP hD hS 1 0 rfl rfl (k := 0) (by omega) (by decide) kd_W_bringToFront_32 (fun H locs hP hD hS => ?_)
        have hP : va_P (dC, dI) zk_cl [(q 0, zr_ob q n), (q 4, .inl (cI, 64, .inl (upd fl1 0 x)))] H := hP
        have hD : va_D A [(q 0, zr_ob q n), (q 4, .inl (cI, 64, .inl (upd fl1 0 x)))] := hD
        exact hret _ _ _ _ _ kd_W_bringToFront_33 hP hD hS (⟨upd fl1 0 x, rfl, (pk_us), (fun j h => by rw [pk_un (by omega)]; exact g1 j (by omega) h), (fun j h => by rw [pk_un (by omega)]; exact g3 j h)⟩)
      · skip
        refine lv_aload_n hx hb kd_W_bringToFront_6 rfl (lv_at hl 0 rfl) ?_
        refine va_get (D := (dC, dI)) (ci := 1) (v := .ref (q 4)) (C := zk_RW) (T := zk_TW) (N := 5) hx hb hts kl_W hown hK hP 0 rfl rfl 4 (by decide) (hts _ kj_55) (fun _ h9 => h9) rfl kd_W_bringToFront_7 ?_
        refine lv_iload_n hx hb kd_W_bringToFront_10 rfl (lv_at hl 2 rfl) ?_
        refine lv_aload_n hx hb kd_W_bringToFront_11 rfl (lv_at hl 0 rfl) ?_
        refine va_get (D := (dC, dI)) (ci := 1) (v := .ref (q 4)) (C := zk_RW) (T := zk_TW) (N := 5) hx hb hts kl_W hown hK hP 0 rfl rfl 4 (by decide) (hts _ kj_55) (fun _ h9 => h9) rfl kd_W_bringToFront_12 ?_
        refine lv_iload_n hx hb kd_W_bringToFront_15 rfl (lv_at hl 2 rfl) ?_
        refine lv_iconst (v := nI 1) hx hb kd_W_bringToFront_16 (by decide) ?_
        refine lv_isub hx hb kd_W_bringToFront_17 ?_
        refine zz_top (y := nI (k - 1)) (pk_sub (by omega)) ?_
        refine zz_iald hx hb hK hP 1 0 rfl rfl (k := k - 1) (by omega) (by decide) kd_W_bringToFront_18 ?_
        refine zz_iast hx hb hK hP hD hS 1 0 rfl rfl (k := k) (by omega) (by decide) kd_W_bringToFront_19 (fun H locs hP hD hS => ?_)
        have hP : va_P (dC, dI) zk_cl [(q 0, zr_ob q n), (q 4, .inl (cI, 64, .inl (upd fl1 k (fl1 (k - 1)))))] H := hP
        have hD : va_D A [(q 0, zr_ob q n), (q 4, .inl (cI, 64, .inl (upd fl1 k (fl1 (k - 1)))))] := hD
        refine lv_iinc (v := nI (k - 1)) (lv' := [(3, .int (nI (k - 1))), (0, .ref (q 0)), (2, .int x)]) hx hb kd_W_bringToFront_20 hl (k := 2) rfl (by first | exact zn_dec (by omega) | (show _ + _ = _; exact zn_dec (by omega))) (by decide) rfl (fun ls hl => ?_)
        refine lv_goto (tgt := 2) hx hb kd_W_bringToFront_23 (by decide) ?_
        exact ih (k - 1) (upd fl1 k (fl1 (k - 1))) (by omega) (by omega) (fun j a b => by
          by_cases z : j + 1 = k
          · rw [z, pk_us, g2 _ (by omega), show k - 1 = j by omega]
          · rw [pk_un z]; exact g1 j (by omega) b) (fun j a => by rw [pk_un (by omega)]; exact g2 j (by omega)) (fun j a => by rw [pk_un (by omega)]; exact g3 j a) _ _ hP hD hS ls (lv_sub hl [1, 2, 0] rfl)
  exact hc2 _ li fl (Nat.lt_succ_self _) (by omega) (fun j a b => by omega) (fun _ _ => rfl) (fun _ _ => rfl) _ _ hP hD hS ls (lv_sub hl [1, 3, 0] rfl)

def rm_cr_findNextUses : Room := { frames := 0, cells := 0, slots := 0, locals := 0 }
set_option maxHeartbeats 4000000 in
set_option maxRecDepth 100000 in
/-- the next use of each access -/
theorem cr_findNextUses (l : Launch) (dC : Nat → ClassId) (dI : Nat → Nat → Nat) (cI cZ cO cL : ClassId) (q : Nat → Nat) (n : Nat) (fa : Nat → Int32) (fn : Nat → Int32) (ff : Nat → Int32) (ad : Nat → Nat) (bb : Nat) (hn : n ≤ 400) (hfa : ∀ j, j < n → fa j = nI (ad j) ∧ ad j < 4096) (hbb : bb ≤ 6) : zz_Mv l ky_W_findNextUses kw_W_findNextUses rm_cr_findNextUses (dC, dI) (zz_ty cI cZ cO cL) [(q 0, zr_ob q n), (q 1, .inl (cI, 400, .inl fa)), (q 2, .inl (cI, 400, .inl fn)), (q 3, .inl (cI, 4096, .inl ff))] [.ref (q 0), .int (nI bb)] (fun (w : va_W) => ∃ (fn2 : Nat → Int32), ∃ (ff2 : Nat → Int32), w = [(q 0, zr_ob q n), (q 1, .inl (cI, 400, .inl fa)), (q 2, .inl (cI, 400, .inl fn2)), (q 3, .inl (cI, 4096, .inl ff2))] ∧ (∀ i, i < n → ∃ u, fn2 i = nI u ∧ zx_NX n (fun i => ad i / 2 ^ bb) i u)) 0 0 := by
  refine zz_entry_v (cc := kb_W_findNextUses) (maxL := 4) (own := zk_RW) (by decide) rfl rfl (Nat.le_of_ble_eq_true rfl) ?_
  intro p e s m args below meth c Q hx hb hml hown hts hin hP hK A hD hA hS hret ls hl
  have hl : lv_has ls 4 [(0, .ref (q 0)), (1, .int (nI bb))] := hl
  obtain ⟨H, eH⟩ : ∃ z, z = s.heap := ⟨_, rfl⟩
  obtain ⟨locs, eL⟩ : ∃ z : List Loc, z = [] := ⟨_, rfl⟩
  rw [← eH] at hP ⊢
  have hS : va_S A s.heap H locs := by rw [eH, eL]; exact hS
  rw [← eL]
  refine lv_iconst (v := nI 0) hx hb kd_W_findNextUses_0 (by decide) ?_
  refine lv_istore_n (lv' := [(2, .int (nI 0)), (0, .ref (q 0)), (1, .int (nI bb))]) hx hb kd_W_findNextUses_1 rfl hl (by decide) rfl (fun ls hl => ?_)
  have hc2 : ∀ (nn : Nat), ∀ (k : Nat) (ff1 : Nat → Int32), n - k < nn → (k ≤ n) → (∀ j, j < k → ff1 ((fun i => ad i / 2 ^ bb) j) = nI 400) → ∀ (H : Heap) (locs : List Loc), va_P (dC, dI) zk_cl [(q 0, zr_ob q n), (q 1, .inl (cI, 400, .inl fa)), (q 2, .inl (cI, 400, .inl fn)), (q 3, .inl (cI, 4096, .inl ff1))] H → va_D A [(q 0, zr_ob q n), (q 1, .inl (cI, 400, .inl fa)), (q 2, .inl (cI, 400, .inl fn)), (q 3, .inl (cI, 4096, .inl ff1))] → va_S A s.heap H locs → ∀ ls : Array Slot, lv_has ls 4 [(0, .ref (q 0)), (1, .int (nI bb)), (2, .int (nI k))] → W p l e rm_cr_findNextUses s m args below meth c H locs 0 0 Q (F0 m 2 ls []) := by
    intro nn
    induction nn with
    | zero => intro k ff1 hm; exact absurd hm (Nat.not_lt_zero _)
    | succ nn ih =>
      intro k ff1 hm hk h1 H locs hP hD hS ls hl
      refine lv_iload_n hx hb kd_W_findNextUses_2 rfl (lv_at hl 2 rfl) ?_
      refine lv_aload_n hx hb kd_W_findNextUses_3 rfl (lv_at hl 0 rfl) ?_
      refine va_get (D := (dC, dI)) (ci := 1) (v := .int (nI n)) (C := zk_RW) (T := zk_TW) (N := 5) hx hb hts kl_W hown hK hP 0 rfl rfl 1 (by decide) (hts _ kj_52) (fun _ h9 => h9) rfl kd_W_findNextUses_4 ?_
      refine zz_icmp_ge (tgt := 32) hx hb kd_W_findNextUses_7 (by decide) (by omega) (by omega) (fun c7 => ?_) (fun c7 => ?_)
      · skip
        refine lv_aload_n hx hb kd_W_findNextUses_32 rfl (lv_at hl 0 rfl) ?_
        refine va_get (D := (dC, dI)) (ci := 1) (v := .int (nI n)) (C := zk_RW) (T := zk_TW) (N := 5) hx hb hts kl_W hown hK hP 0 rfl rfl 1 (by decide) (hts _ kj_52) (fun _ h9 => h9) rfl kd_W_findNextUses_33 ?_
        refine lv_iconst (v := nI 1) hx hb kd_W_findNextUses_36 (by decide) ?_
        refine lv_isub hx hb kd_W_findNextUses_37 ?_
        refine zz_top (y := nI n - nI 1) (rfl) ?_
        refine lv_istore_n (lv' := [(2, .int (nI n - nI 1)), (0, .ref (q 0)), (1, .int (nI bb))]) hx hb kd_W_findNextUses_38 rfl hl (by decide) rfl (fun ls hl => ?_)
        have hc39 : ∀ (nn : Nat), ∀ (k : Nat) (fn1 : Nat → Int32) (ff1 : Nat → Int32), k < nn → (k ≤ n) → (∀ j, j < n → ∃ u, ff1 ((fun i => ad i / 2 ^ bb) j) = nI u ∧ zx_FU n (fun i => ad i / 2 ^ bb) k ((fun i => ad i / 2 ^ bb) j) u) → (∀ i, k ≤ i → i < n → ∃ u, fn1 i = nI u ∧ zx_NX n (fun i => ad i / 2 ^ bb) i u) → ∀ (H : Heap) (locs : List Loc), va_P (dC, dI) zk_cl [(q 0, zr_ob q n), (q 1, .inl (cI, 400, .inl fa)), (q 2, .inl (cI, 400, .inl fn1)), (q 3, .inl (cI, 4096, .inl ff1))] H → va_D A [(q 0, zr_ob q n), (q 1, .inl (cI, 400, .inl fa)), (q 2, .inl (cI, 400, .inl fn1)), (q 3, .inl (cI, 4096, .inl ff1))] → va_S A s.heap H locs → ∀ ls : Array Slot, lv_has ls 4 [(0, .ref (q 0)), (1, .int (nI bb)), (2, .int (nI k - nI 1))] → W p l e rm_cr_findNextUses s m args below meth c H locs 0 0 Q (F0 m 39 ls []) := by
          intro nn
          induction nn with
          | zero => intro k fn1 ff1 hm; exact absurd hm (Nat.not_lt_zero _)
          | succ nn ih39 =>
            intro k fn1 ff1 hm hk h1 h2 H locs hP hD hS ls hl
            refine lv_iload_n hx hb kd_W_findNextUses_39 rfl (lv_at hl 2 rfl) ?_
            refine lv_if_lt (tgt := 77) hx hb kd_W_findNextUses_40 (by decide) (fun c40 => ?_) (fun c40 => ?_)
            · skip
              have hk0 := zn_k1 (by omega) c40
              exact hret _ _ _ _ _ kd_W_findNextUses_77 hP hD hS (⟨fn1, ff1, rfl, (fun i h => h2 i (by omega) h)⟩)
            · skip
              have hk0 := zn_k0 c40
              rw [pk_sub hk0] at hl
              obtain ⟨u, hu1, hu2⟩ := h1 (k - 1) (by omega)
              refine lv_aload_n hx hb kd_W_findNextUses_43 rfl (lv_at hl 0 rfl) ?_
              refine va_get (D := (dC, dI)) (ci := 1) (v := .ref (q 1)) (C := zk_RW) (T := zk_TW) (N := 5) hx hb hts kl_W hown hK hP 0 rfl rfl 0 (by decide) (hts _ kj_51) (fun _ h9 => h9) rfl kd_W_findNextUses_44 ?_
              refine lv_iload_n hx hb kd_W_findNextUses_47 rfl (lv_at hl 2 rfl) ?_
              refine zz_iald hx hb hK hP 1 0 rfl rfl (k := k - 1) (by omega) (by decide) kd_W_findNextUses_48 ?_
              refine zz_top (y := nI (ad (k - 1))) ((hfa (k - 1) (by omega)).1) ?_
              refine lv_iload_n hx hb kd_W_findNextUses_49 rfl (lv_at hl 1 rfl) ?_
              refine lv_ishr hx hb kd_W_findNextUses_50 ?_
              refine zz_top (y := nI (ad (k - 1) / 2 ^ bb)) (zn_shr (by have := (hfa (k - 1) (by omega)).2; omega) (by omega)) ?_
              refine lv_istore_n (lv' := [(3, .int (nI (ad (k - 1) / 2 ^ bb))), (0, .ref (q 0)), (1, .int (nI bb)), (2, .int (nI (k - 1)))]) hx hb kd_W_findNextUses_51 rfl hl (by decide) rfl (fun ls hl => ?_)
              refine lv_aload_n hx hb kd_W_findNextUses_52 rfl (lv_at hl 1 rfl) ?_
              refine va_get (D := (dC, dI)) (ci := 1) (v := .ref (q 2)) (C := zk_RW) (T := zk_TW) (N := 5) hx hb hts kl_W hown hK hP 0 rfl rfl 2 (by decide) (hts _ kj_53) (fun _ h9 => h9) rfl kd_W_findNextUses_53 ?_
              refine lv_iload_n hx hb kd_W_findNextUses_56 rfl (lv_at hl 3 rfl) ?_
              refine lv_aload_n hx hb kd_W_findNextUses_57 rfl (lv_at hl 1 rfl) ?_
              refine va_get (D := (dC, dI)) (ci := 1) (v := .ref (q 3)) (C := zk_RW) (T := zk_TW) (N := 5) hx hb hts kl_W hown hK hP 0 rfl rfl 3 (by decide) (hts _ kj_54) (fun _ h9 => h9) rfl kd_W_findNextUses_58 ?_
              refine lv_iload_n hx hb kd_W_findNextUses_61 rfl (lv_at hl 0 rfl) ?_
              refine zz_iald hx hb hK hP 3 0 rfl rfl (k := ad (k - 1) / 2 ^ bb) (Nat.lt_of_le_of_lt (Nat.div_le_self _ _) (hfa (k - 1) (by omega)).2) (by decide) kd_W_findNextUses_62 ?_
              refine zz_iast hx hb hK hP hD hS 2 0 rfl rfl (k := k - 1) (by omega) (by decide) kd_W_findNextUses_63 (fun H locs hP hD hS => ?_)
              have hP : va_P (dC, dI) zk_cl [(q 0, zr_ob q n), (q 1, .inl (cI, 400, .inl fa)), (q 2, .inl (cI, 400, .inl (upd fn1 (k - 1) (ff1 (ad (k - 1) / 2 ^ bb))))), (q 3, .inl (cI, 4096, .inl ff1))] H := hP
              have hD : va_D A [(q 0, zr_ob q n), (q 1, .inl (cI, 400, .inl fa)), (q 2, .inl (cI, 400, .inl (upd fn1 (k - 1) (ff1 (ad (k - 1) / 2 ^ bb))))), (q 3, .inl (cI, 4096, .inl ff1))] := hD
              refine lv_aload_n hx hb kd_W_findNextUses_64 rfl (lv_at hl 1 rfl) ?_
              refine va_get (D := (dC, dI)) (ci := 1) (v := .ref (q 3)) (C := zk_RW) (T := zk_TW) (N := 5) hx hb hts kl_W hown hK hP 0 rfl rfl 3 (by decide) (hts _ kj_54) (fun _ h9 => h9) rfl kd_W_findNextUses_65 ?_
              refine lv_iload_n hx hb kd_W_findNextUses_68 rfl (lv_at hl 0 rfl) ?_
              refine lv_iload_n hx hb kd_W_findNextUses_69 rfl (lv_at hl 3 rfl) ?_
              refine zz_iast hx hb hK hP hD hS 3 0 rfl rfl (k := ad (k - 1) / 2 ^ bb) (Nat.lt_of_le_of_lt (Nat.div_le_self _ _) (hfa (k - 1) (by omega)).2) (by decide) kd_W_findNextUses_70 (fun H locs hP hD hS => ?_)
              have hP : va_P (dC, dI) zk_cl [(q 0, zr_ob q n), (q 1, .inl (cI, 400, .inl fa)), (q 2, .inl (cI, 400, .inl (upd fn1 (k - 1) (ff1 (ad (k - 1) / 2 ^ bb))))), (q 3, .inl (cI, 4096, .inl (upd ff1 (ad (k - 1) / 2 ^ bb) (nI (k - 1)))))] H := hP
              have hD : va_D A [(q 0, zr_ob q n), (q 1, .inl (cI, 400, .inl fa)), (q 2, .inl (cI, 400, .inl (upd fn1 (k - 1) (ff1 (ad (k - 1) / 2 ^ bb))))), (q 3, .inl (cI, 4096, .inl (upd ff1 (ad (k - 1) / 2 ^ bb) (nI (k - 1)))))] := hD
              refine lv_iinc (v := nI (k - 1) - nI 1) (lv' := [(2, .int (nI (k - 1) - nI 1)), (3, .int (nI (ad (k - 1) / 2 ^ bb))), (0, .ref (q 0)), (1, .int (nI bb))]) hx hb kd_W_findNextUses_71 hl (k := 3) rfl (by first | exact zn_pm _ | (show _ + _ = _; exact zn_pm _)) (by decide) rfl (fun ls hl => ?_)
              refine lv_goto (tgt := 39) hx hb kd_W_findNextUses_74 (by decide) ?_
              exact ih39 (k - 1) (upd fn1 (k - 1) (ff1 (ad (k - 1) / 2 ^ bb))) (upd ff1 (ad (k - 1) / 2 ^ bb) (nI (k - 1))) (by omega) (by omega) (zx_FU_s (bk := (fun i => ad i / 2 ^ bb)) hk0 hk h1) (by have := zx_nx_s (bk := (fun i => ad i / 2 ^ bb)) hk0 h2 hu2; rw [← hu1] at this; exact this) _ _ hP hD hS ls (lv_sub hl [2, 3, 0] rfl)
        exact hc39 _ n fn ff1 (Nat.lt_succ_self _) (by omega) (fun j h => ⟨400, h1 j (by omega), Or.inr ⟨rfl, fun i a b => by omega⟩⟩) (fun i a b => by omega) _ _ hP hD hS ls (lv_sub hl [1, 2, 0] rfl)
      · skip
        refine lv_aload_n hx hb kd_W_findNextUses_10 rfl (lv_at hl 0 rfl) ?_
        refine va_get (D := (dC, dI)) (ci := 1) (v := .ref (q 3)) (C := zk_RW) (T := zk_TW) (N := 5) hx hb hts kl_W hown hK hP 0 rfl rfl 3 (by decide) (hts _ kj_54) (fun _ h9 => h9) rfl kd_W_findNextUses_11 ?_
        refine lv_aload_n hx hb kd_W_findNextUses_14 rfl (lv_at hl 0 rfl) ?_
        refine va_get (D := (dC, dI)) (ci := 1) (v := .ref (q 1)) (C := zk_RW) (T := zk_TW) (N := 5) hx hb hts kl_W hown hK hP 0 rfl rfl 0 (by decide) (hts _ kj_51) (fun _ h9 => h9) rfl kd_W_findNextUses_15 ?_
        refine lv_iload_n hx hb kd_W_findNextUses_18 rfl (lv_at hl 2 rfl) ?_
        refine zz_iald hx hb hK hP 1 0 rfl rfl (k := k) (by omega) (by decide) kd_W_findNextUses_19 ?_
        refine zz_top (y := nI (ad k)) ((hfa k c7).1) ?_
        refine lv_iload_n hx hb kd_W_findNextUses_20 rfl (lv_at hl 1 rfl) ?_
        refine lv_ishr hx hb kd_W_findNextUses_21 ?_
        refine zz_top (y := nI (ad k / 2 ^ bb)) (zn_shr (by have := (hfa k c7).2; omega) (by omega)) ?_
        refine lv_sipush (v := nI 400) hx hb kd_W_findNextUses_22 (by decide) ?_
        refine zz_iast hx hb hK hP hD hS 3 0 rfl rfl (k := ad k / 2 ^ bb) (Nat.lt_of_le_of_lt (Nat.div_le_self _ _) (hfa k c7).2) (by decide) kd_W_findNextUses_25 (fun H locs hP hD hS => ?_)
        have hP : va_P (dC, dI) zk_cl [(q 0, zr_ob q n), (q 1, .inl (cI, 400, .inl fa)), (q 2, .inl (cI, 400, .inl fn)), (q 3, .inl (cI, 4096, .inl (upd ff1 (ad k / 2 ^ bb) (nI 400))))] H := hP
        have hD : va_D A [(q 0, zr_ob q n), (q 1, .inl (cI, 400, .inl fa)), (q 2, .inl (cI, 400, .inl fn)), (q 3, .inl (cI, 4096, .inl (upd ff1 (ad k / 2 ^ bb) (nI 400))))] := hD
        refine lv_iinc (v := nI (k + 1)) (lv' := [(2, .int (nI (k + 1))), (0, .ref (q 0)), (1, .int (nI bb))]) hx hb kd_W_findNextUses_26 hl (k := 2) rfl (by first | exact nI_1 _ | (show _ + _ = _; exact nI_1 _)) (by decide) rfl (fun ls hl => ?_)
        refine lv_goto (tgt := 2) hx hb kd_W_findNextUses_29 (by decide) ?_
        exact ih (k + 1) (upd ff1 (ad k / 2 ^ bb) (nI 400)) (by omega) (by omega) (zu_app (b := (fun i => ad i / 2 ^ bb)) h1) _ _ hP hD hS ls (lv_sub hl [1, 2, 0] rfl)
  exact hc2 _ 0 ff (Nat.lt_succ_self _) (by omega) (fun j h => by omega) _ _ hP hD hS ls (lv_sub hl [1, 2, 0] rfl)
end
section
def rm_cr_countHits : Room := { frames := 1, cells := 0, slots := 0, locals := 23 }
set_option maxHeartbeats 4000000 in
set_option maxRecDepth 100000 in
/-- how many hits -/
theorem cr_countHits (l : Launch) (dC : Nat → ClassId) (dI : Nat → Nat → Nat) (cI cZ cO cL : ClassId) (q : Nat → Nat) (n : Nat) (fa : Nat → Int32) (fn : Nat → Int32) (ff : Nat → Int32) (fl : Nat → Int32) (ad : Nat → Nat) (li : Nat) (bb : Nat) (bs : Nat) (hn : n ≤ 400) (hfa : ∀ j, j < n → fa j = nI (ad j) ∧ ad j < 4096) (hbb : bb ≤ 6) (hli : 1 ≤ li ∧ li ≤ 64) (hbs : bs ≤ 1) : zz_Mi l ky_W_countHits kw_W_countHits rm_cr_countHits (dC, dI) (zz_ty cI cZ cO cL) [(q 0, zr_ob q n), (q 1, .inl (cI, 400, .inl fa)), (q 2, .inl (cI, 400, .inl fn)), (q 3, .inl (cI, 4096, .inl ff)), (q 4, .inl (cI, 64, .inl fl))] [.ref (q 0), .int (nI li), .int (nI bb), .int (nI bs)] (fun (r : Int32) (w : va_W) => ∃ (fn2 : Nat → Int32), ∃ (ff2 : Nat → Int32), ∃ (fl2 : Nat → Int32), ∃ (nx : Nat → Nat), ∃ (Ls : List Nat), ∃ (cn : Nat), w = [(q 0, zr_ob q n), (q 1, .inl (cI, 400, .inl fa)), (q 2, .inl (cI, 400, .inl fn2)), (q 3, .inl (cI, 4096, .inl ff2)), (q 4, .inl (cI, 64, .inl fl2))] ∧ (r = nI cn) ∧ (∀ i, i < n → zx_NX n (fun i => ad i / 2 ^ bb) i (nx i)) ∧ (zc_R (decide (bs = 1)) li nx n Ls cn)) 0 0 := by
  refine zz_entry_i (cc := kb_W_countHits) (maxL := 8) (own := zk_RW) (by decide) rfl rfl (Nat.le_of_ble_eq_true rfl) ?_
  intro p e s m args below meth c Q hx hb hml hown hts hin hP hK A hD hA hS hret ls hl
  have hl : lv_has ls 8 [(0, .ref (q 0)), (1, .int (nI li)), (2, .int (nI bb)), (3, .int (nI bs))] := hl
  obtain ⟨H, eH⟩ : ∃ z, z = s.heap := ⟨_, rfl⟩
  obtain ⟨locs, eL⟩ : ∃ z : List Loc, z = [] := ⟨_, rfl⟩
  rw [← eH] at hP ⊢
  have hS : va_S A s.heap H locs := by rw [eH, eL]; exact hS
  rw [← eL]
  refine lv_aload_n hx hb kd_W_countHits_0 rfl (lv_at hl 0 rfl) ?_
  refine lv_iload_n hx hb kd_W_countHits_1 rfl (lv_at hl 2 rfl) ?_
  refine zz_vV (As := [.int (nI bb)]) (rest := []) (wc := [(q 0, zr_ob q n), (q 1, .inl (cI, 400, .inl fa)), (q 2, .inl (cI, 400, .inl fn)), (q 3, .inl (cI, 4096, .inl ff))]) (wr := [(q 4, .inl (cI, 64, .inl fl))]) ⟨hx, hb, hml, hown, hts⟩ (cr_findNextUses l dC dI cI cZ cO cL q n fa fn ff ad bb (hn) (hfa) (hbb)) (zz_cwV hts kj_323 kj_26 kj_321 kj_322 kj_9 kz_W_findNextUses rfl rfl ⟨Nat.le_of_ble_eq_true rfl, Nat.le_of_ble_eq_true rfl⟩) (hP.sub [4, 0, 1, 2, 3] rfl) (hD.sub [4, 0, 1, 2, 3] (by decide) rfl) hK hS hA (q0 := 0) rfl rfl rfl rfl hl.1 rfl (Nat.le_of_ble_eq_true rfl) kd_W_countHits_2 ⟨by decide, by decide⟩ (fun w9 H locs hw hP hD hS => ?_)
  obtain ⟨fn2_1, ff2_2, rfl, hnx2⟩ := hw
  have hP : va_P (dC, dI) zk_cl [(q 4, .inl (cI, 64, .inl fl)), (q 0, zr_ob q n), (q 1, .inl (cI, 400, .inl fa)), (q 2, .inl (cI, 400, .inl fn2_1)), (q 3, .inl (cI, 4096, .inl ff2_2))] H := hP
  have hD : va_D A [(q 4, .inl (cI, 64, .inl fl)), (q 0, zr_ob q n), (q 1, .inl (cI, 400, .inl fa)), (q 2, .inl (cI, 400, .inl fn2_1)), (q 3, .inl (cI, 4096, .inl ff2_2))] := hD
  obtain ⟨nx, hnx⟩ := zx_ch hnx2
  refine lv_iconst (v := nI 0) hx hb kd_W_countHits_5 (by decide) ?_
  refine lv_istore (lv' := [(4, .int (nI 0)), (0, .ref (q 0)), (1, .int (nI li)), (2, .int (nI bb)), (3, .int (nI bs))]) hx hb kd_W_countHits_6 hl (by decide) rfl (fun ls hl => ?_)
  refine lv_iconst (v := nI 0) hx hb kd_W_countHits_8 (by decide) ?_
  refine lv_istore (lv' := [(5, .int (nI 0)), (4, .int (nI 0)), (0, .ref (q 0)), (1, .int (nI li)), (2, .int (nI bb)), (3, .int (nI bs))]) hx hb kd_W_countHits_9 hl (by decide) rfl (fun ls hl => ?_)
  refine lv_iconst (v := nI 0) hx hb kd_W_countHits_11 (by decide) ?_
  refine lv_istore (lv' := [(6, .int (nI 0)), (5, .int (nI 0)), (4, .int (nI 0)), (0, .ref (q 0)), (1, .int (nI li)), (2, .int (nI bb)), (3, .int (nI bs))]) hx hb kd_W_countHits_12 hl (by decide) rfl (fun ls hl => ?_)
  have hc14 : ∀ (nn : Nat), ∀ (i : Nat) (hd : Nat) (cn : Nat) (Ls : List Nat) (fl1 : Nat → Int32), n - i < nn → (i ≤ n) → (hd = Ls.length) → (zc_R (decide (bs = 1)) li nx i Ls cn) → (zl_at fl1 Ls) → ∀ (H : Heap) (locs : List Loc), va_P (dC, dI) zk_cl [(q 0, zr_ob q n), (q 1, .inl (cI, 400, .inl fa)), (q 2, .inl (cI, 400, .inl fn2_1)), (q 3, .inl (cI, 4096, .inl ff2_2)), (q 4, .inl (cI, 64, .inl fl1))] H → va_D A [(q 0, zr_ob q n), (q 1, .inl (cI, 400, .inl fa)), (q 2, .inl (cI, 400, .inl fn2_1)), (q 3, .inl (cI, 4096, .inl ff2_2)), (q 4, .inl (cI, 64, .inl fl1))] → va_S A s.heap H locs → ∀ ls : Array Slot, lv_has ls 8 [(0, .ref (q 0)), (1, .int (nI li)), (3, .int (nI bs)), (4, .int (nI hd)), (5, .int (nI cn)), (6, .int (nI i))] → W p l e rm_cr_countHits s m args below meth c H locs 0 0 Q (F0 m 14 ls []) := by
    intro nn
    induction nn with
    | zero => intro i hd cn Ls fl1 hm; exact absurd hm (Nat.not_lt_zero _)
    | succ nn ih =>
      intro i hd cn Ls fl1 hm hi hlen hR hfl H locs hP hD hS ls hl
      have hL := zc_R_len hli.1 i Ls cn hR
      have hL64 : Ls.length ≤ 64 := by omega
      have hcni := zc_R_cnt i Ls cn hR
      refine lv_iload hx hb kd_W_countHits_14 (lv_at hl 5 rfl) ?_
      refine lv_aload_n hx hb kd_W_countHits_16 rfl (lv_at hl 0 rfl) ?_
      refine va_get (D := (dC, dI)) (ci := 1) (v := .int (nI n)) (C := zk_RW) (T := zk_TW) (N := 5) hx hb hts kl_W hown hK hP 0 rfl rfl 1 (by decide) (hts _ kj_52) (fun _ h9 => h9) rfl kd_W_countHits_17 ?_
      refine zz_icmp_ge (tgt := 99) hx hb kd_W_countHits_20 (by decide) (by omega) (by omega) (fun c20 => ?_) (fun c20 => ?_)
      · skip
        refine lv_iload hx hb kd_W_countHits_99 (lv_at hl 4 rfl) ?_
        exact hret _ _ _ _ _ _ kd_W_countHits_101 hP hD hS (⟨fn2_1, ff2_2, fl1, nx, Ls, cn, rfl, rfl, (fun i h => (hnx i h).2), ((show i = n by omega) ▸ hR)⟩)
      · skip
        have hc80 : ∀ (l0 : Nat) (cn2 : Nat) (hd2 : Nat), (l0 ≤ Ls.length) → (l0 < 64) → (zc_ch (decide (bs = 1)) li Ls i l0) → (cn2 = cn + if i ∈ Ls then 1 else 0) → (hd2 = (Ls.eraseIdx l0).length + 1) → ∀ (H : Heap) (locs : List Loc), va_P (dC, dI) zk_cl [(q 0, zr_ob q n), (q 1, .inl (cI, 400, .inl fa)), (q 2, .inl (cI, 400, .inl fn2_1)), (q 3, .inl (cI, 4096, .inl ff2_2)), (q 4, .inl (cI, 64, .inl fl1))] H → va_D A [(q 0, zr_ob q n), (q 1, .inl (cI, 400, .inl fa)), (q 2, .inl (cI, 400, .inl fn2_1)), (q 3, .inl (cI, 4096, .inl ff2_2)), (q 4, .inl (cI, 64, .inl fl1))] → va_S A s.heap H locs → ∀ ls : Array Slot, lv_has ls 8 [(0, .ref (q 0)), (1, .int (nI li)), (3, .int (nI bs)), (4, .int (nI hd2)), (5, .int (nI cn2)), (6, .int (nI i)), (7, .int (nI l0))] → W p l e rm_cr_countHits s m args below meth c H locs 0 0 Q (F0 m 80 ls []) := by
          intro l0 cn2 hd2 hl0 hl64 hch hcn hhd H locs hP hD hS ls hl
          refine lv_aload_n hx hb kd_W_countHits_80 rfl (lv_at hl 0 rfl) ?_
          refine lv_iload hx hb kd_W_countHits_81 (lv_at hl 6 rfl) ?_
          refine lv_aload_n hx hb kd_W_countHits_83 rfl (lv_at hl 0 rfl) ?_
          refine va_get (D := (dC, dI)) (ci := 1) (v := .ref (q 2)) (C := zk_RW) (T := zk_TW) (N := 5) hx hb hts kl_W hown hK hP 0 rfl rfl 2 (by decide) (hts _ kj_53) (fun _ h9 => h9) rfl kd_W_countHits_84 ?_
          refine lv_iload hx hb kd_W_countHits_87 (lv_at hl 5 rfl) ?_
          refine zz_iald hx hb hK hP 2 0 rfl rfl (k := i) (by omega) (by decide) kd_W_countHits_89 ?_
          refine zz_top (y := nI (nx i)) ((hnx i c20).1) ?_
          refine zz_vV (As := [.int (nI l0), .int (nI (nx i))]) (rest := []) (wc := [(q 0, zr_ob q n), (q 4, .inl (cI, 64, .inl fl1))]) (wr := [(q 1, .inl (cI, 400, .inl fa)), (q 2, .inl (cI, 400, .inl fn2_1)), (q 3, .inl (cI, 4096, .inl ff2_2))]) ⟨hx, hb, hml, hown, hts⟩ (cr_bringToFront l dC dI cI cZ cO cL q n fl1 l0 (nI (nx i)) (hl64)) (zz_cwV hts kj_332 kj_26 kj_330 kj_331 kj_12 kz_W_bringToFront rfl rfl ⟨Nat.le_of_ble_eq_true rfl, Nat.le_of_ble_eq_true rfl⟩) (hP.sub [1, 2, 3, 0, 4] rfl) (hD.sub [1, 2, 3, 0, 4] (by decide) rfl) hK hS hA (q0 := 0) rfl rfl rfl rfl hl.1 rfl (Nat.le_of_ble_eq_true rfl) kd_W_countHits_90 ⟨by decide, by decide⟩ (fun w9 H locs hw hP hD hS => ?_)
          obtain ⟨fl2_2, rfl, b090, b190, b290⟩ := hw
          have hP : va_P (dC, dI) zk_cl [(q 1, .inl (cI, 400, .inl fa)), (q 2, .inl (cI, 400, .inl fn2_1)), (q 3, .inl (cI, 4096, .inl ff2_2)), (q 0, zr_ob q n), (q 4, .inl (cI, 64, .inl fl2_2))] H := hP
          have hD : va_D A [(q 1, .inl (cI, 400, .inl fa)), (q 2, .inl (cI, 400, .inl fn2_1)), (q 3, .inl (cI, 4096, .inl ff2_2)), (q 0, zr_ob q n), (q 4, .inl (cI, 64, .inl fl2_2))] := hD
          refine lv_iinc (v := nI (i + 1)) (lv' := [(6, .int (nI (i + 1))), (0, .ref (q 0)), (1, .int (nI li)), (3, .int (nI bs)), (4, .int (nI hd2)), (5, .int (nI cn2)), (7, .int (nI l0))]) hx hb kd_W_countHits_93 hl (k := 5) rfl (by first | exact nI_1 _ | (show _ + _ = _; exact nI_1 _)) (by decide) rfl (fun ls hl => ?_)
          refine lv_goto (tgt := 14) hx hb kd_W_countHits_96 (by decide) ?_
          exact ih (i + 1) hd2 cn2 (nx i :: Ls.eraseIdx l0) fl2_2 (by omega) (by omega) (hhd) (⟨Ls, cn, l0, hR, hch, rfl, hcn⟩) (zl_front hfl (zx_NX_le hn (hnx i c20).2) hl0 b090 b190 b290) _ _ (hP.sub [3, 0, 1, 2, 4] rfl) (hD.sub [3, 0, 1, 2, 4] (by decide) rfl) hS ls (lv_sub hl [1, 2, 3, 4, 5, 0] rfl)
        refine lv_aload_n hx hb kd_W_countHits_23 rfl (lv_at hl 0 rfl) ?_
        refine lv_iload hx hb kd_W_countHits_24 (lv_at hl 5 rfl) ?_
        refine lv_iload hx hb kd_W_countHits_26 (lv_at hl 3 rfl) ?_
        refine zz_iV (As := [.int (nI i), .int (nI hd)]) (rest := []) (wc := [(q 0, zr_ob q n), (q 4, .inl (cI, 64, .inl fl1))]) (wr := [(q 1, .inl (cI, 400, .inl fa)), (q 2, .inl (cI, 400, .inl fn2_1)), (q 3, .inl (cI, 4096, .inl ff2_2))]) ⟨hx, hb, hml, hown, hts⟩ (cr_findLine l dC dI cI cZ cO cL q n fl1 hd (nI i) (by omega)) (zz_cwV hts kj_326 kj_26 kj_324 kj_325 kj_10 kz_W_findLine rfl rfl ⟨Nat.le_of_ble_eq_true rfl, Nat.le_of_ble_eq_true rfl⟩) (hP.sub [1, 2, 3, 0, 4] rfl) (hD.sub [1, 2, 3, 0, 4] (by decide) rfl) hK hS hA (q0 := 0) rfl rfl rfl rfl hl.1 rfl (Nat.le_of_ble_eq_true rfl) kd_W_countHits_28 ⟨by decide, by decide⟩ (fun r9 w9 H locs hw hP hD hS => ?_)
        generalize r9 = r0 at hw ⊢
        obtain ⟨rfl, fp28⟩ := hw
        have hP : va_P (dC, dI) zk_cl [(q 1, .inl (cI, 400, .inl fa)), (q 2, .inl (cI, 400, .inl fn2_1)), (q 3, .inl (cI, 4096, .inl ff2_2)), (q 0, zr_ob q n), (q 4, .inl (cI, 64, .inl fl1))] H := hP
        have hD : va_D A [(q 1, .inl (cI, 400, .inl fa)), (q 2, .inl (cI, 400, .inl fn2_1)), (q 3, .inl (cI, 4096, .inl ff2_2)), (q 0, zr_ob q n), (q 4, .inl (cI, 64, .inl fl1))] := hD
        refine lv_istore (lv' := [(7, .int r0), (0, .ref (q 0)), (1, .int (nI li)), (3, .int (nI bs)), (4, .int (nI hd)), (5, .int (nI cn)), (6, .int (nI i))]) hx hb kd_W_countHits_31 hl (by decide) rfl (fun ls hl => ?_)
        refine lv_iload hx hb kd_W_countHits_33 (lv_at hl 0 rfl) ?_
        refine lv_iconst (v := (-1)) hx hb kd_W_countHits_35 (by decide) ?_
        refine lv_icmp_eq (tgt := 45) hx hb kd_W_countHits_36 (by decide) (fun c36 => ?_) (fun c36 => ?_)
        · skip
          have hno : i ∉ Ls := zl_none hfl hL64 (hlen ▸ c36 ▸ fp28)
          refine lv_iload hx hb kd_W_countHits_45 (lv_at hl 4 rfl) ?_
          refine lv_iload_n hx hb kd_W_countHits_47 rfl (lv_at hl 2 rfl) ?_
          refine zz_icmp_ge (tgt := 61) hx hb kd_W_countHits_48 (by decide) (by omega) (by omega) (fun c48 => ?_) (fun c48 => ?_)
          · skip
            refine lv_iload_n hx hb kd_W_countHits_61 rfl (lv_at hl 3 rfl) ?_
            refine zz_if_eq (tgt := 74) hx hb kd_W_countHits_62 (by decide) (by omega) (fun c62 => ?_) (fun c62 => ?_)
            · skip
              refine lv_iload hx hb kd_W_countHits_74 (lv_at hl 4 rfl) ?_
              refine lv_iconst (v := nI 1) hx hb kd_W_countHits_76 (by decide) ?_
              refine lv_isub hx hb kd_W_countHits_77 ?_
              refine zz_top (y := nI (hd - 1)) (pk_sub (by omega)) ?_
              refine lv_istore (lv' := [(7, .int (nI (hd - 1))), (0, .ref (q 0)), (1, .int (nI li)), (3, .int (nI bs)), (4, .int (nI hd)), (5, .int (nI cn)), (6, .int (nI i))]) hx hb kd_W_countHits_78 hl (by decide) rfl (fun ls hl => ?_)
              exact hc80 (hd - 1) cn hd  (by first | omega | exact Nat.le_of_lt ax68.1 | (have := ax68.1; omega)) (by first | omega | (have := ax68.1; omega)) (by first | exact Or.inl ⟨hl2, hyes⟩ | exact Or.inr (Or.inl ⟨hno, by omega, by omega⟩) | exact Or.inr (Or.inr ⟨hno, by omega, Or.inl ⟨by simp; omega, by omega⟩⟩) | exact Or.inr (Or.inr ⟨hno, by omega, Or.inr ⟨by simp; omega, zl_max hfl (hlen ▸ ax68)⟩⟩)) (by first | (rw [if_neg hno]; rfl) | rw [if_neg hno] | rw [if_pos (List.mem_of_getElem? hyes)]) (by first | (rw [hlen]; exact zl_len hl2) | (rw [hlen]; exact zl_len (show Ls.length - 1 < Ls.length by omega)) | (rw [hlen]; exact zl_len (hlen ▸ ax68.1)) | rw [hlen, List.eraseIdx_of_length_le (Nat.le_refl _)]) _ _ (hP.sub [3, 0, 1, 2, 4] rfl) (hD.sub [3, 0, 1, 2, 4] (by decide) rfl) hS ls (lv_sub hl [1, 2, 3, 4, 5, 6, 0] rfl)
            · skip
              refine lv_aload_n hx hb kd_W_countHits_65 rfl (lv_at hl 1 rfl) ?_
              refine lv_iload hx hb kd_W_countHits_66 (lv_at hl 4 rfl) ?_
              refine zz_iV (As := [.int (nI hd)]) (rest := []) (wc := [(q 0, zr_ob q n), (q 4, .inl (cI, 64, .inl fl1))]) (wr := [(q 1, .inl (cI, 400, .inl fa)), (q 2, .inl (cI, 400, .inl fn2_1)), (q 3, .inl (cI, 4096, .inl ff2_2))]) ⟨hx, hb, hml, hown, hts⟩ (cr_lineNeededLast l dC dI cI cZ cO cL q n fl1 hd (by omega)) (zz_cwV hts kj_329 kj_26 kj_327 kj_328 kj_11 kz_W_lineNeededLast rfl rfl ⟨Nat.le_of_ble_eq_true rfl, Nat.le_of_ble_eq_true rfl⟩) hP hD hK hS hA (q0 := 0) rfl rfl rfl rfl hl.1 rfl (Nat.le_of_ble_eq_true rfl) kd_W_countHits_68 ⟨by decide, by decide⟩ (fun r9 w9 H locs hw hP hD hS => ?_)
              obtain ⟨o_4, rfl, rfl, ax68⟩ := hw
              have hP : va_P (dC, dI) zk_cl [(q 1, .inl (cI, 400, .inl fa)), (q 2, .inl (cI, 400, .inl fn2_1)), (q 3, .inl (cI, 4096, .inl ff2_2)), (q 0, zr_ob q n), (q 4, .inl (cI, 64, .inl fl1))] H := hP
              have hD : va_D A [(q 1, .inl (cI, 400, .inl fa)), (q 2, .inl (cI, 400, .inl fn2_1)), (q 3, .inl (cI, 4096, .inl ff2_2)), (q 0, zr_ob q n), (q 4, .inl (cI, 64, .inl fl1))] := hD
              refine lv_goto (tgt := 78) hx hb kd_W_countHits_71 (by decide) ?_
              refine lv_istore (lv' := [(7, .int (nI o_4)), (0, .ref (q 0)), (1, .int (nI li)), (3, .int (nI bs)), (4, .int (nI hd)), (5, .int (nI cn)), (6, .int (nI i))]) hx hb kd_W_countHits_78 hl (by decide) rfl (fun ls hl => ?_)
              exact hc80 o_4 cn hd  (by first | omega | exact Nat.le_of_lt ax68.1 | (have := ax68.1; omega)) (by first | omega | (have := ax68.1; omega)) (by first | exact Or.inl ⟨hl2, hyes⟩ | exact Or.inr (Or.inl ⟨hno, by omega, by omega⟩) | exact Or.inr (Or.inr ⟨hno, by omega, Or.inl ⟨by simp; omega, by omega⟩⟩) | exact Or.inr (Or.inr ⟨hno, by omega, Or.inr ⟨by simp; omega, zl_max hfl (hlen ▸ ax68)⟩⟩)) (by first | (rw [if_neg hno]; rfl) | rw [if_neg hno] | rw [if_pos (List.mem_of_getElem? hyes)]) (by first | (rw [hlen]; exact zl_len hl2) | (rw [hlen]; exact zl_len (show Ls.length - 1 < Ls.length by omega)) | (rw [hlen]; exact zl_len (hlen ▸ ax68.1)) | rw [hlen, List.eraseIdx_of_length_le (Nat.le_refl _)]) _ _ (hP.sub [3, 0, 1, 2, 4] rfl) (hD.sub [3, 0, 1, 2, 4] (by decide) rfl) hS ls (lv_sub hl [1, 2, 3, 4, 5, 6, 0] rfl)
          · skip
            refine lv_iload hx hb kd_W_countHits_51 (lv_at hl 4 rfl) ?_
            refine lv_istore (lv' := [(7, .int (nI hd)), (0, .ref (q 0)), (1, .int (nI li)), (3, .int (nI bs)), (4, .int (nI hd)), (5, .int (nI cn)), (6, .int (nI i))]) hx hb kd_W_countHits_53 hl (by decide) rfl (fun ls hl => ?_)
            refine lv_iinc (v := nI (hd + 1)) (lv' := [(4, .int (nI (hd + 1))), (7, .int (nI hd)), (0, .ref (q 0)), (1, .int (nI li)), (3, .int (nI bs)), (5, .int (nI cn)), (6, .int (nI i))]) hx hb kd_W_countHits_55 hl (k := 4) rfl (by first | exact nI_1 _ | (show _ + _ = _; exact nI_1 _)) (by decide) rfl (fun ls hl => ?_)
            refine lv_goto (tgt := 80) hx hb kd_W_countHits_58 (by decide) ?_
            exact hc80 hd cn (hd + 1)  (by first | omega | exact Nat.le_of_lt ax68.1 | (have := ax68.1; omega)) (by first | omega | (have := ax68.1; omega)) (by first | exact Or.inl ⟨hl2, hyes⟩ | exact Or.inr (Or.inl ⟨hno, by omega, by omega⟩) | exact Or.inr (Or.inr ⟨hno, by omega, Or.inl ⟨by simp; omega, by omega⟩⟩) | exact Or.inr (Or.inr ⟨hno, by omega, Or.inr ⟨by simp; omega, zl_max hfl (hlen ▸ ax68)⟩⟩)) (by first | (rw [if_neg hno]; rfl) | rw [if_neg hno] | rw [if_pos (List.mem_of_getElem? hyes)]) (by first | (rw [hlen]; exact zl_len hl2) | (rw [hlen]; exact zl_len (show Ls.length - 1 < Ls.length by omega)) | (rw [hlen]; exact zl_len (hlen ▸ ax68.1)) | rw [hlen, List.eraseIdx_of_length_le (Nat.le_refl _)]) _ _ (hP.sub [3, 0, 1, 2, 4] rfl) (hD.sub [3, 0, 1, 2, 4] (by decide) rfl) hS ls (lv_sub hl [2, 3, 4, 0, 5, 6, 1] rfl)
        · skip
          obtain ⟨l1, hl1, rfl⟩ := zf_FP_lt fp28 c36
          have hl2 : l1 < Ls.length := by omega
          have hyes := zl_found hfl (by omega) hL64 hl2 (hlen ▸ fp28)
          refine lv_iinc (v := nI (cn + 1)) (lv' := [(5, .int (nI (cn + 1))), (7, .int (nI l1)), (0, .ref (q 0)), (1, .int (nI li)), (3, .int (nI bs)), (4, .int (nI hd)), (6, .int (nI i))]) hx hb kd_W_countHits_39 hl (k := 5) rfl (by first | exact nI_1 _ | (show _ + _ = _; exact nI_1 _)) (by decide) rfl (fun ls hl => ?_)
          refine lv_goto (tgt := 80) hx hb kd_W_countHits_42 (by decide) ?_
          exact hc80 l1 (cn + 1) hd  (by first | omega | exact Nat.le_of_lt ax68.1 | (have := ax68.1; omega)) (by first | omega | (have := ax68.1; omega)) (by first | exact Or.inl ⟨hl2, hyes⟩ | exact Or.inr (Or.inl ⟨hno, by omega, by omega⟩) | exact Or.inr (Or.inr ⟨hno, by omega, Or.inl ⟨by simp; omega, by omega⟩⟩) | exact Or.inr (Or.inr ⟨hno, by omega, Or.inr ⟨by simp; omega, zl_max hfl (hlen ▸ ax68)⟩⟩)) (by first | (rw [if_neg hno]; rfl) | rw [if_neg hno] | rw [if_pos (List.mem_of_getElem? hyes)]) (by first | (rw [hlen]; exact zl_len hl2) | (rw [hlen]; exact zl_len (show Ls.length - 1 < Ls.length by omega)) | (rw [hlen]; exact zl_len (hlen ▸ ax68.1)) | rw [hlen, List.eraseIdx_of_length_le (Nat.le_refl _)]) _ _ (hP.sub [3, 0, 1, 2, 4] rfl) (hD.sub [3, 0, 1, 2, 4] (by decide) rfl) hS ls (lv_sub hl [2, 3, 4, 5, 0, 6, 1] rfl)
  exact hc14 _ 0 0 0 ([]) fl (Nat.lt_succ_self _) (by omega) (rfl) (⟨rfl, rfl⟩) (fun j h => by simp at h) _ _ (hP.sub [1, 2, 3, 4, 0] rfl) (hD.sub [1, 2, 3, 4, 0] (by decide) rfl) hS ls (lv_sub hl [3, 4, 6, 2, 1, 0] rfl)
end
section
def rm_cm_thrown : Room := { frames := 0, cells := 0, slots := 0, locals := 0 }
set_option maxHeartbeats 4000000 in
set_option maxRecDepth 100000 in
/-- what was thrown -/
theorem cm_thrown (l : Launch) (dC : Nat → ClassId) (dI : Nat → Nat → Nat) (cI cZ cO cL : ClassId) (q : Nat → Nat) (th : Nat) (n : Nat) (lc : Nat) (kp : Nat)  : zz_Mi l ky_M_thrown kw_M_thrown rm_cm_thrown (dC, dI) (zz_ty cI cZ cO cL) [(q 0, zm_ob q th n lc kp)] [.ref (q 0)] (fun (r : Int32) (w : va_W) => w = [(q 0, zm_ob q th n lc kp)] ∧ (r = nI th)) 0 0 := by
  refine zz_entry_i (cc := kb_M_thrown) (maxL := 1) (own := zk_RM) (by decide) rfl rfl (Nat.le_of_ble_eq_true rfl) ?_
  intro p e s m args below meth c Q hx hb hml hown hts hin hP hK A hD hA hS hret ls hl
  have hl : lv_has ls 1 [(0, .ref (q 0))] := hl
  obtain ⟨H, eH⟩ : ∃ z, z = s.heap := ⟨_, rfl⟩
  obtain ⟨locs, eL⟩ : ∃ z : List Loc, z = [] := ⟨_, rfl⟩
  rw [← eH] at hP ⊢
  have hS : va_S A s.heap H locs := by rw [eH, eL]; exact hS
  rw [← eL]
  refine lv_aload_n hx hb kd_M_thrown_0 rfl (lv_at hl 0 rfl) ?_
  refine va_get (D := (dC, dI)) (ci := 3) (v := .int (nI th)) (C := zk_RM) (T := zk_TM) (N := 22) hx hb hts kl_M hown hK hP 0 rfl rfl 0 (by decide) (hts _ kj_346) (fun _ h9 => h9) rfl kd_M_thrown_1 ?_
  exact hret _ _ _ _ _ _ kd_M_thrown_4 hP hD hS (⟨rfl, rfl⟩)

def rm_cm_accesses : Room := { frames := 0, cells := 0, slots := 0, locals := 0 }
set_option maxHeartbeats 4000000 in
set_option maxRecDepth 100000 in
/-- how many accesses -/
theorem cm_accesses (l : Launch) (dC : Nat → ClassId) (dI : Nat → Nat → Nat) (cI cZ cO cL : ClassId) (q : Nat → Nat) (th : Nat) (n : Nat) (lc : Nat) (kp : Nat)  : zz_Mi l ky_M_accesses kw_M_accesses rm_cm_accesses (dC, dI) (zz_ty cI cZ cO cL) [(q 0, zm_ob q th n lc kp)] [.ref (q 0)] (fun (r : Int32) (w : va_W) => w = [(q 0, zm_ob q 0 n lc kp)] ∧ (r = nI n)) 0 0 := by
  refine zz_entry_i (cc := kb_M_accesses) (maxL := 1) (own := zk_RM) (by decide) rfl rfl (Nat.le_of_ble_eq_true rfl) ?_
  intro p e s m args below meth c Q hx hb hml hown hts hin hP hK A hD hA hS hret ls hl
  have hl : lv_has ls 1 [(0, .ref (q 0))] := hl
  obtain ⟨H, eH⟩ : ∃ z, z = s.heap := ⟨_, rfl⟩
  obtain ⟨locs, eL⟩ : ∃ z : List Loc, z = [] := ⟨_, rfl⟩
  rw [← eH] at hP ⊢
  have hS : va_S A s.heap H locs := by rw [eH, eL]; exact hS
  rw [← eL]
  refine lv_aload_n hx hb kd_M_accesses_0 rfl (lv_at hl 0 rfl) ?_
  refine lv_iconst (v := nI 0) hx hb kd_M_accesses_1 (by decide) ?_
  refine va_put (D := (dC, dI)) (ci := 3) (v := .int (nI 0)) (ty := .int) (C := zk_RM) (T := zk_TM) (N := 22) hx hb hts kl_M zk_tM zk_kM zk_nM hown hK hP hD hS 0 rfl rfl 0 (by decide) (hts _ kj_346) (fun _ h9 => h9) rfl (by decide +kernel) rfl rfl (Nat.le_of_ble_eq_true rfl) kd_M_accesses_2 (fun H locs hP hD hS => ?_)
  have hP : va_P (dC, dI) zk_cl [(q 0, zm_ob q 0 n lc kp)] H := hP
  have hD : va_D A [(q 0, zm_ob q 0 n lc kp)] := hD
  refine lv_aload_n hx hb kd_M_accesses_5 rfl (lv_at hl 0 rfl) ?_
  refine va_get (D := (dC, dI)) (ci := 3) (v := .int (nI n)) (C := zk_RM) (T := zk_TM) (N := 22) hx hb hts kl_M hown hK hP 0 rfl rfl 1 (by decide) (hts _ kj_347) (fun _ h9 => h9) rfl kd_M_accesses_6 ?_
  exact hret _ _ _ _ _ _ kd_M_accesses_9 hP hD hS (⟨rfl, rfl⟩)

def rm_cm_in : Room := { frames := 0, cells := 0, slots := 0, locals := 0 }
set_option maxHeartbeats 4000000 in
set_option maxRecDepth 100000 in
/-- between -/
theorem cm_in (l : Launch) (dC : Nat → ClassId) (dI : Nat → Nat → Nat) (cI cZ cO cL : ClassId) (v : Int32) (lo : Int32) (up : Int32)  : zz_Mi l ky_M_in kw_M_in rm_cm_in (dC, dI) (zz_ty cI cZ cO cL) [] [.int v, .int lo, .int up] (fun (r : Int32) (w : va_W) => ∃ (h : Nat), w = [] ∧ (r = nI h) ∧ (zm_in h v lo up) ∧ (h ≤ 1)) 0 0 := by
  refine zz_entry_z (cc := kb_M_in) (maxL := 3) (own := zk_RM) (by decide) rfl rfl (Nat.le_of_ble_eq_true rfl) ?_
  intro p e s m args below meth c Q hx hb hml hown hts hin hP hK A hD hA hS hret ls hl
  have hl : lv_has ls 3 [(0, .int v), (1, .int lo), (2, .int up)] := hl
  obtain ⟨H, eH⟩ : ∃ z, z = s.heap := ⟨_, rfl⟩
  obtain ⟨locs, eL⟩ : ∃ z : List Loc, z = [] := ⟨_, rfl⟩
  rw [← eH] at hP ⊢
  have hS : va_S A s.heap H locs := by rw [eH, eL]; exact hS
  rw [← eL]
  refine lv_iload_n hx hb kd_M_in_0 rfl (lv_at hl 0 rfl) ?_
  refine lv_iload_n hx hb kd_M_in_1 rfl (lv_at hl 1 rfl) ?_
  refine lv_icmp_lt (tgt := 14) hx hb kd_M_in_2 (by decide) (fun c2 => ?_) (fun c2 => ?_)
  · skip
    refine lv_iconst (v := nI 0) hx hb kd_M_in_14 (by decide) ?_
    exact hret _ _ _ _ _ _ (Or.inl rfl) kd_M_in_15 hP hD hS (⟨0, rfl, rfl, (by first | exact Or.inl ⟨rfl, c2, c7⟩ | exact Or.inr ⟨rfl, Or.inr c7⟩ | exact Or.inr ⟨rfl, Or.inl c2⟩), (by omega)⟩)
  · skip
    refine lv_iload_n hx hb kd_M_in_5 rfl (lv_at hl 0 rfl) ?_
    refine lv_iload_n hx hb kd_M_in_6 rfl (lv_at hl 2 rfl) ?_
    refine lv_icmp_gt (tgt := 14) hx hb kd_M_in_7 (by decide) (fun c7 => ?_) (fun c7 => ?_)
    · skip
      refine lv_iconst (v := nI 0) hx hb kd_M_in_14 (by decide) ?_
      exact hret _ _ _ _ _ _ (Or.inl rfl) kd_M_in_15 hP hD hS (⟨0, rfl, rfl, (by first | exact Or.inl ⟨rfl, c2, c7⟩ | exact Or.inr ⟨rfl, Or.inr c7⟩ | exact Or.inr ⟨rfl, Or.inl c2⟩), (by omega)⟩)
    · skip
      refine lv_iconst (v := nI 1) hx hb kd_M_in_10 (by decide) ?_
      refine lv_goto (tgt := 15) hx hb kd_M_in_11 (by decide) ?_
      exact hret _ _ _ _ _ _ (Or.inr rfl) kd_M_in_15 hP hD hS (⟨1, rfl, rfl, (by first | exact Or.inl ⟨rfl, c2, c7⟩ | exact Or.inr ⟨rfl, Or.inr c7⟩ | exact Or.inr ⟨rfl, Or.inl c2⟩), (by omega)⟩)

def rm_cm_refuse : Room := { frames := 0, cells := 0, slots := 0, locals := 0 }
set_option maxHeartbeats 4000000 in
set_option maxRecDepth 100000 in
/-- what is thrown -/
theorem cm_refuse (l : Launch) (dC : Nat → ClassId) (dI : Nat → Nat → Nat) (cI cZ cO cL : ClassId) (q : Nat → Nat) (th : Nat) (n : Nat) (lc : Nat) (kp : Nat) (o1 : Nat) (o2 : Nat) (o3 : Nat) (h1 : o1 ≤ 1) (h2 : o2 ≤ 1) (h3 : o3 ≤ 1) : zz_Mi l ky_M_refuse kw_M_refuse rm_cm_refuse (dC, dI) (zz_ty cI cZ cO cL) [(q 0, zm_ob q th n lc kp)] [.ref (q 0), .int (nI o1), .int (nI o2), .int (nI o3)] (fun (r : Int32) (w : va_W) => ∃ (t2 : Nat), ∃ (h : Nat), w = [(q 0, zm_ob q t2 n lc kp)] ∧ (r = nI h) ∧ (zm_rf o1 o2 o3 t2) ∧ ((0 < t2 ∧ h = 1) ∨ (t2 = 0 ∧ h = 0)) ∧ (h ≤ 1)) 0 0 := by
  refine zz_entry_z (cc := kb_M_refuse) (maxL := 4) (own := zk_RM) (by decide) rfl rfl (Nat.le_of_ble_eq_true rfl) ?_
  intro p e s m args below meth c Q hx hb hml hown hts hin hP hK A hD hA hS hret ls hl
  have hl : lv_has ls 4 [(0, .ref (q 0)), (1, .int (nI o1)), (2, .int (nI o2)), (3, .int (nI o3))] := hl
  obtain ⟨H, eH⟩ : ∃ z, z = s.heap := ⟨_, rfl⟩
  obtain ⟨locs, eL⟩ : ∃ z : List Loc, z = [] := ⟨_, rfl⟩
  rw [← eH] at hP ⊢
  have hS : va_S A s.heap H locs := by rw [eH, eL]; exact hS
  rw [← eL]
  refine lv_aload_n hx hb kd_M_refuse_0 rfl (lv_at hl 0 rfl) ?_
  refine lv_iload_n hx hb kd_M_refuse_1 rfl (lv_at hl 1 rfl) ?_
  refine zz_if_eq (tgt := 9) hx hb kd_M_refuse_2 (by decide) (by omega) (fun c2 => ?_) (fun c2 => ?_)
  · skip
    refine lv_iload_n hx hb kd_M_refuse_9 rfl (lv_at hl 2 rfl) ?_
    refine zz_if_eq (tgt := 17) hx hb kd_M_refuse_10 (by decide) (by omega) (fun c10 => ?_) (fun c10 => ?_)
    · skip
      refine lv_iload_n hx hb kd_M_refuse_17 rfl (lv_at hl 3 rfl) ?_
      refine zz_if_eq (tgt := 25) hx hb kd_M_refuse_18 (by decide) (by omega) (fun c18 => ?_) (fun c18 => ?_)
      · skip
        refine lv_iconst (v := nI 0) hx hb kd_M_refuse_25 (by decide) ?_
        refine va_put (D := (dC, dI)) (ci := 3) (v := .int (nI 0)) (ty := .int) (C := zk_RM) (T := zk_TM) (N := 22) hx hb hts kl_M zk_tM zk_kM zk_nM hown hK hP hD hS 0 rfl rfl 0 (by decide) (hts _ kj_346) (fun _ h9 => h9) rfl (by decide +kernel) rfl rfl (Nat.le_of_ble_eq_true rfl) kd_M_refuse_26 (fun H locs hP hD hS => ?_)
        have hP : va_P (dC, dI) zk_cl [(q 0, zm_ob q 0 n lc kp)] H := hP
        have hD : va_D A [(q 0, zm_ob q 0 n lc kp)] := hD
        refine lv_aload_n hx hb kd_M_refuse_29 rfl (lv_at hl 0 rfl) ?_
        refine va_get (D := (dC, dI)) (ci := 3) (v := .int (nI 0)) (C := zk_RM) (T := zk_TM) (N := 22) hx hb hts kl_M hown hK hP 0 rfl rfl 0 (by decide) (hts _ kj_346) (fun _ h9 => h9) rfl kd_M_refuse_30 ?_
        refine zz_if_le (tgt := 40) hx hb kd_M_refuse_33 (by decide) (by decide) (fun _ => ?_) (fun c9 => absurd c9 (by decide))
        refine lv_iconst (v := nI 0) hx hb kd_M_refuse_40 (by decide) ?_
        exact hret _ _ _ _ _ _ (Or.inl rfl) kd_M_refuse_41 hP hD hS (⟨0, 0, rfl, rfl, (by unfold zm_rf; omega), (by omega), (by omega)⟩)
      · skip
        refine lv_iconst (v := nI 3) hx hb kd_M_refuse_21 (by decide) ?_
        refine lv_goto (tgt := 26) hx hb kd_M_refuse_22 (by decide) ?_
        refine va_put (D := (dC, dI)) (ci := 3) (v := .int (nI 3)) (ty := .int) (C := zk_RM) (T := zk_TM) (N := 22) hx hb hts kl_M zk_tM zk_kM zk_nM hown hK hP hD hS 0 rfl rfl 0 (by decide) (hts _ kj_346) (fun _ h9 => h9) rfl (by decide +kernel) rfl rfl (Nat.le_of_ble_eq_true rfl) kd_M_refuse_26 (fun H locs hP hD hS => ?_)
        have hP : va_P (dC, dI) zk_cl [(q 0, zm_ob q 3 n lc kp)] H := hP
        have hD : va_D A [(q 0, zm_ob q 3 n lc kp)] := hD
        refine lv_aload_n hx hb kd_M_refuse_29 rfl (lv_at hl 0 rfl) ?_
        refine va_get (D := (dC, dI)) (ci := 3) (v := .int (nI 3)) (C := zk_RM) (T := zk_TM) (N := 22) hx hb hts kl_M hown hK hP 0 rfl rfl 0 (by decide) (hts _ kj_346) (fun _ h9 => h9) rfl kd_M_refuse_30 ?_
        refine zz_if_le (tgt := 40) hx hb kd_M_refuse_33 (by decide) (by decide) (fun c9 => absurd c9 (by decide)) (fun _ => ?_)
        refine lv_iconst (v := nI 1) hx hb kd_M_refuse_36 (by decide) ?_
        refine lv_goto (tgt := 41) hx hb kd_M_refuse_37 (by decide) ?_
        exact hret _ _ _ _ _ _ (Or.inr rfl) kd_M_refuse_41 hP hD hS (⟨3, 1, rfl, rfl, (by unfold zm_rf; omega), (by omega), (by omega)⟩)
    · skip
      refine lv_iconst (v := nI 2) hx hb kd_M_refuse_13 (by decide) ?_
      refine lv_goto (tgt := 26) hx hb kd_M_refuse_14 (by decide) ?_
      refine va_put (D := (dC, dI)) (ci := 3) (v := .int (nI 2)) (ty := .int) (C := zk_RM) (T := zk_TM) (N := 22) hx hb hts kl_M zk_tM zk_kM zk_nM hown hK hP hD hS 0 rfl rfl 0 (by decide) (hts _ kj_346) (fun _ h9 => h9) rfl (by decide +kernel) rfl rfl (Nat.le_of_ble_eq_true rfl) kd_M_refuse_26 (fun H locs hP hD hS => ?_)
      have hP : va_P (dC, dI) zk_cl [(q 0, zm_ob q 2 n lc kp)] H := hP
      have hD : va_D A [(q 0, zm_ob q 2 n lc kp)] := hD
      refine lv_aload_n hx hb kd_M_refuse_29 rfl (lv_at hl 0 rfl) ?_
      refine va_get (D := (dC, dI)) (ci := 3) (v := .int (nI 2)) (C := zk_RM) (T := zk_TM) (N := 22) hx hb hts kl_M hown hK hP 0 rfl rfl 0 (by decide) (hts _ kj_346) (fun _ h9 => h9) rfl kd_M_refuse_30 ?_
      refine zz_if_le (tgt := 40) hx hb kd_M_refuse_33 (by decide) (by decide) (fun c9 => absurd c9 (by decide)) (fun _ => ?_)
      refine lv_iconst (v := nI 1) hx hb kd_M_refuse_36 (by decide) ?_
      refine lv_goto (tgt := 41) hx hb kd_M_refuse_37 (by decide) ?_
      exact hret _ _ _ _ _ _ (Or.inr rfl) kd_M_refuse_41 hP hD hS (⟨2, 1, rfl, rfl, (by unfold zm_rf; omega), (by omega), (by omega)⟩)
  · skip
    refine lv_iconst (v := nI 1) hx hb kd_M_refuse_5 (by decide) ?_
    refine lv_goto (tgt := 26) hx hb kd_M_refuse_6 (by decide) ?_
    refine va_put (D := (dC, dI)) (ci := 3) (v := .int (nI 1)) (ty := .int) (C := zk_RM) (T := zk_TM) (N := 22) hx hb hts kl_M zk_tM zk_kM zk_nM hown hK hP hD hS 0 rfl rfl 0 (by decide) (hts _ kj_346) (fun _ h9 => h9) rfl (by decide +kernel) rfl rfl (Nat.le_of_ble_eq_true rfl) kd_M_refuse_26 (fun H locs hP hD hS => ?_)
    have hP : va_P (dC, dI) zk_cl [(q 0, zm_ob q 1 n lc kp)] H := hP
    have hD : va_D A [(q 0, zm_ob q 1 n lc kp)] := hD
    refine lv_aload_n hx hb kd_M_refuse_29 rfl (lv_at hl 0 rfl) ?_
    refine va_get (D := (dC, dI)) (ci := 3) (v := .int (nI 1)) (C := zk_RM) (T := zk_TM) (N := 22) hx hb hts kl_M hown hK hP 0 rfl rfl 0 (by decide) (hts _ kj_346) (fun _ h9 => h9) rfl kd_M_refuse_30 ?_
    refine zz_if_le (tgt := 40) hx hb kd_M_refuse_33 (by decide) (by decide) (fun c9 => absurd c9 (by decide)) (fun _ => ?_)
    refine lv_iconst (v := nI 1) hx hb kd_M_refuse_36 (by decide) ?_
    refine lv_goto (tgt := 41) hx hb kd_M_refuse_37 (by decide) ?_
    exact hret _ _ _ _ _ _ (Or.inr rfl) kd_M_refuse_41 hP hD hS (⟨1, 1, rfl, rfl, (by unfold zm_rf; omega), (by omega), (by omega)⟩)

def rm_cm_isThere : Room := { frames := 1, cells := 0, slots := 0, locals := 22 }
set_option maxHeartbeats 4000000 in
set_option maxRecDepth 100000 in
/-- whether there is such a cache -/
theorem cm_isThere (l : Launch) (dC : Nat → ClassId) (dI : Nat → Nat → Nat) (cI cZ cO cL : ClassId) (q : Nat → Nat) (th : Nat) (n : Nat) (lc : Nat) (kp : Nat) (gt : Nat → Int32) (x : Int32)  : zz_Mi l ky_M_isThere kw_M_isThere rm_cm_isThere (dC, dI) (zz_ty cI cZ cO cL) [(q 0, zm_ob q th n lc kp), (q 2, .inl (cZ, 4, .inl gt))] [.ref (q 0), .int x] (fun (r : Int32) (w : va_W) => ∃ (h : Nat), w = [(q 0, zm_ob q th n lc kp), (q 2, .inl (cZ, 4, .inl gt))] ∧ (r = nI h) ∧ ((h = 1 ∧ ∃ k, k < 4 ∧ x = nI k ∧ ¬ gt k = 0) ∨ (h = 0 ∧ ∀ k, k < 4 → x = nI k → gt k = 0)) ∧ (h ≤ 1)) 0 0 := by
  refine zz_entry_z (cc := kb_M_isThere) (maxL := 2) (own := zk_RM) (by decide) rfl rfl (Nat.le_of_ble_eq_true rfl) ?_
  intro p e s m args below meth c Q hx hb hml hown hts hin hP hK A hD hA hS hret ls hl
  have hl : lv_has ls 2 [(0, .ref (q 0)), (1, .int x)] := hl
  obtain ⟨H, eH⟩ : ∃ z, z = s.heap := ⟨_, rfl⟩
  obtain ⟨locs, eL⟩ : ∃ z : List Loc, z = [] := ⟨_, rfl⟩
  rw [← eH] at hP ⊢
  have hS : va_S A s.heap H locs := by rw [eH, eL]; exact hS
  rw [← eL]
  refine lv_iload_n hx hb kd_M_isThere_0 rfl (lv_at hl 1 rfl) ?_
  refine lv_iconst (v := nI 0) hx hb kd_M_isThere_1 (by decide) ?_
  refine lv_iconst (v := nI 3) hx hb kd_M_isThere_2 (by decide) ?_
  refine zz_iS (As := [.int x, .int (nI 0), .int (nI 3)]) (rest := []) (wc := []) (wr := [(q 0, zm_ob q th n lc kp), (q 2, .inl (cZ, 4, .inl gt))]) ⟨hx, hb, hml, hown, hts⟩ (cm_in l dC dI cI cZ cO cL x (nI 0) (nI 3) ) (zz_cwS hts kj_400 kj_27 kj_398 kj_399 kz_M_in rfl rfl ⟨Nat.le_of_ble_eq_true rfl, Nat.le_of_ble_eq_true rfl⟩) hP hD hK hS hA rfl hl.1 rfl (Nat.le_of_ble_eq_true rfl) kd_M_isThere_3 ⟨by decide, by decide⟩ (fun r9 w9 H locs hw hP hD hS => ?_)
  obtain ⟨h_1, rfl, rfl, hin3, hb13⟩ := hw
  have hP : va_P (dC, dI) zk_cl [(q 0, zm_ob q th n lc kp), (q 2, .inl (cZ, 4, .inl gt))] H := hP
  have hD : va_D A [(q 0, zm_ob q th n lc kp), (q 2, .inl (cZ, 4, .inl gt))] := hD
  refine zz_if_eq (tgt := 35) hx hb kd_M_isThere_6 (by decide) (by omega) (fun c6 => ?_) (fun c6 => ?_)
  · skip
    refine lv_iconst (v := nI 0) hx hb kd_M_isThere_35 (by decide) ?_
    exact hret _ _ _ _ _ _ (Or.inl rfl) kd_M_isThere_36 hP hD hS (⟨0, rfl, rfl, (by first | exact Or.inl ⟨rfl, k, by omega, rfl, c28⟩ | exact Or.inr ⟨rfl, fun j hj e => by rw [← (nI_eq (by omega) (by omega)).mp e]; exact c28⟩ | exact Or.inr ⟨rfl, fun j hj e => absurd e (zm_in0 (by decide) (by decide) hin3 c6 j (by omega) (by omega))⟩), (by omega)⟩)
  · skip
    obtain ⟨k, hk1, hk2, rfl⟩ := zm_inN (by decide) (by decide) hin3 c6
    refine lv_aload_n hx hb kd_M_isThere_9 rfl (lv_at hl 0 rfl) ?_
    refine va_get (D := (dC, dI)) (ci := 3) (v := .ref (q 2)) (C := zk_RM) (T := zk_TM) (N := 22) hx hb hts kl_M hown hK hP 0 rfl rfl 3 (by decide) (hts _ kj_349) (fun _ h9 => h9) rfl kd_M_isThere_10 ?_
    refine lv_iload_n hx hb kd_M_isThere_13 rfl (lv_at hl 1 rfl) ?_
    refine lv_iconst (v := nI 0) hx hb kd_M_isThere_14 (by decide) ?_
    refine lv_iconst (v := nI 3) hx hb kd_M_isThere_15 (by decide) ?_
    refine zz_iS (As := [.int (nI k), .int (nI 0), .int (nI 3)]) (rest := [.ref (q 2)]) (wc := []) (wr := [(q 0, zm_ob q th n lc kp), (q 2, .inl (cZ, 4, .inl gt))]) ⟨hx, hb, hml, hown, hts⟩ (cm_in l dC dI cI cZ cO cL (nI k) (nI 0) (nI 3) ) (zz_cwS hts kj_400 kj_27 kj_398 kj_399 kz_M_in rfl rfl ⟨Nat.le_of_ble_eq_true rfl, Nat.le_of_ble_eq_true rfl⟩) hP hD hK hS hA rfl hl.1 rfl (Nat.le_of_ble_eq_true rfl) kd_M_isThere_16 ⟨by decide, by decide⟩ (fun r9 w9 H locs hw hP hD hS => ?_)
    obtain ⟨h_3, rfl, rfl, hin16, hb116⟩ := hw
    have hP : va_P (dC, dI) zk_cl [(q 0, zm_ob q th n lc kp), (q 2, .inl (cZ, 4, .inl gt))] H := hP
    have hD : va_D A [(q 0, zm_ob q th n lc kp), (q 2, .inl (cZ, 4, .inl gt))] := hD
    refine zz_if_eq (tgt := 26) hx hb kd_M_isThere_19 (by decide) (by omega) (fun c19 => ?_) (fun c19 => ?_)
    · skip
      exact absurd c19 (zm_inT hin16 (nI_nlt (by omega) (by omega)) (nI_nlt (by omega) (by omega)))
    · skip
      refine lv_iload_n hx hb kd_M_isThere_22 rfl (lv_at hl 1 rfl) ?_
      refine lv_goto (tgt := 27) hx hb kd_M_isThere_23 (by decide) ?_
      refine zz_zald hx hb hK hP 1 1 rfl rfl (k := k) (by omega) (by decide) kd_M_isThere_27 ?_
      refine lv_if_eq (tgt := 35) hx hb kd_M_isThere_28 (by decide) (fun c28 => ?_) (fun c28 => ?_)
      · skip
        refine lv_iconst (v := nI 0) hx hb kd_M_isThere_35 (by decide) ?_
        exact hret _ _ _ _ _ _ (Or.inl rfl) kd_M_isThere_36 hP hD hS (⟨0, rfl, rfl, (by first | exact Or.inl ⟨rfl, k, by omega, rfl, c28⟩ | exact Or.inr ⟨rfl, fun j hj e => by rw [← (nI_eq (by omega) (by omega)).mp e]; exact c28⟩ | exact Or.inr ⟨rfl, fun j hj e => absurd e (zm_in0 (by decide) (by decide) hin3 c6 j (by omega) (by omega))⟩), (by omega)⟩)
      · skip
        refine lv_iconst (v := nI 1) hx hb kd_M_isThere_31 (by decide) ?_
        refine lv_goto (tgt := 36) hx hb kd_M_isThere_32 (by decide) ?_
        exact hret _ _ _ _ _ _ (Or.inr rfl) kd_M_isThere_36 hP hD hS (⟨1, rfl, rfl, (by first | exact Or.inl ⟨rfl, k, by omega, rfl, c28⟩ | exact Or.inr ⟨rfl, fun j hj e => by rw [← (nI_eq (by omega) (by omega)).mp e]; exact c28⟩ | exact Or.inr ⟨rfl, fun j hj e => absurd e (zm_in0 (by decide) (by decide) hin3 c6 j (by omega) (by omega))⟩), (by omega)⟩)

def rm_cm_empty : Room := { frames := 0, cells := 0, slots := 0, locals := 0 }
set_option maxHeartbeats 4000000 in
set_option maxRecDepth 100000 in
/-- a cache is empty -/
theorem cm_empty (l : Launch) (dC : Nat → ClassId) (dI : Nat → Nat → Nat) (cI cZ cO cL : ClassId) (q : Nat → Nat) (th : Nat) (n : Nat) (lc : Nat) (kp : Nat) (gb : Nat → Int32) (gd : Nat → Int32) (gp : Nat → Int32) (ca : Nat) (hc : ca < 4) : zz_Mv l ky_M_empty kw_M_empty rm_cm_empty (dC, dI) (zz_ty cI cZ cO cL) [(q 0, zm_ob q th n lc kp), (q 11, .inl (cI, 512, .inl gb)), (q 12, .inl (cZ, 512, .inl gd)), (q 15, .inl (cZ, 512, .inl gp))] [.ref (q 0), .int (nI ca)] (fun (w : va_W) => ∃ (gb2 : Nat → Int32), ∃ (gd2 : Nat → Int32), ∃ (gp2 : Nat → Int32), w = [(q 0, zm_ob q th n lc kp), (q 11, .inl (cI, 512, .inl gb2)), (q 12, .inl (cZ, 512, .inl gd2)), (q 15, .inl (cZ, 512, .inl gp2))] ∧ (zu_Bk gb gb2 (128 * ca) 128 (-1)) ∧ (zu_Bk gd gd2 (128 * ca) 128 0) ∧ (zu_Bk gp gp2 (128 * ca) 128 0)) 0 0 := by
  refine zz_entry_v (cc := kb_M_empty) (maxL := 3) (own := zk_RM) (by decide) rfl rfl (Nat.le_of_ble_eq_true rfl) ?_
  intro p e s m args below meth c Q hx hb hml hown hts hin hP hK A hD hA hS hret ls hl
  have hl : lv_has ls 3 [(0, .ref (q 0)), (1, .int (nI ca))] := hl
  obtain ⟨H, eH⟩ : ∃ z, z = s.heap := ⟨_, rfl⟩
  obtain ⟨locs, eL⟩ : ∃ z : List Loc, z = [] := ⟨_, rfl⟩
  rw [← eH] at hP ⊢
  have hS : va_S A s.heap H locs := by rw [eH, eL]; exact hS
  rw [← eL]
  refine lv_iconst (v := nI 0) hx hb kd_M_empty_0 (by decide) ?_
  refine lv_istore_n (lv' := [(2, .int (nI 0)), (0, .ref (q 0)), (1, .int (nI ca))]) hx hb kd_M_empty_1 rfl hl (by decide) rfl (fun ls hl => ?_)
  have hc2 : ∀ (nn : Nat), ∀ (k : Nat) (gb1 : Nat → Int32) (gd1 : Nat → Int32) (gp1 : Nat → Int32), 128 - k < nn → (k ≤ 128) → (zu_Bk gb gb1 (128 * ca) k (-1)) → (zu_Bk gd gd1 (128 * ca) k 0) → (zu_Bk gp gp1 (128 * ca) k 0) → ∀ (H : Heap) (locs : List Loc), va_P (dC, dI) zk_cl [(q 0, zm_ob q th n lc kp), (q 11, .inl (cI, 512, .inl gb1)), (q 12, .inl (cZ, 512, .inl gd1)), (q 15, .inl (cZ, 512, .inl gp1))] H → va_D A [(q 0, zm_ob q th n lc kp), (q 11, .inl (cI, 512, .inl gb1)), (q 12, .inl (cZ, 512, .inl gd1)), (q 15, .inl (cZ, 512, .inl gp1))] → va_S A s.heap H locs → ∀ ls : Array Slot, lv_has ls 3 [(0, .ref (q 0)), (1, .int (nI ca)), (2, .int (nI k))] → W p l e rm_cm_empty s m args below meth c H locs 0 0 Q (F0 m 2 ls []) := by
    intro nn
    induction nn with
    | zero => intro k gb1 gd1 gp1 hm; exact absurd hm (Nat.not_lt_zero _)
    | succ nn ih =>
      intro k gb1 gd1 gp1 hm hk h1 h2 h3 H locs hP hD hS ls hl
      refine lv_iload_n hx hb kd_M_empty_2 rfl (lv_at hl 2 rfl) ?_
      refine lv_sipush (v := nI 128) hx hb kd_M_empty_3 (by decide) ?_
      refine zz_icmp_ge (tgt := 54) hx hb kd_M_empty_6 (by decide) (by omega) (by decide) (fun c6 => ?_) (fun c6 => ?_)
      · skip
        exact hret _ _ _ _ _ kd_M_empty_54 hP hD hS (⟨gb1, gd1, gp1, rfl, ((show k = 128 by omega) ▸ h1), ((show k = 128 by omega) ▸ h2), ((show k = 128 by omega) ▸ h3)⟩)
      · skip
        refine lv_aload_n hx hb kd_M_empty_9 rfl (lv_at hl 0 rfl) ?_
        refine va_get (D := (dC, dI)) (ci := 3) (v := .ref (q 11)) (C := zk_RM) (T := zk_TM) (N := 22) hx hb hts kl_M hown hK hP 0 rfl rfl 12 (by decide) (hts _ kj_358) (fun _ h9 => h9) rfl kd_M_empty_10 ?_
        refine lv_sipush (v := nI 128) hx hb kd_M_empty_13 (by decide) ?_
        refine lv_iload_n hx hb kd_M_empty_16 rfl (lv_at hl 1 rfl) ?_
        refine lv_imul hx hb kd_M_empty_17 ?_
        refine zz_top (y := nI (128 * ca)) (pk_mul _ _) ?_
        refine lv_iload_n hx hb kd_M_empty_18 rfl (lv_at hl 2 rfl) ?_
        refine lv_iadd hx hb kd_M_empty_19 ?_
        refine zz_top (y := nI (128 * ca + k)) (nI_add _ _) ?_
        refine lv_iconst (v := (-1)) hx hb kd_M_empty_20 (by decide) ?_
        refine zz_iast hx hb hK hP hD hS 1 0 rfl rfl (k := 128 * ca + k) (by omega) (by decide) kd_M_empty_21 (fun H locs hP hD hS => ?_)
        have hP : va_P (dC, dI) zk_cl [(q 0, zm_ob q th n lc kp), (q 11, .inl (cI, 512, .inl (upd gb1 (128 * ca + k) (-1)))), (q 12, .inl (cZ, 512, .inl gd1)), (q 15, .inl (cZ, 512, .inl gp1))] H := hP
        have hD : va_D A [(q 0, zm_ob q th n lc kp), (q 11, .inl (cI, 512, .inl (upd gb1 (128 * ca + k) (-1)))), (q 12, .inl (cZ, 512, .inl gd1)), (q 15, .inl (cZ, 512, .inl gp1))] := hD
        refine lv_aload_n hx hb kd_M_empty_22 rfl (lv_at hl 0 rfl) ?_
        refine va_get (D := (dC, dI)) (ci := 3) (v := .ref (q 12)) (C := zk_RM) (T := zk_TM) (N := 22) hx hb hts kl_M hown hK hP 0 rfl rfl 13 (by decide) (hts _ kj_359) (fun _ h9 => h9) rfl kd_M_empty_23 ?_
        refine lv_sipush (v := nI 128) hx hb kd_M_empty_26 (by decide) ?_
        refine lv_iload_n hx hb kd_M_empty_29 rfl (lv_at hl 1 rfl) ?_
        refine lv_imul hx hb kd_M_empty_30 ?_
        refine zz_top (y := nI (128 * ca)) (pk_mul _ _) ?_
        refine lv_iload_n hx hb kd_M_empty_31 rfl (lv_at hl 2 rfl) ?_
        refine lv_iadd hx hb kd_M_empty_32 ?_
        refine zz_top (y := nI (128 * ca + k)) (nI_add _ _) ?_
        refine lv_iconst (v := nI 0) hx hb kd_M_empty_33 (by decide) ?_
        refine zz_zast hx hb hK hP hD hS 2 1 rfl rfl (k := 128 * ca + k) (by omega) (by decide) (Or.inl rfl) kd_M_empty_34 (fun H locs hP hD hS => ?_)
        have hP : va_P (dC, dI) zk_cl [(q 0, zm_ob q th n lc kp), (q 11, .inl (cI, 512, .inl (upd gb1 (128 * ca + k) (-1)))), (q 12, .inl (cZ, 512, .inl (upd gd1 (128 * ca + k) (nI 0)))), (q 15, .inl (cZ, 512, .inl gp1))] H := hP
        have hD : va_D A [(q 0, zm_ob q th n lc kp), (q 11, .inl (cI, 512, .inl (upd gb1 (128 * ca + k) (-1)))), (q 12, .inl (cZ, 512, .inl (upd gd1 (128 * ca + k) (nI 0)))), (q 15, .inl (cZ, 512, .inl gp1))] := hD
        refine lv_aload_n hx hb kd_M_empty_35 rfl (lv_at hl 0 rfl) ?_
        refine va_get (D := (dC, dI)) (ci := 3) (v := .ref (q 15)) (C := zk_RM) (T := zk_TM) (N := 22) hx hb hts kl_M hown hK hP 0 rfl rfl 16 (by decide) (hts _ kj_362) (fun _ h9 => h9) rfl kd_M_empty_36 ?_
        refine lv_sipush (v := nI 128) hx hb kd_M_empty_39 (by decide) ?_
        refine lv_iload_n hx hb kd_M_empty_42 rfl (lv_at hl 1 rfl) ?_
        refine lv_imul hx hb kd_M_empty_43 ?_
        refine zz_top (y := nI (128 * ca)) (pk_mul _ _) ?_
        refine lv_iload_n hx hb kd_M_empty_44 rfl (lv_at hl 2 rfl) ?_
        refine lv_iadd hx hb kd_M_empty_45 ?_
        refine zz_top (y := nI (128 * ca + k)) (nI_add _ _) ?_
        refine lv_iconst (v := nI 0) hx hb kd_M_empty_46 (by decide) ?_
        refine zz_zast hx hb hK hP hD hS 3 1 rfl rfl (k := 128 * ca + k) (by omega) (by decide) (Or.inl rfl) kd_M_empty_47 (fun H locs hP hD hS => ?_)
        have hP : va_P (dC, dI) zk_cl [(q 0, zm_ob q th n lc kp), (q 11, .inl (cI, 512, .inl (upd gb1 (128 * ca + k) (-1)))), (q 12, .inl (cZ, 512, .inl (upd gd1 (128 * ca + k) (nI 0)))), (q 15, .inl (cZ, 512, .inl (upd gp1 (128 * ca + k) (nI 0))))] H := hP
        have hD : va_D A [(q 0, zm_ob q th n lc kp), (q 11, .inl (cI, 512, .inl (upd gb1 (128 * ca + k) (-1)))), (q 12, .inl (cZ, 512, .inl (upd gd1 (128 * ca + k) (nI 0)))), (q 15, .inl (cZ, 512, .inl (upd gp1 (128 * ca + k) (nI 0))))] := hD
        refine lv_iinc (v := nI (k + 1)) (lv' := [(2, .int (nI (k + 1))), (0, .ref (q 0)), (1, .int (nI ca))]) hx hb kd_M_empty_48 hl (k := 2) rfl (by first | exact nI_1 _ | (show _ + _ = _; exact nI_1 _)) (by decide) rfl (fun ls hl => ?_)
        refine lv_goto (tgt := 2) hx hb kd_M_empty_51 (by decide) ?_
        exact ih (k + 1) (upd gb1 (128 * ca + k) (-1)) (upd gd1 (128 * ca + k) (nI 0)) (upd gp1 (128 * ca + k) (nI 0)) (by omega) (by omega) (zu_Bs h1) (zu_Bs h2) (zu_Bs h3) _ _ hP hD hS ls (lv_sub hl [1, 2, 0] rfl)
  exact hc2 _ 0 gb gd gp (Nat.lt_succ_self _) (by omega) (zu_B0) (zu_B0) (zu_B0) _ _ hP hD hS ls (lv_sub hl [1, 2, 0] rfl)

def rm_cm_placeOf : Room := { frames := 0, cells := 0, slots := 0, locals := 0 }
set_option maxHeartbeats 4000000 in
set_option maxRecDepth 100000 in
/-- the first place that holds the block -/
theorem cm_placeOf (l : Launch) (dC : Nat → ClassId) (dI : Nat → Nat → Nat) (cI cZ cO cL : ClassId) (q : Nat → Nat) (th : Nat) (n : Nat) (lc : Nat) (kp : Nat) (gw : Nat → Int32) (gb : Nat → Int32) (ca : Nat) (ao : Nat) (wa : Nat) (x : Int32) (hc : ca < 4) (hw : gw ca = nI wa) (hw8 : wa ≤ 8) (hat : ao + 8 ≤ 512) : zz_Mi l ky_M_placeOf kw_M_placeOf rm_cm_placeOf (dC, dI) (zz_ty cI cZ cO cL) [(q 0, zm_ob q th n lc kp), (q 4, .inl (cI, 4, .inl gw)), (q 11, .inl (cI, 512, .inl gb))] [.ref (q 0), .int (nI ca), .int (nI ao), .int x] (fun (r : Int32) (w : va_W) => w = [(q 0, zm_ob q th n lc kp), (q 4, .inl (cI, 4, .inl gw)), (q 11, .inl (cI, 512, .inl gb))] ∧ (zf_FP (fun k => gb (ao + k)) wa x r)) 0 0 := by
  refine zz_entry_i (cc := kb_M_placeOf) (maxL := 6) (own := zk_RM) (by decide) rfl rfl (Nat.le_of_ble_eq_true rfl) ?_
  intro p e s m args below meth c Q hx hb hml hown hts hin hP hK A hD hA hS hret ls hl
  have hl : lv_has ls 6 [(0, .ref (q 0)), (1, .int (nI ca)), (2, .int (nI ao)), (3, .int x)] := hl
  obtain ⟨H, eH⟩ : ∃ z, z = s.heap := ⟨_, rfl⟩
  obtain ⟨locs, eL⟩ : ∃ z : List Loc, z = [] := ⟨_, rfl⟩
  rw [← eH] at hP ⊢
  have hS : va_S A s.heap H locs := by rw [eH, eL]; exact hS
  rw [← eL]
  refine lv_iconst (v := (-1)) hx hb kd_M_placeOf_0 (by decide) ?_
  refine lv_istore (lv' := [(4, .int (-1)), (0, .ref (q 0)), (1, .int (nI ca)), (2, .int (nI ao)), (3, .int x)]) hx hb kd_M_placeOf_1 hl (by decide) rfl (fun ls hl => ?_)
  refine lv_aload_n hx hb kd_M_placeOf_3 rfl (lv_at hl 1 rfl) ?_
  refine va_get (D := (dC, dI)) (ci := 3) (v := .ref (q 4)) (C := zk_RM) (T := zk_TM) (N := 22) hx hb hts kl_M hown hK hP 0 rfl rfl 5 (by decide) (hts _ kj_351) (fun _ h9 => h9) rfl kd_M_placeOf_4 ?_
  refine lv_iload_n hx hb kd_M_placeOf_7 rfl (lv_at hl 2 rfl) ?_
  refine zz_iald hx hb hK hP 1 0 rfl rfl (k := ca) (by omega) (by decide) kd_M_placeOf_8 ?_
  refine zz_top (y := nI wa) (hw) ?_
  refine lv_iconst (v := nI 1) hx hb kd_M_placeOf_9 (by decide) ?_
  refine lv_isub hx hb kd_M_placeOf_10 ?_
  refine zz_top (y := nI wa - nI 1) (rfl) ?_
  refine lv_istore (lv' := [(5, .int (nI wa - nI 1)), (4, .int (-1)), (0, .ref (q 0)), (1, .int (nI ca)), (2, .int (nI ao)), (3, .int x)]) hx hb kd_M_placeOf_11 hl (by decide) rfl (fun ls hl => ?_)
  have hc13 : ∀ (nn : Nat), ∀ (k : Nat) (f : Int32), k < nn → (k ≤ wa) → (zf_FR (fun k => gb (ao + k)) k wa x f) → ∀ (H : Heap) (locs : List Loc), va_P (dC, dI) zk_cl [(q 0, zm_ob q th n lc kp), (q 4, .inl (cI, 4, .inl gw)), (q 11, .inl (cI, 512, .inl gb))] H → va_D A [(q 0, zm_ob q th n lc kp), (q 4, .inl (cI, 4, .inl gw)), (q 11, .inl (cI, 512, .inl gb))] → va_S A s.heap H locs → ∀ ls : Array Slot, lv_has ls 6 [(0, .ref (q 0)), (2, .int (nI ao)), (3, .int x), (4, .int f), (5, .int (nI k - nI 1))] → W p l e rm_cm_placeOf s m args below meth c H locs 0 0 Q (F0 m 13 ls []) := by
    intro nn
    induction nn with
    | zero => intro k f hm; exact absurd hm (Nat.not_lt_zero _)
    | succ nn ih =>
      intro k f hm hk hf H locs hP hD hS ls hl
      refine lv_iload hx hb kd_M_placeOf_13 (lv_at hl 4 rfl) ?_
      refine lv_if_lt (tgt := 46) hx hb kd_M_placeOf_15 (by decide) (fun c15 => ?_) (fun c15 => ?_)
      · skip
        have hk0 := zn_k1 (by omega) c15
        refine lv_iload hx hb kd_M_placeOf_46 (lv_at hl 3 rfl) ?_
        exact hret _ _ _ _ _ _ kd_M_placeOf_48 hP hD hS (⟨rfl, (zf_FR_P (hk0 ▸ hf))⟩)
      · skip
        have hk0 := zn_k0 c15
        rw [pk_sub hk0] at hl
        refine lv_aload_n hx hb kd_M_placeOf_18 rfl (lv_at hl 0 rfl) ?_
        refine va_get (D := (dC, dI)) (ci := 3) (v := .ref (q 11)) (C := zk_RM) (T := zk_TM) (N := 22) hx hb hts kl_M hown hK hP 0 rfl rfl 12 (by decide) (hts _ kj_358) (fun _ h9 => h9) rfl kd_M_placeOf_19 ?_
        refine lv_iload_n hx hb kd_M_placeOf_22 rfl (lv_at hl 1 rfl) ?_
        refine lv_iload hx hb kd_M_placeOf_23 (lv_at hl 4 rfl) ?_
        refine lv_iadd hx hb kd_M_placeOf_25 ?_
        refine zz_top (y := nI (ao + (k - 1))) (nI_add _ _) ?_
        refine zz_iald hx hb hK hP 2 0 rfl rfl (k := ao + (k - 1)) (by omega) (by decide) kd_M_placeOf_26 ?_
        refine lv_iload_n hx hb kd_M_placeOf_27 rfl (lv_at hl 2 rfl) ?_
        refine lv_icmp_ne (tgt := 36) hx hb kd_M_placeOf_28 (by decide) (fun c28 => ?_) (fun c28 => ?_)
        · skip
          refine lv_iload hx hb kd_M_placeOf_36 (lv_at hl 3 rfl) ?_
          refine lv_istore (lv' := [(4, .int f), (0, .ref (q 0)), (2, .int (nI ao)), (3, .int x), (5, .int (nI (k - 1)))]) hx hb kd_M_placeOf_38 hl (by decide) rfl (fun ls hl => ?_)
          refine lv_iinc (v := nI (k - 1) - nI 1) (lv' := [(5, .int (nI (k - 1) - nI 1)), (4, .int f), (0, .ref (q 0)), (2, .int (nI ao)), (3, .int x)]) hx hb kd_M_placeOf_40 hl (k := 4) rfl (by first | exact zn_pm _ | (show _ + _ = _; exact zn_pm _)) (by decide) rfl (fun ls hl => ?_)
          refine lv_goto (tgt := 13) hx hb kd_M_placeOf_43 (by decide) ?_
          exact ih (k - 1) f (by omega) (by omega) (by first | exact zf_FR_t hk0 hk c28 | exact zf_FR_f hk0 c28 hf) _ _ hP hD hS ls (lv_sub hl [2, 3, 4, 1, 0] rfl)
        · skip
          refine lv_iload hx hb kd_M_placeOf_31 (lv_at hl 4 rfl) ?_
          refine lv_goto (tgt := 38) hx hb kd_M_placeOf_33 (by decide) ?_
          refine lv_istore (lv' := [(4, .int (nI (k - 1))), (0, .ref (q 0)), (2, .int (nI ao)), (3, .int x), (5, .int (nI (k - 1)))]) hx hb kd_M_placeOf_38 hl (by decide) rfl (fun ls hl => ?_)
          refine lv_iinc (v := nI (k - 1) - nI 1) (lv' := [(5, .int (nI (k - 1) - nI 1)), (4, .int (nI (k - 1))), (0, .ref (q 0)), (2, .int (nI ao)), (3, .int x)]) hx hb kd_M_placeOf_40 hl (k := 4) rfl (by first | exact zn_pm _ | (show _ + _ = _; exact zn_pm _)) (by decide) rfl (fun ls hl => ?_)
          refine lv_goto (tgt := 13) hx hb kd_M_placeOf_43 (by decide) ?_
          exact ih (k - 1) (nI (k - 1)) (by omega) (by omega) (by first | exact zf_FR_t hk0 hk c28 | exact zf_FR_f hk0 c28 hf) _ _ hP hD hS ls (lv_sub hl [2, 3, 4, 1, 0] rfl)
  exact hc13 _ wa (-1) (Nat.lt_succ_self _) (by omega) (zf_FR_0) _ _ hP hD hS ls (lv_sub hl [2, 4, 5, 1, 0] rfl)

def rm_cm_pointed : Room := { frames := 0, cells := 0, slots := 0, locals := 0 }
set_option maxHeartbeats 4000000 in
set_option maxRecDepth 100000 in
/-- the place to which one is pointed -/
theorem cm_pointed (l : Launch) (dC : Nat → ClassId) (dI : Nat → Nat → Nat) (cI cZ cO cL : ClassId) (q : Nat → Nat) (th : Nat) (n : Nat) (lc : Nat) (kp : Nat) (gw : Nat → Int32) (gp : Nat → Int32) (ca : Nat) (ao : Nat) (wa : Nat) (hc : ca < 4) (hw : gw ca = nI wa) (hw8 : wa ≤ 8) (hat : ao + 8 ≤ 512) : zz_Mi l ky_M_pointed kw_M_pointed rm_cm_pointed (dC, dI) (zz_ty cI cZ cO cL) [(q 0, zm_ob q th n lc kp), (q 4, .inl (cI, 4, .inl gw)), (q 15, .inl (cZ, 512, .inl gp))] [.ref (q 0), .int (nI ca), .int (nI ao)] (fun (r : Int32) (w : va_W) => w = [(q 0, zm_ob q th n lc kp), (q 4, .inl (cI, 4, .inl gw)), (q 15, .inl (cZ, 512, .inl gp))] ∧ (r = nI (zt_pt (zm_tb gp ao) 4 (wa / 2) 1 0))) 0 0 := by
  refine zz_entry_i (cc := kb_M_pointed) (maxL := 7) (own := zk_RM) (by decide) rfl rfl (Nat.le_of_ble_eq_true rfl) ?_
  intro p e s m args below meth c Q hx hb hml hown hts hin hP hK A hD hA hS hret ls hl
  have hl : lv_has ls 7 [(0, .ref (q 0)), (1, .int (nI ca)), (2, .int (nI ao))] := hl
  obtain ⟨H, eH⟩ : ∃ z, z = s.heap := ⟨_, rfl⟩
  obtain ⟨locs, eL⟩ : ∃ z : List Loc, z = [] := ⟨_, rfl⟩
  rw [← eH] at hP ⊢
  have hS : va_S A s.heap H locs := by rw [eH, eL]; exact hS
  rw [← eL]
  refine lv_iconst (v := nI 1) hx hb kd_M_pointed_0 (by decide) ?_
  refine lv_istore_n (lv' := [(3, .int (nI 1)), (0, .ref (q 0)), (1, .int (nI ca)), (2, .int (nI ao))]) hx hb kd_M_pointed_1 rfl hl (by decide) rfl (fun ls hl => ?_)
  refine lv_iconst (v := nI 0) hx hb kd_M_pointed_2 (by decide) ?_
  refine lv_istore (lv' := [(4, .int (nI 0)), (3, .int (nI 1)), (0, .ref (q 0)), (1, .int (nI ca)), (2, .int (nI ao))]) hx hb kd_M_pointed_3 hl (by decide) rfl (fun ls hl => ?_)
  refine lv_aload_n hx hb kd_M_pointed_5 rfl (lv_at hl 2 rfl) ?_
  refine va_get (D := (dC, dI)) (ci := 3) (v := .ref (q 4)) (C := zk_RM) (T := zk_TM) (N := 22) hx hb hts kl_M hown hK hP 0 rfl rfl 5 (by decide) (hts _ kj_351) (fun _ h9 => h9) rfl kd_M_pointed_6 ?_
  refine lv_iload_n hx hb kd_M_pointed_9 rfl (lv_at hl 3 rfl) ?_
  refine zz_iald hx hb hK hP 1 0 rfl rfl (k := ca) (by omega) (by decide) kd_M_pointed_10 ?_
  refine zz_top (y := nI wa) (hw) ?_
  refine lv_iconst (v := nI 2) hx hb kd_M_pointed_11 (by decide) ?_
  refine lv_idiv hx hb kd_M_pointed_12 (by first | decide | exact nI_ne0 (by omega) (by omega)) ?_
  refine zz_top (y := nI (wa / 2)) (pk_div (by omega) (by omega) (by omega)) ?_
  refine lv_istore (lv' := [(5, .int (nI (wa / 2))), (4, .int (nI 0)), (3, .int (nI 1)), (0, .ref (q 0)), (1, .int (nI ca)), (2, .int (nI ao))]) hx hb kd_M_pointed_13 hl (by decide) rfl (fun ls hl => ?_)
  have hc15 : ∀ (nn : Nat), ∀ (half : Nat) (node : Nat) (fr : Nat) (fl : Nat), half < nn → (zt_pt (zm_tb gp ao) 4 (wa / 2) 1 0 = zt_pt (zm_tb gp ao) fl half node fr) → (half < 2 ^ fl) → (zt_ok half node) → ∀ (H : Heap) (locs : List Loc), va_P (dC, dI) zk_cl [(q 0, zm_ob q th n lc kp), (q 4, .inl (cI, 4, .inl gw)), (q 15, .inl (cZ, 512, .inl gp))] H → va_D A [(q 0, zm_ob q th n lc kp), (q 4, .inl (cI, 4, .inl gw)), (q 15, .inl (cZ, 512, .inl gp))] → va_S A s.heap H locs → ∀ ls : Array Slot, lv_has ls 7 [(0, .ref (q 0)), (2, .int (nI ao)), (3, .int (nI node)), (4, .int (nI fr)), (5, .int (nI half))] → W p l e rm_cm_pointed s m args below meth c H locs 0 0 Q (F0 m 15 ls []) := by
    intro nn
    induction nn with
    | zero => intro half node fr fl hm; exact absurd hm (Nat.not_lt_zero _)
    | succ nn ih =>
      intro half node fr fl hm heq hf hok H locs hP hD hS ls hl
      have hl4 := zt_ok_l hok
      refine lv_iload hx hb kd_M_pointed_15 (lv_at hl 4 rfl) ?_
      refine zz_if_le (tgt := 73) hx hb kd_M_pointed_17 (by decide) (by omega) (fun c17 => ?_) (fun c17 => ?_)
      · skip
        refine lv_iload hx hb kd_M_pointed_73 (lv_at hl 3 rfl) ?_
        exact hret _ _ _ _ _ _ kd_M_pointed_75 hP hD hS (⟨rfl, by rw [heq, c17, zt_pt_0]⟩)
      · skip
        refine lv_aload_n hx hb kd_M_pointed_20 rfl (lv_at hl 0 rfl) ?_
        refine va_get (D := (dC, dI)) (ci := 3) (v := .ref (q 15)) (C := zk_RM) (T := zk_TM) (N := 22) hx hb hts kl_M hown hK hP 0 rfl rfl 16 (by decide) (hts _ kj_362) (fun _ h9 => h9) rfl kd_M_pointed_21 ?_
        refine lv_iload_n hx hb kd_M_pointed_24 rfl (lv_at hl 1 rfl) ?_
        refine lv_iload_n hx hb kd_M_pointed_25 rfl (lv_at hl 2 rfl) ?_
        refine lv_iadd hx hb kd_M_pointed_26 ?_
        refine zz_top (y := nI (ao + node)) (nI_add _ _) ?_
        refine zz_zald hx hb hK hP 2 1 rfl rfl (k := ao + node) (by have := (zt_ok_8 hok c17).1; omega) (by decide) kd_M_pointed_27 ?_
        refine lv_istore (lv' := [(6, .int (gp (ao + node))), (0, .ref (q 0)), (2, .int (nI ao)), (3, .int (nI node)), (4, .int (nI fr)), (5, .int (nI half))]) hx hb kd_M_pointed_28 hl (by decide) rfl (fun ls hl => ?_)
        refine lv_iload hx hb kd_M_pointed_30 (lv_at hl 0 rfl) ?_
        refine lv_if_eq (tgt := 43) hx hb kd_M_pointed_32 (by decide) (fun c32 => ?_) (fun c32 => ?_)
        · skip
          refine lv_iload hx hb kd_M_pointed_43 (lv_at hl 4 rfl) ?_
          refine lv_istore (lv' := [(4, .int (nI fr)), (6, .int (gp (ao + node))), (0, .ref (q 0)), (2, .int (nI ao)), (3, .int (nI node)), (5, .int (nI half))]) hx hb kd_M_pointed_45 hl (by decide) rfl (fun ls hl => ?_)
          refine lv_iload hx hb kd_M_pointed_47 (lv_at hl 1 rfl) ?_
          refine lv_if_eq (tgt := 60) hx hb kd_M_pointed_49 (by decide) (fun c49 => ?_) (fun c49 => ?_)
          · skip
            refine lv_iconst (v := nI 2) hx hb kd_M_pointed_60 (by decide) ?_
            refine lv_iload_n hx hb kd_M_pointed_61 rfl (lv_at hl 4 rfl) ?_
            refine lv_imul hx hb kd_M_pointed_62 ?_
            refine zz_top (y := nI (2 * node)) (pk_mul _ _) ?_
            refine lv_istore_n (lv' := [(3, .int (nI (2 * node))), (4, .int (nI fr)), (6, .int (gp (ao + node))), (0, .ref (q 0)), (2, .int (nI ao)), (5, .int (nI half))]) hx hb kd_M_pointed_63 rfl hl (by decide) rfl (fun ls hl => ?_)
            refine lv_iload hx hb kd_M_pointed_64 (lv_at hl 5 rfl) ?_
            refine lv_iconst (v := nI 2) hx hb kd_M_pointed_66 (by decide) ?_
            refine lv_idiv hx hb kd_M_pointed_67 (by first | decide | exact nI_ne0 (by omega) (by omega)) ?_
            refine zz_top (y := nI (half / 2)) (pk_div (by omega) (by omega) (by omega)) ?_
            refine lv_istore (lv' := [(5, .int (nI (half / 2))), (3, .int (nI (2 * node))), (4, .int (nI fr)), (6, .int (gp (ao + node))), (0, .ref (q 0)), (2, .int (nI ao))]) hx hb kd_M_pointed_68 hl (by decide) rfl (fun ls hl => ?_)
            refine lv_goto (tgt := 15) hx hb kd_M_pointed_70 (by decide) ?_
            exact ih (half / 2) (2 * node) fr (fl - 1) (by omega) (by first | exact heq.trans (zt_pt_t c17 hf (by simp [zm_tb, c32])) | exact heq.trans (zt_pt_f c17 hf (by simp [zm_tb, c32]))) (zt_hf c17 hf) (by first | exact zt_ok_n (b := 1) hok c17 (by omega) | exact zt_ok_n (b := 0) hok c17 (by omega)) _ _ hP hD hS ls (lv_sub hl [4, 5, 1, 2, 0] rfl)
          · skip
            exact absurd c49 (fun z => z c32)
        · skip
          refine lv_iload hx hb kd_M_pointed_35 (lv_at hl 4 rfl) ?_
          refine lv_iload hx hb kd_M_pointed_37 (lv_at hl 5 rfl) ?_
          refine lv_iadd hx hb kd_M_pointed_39 ?_
          refine zz_top (y := nI (fr + half)) (nI_add _ _) ?_
          refine lv_goto (tgt := 45) hx hb kd_M_pointed_40 (by decide) ?_
          refine lv_istore (lv' := [(4, .int (nI (fr + half))), (6, .int (gp (ao + node))), (0, .ref (q 0)), (2, .int (nI ao)), (3, .int (nI node)), (5, .int (nI half))]) hx hb kd_M_pointed_45 hl (by decide) rfl (fun ls hl => ?_)
          refine lv_iload hx hb kd_M_pointed_47 (lv_at hl 1 rfl) ?_
          refine lv_if_eq (tgt := 60) hx hb kd_M_pointed_49 (by decide) (fun c49 => ?_) (fun c49 => ?_)
          · skip
            exact absurd c49 (c32)
          · skip
            refine lv_iconst (v := nI 2) hx hb kd_M_pointed_52 (by decide) ?_
            refine lv_iload_n hx hb kd_M_pointed_53 rfl (lv_at hl 4 rfl) ?_
            refine lv_imul hx hb kd_M_pointed_54 ?_
            refine zz_top (y := nI (2 * node)) (pk_mul _ _) ?_
            refine lv_iconst (v := nI 1) hx hb kd_M_pointed_55 (by decide) ?_
            refine lv_iadd hx hb kd_M_pointed_56 ?_
            refine zz_top (y := nI (2 * node + 1)) (nI_add _ _) ?_
            refine lv_goto (tgt := 63) hx hb kd_M_pointed_57 (by decide) ?_
            refine lv_istore_n (lv' := [(3, .int (nI (2 * node + 1))), (4, .int (nI (fr + half))), (6, .int (gp (ao + node))), (0, .ref (q 0)), (2, .int (nI ao)), (5, .int (nI half))]) hx hb kd_M_pointed_63 rfl hl (by decide) rfl (fun ls hl => ?_)
            refine lv_iload hx hb kd_M_pointed_64 (lv_at hl 5 rfl) ?_
            refine lv_iconst (v := nI 2) hx hb kd_M_pointed_66 (by decide) ?_
            refine lv_idiv hx hb kd_M_pointed_67 (by first | decide | exact nI_ne0 (by omega) (by omega)) ?_
            refine zz_top (y := nI (half / 2)) (pk_div (by omega) (by omega) (by omega)) ?_
            refine lv_istore (lv' := [(5, .int (nI (half / 2))), (3, .int (nI (2 * node + 1))), (4, .int (nI (fr + half))), (6, .int (gp (ao + node))), (0, .ref (q 0)), (2, .int (nI ao))]) hx hb kd_M_pointed_68 hl (by decide) rfl (fun ls hl => ?_)
            refine lv_goto (tgt := 15) hx hb kd_M_pointed_70 (by decide) ?_
            exact ih (half / 2) (2 * node + 1) (fr + half) (fl - 1) (by omega) (by first | exact heq.trans (zt_pt_t c17 hf (by simp [zm_tb, c32])) | exact heq.trans (zt_pt_f c17 hf (by simp [zm_tb, c32]))) (zt_hf c17 hf) (by first | exact zt_ok_n (b := 1) hok c17 (by omega) | exact zt_ok_n (b := 0) hok c17 (by omega)) _ _ hP hD hS ls (lv_sub hl [4, 5, 1, 2, 0] rfl)
  exact hc15 _ (wa / 2) 1 0 4 (Nat.lt_succ_self _) (rfl) (by omega) (by unfold zt_ok; omega) _ _ hP hD hS ls (lv_sub hl [3, 5, 2, 1, 0] rfl)

def rm_cm_turn : Room := { frames := 0, cells := 0, slots := 0, locals := 0 }
set_option maxHeartbeats 4000000 in
set_option maxRecDepth 100000 in
/-- the tree points away from the place -/
theorem cm_turn (l : Launch) (dC : Nat → ClassId) (dI : Nat → Nat → Nat) (cI cZ cO cL : ClassId) (q : Nat → Nat) (th : Nat) (n : Nat) (lc : Nat) (kp : Nat) (gw : Nat → Int32) (gp : Nat → Int32) (ca : Nat) (ao : Nat) (pl : Nat) (wa : Nat) (hc : ca < 4) (hw : gw ca = nI wa) (hw8 : wa ≤ 8) (hat : ao + 8 ≤ 512) (hpl : pl < 8) : zz_Mv l ky_M_turn kw_M_turn rm_cm_turn (dC, dI) (zz_ty cI cZ cO cL) [(q 0, zm_ob q th n lc kp), (q 4, .inl (cI, 4, .inl gw)), (q 15, .inl (cZ, 512, .inl gp))] [.ref (q 0), .int (nI ca), .int (nI ao), .int (nI pl)] (fun (w : va_W) => ∃ (gp2 : Nat → Int32), w = [(q 0, zm_ob q th n lc kp), (q 4, .inl (cI, 4, .inl gw)), (q 15, .inl (cZ, 512, .inl gp2))] ∧ (zm_tb gp2 ao = zt_mt pl 4 (wa / 2) 1 0 (zm_tb gp ao)) ∧ (∀ j, (j < ao ∨ ao + 8 ≤ j) → gp2 j = gp j)) 0 0 := by
  refine zz_entry_v (cc := kb_M_turn) (maxL := 8) (own := zk_RM) (by decide) rfl rfl (Nat.le_of_ble_eq_true rfl) ?_
  intro p e s m args below meth c Q hx hb hml hown hts hin hP hK A hD hA hS hret ls hl
  have hl : lv_has ls 8 [(0, .ref (q 0)), (1, .int (nI ca)), (2, .int (nI ao)), (3, .int (nI pl))] := hl
  obtain ⟨H, eH⟩ : ∃ z, z = s.heap := ⟨_, rfl⟩
  obtain ⟨locs, eL⟩ : ∃ z : List Loc, z = [] := ⟨_, rfl⟩
  rw [← eH] at hP ⊢
  have hS : va_S A s.heap H locs := by rw [eH, eL]; exact hS
  rw [← eL]
  refine lv_iconst (v := nI 1) hx hb kd_M_turn_0 (by decide) ?_
  refine lv_istore (lv' := [(4, .int (nI 1)), (0, .ref (q 0)), (1, .int (nI ca)), (2, .int (nI ao)), (3, .int (nI pl))]) hx hb kd_M_turn_1 hl (by decide) rfl (fun ls hl => ?_)
  refine lv_iconst (v := nI 0) hx hb kd_M_turn_3 (by decide) ?_
  refine lv_istore (lv' := [(5, .int (nI 0)), (4, .int (nI 1)), (0, .ref (q 0)), (1, .int (nI ca)), (2, .int (nI ao)), (3, .int (nI pl))]) hx hb kd_M_turn_4 hl (by decide) rfl (fun ls hl => ?_)
  refine lv_aload_n hx hb kd_M_turn_6 rfl (lv_at hl 2 rfl) ?_
  refine va_get (D := (dC, dI)) (ci := 3) (v := .ref (q 4)) (C := zk_RM) (T := zk_TM) (N := 22) hx hb hts kl_M hown hK hP 0 rfl rfl 5 (by decide) (hts _ kj_351) (fun _ h9 => h9) rfl kd_M_turn_7 ?_
  refine lv_iload_n hx hb kd_M_turn_10 rfl (lv_at hl 3 rfl) ?_
  refine zz_iald hx hb hK hP 1 0 rfl rfl (k := ca) (by omega) (by decide) kd_M_turn_11 ?_
  refine zz_top (y := nI wa) (hw) ?_
  refine lv_iconst (v := nI 2) hx hb kd_M_turn_12 (by decide) ?_
  refine lv_idiv hx hb kd_M_turn_13 (by first | decide | exact nI_ne0 (by omega) (by omega)) ?_
  refine zz_top (y := nI (wa / 2)) (pk_div (by omega) (by omega) (by omega)) ?_
  refine lv_istore (lv' := [(6, .int (nI (wa / 2))), (5, .int (nI 0)), (4, .int (nI 1)), (0, .ref (q 0)), (1, .int (nI ca)), (2, .int (nI ao)), (3, .int (nI pl))]) hx hb kd_M_turn_14 hl (by decide) rfl (fun ls hl => ?_)
  have hc16 : ∀ (nn : Nat), ∀ (half : Nat) (node : Nat) (fr : Nat) (fl : Nat) (gp1 : Nat → Int32), half < nn → (zt_mt pl 4 (wa / 2) 1 0 (zm_tb gp ao) = zt_mt pl fl half node fr (zm_tb gp1 ao)) → (half < 2 ^ fl) → (zt_ok half node) → (fr ≤ pl) → (∀ j, (j < ao ∨ ao + 8 ≤ j) → gp1 j = gp j) → ∀ (H : Heap) (locs : List Loc), va_P (dC, dI) zk_cl [(q 0, zm_ob q th n lc kp), (q 4, .inl (cI, 4, .inl gw)), (q 15, .inl (cZ, 512, .inl gp1))] H → va_D A [(q 0, zm_ob q th n lc kp), (q 4, .inl (cI, 4, .inl gw)), (q 15, .inl (cZ, 512, .inl gp1))] → va_S A s.heap H locs → ∀ ls : Array Slot, lv_has ls 8 [(0, .ref (q 0)), (2, .int (nI ao)), (3, .int (nI pl)), (4, .int (nI node)), (5, .int (nI fr)), (6, .int (nI half))] → W p l e rm_cm_turn s m args below meth c H locs 0 0 Q (F0 m 16 ls []) := by
    intro nn
    induction nn with
    | zero => intro half node fr fl gp1 hm; exact absurd hm (Nat.not_lt_zero _)
    | succ nn ih =>
      intro half node fr fl gp1 hm heq hf hok hfr hg H locs hP hD hS ls hl
      have hl4 := zt_ok_l hok
      refine lv_iload hx hb kd_M_turn_16 (lv_at hl 5 rfl) ?_
      refine zz_if_le (tgt := 102) hx hb kd_M_turn_18 (by decide) (by omega) (fun c18 => ?_) (fun c18 => ?_)
      · skip
        exact hret _ _ _ _ _ kd_M_turn_102 hP hD hS (⟨gp1, rfl, (by rw [heq, c18, zt_mt_0]), (hg)⟩)
      · skip
        refine lv_iload_n hx hb kd_M_turn_21 rfl (lv_at hl 2 rfl) ?_
        refine lv_iload hx hb kd_M_turn_22 (lv_at hl 4 rfl) ?_
        refine lv_iload hx hb kd_M_turn_24 (lv_at hl 5 rfl) ?_
        refine lv_iadd hx hb kd_M_turn_26 ?_
        refine zz_top (y := nI (fr + half)) (nI_add _ _) ?_
        refine zz_icmp_lt (tgt := 34) hx hb kd_M_turn_27 (by decide) (by omega) (by omega) (fun c27 => ?_) (fun c27 => ?_)
        · skip
          refine lv_iconst (v := nI 0) hx hb kd_M_turn_34 (by decide) ?_
          refine lv_istore (lv' := [(7, .int (nI 0)), (0, .ref (q 0)), (2, .int (nI ao)), (3, .int (nI pl)), (4, .int (nI node)), (5, .int (nI fr)), (6, .int (nI half))]) hx hb kd_M_turn_35 hl (by decide) rfl (fun ls hl => ?_)
          refine lv_aload_n hx hb kd_M_turn_37 rfl (lv_at hl 1 rfl) ?_
          refine va_get (D := (dC, dI)) (ci := 3) (v := .ref (q 15)) (C := zk_RM) (T := zk_TM) (N := 22) hx hb hts kl_M hown hK hP 0 rfl rfl 16 (by decide) (hts _ kj_362) (fun _ h9 => h9) rfl kd_M_turn_38 ?_
          refine lv_iload_n hx hb kd_M_turn_41 rfl (lv_at hl 2 rfl) ?_
          refine lv_iload hx hb kd_M_turn_42 (lv_at hl 4 rfl) ?_
          refine lv_iadd hx hb kd_M_turn_44 ?_
          refine zz_top (y := nI (ao + node)) (nI_add _ _) ?_
          refine lv_iload hx hb kd_M_turn_45 (lv_at hl 0 rfl) ?_
          refine zz_if_ne (tgt := 54) hx hb kd_M_turn_47 (by decide) (by decide) (fun c9 => absurd c9 (by decide)) (fun _ => ?_)
          refine lv_iconst (v := nI 1) hx hb kd_M_turn_50 (by decide) ?_
          refine lv_goto (tgt := 55) hx hb kd_M_turn_51 (by decide) ?_
          refine zz_zast hx hb hK hP hD hS 2 1 rfl rfl (k := ao + node) (by have := (zt_ok_8 hok c18).1; omega) (by decide) (Or.inr rfl) kd_M_turn_55 (fun H locs hP hD hS => ?_)
          have hP : va_P (dC, dI) zk_cl [(q 0, zm_ob q th n lc kp), (q 4, .inl (cI, 4, .inl gw)), (q 15, .inl (cZ, 512, .inl (upd gp1 (ao + node) (nI 1))))] H := hP
          have hD : va_D A [(q 0, zm_ob q th n lc kp), (q 4, .inl (cI, 4, .inl gw)), (q 15, .inl (cZ, 512, .inl (upd gp1 (ao + node) (nI 1))))] := hD
          refine lv_iload hx hb kd_M_turn_56 (lv_at hl 0 rfl) ?_
          refine zz_if_eq (tgt := 69) hx hb kd_M_turn_58 (by decide) (by decide) (fun _ => ?_) (fun c9 => absurd c9 (by decide))
          refine lv_iload hx hb kd_M_turn_69 (lv_at hl 5 rfl) ?_
          refine lv_istore (lv' := [(5, .int (nI fr)), (7, .int (nI 0)), (0, .ref (q 0)), (2, .int (nI ao)), (3, .int (nI pl)), (4, .int (nI node)), (6, .int (nI half))]) hx hb kd_M_turn_71 hl (by decide) rfl (fun ls hl => ?_)
          refine lv_iload hx hb kd_M_turn_73 (lv_at hl 1 rfl) ?_
          refine zz_if_eq (tgt := 87) hx hb kd_M_turn_75 (by decide) (by decide) (fun _ => ?_) (fun c9 => absurd c9 (by decide))
          refine lv_iconst (v := nI 2) hx hb kd_M_turn_87 (by decide) ?_
          refine lv_iload hx hb kd_M_turn_88 (lv_at hl 5 rfl) ?_
          refine lv_imul hx hb kd_M_turn_90 ?_
          refine zz_top (y := nI (2 * node)) (pk_mul _ _) ?_
          refine lv_istore (lv' := [(4, .int (nI (2 * node))), (5, .int (nI fr)), (7, .int (nI 0)), (0, .ref (q 0)), (2, .int (nI ao)), (3, .int (nI pl)), (6, .int (nI half))]) hx hb kd_M_turn_91 hl (by decide) rfl (fun ls hl => ?_)
          refine lv_iload hx hb kd_M_turn_93 (lv_at hl 6 rfl) ?_
          refine lv_iconst (v := nI 2) hx hb kd_M_turn_95 (by decide) ?_
          refine lv_idiv hx hb kd_M_turn_96 (by first | decide | exact nI_ne0 (by omega) (by omega)) ?_
          refine zz_top (y := nI (half / 2)) (pk_div (by omega) (by omega) (by omega)) ?_
          refine lv_istore (lv' := [(6, .int (nI (half / 2))), (4, .int (nI (2 * node))), (5, .int (nI fr)), (7, .int (nI 0)), (0, .ref (q 0)), (2, .int (nI ao)), (3, .int (nI pl))]) hx hb kd_M_turn_97 hl (by decide) rfl (fun ls hl => ?_)
          refine lv_goto (tgt := 16) hx hb kd_M_turn_99 (by decide) ?_
          exact ih (half / 2) (2 * node) fr (fl - 1) (upd gp1 (ao + node) (nI 1)) (by omega) (by first | (rw [zm_tb0]; exact heq.trans (zt_mt_t c18 hf c27)) | (rw [zm_tb1]; exact heq.trans (zt_mt_f c18 hf (by omega)))) (zt_hf c18 hf) (by first | exact zt_ok_n (b := 1) hok c18 (by omega) | exact zt_ok_n (b := 0) hok c18 (by omega)) (by omega) (fun j hj => by have := (zt_ok_8 hok c18).1; rw [pk_un (by omega)]; exact hg j hj) _ _ hP hD hS ls (lv_sub hl [4, 5, 6, 1, 2, 0] rfl)
        · skip
          refine lv_iconst (v := nI 1) hx hb kd_M_turn_30 (by decide) ?_
          refine lv_goto (tgt := 35) hx hb kd_M_turn_31 (by decide) ?_
          refine lv_istore (lv' := [(7, .int (nI 1)), (0, .ref (q 0)), (2, .int (nI ao)), (3, .int (nI pl)), (4, .int (nI node)), (5, .int (nI fr)), (6, .int (nI half))]) hx hb kd_M_turn_35 hl (by decide) rfl (fun ls hl => ?_)
          refine lv_aload_n hx hb kd_M_turn_37 rfl (lv_at hl 1 rfl) ?_
          refine va_get (D := (dC, dI)) (ci := 3) (v := .ref (q 15)) (C := zk_RM) (T := zk_TM) (N := 22) hx hb hts kl_M hown hK hP 0 rfl rfl 16 (by decide) (hts _ kj_362) (fun _ h9 => h9) rfl kd_M_turn_38 ?_
          refine lv_iload_n hx hb kd_M_turn_41 rfl (lv_at hl 2 rfl) ?_
          refine lv_iload hx hb kd_M_turn_42 (lv_at hl 4 rfl) ?_
          refine lv_iadd hx hb kd_M_turn_44 ?_
          refine zz_top (y := nI (ao + node)) (nI_add _ _) ?_
          refine lv_iload hx hb kd_M_turn_45 (lv_at hl 0 rfl) ?_
          refine zz_if_ne (tgt := 54) hx hb kd_M_turn_47 (by decide) (by decide) (fun _ => ?_) (fun c9 => absurd c9 (by decide))
          refine lv_iconst (v := nI 0) hx hb kd_M_turn_54 (by decide) ?_
          refine zz_zast hx hb hK hP hD hS 2 1 rfl rfl (k := ao + node) (by have := (zt_ok_8 hok c18).1; omega) (by decide) (Or.inl rfl) kd_M_turn_55 (fun H locs hP hD hS => ?_)
          have hP : va_P (dC, dI) zk_cl [(q 0, zm_ob q th n lc kp), (q 4, .inl (cI, 4, .inl gw)), (q 15, .inl (cZ, 512, .inl (upd gp1 (ao + node) (nI 0))))] H := hP
          have hD : va_D A [(q 0, zm_ob q th n lc kp), (q 4, .inl (cI, 4, .inl gw)), (q 15, .inl (cZ, 512, .inl (upd gp1 (ao + node) (nI 0))))] := hD
          refine lv_iload hx hb kd_M_turn_56 (lv_at hl 0 rfl) ?_
          refine zz_if_eq (tgt := 69) hx hb kd_M_turn_58 (by decide) (by decide) (fun c9 => absurd c9 (by decide)) (fun _ => ?_)
          refine lv_iload hx hb kd_M_turn_61 (lv_at hl 5 rfl) ?_
          refine lv_iload hx hb kd_M_turn_63 (lv_at hl 6 rfl) ?_
          refine lv_iadd hx hb kd_M_turn_65 ?_
          refine zz_top (y := nI (fr + half)) (nI_add _ _) ?_
          refine lv_goto (tgt := 71) hx hb kd_M_turn_66 (by decide) ?_
          refine lv_istore (lv' := [(5, .int (nI (fr + half))), (7, .int (nI 1)), (0, .ref (q 0)), (2, .int (nI ao)), (3, .int (nI pl)), (4, .int (nI node)), (6, .int (nI half))]) hx hb kd_M_turn_71 hl (by decide) rfl (fun ls hl => ?_)
          refine lv_iload hx hb kd_M_turn_73 (lv_at hl 1 rfl) ?_
          refine zz_if_eq (tgt := 87) hx hb kd_M_turn_75 (by decide) (by decide) (fun c9 => absurd c9 (by decide)) (fun _ => ?_)
          refine lv_iconst (v := nI 2) hx hb kd_M_turn_78 (by decide) ?_
          refine lv_iload hx hb kd_M_turn_79 (lv_at hl 5 rfl) ?_
          refine lv_imul hx hb kd_M_turn_81 ?_
          refine zz_top (y := nI (2 * node)) (pk_mul _ _) ?_
          refine lv_iconst (v := nI 1) hx hb kd_M_turn_82 (by decide) ?_
          refine lv_iadd hx hb kd_M_turn_83 ?_
          refine zz_top (y := nI (2 * node + 1)) (nI_add _ _) ?_
          refine lv_goto (tgt := 91) hx hb kd_M_turn_84 (by decide) ?_
          refine lv_istore (lv' := [(4, .int (nI (2 * node + 1))), (5, .int (nI (fr + half))), (7, .int (nI 1)), (0, .ref (q 0)), (2, .int (nI ao)), (3, .int (nI pl)), (6, .int (nI half))]) hx hb kd_M_turn_91 hl (by decide) rfl (fun ls hl => ?_)
          refine lv_iload hx hb kd_M_turn_93 (lv_at hl 6 rfl) ?_
          refine lv_iconst (v := nI 2) hx hb kd_M_turn_95 (by decide) ?_
          refine lv_idiv hx hb kd_M_turn_96 (by first | decide | exact nI_ne0 (by omega) (by omega)) ?_
          refine zz_top (y := nI (half / 2)) (pk_div (by omega) (by omega) (by omega)) ?_
          refine lv_istore (lv' := [(6, .int (nI (half / 2))), (4, .int (nI (2 * node + 1))), (5, .int (nI (fr + half))), (7, .int (nI 1)), (0, .ref (q 0)), (2, .int (nI ao)), (3, .int (nI pl))]) hx hb kd_M_turn_97 hl (by decide) rfl (fun ls hl => ?_)
          refine lv_goto (tgt := 16) hx hb kd_M_turn_99 (by decide) ?_
          exact ih (half / 2) (2 * node + 1) (fr + half) (fl - 1) (upd gp1 (ao + node) (nI 0)) (by omega) (by first | (rw [zm_tb0]; exact heq.trans (zt_mt_t c18 hf c27)) | (rw [zm_tb1]; exact heq.trans (zt_mt_f c18 hf (by omega)))) (zt_hf c18 hf) (by first | exact zt_ok_n (b := 1) hok c18 (by omega) | exact zt_ok_n (b := 0) hok c18 (by omega)) (by omega) (fun j hj => by have := (zt_ok_8 hok c18).1; rw [pk_un (by omega)]; exact hg j hj) _ _ hP hD hS ls (lv_sub hl [4, 5, 6, 1, 2, 0] rfl)
  exact hc16 _ (wa / 2) 1 0 4 gp (Nat.lt_succ_self _) (rfl) (by omega) (by unfold zt_ok; omega) (by omega) (fun _ _ => rfl) _ _ hP hD hS ls (lv_sub hl [3, 5, 6, 2, 1, 0] rfl)
end
section
def rm_cm_victimOf : Room := { frames := 1, cells := 0, slots := 0, locals := 26 }
set_option maxHeartbeats 4000000 in
set_option maxRecDepth 100000 in
/-- the place of the victim -/
theorem cm_victimOf (l : Launch) (dC : Nat → ClassId) (dI : Nat → Nat → Nat) (cI cZ cO cL : ClassId) (q : Nat → Nat) (th : Nat) (n : Nat) (lc : Nat) (kp : Nat) (gw : Nat → Int32) (gk : Nat → Int32) (gl : Nat → Int32) (gc : Nat → Int32) (gp : Nat → Int32) (ca : Nat) (ao : Nat) (wa : Nat) (kd : Nat) (hc : ca < 4) (hw : gw ca = nI wa) (hw8 : 1 ≤ wa ∧ wa ≤ 8) (hkd : gk ca = nI kd) (hk3 : kd ≤ 2) (hat : ao + 8 ≤ 512) : zz_Mi l ky_M_victimOf kw_M_victimOf rm_cm_victimOf (dC, dI) (zz_ty cI cZ cO cL) [(q 0, zm_ob q th n lc kp), (q 4, .inl (cI, 4, .inl gw)), (q 5, .inl (cI, 4, .inl gk)), (q 13, .inl (cI, 512, .inl gl)), (q 14, .inl (cI, 512, .inl gc)), (q 15, .inl (cZ, 512, .inl gp))] [.ref (q 0), .int (nI ca), .int (nI ao)] (fun (r : Int32) (w : va_W) => ∃ (o : Nat), w = [(q 0, zm_ob q th n lc kp), (q 4, .inl (cI, 4, .inl gw)), (q 5, .inl (cI, 4, .inl gk)), (q 13, .inl (cI, 512, .inl gl)), (q 14, .inl (cI, 512, .inl gc)), (q 15, .inl (cZ, 512, .inl gp))] ∧ (r = nI o) ∧ ((kd = 2 ∧ o = zt_pt (zm_tb gp ao) 4 (wa / 2) 1 0) ∨ (kd ≠ 2 ∧ zf_AM (zm_gs kd ao gl gc) wa o))) 0 0 := by
  refine zz_entry_i (cc := kb_M_victimOf) (maxL := 6) (own := zk_RM) (by decide) rfl rfl (Nat.le_of_ble_eq_true rfl) ?_
  intro p e s m args below meth c Q hx hb hml hown hts hin hP hK A hD hA hS hret ls hl
  have hl : lv_has ls 6 [(0, .ref (q 0)), (1, .int (nI ca)), (2, .int (nI ao))] := hl
  obtain ⟨H, eH⟩ : ∃ z, z = s.heap := ⟨_, rfl⟩
  obtain ⟨locs, eL⟩ : ∃ z : List Loc, z = [] := ⟨_, rfl⟩
  rw [← eH] at hP ⊢
  have hS : va_S A s.heap H locs := by rw [eH, eL]; exact hS
  rw [← eL]
  refine lv_aload_n hx hb kd_M_victimOf_0 rfl (lv_at hl 0 rfl) ?_
  refine va_get (D := (dC, dI)) (ci := 3) (v := .ref (q 5)) (C := zk_RM) (T := zk_TM) (N := 22) hx hb hts kl_M hown hK hP 0 rfl rfl 6 (by decide) (hts _ kj_352) (fun _ h9 => h9) rfl kd_M_victimOf_1 ?_
  refine lv_iload_n hx hb kd_M_victimOf_4 rfl (lv_at hl 1 rfl) ?_
  refine zz_iald hx hb hK hP 2 0 rfl rfl (k := ca) (by omega) (by decide) kd_M_victimOf_5 ?_
  refine zz_top (y := nI kd) (hkd) ?_
  refine lv_iconst (v := nI 2) hx hb kd_M_victimOf_6 (by decide) ?_
  refine zz_icmp_ne (tgt := 17) hx hb kd_M_victimOf_7 (by decide) (by omega) (by decide) (fun c7 => ?_) (fun c7 => ?_)
  · skip
    refine lv_iconst (v := nI 0) hx hb kd_M_victimOf_17 (by decide) ?_
    refine lv_istore_n (lv' := [(3, .int (nI 0)), (0, .ref (q 0)), (1, .int (nI ca)), (2, .int (nI ao))]) hx hb kd_M_victimOf_18 rfl hl (by decide) rfl (fun ls hl => ?_)
    refine lv_iconst (v := nI 1) hx hb kd_M_victimOf_19 (by decide) ?_
    refine lv_istore (lv' := [(4, .int (nI 1)), (3, .int (nI 0)), (0, .ref (q 0)), (1, .int (nI ca)), (2, .int (nI ao))]) hx hb kd_M_victimOf_20 hl (by decide) rfl (fun ls hl => ?_)
    have hc22 : ∀ (nn : Nat), ∀ (o : Nat) (k : Nat), wa - k < nn → (1 ≤ k ∧ k ≤ wa) → (zf_AM (zm_gs kd ao gl gc) k o) → ∀ (H : Heap) (locs : List Loc), va_P (dC, dI) zk_cl [(q 0, zm_ob q th n lc kp), (q 4, .inl (cI, 4, .inl gw)), (q 5, .inl (cI, 4, .inl gk)), (q 13, .inl (cI, 512, .inl gl)), (q 14, .inl (cI, 512, .inl gc)), (q 15, .inl (cZ, 512, .inl gp))] H → va_D A [(q 0, zm_ob q th n lc kp), (q 4, .inl (cI, 4, .inl gw)), (q 5, .inl (cI, 4, .inl gk)), (q 13, .inl (cI, 512, .inl gl)), (q 14, .inl (cI, 512, .inl gc)), (q 15, .inl (cZ, 512, .inl gp))] → va_S A s.heap H locs → ∀ ls : Array Slot, lv_has ls 6 [(0, .ref (q 0)), (1, .int (nI ca)), (2, .int (nI ao)), (3, .int (nI o)), (4, .int (nI k))] → W p l e rm_cm_victimOf s m args below meth c H locs 0 0 Q (F0 m 22 ls []) := by
      intro nn
      induction nn with
      | zero => intro o k hm; exact absurd hm (Nat.not_lt_zero _)
      | succ nn ih =>
        intro o k hm hk ham H locs hP hD hS ls hl
        have ho := ham.1
        refine lv_iload hx hb kd_M_victimOf_22 (lv_at hl 4 rfl) ?_
        refine lv_aload_n hx hb kd_M_victimOf_24 rfl (lv_at hl 0 rfl) ?_
        refine va_get (D := (dC, dI)) (ci := 3) (v := .ref (q 4)) (C := zk_RM) (T := zk_TM) (N := 22) hx hb hts kl_M hown hK hP 0 rfl rfl 5 (by decide) (hts _ kj_351) (fun _ h9 => h9) rfl kd_M_victimOf_25 ?_
        refine lv_iload_n hx hb kd_M_victimOf_28 rfl (lv_at hl 1 rfl) ?_
        refine zz_iald hx hb hK hP 1 0 rfl rfl (k := ca) (by omega) (by decide) kd_M_victimOf_29 ?_
        refine zz_top (y := nI wa) (hw) ?_
        refine zz_icmp_ge (tgt := 115) hx hb kd_M_victimOf_30 (by decide) (by omega) (by omega) (fun c30 => ?_) (fun c30 => ?_)
        · skip
          refine lv_iload_n hx hb kd_M_victimOf_115 rfl (lv_at hl 3 rfl) ?_
          exact hret _ _ _ _ _ _ kd_M_victimOf_116 hP hD hS (⟨o, rfl, rfl, (Or.inr ⟨c7, (show k = wa by omega) ▸ ham⟩)⟩)
        · skip
          refine lv_aload_n hx hb kd_M_victimOf_33 rfl (lv_at hl 0 rfl) ?_
          refine va_get (D := (dC, dI)) (ci := 3) (v := .ref (q 5)) (C := zk_RM) (T := zk_TM) (N := 22) hx hb hts kl_M hown hK hP 0 rfl rfl 6 (by decide) (hts _ kj_352) (fun _ h9 => h9) rfl kd_M_victimOf_34 ?_
          refine lv_iload_n hx hb kd_M_victimOf_37 rfl (lv_at hl 1 rfl) ?_
          refine zz_iald hx hb hK hP 2 0 rfl rfl (k := ca) (by omega) (by decide) kd_M_victimOf_38 ?_
          refine zz_top (y := nI kd) (hkd) ?_
          refine zz_if_ne (tgt := 70) hx hb kd_M_victimOf_39 (by decide) (by omega) (fun c39 => ?_) (fun c39 => ?_)
          · skip
            refine lv_aload_n hx hb kd_M_victimOf_70 rfl (lv_at hl 0 rfl) ?_
            refine va_get (D := (dC, dI)) (ci := 3) (v := .ref (q 14)) (C := zk_RM) (T := zk_TM) (N := 22) hx hb hts kl_M hown hK hP 0 rfl rfl 15 (by decide) (hts _ kj_361) (fun _ h9 => h9) rfl kd_M_victimOf_71 ?_
            refine lv_iload_n hx hb kd_M_victimOf_74 rfl (lv_at hl 2 rfl) ?_
            refine lv_iload hx hb kd_M_victimOf_75 (lv_at hl 4 rfl) ?_
            refine lv_iadd hx hb kd_M_victimOf_77 ?_
            refine zz_top (y := nI (ao + k)) (nI_add _ _) ?_
            refine zz_iald hx hb hK hP 4 0 rfl rfl (k := ao + k) (by omega) (by decide) kd_M_victimOf_78 ?_
            refine lv_aload_n hx hb kd_M_victimOf_79 rfl (lv_at hl 0 rfl) ?_
            refine va_get (D := (dC, dI)) (ci := 3) (v := .ref (q 14)) (C := zk_RM) (T := zk_TM) (N := 22) hx hb hts kl_M hown hK hP 0 rfl rfl 15 (by decide) (hts _ kj_361) (fun _ h9 => h9) rfl kd_M_victimOf_80 ?_
            refine lv_iload_n hx hb kd_M_victimOf_83 rfl (lv_at hl 2 rfl) ?_
            refine lv_iload_n hx hb kd_M_victimOf_84 rfl (lv_at hl 3 rfl) ?_
            refine lv_iadd hx hb kd_M_victimOf_85 ?_
            refine zz_top (y := nI (ao + o)) (nI_add _ _) ?_
            refine zz_iald hx hb hK hP 4 0 rfl rfl (k := ao + o) (by omega) (by decide) kd_M_victimOf_86 ?_
            refine lv_icmp_ge (tgt := 94) hx hb kd_M_victimOf_87 (by decide) (fun c87 => ?_) (fun c87 => ?_)
            · skip
              refine lv_iconst (v := nI 0) hx hb kd_M_victimOf_94 (by decide) ?_
              refine lv_istore (lv' := [(5, .int (nI 0)), (0, .ref (q 0)), (1, .int (nI ca)), (2, .int (nI ao)), (3, .int (nI o)), (4, .int (nI k))]) hx hb kd_M_victimOf_95 hl (by decide) rfl (fun ls hl => ?_)
              refine lv_iload hx hb kd_M_victimOf_97 (lv_at hl 0 rfl) ?_
              refine zz_if_eq (tgt := 107) hx hb kd_M_victimOf_99 (by decide) (by decide) (fun _ => ?_) (fun c9 => absurd c9 (by decide))
              refine lv_iload_n hx hb kd_M_victimOf_107 rfl (lv_at hl 4 rfl) ?_
              refine lv_istore_n (lv' := [(3, .int (nI o)), (5, .int (nI 0)), (0, .ref (q 0)), (1, .int (nI ca)), (2, .int (nI ao)), (4, .int (nI k))]) hx hb kd_M_victimOf_108 rfl hl (by decide) rfl (fun ls hl => ?_)
              refine lv_iinc (v := nI (k + 1)) (lv' := [(4, .int (nI (k + 1))), (3, .int (nI o)), (5, .int (nI 0)), (0, .ref (q 0)), (1, .int (nI ca)), (2, .int (nI ao))]) hx hb kd_M_victimOf_109 hl (k := 5) rfl (by first | exact nI_1 _ | (show _ + _ = _; exact nI_1 _)) (by decide) rfl (fun ls hl => ?_)
              refine lv_goto (tgt := 22) hx hb kd_M_victimOf_112 (by decide) ?_
              exact ih o (k + 1) (by omega) (by omega) (by first | (rw [zm_gs0 c39] at ham ⊢; first | exact zf_AM_t ham (zu_nle c59) | exact zf_AM_f ham (zu_nlt c59)) | (rw [zm_gs1 c39] at ham ⊢; first | exact zf_AM_t ham (zu_nle c87) | exact zf_AM_f ham (zu_nlt c87))) _ _ hP hD hS ls (lv_sub hl [3, 4, 5, 1, 0] rfl)
            · skip
              refine lv_iconst (v := nI 1) hx hb kd_M_victimOf_90 (by decide) ?_
              refine lv_goto (tgt := 95) hx hb kd_M_victimOf_91 (by decide) ?_
              refine lv_istore (lv' := [(5, .int (nI 1)), (0, .ref (q 0)), (1, .int (nI ca)), (2, .int (nI ao)), (3, .int (nI o)), (4, .int (nI k))]) hx hb kd_M_victimOf_95 hl (by decide) rfl (fun ls hl => ?_)
              refine lv_iload hx hb kd_M_victimOf_97 (lv_at hl 0 rfl) ?_
              refine zz_if_eq (tgt := 107) hx hb kd_M_victimOf_99 (by decide) (by decide) (fun c9 => absurd c9 (by decide)) (fun _ => ?_)
              refine lv_iload hx hb kd_M_victimOf_102 (lv_at hl 5 rfl) ?_
              refine lv_goto (tgt := 108) hx hb kd_M_victimOf_104 (by decide) ?_
              refine lv_istore_n (lv' := [(3, .int (nI k)), (5, .int (nI 1)), (0, .ref (q 0)), (1, .int (nI ca)), (2, .int (nI ao)), (4, .int (nI k))]) hx hb kd_M_victimOf_108 rfl hl (by decide) rfl (fun ls hl => ?_)
              refine lv_iinc (v := nI (k + 1)) (lv' := [(4, .int (nI (k + 1))), (3, .int (nI k)), (5, .int (nI 1)), (0, .ref (q 0)), (1, .int (nI ca)), (2, .int (nI ao))]) hx hb kd_M_victimOf_109 hl (k := 5) rfl (by first | exact nI_1 _ | (show _ + _ = _; exact nI_1 _)) (by decide) rfl (fun ls hl => ?_)
              refine lv_goto (tgt := 22) hx hb kd_M_victimOf_112 (by decide) ?_
              exact ih k (k + 1) (by omega) (by omega) (by first | (rw [zm_gs0 c39] at ham ⊢; first | exact zf_AM_t ham (zu_nle c59) | exact zf_AM_f ham (zu_nlt c59)) | (rw [zm_gs1 c39] at ham ⊢; first | exact zf_AM_t ham (zu_nle c87) | exact zf_AM_f ham (zu_nlt c87))) _ _ hP hD hS ls (lv_sub hl [3, 4, 5, 1, 0] rfl)
          · skip
            refine lv_aload_n hx hb kd_M_victimOf_42 rfl (lv_at hl 0 rfl) ?_
            refine va_get (D := (dC, dI)) (ci := 3) (v := .ref (q 13)) (C := zk_RM) (T := zk_TM) (N := 22) hx hb hts kl_M hown hK hP 0 rfl rfl 14 (by decide) (hts _ kj_360) (fun _ h9 => h9) rfl kd_M_victimOf_43 ?_
            refine lv_iload_n hx hb kd_M_victimOf_46 rfl (lv_at hl 2 rfl) ?_
            refine lv_iload hx hb kd_M_victimOf_47 (lv_at hl 4 rfl) ?_
            refine lv_iadd hx hb kd_M_victimOf_49 ?_
            refine zz_top (y := nI (ao + k)) (nI_add _ _) ?_
            refine zz_iald hx hb hK hP 3 0 rfl rfl (k := ao + k) (by omega) (by decide) kd_M_victimOf_50 ?_
            refine lv_aload_n hx hb kd_M_victimOf_51 rfl (lv_at hl 0 rfl) ?_
            refine va_get (D := (dC, dI)) (ci := 3) (v := .ref (q 13)) (C := zk_RM) (T := zk_TM) (N := 22) hx hb hts kl_M hown hK hP 0 rfl rfl 14 (by decide) (hts _ kj_360) (fun _ h9 => h9) rfl kd_M_victimOf_52 ?_
            refine lv_iload_n hx hb kd_M_victimOf_55 rfl (lv_at hl 2 rfl) ?_
            refine lv_iload_n hx hb kd_M_victimOf_56 rfl (lv_at hl 3 rfl) ?_
            refine lv_iadd hx hb kd_M_victimOf_57 ?_
            refine zz_top (y := nI (ao + o)) (nI_add _ _) ?_
            refine zz_iald hx hb hK hP 3 0 rfl rfl (k := ao + o) (by omega) (by decide) kd_M_victimOf_58 ?_
            refine lv_icmp_ge (tgt := 66) hx hb kd_M_victimOf_59 (by decide) (fun c59 => ?_) (fun c59 => ?_)
            · skip
              refine lv_iconst (v := nI 0) hx hb kd_M_victimOf_66 (by decide) ?_
              refine lv_goto (tgt := 95) hx hb kd_M_victimOf_67 (by decide) ?_
              refine lv_istore (lv' := [(5, .int (nI 0)), (0, .ref (q 0)), (1, .int (nI ca)), (2, .int (nI ao)), (3, .int (nI o)), (4, .int (nI k))]) hx hb kd_M_victimOf_95 hl (by decide) rfl (fun ls hl => ?_)
              refine lv_iload hx hb kd_M_victimOf_97 (lv_at hl 0 rfl) ?_
              refine zz_if_eq (tgt := 107) hx hb kd_M_victimOf_99 (by decide) (by decide) (fun _ => ?_) (fun c9 => absurd c9 (by decide))
              refine lv_iload_n hx hb kd_M_victimOf_107 rfl (lv_at hl 4 rfl) ?_
              refine lv_istore_n (lv' := [(3, .int (nI o)), (5, .int (nI 0)), (0, .ref (q 0)), (1, .int (nI ca)), (2, .int (nI ao)), (4, .int (nI k))]) hx hb kd_M_victimOf_108 rfl hl (by decide) rfl (fun ls hl => ?_)
              refine lv_iinc (v := nI (k + 1)) (lv' := [(4, .int (nI (k + 1))), (3, .int (nI o)), (5, .int (nI 0)), (0, .ref (q 0)), (1, .int (nI ca)), (2, .int (nI ao))]) hx hb kd_M_victimOf_109 hl (k := 5) rfl (by first | exact nI_1 _ | (show _ + _ = _; exact nI_1 _)) (by decide) rfl (fun ls hl => ?_)
              refine lv_goto (tgt := 22) hx hb kd_M_victimOf_112 (by decide) ?_
              exact ih o (k + 1) (by omega) (by omega) (by first | (rw [zm_gs0 c39] at ham ⊢; first | exact zf_AM_t ham (zu_nle c59) | exact zf_AM_f ham (zu_nlt c59)) | (rw [zm_gs1 c39] at ham ⊢; first | exact zf_AM_t ham (zu_nle c87) | exact zf_AM_f ham (zu_nlt c87))) _ _ hP hD hS ls (lv_sub hl [3, 4, 5, 1, 0] rfl)
            · skip
              refine lv_iconst (v := nI 1) hx hb kd_M_victimOf_62 (by decide) ?_
              refine lv_goto (tgt := 95) hx hb kd_M_victimOf_63 (by decide) ?_
              refine lv_istore (lv' := [(5, .int (nI 1)), (0, .ref (q 0)), (1, .int (nI ca)), (2, .int (nI ao)), (3, .int (nI o)), (4, .int (nI k))]) hx hb kd_M_victimOf_95 hl (by decide) rfl (fun ls hl => ?_)
              refine lv_iload hx hb kd_M_victimOf_97 (lv_at hl 0 rfl) ?_
              refine zz_if_eq (tgt := 107) hx hb kd_M_victimOf_99 (by decide) (by decide) (fun c9 => absurd c9 (by decide)) (fun _ => ?_)
              refine lv_iload hx hb kd_M_victimOf_102 (lv_at hl 5 rfl) ?_
              refine lv_goto (tgt := 108) hx hb kd_M_victimOf_104 (by decide) ?_
              refine lv_istore_n (lv' := [(3, .int (nI k)), (5, .int (nI 1)), (0, .ref (q 0)), (1, .int (nI ca)), (2, .int (nI ao)), (4, .int (nI k))]) hx hb kd_M_victimOf_108 rfl hl (by decide) rfl (fun ls hl => ?_)
              refine lv_iinc (v := nI (k + 1)) (lv' := [(4, .int (nI (k + 1))), (3, .int (nI k)), (5, .int (nI 1)), (0, .ref (q 0)), (1, .int (nI ca)), (2, .int (nI ao))]) hx hb kd_M_victimOf_109 hl (k := 5) rfl (by first | exact nI_1 _ | (show _ + _ = _; exact nI_1 _)) (by decide) rfl (fun ls hl => ?_)
              refine lv_goto (tgt := 22) hx hb kd_M_victimOf_112 (by decide) ?_
              exact ih k (k + 1) (by omega) (by omega) (by first | (rw [zm_gs0 c39] at ham ⊢; first | exact zf_AM_t ham (zu_nle c59) | exact zf_AM_f ham (zu_nlt c59)) | (rw [zm_gs1 c39] at ham ⊢; first | exact zf_AM_t ham (zu_nle c87) | exact zf_AM_f ham (zu_nlt c87))) _ _ hP hD hS ls (lv_sub hl [3, 4, 5, 1, 0] rfl)
    exact hc22 _ 0 1 (Nat.lt_succ_self _) (by omega) (zf_AM_1) _ _ hP hD hS ls (lv_sub hl [2, 3, 4, 1, 0] rfl)
  · skip
    refine lv_aload_n hx hb kd_M_victimOf_10 rfl (lv_at hl 0 rfl) ?_
    refine lv_iload_n hx hb kd_M_victimOf_11 rfl (lv_at hl 1 rfl) ?_
    refine lv_iload_n hx hb kd_M_victimOf_12 rfl (lv_at hl 2 rfl) ?_
    refine zz_iV (As := [.int (nI ca), .int (nI ao)]) (rest := []) (wc := [(q 0, zm_ob q th n lc kp), (q 4, .inl (cI, 4, .inl gw)), (q 15, .inl (cZ, 512, .inl gp))]) (wr := [(q 5, .inl (cI, 4, .inl gk)), (q 13, .inl (cI, 512, .inl gl)), (q 14, .inl (cI, 512, .inl gc))]) ⟨hx, hb, hml, hown, hts⟩ (cm_pointed l dC dI cI cZ cO cL q th n lc kp gw gp ca ao wa (hc) (hw) (hw8.2) (hat)) (zz_cwV hts kj_422 kj_27 kj_420 kj_421 kj_18 kz_M_pointed rfl rfl ⟨Nat.le_of_ble_eq_true rfl, Nat.le_of_ble_eq_true rfl⟩) (hP.sub [2, 3, 4, 0, 1, 5] rfl) (hD.sub [2, 3, 4, 0, 1, 5] (by decide) rfl) hK hS hA (q0 := 0) rfl rfl rfl rfl hl.1 rfl (Nat.le_of_ble_eq_true rfl) kd_M_victimOf_13 ⟨by decide, by decide⟩ (fun r9 w9 H locs hw hP hD hS => ?_)
    obtain ⟨rfl, rfl⟩ := hw
    have hP : va_P (dC, dI) zk_cl [(q 5, .inl (cI, 4, .inl gk)), (q 13, .inl (cI, 512, .inl gl)), (q 14, .inl (cI, 512, .inl gc)), (q 0, zm_ob q th n lc kp), (q 4, .inl (cI, 4, .inl gw)), (q 15, .inl (cZ, 512, .inl gp))] H := hP
    have hD : va_D A [(q 5, .inl (cI, 4, .inl gk)), (q 13, .inl (cI, 512, .inl gl)), (q 14, .inl (cI, 512, .inl gc)), (q 0, zm_ob q th n lc kp), (q 4, .inl (cI, 4, .inl gw)), (q 15, .inl (cZ, 512, .inl gp))] := hD
    exact hret _ _ _ _ _ _ kd_M_victimOf_16 (hP.sub [3, 4, 0, 1, 2, 5] rfl) (hD.sub [3, 4, 0, 1, 2, 5] (by decide) rfl) hS (⟨zt_pt (zm_tb gp ao) 4 (wa / 2) 1 0, rfl, rfl, (Or.inl ⟨c7, rfl⟩)⟩)

def rm_cm_count : Room := { frames := 0, cells := 0, slots := 0, locals := 0 }
set_option maxHeartbeats 4000000 in
set_option maxRecDepth 100000 in
/-- how many blocks, or dirty ones -/
theorem cm_count (l : Launch) (dC : Nat → ClassId) (dI : Nat → Nat → Nat) (cI cZ cO cL : ClassId) (q : Nat → Nat) (th : Nat) (n : Nat) (lc : Nat) (kp : Nat) (gb : Nat → Int32) (gd : Nat → Int32) (ca : Nat) (dz : Nat) (hc : ca < 4) (hdz : dz ≤ 1) : zz_Mi l ky_M_count kw_M_count rm_cm_count (dC, dI) (zz_ty cI cZ cO cL) [(q 0, zm_ob q th n lc kp), (q 11, .inl (cI, 512, .inl gb)), (q 12, .inl (cZ, 512, .inl gd))] [.ref (q 0), .int (nI ca), .int (nI dz)] (fun (r : Int32) (w : va_W) => w = [(q 0, zm_ob q th n lc kp), (q 11, .inl (cI, 512, .inl gb)), (q 12, .inl (cZ, 512, .inl gd))] ∧ (r = nI (zf_ct (zm_cp gb gd (128 * ca) dz) 128))) 0 0 := by
  refine zz_entry_i (cc := kb_M_count) (maxL := 5) (own := zk_RM) (by decide) rfl rfl (Nat.le_of_ble_eq_true rfl) ?_
  intro p e s m args below meth c Q hx hb hml hown hts hin hP hK A hD hA hS hret ls hl
  have hl : lv_has ls 5 [(0, .ref (q 0)), (1, .int (nI ca)), (2, .int (nI dz))] := hl
  obtain ⟨H, eH⟩ : ∃ z, z = s.heap := ⟨_, rfl⟩
  obtain ⟨locs, eL⟩ : ∃ z : List Loc, z = [] := ⟨_, rfl⟩
  rw [← eH] at hP ⊢
  have hS : va_S A s.heap H locs := by rw [eH, eL]; exact hS
  rw [← eL]
  refine lv_iconst (v := nI 0) hx hb kd_M_count_0 (by decide) ?_
  refine lv_istore_n (lv' := [(3, .int (nI 0)), (0, .ref (q 0)), (1, .int (nI ca)), (2, .int (nI dz))]) hx hb kd_M_count_1 rfl hl (by decide) rfl (fun ls hl => ?_)
  refine lv_iconst (v := nI 0) hx hb kd_M_count_2 (by decide) ?_
  refine lv_istore (lv' := [(4, .int (nI 0)), (3, .int (nI 0)), (0, .ref (q 0)), (1, .int (nI ca)), (2, .int (nI dz))]) hx hb kd_M_count_3 hl (by decide) rfl (fun ls hl => ?_)
  have hc5 : ∀ (nn : Nat), ∀ (m0 : Nat) (k : Nat), 128 - k < nn → (k ≤ 128) → (m0 = zf_ct (zm_cp gb gd (128 * ca) dz) k) → ∀ (H : Heap) (locs : List Loc), va_P (dC, dI) zk_cl [(q 0, zm_ob q th n lc kp), (q 11, .inl (cI, 512, .inl gb)), (q 12, .inl (cZ, 512, .inl gd))] H → va_D A [(q 0, zm_ob q th n lc kp), (q 11, .inl (cI, 512, .inl gb)), (q 12, .inl (cZ, 512, .inl gd))] → va_S A s.heap H locs → ∀ ls : Array Slot, lv_has ls 5 [(0, .ref (q 0)), (1, .int (nI ca)), (2, .int (nI dz)), (3, .int (nI m0)), (4, .int (nI k))] → W p l e rm_cm_count s m args below meth c H locs 0 0 Q (F0 m 5 ls []) := by
    intro nn
    induction nn with
    | zero => intro m0 k hm; exact absurd hm (Nat.not_lt_zero _)
    | succ nn ih =>
      intro m0 k hm hk hm0 H locs hP hD hS ls hl
      refine lv_iload hx hb kd_M_count_5 (lv_at hl 4 rfl) ?_
      refine lv_sipush (v := nI 128) hx hb kd_M_count_7 (by decide) ?_
      refine zz_icmp_ge (tgt := 63) hx hb kd_M_count_10 (by decide) (by omega) (by decide) (fun c10 => ?_) (fun c10 => ?_)
      · skip
        refine lv_iload_n hx hb kd_M_count_63 rfl (lv_at hl 3 rfl) ?_
        exact hret _ _ _ _ _ _ kd_M_count_64 hP hD hS (⟨rfl, by rw [hm0, show k = 128 by omega]⟩)
      · skip
        refine lv_aload_n hx hb kd_M_count_13 rfl (lv_at hl 0 rfl) ?_
        refine va_get (D := (dC, dI)) (ci := 3) (v := .ref (q 11)) (C := zk_RM) (T := zk_TM) (N := 22) hx hb hts kl_M hown hK hP 0 rfl rfl 12 (by decide) (hts _ kj_358) (fun _ h9 => h9) rfl kd_M_count_14 ?_
        refine lv_sipush (v := nI 128) hx hb kd_M_count_17 (by decide) ?_
        refine lv_iload_n hx hb kd_M_count_20 rfl (lv_at hl 1 rfl) ?_
        refine lv_imul hx hb kd_M_count_21 ?_
        refine zz_top (y := nI (128 * ca)) (pk_mul _ _) ?_
        refine lv_iload hx hb kd_M_count_22 (lv_at hl 4 rfl) ?_
        refine lv_iadd hx hb kd_M_count_24 ?_
        refine zz_top (y := nI (128 * ca + k)) (nI_add _ _) ?_
        refine zz_iald hx hb hK hP 1 0 rfl rfl (k := 128 * ca + k) (by omega) (by decide) kd_M_count_25 ?_
        refine lv_if_lt (tgt := 55) hx hb kd_M_count_26 (by decide) (fun c26 => ?_) (fun c26 => ?_)
        · skip
          refine lv_iload_n hx hb kd_M_count_55 rfl (lv_at hl 3 rfl) ?_
          refine lv_istore_n (lv' := [(3, .int (nI m0)), (0, .ref (q 0)), (1, .int (nI ca)), (2, .int (nI dz)), (4, .int (nI k))]) hx hb kd_M_count_56 rfl hl (by decide) rfl (fun ls hl => ?_)
          refine lv_iinc (v := nI (k + 1)) (lv' := [(4, .int (nI (k + 1))), (3, .int (nI m0)), (0, .ref (q 0)), (1, .int (nI ca)), (2, .int (nI dz))]) hx hb kd_M_count_57 hl (k := 4) rfl (by first | exact nI_1 _ | (show _ + _ = _; exact nI_1 _)) (by decide) rfl (fun ls hl => ?_)
          refine lv_goto (tgt := 5) hx hb kd_M_count_60 (by decide) ?_
          exact ih m0 (k + 1) (by omega) (by omega) (by first | rw [zf_ct_f (zm_cp_f (Or.inl c26)), hm0] | rw [zf_ct_t (zm_cp_t c26 (Or.inl c30)), hm0] | rw [zf_ct_f (zm_cp_f (Or.inr ⟨c30, c46⟩)), hm0] | rw [zf_ct_t (zm_cp_t c26 (Or.inr c46)), hm0]) _ _ hP hD hS ls (lv_sub hl [2, 3, 4, 1, 0] rfl)
        · skip
          refine lv_iload_n hx hb kd_M_count_29 rfl (lv_at hl 2 rfl) ?_
          refine zz_if_eq (tgt := 49) hx hb kd_M_count_30 (by decide) (by omega) (fun c30 => ?_) (fun c30 => ?_)
          · skip
            refine lv_iload_n hx hb kd_M_count_49 rfl (lv_at hl 3 rfl) ?_
            refine lv_iconst (v := nI 1) hx hb kd_M_count_50 (by decide) ?_
            refine lv_iadd hx hb kd_M_count_51 ?_
            refine zz_top (y := nI (m0 + 1)) (nI_add _ _) ?_
            refine lv_goto (tgt := 56) hx hb kd_M_count_52 (by decide) ?_
            refine lv_istore_n (lv' := [(3, .int (nI (m0 + 1))), (0, .ref (q 0)), (1, .int (nI ca)), (2, .int (nI dz)), (4, .int (nI k))]) hx hb kd_M_count_56 rfl hl (by decide) rfl (fun ls hl => ?_)
            refine lv_iinc (v := nI (k + 1)) (lv' := [(4, .int (nI (k + 1))), (3, .int (nI (m0 + 1))), (0, .ref (q 0)), (1, .int (nI ca)), (2, .int (nI dz))]) hx hb kd_M_count_57 hl (k := 4) rfl (by first | exact nI_1 _ | (show _ + _ = _; exact nI_1 _)) (by decide) rfl (fun ls hl => ?_)
            refine lv_goto (tgt := 5) hx hb kd_M_count_60 (by decide) ?_
            exact ih (m0 + 1) (k + 1) (by omega) (by omega) (by first | rw [zf_ct_f (zm_cp_f (Or.inl c26)), hm0] | rw [zf_ct_t (zm_cp_t c26 (Or.inl c30)), hm0] | rw [zf_ct_f (zm_cp_f (Or.inr ⟨c30, c46⟩)), hm0] | rw [zf_ct_t (zm_cp_t c26 (Or.inr c46)), hm0]) _ _ hP hD hS ls (lv_sub hl [2, 3, 4, 1, 0] rfl)
          · skip
            refine lv_aload_n hx hb kd_M_count_33 rfl (lv_at hl 0 rfl) ?_
            refine va_get (D := (dC, dI)) (ci := 3) (v := .ref (q 12)) (C := zk_RM) (T := zk_TM) (N := 22) hx hb hts kl_M hown hK hP 0 rfl rfl 13 (by decide) (hts _ kj_359) (fun _ h9 => h9) rfl kd_M_count_34 ?_
            refine lv_sipush (v := nI 128) hx hb kd_M_count_37 (by decide) ?_
            refine lv_iload_n hx hb kd_M_count_40 rfl (lv_at hl 1 rfl) ?_
            refine lv_imul hx hb kd_M_count_41 ?_
            refine zz_top (y := nI (128 * ca)) (pk_mul _ _) ?_
            refine lv_iload hx hb kd_M_count_42 (lv_at hl 4 rfl) ?_
            refine lv_iadd hx hb kd_M_count_44 ?_
            refine zz_top (y := nI (128 * ca + k)) (nI_add _ _) ?_
            refine zz_zald hx hb hK hP 2 1 rfl rfl (k := 128 * ca + k) (by omega) (by decide) kd_M_count_45 ?_
            refine lv_if_eq (tgt := 55) hx hb kd_M_count_46 (by decide) (fun c46 => ?_) (fun c46 => ?_)
            · skip
              refine lv_iload_n hx hb kd_M_count_55 rfl (lv_at hl 3 rfl) ?_
              refine lv_istore_n (lv' := [(3, .int (nI m0)), (0, .ref (q 0)), (1, .int (nI ca)), (2, .int (nI dz)), (4, .int (nI k))]) hx hb kd_M_count_56 rfl hl (by decide) rfl (fun ls hl => ?_)
              refine lv_iinc (v := nI (k + 1)) (lv' := [(4, .int (nI (k + 1))), (3, .int (nI m0)), (0, .ref (q 0)), (1, .int (nI ca)), (2, .int (nI dz))]) hx hb kd_M_count_57 hl (k := 4) rfl (by first | exact nI_1 _ | (show _ + _ = _; exact nI_1 _)) (by decide) rfl (fun ls hl => ?_)
              refine lv_goto (tgt := 5) hx hb kd_M_count_60 (by decide) ?_
              exact ih m0 (k + 1) (by omega) (by omega) (by first | rw [zf_ct_f (zm_cp_f (Or.inl c26)), hm0] | rw [zf_ct_t (zm_cp_t c26 (Or.inl c30)), hm0] | rw [zf_ct_f (zm_cp_f (Or.inr ⟨c30, c46⟩)), hm0] | rw [zf_ct_t (zm_cp_t c26 (Or.inr c46)), hm0]) _ _ hP hD hS ls (lv_sub hl [2, 3, 4, 1, 0] rfl)
            · skip
              refine lv_iload_n hx hb kd_M_count_49 rfl (lv_at hl 3 rfl) ?_
              refine lv_iconst (v := nI 1) hx hb kd_M_count_50 (by decide) ?_
              refine lv_iadd hx hb kd_M_count_51 ?_
              refine zz_top (y := nI (m0 + 1)) (nI_add _ _) ?_
              refine lv_goto (tgt := 56) hx hb kd_M_count_52 (by decide) ?_
              refine lv_istore_n (lv' := [(3, .int (nI (m0 + 1))), (0, .ref (q 0)), (1, .int (nI ca)), (2, .int (nI dz)), (4, .int (nI k))]) hx hb kd_M_count_56 rfl hl (by decide) rfl (fun ls hl => ?_)
              refine lv_iinc (v := nI (k + 1)) (lv' := [(4, .int (nI (k + 1))), (3, .int (nI (m0 + 1))), (0, .ref (q 0)), (1, .int (nI ca)), (2, .int (nI dz))]) hx hb kd_M_count_57 hl (k := 4) rfl (by first | exact nI_1 _ | (show _ + _ = _; exact nI_1 _)) (by decide) rfl (fun ls hl => ?_)
              refine lv_goto (tgt := 5) hx hb kd_M_count_60 (by decide) ?_
              exact ih (m0 + 1) (k + 1) (by omega) (by omega) (by first | rw [zf_ct_f (zm_cp_f (Or.inl c26)), hm0] | rw [zf_ct_t (zm_cp_t c26 (Or.inl c30)), hm0] | rw [zf_ct_f (zm_cp_f (Or.inr ⟨c30, c46⟩)), hm0] | rw [zf_ct_t (zm_cp_t c26 (Or.inr c46)), hm0]) _ _ hP hD hS ls (lv_sub hl [2, 3, 4, 1, 0] rfl)
  exact hc5 _ 0 0 (Nat.lt_succ_self _) (by omega) (rfl) _ _ hP hD hS ls (lv_sub hl [2, 3, 4, 1, 0] rfl)

def rm_cm_see : Room := { frames := 2, cells := 0, slots := 0, locals := 51 }
set_option maxHeartbeats 4000000 in
set_option maxRecDepth 100000 in
/-- a cache sees an access -/
theorem cm_see (l : Launch) (dC : Nat → ClassId) (dI : Nat → Nat → Nat) (cI cZ cO cL : ClassId) (q : Nat → Nat) (th : Nat) (n : Nat) (lc : Nat) (kp : Nat) (gsb : Nat → Int32) (gw : Nat → Int32) (gk : Nat → Int32) (gbt : Nat → Int32) (gh : Nat → Int32) (gm : Nat → Int32) (gv : Nat → Int32) (gr : Nat → Int32) (gb : Nat → Int32) (gd : Nat → Int32) (gl : Nat → Int32) (gc : Nat → Int32) (gp : Nat → Int32) (ca : Nat) (ad : Nat) (sb : Nat) (wy : Nat) (kd : Nat) (bb : Nat) (b : Nat) (a : Nat) (ao : Nat) (wr : Int32) (hc : ca < 4) (had : ad < 4096) (hsb : gsb ca = nI sb) (hsb4 : sb ≤ 4) (hw : gw ca = nI wy) (hwy : 1 ≤ wy ∧ wy ≤ 8) (hkd : gk ca = nI kd) (hk3 : kd ≤ 2) (hk2 : kd = 2 → wy = 1 ∨ wy = 2 ∨ wy = 4 ∨ wy = 8) (hbt : gbt ca = nI bb) (hbb : bb ≤ 6) (hbit : ∀ j, j < 512 → gd j = 0 ∨ gd j = 1) (hb1 : ad / 2 ^ bb = b) (ha1 : b % 2 ^ sb = a) (ha2 : 128 * ca + 8 * a = ao) (hb2 : b < 4096) : zz_Mi l ky_M_see kw_M_see rm_cm_see (dC, dI) (zz_ty cI cZ cO cL) [(q 0, zm_ob q th n lc kp), (q 3, .inl (cI, 4, .inl gsb)), (q 4, .inl (cI, 4, .inl gw)), (q 5, .inl (cI, 4, .inl gk)), (q 6, .inl (cI, 4, .inl gbt)), (q 7, .inl (cI, 4, .inl gh)), (q 8, .inl (cI, 4, .inl gm)), (q 9, .inl (cI, 4, .inl gv)), (q 10, .inl (cI, 4, .inl gr)), (q 11, .inl (cI, 512, .inl gb)), (q 12, .inl (cZ, 512, .inl gd)), (q 13, .inl (cI, 512, .inl gl)), (q 14, .inl (cI, 512, .inl gc)), (q 15, .inl (cZ, 512, .inl gp))] [.ref (q 0), .int (nI ca), .int (nI ad), .int wr] (fun (r : Int32) (w : va_W) => ∃ (h : Nat), ∃ (pl : Nat), ∃ (gh2 : Nat → Int32), ∃ (gm2 : Nat → Int32), ∃ (gv2 : Nat → Int32), ∃ (gr2 : Nat → Int32), ∃ (gb2 : Nat → Int32), ∃ (gd2 : Nat → Int32), ∃ (gc2 : Nat → Int32), ∃ (gp2 : Nat → Int32), w = [(q 0, zm_ob q th n lc kp), (q 3, .inl (cI, 4, .inl gsb)), (q 4, .inl (cI, 4, .inl gw)), (q 5, .inl (cI, 4, .inl gk)), (q 6, .inl (cI, 4, .inl gbt)), (q 7, .inl (cI, 4, .inl gh2)), (q 8, .inl (cI, 4, .inl gm2)), (q 9, .inl (cI, 4, .inl gv2)), (q 10, .inl (cI, 4, .inl gr2)), (q 11, .inl (cI, 512, .inl gb2)), (q 12, .inl (cZ, 512, .inl gd2)), (q 13, .inl (cI, 512, .inl (upd gl (ao + pl) (nI n)))), (q 14, .inl (cI, 512, .inl gc2)), (q 15, .inl (cZ, 512, .inl gp2))] ∧ (r = nI h) ∧ (pl < wy) ∧ ((h = 1 ∧ zf_FP (fun k => gb (ao + k)) wy (nI b) (nI pl) ∧ gh2 = upd gh ca (gh ca + 1) ∧ gm2 = gm ∧ gv2 = gv ∧ gr2 = gr ∧ gb2 = gb ∧ gc2 = gc) ∨ (h = 0 ∧ zf_FP (fun k => gb (ao + k)) wy (nI b) (-1) ∧ zc_bi wy kd (fun k => gb (ao + k)) (zm_gs kd ao gl gc) (fun k => gd (ao + k)) (zm_tb gp ao) pl (gv ca) (gr ca) (gv2 ca) (gr2 ca) ∧ (∀ j, j ≠ ca → gv2 j = gv j ∧ gr2 j = gr j) ∧ gh2 = gh ∧ gm2 = upd gm ca (gm ca + 1) ∧ gb2 = upd gb (ao + pl) (nI b) ∧ gc2 = upd gc (ao + pl) (nI n))) ∧ ((∀ j, j ≠ ao + pl → gd2 j = gd j) ∧ gd2 (ao + pl) = if wr = 0 then (if h = 1 then gd (ao + pl) else 0) else 1) ∧ (zm_tb gp2 ao = zt_mt pl 4 (wy / 2) 1 0 (zm_tb gp ao)) ∧ (∀ j, (j < ao ∨ ao + 8 ≤ j) → gp2 j = gp j) ∧ (h ≤ 1)) 0 0 := by
  refine zz_entry_z (cc := kb_M_see) (maxL := 8) (own := zk_RM) (by decide) rfl rfl (Nat.le_of_ble_eq_true rfl) ?_
  intro p e s m args below meth c Q hx hb hml hown hts hin hP hK A hD hA hS hret ls hl
  have hl : lv_has ls 8 [(0, .ref (q 0)), (1, .int (nI ca)), (2, .int (nI ad)), (3, .int wr)] := hl
  obtain ⟨H, eH⟩ : ∃ z, z = s.heap := ⟨_, rfl⟩
  obtain ⟨locs, eL⟩ : ∃ z : List Loc, z = [] := ⟨_, rfl⟩
  rw [← eH] at hP ⊢
  have hS : va_S A s.heap H locs := by rw [eH, eL]; exact hS
  rw [← eL]
  have ha : a < 16 := by rw [← ha1]; exact zu_set hsb4
  have hao : ao + 8 ≤ 512 := by omega
  refine lv_iload_n hx hb kd_M_see_0 rfl (lv_at hl 2 rfl) ?_
  refine lv_aload_n hx hb kd_M_see_1 rfl (lv_at hl 0 rfl) ?_
  refine va_get (D := (dC, dI)) (ci := 3) (v := .ref (q 6)) (C := zk_RM) (T := zk_TM) (N := 22) hx hb hts kl_M hown hK hP 0 rfl rfl 7 (by decide) (hts _ kj_353) (fun _ h9 => h9) rfl kd_M_see_2 ?_
  refine lv_iload_n hx hb kd_M_see_5 rfl (lv_at hl 1 rfl) ?_
  refine zz_iald hx hb hK hP 4 0 rfl rfl (k := ca) (by omega) (by decide) kd_M_see_6 ?_
  refine zz_top (y := nI bb) (hbt) ?_
  refine lv_ishr hx hb kd_M_see_7 ?_
  refine zz_top (y := nI b) ((zn_shr (by omega) (by omega)).trans (by rw [hb1])) ?_
  refine lv_istore (lv' := [(4, .int (nI b)), (0, .ref (q 0)), (1, .int (nI ca)), (2, .int (nI ad)), (3, .int wr)]) hx hb kd_M_see_8 hl (by decide) rfl (fun ls hl => ?_)
  refine lv_sipush (v := nI 128) hx hb kd_M_see_10 (by decide) ?_
  refine lv_iload_n hx hb kd_M_see_13 rfl (lv_at hl 2 rfl) ?_
  refine lv_imul hx hb kd_M_see_14 ?_
  refine zz_top (y := nI (128 * ca)) (pk_mul _ _) ?_
  refine lv_bipush (v := nI 8) hx hb kd_M_see_15 (by decide) ?_
  refine lv_iload hx hb kd_M_see_17 (lv_at hl 0 rfl) ?_
  refine lv_iconst (v := nI 1) hx hb kd_M_see_19 (by decide) ?_
  refine lv_aload_n hx hb kd_M_see_20 rfl (lv_at hl 1 rfl) ?_
  refine va_get (D := (dC, dI)) (ci := 3) (v := .ref (q 3)) (C := zk_RM) (T := zk_TM) (N := 22) hx hb hts kl_M hown hK hP 0 rfl rfl 4 (by decide) (hts _ kj_350) (fun _ h9 => h9) rfl kd_M_see_21 ?_
  refine lv_iload_n hx hb kd_M_see_24 rfl (lv_at hl 2 rfl) ?_
  refine zz_iald hx hb hK hP 1 0 rfl rfl (k := ca) (by omega) (by decide) kd_M_see_25 ?_
  refine zz_top (y := nI sb) (hsb) ?_
  refine lv_ishl hx hb kd_M_see_26 ?_
  refine zz_top (y := nI (2 ^ sb)) (zn_shl1 (by omega)) ?_
  refine lv_iconst (v := nI 1) hx hb kd_M_see_27 (by decide) ?_
  refine lv_isub hx hb kd_M_see_28 ?_
  refine zz_top (y := nI (2 ^ sb - 1)) (pk_sub Nat.one_le_two_pow) ?_
  refine lv_iand hx hb kd_M_see_29 ?_
  refine zz_top (y := nI a) ((zn_mask (by omega) (by omega)).trans (by rw [ha1])) ?_
  refine lv_imul hx hb kd_M_see_30 ?_
  refine zz_top (y := nI (8 * a)) (pk_mul _ _) ?_
  refine lv_iadd hx hb kd_M_see_31 ?_
  refine zz_top (y := nI ao) ((nI_add _ _).trans (by rw [ha2])) ?_
  refine lv_istore (lv' := [(5, .int (nI ao)), (4, .int (nI b)), (0, .ref (q 0)), (1, .int (nI ca)), (2, .int (nI ad)), (3, .int wr)]) hx hb kd_M_see_32 hl (by decide) rfl (fun ls hl => ?_)
  refine lv_aload_n hx hb kd_M_see_34 rfl (lv_at hl 2 rfl) ?_
  refine lv_iload_n hx hb kd_M_see_35 rfl (lv_at hl 3 rfl) ?_
  refine lv_iload hx hb kd_M_see_36 (lv_at hl 0 rfl) ?_
  refine lv_iload hx hb kd_M_see_38 (lv_at hl 1 rfl) ?_
  refine zz_iV (As := [.int (nI ca), .int (nI ao), .int (nI b)]) (rest := []) (wc := [(q 0, zm_ob q th n lc kp), (q 4, .inl (cI, 4, .inl gw)), (q 11, .inl (cI, 512, .inl gb))]) (wr := [(q 3, .inl (cI, 4, .inl gsb)), (q 5, .inl (cI, 4, .inl gk)), (q 6, .inl (cI, 4, .inl gbt)), (q 7, .inl (cI, 4, .inl gh)), (q 8, .inl (cI, 4, .inl gm)), (q 9, .inl (cI, 4, .inl gv)), (q 10, .inl (cI, 4, .inl gr)), (q 12, .inl (cZ, 512, .inl gd)), (q 13, .inl (cI, 512, .inl gl)), (q 14, .inl (cI, 512, .inl gc)), (q 15, .inl (cZ, 512, .inl gp))]) ⟨hx, hb, hml, hown, hts⟩ (cm_placeOf l dC dI cI cZ cO cL q th n lc kp gw gb ca ao wy (nI b) (by omega) (hw) (by omega) (by omega)) (zz_cwV hts kj_416 kj_27 kj_414 kj_415 kj_16 kz_M_placeOf rfl rfl ⟨Nat.le_of_ble_eq_true rfl, Nat.le_of_ble_eq_true rfl⟩) (hP.sub [1, 3, 4, 5, 6, 7, 8, 10, 11, 12, 13, 0, 2, 9] rfl) (hD.sub [1, 3, 4, 5, 6, 7, 8, 10, 11, 12, 13, 0, 2, 9] (by decide) rfl) hK hS hA (q0 := 0) rfl rfl rfl rfl hl.1 rfl (Nat.le_of_ble_eq_true rfl) kd_M_see_40 ⟨by decide, by decide⟩ (fun r9 w9 H locs hw hP hD hS => ?_)
  generalize r9 = r0 at hw ⊢
  obtain ⟨rfl, fp40⟩ := hw
  have hP : va_P (dC, dI) zk_cl [(q 3, .inl (cI, 4, .inl gsb)), (q 5, .inl (cI, 4, .inl gk)), (q 6, .inl (cI, 4, .inl gbt)), (q 7, .inl (cI, 4, .inl gh)), (q 8, .inl (cI, 4, .inl gm)), (q 9, .inl (cI, 4, .inl gv)), (q 10, .inl (cI, 4, .inl gr)), (q 12, .inl (cZ, 512, .inl gd)), (q 13, .inl (cI, 512, .inl gl)), (q 14, .inl (cI, 512, .inl gc)), (q 15, .inl (cZ, 512, .inl gp)), (q 0, zm_ob q th n lc kp), (q 4, .inl (cI, 4, .inl gw)), (q 11, .inl (cI, 512, .inl gb))] H := hP
  have hD : va_D A [(q 3, .inl (cI, 4, .inl gsb)), (q 5, .inl (cI, 4, .inl gk)), (q 6, .inl (cI, 4, .inl gbt)), (q 7, .inl (cI, 4, .inl gh)), (q 8, .inl (cI, 4, .inl gm)), (q 9, .inl (cI, 4, .inl gv)), (q 10, .inl (cI, 4, .inl gr)), (q 12, .inl (cZ, 512, .inl gd)), (q 13, .inl (cI, 512, .inl gl)), (q 14, .inl (cI, 512, .inl gc)), (q 15, .inl (cZ, 512, .inl gp)), (q 0, zm_ob q th n lc kp), (q 4, .inl (cI, 4, .inl gw)), (q 11, .inl (cI, 512, .inl gb))] := hD
  refine lv_istore (lv' := [(6, .int r0), (5, .int (nI ao)), (4, .int (nI b)), (0, .ref (q 0)), (1, .int (nI ca)), (2, .int (nI ad)), (3, .int wr)]) hx hb kd_M_see_43 hl (by decide) rfl (fun ls hl => ?_)
  have hc192 : ∀ (h : Nat) (pl : Nat) (gh1 : Nat → Int32) (gm1 : Nat → Int32) (gv1 : Nat → Int32) (gr1 : Nat → Int32) (gb1 : Nat → Int32) (gd1 : Nat → Int32) (gc1 : Nat → Int32), (pl < wy) → ((h = 1 ∧ zf_FP (fun k => gb (ao + k)) wy (nI b) (nI pl) ∧ gh1 = upd gh ca (gh ca + 1) ∧ gm1 = gm ∧ gv1 = gv ∧ gr1 = gr ∧ gb1 = gb ∧ gc1 = gc) ∨ (h = 0 ∧ zf_FP (fun k => gb (ao + k)) wy (nI b) (-1) ∧ zc_bi wy kd (fun k => gb (ao + k)) (zm_gs kd ao gl gc) (fun k => gd (ao + k)) (zm_tb gp ao) pl (gv ca) (gr ca) (gv1 ca) (gr1 ca) ∧ (∀ j, j ≠ ca → gv1 j = gv j ∧ gr1 j = gr j) ∧ gh1 = gh ∧ gm1 = upd gm ca (gm ca + 1) ∧ gb1 = upd gb (ao + pl) (nI b) ∧ gc1 = upd gc (ao + pl) (nI n))) → ((∀ j, j ≠ ao + pl → gd1 j = gd j) ∧ gd1 (ao + pl) = if h = 1 then gd (ao + pl) else 0) → ∀ (H : Heap) (locs : List Loc), va_P (dC, dI) zk_cl [(q 0, zm_ob q th n lc kp), (q 3, .inl (cI, 4, .inl gsb)), (q 4, .inl (cI, 4, .inl gw)), (q 5, .inl (cI, 4, .inl gk)), (q 6, .inl (cI, 4, .inl gbt)), (q 7, .inl (cI, 4, .inl gh1)), (q 8, .inl (cI, 4, .inl gm1)), (q 9, .inl (cI, 4, .inl gv1)), (q 10, .inl (cI, 4, .inl gr1)), (q 11, .inl (cI, 512, .inl gb1)), (q 12, .inl (cZ, 512, .inl gd1)), (q 13, .inl (cI, 512, .inl gl)), (q 14, .inl (cI, 512, .inl gc1)), (q 15, .inl (cZ, 512, .inl gp))] H → va_D A [(q 0, zm_ob q th n lc kp), (q 3, .inl (cI, 4, .inl gsb)), (q 4, .inl (cI, 4, .inl gw)), (q 5, .inl (cI, 4, .inl gk)), (q 6, .inl (cI, 4, .inl gbt)), (q 7, .inl (cI, 4, .inl gh1)), (q 8, .inl (cI, 4, .inl gm1)), (q 9, .inl (cI, 4, .inl gv1)), (q 10, .inl (cI, 4, .inl gr1)), (q 11, .inl (cI, 512, .inl gb1)), (q 12, .inl (cZ, 512, .inl gd1)), (q 13, .inl (cI, 512, .inl gl)), (q 14, .inl (cI, 512, .inl gc1)), (q 15, .inl (cZ, 512, .inl gp))] → va_S A s.heap H locs → ∀ ls : Array Slot, lv_has ls 8 [(0, .ref (q 0)), (1, .int (nI ca)), (3, .int wr), (5, .int (nI ao)), (6, .int (nI pl)), (7, .int (nI h))] → W p l e rm_cm_see s m args below meth c H locs 0 0 Q (F0 m 192 ls []) := by
    intro h pl gh1 gm1 gv1 gr1 gb1 gd1 gc1 hpl hc1 hd1 H locs hP hD hS ls hl
    have hh : h ≤ 1 := by rcases hc1 with ⟨z, _⟩ | ⟨z, _⟩ <;> omega
    have hb1d : gd1 (ao + pl) = 0 ∨ gd1 (ao + pl) = 1 := by
      rw [hd1.2]
      split
      · exact hbit _ (by omega)
      · exact Or.inl rfl
    refine lv_aload_n hx hb kd_M_see_192 rfl (lv_at hl 0 rfl) ?_
    refine va_get (D := (dC, dI)) (ci := 3) (v := .ref (q 13)) (C := zk_RM) (T := zk_TM) (N := 22) hx hb hts kl_M hown hK hP 0 rfl rfl 14 (by decide) (hts _ kj_360) (fun _ h9 => h9) rfl kd_M_see_193 ?_
    refine lv_iload hx hb kd_M_see_196 (lv_at hl 3 rfl) ?_
    refine lv_iload hx hb kd_M_see_198 (lv_at hl 4 rfl) ?_
    refine lv_iadd hx hb kd_M_see_200 ?_
    refine zz_top (y := nI (ao + pl)) (nI_add _ _) ?_
    refine lv_aload_n hx hb kd_M_see_201 rfl (lv_at hl 0 rfl) ?_
    refine va_get (D := (dC, dI)) (ci := 3) (v := .int (nI n)) (C := zk_RM) (T := zk_TM) (N := 22) hx hb hts kl_M hown hK hP 0 rfl rfl 1 (by decide) (hts _ kj_347) (fun _ h9 => h9) rfl kd_M_see_202 ?_
    refine zz_iast hx hb hK hP hD hS 11 0 rfl rfl (k := ao + pl) (by omega) (by decide) kd_M_see_205 (fun H locs hP hD hS => ?_)
    have hP : va_P (dC, dI) zk_cl [(q 0, zm_ob q th n lc kp), (q 3, .inl (cI, 4, .inl gsb)), (q 4, .inl (cI, 4, .inl gw)), (q 5, .inl (cI, 4, .inl gk)), (q 6, .inl (cI, 4, .inl gbt)), (q 7, .inl (cI, 4, .inl gh1)), (q 8, .inl (cI, 4, .inl gm1)), (q 9, .inl (cI, 4, .inl gv1)), (q 10, .inl (cI, 4, .inl gr1)), (q 11, .inl (cI, 512, .inl gb1)), (q 12, .inl (cZ, 512, .inl gd1)), (q 13, .inl (cI, 512, .inl (upd gl (ao + pl) (nI n)))), (q 14, .inl (cI, 512, .inl gc1)), (q 15, .inl (cZ, 512, .inl gp))] H := hP
    have hD : va_D A [(q 0, zm_ob q th n lc kp), (q 3, .inl (cI, 4, .inl gsb)), (q 4, .inl (cI, 4, .inl gw)), (q 5, .inl (cI, 4, .inl gk)), (q 6, .inl (cI, 4, .inl gbt)), (q 7, .inl (cI, 4, .inl gh1)), (q 8, .inl (cI, 4, .inl gm1)), (q 9, .inl (cI, 4, .inl gv1)), (q 10, .inl (cI, 4, .inl gr1)), (q 11, .inl (cI, 512, .inl gb1)), (q 12, .inl (cZ, 512, .inl gd1)), (q 13, .inl (cI, 512, .inl (upd gl (ao + pl) (nI n)))), (q 14, .inl (cI, 512, .inl gc1)), (q 15, .inl (cZ, 512, .inl gp))] := hD
    have hc238 : ∀ (gd2 : Nat → Int32), ((∀ j, j ≠ ao + pl → gd2 j = gd j) ∧ gd2 (ao + pl) = if wr = 0 then (if h = 1 then gd (ao + pl) else 0) else 1) → ∀ (H : Heap) (locs : List Loc), va_P (dC, dI) zk_cl [(q 0, zm_ob q th n lc kp), (q 3, .inl (cI, 4, .inl gsb)), (q 4, .inl (cI, 4, .inl gw)), (q 5, .inl (cI, 4, .inl gk)), (q 6, .inl (cI, 4, .inl gbt)), (q 7, .inl (cI, 4, .inl gh1)), (q 8, .inl (cI, 4, .inl gm1)), (q 9, .inl (cI, 4, .inl gv1)), (q 10, .inl (cI, 4, .inl gr1)), (q 11, .inl (cI, 512, .inl gb1)), (q 12, .inl (cZ, 512, .inl gd2)), (q 13, .inl (cI, 512, .inl (upd gl (ao + pl) (nI n)))), (q 14, .inl (cI, 512, .inl gc1)), (q 15, .inl (cZ, 512, .inl gp))] H → va_D A [(q 0, zm_ob q th n lc kp), (q 3, .inl (cI, 4, .inl gsb)), (q 4, .inl (cI, 4, .inl gw)), (q 5, .inl (cI, 4, .inl gk)), (q 6, .inl (cI, 4, .inl gbt)), (q 7, .inl (cI, 4, .inl gh1)), (q 8, .inl (cI, 4, .inl gm1)), (q 9, .inl (cI, 4, .inl gv1)), (q 10, .inl (cI, 4, .inl gr1)), (q 11, .inl (cI, 512, .inl gb1)), (q 12, .inl (cZ, 512, .inl gd2)), (q 13, .inl (cI, 512, .inl (upd gl (ao + pl) (nI n)))), (q 14, .inl (cI, 512, .inl gc1)), (q 15, .inl (cZ, 512, .inl gp))] → va_S A s.heap H locs → ∀ ls : Array Slot, lv_has ls 8 [(0, .ref (q 0)), (1, .int (nI ca)), (5, .int (nI ao)), (6, .int (nI pl)), (7, .int (nI h))] → W p l e rm_cm_see s m args below meth c H locs 0 0 Q (F0 m 238 ls []) := by
      intro gd2 hd2 H locs hP hD hS ls hl
      refine lv_aload_n hx hb kd_M_see_238 rfl (lv_at hl 0 rfl) ?_
      refine lv_iload_n hx hb kd_M_see_239 rfl (lv_at hl 1 rfl) ?_
      refine lv_iload hx hb kd_M_see_240 (lv_at hl 2 rfl) ?_
      refine lv_iload hx hb kd_M_see_242 (lv_at hl 3 rfl) ?_
      refine zz_vV (As := [.int (nI ca), .int (nI ao), .int (nI pl)]) (rest := []) (wc := [(q 0, zm_ob q th n lc kp), (q 4, .inl (cI, 4, .inl gw)), (q 15, .inl (cZ, 512, .inl gp))]) (wr := [(q 3, .inl (cI, 4, .inl gsb)), (q 5, .inl (cI, 4, .inl gk)), (q 6, .inl (cI, 4, .inl gbt)), (q 7, .inl (cI, 4, .inl gh1)), (q 8, .inl (cI, 4, .inl gm1)), (q 9, .inl (cI, 4, .inl gv1)), (q 10, .inl (cI, 4, .inl gr1)), (q 11, .inl (cI, 512, .inl gb1)), (q 12, .inl (cZ, 512, .inl gd2)), (q 13, .inl (cI, 512, .inl (upd gl (ao + pl) (nI n)))), (q 14, .inl (cI, 512, .inl gc1))]) ⟨hx, hb, hml, hown, hts⟩ (cm_turn l dC dI cI cZ cO cL q th n lc kp gw gp ca ao pl wy (by omega) (hw) (by omega) (by omega) (by omega)) (zz_cwV hts kj_425 kj_27 kj_423 kj_424 kj_19 kz_M_turn rfl rfl ⟨Nat.le_of_ble_eq_true rfl, Nat.le_of_ble_eq_true rfl⟩) (hP.sub [1, 3, 4, 5, 6, 7, 8, 9, 10, 11, 12, 0, 2, 13] rfl) (hD.sub [1, 3, 4, 5, 6, 7, 8, 9, 10, 11, 12, 0, 2, 13] (by decide) rfl) hK hS hA (q0 := 0) rfl rfl rfl rfl hl.1 rfl (Nat.le_of_ble_eq_true rfl) kd_M_see_244 ⟨by decide, by decide⟩ (fun w9 H locs hw hP hD hS => ?_)
      obtain ⟨gp2_1, rfl, g1, g2⟩ := hw
      have hP : va_P (dC, dI) zk_cl [(q 3, .inl (cI, 4, .inl gsb)), (q 5, .inl (cI, 4, .inl gk)), (q 6, .inl (cI, 4, .inl gbt)), (q 7, .inl (cI, 4, .inl gh1)), (q 8, .inl (cI, 4, .inl gm1)), (q 9, .inl (cI, 4, .inl gv1)), (q 10, .inl (cI, 4, .inl gr1)), (q 11, .inl (cI, 512, .inl gb1)), (q 12, .inl (cZ, 512, .inl gd2)), (q 13, .inl (cI, 512, .inl (upd gl (ao + pl) (nI n)))), (q 14, .inl (cI, 512, .inl gc1)), (q 0, zm_ob q th n lc kp), (q 4, .inl (cI, 4, .inl gw)), (q 15, .inl (cZ, 512, .inl gp2_1))] H := hP
      have hD : va_D A [(q 3, .inl (cI, 4, .inl gsb)), (q 5, .inl (cI, 4, .inl gk)), (q 6, .inl (cI, 4, .inl gbt)), (q 7, .inl (cI, 4, .inl gh1)), (q 8, .inl (cI, 4, .inl gm1)), (q 9, .inl (cI, 4, .inl gv1)), (q 10, .inl (cI, 4, .inl gr1)), (q 11, .inl (cI, 512, .inl gb1)), (q 12, .inl (cZ, 512, .inl gd2)), (q 13, .inl (cI, 512, .inl (upd gl (ao + pl) (nI n)))), (q 14, .inl (cI, 512, .inl gc1)), (q 0, zm_ob q th n lc kp), (q 4, .inl (cI, 4, .inl gw)), (q 15, .inl (cZ, 512, .inl gp2_1))] := hD
      refine lv_iload hx hb kd_M_see_247 (lv_at hl 4 rfl) ?_
      exact hret _ _ _ _ _ _ (zu_bit hh) kd_M_see_249 (hP.sub [11, 0, 12, 1, 2, 3, 4, 5, 6, 7, 8, 9, 10, 13] rfl) (hD.sub [11, 0, 12, 1, 2, 3, 4, 5, 6, 7, 8, 9, 10, 13] (by decide) rfl) hS (⟨h, pl, gh1, gm1, gv1, gr1, gb1, gd2, gc1, gp2_1, rfl, rfl, (hpl), (hc1), (hd2), (g1), (g2), (hh)⟩)
    refine lv_aload_n hx hb kd_M_see_206 rfl (lv_at hl 0 rfl) ?_
    refine va_get (D := (dC, dI)) (ci := 3) (v := .ref (q 12)) (C := zk_RM) (T := zk_TM) (N := 22) hx hb hts kl_M hown hK hP 0 rfl rfl 13 (by decide) (hts _ kj_359) (fun _ h9 => h9) rfl kd_M_see_207 ?_
    refine lv_iload hx hb kd_M_see_210 (lv_at hl 3 rfl) ?_
    refine lv_iload hx hb kd_M_see_212 (lv_at hl 4 rfl) ?_
    refine lv_iadd hx hb kd_M_see_214 ?_
    refine zz_top (y := nI (ao + pl)) (nI_add _ _) ?_
    refine lv_aload_n hx hb kd_M_see_215 rfl (lv_at hl 0 rfl) ?_
    refine va_get (D := (dC, dI)) (ci := 3) (v := .ref (q 12)) (C := zk_RM) (T := zk_TM) (N := 22) hx hb hts kl_M hown hK hP 0 rfl rfl 13 (by decide) (hts _ kj_359) (fun _ h9 => h9) rfl kd_M_see_216 ?_
    refine lv_iload hx hb kd_M_see_219 (lv_at hl 3 rfl) ?_
    refine lv_iload hx hb kd_M_see_221 (lv_at hl 4 rfl) ?_
    refine lv_iadd hx hb kd_M_see_223 ?_
    refine zz_top (y := nI (ao + pl)) (nI_add _ _) ?_
    refine zz_zald hx hb hK hP 10 1 rfl rfl (k := ao + pl) (by omega) (by decide) kd_M_see_224 ?_
    refine lv_if_ne (tgt := 232) hx hb kd_M_see_225 (by decide) (fun c225 => ?_) (fun c225 => ?_)
    · skip
      refine lv_iconst (v := nI 1) hx hb kd_M_see_232 (by decide) ?_
      refine lv_goto (tgt := 237) hx hb kd_M_see_233 (by decide) ?_
      refine zz_zast hx hb hK hP hD hS 10 1 rfl rfl (k := ao + pl) (by omega) (by decide) (Or.inr rfl) kd_M_see_237 (fun H locs hP hD hS => ?_)
      have hP : va_P (dC, dI) zk_cl [(q 0, zm_ob q th n lc kp), (q 3, .inl (cI, 4, .inl gsb)), (q 4, .inl (cI, 4, .inl gw)), (q 5, .inl (cI, 4, .inl gk)), (q 6, .inl (cI, 4, .inl gbt)), (q 7, .inl (cI, 4, .inl gh1)), (q 8, .inl (cI, 4, .inl gm1)), (q 9, .inl (cI, 4, .inl gv1)), (q 10, .inl (cI, 4, .inl gr1)), (q 11, .inl (cI, 512, .inl gb1)), (q 12, .inl (cZ, 512, .inl (upd gd1 (ao + pl) (nI 1)))), (q 13, .inl (cI, 512, .inl (upd gl (ao + pl) (nI n)))), (q 14, .inl (cI, 512, .inl gc1)), (q 15, .inl (cZ, 512, .inl gp))] H := hP
      have hD : va_D A [(q 0, zm_ob q th n lc kp), (q 3, .inl (cI, 4, .inl gsb)), (q 4, .inl (cI, 4, .inl gw)), (q 5, .inl (cI, 4, .inl gk)), (q 6, .inl (cI, 4, .inl gbt)), (q 7, .inl (cI, 4, .inl gh1)), (q 8, .inl (cI, 4, .inl gm1)), (q 9, .inl (cI, 4, .inl gv1)), (q 10, .inl (cI, 4, .inl gr1)), (q 11, .inl (cI, 512, .inl gb1)), (q 12, .inl (cZ, 512, .inl (upd gd1 (ao + pl) (nI 1)))), (q 13, .inl (cI, 512, .inl (upd gl (ao + pl) (nI n)))), (q 14, .inl (cI, 512, .inl gc1)), (q 15, .inl (cZ, 512, .inl gp))] := hD
      exact hc238 (upd gd1 (ao + pl) (nI 1))  (by first | exact ⟨fun j hj => by rw [pk_un hj]; exact hd1.1 j hj, by rw [pk_us, if_pos c229, ← hd1.2]; exact c225.symm⟩ | exact ⟨fun j hj => by rw [pk_un hj]; exact hd1.1 j hj, by rw [pk_us, if_neg c229]; rfl⟩ | exact ⟨fun j hj => by rw [pk_un hj]; exact hd1.1 j hj, by
        rw [pk_us]
        by_cases z : wr = 0
        · rw [if_pos z, ← hd1.2]
          exact (hb1d.resolve_left c225).symm
        · rw [if_neg z]; rfl⟩) _ _ hP hD hS ls (lv_sub hl [0, 1, 3, 4, 5] rfl)
    · skip
      refine lv_iload_n hx hb kd_M_see_228 rfl (lv_at hl 2 rfl) ?_
      refine lv_if_eq (tgt := 236) hx hb kd_M_see_229 (by decide) (fun c229 => ?_) (fun c229 => ?_)
      · skip
        refine lv_iconst (v := nI 0) hx hb kd_M_see_236 (by decide) ?_
        refine zz_zast hx hb hK hP hD hS 10 1 rfl rfl (k := ao + pl) (by omega) (by decide) (Or.inl rfl) kd_M_see_237 (fun H locs hP hD hS => ?_)
        have hP : va_P (dC, dI) zk_cl [(q 0, zm_ob q th n lc kp), (q 3, .inl (cI, 4, .inl gsb)), (q 4, .inl (cI, 4, .inl gw)), (q 5, .inl (cI, 4, .inl gk)), (q 6, .inl (cI, 4, .inl gbt)), (q 7, .inl (cI, 4, .inl gh1)), (q 8, .inl (cI, 4, .inl gm1)), (q 9, .inl (cI, 4, .inl gv1)), (q 10, .inl (cI, 4, .inl gr1)), (q 11, .inl (cI, 512, .inl gb1)), (q 12, .inl (cZ, 512, .inl (upd gd1 (ao + pl) (nI 0)))), (q 13, .inl (cI, 512, .inl (upd gl (ao + pl) (nI n)))), (q 14, .inl (cI, 512, .inl gc1)), (q 15, .inl (cZ, 512, .inl gp))] H := hP
        have hD : va_D A [(q 0, zm_ob q th n lc kp), (q 3, .inl (cI, 4, .inl gsb)), (q 4, .inl (cI, 4, .inl gw)), (q 5, .inl (cI, 4, .inl gk)), (q 6, .inl (cI, 4, .inl gbt)), (q 7, .inl (cI, 4, .inl gh1)), (q 8, .inl (cI, 4, .inl gm1)), (q 9, .inl (cI, 4, .inl gv1)), (q 10, .inl (cI, 4, .inl gr1)), (q 11, .inl (cI, 512, .inl gb1)), (q 12, .inl (cZ, 512, .inl (upd gd1 (ao + pl) (nI 0)))), (q 13, .inl (cI, 512, .inl (upd gl (ao + pl) (nI n)))), (q 14, .inl (cI, 512, .inl gc1)), (q 15, .inl (cZ, 512, .inl gp))] := hD
        exact hc238 (upd gd1 (ao + pl) (nI 0))  (by first | exact ⟨fun j hj => by rw [pk_un hj]; exact hd1.1 j hj, by rw [pk_us, if_pos c229, ← hd1.2]; exact c225.symm⟩ | exact ⟨fun j hj => by rw [pk_un hj]; exact hd1.1 j hj, by rw [pk_us, if_neg c229]; rfl⟩ | exact ⟨fun j hj => by rw [pk_un hj]; exact hd1.1 j hj, by
          rw [pk_us]
          by_cases z : wr = 0
          · rw [if_pos z, ← hd1.2]
            exact (hb1d.resolve_left c225).symm
          · rw [if_neg z]; rfl⟩) _ _ hP hD hS ls (lv_sub hl [0, 1, 3, 4, 5] rfl)
      · skip
        refine lv_iconst (v := nI 1) hx hb kd_M_see_232 (by decide) ?_
        refine lv_goto (tgt := 237) hx hb kd_M_see_233 (by decide) ?_
        refine zz_zast hx hb hK hP hD hS 10 1 rfl rfl (k := ao + pl) (by omega) (by decide) (Or.inr rfl) kd_M_see_237 (fun H locs hP hD hS => ?_)
        have hP : va_P (dC, dI) zk_cl [(q 0, zm_ob q th n lc kp), (q 3, .inl (cI, 4, .inl gsb)), (q 4, .inl (cI, 4, .inl gw)), (q 5, .inl (cI, 4, .inl gk)), (q 6, .inl (cI, 4, .inl gbt)), (q 7, .inl (cI, 4, .inl gh1)), (q 8, .inl (cI, 4, .inl gm1)), (q 9, .inl (cI, 4, .inl gv1)), (q 10, .inl (cI, 4, .inl gr1)), (q 11, .inl (cI, 512, .inl gb1)), (q 12, .inl (cZ, 512, .inl (upd gd1 (ao + pl) (nI 1)))), (q 13, .inl (cI, 512, .inl (upd gl (ao + pl) (nI n)))), (q 14, .inl (cI, 512, .inl gc1)), (q 15, .inl (cZ, 512, .inl gp))] H := hP
        have hD : va_D A [(q 0, zm_ob q th n lc kp), (q 3, .inl (cI, 4, .inl gsb)), (q 4, .inl (cI, 4, .inl gw)), (q 5, .inl (cI, 4, .inl gk)), (q 6, .inl (cI, 4, .inl gbt)), (q 7, .inl (cI, 4, .inl gh1)), (q 8, .inl (cI, 4, .inl gm1)), (q 9, .inl (cI, 4, .inl gv1)), (q 10, .inl (cI, 4, .inl gr1)), (q 11, .inl (cI, 512, .inl gb1)), (q 12, .inl (cZ, 512, .inl (upd gd1 (ao + pl) (nI 1)))), (q 13, .inl (cI, 512, .inl (upd gl (ao + pl) (nI n)))), (q 14, .inl (cI, 512, .inl gc1)), (q 15, .inl (cZ, 512, .inl gp))] := hD
        exact hc238 (upd gd1 (ao + pl) (nI 1))  (by first | exact ⟨fun j hj => by rw [pk_un hj]; exact hd1.1 j hj, by rw [pk_us, if_pos c229, ← hd1.2]; exact c225.symm⟩ | exact ⟨fun j hj => by rw [pk_un hj]; exact hd1.1 j hj, by rw [pk_us, if_neg c229]; rfl⟩ | exact ⟨fun j hj => by rw [pk_un hj]; exact hd1.1 j hj, by
          rw [pk_us]
          by_cases z : wr = 0
          · rw [if_pos z, ← hd1.2]
            exact (hb1d.resolve_left c225).symm
          · rw [if_neg z]; rfl⟩) _ _ hP hD hS ls (lv_sub hl [0, 1, 3, 4, 5] rfl)
  refine lv_iload hx hb kd_M_see_45 (lv_at hl 0 rfl) ?_
  refine lv_if_lt (tgt := 54) hx hb kd_M_see_47 (by decide) (fun c47 => ?_) (fun c47 => ?_)
  · skip
    have hm1 := zf_FP_neg (by omega) fp40 c47
    refine lv_iconst (v := nI 0) hx hb kd_M_see_54 (by decide) ?_
    refine lv_istore (lv' := [(7, .int (nI 0)), (6, .int r0), (5, .int (nI ao)), (4, .int (nI b)), (0, .ref (q 0)), (1, .int (nI ca)), (2, .int (nI ad)), (3, .int wr)]) hx hb kd_M_see_55 hl (by decide) rfl (fun ls hl => ?_)
    refine lv_iload hx hb kd_M_see_57 (lv_at hl 0 rfl) ?_
    refine zz_if_eq (tgt := 75) hx hb kd_M_see_59 (by decide) (by decide) (fun _ => ?_) (fun c9 => absurd c9 (by decide))
    refine lv_aload_n hx hb kd_M_see_75 rfl (lv_at hl 4 rfl) ?_
    refine va_get (D := (dC, dI)) (ci := 3) (v := .ref (q 8)) (C := zk_RM) (T := zk_TM) (N := 22) hx hb hts kl_M hown hK hP 11 rfl rfl 9 (by decide) (hts _ kj_355) (fun _ h9 => h9) rfl kd_M_see_76 ?_
    refine lv_iload_n hx hb kd_M_see_79 rfl (lv_at hl 5 rfl) ?_
    refine lv_dup2_11 hx hb kd_M_see_80 rfl rfl ?_
    refine zz_iald hx hb hK hP 4 0 rfl rfl (k := ca) (by omega) (by decide) kd_M_see_81 ?_
    refine lv_iconst (v := nI 1) hx hb kd_M_see_82 (by decide) ?_
    refine lv_iadd hx hb kd_M_see_83 ?_
    refine zz_iast hx hb hK hP hD hS 4 0 rfl rfl (k := ca) (by omega) (by decide) kd_M_see_84 (fun H locs hP hD hS => ?_)
    have hP : va_P (dC, dI) zk_cl [(q 3, .inl (cI, 4, .inl gsb)), (q 5, .inl (cI, 4, .inl gk)), (q 6, .inl (cI, 4, .inl gbt)), (q 7, .inl (cI, 4, .inl gh)), (q 8, .inl (cI, 4, .inl (upd gm ca ((gm ca) + (nI 1))))), (q 9, .inl (cI, 4, .inl gv)), (q 10, .inl (cI, 4, .inl gr)), (q 12, .inl (cZ, 512, .inl gd)), (q 13, .inl (cI, 512, .inl gl)), (q 14, .inl (cI, 512, .inl gc)), (q 15, .inl (cZ, 512, .inl gp)), (q 0, zm_ob q th n lc kp), (q 4, .inl (cI, 4, .inl gw)), (q 11, .inl (cI, 512, .inl gb))] H := hP
    have hD : va_D A [(q 3, .inl (cI, 4, .inl gsb)), (q 5, .inl (cI, 4, .inl gk)), (q 6, .inl (cI, 4, .inl gbt)), (q 7, .inl (cI, 4, .inl gh)), (q 8, .inl (cI, 4, .inl (upd gm ca ((gm ca) + (nI 1))))), (q 9, .inl (cI, 4, .inl gv)), (q 10, .inl (cI, 4, .inl gr)), (q 12, .inl (cZ, 512, .inl gd)), (q 13, .inl (cI, 512, .inl gl)), (q 14, .inl (cI, 512, .inl gc)), (q 15, .inl (cZ, 512, .inl gp)), (q 0, zm_ob q th n lc kp), (q 4, .inl (cI, 4, .inl gw)), (q 11, .inl (cI, 512, .inl gb))] := hD
    refine lv_aload_n hx hb kd_M_see_85 rfl (lv_at hl 4 rfl) ?_
    refine lv_iload_n hx hb kd_M_see_86 rfl (lv_at hl 5 rfl) ?_
    refine lv_iload hx hb kd_M_see_87 (lv_at hl 2 rfl) ?_
    refine lv_iconst (v := (-1)) hx hb kd_M_see_89 (by decide) ?_
    refine zz_iV (As := [.int (nI ca), .int (nI ao), .int (-1)]) (rest := []) (wc := [(q 0, zm_ob q th n lc kp), (q 4, .inl (cI, 4, .inl gw)), (q 11, .inl (cI, 512, .inl gb))]) (wr := [(q 3, .inl (cI, 4, .inl gsb)), (q 5, .inl (cI, 4, .inl gk)), (q 6, .inl (cI, 4, .inl gbt)), (q 7, .inl (cI, 4, .inl gh)), (q 8, .inl (cI, 4, .inl (upd gm ca ((gm ca) + (nI 1))))), (q 9, .inl (cI, 4, .inl gv)), (q 10, .inl (cI, 4, .inl gr)), (q 12, .inl (cZ, 512, .inl gd)), (q 13, .inl (cI, 512, .inl gl)), (q 14, .inl (cI, 512, .inl gc)), (q 15, .inl (cZ, 512, .inl gp))]) ⟨hx, hb, hml, hown, hts⟩ (cm_placeOf l dC dI cI cZ cO cL q th n lc kp gw gb ca ao wy (-1) (by omega) (hw) (by omega) (by omega)) (zz_cwV hts kj_416 kj_27 kj_414 kj_415 kj_16 kz_M_placeOf rfl rfl ⟨Nat.le_of_ble_eq_true rfl, Nat.le_of_ble_eq_true rfl⟩) hP hD hK hS hA (q0 := 0) rfl rfl rfl rfl hl.1 rfl (Nat.le_of_ble_eq_true rfl) kd_M_see_90 ⟨by decide, by decide⟩ (fun r9 w9 H locs hw hP hD hS => ?_)
    generalize r9 = r1 at hw ⊢
    obtain ⟨rfl, fp90⟩ := hw
    have hP : va_P (dC, dI) zk_cl [(q 3, .inl (cI, 4, .inl gsb)), (q 5, .inl (cI, 4, .inl gk)), (q 6, .inl (cI, 4, .inl gbt)), (q 7, .inl (cI, 4, .inl gh)), (q 8, .inl (cI, 4, .inl (upd gm ca ((gm ca) + (nI 1))))), (q 9, .inl (cI, 4, .inl gv)), (q 10, .inl (cI, 4, .inl gr)), (q 12, .inl (cZ, 512, .inl gd)), (q 13, .inl (cI, 512, .inl gl)), (q 14, .inl (cI, 512, .inl gc)), (q 15, .inl (cZ, 512, .inl gp)), (q 0, zm_ob q th n lc kp), (q 4, .inl (cI, 4, .inl gw)), (q 11, .inl (cI, 512, .inl gb))] H := hP
    have hD : va_D A [(q 3, .inl (cI, 4, .inl gsb)), (q 5, .inl (cI, 4, .inl gk)), (q 6, .inl (cI, 4, .inl gbt)), (q 7, .inl (cI, 4, .inl gh)), (q 8, .inl (cI, 4, .inl (upd gm ca ((gm ca) + (nI 1))))), (q 9, .inl (cI, 4, .inl gv)), (q 10, .inl (cI, 4, .inl gr)), (q 12, .inl (cZ, 512, .inl gd)), (q 13, .inl (cI, 512, .inl gl)), (q 14, .inl (cI, 512, .inl gc)), (q 15, .inl (cZ, 512, .inl gp)), (q 0, zm_ob q th n lc kp), (q 4, .inl (cI, 4, .inl gw)), (q 11, .inl (cI, 512, .inl gb))] := hD
    refine lv_istore (lv' := [(6, .int r1), (7, .int (nI 0)), (5, .int (nI ao)), (4, .int (nI b)), (0, .ref (q 0)), (1, .int (nI ca)), (2, .int (nI ad)), (3, .int wr)]) hx hb kd_M_see_93 hl (by decide) rfl (fun ls hl => ?_)
    have hc155 : ∀ (pl : Nat) (gv1 : Nat → Int32) (gr1 : Nat → Int32), (pl < wy) → (zc_bi wy kd (fun k => gb (ao + k)) (zm_gs kd ao gl gc) (fun k => gd (ao + k)) (zm_tb gp ao) pl (gv ca) (gr ca) (gv1 ca) (gr1 ca)) → (∀ j, j ≠ ca → gv1 j = gv j ∧ gr1 j = gr j) → ∀ (H : Heap) (locs : List Loc), va_P (dC, dI) zk_cl [(q 0, zm_ob q th n lc kp), (q 3, .inl (cI, 4, .inl gsb)), (q 4, .inl (cI, 4, .inl gw)), (q 5, .inl (cI, 4, .inl gk)), (q 6, .inl (cI, 4, .inl gbt)), (q 7, .inl (cI, 4, .inl gh)), (q 8, .inl (cI, 4, .inl (upd gm ca (gm ca + nI 1)))), (q 9, .inl (cI, 4, .inl gv1)), (q 10, .inl (cI, 4, .inl gr1)), (q 11, .inl (cI, 512, .inl gb)), (q 12, .inl (cZ, 512, .inl gd)), (q 13, .inl (cI, 512, .inl gl)), (q 14, .inl (cI, 512, .inl gc)), (q 15, .inl (cZ, 512, .inl gp))] H → va_D A [(q 0, zm_ob q th n lc kp), (q 3, .inl (cI, 4, .inl gsb)), (q 4, .inl (cI, 4, .inl gw)), (q 5, .inl (cI, 4, .inl gk)), (q 6, .inl (cI, 4, .inl gbt)), (q 7, .inl (cI, 4, .inl gh)), (q 8, .inl (cI, 4, .inl (upd gm ca (gm ca + nI 1)))), (q 9, .inl (cI, 4, .inl gv1)), (q 10, .inl (cI, 4, .inl gr1)), (q 11, .inl (cI, 512, .inl gb)), (q 12, .inl (cZ, 512, .inl gd)), (q 13, .inl (cI, 512, .inl gl)), (q 14, .inl (cI, 512, .inl gc)), (q 15, .inl (cZ, 512, .inl gp))] → va_S A s.heap H locs → ∀ ls : Array Slot, lv_has ls 8 [(0, .ref (q 0)), (1, .int (nI ca)), (3, .int wr), (4, .int (nI b)), (5, .int (nI ao)), (6, .int (nI pl)), (7, .int (nI 0))] → W p l e rm_cm_see s m args below meth c H locs 0 0 Q (F0 m 155 ls []) := by
      intro pl gv1 gr1 hpl hbi hoth H locs hP hD hS ls hl
      refine lv_aload_n hx hb kd_M_see_155 rfl (lv_at hl 0 rfl) ?_
      refine va_get (D := (dC, dI)) (ci := 3) (v := .ref (q 11)) (C := zk_RM) (T := zk_TM) (N := 22) hx hb hts kl_M hown hK hP 0 rfl rfl 12 (by decide) (hts _ kj_358) (fun _ h9 => h9) rfl kd_M_see_156 ?_
      refine lv_iload hx hb kd_M_see_159 (lv_at hl 4 rfl) ?_
      refine lv_iload hx hb kd_M_see_161 (lv_at hl 5 rfl) ?_
      refine lv_iadd hx hb kd_M_see_163 ?_
      refine zz_top (y := nI (ao + pl)) (nI_add _ _) ?_
      refine lv_iload hx hb kd_M_see_164 (lv_at hl 3 rfl) ?_
      refine zz_iast hx hb hK hP hD hS 9 0 rfl rfl (k := ao + pl) (by omega) (by decide) kd_M_see_166 (fun H locs hP hD hS => ?_)
      have hP : va_P (dC, dI) zk_cl [(q 0, zm_ob q th n lc kp), (q 3, .inl (cI, 4, .inl gsb)), (q 4, .inl (cI, 4, .inl gw)), (q 5, .inl (cI, 4, .inl gk)), (q 6, .inl (cI, 4, .inl gbt)), (q 7, .inl (cI, 4, .inl gh)), (q 8, .inl (cI, 4, .inl (upd gm ca (gm ca + nI 1)))), (q 9, .inl (cI, 4, .inl gv1)), (q 10, .inl (cI, 4, .inl gr1)), (q 11, .inl (cI, 512, .inl (upd gb (ao + pl) (nI b)))), (q 12, .inl (cZ, 512, .inl gd)), (q 13, .inl (cI, 512, .inl gl)), (q 14, .inl (cI, 512, .inl gc)), (q 15, .inl (cZ, 512, .inl gp))] H := hP
      have hD : va_D A [(q 0, zm_ob q th n lc kp), (q 3, .inl (cI, 4, .inl gsb)), (q 4, .inl (cI, 4, .inl gw)), (q 5, .inl (cI, 4, .inl gk)), (q 6, .inl (cI, 4, .inl gbt)), (q 7, .inl (cI, 4, .inl gh)), (q 8, .inl (cI, 4, .inl (upd gm ca (gm ca + nI 1)))), (q 9, .inl (cI, 4, .inl gv1)), (q 10, .inl (cI, 4, .inl gr1)), (q 11, .inl (cI, 512, .inl (upd gb (ao + pl) (nI b)))), (q 12, .inl (cZ, 512, .inl gd)), (q 13, .inl (cI, 512, .inl gl)), (q 14, .inl (cI, 512, .inl gc)), (q 15, .inl (cZ, 512, .inl gp))] := hD
      refine lv_aload_n hx hb kd_M_see_167 rfl (lv_at hl 0 rfl) ?_
      refine va_get (D := (dC, dI)) (ci := 3) (v := .ref (q 12)) (C := zk_RM) (T := zk_TM) (N := 22) hx hb hts kl_M hown hK hP 0 rfl rfl 13 (by decide) (hts _ kj_359) (fun _ h9 => h9) rfl kd_M_see_168 ?_
      refine lv_iload hx hb kd_M_see_171 (lv_at hl 4 rfl) ?_
      refine lv_iload hx hb kd_M_see_173 (lv_at hl 5 rfl) ?_
      refine lv_iadd hx hb kd_M_see_175 ?_
      refine zz_top (y := nI (ao + pl)) (nI_add _ _) ?_
      refine lv_iconst (v := nI 0) hx hb kd_M_see_176 (by decide) ?_
      refine zz_zast hx hb hK hP hD hS 10 1 rfl rfl (k := ao + pl) (by omega) (by decide) (Or.inl rfl) kd_M_see_177 (fun H locs hP hD hS => ?_)
      have hP : va_P (dC, dI) zk_cl [(q 0, zm_ob q th n lc kp), (q 3, .inl (cI, 4, .inl gsb)), (q 4, .inl (cI, 4, .inl gw)), (q 5, .inl (cI, 4, .inl gk)), (q 6, .inl (cI, 4, .inl gbt)), (q 7, .inl (cI, 4, .inl gh)), (q 8, .inl (cI, 4, .inl (upd gm ca (gm ca + nI 1)))), (q 9, .inl (cI, 4, .inl gv1)), (q 10, .inl (cI, 4, .inl gr1)), (q 11, .inl (cI, 512, .inl (upd gb (ao + pl) (nI b)))), (q 12, .inl (cZ, 512, .inl (upd gd (ao + pl) (nI 0)))), (q 13, .inl (cI, 512, .inl gl)), (q 14, .inl (cI, 512, .inl gc)), (q 15, .inl (cZ, 512, .inl gp))] H := hP
      have hD : va_D A [(q 0, zm_ob q th n lc kp), (q 3, .inl (cI, 4, .inl gsb)), (q 4, .inl (cI, 4, .inl gw)), (q 5, .inl (cI, 4, .inl gk)), (q 6, .inl (cI, 4, .inl gbt)), (q 7, .inl (cI, 4, .inl gh)), (q 8, .inl (cI, 4, .inl (upd gm ca (gm ca + nI 1)))), (q 9, .inl (cI, 4, .inl gv1)), (q 10, .inl (cI, 4, .inl gr1)), (q 11, .inl (cI, 512, .inl (upd gb (ao + pl) (nI b)))), (q 12, .inl (cZ, 512, .inl (upd gd (ao + pl) (nI 0)))), (q 13, .inl (cI, 512, .inl gl)), (q 14, .inl (cI, 512, .inl gc)), (q 15, .inl (cZ, 512, .inl gp))] := hD
      refine lv_aload_n hx hb kd_M_see_178 rfl (lv_at hl 0 rfl) ?_
      refine va_get (D := (dC, dI)) (ci := 3) (v := .ref (q 14)) (C := zk_RM) (T := zk_TM) (N := 22) hx hb hts kl_M hown hK hP 0 rfl rfl 15 (by decide) (hts _ kj_361) (fun _ h9 => h9) rfl kd_M_see_179 ?_
      refine lv_iload hx hb kd_M_see_182 (lv_at hl 4 rfl) ?_
      refine lv_iload hx hb kd_M_see_184 (lv_at hl 5 rfl) ?_
      refine lv_iadd hx hb kd_M_see_186 ?_
      refine zz_top (y := nI (ao + pl)) (nI_add _ _) ?_
      refine lv_aload_n hx hb kd_M_see_187 rfl (lv_at hl 0 rfl) ?_
      refine va_get (D := (dC, dI)) (ci := 3) (v := .int (nI n)) (C := zk_RM) (T := zk_TM) (N := 22) hx hb hts kl_M hown hK hP 0 rfl rfl 1 (by decide) (hts _ kj_347) (fun _ h9 => h9) rfl kd_M_see_188 ?_
      refine zz_iast hx hb hK hP hD hS 12 0 rfl rfl (k := ao + pl) (by omega) (by decide) kd_M_see_191 (fun H locs hP hD hS => ?_)
      have hP : va_P (dC, dI) zk_cl [(q 0, zm_ob q th n lc kp), (q 3, .inl (cI, 4, .inl gsb)), (q 4, .inl (cI, 4, .inl gw)), (q 5, .inl (cI, 4, .inl gk)), (q 6, .inl (cI, 4, .inl gbt)), (q 7, .inl (cI, 4, .inl gh)), (q 8, .inl (cI, 4, .inl (upd gm ca (gm ca + nI 1)))), (q 9, .inl (cI, 4, .inl gv1)), (q 10, .inl (cI, 4, .inl gr1)), (q 11, .inl (cI, 512, .inl (upd gb (ao + pl) (nI b)))), (q 12, .inl (cZ, 512, .inl (upd gd (ao + pl) (nI 0)))), (q 13, .inl (cI, 512, .inl gl)), (q 14, .inl (cI, 512, .inl (upd gc (ao + pl) (nI n)))), (q 15, .inl (cZ, 512, .inl gp))] H := hP
      have hD : va_D A [(q 0, zm_ob q th n lc kp), (q 3, .inl (cI, 4, .inl gsb)), (q 4, .inl (cI, 4, .inl gw)), (q 5, .inl (cI, 4, .inl gk)), (q 6, .inl (cI, 4, .inl gbt)), (q 7, .inl (cI, 4, .inl gh)), (q 8, .inl (cI, 4, .inl (upd gm ca (gm ca + nI 1)))), (q 9, .inl (cI, 4, .inl gv1)), (q 10, .inl (cI, 4, .inl gr1)), (q 11, .inl (cI, 512, .inl (upd gb (ao + pl) (nI b)))), (q 12, .inl (cZ, 512, .inl (upd gd (ao + pl) (nI 0)))), (q 13, .inl (cI, 512, .inl gl)), (q 14, .inl (cI, 512, .inl (upd gc (ao + pl) (nI n)))), (q 15, .inl (cZ, 512, .inl gp))] := hD
      exact hc192 0 pl gh (upd gm ca (gm ca + nI 1)) gv1 gr1 (upd gb (ao + pl) (nI b)) (upd gd (ao + pl) (nI 0)) (upd gc (ao + pl) (nI n))  (by first | exact hpl0 | exact hpl) (by first | exact Or.inl ⟨rfl, fp40, rfl, rfl, rfl, rfl, rfl, rfl⟩ | exact Or.inr ⟨rfl, hm1 ▸ fp40, hbi, hoth, rfl, rfl, rfl, rfl⟩) (by first | exact ⟨fun _ _ => rfl, by rw [if_pos rfl]⟩ | exact ⟨fun j hj => pk_un hj, by rw [pk_us, if_neg (by decide)]; rfl⟩) _ _ hP hD hS ls (lv_sub hl [0, 1, 2, 4, 5, 6] rfl)
    refine lv_iload hx hb kd_M_see_95 (lv_at hl 0 rfl) ?_
    refine lv_if_ge (tgt := 155) hx hb kd_M_see_97 (by decide) (fun c97 => ?_) (fun c97 => ?_)
    · skip
      obtain ⟨ple, hple, rfl⟩ := zf_FP_pos fp90 (fun z => absurd c97 (by rw [zf_ile]; rw [zf_ilt] at z; omega))
      exact hc155 ple gv gr  (by first | exact hple | exact hplv) (by first | exact ⟨hple, Or.inl ⟨fp90, rfl, rfl⟩⟩ | exact ⟨hplv, Or.inr ⟨hm2 ▸ fp90, hv104, pk_us, Or.inl ⟨c134, pk_us⟩⟩⟩ | exact ⟨hplv, Or.inr ⟨hm2 ▸ fp90, hv104, pk_us, Or.inr ⟨c134, pk_us⟩⟩⟩) (by first | exact fun _ _ => ⟨rfl, rfl⟩ | exact fun j hj => ⟨pk_un hj, pk_un hj⟩) _ _ (hP.sub [11, 0, 12, 1, 2, 3, 4, 5, 6, 13, 7, 8, 9, 10] rfl) (hD.sub [11, 0, 12, 1, 2, 3, 4, 5, 6, 13, 7, 8, 9, 10] (by decide) rfl) hS ls (lv_sub hl [4, 5, 7, 3, 2, 0, 1] rfl)
    · skip
      have hm2 := zf_FP_neg (by omega) fp90 (zu_nle c97)
      refine lv_aload_n hx hb kd_M_see_100 rfl (lv_at hl 4 rfl) ?_
      refine lv_iload_n hx hb kd_M_see_101 rfl (lv_at hl 5 rfl) ?_
      refine lv_iload hx hb kd_M_see_102 (lv_at hl 2 rfl) ?_
      refine zz_iV (As := [.int (nI ca), .int (nI ao)]) (rest := []) (wc := [(q 0, zm_ob q th n lc kp), (q 4, .inl (cI, 4, .inl gw)), (q 5, .inl (cI, 4, .inl gk)), (q 13, .inl (cI, 512, .inl gl)), (q 14, .inl (cI, 512, .inl gc)), (q 15, .inl (cZ, 512, .inl gp))]) (wr := [(q 3, .inl (cI, 4, .inl gsb)), (q 6, .inl (cI, 4, .inl gbt)), (q 7, .inl (cI, 4, .inl gh)), (q 8, .inl (cI, 4, .inl (upd gm ca ((gm ca) + (nI 1))))), (q 9, .inl (cI, 4, .inl gv)), (q 10, .inl (cI, 4, .inl gr)), (q 12, .inl (cZ, 512, .inl gd)), (q 11, .inl (cI, 512, .inl gb))]) ⟨hx, hb, hml, hown, hts⟩ (cm_victimOf l dC dI cI cZ cO cL q th n lc kp gw gk gl gc gp ca ao wy kd (by omega) (hw) (hwy) (hkd) (hk3) (by omega)) (zz_cwV hts kj_419 kj_27 kj_417 kj_418 kj_17 kz_M_victimOf rfl rfl ⟨Nat.le_of_ble_eq_true rfl, Nat.le_of_ble_eq_true rfl⟩) (hP.sub [0, 2, 3, 4, 5, 6, 7, 13, 11, 12, 1, 8, 9, 10] rfl) (hD.sub [0, 2, 3, 4, 5, 6, 7, 13, 11, 12, 1, 8, 9, 10] (by decide) rfl) hK hS hA (q0 := 0) rfl rfl rfl rfl hl.1 rfl (Nat.le_of_ble_eq_true rfl) kd_M_see_104 ⟨by decide, by decide⟩ (fun r9 w9 H locs hw hP hD hS => ?_)
      obtain ⟨o1, rfl, rfl, hv104⟩ := hw
      have hP : va_P (dC, dI) zk_cl [(q 3, .inl (cI, 4, .inl gsb)), (q 6, .inl (cI, 4, .inl gbt)), (q 7, .inl (cI, 4, .inl gh)), (q 8, .inl (cI, 4, .inl (upd gm ca ((gm ca) + (nI 1))))), (q 9, .inl (cI, 4, .inl gv)), (q 10, .inl (cI, 4, .inl gr)), (q 12, .inl (cZ, 512, .inl gd)), (q 11, .inl (cI, 512, .inl gb)), (q 0, zm_ob q th n lc kp), (q 4, .inl (cI, 4, .inl gw)), (q 5, .inl (cI, 4, .inl gk)), (q 13, .inl (cI, 512, .inl gl)), (q 14, .inl (cI, 512, .inl gc)), (q 15, .inl (cZ, 512, .inl gp))] H := hP
      have hD : va_D A [(q 3, .inl (cI, 4, .inl gsb)), (q 6, .inl (cI, 4, .inl gbt)), (q 7, .inl (cI, 4, .inl gh)), (q 8, .inl (cI, 4, .inl (upd gm ca ((gm ca) + (nI 1))))), (q 9, .inl (cI, 4, .inl gv)), (q 10, .inl (cI, 4, .inl gr)), (q 12, .inl (cZ, 512, .inl gd)), (q 11, .inl (cI, 512, .inl gb)), (q 0, zm_ob q th n lc kp), (q 4, .inl (cI, 4, .inl gw)), (q 5, .inl (cI, 4, .inl gk)), (q 13, .inl (cI, 512, .inl gl)), (q 14, .inl (cI, 512, .inl gc)), (q 15, .inl (cZ, 512, .inl gp))] := hD
      have hplv : o1 < wy := by
        rcases hv104 with ⟨z, e⟩ | ⟨_, e⟩
        · rw [e]; exact zt_pt_lt (hk2 z)
        · exact e.1
      refine lv_istore (lv' := [(6, .int (nI o1)), (7, .int (nI 0)), (5, .int (nI ao)), (4, .int (nI b)), (0, .ref (q 0)), (1, .int (nI ca)), (2, .int (nI ad)), (3, .int wr)]) hx hb kd_M_see_107 hl (by decide) rfl (fun ls hl => ?_)
      refine lv_aload_n hx hb kd_M_see_109 rfl (lv_at hl 4 rfl) ?_
      refine va_get (D := (dC, dI)) (ci := 3) (v := .ref (q 9)) (C := zk_RM) (T := zk_TM) (N := 22) hx hb hts kl_M hown hK hP 8 rfl rfl 10 (by decide) (hts _ kj_356) (fun _ h9 => h9) rfl kd_M_see_110 ?_
      refine lv_iload_n hx hb kd_M_see_113 rfl (lv_at hl 5 rfl) ?_
      refine lv_dup2_11 hx hb kd_M_see_114 rfl rfl ?_
      refine zz_iald hx hb hK hP 4 0 rfl rfl (k := ca) (by omega) (by decide) kd_M_see_115 ?_
      refine lv_iconst (v := nI 1) hx hb kd_M_see_116 (by decide) ?_
      refine lv_iadd hx hb kd_M_see_117 ?_
      refine zz_iast hx hb hK hP hD hS 4 0 rfl rfl (k := ca) (by omega) (by decide) kd_M_see_118 (fun H locs hP hD hS => ?_)
      have hP : va_P (dC, dI) zk_cl [(q 3, .inl (cI, 4, .inl gsb)), (q 6, .inl (cI, 4, .inl gbt)), (q 7, .inl (cI, 4, .inl gh)), (q 8, .inl (cI, 4, .inl (upd gm ca ((gm ca) + (nI 1))))), (q 9, .inl (cI, 4, .inl (upd gv ca ((gv ca) + (nI 1))))), (q 10, .inl (cI, 4, .inl gr)), (q 12, .inl (cZ, 512, .inl gd)), (q 11, .inl (cI, 512, .inl gb)), (q 0, zm_ob q th n lc kp), (q 4, .inl (cI, 4, .inl gw)), (q 5, .inl (cI, 4, .inl gk)), (q 13, .inl (cI, 512, .inl gl)), (q 14, .inl (cI, 512, .inl gc)), (q 15, .inl (cZ, 512, .inl gp))] H := hP
      have hD : va_D A [(q 3, .inl (cI, 4, .inl gsb)), (q 6, .inl (cI, 4, .inl gbt)), (q 7, .inl (cI, 4, .inl gh)), (q 8, .inl (cI, 4, .inl (upd gm ca ((gm ca) + (nI 1))))), (q 9, .inl (cI, 4, .inl (upd gv ca ((gv ca) + (nI 1))))), (q 10, .inl (cI, 4, .inl gr)), (q 12, .inl (cZ, 512, .inl gd)), (q 11, .inl (cI, 512, .inl gb)), (q 0, zm_ob q th n lc kp), (q 4, .inl (cI, 4, .inl gw)), (q 5, .inl (cI, 4, .inl gk)), (q 13, .inl (cI, 512, .inl gl)), (q 14, .inl (cI, 512, .inl gc)), (q 15, .inl (cZ, 512, .inl gp))] := hD
      refine lv_aload_n hx hb kd_M_see_119 rfl (lv_at hl 4 rfl) ?_
      refine va_get (D := (dC, dI)) (ci := 3) (v := .ref (q 10)) (C := zk_RM) (T := zk_TM) (N := 22) hx hb hts kl_M hown hK hP 8 rfl rfl 11 (by decide) (hts _ kj_357) (fun _ h9 => h9) rfl kd_M_see_120 ?_
      refine lv_iload_n hx hb kd_M_see_123 rfl (lv_at hl 5 rfl) ?_
      refine lv_aload_n hx hb kd_M_see_124 rfl (lv_at hl 4 rfl) ?_
      refine va_get (D := (dC, dI)) (ci := 3) (v := .ref (q 12)) (C := zk_RM) (T := zk_TM) (N := 22) hx hb hts kl_M hown hK hP 8 rfl rfl 13 (by decide) (hts _ kj_359) (fun _ h9 => h9) rfl kd_M_see_125 ?_
      refine lv_iload hx hb kd_M_see_128 (lv_at hl 2 rfl) ?_
      refine lv_iload hx hb kd_M_see_130 (lv_at hl 0 rfl) ?_
      refine lv_iadd hx hb kd_M_see_132 ?_
      refine zz_top (y := nI (ao + o1)) (nI_add _ _) ?_
      refine zz_zald hx hb hK hP 6 1 rfl rfl (k := ao + o1) (by omega) (by decide) kd_M_see_133 ?_
      refine lv_if_eq (tgt := 148) hx hb kd_M_see_134 (by decide) (fun c134 => ?_) (fun c134 => ?_)
      · skip
        refine lv_aload_n hx hb kd_M_see_148 rfl (lv_at hl 4 rfl) ?_
        refine va_get (D := (dC, dI)) (ci := 3) (v := .ref (q 10)) (C := zk_RM) (T := zk_TM) (N := 22) hx hb hts kl_M hown hK hP 8 rfl rfl 11 (by decide) (hts _ kj_357) (fun _ h9 => h9) rfl kd_M_see_149 ?_
        refine lv_iload_n hx hb kd_M_see_152 rfl (lv_at hl 5 rfl) ?_
        refine zz_iald hx hb hK hP 5 0 rfl rfl (k := ca) (by omega) (by decide) kd_M_see_153 ?_
        refine zz_iast hx hb hK hP hD hS 5 0 rfl rfl (k := ca) (by omega) (by decide) kd_M_see_154 (fun H locs hP hD hS => ?_)
        have hP : va_P (dC, dI) zk_cl [(q 3, .inl (cI, 4, .inl gsb)), (q 6, .inl (cI, 4, .inl gbt)), (q 7, .inl (cI, 4, .inl gh)), (q 8, .inl (cI, 4, .inl (upd gm ca ((gm ca) + (nI 1))))), (q 9, .inl (cI, 4, .inl (upd gv ca ((gv ca) + (nI 1))))), (q 10, .inl (cI, 4, .inl (upd gr ca (gr ca)))), (q 12, .inl (cZ, 512, .inl gd)), (q 11, .inl (cI, 512, .inl gb)), (q 0, zm_ob q th n lc kp), (q 4, .inl (cI, 4, .inl gw)), (q 5, .inl (cI, 4, .inl gk)), (q 13, .inl (cI, 512, .inl gl)), (q 14, .inl (cI, 512, .inl gc)), (q 15, .inl (cZ, 512, .inl gp))] H := hP
        have hD : va_D A [(q 3, .inl (cI, 4, .inl gsb)), (q 6, .inl (cI, 4, .inl gbt)), (q 7, .inl (cI, 4, .inl gh)), (q 8, .inl (cI, 4, .inl (upd gm ca ((gm ca) + (nI 1))))), (q 9, .inl (cI, 4, .inl (upd gv ca ((gv ca) + (nI 1))))), (q 10, .inl (cI, 4, .inl (upd gr ca (gr ca)))), (q 12, .inl (cZ, 512, .inl gd)), (q 11, .inl (cI, 512, .inl gb)), (q 0, zm_ob q th n lc kp), (q 4, .inl (cI, 4, .inl gw)), (q 5, .inl (cI, 4, .inl gk)), (q 13, .inl (cI, 512, .inl gl)), (q 14, .inl (cI, 512, .inl gc)), (q 15, .inl (cZ, 512, .inl gp))] := hD
        exact hc155 o1 (upd gv ca ((gv ca) + (nI 1))) (upd gr ca (gr ca))  (by first | exact hple | exact hplv) (by first | exact ⟨hple, Or.inl ⟨fp90, rfl, rfl⟩⟩ | exact ⟨hplv, Or.inr ⟨hm2 ▸ fp90, hv104, pk_us, Or.inl ⟨c134, pk_us⟩⟩⟩ | exact ⟨hplv, Or.inr ⟨hm2 ▸ fp90, hv104, pk_us, Or.inr ⟨c134, pk_us⟩⟩⟩) (by first | exact fun _ _ => ⟨rfl, rfl⟩ | exact fun j hj => ⟨pk_un hj, pk_un hj⟩) _ _ (hP.sub [8, 0, 9, 10, 1, 2, 3, 4, 5, 7, 6, 11, 12, 13] rfl) (hD.sub [8, 0, 9, 10, 1, 2, 3, 4, 5, 7, 6, 11, 12, 13] (by decide) rfl) hS ls (lv_sub hl [4, 5, 7, 3, 2, 0, 1] rfl)
      · skip
        refine lv_aload_n hx hb kd_M_see_137 rfl (lv_at hl 4 rfl) ?_
        refine va_get (D := (dC, dI)) (ci := 3) (v := .ref (q 10)) (C := zk_RM) (T := zk_TM) (N := 22) hx hb hts kl_M hown hK hP 8 rfl rfl 11 (by decide) (hts _ kj_357) (fun _ h9 => h9) rfl kd_M_see_138 ?_
        refine lv_iload_n hx hb kd_M_see_141 rfl (lv_at hl 5 rfl) ?_
        refine zz_iald hx hb hK hP 5 0 rfl rfl (k := ca) (by omega) (by decide) kd_M_see_142 ?_
        refine lv_iconst (v := nI 1) hx hb kd_M_see_143 (by decide) ?_
        refine lv_iadd hx hb kd_M_see_144 ?_
        refine lv_goto (tgt := 154) hx hb kd_M_see_145 (by decide) ?_
        refine zz_iast hx hb hK hP hD hS 5 0 rfl rfl (k := ca) (by omega) (by decide) kd_M_see_154 (fun H locs hP hD hS => ?_)
        have hP : va_P (dC, dI) zk_cl [(q 3, .inl (cI, 4, .inl gsb)), (q 6, .inl (cI, 4, .inl gbt)), (q 7, .inl (cI, 4, .inl gh)), (q 8, .inl (cI, 4, .inl (upd gm ca ((gm ca) + (nI 1))))), (q 9, .inl (cI, 4, .inl (upd gv ca ((gv ca) + (nI 1))))), (q 10, .inl (cI, 4, .inl (upd gr ca ((gr ca) + (nI 1))))), (q 12, .inl (cZ, 512, .inl gd)), (q 11, .inl (cI, 512, .inl gb)), (q 0, zm_ob q th n lc kp), (q 4, .inl (cI, 4, .inl gw)), (q 5, .inl (cI, 4, .inl gk)), (q 13, .inl (cI, 512, .inl gl)), (q 14, .inl (cI, 512, .inl gc)), (q 15, .inl (cZ, 512, .inl gp))] H := hP
        have hD : va_D A [(q 3, .inl (cI, 4, .inl gsb)), (q 6, .inl (cI, 4, .inl gbt)), (q 7, .inl (cI, 4, .inl gh)), (q 8, .inl (cI, 4, .inl (upd gm ca ((gm ca) + (nI 1))))), (q 9, .inl (cI, 4, .inl (upd gv ca ((gv ca) + (nI 1))))), (q 10, .inl (cI, 4, .inl (upd gr ca ((gr ca) + (nI 1))))), (q 12, .inl (cZ, 512, .inl gd)), (q 11, .inl (cI, 512, .inl gb)), (q 0, zm_ob q th n lc kp), (q 4, .inl (cI, 4, .inl gw)), (q 5, .inl (cI, 4, .inl gk)), (q 13, .inl (cI, 512, .inl gl)), (q 14, .inl (cI, 512, .inl gc)), (q 15, .inl (cZ, 512, .inl gp))] := hD
        exact hc155 o1 (upd gv ca ((gv ca) + (nI 1))) (upd gr ca ((gr ca) + (nI 1)))  (by first | exact hple | exact hplv) (by first | exact ⟨hple, Or.inl ⟨fp90, rfl, rfl⟩⟩ | exact ⟨hplv, Or.inr ⟨hm2 ▸ fp90, hv104, pk_us, Or.inl ⟨c134, pk_us⟩⟩⟩ | exact ⟨hplv, Or.inr ⟨hm2 ▸ fp90, hv104, pk_us, Or.inr ⟨c134, pk_us⟩⟩⟩) (by first | exact fun _ _ => ⟨rfl, rfl⟩ | exact fun j hj => ⟨pk_un hj, pk_un hj⟩) _ _ (hP.sub [8, 0, 9, 10, 1, 2, 3, 4, 5, 7, 6, 11, 12, 13] rfl) (hD.sub [8, 0, 9, 10, 1, 2, 3, 4, 5, 7, 6, 11, 12, 13] (by decide) rfl) hS ls (lv_sub hl [4, 5, 7, 3, 2, 0, 1] rfl)
  · skip
    obtain ⟨pl0, hpl0, rfl⟩ := zf_FP_pos fp40 c47
    refine lv_iconst (v := nI 1) hx hb kd_M_see_50 (by decide) ?_
    refine lv_goto (tgt := 55) hx hb kd_M_see_51 (by decide) ?_
    refine lv_istore (lv' := [(7, .int (nI 1)), (6, .int (nI pl0)), (5, .int (nI ao)), (4, .int (nI b)), (0, .ref (q 0)), (1, .int (nI ca)), (2, .int (nI ad)), (3, .int wr)]) hx hb kd_M_see_55 hl (by decide) rfl (fun ls hl => ?_)
    refine lv_iload hx hb kd_M_see_57 (lv_at hl 0 rfl) ?_
    refine zz_if_eq (tgt := 75) hx hb kd_M_see_59 (by decide) (by decide) (fun c9 => absurd c9 (by decide)) (fun _ => ?_)
    refine lv_aload_n hx hb kd_M_see_62 rfl (lv_at hl 4 rfl) ?_
    refine va_get (D := (dC, dI)) (ci := 3) (v := .ref (q 7)) (C := zk_RM) (T := zk_TM) (N := 22) hx hb hts kl_M hown hK hP 11 rfl rfl 8 (by decide) (hts _ kj_354) (fun _ h9 => h9) rfl kd_M_see_63 ?_
    refine lv_iload_n hx hb kd_M_see_66 rfl (lv_at hl 5 rfl) ?_
    refine lv_dup2_11 hx hb kd_M_see_67 rfl rfl ?_
    refine zz_iald hx hb hK hP 3 0 rfl rfl (k := ca) (by omega) (by decide) kd_M_see_68 ?_
    refine lv_iconst (v := nI 1) hx hb kd_M_see_69 (by decide) ?_
    refine lv_iadd hx hb kd_M_see_70 ?_
    refine zz_iast hx hb hK hP hD hS 3 0 rfl rfl (k := ca) (by omega) (by decide) kd_M_see_71 (fun H locs hP hD hS => ?_)
    have hP : va_P (dC, dI) zk_cl [(q 3, .inl (cI, 4, .inl gsb)), (q 5, .inl (cI, 4, .inl gk)), (q 6, .inl (cI, 4, .inl gbt)), (q 7, .inl (cI, 4, .inl (upd gh ca ((gh ca) + (nI 1))))), (q 8, .inl (cI, 4, .inl gm)), (q 9, .inl (cI, 4, .inl gv)), (q 10, .inl (cI, 4, .inl gr)), (q 12, .inl (cZ, 512, .inl gd)), (q 13, .inl (cI, 512, .inl gl)), (q 14, .inl (cI, 512, .inl gc)), (q 15, .inl (cZ, 512, .inl gp)), (q 0, zm_ob q th n lc kp), (q 4, .inl (cI, 4, .inl gw)), (q 11, .inl (cI, 512, .inl gb))] H := hP
    have hD : va_D A [(q 3, .inl (cI, 4, .inl gsb)), (q 5, .inl (cI, 4, .inl gk)), (q 6, .inl (cI, 4, .inl gbt)), (q 7, .inl (cI, 4, .inl (upd gh ca ((gh ca) + (nI 1))))), (q 8, .inl (cI, 4, .inl gm)), (q 9, .inl (cI, 4, .inl gv)), (q 10, .inl (cI, 4, .inl gr)), (q 12, .inl (cZ, 512, .inl gd)), (q 13, .inl (cI, 512, .inl gl)), (q 14, .inl (cI, 512, .inl gc)), (q 15, .inl (cZ, 512, .inl gp)), (q 0, zm_ob q th n lc kp), (q 4, .inl (cI, 4, .inl gw)), (q 11, .inl (cI, 512, .inl gb))] := hD
    refine lv_goto (tgt := 192) hx hb kd_M_see_72 (by decide) ?_
    exact hc192 1 pl0 (upd gh ca ((gh ca) + (nI 1))) gm gv gr gb gd gc  (by first | exact hpl0 | exact hpl) (by first | exact Or.inl ⟨rfl, fp40, rfl, rfl, rfl, rfl, rfl, rfl⟩ | exact Or.inr ⟨rfl, hm1 ▸ fp40, hbi, hoth, rfl, rfl, rfl, rfl⟩) (by first | exact ⟨fun _ _ => rfl, by rw [if_pos rfl]⟩ | exact ⟨fun j hj => pk_un hj, by rw [pk_us, if_neg (by decide)]; rfl⟩) _ _ (hP.sub [11, 0, 12, 1, 2, 3, 4, 5, 6, 13, 7, 8, 9, 10] rfl) (hD.sub [11, 0, 12, 1, 2, 3, 4, 5, 6, 13, 7, 8, 9, 10] (by decide) rfl) hS ls (lv_sub hl [4, 5, 7, 2, 1, 0] rfl)
end
section
def rm_cm_nextOf : Room := { frames := 0, cells := 0, slots := 0, locals := 0 }
set_option maxHeartbeats 4000000 in
set_option maxRecDepth 100000 in
/-- the next use behind k -/
theorem cm_nextOf (l : Launch) (dC : Nat → ClassId) (dI : Nat → Nat → Nat) (cI cZ cO cL : ClassId) (q : Nat → Nat) (th : Nat) (n : Nat) (lc : Nat) (kp : Nat) (ga : Nat → Int32) (ad : Nat → Nat) (k : Nat) (bb : Nat) (hk : k < n) (hn : n ≤ 400) (hga : ∀ j, j < n → ga j = nI (ad j) ∧ ad j < 4096) (hbb : bb ≤ 6) : zz_Mi l ky_M_nextOf kw_M_nextOf rm_cm_nextOf (dC, dI) (zz_ty cI cZ cO cL) [(q 0, zm_ob q th n lc kp), (q 1, .inl (cI, 400, .inl ga))] [.ref (q 0), .int (nI k), .int (nI bb)] (fun (r : Int32) (w : va_W) => w = [(q 0, zm_ob q th n lc kp), (q 1, .inl (cI, 400, .inl ga))] ∧ ((∃ u, u < n ∧ r = nI u ∧ zx_NX n (fun i => ad i / 2 ^ bb) k u) ∨ (r = -1 ∧ zx_NX n (fun i => ad i / 2 ^ bb) k 400))) 0 0 := by
  refine zz_entry_i (cc := kb_M_nextOf) (maxL := 4) (own := zk_RM) (by decide) rfl rfl (Nat.le_of_ble_eq_true rfl) ?_
  intro p e s m args below meth c Q hx hb hml hown hts hin hP hK A hD hA hS hret ls hl
  have hl : lv_has ls 4 [(0, .ref (q 0)), (1, .int (nI k)), (2, .int (nI bb))] := hl
  obtain ⟨H, eH⟩ : ∃ z, z = s.heap := ⟨_, rfl⟩
  obtain ⟨locs, eL⟩ : ∃ z : List Loc, z = [] := ⟨_, rfl⟩
  rw [← eH] at hP ⊢
  have hS : va_S A s.heap H locs := by rw [eH, eL]; exact hS
  rw [← eL]
  refine lv_iload_n hx hb kd_M_nextOf_0 rfl (lv_at hl 1 rfl) ?_
  refine lv_iconst (v := nI 1) hx hb kd_M_nextOf_1 (by decide) ?_
  refine lv_iadd hx hb kd_M_nextOf_2 ?_
  refine zz_top (y := nI (k + 1)) (nI_add _ _) ?_
  refine lv_istore_n (lv' := [(3, .int (nI (k + 1))), (0, .ref (q 0)), (1, .int (nI k)), (2, .int (nI bb))]) hx hb kd_M_nextOf_3 rfl hl (by decide) rfl (fun ls hl => ?_)
  have hc4 : ∀ (nn : Nat), ∀ (j : Nat), n - j < nn → (k < j ∧ j ≤ n) → (∀ i, k < i → i < j → ad i / 2 ^ bb ≠ ad k / 2 ^ bb) → ∀ (H : Heap) (locs : List Loc), va_P (dC, dI) zk_cl [(q 0, zm_ob q th n lc kp), (q 1, .inl (cI, 400, .inl ga))] H → va_D A [(q 0, zm_ob q th n lc kp), (q 1, .inl (cI, 400, .inl ga))] → va_S A s.heap H locs → ∀ ls : Array Slot, lv_has ls 4 [(0, .ref (q 0)), (1, .int (nI k)), (2, .int (nI bb)), (3, .int (nI j))] → W p l e rm_cm_nextOf s m args below meth c H locs 0 0 Q (F0 m 4 ls []) := by
    intro nn
    induction nn with
    | zero => intro j hm; exact absurd hm (Nat.not_lt_zero _)
    | succ nn ih =>
      intro j hm hj hno H locs hP hD hS ls hl
      refine lv_iload_n hx hb kd_M_nextOf_4 rfl (lv_at hl 3 rfl) ?_
      refine lv_aload_n hx hb kd_M_nextOf_5 rfl (lv_at hl 0 rfl) ?_
      refine va_get (D := (dC, dI)) (ci := 3) (v := .int (nI n)) (C := zk_RM) (T := zk_TM) (N := 22) hx hb hts kl_M hown hK hP 0 rfl rfl 1 (by decide) (hts _ kj_347) (fun _ h9 => h9) rfl kd_M_nextOf_6 ?_
      refine zz_icmp_ge (tgt := 37) hx hb kd_M_nextOf_9 (by decide) (by omega) (by omega) (fun c9 => ?_) (fun c9 => ?_)
      · skip
        refine lv_iload_n hx hb kd_M_nextOf_37 rfl (lv_at hl 3 rfl) ?_
        refine lv_aload_n hx hb kd_M_nextOf_38 rfl (lv_at hl 0 rfl) ?_
        refine va_get (D := (dC, dI)) (ci := 3) (v := .int (nI n)) (C := zk_RM) (T := zk_TM) (N := 22) hx hb hts kl_M hown hK hP 0 rfl rfl 1 (by decide) (hts _ kj_347) (fun _ h9 => h9) rfl kd_M_nextOf_39 ?_
        refine zz_icmp_ge (tgt := 49) hx hb kd_M_nextOf_42 (by decide) (by omega) (by omega) (fun c42 => ?_) (fun c42 => ?_)
        · skip
          refine lv_iconst (v := (-1)) hx hb kd_M_nextOf_49 (by decide) ?_
          exact hret _ _ _ _ _ _ kd_M_nextOf_50 hP hD hS (⟨rfl, (by first | exact Or.inr ⟨rfl, Or.inr ⟨rfl, fun i a b => hno i a (by omega)⟩⟩ | exact Or.inl ⟨j, c42, rfl, Or.inl ⟨hj.1, c42, c28, hno⟩⟩)⟩)
        · skip
          exact absurd c42 (by omega)
      · skip
        refine lv_aload_n hx hb kd_M_nextOf_12 rfl (lv_at hl 0 rfl) ?_
        refine va_get (D := (dC, dI)) (ci := 3) (v := .ref (q 1)) (C := zk_RM) (T := zk_TM) (N := 22) hx hb hts kl_M hown hK hP 0 rfl rfl 2 (by decide) (hts _ kj_348) (fun _ h9 => h9) rfl kd_M_nextOf_13 ?_
        refine lv_iload_n hx hb kd_M_nextOf_16 rfl (lv_at hl 3 rfl) ?_
        refine zz_iald hx hb hK hP 1 0 rfl rfl (k := j) (by omega) (by decide) kd_M_nextOf_17 ?_
        refine zz_top (y := nI (ad j)) ((hga j c9).1) ?_
        refine lv_iload_n hx hb kd_M_nextOf_18 rfl (lv_at hl 2 rfl) ?_
        refine lv_ishr hx hb kd_M_nextOf_19 ?_
        refine zz_top (y := nI (ad j / 2 ^ bb)) (zn_shr (by have := (hga j c9).2; omega) (by omega)) ?_
        refine lv_aload_n hx hb kd_M_nextOf_20 rfl (lv_at hl 0 rfl) ?_
        refine va_get (D := (dC, dI)) (ci := 3) (v := .ref (q 1)) (C := zk_RM) (T := zk_TM) (N := 22) hx hb hts kl_M hown hK hP 0 rfl rfl 2 (by decide) (hts _ kj_348) (fun _ h9 => h9) rfl kd_M_nextOf_21 ?_
        refine lv_iload_n hx hb kd_M_nextOf_24 rfl (lv_at hl 1 rfl) ?_
        refine zz_iald hx hb hK hP 1 0 rfl rfl (k := k) (by omega) (by decide) kd_M_nextOf_25 ?_
        refine zz_top (y := nI (ad k)) ((hga k hk).1) ?_
        refine lv_iload_n hx hb kd_M_nextOf_26 rfl (lv_at hl 2 rfl) ?_
        refine lv_ishr hx hb kd_M_nextOf_27 ?_
        refine zz_top (y := nI (ad k / 2 ^ bb)) (zn_shr (by have := (hga k hk).2; omega) (by omega)) ?_
        refine zz_icmp_eq (tgt := 37) hx hb kd_M_nextOf_28 (by decide) (Nat.lt_of_le_of_lt (Nat.div_le_self _ _) (by have := (hga j c9).2; omega)) (Nat.lt_of_le_of_lt (Nat.div_le_self _ _) (by have := (hga k hk).2; omega)) (fun c28 => ?_) (fun c28 => ?_)
        · skip
          refine lv_iload_n hx hb kd_M_nextOf_37 rfl (lv_at hl 3 rfl) ?_
          refine lv_aload_n hx hb kd_M_nextOf_38 rfl (lv_at hl 0 rfl) ?_
          refine va_get (D := (dC, dI)) (ci := 3) (v := .int (nI n)) (C := zk_RM) (T := zk_TM) (N := 22) hx hb hts kl_M hown hK hP 0 rfl rfl 1 (by decide) (hts _ kj_347) (fun _ h9 => h9) rfl kd_M_nextOf_39 ?_
          refine zz_icmp_ge (tgt := 49) hx hb kd_M_nextOf_42 (by decide) (by omega) (by omega) (fun c42 => ?_) (fun c42 => ?_)
          · skip
            exact absurd c42 (by omega)
          · skip
            refine lv_iload_n hx hb kd_M_nextOf_45 rfl (lv_at hl 3 rfl) ?_
            refine lv_goto (tgt := 50) hx hb kd_M_nextOf_46 (by decide) ?_
            exact hret _ _ _ _ _ _ kd_M_nextOf_50 hP hD hS (⟨rfl, (by first | exact Or.inr ⟨rfl, Or.inr ⟨rfl, fun i a b => hno i a (by omega)⟩⟩ | exact Or.inl ⟨j, c42, rfl, Or.inl ⟨hj.1, c42, c28, hno⟩⟩)⟩)
        · skip
          refine lv_iinc (v := nI (j + 1)) (lv' := [(3, .int (nI (j + 1))), (0, .ref (q 0)), (1, .int (nI k)), (2, .int (nI bb))]) hx hb kd_M_nextOf_31 hl (k := 3) rfl (by first | exact nI_1 _ | (show _ + _ = _; exact nI_1 _)) (by decide) rfl (fun ls hl => ?_)
          refine lv_goto (tgt := 4) hx hb kd_M_nextOf_34 (by decide) ?_
          exact ih (j + 1) (by omega) (by omega) (fun i a b => by
            rcases Nat.lt_or_ge i j with z | z
            · exact hno i a z
            · rw [show i = j by omega]; exact c28) _ _ hP hD hS ls (lv_sub hl [1, 2, 3, 0] rfl)
  exact hc4 _ (k + 1) (Nat.lt_succ_self _) (by omega) (fun i a b => by omega) _ _ hP hD hS ls (lv_sub hl [1, 2, 3, 0] rfl)

def rm_cm_comes : Room := { frames := 0, cells := 0, slots := 0, locals := 0 }
set_option maxHeartbeats 4000000 in
set_option maxRecDepth 100000 in
/-- a block comes to a line -/
theorem cm_comes (l : Launch) (dC : Nat → ClassId) (dI : Nat → Nat → Nat) (cI cZ cO cL : ClassId) (q : Nat → Nat) (th : Nat) (n : Nat) (lc : Nat) (kp : Nat) (gn : Nat → Int32) (gq : Nat → Int32) (b : Nat) (li : Nat) (nw : Nat) (hlc : lc ≤ li) (hli : 1 ≤ li ∧ li ≤ 64) (hb0 : b < 4096) : zz_Mi l ky_M_comes kw_M_comes rm_cm_comes (dC, dI) (zz_ty cI cZ cO cL) [(q 0, zm_ob q th n lc kp), (q 16, .inl (cI, 64, .inl gn)), (q 17, .inl (cI, 64, .inl gq))] [.ref (q 0), .int (nI b), .int (nI li), .int (nI nw)] (fun (r : Int32) (w : va_W) => ∃ (h : Nat), ∃ (l0 : Nat), ∃ (lc2 : Nat), w = [(q 0, zm_ob q th n lc2 kp), (q 16, .inl (cI, 64, .inl (upd gn l0 (nI b)))), (q 17, .inl (cI, 64, .inl (upd gq l0 (nI nw))))] ∧ (r = nI h) ∧ ((h = 1 ∧ l0 < lc ∧ gn l0 = nI b ∧ lc2 = lc) ∨ (h = 0 ∧ (∀ j, j < lc → gn j ≠ nI b) ∧ ((lc < li ∧ l0 = lc ∧ lc2 = lc + 1) ∨ (¬ lc < li ∧ zf_AM gq lc l0 ∧ lc2 = lc)))) ∧ (h ≤ 1)) 0 0 := by
  refine zz_entry_z (cc := kb_M_comes) (maxL := 7) (own := zk_RM) (by decide) rfl rfl (Nat.le_of_ble_eq_true rfl) ?_
  intro p e s m args below meth c Q hx hb hml hown hts hin hP hK A hD hA hS hret ls hl
  have hl : lv_has ls 7 [(0, .ref (q 0)), (1, .int (nI b)), (2, .int (nI li)), (3, .int (nI nw))] := hl
  obtain ⟨H, eH⟩ : ∃ z, z = s.heap := ⟨_, rfl⟩
  obtain ⟨locs, eL⟩ : ∃ z : List Loc, z = [] := ⟨_, rfl⟩
  rw [← eH] at hP ⊢
  have hS : va_S A s.heap H locs := by rw [eH, eL]; exact hS
  rw [← eL]
  refine lv_iconst (v := (-1)) hx hb kd_M_comes_0 (by decide) ?_
  refine lv_istore (lv' := [(4, .int (-1)), (0, .ref (q 0)), (1, .int (nI b)), (2, .int (nI li)), (3, .int (nI nw))]) hx hb kd_M_comes_1 hl (by decide) rfl (fun ls hl => ?_)
  refine lv_iconst (v := nI 0) hx hb kd_M_comes_3 (by decide) ?_
  refine lv_istore (lv' := [(5, .int (nI 0)), (4, .int (-1)), (0, .ref (q 0)), (1, .int (nI b)), (2, .int (nI li)), (3, .int (nI nw))]) hx hb kd_M_comes_4 hl (by decide) rfl (fun ls hl => ?_)
  refine lv_iconst (v := nI 0) hx hb kd_M_comes_6 (by decide) ?_
  refine lv_istore (lv' := [(6, .int (nI 0)), (5, .int (nI 0)), (4, .int (-1)), (0, .ref (q 0)), (1, .int (nI b)), (2, .int (nI li)), (3, .int (nI nw))]) hx hb kd_M_comes_7 hl (by decide) rfl (fun ls hl => ?_)
  have hc9 : ∀ (nn : Nat), ∀ (k : Nat) (o : Nat) (f : Int32), lc - k < nn → (k ≤ lc) → (zf_FA gn k (nI b) f) → (zf_AM0 gq k o) → ∀ (H : Heap) (locs : List Loc), va_P (dC, dI) zk_cl [(q 0, zm_ob q th n lc kp), (q 16, .inl (cI, 64, .inl gn)), (q 17, .inl (cI, 64, .inl gq))] H → va_D A [(q 0, zm_ob q th n lc kp), (q 16, .inl (cI, 64, .inl gn)), (q 17, .inl (cI, 64, .inl gq))] → va_S A s.heap H locs → ∀ ls : Array Slot, lv_has ls 7 [(0, .ref (q 0)), (1, .int (nI b)), (2, .int (nI li)), (3, .int (nI nw)), (4, .int f), (5, .int (nI o)), (6, .int (nI k))] → W p l e rm_cm_comes s m args below meth c H locs 0 0 Q (F0 m 9 ls []) := by
    intro nn
    induction nn with
    | zero => intro k o f hm; exact absurd hm (Nat.not_lt_zero _)
    | succ nn ih =>
      intro k o f hm hk hf ham H locs hP hD hS ls hl
      have ho := zf_AM0_le ham
      refine lv_iload hx hb kd_M_comes_9 (lv_at hl 6 rfl) ?_
      refine lv_aload_n hx hb kd_M_comes_11 rfl (lv_at hl 0 rfl) ?_
      refine va_get (D := (dC, dI)) (ci := 3) (v := .int (nI lc)) (C := zk_RM) (T := zk_TM) (N := 22) hx hb hts kl_M hown hK hP 0 rfl rfl 17 (by decide) (hts _ kj_363) (fun _ h9 => h9) rfl kd_M_comes_12 ?_
      refine zz_icmp_ge (tgt := 70) hx hb kd_M_comes_15 (by decide) (by omega) (by omega) (fun c15 => ?_) (fun c15 => ?_)
      · skip
        refine lv_iload hx hb kd_M_comes_70 (lv_at hl 4 rfl) ?_
        refine lv_if_lt (tgt := 79) hx hb kd_M_comes_72 (by decide) (fun c72 => ?_) (fun c72 => ?_)
        · skip
          have hno := zf_FA_neg (by omega) hf c72
          have ekl : k = lc := by omega
          refine lv_iconst (v := nI 0) hx hb kd_M_comes_79 (by decide) ?_
          refine lv_istore (lv' := [(6, .int (nI 0)), (0, .ref (q 0)), (1, .int (nI b)), (2, .int (nI li)), (3, .int (nI nw)), (4, .int f), (5, .int (nI o))]) hx hb kd_M_comes_80 hl (by decide) rfl (fun ls hl => ?_)
          refine lv_iload hx hb kd_M_comes_82 (lv_at hl 0 rfl) ?_
          refine zz_if_ne (tgt := 114) hx hb kd_M_comes_84 (by decide) (by decide) (fun c9 => absurd c9 (by decide)) (fun _ => ?_)
          refine lv_aload_n hx hb kd_M_comes_87 rfl (lv_at hl 1 rfl) ?_
          refine va_get (D := (dC, dI)) (ci := 3) (v := .int (nI lc)) (C := zk_RM) (T := zk_TM) (N := 22) hx hb hts kl_M hown hK hP 0 rfl rfl 17 (by decide) (hts _ kj_363) (fun _ h9 => h9) rfl kd_M_comes_88 ?_
          refine lv_iload_n hx hb kd_M_comes_91 rfl (lv_at hl 3 rfl) ?_
          refine zz_icmp_ge (tgt := 114) hx hb kd_M_comes_92 (by decide) (by omega) (by omega) (fun c92 => ?_) (fun c92 => ?_)
          · skip
            have ham2 : zf_AM gq lc o := by
              rcases ham with ⟨z, _⟩ | z
              · omega
              · exact ekl ▸ z
            have ho2 := ham2.1
            refine lv_iload hx hb kd_M_comes_114 (lv_at hl 0 rfl) ?_
            refine zz_if_ne (tgt := 123) hx hb kd_M_comes_116 (by decide) (by decide) (fun c9 => absurd c9 (by decide)) (fun _ => ?_)
            refine lv_iload hx hb kd_M_comes_119 (lv_at hl 6 rfl) ?_
            refine lv_istore (lv' := [(4, .int (nI o)), (6, .int (nI 0)), (0, .ref (q 0)), (1, .int (nI b)), (2, .int (nI li)), (3, .int (nI nw)), (5, .int (nI o))]) hx hb kd_M_comes_121 hl (by decide) rfl (fun ls hl => ?_)
            refine lv_aload_n hx hb kd_M_comes_123 rfl (lv_at hl 2 rfl) ?_
            refine va_get (D := (dC, dI)) (ci := 3) (v := .ref (q 16)) (C := zk_RM) (T := zk_TM) (N := 22) hx hb hts kl_M hown hK hP 0 rfl rfl 18 (by decide) (hts _ kj_364) (fun _ h9 => h9) rfl kd_M_comes_124 ?_
            refine lv_iload hx hb kd_M_comes_127 (lv_at hl 0 rfl) ?_
            refine lv_iload_n hx hb kd_M_comes_129 rfl (lv_at hl 3 rfl) ?_
            refine zz_iast hx hb hK hP hD hS 1 0 rfl rfl (k := o) (by omega) (by decide) kd_M_comes_130 (fun H locs hP hD hS => ?_)
            have hP : va_P (dC, dI) zk_cl [(q 0, zm_ob q th n lc kp), (q 16, .inl (cI, 64, .inl (upd gn o (nI b)))), (q 17, .inl (cI, 64, .inl gq))] H := hP
            have hD : va_D A [(q 0, zm_ob q th n lc kp), (q 16, .inl (cI, 64, .inl (upd gn o (nI b)))), (q 17, .inl (cI, 64, .inl gq))] := hD
            refine lv_aload_n hx hb kd_M_comes_131 rfl (lv_at hl 2 rfl) ?_
            refine va_get (D := (dC, dI)) (ci := 3) (v := .ref (q 17)) (C := zk_RM) (T := zk_TM) (N := 22) hx hb hts kl_M hown hK hP 0 rfl rfl 19 (by decide) (hts _ kj_365) (fun _ h9 => h9) rfl kd_M_comes_132 ?_
            refine lv_iload hx hb kd_M_comes_135 (lv_at hl 0 rfl) ?_
            refine lv_iload_n hx hb kd_M_comes_137 rfl (lv_at hl 5 rfl) ?_
            refine zz_iast hx hb hK hP hD hS 2 0 rfl rfl (k := o) (by omega) (by decide) kd_M_comes_138 (fun H locs hP hD hS => ?_)
            have hP : va_P (dC, dI) zk_cl [(q 0, zm_ob q th n lc kp), (q 16, .inl (cI, 64, .inl (upd gn o (nI b)))), (q 17, .inl (cI, 64, .inl (upd gq o (nI nw))))] H := hP
            have hD : va_D A [(q 0, zm_ob q th n lc kp), (q 16, .inl (cI, 64, .inl (upd gn o (nI b)))), (q 17, .inl (cI, 64, .inl (upd gq o (nI nw))))] := hD
            refine lv_iload hx hb kd_M_comes_139 (lv_at hl 1 rfl) ?_
            exact hret _ _ _ _ _ _ (Or.inl rfl) kd_M_comes_141 hP hD hS (⟨0, o, lc, rfl, rfl, (by first | exact Or.inl ⟨rfl, by omega, hm2, rfl⟩ | exact Or.inr ⟨rfl, ekl ▸ hno, Or.inl ⟨c92, rfl, rfl⟩⟩ | exact Or.inr ⟨rfl, ekl ▸ hno, Or.inr ⟨by omega, ham2, rfl⟩⟩), (by omega)⟩)
          · skip
            refine lv_aload_n hx hb kd_M_comes_95 rfl (lv_at hl 1 rfl) ?_
            refine va_get (D := (dC, dI)) (ci := 3) (v := .int (nI lc)) (C := zk_RM) (T := zk_TM) (N := 22) hx hb hts kl_M hown hK hP 0 rfl rfl 17 (by decide) (hts _ kj_363) (fun _ h9 => h9) rfl kd_M_comes_96 ?_
            refine lv_istore (lv' := [(4, .int (nI lc)), (6, .int (nI 0)), (0, .ref (q 0)), (1, .int (nI b)), (2, .int (nI li)), (3, .int (nI nw)), (5, .int (nI o))]) hx hb kd_M_comes_99 hl (by decide) rfl (fun ls hl => ?_)
            refine lv_aload_n hx hb kd_M_comes_101 rfl (lv_at hl 2 rfl) ?_
            refine lv_dup hx hb kd_M_comes_102 rfl ?_
            refine va_get (D := (dC, dI)) (ci := 3) (v := .int (nI lc)) (C := zk_RM) (T := zk_TM) (N := 22) hx hb hts kl_M hown hK hP 0 rfl rfl 17 (by decide) (hts _ kj_363) (fun _ h9 => h9) rfl kd_M_comes_103 ?_
            refine lv_iconst (v := nI 1) hx hb kd_M_comes_106 (by decide) ?_
            refine lv_iadd hx hb kd_M_comes_107 ?_
            refine zz_top (y := nI (lc + 1)) (nI_add _ _) ?_
            refine va_put (D := (dC, dI)) (ci := 3) (v := .int (nI (lc + 1))) (ty := .int) (C := zk_RM) (T := zk_TM) (N := 22) hx hb hts kl_M zk_tM zk_kM zk_nM hown hK hP hD hS 0 rfl rfl 17 (by decide) (hts _ kj_363) (fun _ h9 => h9) rfl (by decide +kernel) rfl rfl (Nat.le_of_ble_eq_true rfl) kd_M_comes_108 (fun H locs hP hD hS => ?_)
            have hP : va_P (dC, dI) zk_cl [(q 0, zm_ob q th n (lc + 1) kp), (q 16, .inl (cI, 64, .inl gn)), (q 17, .inl (cI, 64, .inl gq))] H := hP
            have hD : va_D A [(q 0, zm_ob q th n (lc + 1) kp), (q 16, .inl (cI, 64, .inl gn)), (q 17, .inl (cI, 64, .inl gq))] := hD
            refine lv_goto (tgt := 123) hx hb kd_M_comes_111 (by decide) ?_
            refine lv_aload_n hx hb kd_M_comes_123 rfl (lv_at hl 2 rfl) ?_
            refine va_get (D := (dC, dI)) (ci := 3) (v := .ref (q 16)) (C := zk_RM) (T := zk_TM) (N := 22) hx hb hts kl_M hown hK hP 0 rfl rfl 18 (by decide) (hts _ kj_364) (fun _ h9 => h9) rfl kd_M_comes_124 ?_
            refine lv_iload hx hb kd_M_comes_127 (lv_at hl 0 rfl) ?_
            refine lv_iload_n hx hb kd_M_comes_129 rfl (lv_at hl 3 rfl) ?_
            refine zz_iast hx hb hK hP hD hS 1 0 rfl rfl (k := lc) (by omega) (by decide) kd_M_comes_130 (fun H locs hP hD hS => ?_)
            have hP : va_P (dC, dI) zk_cl [(q 0, zm_ob q th n (lc + 1) kp), (q 16, .inl (cI, 64, .inl (upd gn lc (nI b)))), (q 17, .inl (cI, 64, .inl gq))] H := hP
            have hD : va_D A [(q 0, zm_ob q th n (lc + 1) kp), (q 16, .inl (cI, 64, .inl (upd gn lc (nI b)))), (q 17, .inl (cI, 64, .inl gq))] := hD
            refine lv_aload_n hx hb kd_M_comes_131 rfl (lv_at hl 2 rfl) ?_
            refine va_get (D := (dC, dI)) (ci := 3) (v := .ref (q 17)) (C := zk_RM) (T := zk_TM) (N := 22) hx hb hts kl_M hown hK hP 0 rfl rfl 19 (by decide) (hts _ kj_365) (fun _ h9 => h9) rfl kd_M_comes_132 ?_
            refine lv_iload hx hb kd_M_comes_135 (lv_at hl 0 rfl) ?_
            refine lv_iload_n hx hb kd_M_comes_137 rfl (lv_at hl 5 rfl) ?_
            refine zz_iast hx hb hK hP hD hS 2 0 rfl rfl (k := lc) (by omega) (by decide) kd_M_comes_138 (fun H locs hP hD hS => ?_)
            have hP : va_P (dC, dI) zk_cl [(q 0, zm_ob q th n (lc + 1) kp), (q 16, .inl (cI, 64, .inl (upd gn lc (nI b)))), (q 17, .inl (cI, 64, .inl (upd gq lc (nI nw))))] H := hP
            have hD : va_D A [(q 0, zm_ob q th n (lc + 1) kp), (q 16, .inl (cI, 64, .inl (upd gn lc (nI b)))), (q 17, .inl (cI, 64, .inl (upd gq lc (nI nw))))] := hD
            refine lv_iload hx hb kd_M_comes_139 (lv_at hl 1 rfl) ?_
            exact hret _ _ _ _ _ _ (Or.inl rfl) kd_M_comes_141 hP hD hS (⟨0, lc, lc + 1, rfl, rfl, (by first | exact Or.inl ⟨rfl, by omega, hm2, rfl⟩ | exact Or.inr ⟨rfl, ekl ▸ hno, Or.inl ⟨c92, rfl, rfl⟩⟩ | exact Or.inr ⟨rfl, ekl ▸ hno, Or.inr ⟨by omega, ham2, rfl⟩⟩), (by omega)⟩)
        · skip
          obtain ⟨m, hm1, rfl, hm2⟩ := zf_FA_pos hf c72
          refine lv_iconst (v := nI 1) hx hb kd_M_comes_75 (by decide) ?_
          refine lv_goto (tgt := 80) hx hb kd_M_comes_76 (by decide) ?_
          refine lv_istore (lv' := [(6, .int (nI 1)), (0, .ref (q 0)), (1, .int (nI b)), (2, .int (nI li)), (3, .int (nI nw)), (4, .int (nI m)), (5, .int (nI o))]) hx hb kd_M_comes_80 hl (by decide) rfl (fun ls hl => ?_)
          refine lv_iload hx hb kd_M_comes_82 (lv_at hl 0 rfl) ?_
          refine zz_if_ne (tgt := 114) hx hb kd_M_comes_84 (by decide) (by decide) (fun _ => ?_) (fun c9 => absurd c9 (by decide))
          refine lv_iload hx hb kd_M_comes_114 (lv_at hl 0 rfl) ?_
          refine zz_if_ne (tgt := 123) hx hb kd_M_comes_116 (by decide) (by decide) (fun _ => ?_) (fun c9 => absurd c9 (by decide))
          refine lv_aload_n hx hb kd_M_comes_123 rfl (lv_at hl 1 rfl) ?_
          refine va_get (D := (dC, dI)) (ci := 3) (v := .ref (q 16)) (C := zk_RM) (T := zk_TM) (N := 22) hx hb hts kl_M hown hK hP 0 rfl rfl 18 (by decide) (hts _ kj_364) (fun _ h9 => h9) rfl kd_M_comes_124 ?_
          refine lv_iload hx hb kd_M_comes_127 (lv_at hl 5 rfl) ?_
          refine lv_iload_n hx hb kd_M_comes_129 rfl (lv_at hl 2 rfl) ?_
          refine zz_iast hx hb hK hP hD hS 1 0 rfl rfl (k := m) (by omega) (by decide) kd_M_comes_130 (fun H locs hP hD hS => ?_)
          have hP : va_P (dC, dI) zk_cl [(q 0, zm_ob q th n lc kp), (q 16, .inl (cI, 64, .inl (upd gn m (nI b)))), (q 17, .inl (cI, 64, .inl gq))] H := hP
          have hD : va_D A [(q 0, zm_ob q th n lc kp), (q 16, .inl (cI, 64, .inl (upd gn m (nI b)))), (q 17, .inl (cI, 64, .inl gq))] := hD
          refine lv_aload_n hx hb kd_M_comes_131 rfl (lv_at hl 1 rfl) ?_
          refine va_get (D := (dC, dI)) (ci := 3) (v := .ref (q 17)) (C := zk_RM) (T := zk_TM) (N := 22) hx hb hts kl_M hown hK hP 0 rfl rfl 19 (by decide) (hts _ kj_365) (fun _ h9 => h9) rfl kd_M_comes_132 ?_
          refine lv_iload hx hb kd_M_comes_135 (lv_at hl 5 rfl) ?_
          refine lv_iload_n hx hb kd_M_comes_137 rfl (lv_at hl 4 rfl) ?_
          refine zz_iast hx hb hK hP hD hS 2 0 rfl rfl (k := m) (by omega) (by decide) kd_M_comes_138 (fun H locs hP hD hS => ?_)
          have hP : va_P (dC, dI) zk_cl [(q 0, zm_ob q th n lc kp), (q 16, .inl (cI, 64, .inl (upd gn m (nI b)))), (q 17, .inl (cI, 64, .inl (upd gq m (nI nw))))] H := hP
          have hD : va_D A [(q 0, zm_ob q th n lc kp), (q 16, .inl (cI, 64, .inl (upd gn m (nI b)))), (q 17, .inl (cI, 64, .inl (upd gq m (nI nw))))] := hD
          refine lv_iload hx hb kd_M_comes_139 (lv_at hl 0 rfl) ?_
          exact hret _ _ _ _ _ _ (Or.inr rfl) kd_M_comes_141 hP hD hS (⟨1, m, lc, rfl, rfl, (by first | exact Or.inl ⟨rfl, by omega, hm2, rfl⟩ | exact Or.inr ⟨rfl, ekl ▸ hno, Or.inl ⟨c92, rfl, rfl⟩⟩ | exact Or.inr ⟨rfl, ekl ▸ hno, Or.inr ⟨by omega, ham2, rfl⟩⟩), (by omega)⟩)
      · skip
        refine lv_aload_n hx hb kd_M_comes_18 rfl (lv_at hl 0 rfl) ?_
        refine va_get (D := (dC, dI)) (ci := 3) (v := .ref (q 16)) (C := zk_RM) (T := zk_TM) (N := 22) hx hb hts kl_M hown hK hP 0 rfl rfl 18 (by decide) (hts _ kj_364) (fun _ h9 => h9) rfl kd_M_comes_19 ?_
        refine lv_iload hx hb kd_M_comes_22 (lv_at hl 6 rfl) ?_
        refine zz_iald hx hb hK hP 1 0 rfl rfl (k := k) (by omega) (by decide) kd_M_comes_24 ?_
        refine lv_iload_n hx hb kd_M_comes_25 rfl (lv_at hl 1 rfl) ?_
        refine lv_icmp_ne (tgt := 34) hx hb kd_M_comes_26 (by decide) (fun c26 => ?_) (fun c26 => ?_)
        · skip
          refine lv_iload hx hb kd_M_comes_34 (lv_at hl 4 rfl) ?_
          refine lv_istore (lv' := [(4, .int f), (0, .ref (q 0)), (1, .int (nI b)), (2, .int (nI li)), (3, .int (nI nw)), (5, .int (nI o)), (6, .int (nI k))]) hx hb kd_M_comes_36 hl (by decide) rfl (fun ls hl => ?_)
          refine lv_aload_n hx hb kd_M_comes_38 rfl (lv_at hl 1 rfl) ?_
          refine va_get (D := (dC, dI)) (ci := 3) (v := .ref (q 17)) (C := zk_RM) (T := zk_TM) (N := 22) hx hb hts kl_M hown hK hP 0 rfl rfl 19 (by decide) (hts _ kj_365) (fun _ h9 => h9) rfl kd_M_comes_39 ?_
          refine lv_iload hx hb kd_M_comes_42 (lv_at hl 6 rfl) ?_
          refine zz_iald hx hb hK hP 2 0 rfl rfl (k := k) (by omega) (by decide) kd_M_comes_44 ?_
          refine lv_aload_n hx hb kd_M_comes_45 rfl (lv_at hl 1 rfl) ?_
          refine va_get (D := (dC, dI)) (ci := 3) (v := .ref (q 17)) (C := zk_RM) (T := zk_TM) (N := 22) hx hb hts kl_M hown hK hP 0 rfl rfl 19 (by decide) (hts _ kj_365) (fun _ h9 => h9) rfl kd_M_comes_46 ?_
          refine lv_iload hx hb kd_M_comes_49 (lv_at hl 5 rfl) ?_
          refine zz_iald hx hb hK hP 2 0 rfl rfl (k := o) (by omega) (by decide) kd_M_comes_51 ?_
          refine lv_icmp_ge (tgt := 60) hx hb kd_M_comes_52 (by decide) (fun c52 => ?_) (fun c52 => ?_)
          · skip
            refine lv_iload hx hb kd_M_comes_60 (lv_at hl 5 rfl) ?_
            refine lv_istore (lv' := [(5, .int (nI o)), (4, .int f), (0, .ref (q 0)), (1, .int (nI b)), (2, .int (nI li)), (3, .int (nI nw)), (6, .int (nI k))]) hx hb kd_M_comes_62 hl (by decide) rfl (fun ls hl => ?_)
            refine lv_iinc (v := nI (k + 1)) (lv' := [(6, .int (nI (k + 1))), (5, .int (nI o)), (4, .int f), (0, .ref (q 0)), (1, .int (nI b)), (2, .int (nI li)), (3, .int (nI nw))]) hx hb kd_M_comes_64 hl (k := 6) rfl (by first | exact nI_1 _ | (show _ + _ = _; exact nI_1 _)) (by decide) rfl (fun ls hl => ?_)
            refine lv_goto (tgt := 9) hx hb kd_M_comes_67 (by decide) ?_
            exact ih (k + 1) o f (by omega) (by omega) (by first | exact zf_FA_t c26 | exact zf_FA_f c26 hf) (by first | exact zf_AM0_t ham (zu_nle c52) | exact zf_AM0_f ham (zu_nlt c52)) _ _ hP hD hS ls (lv_sub hl [3, 4, 5, 6, 2, 1, 0] rfl)
          · skip
            refine lv_iload hx hb kd_M_comes_55 (lv_at hl 6 rfl) ?_
            refine lv_goto (tgt := 62) hx hb kd_M_comes_57 (by decide) ?_
            refine lv_istore (lv' := [(5, .int (nI k)), (4, .int f), (0, .ref (q 0)), (1, .int (nI b)), (2, .int (nI li)), (3, .int (nI nw)), (6, .int (nI k))]) hx hb kd_M_comes_62 hl (by decide) rfl (fun ls hl => ?_)
            refine lv_iinc (v := nI (k + 1)) (lv' := [(6, .int (nI (k + 1))), (5, .int (nI k)), (4, .int f), (0, .ref (q 0)), (1, .int (nI b)), (2, .int (nI li)), (3, .int (nI nw))]) hx hb kd_M_comes_64 hl (k := 6) rfl (by first | exact nI_1 _ | (show _ + _ = _; exact nI_1 _)) (by decide) rfl (fun ls hl => ?_)
            refine lv_goto (tgt := 9) hx hb kd_M_comes_67 (by decide) ?_
            exact ih (k + 1) k f (by omega) (by omega) (by first | exact zf_FA_t c26 | exact zf_FA_f c26 hf) (by first | exact zf_AM0_t ham (zu_nle c52) | exact zf_AM0_f ham (zu_nlt c52)) _ _ hP hD hS ls (lv_sub hl [3, 4, 5, 6, 2, 1, 0] rfl)
        · skip
          refine lv_iload hx hb kd_M_comes_29 (lv_at hl 6 rfl) ?_
          refine lv_goto (tgt := 36) hx hb kd_M_comes_31 (by decide) ?_
          refine lv_istore (lv' := [(4, .int (nI k)), (0, .ref (q 0)), (1, .int (nI b)), (2, .int (nI li)), (3, .int (nI nw)), (5, .int (nI o)), (6, .int (nI k))]) hx hb kd_M_comes_36 hl (by decide) rfl (fun ls hl => ?_)
          refine lv_aload_n hx hb kd_M_comes_38 rfl (lv_at hl 1 rfl) ?_
          refine va_get (D := (dC, dI)) (ci := 3) (v := .ref (q 17)) (C := zk_RM) (T := zk_TM) (N := 22) hx hb hts kl_M hown hK hP 0 rfl rfl 19 (by decide) (hts _ kj_365) (fun _ h9 => h9) rfl kd_M_comes_39 ?_
          refine lv_iload hx hb kd_M_comes_42 (lv_at hl 6 rfl) ?_
          refine zz_iald hx hb hK hP 2 0 rfl rfl (k := k) (by omega) (by decide) kd_M_comes_44 ?_
          refine lv_aload_n hx hb kd_M_comes_45 rfl (lv_at hl 1 rfl) ?_
          refine va_get (D := (dC, dI)) (ci := 3) (v := .ref (q 17)) (C := zk_RM) (T := zk_TM) (N := 22) hx hb hts kl_M hown hK hP 0 rfl rfl 19 (by decide) (hts _ kj_365) (fun _ h9 => h9) rfl kd_M_comes_46 ?_
          refine lv_iload hx hb kd_M_comes_49 (lv_at hl 5 rfl) ?_
          refine zz_iald hx hb hK hP 2 0 rfl rfl (k := o) (by omega) (by decide) kd_M_comes_51 ?_
          refine lv_icmp_ge (tgt := 60) hx hb kd_M_comes_52 (by decide) (fun c52 => ?_) (fun c52 => ?_)
          · skip
            refine lv_iload hx hb kd_M_comes_60 (lv_at hl 5 rfl) ?_
            refine lv_istore (lv' := [(5, .int (nI o)), (4, .int (nI k)), (0, .ref (q 0)), (1, .int (nI b)), (2, .int (nI li)), (3, .int (nI nw)), (6, .int (nI k))]) hx hb kd_M_comes_62 hl (by decide) rfl (fun ls hl => ?_)
            refine lv_iinc (v := nI (k + 1)) (lv' := [(6, .int (nI (k + 1))), (5, .int (nI o)), (4, .int (nI k)), (0, .ref (q 0)), (1, .int (nI b)), (2, .int (nI li)), (3, .int (nI nw))]) hx hb kd_M_comes_64 hl (k := 6) rfl (by first | exact nI_1 _ | (show _ + _ = _; exact nI_1 _)) (by decide) rfl (fun ls hl => ?_)
            refine lv_goto (tgt := 9) hx hb kd_M_comes_67 (by decide) ?_
            exact ih (k + 1) o (nI k) (by omega) (by omega) (by first | exact zf_FA_t c26 | exact zf_FA_f c26 hf) (by first | exact zf_AM0_t ham (zu_nle c52) | exact zf_AM0_f ham (zu_nlt c52)) _ _ hP hD hS ls (lv_sub hl [3, 4, 5, 6, 2, 1, 0] rfl)
          · skip
            refine lv_iload hx hb kd_M_comes_55 (lv_at hl 6 rfl) ?_
            refine lv_goto (tgt := 62) hx hb kd_M_comes_57 (by decide) ?_
            refine lv_istore (lv' := [(5, .int (nI k)), (4, .int (nI k)), (0, .ref (q 0)), (1, .int (nI b)), (2, .int (nI li)), (3, .int (nI nw)), (6, .int (nI k))]) hx hb kd_M_comes_62 hl (by decide) rfl (fun ls hl => ?_)
            refine lv_iinc (v := nI (k + 1)) (lv' := [(6, .int (nI (k + 1))), (5, .int (nI k)), (4, .int (nI k)), (0, .ref (q 0)), (1, .int (nI b)), (2, .int (nI li)), (3, .int (nI nw))]) hx hb kd_M_comes_64 hl (k := 6) rfl (by first | exact nI_1 _ | (show _ + _ = _; exact nI_1 _)) (by decide) rfl (fun ls hl => ?_)
            refine lv_goto (tgt := 9) hx hb kd_M_comes_67 (by decide) ?_
            exact ih (k + 1) k (nI k) (by omega) (by omega) (by first | exact zf_FA_t c26 | exact zf_FA_f c26 hf) (by first | exact zf_AM0_t ham (zu_nle c52) | exact zf_AM0_f ham (zu_nlt c52)) _ _ hP hD hS ls (lv_sub hl [3, 4, 5, 6, 2, 1, 0] rfl)
  exact hc9 _ 0 0 (-1) (Nat.lt_succ_self _) (by omega) (zf_FA_0) (Or.inl ⟨rfl, rfl⟩) _ _ hP hD hS ls (lv_sub hl [3, 4, 5, 6, 2, 1, 0] rfl)
end
section
/-! PURE ROWS 10: steps of the reference's curve and best -/
theorem zm_R_s {li : Nat} {bk : Nat → Nat} {i c h l0 lc lc2 : Nat} {M : List (Nat × Nat)} {f g : Nat → Int32} (hR : zm_R li bk i M c) (hM : zM_at f g M) (hlc : lc = M.length) (hb : bk i < 4096)
    (g1 : (h = 1 ∧ l0 < lc ∧ f l0 = nI (bk i) ∧ lc2 = lc) ∨ (h = 0 ∧ (∀ j, j < lc → f j ≠ nI (bk i)) ∧ ((lc < li ∧ l0 = lc ∧ lc2 = lc + 1) ∨ (¬ lc < li ∧ zf_AM g lc l0 ∧ lc2 = lc)))) :
    zm_R li bk (i + 1) (zm_up M l0 (bk i, i)) (c + h) ∧ lc2 = (zm_up M l0 (bk i, i)).length ∧ l0 ≤ M.length := by
  subst hlc
  rcases g1 with ⟨rfl, h2, h3, rfl⟩ | ⟨rfl, h2, h3⟩
  · obtain ⟨a, ha⟩ := zM_hit hM hb h2 h3
    refine ⟨⟨M, c, l0, hR, Or.inl ⟨a, ha⟩, rfl, ?_⟩, ?_, by omega⟩
    · rw [if_pos (zM_mem ha)]
    · rw [zM_len, if_pos h2]
  · have hno := zM_in hM hb h2
    rcases h3 with ⟨a1, a2, a3⟩ | ⟨a1, a2, a3⟩
    · refine ⟨⟨M, c, l0, hR, Or.inr (Or.inl ⟨hno, a1, a2⟩), rfl, ?_⟩, ?_, by omega⟩
      · rw [if_neg (fun ⟨m, hm, e⟩ => hno m hm e)]
      · rw [zM_len, if_neg (by omega)]; exact a3
    · have hl := a2.1
      refine ⟨⟨M, c, l0, hR, Or.inr (Or.inr ⟨hno, a1, zM_min hM a2⟩), rfl, ?_⟩, ?_, by omega⟩
      · rw [if_neg (fun ⟨m, hm, e⟩ => hno m hm e)]
      · rw [zM_len, if_pos hl]; exact a3
theorem zm_R_len {li : Nat} {bk : Nat → Nat} (h1 : 1 ≤ li) : ∀ (i : Nat) (M : List (Nat × Nat)) (c : Nat), zm_R li bk i M c → M.length ≤ li
  | 0, M, c, h => by rw [h.1]; simp
  | i + 1, M, c, ⟨M0, c0, l, h, hc, e, _⟩ => by
    have q := zm_R_len h1 i M0 c0 h
    rw [e, zM_len]
    rcases hc with ⟨a, z⟩ | ⟨-, z1, z2⟩ | ⟨-, z1, v, z2, -⟩
    · rw [if_pos (List.getElem?_eq_some_iff.mp z).1]; exact q
    · rw [if_neg (by omega)]; omega
    · rw [if_pos (List.getElem?_eq_some_iff.mp z2).1]; exact q
/-- what the reference's curve answers -/
def zm_bad (x y : Int32) : Prop := (∀ k, 1 ≤ k → k ≤ 64 → x ≠ nI k) ∨ (∀ k, k ≤ 6 → y ≠ nI k)
def zm_cv (n : Nat) (ad : Nat → Nat) (x y r : Int32) (t : Nat) : Prop :=
  (t = 1 ∧ zm_bad x y) ∨ (t = 0 ∧ ∃ (li bb c : Nat) (M : List (Nat × Nat)), x = nI li ∧ y = nI bb ∧ 1 ≤ li ∧ li ≤ 64 ∧ bb ≤ 6 ∧ r = nI c ∧ zm_R li (fun i => ad i / 2 ^ bb) n M c)
def zm_bs (n : Nat) (ad : Nat → Nat) (x y r : Int32) (t : Nat) : Prop :=
  (t = 1 ∧ zm_bad x y) ∨ (t = 0 ∧ ∃ (li bb c : Nat) (nx : Nat → Nat) (E : List Nat), x = nI li ∧ y = nI bb ∧ 1 ≤ li ∧ li ≤ 64 ∧ bb ≤ 6 ∧ r = nI c ∧ (∀ i, zx_NX n (fun i => ad i / 2 ^ bb) i (nx i)) ∧ zb_R li nx n E c)
def zE_f (E : List Nat) (t k : Nat) : List Nat := (E.take k).filter (fun x => decide (x ≠ t))
theorem zE_tk {E : List Nat} {k : Nat} (h : k < E.length) : E.take (k + 1) = E.take k ++ [E.getD k 0] := by
  rw [List.take_succ, zl_g h]; rfl
theorem zE_t {E : List Nat} {t k : Nat} (h : k < E.length) (ht : ¬ E.getD k 0 = t) : zE_f E t (k + 1) = zE_f E t k ++ [E.getD k 0] := by
  unfold zE_f
  rw [zE_tk h, List.filter_append, List.filter_cons_of_pos (by simp only [decide_eq_true_eq]; exact ht)]; rfl
theorem zE_n {E : List Nat} {t k : Nat} (h : k < E.length) (ht : E.getD k 0 = t) : zE_f E t (k + 1) = zE_f E t k := by
  unfold zE_f
  rw [zE_tk h, List.filter_append, List.filter_cons_of_neg (by rw [ht]; simp)]; simp
theorem zE_ct {E : List Nat} {t k : Nat} (h : k < E.length) (ht : ¬ E.getD k 0 = t) : (E.take (k + 1)).count t = (E.take k).count t := by
  rw [zE_tk h, List.count_append, List.count_singleton, if_neg (by simpa only [beq_iff_eq] using ht), Nat.add_zero]
theorem zE_cn {E : List Nat} {t k : Nat} (h : k < E.length) (ht : E.getD k 0 = t) : (E.take (k + 1)).count t = (E.take k).count t + 1 := by
  rw [zE_tk h, List.count_append, List.count_singleton, if_pos (by rw [ht]; simp)]
theorem zE_le {E : List Nat} {t k : Nat} : (zE_f E t k).length ≤ k := by
  have h1 : (zE_f E t k).length ≤ (E.take k).length := List.length_filter_le _ _
  rw [List.length_take] at h1
  omega
theorem zl_push {f : Nat → Int32} {Ls : List Nat} {v : Nat} (h : zl_at f Ls) (hv : v ≤ 400) : zl_at (upd f Ls.length (nI v)) (Ls ++ [v]) := by
  intro j hj
  rw [List.length_append, List.length_singleton] at hj
  by_cases q : j = Ls.length
  · subst q
    rw [pk_us]
    have e : (Ls ++ [v]).getD Ls.length 0 = v := by simp
    rw [e]; exact ⟨rfl, hv⟩
  · rw [pk_un q]
    have e : (Ls ++ [v]).getD j 0 = Ls.getD j 0 := by
      rw [List.getD_eq_getElem?_getD, List.getD_eq_getElem?_getD, List.getElem?_append_left (by omega)]
    rw [e]; exact h j (by omega)
theorem zl_c {f f2 : Nat → Int32} {Ls : List Nat} (h : zl_at f Ls) (hc : ∀ j, j < Ls.length → f2 j = f j) : zl_at f2 Ls := fun j hj => by
  rw [hc j hj]; exact h j hj
theorem zf_AX_c {g g' : Nat → Int32} {n r : Nat} (hc : ∀ j, j < n → g' j = g j) (h : zf_AX g n r) : zf_AX g' n r := by
  obtain ⟨h1, h2, h3⟩ := h
  exact ⟨h1, fun j hj => by rw [hc j hj, hc r h1]; exact h2 j hj, fun j hj => by rw [hc j (by omega), hc r h1]; exact h3 j hj⟩
/-- the last greatest of a row that may be empty -/
def zf_LX (g : Nat → Int32) (k : Nat) (la : Int32) : Prop := (k = 0 ∧ la = -1) ∨ ∃ m, la = nI m ∧ zf_AX g k m
theorem zf_LX_pos {g : Nat → Int32} {k : Nat} {la : Int32} (h : zf_LX g k la) (hl : ¬ la < 0) : ∃ m, la = nI m ∧ zf_AX g k m := by
  rcases h with ⟨-, h⟩ | h
  · rw [h] at hl; exact absurd (by decide) hl
  · exact h
theorem zf_LX_neg {g : Nat → Int32} {k : Nat} {la : Int32} (hk : k < 2 ^ 31) (h : zf_LX g k la) (hl : la < 0) : k = 0 := by
  rcases h with ⟨h, -⟩ | ⟨m, h, h2⟩
  · exact h
  · rw [h] at hl
    have := h2.1
    exact absurd hl (nI_pos (by omega))
theorem zb_in_len {nx : Nat → Nat} {t : Nat} {E : List Nat} : (zb_in nx t E).length ≤ E.length + 1 := by
  unfold zb_in
  split
  · rw [List.length_append]; simp
  · omega
theorem zb_R_len {li : Nat} {nx : Nat → Nat} (h1 : 1 ≤ li) : ∀ (t : Nat) (E : List Nat) (c : Nat), zb_R li nx t E c → E.length < li
  | 0, E, c, h => by rw [h.1]; simp; omega
  | t + 1, E, c, ⟨E0, c0, h, _, hE⟩ => by
    have q := zb_R_len h1 t E0 c0 h
    have h2 := zb_in_len (nx := nx) (t := t) (E := E0)
    have h3 : ((zb_in nx t E0).filter (fun x => decide (x ≠ t))).length ≤ (zb_in nx t E0).length := List.length_filter_le _ _
    rcases hE with ⟨z, e⟩ | ⟨z, v, ⟨l, hl, -, hp⟩, -⟩
    · rw [e]; exact z
    · have := hp.length_eq
      rw [List.length_eraseIdx_of_lt hl] at this
      omega
theorem zb_R_cnt {li : Nat} {nx : Nat → Nat} (h1 : 1 ≤ li) (h64 : li ≤ 64) : ∀ (t : Nat) (E : List Nat) (c : Nat), zb_R li nx t E c → c ≤ 64 * t
  | 0, E, c, h => by rw [h.2]; omega
  | t + 1, E, c, ⟨E0, c0, h, hc, _⟩ => by
    have q := zb_R_cnt h1 h64 t E0 c0 h
    have q2 := zb_R_len h1 t E0 c0 h
    have h2 := zb_in_len (nx := nx) (t := t) (E := E0)
    have h3 : (zb_in nx t E0).count t ≤ (zb_in nx t E0).length := List.count_le_length
    omega
theorem zE_drop {f : Nat → Int32} {F : List Nat} {m : Nat} (hF : zl_at f F) (hm : m < F.length) : zl_at (upd f m (nI (F.getD (F.length - 1) 0))) ((F.set m (F.getD (F.length - 1) 0)).dropLast) ∧ List.Perm ((F.set m (F.getD (F.length - 1) 0)).dropLast) (F.eraseIdx m) ∧ ((F.set m (F.getD (F.length - 1) 0)).dropLast).length = F.length - 1 := by
  have hlen : ((F.set m (F.getD (F.length - 1) 0)).dropLast).length = F.length - 1 := by simp
  refine ⟨fun j hj => ?_, ?_, hlen⟩
  · rw [hlen] at hj
    have e : ((F.set m (F.getD (F.length - 1) 0)).dropLast).getD j 0 = if j = m then F.getD (F.length - 1) 0 else F.getD j 0 := by
      rw [List.getD_eq_getElem?_getD, List.getElem?_dropLast, if_pos (by simp; omega), List.getElem?_set]
      by_cases q : m = j
      · rw [if_pos q, if_pos (by omega), if_pos q.symm]; rfl
      · rw [if_neg q, if_neg (fun z => q z.symm), List.getD_eq_getElem?_getD]
    rw [e]
    by_cases q : j = m
    · rw [if_pos q, q, pk_us]; exact ⟨rfl, (hF _ (by omega)).2⟩
    · rw [if_neg q, pk_un q]; exact hF j (by omega)
  · -- both are F without one m and with one last
    have h1 : List.Perm (F.set m (F.getD (F.length - 1) 0)) (F.getD (F.length - 1) 0 :: F.eraseIdx m) := zp_set _ F m hm
    have hne : F.set m (F.getD (F.length - 1) 0) ≠ [] := by
      intro z
      have := congrArg List.length z
      rw [List.length_set] at this
      simp at this
      rw [this] at hm
      simp at hm
    have h2 := List.dropLast_concat_getLast hne
    have hlast : (F.set m (F.getD (F.length - 1) 0)).getLast hne = F.getD (F.length - 1) 0 := by
      rw [List.getLast_eq_getElem]
      simp only [List.length_set]
      by_cases q : m = F.length - 1
      · subst q; simp
      · rw [List.getElem_set_ne q]
        simp [show F.length - 1 < F.length by omega]
    rw [hlast] at h2
    rw [← h2] at h1
    have h3 : List.Perm (F.getD (F.length - 1) 0 :: (F.set m (F.getD (F.length - 1) 0)).dropLast) (F.getD (F.length - 1) 0 :: F.eraseIdx m) := (List.perm_append_comm (l₁ := [F.getD (F.length - 1) 0])).trans h1
    exact h3.cons_inv
end
section
def rm_cm_curve : Room := { frames := 1, cells := 0, slots := 0, locals := 26 }
set_option maxHeartbeats 4000000 in
set_option maxRecDepth 100000 in
/-- the curve -/
theorem cm_curve (l : Launch) (dC : Nat → ClassId) (dI : Nat → Nat → Nat) (cI cZ cO cL : ClassId) (q : Nat → Nat) (th : Nat) (n : Nat) (lc : Nat) (kp : Nat) (ga : Nat → Int32) (gn : Nat → Int32) (gq : Nat → Int32) (ad : Nat → Nat) (x : Int32) (y : Int32) (hn : n ≤ 400) (hga : ∀ j, j < n → ga j = nI (ad j) ∧ ad j < 4096) : zz_Mi l ky_M_curve kw_M_curve rm_cm_curve (dC, dI) (zz_ty cI cZ cO cL) [(q 0, zm_ob q th n lc kp), (q 1, .inl (cI, 400, .inl ga)), (q 16, .inl (cI, 64, .inl gn)), (q 17, .inl (cI, 64, .inl gq))] [.ref (q 0), .int x, .int y] (fun (r : Int32) (w : va_W) => ∃ (t2 : Nat), ∃ (lc2 : Nat), ∃ (gn2 : Nat → Int32), ∃ (gq2 : Nat → Int32), w = [(q 0, zm_ob q t2 n lc2 kp), (q 1, .inl (cI, 400, .inl ga)), (q 16, .inl (cI, 64, .inl gn2)), (q 17, .inl (cI, 64, .inl gq2))] ∧ (zm_cv n ad x y r t2)) 0 0 := by
  refine zz_entry_i (cc := kb_M_curve) (maxL := 5) (own := zk_RM) (by decide) rfl rfl (Nat.le_of_ble_eq_true rfl) ?_
  intro p e s m args below meth c Q hx hb hml hown hts hin hP hK A hD hA hS hret ls hl
  have hl : lv_has ls 5 [(0, .ref (q 0)), (1, .int x), (2, .int y)] := hl
  obtain ⟨H, eH⟩ : ∃ z, z = s.heap := ⟨_, rfl⟩
  obtain ⟨locs, eL⟩ : ∃ z : List Loc, z = [] := ⟨_, rfl⟩
  rw [← eH] at hP ⊢
  have hS : va_S A s.heap H locs := by rw [eH, eL]; exact hS
  rw [← eL]
  refine lv_aload_n hx hb kd_M_curve_0 rfl (lv_at hl 0 rfl) ?_
  refine lv_iload_n hx hb kd_M_curve_1 rfl (lv_at hl 1 rfl) ?_
  refine lv_iconst (v := nI 1) hx hb kd_M_curve_2 (by decide) ?_
  refine lv_bipush (v := nI 64) hx hb kd_M_curve_3 (by decide) ?_
  refine zz_iS (As := [.int x, .int (nI 1), .int (nI 64)]) (rest := [.ref (q 0)]) (wc := []) (wr := [(q 0, zm_ob q th n lc kp), (q 1, .inl (cI, 400, .inl ga)), (q 16, .inl (cI, 64, .inl gn)), (q 17, .inl (cI, 64, .inl gq))]) ⟨hx, hb, hml, hown, hts⟩ (cm_in l dC dI cI cZ cO cL x (nI 1) (nI 64) ) (zz_cwS hts kj_400 kj_27 kj_398 kj_399 kz_M_in rfl rfl ⟨Nat.le_of_ble_eq_true rfl, Nat.le_of_ble_eq_true rfl⟩) hP hD hK hS hA rfl hl.1 rfl (Nat.le_of_ble_eq_true rfl) kd_M_curve_5 ⟨by decide, by decide⟩ (fun r9 w9 H locs hw hP hD hS => ?_)
  obtain ⟨h_1, rfl, rfl, hin5, hb15⟩ := hw
  have hP : va_P (dC, dI) zk_cl [(q 0, zm_ob q th n lc kp), (q 1, .inl (cI, 400, .inl ga)), (q 16, .inl (cI, 64, .inl gn)), (q 17, .inl (cI, 64, .inl gq))] H := hP
  have hD : va_D A [(q 0, zm_ob q th n lc kp), (q 1, .inl (cI, 400, .inl ga)), (q 16, .inl (cI, 64, .inl gn)), (q 17, .inl (cI, 64, .inl gq))] := hD
  refine zz_if_eq (tgt := 21) hx hb kd_M_curve_8 (by decide) (by omega) (fun c8 => ?_) (fun c8 => ?_)
  · skip
    refine lv_iconst (v := nI 1) hx hb kd_M_curve_21 (by decide) ?_
    refine lv_goto (tgt := 26) hx hb kd_M_curve_22 (by decide) ?_
    refine lv_iconst (v := nI 0) hx hb kd_M_curve_26 (by decide) ?_
    refine lv_iconst (v := nI 0) hx hb kd_M_curve_27 (by decide) ?_
    refine zz_iV (As := [.int (nI 1), .int (nI 0), .int (nI 0)]) (rest := []) (wc := [(q 0, zm_ob q th n lc kp)]) (wr := [(q 1, .inl (cI, 400, .inl ga)), (q 16, .inl (cI, 64, .inl gn)), (q 17, .inl (cI, 64, .inl gq))]) ⟨hx, hb, hml, hown, hts⟩ (cm_refuse l dC dI cI cZ cO cL q th n lc kp 1 0 0 (by omega) (by omega) (by omega)) (zz_cwV hts kj_403 kj_27 kj_401 kj_402 kj_13 kz_M_refuse rfl rfl ⟨Nat.le_of_ble_eq_true rfl, Nat.le_of_ble_eq_true rfl⟩) (hP.sub [1, 2, 3, 0] rfl) (hD.sub [1, 2, 3, 0] (by decide) rfl) hK hS hA (q0 := 0) rfl rfl rfl rfl hl.1 rfl (Nat.le_of_ble_eq_true rfl) kd_M_curve_28 ⟨by decide, by decide⟩ (fun r9 w9 H locs hw hP hD hS => ?_)
    obtain ⟨t1, h0, rfl, rfl, hrf28, hh28, hb128⟩ := hw
    have hP : va_P (dC, dI) zk_cl [(q 1, .inl (cI, 400, .inl ga)), (q 16, .inl (cI, 64, .inl gn)), (q 17, .inl (cI, 64, .inl gq)), (q 0, zm_ob q t1 n lc kp)] H := hP
    have hD : va_D A [(q 1, .inl (cI, 400, .inl ga)), (q 16, .inl (cI, 64, .inl gn)), (q 17, .inl (cI, 64, .inl gq)), (q 0, zm_ob q t1 n lc kp)] := hD
    refine zz_if_eq (tgt := 36) hx hb kd_M_curve_31 (by decide) (by omega) (fun c31 => ?_) (fun c31 => ?_)
    · skip
      exact absurd c31 (by unfold zm_rf at hrf28; omega)
    · skip
      refine lv_iconst (v := nI 0) hx hb kd_M_curve_34 (by decide) ?_
      exact hret _ _ _ _ _ _ kd_M_curve_35 (hP.sub [3, 0, 1, 2] rfl) (hD.sub [3, 0, 1, 2] (by decide) rfl) hS (⟨t1, lc, gn, gq, rfl, (Or.inl ⟨by unfold zm_rf at hrf28; omega, by first | exact Or.inl (fun k a b => zm_in0 (by decide) (by decide) hin5 c8 k a b) | exact Or.inr (fun k a => zm_in0 (by decide) (by decide) hin15 c18 k (by omega) a)⟩)⟩)
  · skip
    obtain ⟨li, hli1, hli2, ex⟩ := zm_inN (by decide) (by decide) hin5 c8
    subst ex
    refine lv_iload_n hx hb kd_M_curve_11 rfl (lv_at hl 2 rfl) ?_
    refine lv_iconst (v := nI 0) hx hb kd_M_curve_12 (by decide) ?_
    refine lv_bipush (v := nI 6) hx hb kd_M_curve_13 (by decide) ?_
    refine zz_iS (As := [.int y, .int (nI 0), .int (nI 6)]) (rest := [.ref (q 0)]) (wc := []) (wr := [(q 0, zm_ob q th n lc kp), (q 1, .inl (cI, 400, .inl ga)), (q 16, .inl (cI, 64, .inl gn)), (q 17, .inl (cI, 64, .inl gq))]) ⟨hx, hb, hml, hown, hts⟩ (cm_in l dC dI cI cZ cO cL y (nI 0) (nI 6) ) (zz_cwS hts kj_400 kj_27 kj_398 kj_399 kz_M_in rfl rfl ⟨Nat.le_of_ble_eq_true rfl, Nat.le_of_ble_eq_true rfl⟩) hP hD hK hS hA rfl hl.1 rfl (Nat.le_of_ble_eq_true rfl) kd_M_curve_15 ⟨by decide, by decide⟩ (fun r9 w9 H locs hw hP hD hS => ?_)
    obtain ⟨h_4, rfl, rfl, hin15, hb115⟩ := hw
    have hP : va_P (dC, dI) zk_cl [(q 0, zm_ob q th n lc kp), (q 1, .inl (cI, 400, .inl ga)), (q 16, .inl (cI, 64, .inl gn)), (q 17, .inl (cI, 64, .inl gq))] H := hP
    have hD : va_D A [(q 0, zm_ob q th n lc kp), (q 1, .inl (cI, 400, .inl ga)), (q 16, .inl (cI, 64, .inl gn)), (q 17, .inl (cI, 64, .inl gq))] := hD
    refine zz_if_ne (tgt := 25) hx hb kd_M_curve_18 (by decide) (by omega) (fun c18 => ?_) (fun c18 => ?_)
    · skip
      obtain ⟨bb, hbb1, hbb, ey⟩ := zm_inN (by decide) (by decide) hin15 c18
      subst ey
      refine lv_iconst (v := nI 0) hx hb kd_M_curve_25 (by decide) ?_
      refine lv_iconst (v := nI 0) hx hb kd_M_curve_26 (by decide) ?_
      refine lv_iconst (v := nI 0) hx hb kd_M_curve_27 (by decide) ?_
      refine zz_iV (As := [.int (nI 0), .int (nI 0), .int (nI 0)]) (rest := []) (wc := [(q 0, zm_ob q th n lc kp)]) (wr := [(q 1, .inl (cI, 400, .inl ga)), (q 16, .inl (cI, 64, .inl gn)), (q 17, .inl (cI, 64, .inl gq))]) ⟨hx, hb, hml, hown, hts⟩ (cm_refuse l dC dI cI cZ cO cL q th n lc kp 0 0 0 (by omega) (by omega) (by omega)) (zz_cwV hts kj_403 kj_27 kj_401 kj_402 kj_13 kz_M_refuse rfl rfl ⟨Nat.le_of_ble_eq_true rfl, Nat.le_of_ble_eq_true rfl⟩) (hP.sub [1, 2, 3, 0] rfl) (hD.sub [1, 2, 3, 0] (by decide) rfl) hK hS hA (q0 := 0) rfl rfl rfl rfl hl.1 rfl (Nat.le_of_ble_eq_true rfl) kd_M_curve_28 ⟨by decide, by decide⟩ (fun r9 w9 H locs hw hP hD hS => ?_)
      obtain ⟨t1, h0, rfl, rfl, hrf28, hh28, hb128⟩ := hw
      have hP : va_P (dC, dI) zk_cl [(q 1, .inl (cI, 400, .inl ga)), (q 16, .inl (cI, 64, .inl gn)), (q 17, .inl (cI, 64, .inl gq)), (q 0, zm_ob q t1 n lc kp)] H := hP
      have hD : va_D A [(q 1, .inl (cI, 400, .inl ga)), (q 16, .inl (cI, 64, .inl gn)), (q 17, .inl (cI, 64, .inl gq)), (q 0, zm_ob q t1 n lc kp)] := hD
      refine zz_if_eq (tgt := 36) hx hb kd_M_curve_31 (by decide) (by omega) (fun c31 => ?_) (fun c31 => ?_)
      · skip
        refine lv_aload_n hx hb kd_M_curve_36 rfl (lv_at hl 0 rfl) ?_
        refine lv_iconst (v := nI 0) hx hb kd_M_curve_37 (by decide) ?_
        refine va_put (D := (dC, dI)) (ci := 3) (v := .int (nI 0)) (ty := .int) (C := zk_RM) (T := zk_TM) (N := 22) hx hb hts kl_M zk_tM zk_kM zk_nM hown hK hP hD hS 3 rfl rfl 17 (by decide) (hts _ kj_363) (fun _ h9 => h9) rfl (by decide +kernel) rfl rfl (Nat.le_of_ble_eq_true rfl) kd_M_curve_38 (fun H locs hP hD hS => ?_)
        have hP : va_P (dC, dI) zk_cl [(q 1, .inl (cI, 400, .inl ga)), (q 16, .inl (cI, 64, .inl gn)), (q 17, .inl (cI, 64, .inl gq)), (q 0, zm_ob q t1 n 0 kp)] H := hP
        have hD : va_D A [(q 1, .inl (cI, 400, .inl ga)), (q 16, .inl (cI, 64, .inl gn)), (q 17, .inl (cI, 64, .inl gq)), (q 0, zm_ob q t1 n 0 kp)] := hD
        refine lv_iconst (v := nI 0) hx hb kd_M_curve_41 (by decide) ?_
        refine lv_istore_n (lv' := [(3, .int (nI 0)), (0, .ref (q 0)), (1, .int (nI li)), (2, .int (nI bb))]) hx hb kd_M_curve_42 rfl hl (by decide) rfl (fun ls hl => ?_)
        refine lv_iconst (v := nI 0) hx hb kd_M_curve_43 (by decide) ?_
        refine lv_istore (lv' := [(4, .int (nI 0)), (3, .int (nI 0)), (0, .ref (q 0)), (1, .int (nI li)), (2, .int (nI bb))]) hx hb kd_M_curve_44 hl (by decide) rfl (fun ls hl => ?_)
        have hc46 : ∀ (nn : Nat), ∀ (i : Nat) (cn : Nat) (lc1 : Nat) (M : List (Nat × Nat)) (gn1 : Nat → Int32) (gq1 : Nat → Int32), n - i < nn → (i ≤ n) → (zm_R li (fun i => ad i / 2 ^ bb) i M cn) → (zM_at gn1 gq1 M) → (lc1 = M.length) → ∀ (H : Heap) (locs : List Loc), va_P (dC, dI) zk_cl [(q 0, zm_ob q t1 n lc1 kp), (q 1, .inl (cI, 400, .inl ga)), (q 16, .inl (cI, 64, .inl gn1)), (q 17, .inl (cI, 64, .inl gq1))] H → va_D A [(q 0, zm_ob q t1 n lc1 kp), (q 1, .inl (cI, 400, .inl ga)), (q 16, .inl (cI, 64, .inl gn1)), (q 17, .inl (cI, 64, .inl gq1))] → va_S A s.heap H locs → ∀ ls : Array Slot, lv_has ls 5 [(0, .ref (q 0)), (1, .int (nI li)), (2, .int (nI bb)), (3, .int (nI cn)), (4, .int (nI i))] → W p l e rm_cm_curve s m args below meth c H locs 0 0 Q (F0 m 46 ls []) := by
          intro nn
          induction nn with
          | zero => intro i cn lc1 M gn1 gq1 hm; exact absurd hm (Nat.not_lt_zero _)
          | succ nn ih =>
            intro i cn lc1 M gn1 gq1 hm hi hR hM hlc H locs hP hD hS ls hl
            have hL := zm_R_len hli1 i M cn hR
            have hcn := zm_R_cnt i M cn hR
            refine lv_iload hx hb kd_M_curve_46 (lv_at hl 4 rfl) ?_
            refine lv_aload_n hx hb kd_M_curve_48 rfl (lv_at hl 0 rfl) ?_
            refine va_get (D := (dC, dI)) (ci := 3) (v := .int (nI n)) (C := zk_RM) (T := zk_TM) (N := 22) hx hb hts kl_M hown hK hP 0 rfl rfl 1 (by decide) (hts _ kj_347) (fun _ h9 => h9) rfl kd_M_curve_49 ?_
            refine zz_icmp_ge (tgt := 88) hx hb kd_M_curve_52 (by decide) (by omega) (by omega) (fun c52 => ?_) (fun c52 => ?_)
            · skip
              refine lv_iload_n hx hb kd_M_curve_88 rfl (lv_at hl 3 rfl) ?_
              exact hret _ _ _ _ _ _ kd_M_curve_89 hP hD hS (⟨t1, lc1, gn1, gq1, rfl, (Or.inr ⟨by unfold zm_rf at hrf28; omega, li, bb, cn, M, rfl, rfl, hli1, hli2, hbb, rfl, (show i = n by omega) ▸ hR⟩)⟩)
            · skip
              refine lv_aload_n hx hb kd_M_curve_55 rfl (lv_at hl 0 rfl) ?_
              refine lv_aload_n hx hb kd_M_curve_56 rfl (lv_at hl 0 rfl) ?_
              refine va_get (D := (dC, dI)) (ci := 3) (v := .ref (q 1)) (C := zk_RM) (T := zk_TM) (N := 22) hx hb hts kl_M hown hK hP 0 rfl rfl 2 (by decide) (hts _ kj_348) (fun _ h9 => h9) rfl kd_M_curve_57 ?_
              refine lv_iload hx hb kd_M_curve_60 (lv_at hl 4 rfl) ?_
              refine zz_iald hx hb hK hP 1 0 rfl rfl (k := i) (by omega) (by decide) kd_M_curve_62 ?_
              refine zz_top (y := nI (ad i)) ((hga i c52).1) ?_
              have hbk : (fun i => ad i / 2 ^ bb) i < 4096 := Nat.lt_of_le_of_lt (Nat.div_le_self _ _) (hga i c52).2
              refine lv_iload_n hx hb kd_M_curve_63 rfl (lv_at hl 2 rfl) ?_
              refine lv_ishr hx hb kd_M_curve_64 ?_
              refine zz_top (y := nI (ad i / 2 ^ bb)) (zn_shr (by have := (hga i c52).2; omega) (by omega)) ?_
              refine lv_iload_n hx hb kd_M_curve_65 rfl (lv_at hl 1 rfl) ?_
              refine lv_iload hx hb kd_M_curve_66 (lv_at hl 4 rfl) ?_
              refine zz_iV (As := [.int (nI (ad i / 2 ^ bb)), .int (nI li), .int (nI i)]) (rest := []) (wc := [(q 0, zm_ob q t1 n lc1 kp), (q 16, .inl (cI, 64, .inl gn1)), (q 17, .inl (cI, 64, .inl gq1))]) (wr := [(q 1, .inl (cI, 400, .inl ga))]) ⟨hx, hb, hml, hown, hts⟩ (cm_comes l dC dI cI cZ cO cL q t1 n lc1 kp gn1 gq1 (ad i / 2 ^ bb) li i (by omega) (by omega) (hbk)) (zz_cwV hts kj_454 kj_27 kj_452 kj_453 kj_22 kz_M_comes rfl rfl ⟨Nat.le_of_ble_eq_true rfl, Nat.le_of_ble_eq_true rfl⟩) (hP.sub [1, 0, 2, 3] rfl) (hD.sub [1, 0, 2, 3] (by decide) rfl) hK hS hA (q0 := 0) rfl rfl rfl rfl hl.1 rfl (Nat.le_of_ble_eq_true rfl) kd_M_curve_68 ⟨by decide, by decide⟩ (fun r9 w9 H locs hw hP hD hS => ?_)
              obtain ⟨h1, l1, lc3, rfl, rfl, g168, hb168⟩ := hw
              have hP : va_P (dC, dI) zk_cl [(q 1, .inl (cI, 400, .inl ga)), (q 0, zm_ob q t1 n lc3 kp), (q 16, .inl (cI, 64, .inl (upd gn1 l1 (nI (ad i / 2 ^ bb))))), (q 17, .inl (cI, 64, .inl (upd gq1 l1 (nI i))))] H := hP
              have hD : va_D A [(q 1, .inl (cI, 400, .inl ga)), (q 0, zm_ob q t1 n lc3 kp), (q 16, .inl (cI, 64, .inl (upd gn1 l1 (nI (ad i / 2 ^ bb))))), (q 17, .inl (cI, 64, .inl (upd gq1 l1 (nI i))))] := hD
              have hst := zm_R_s (bk := (fun i => ad i / 2 ^ bb)) hR hM hlc hbk g168
              refine zz_if_eq (tgt := 80) hx hb kd_M_curve_71 (by decide) (by omega) (fun c71 => ?_) (fun c71 => ?_)
              · skip
                refine lv_iload_n hx hb kd_M_curve_80 rfl (lv_at hl 3 rfl) ?_
                refine lv_istore_n (lv' := [(3, .int (nI cn)), (0, .ref (q 0)), (1, .int (nI li)), (2, .int (nI bb)), (4, .int (nI i))]) hx hb kd_M_curve_81 rfl hl (by decide) rfl (fun ls hl => ?_)
                refine lv_iinc (v := nI (i + 1)) (lv' := [(4, .int (nI (i + 1))), (3, .int (nI cn)), (0, .ref (q 0)), (1, .int (nI li)), (2, .int (nI bb))]) hx hb kd_M_curve_82 hl (k := 4) rfl (by first | exact nI_1 _ | (show _ + _ = _; exact nI_1 _)) (by decide) rfl (fun ls hl => ?_)
                refine lv_goto (tgt := 46) hx hb kd_M_curve_85 (by decide) ?_
                exact ih (i + 1) cn lc3 (zm_up M l1 ((fun i => ad i / 2 ^ bb) i, i)) (upd gn1 l1 (nI (ad i / 2 ^ bb))) (upd gq1 l1 (nI i)) (by omega) (by omega) (by first | (have := hst.1; rw [show h1 = 1 by omega] at this; exact this) | (have := hst.1; rw [show h1 = 0 by omega] at this; exact this)) (zM_up hM hbk (by omega) hst.2.2) (hst.2.1) _ _ (hP.sub [1, 0, 2, 3] rfl) (hD.sub [1, 0, 2, 3] (by decide) rfl) hS ls (lv_sub hl [2, 3, 4, 1, 0] rfl)
              · skip
                refine lv_iload_n hx hb kd_M_curve_74 rfl (lv_at hl 3 rfl) ?_
                refine lv_iconst (v := nI 1) hx hb kd_M_curve_75 (by decide) ?_
                refine lv_iadd hx hb kd_M_curve_76 ?_
                refine zz_top (y := nI (cn + 1)) (nI_add _ _) ?_
                refine lv_goto (tgt := 81) hx hb kd_M_curve_77 (by decide) ?_
                refine lv_istore_n (lv' := [(3, .int (nI (cn + 1))), (0, .ref (q 0)), (1, .int (nI li)), (2, .int (nI bb)), (4, .int (nI i))]) hx hb kd_M_curve_81 rfl hl (by decide) rfl (fun ls hl => ?_)
                refine lv_iinc (v := nI (i + 1)) (lv' := [(4, .int (nI (i + 1))), (3, .int (nI (cn + 1))), (0, .ref (q 0)), (1, .int (nI li)), (2, .int (nI bb))]) hx hb kd_M_curve_82 hl (k := 4) rfl (by first | exact nI_1 _ | (show _ + _ = _; exact nI_1 _)) (by decide) rfl (fun ls hl => ?_)
                refine lv_goto (tgt := 46) hx hb kd_M_curve_85 (by decide) ?_
                exact ih (i + 1) (cn + 1) lc3 (zm_up M l1 ((fun i => ad i / 2 ^ bb) i, i)) (upd gn1 l1 (nI (ad i / 2 ^ bb))) (upd gq1 l1 (nI i)) (by omega) (by omega) (by first | (have := hst.1; rw [show h1 = 1 by omega] at this; exact this) | (have := hst.1; rw [show h1 = 0 by omega] at this; exact this)) (zM_up hM hbk (by omega) hst.2.2) (hst.2.1) _ _ (hP.sub [1, 0, 2, 3] rfl) (hD.sub [1, 0, 2, 3] (by decide) rfl) hS ls (lv_sub hl [2, 3, 4, 1, 0] rfl)
        exact hc46 _ 0 0 0 ([]) gn gq (Nat.lt_succ_self _) (by omega) (⟨rfl, rfl⟩) (fun j h => by simp at h) (rfl) _ _ (hP.sub [3, 0, 1, 2] rfl) (hD.sub [3, 0, 1, 2] (by decide) rfl) hS ls (lv_sub hl [2, 3, 4, 1, 0] rfl)
      · skip
        exact absurd c31 (by unfold zm_rf at hrf28; omega)
    · skip
      refine lv_iconst (v := nI 1) hx hb kd_M_curve_21 (by decide) ?_
      refine lv_goto (tgt := 26) hx hb kd_M_curve_22 (by decide) ?_
      refine lv_iconst (v := nI 0) hx hb kd_M_curve_26 (by decide) ?_
      refine lv_iconst (v := nI 0) hx hb kd_M_curve_27 (by decide) ?_
      refine zz_iV (As := [.int (nI 1), .int (nI 0), .int (nI 0)]) (rest := []) (wc := [(q 0, zm_ob q th n lc kp)]) (wr := [(q 1, .inl (cI, 400, .inl ga)), (q 16, .inl (cI, 64, .inl gn)), (q 17, .inl (cI, 64, .inl gq))]) ⟨hx, hb, hml, hown, hts⟩ (cm_refuse l dC dI cI cZ cO cL q th n lc kp 1 0 0 (by omega) (by omega) (by omega)) (zz_cwV hts kj_403 kj_27 kj_401 kj_402 kj_13 kz_M_refuse rfl rfl ⟨Nat.le_of_ble_eq_true rfl, Nat.le_of_ble_eq_true rfl⟩) (hP.sub [1, 2, 3, 0] rfl) (hD.sub [1, 2, 3, 0] (by decide) rfl) hK hS hA (q0 := 0) rfl rfl rfl rfl hl.1 rfl (Nat.le_of_ble_eq_true rfl) kd_M_curve_28 ⟨by decide, by decide⟩ (fun r9 w9 H locs hw hP hD hS => ?_)
      obtain ⟨t1, h0, rfl, rfl, hrf28, hh28, hb128⟩ := hw
      have hP : va_P (dC, dI) zk_cl [(q 1, .inl (cI, 400, .inl ga)), (q 16, .inl (cI, 64, .inl gn)), (q 17, .inl (cI, 64, .inl gq)), (q 0, zm_ob q t1 n lc kp)] H := hP
      have hD : va_D A [(q 1, .inl (cI, 400, .inl ga)), (q 16, .inl (cI, 64, .inl gn)), (q 17, .inl (cI, 64, .inl gq)), (q 0, zm_ob q t1 n lc kp)] := hD
      refine zz_if_eq (tgt := 36) hx hb kd_M_curve_31 (by decide) (by omega) (fun c31 => ?_) (fun c31 => ?_)
      · skip
        exact absurd c31 (by unfold zm_rf at hrf28; omega)
      · skip
        refine lv_iconst (v := nI 0) hx hb kd_M_curve_34 (by decide) ?_
        exact hret _ _ _ _ _ _ kd_M_curve_35 (hP.sub [3, 0, 1, 2] rfl) (hD.sub [3, 0, 1, 2] (by decide) rfl) hS (⟨t1, lc, gn, gq, rfl, (Or.inl ⟨by unfold zm_rf at hrf28; omega, by first | exact Or.inl (fun k a b => zm_in0 (by decide) (by decide) hin5 c8 k a b) | exact Or.inr (fun k a => zm_in0 (by decide) (by decide) hin15 c18 k (by omega) a)⟩)⟩)
end
section
/-! PURE ROWS 11: a step of the reference's best -/
theorem zE_all {E : List Nat} {t k : Nat} (hk : k = E.length) : zE_f E t k = E.filter (fun x => decide (x ≠ t)) := by
  unfold zE_f; rw [hk, List.take_length]
theorem zb_R_s1 {li : Nat} {nx : Nat → Nat} {t c c2 k : Nat} {E E1 : List Nat} (hR : zb_R li nx t E c) (hin : E1 = zb_in nx t E) (hk : k = E1.length) (hc : c2 = c + (E1.take k).count t) (hl : (zE_f E1 t k).length < li) : zb_R li nx (t + 1) (zE_f E1 t k) c2 := by
  have e := zE_all (t := t) hk
  rw [hk, List.take_length] at hc
  rw [e] at hl ⊢
  subst hin
  exact ⟨E, c, hR, hc, Or.inl ⟨hl, rfl⟩⟩
theorem zb_R_s2 {li : Nat} {nx : Nat → Nat} {t c c2 k m : Nat} {E E1 : List Nat} {g : Nat → Int32} (hR : zb_R li nx t E c) (hin : E1 = zb_in nx t E) (hk : k = E1.length) (hc : c2 = c + (E1.take k).count t) (hl : ¬ (zE_f E1 t k).length < li) (hF : zl_at g (zE_f E1 t k)) (hax : zf_AX g (zE_f E1 t k).length m) :
    zb_R li nx (t + 1) (((zE_f E1 t k).set m ((zE_f E1 t k).getD ((zE_f E1 t k).length - 1) 0)).dropLast) c2 := by
  obtain ⟨v, hv, hmax⟩ := zl_max hF hax
  have hp := (zE_drop hF hax.1).2.1
  have hm := hax.1
  have e := zE_all (t := t) hk
  rw [hk, List.take_length] at hc
  generalize zE_f E1 t k = F at hp hm hv hmax hl e
  subst e
  subst hin
  exact ⟨E, c, hR, hc, Or.inr ⟨hl, v, ⟨m, hm, hv, hp⟩, hmax⟩⟩
theorem zb_in_0 {nx : Nat → Nat} {E : List Nat} {t : Nat} (h : t = 0 ∨ nx (t - 1) = 400) : E = zb_in nx t E := by
  unfold zb_in
  rw [if_neg]
  rintro ⟨h1, h2⟩
  rcases h with h | h
  · omega
  · exact h2 h
theorem zb_in_1 {nx : Nat → Nat} {E : List Nat} {t u : Nat} (h0 : 0 < t) (h : nx (t - 1) = u) (hu : u ≠ 400) : E ++ [u] = zb_in nx t E := by
  unfold zb_in
  rw [if_pos ⟨h0, by rw [h]; exact hu⟩, h]
theorem zx_re {n : Nat} {bk : Nat → Nat} {k : Nat} {r : Int32} (h : (∃ u, u < n ∧ r = nI u ∧ zx_NX n bk k u) ∨ (r = -1 ∧ zx_NX n bk k 400)) (hr : ¬ r < 0) : ∃ u, u < n ∧ r = nI u ∧ zx_NX n bk k u := by
  rcases h with h | ⟨h, -⟩
  · exact h
  · rw [h] at hr; exact absurd (by decide) hr
theorem zx_rn {n : Nat} {bk : Nat → Nat} {k : Nat} {r : Int32} (hn : n < 2 ^ 31) (h : (∃ u, u < n ∧ r = nI u ∧ zx_NX n bk k u) ∨ (r = -1 ∧ zx_NX n bk k 400)) (hr : r < 0) : zx_NX n bk k 400 := by
  rcases h with ⟨u, h1, h2, -⟩ | ⟨-, h⟩
  · rw [h2] at hr; exact absurd hr (nI_pos (by omega))
  · exact h
end
section
def rm_cm_best : Room := { frames := 1, cells := 0, slots := 0, locals := 23 }
set_option maxHeartbeats 4000000 in
set_option maxRecDepth 100000 in
/-- the best -/
theorem cm_best (l : Launch) (dC : Nat → ClassId) (dI : Nat → Nat → Nat) (cI cZ cO cL : ClassId) (q : Nat → Nat) (th : Nat) (n : Nat) (lc : Nat) (kp : Nat) (ga : Nat → Int32) (ge : Nat → Int32) (ad : Nat → Nat) (x : Int32) (y : Int32) (hn : n ≤ 400) (hga : ∀ j, j < n → ga j = nI (ad j) ∧ ad j < 4096) : zz_Mi l ky_M_best kw_M_best rm_cm_best (dC, dI) (zz_ty cI cZ cO cL) [(q 0, zm_ob q th n lc kp), (q 1, .inl (cI, 400, .inl ga)), (q 18, .inl (cI, 400, .inl ge))] [.ref (q 0), .int x, .int y] (fun (r : Int32) (w : va_W) => ∃ (t2 : Nat), ∃ (kp2 : Nat), ∃ (ge2 : Nat → Int32), w = [(q 0, zm_ob q t2 n lc kp2), (q 1, .inl (cI, 400, .inl ga)), (q 18, .inl (cI, 400, .inl ge2))] ∧ (zm_bs n ad x y r t2)) 0 0 := by
  refine zz_entry_i (cc := kb_M_best) (maxL := 9) (own := zk_RM) (by decide) rfl rfl (Nat.le_of_ble_eq_true rfl) ?_
  intro p e s m args below meth c Q hx hb hml hown hts hin hP hK A hD hA hS hret ls hl
  have hl : lv_has ls 9 [(0, .ref (q 0)), (1, .int x), (2, .int y)] := hl
  obtain ⟨H, eH⟩ : ∃ z, z = s.heap := ⟨_, rfl⟩
  obtain ⟨locs, eL⟩ : ∃ z : List Loc, z = [] := ⟨_, rfl⟩
  rw [← eH] at hP ⊢
  have hS : va_S A s.heap H locs := by rw [eH, eL]; exact hS
  rw [← eL]
  refine lv_aload_n hx hb kd_M_best_0 rfl (lv_at hl 0 rfl) ?_
  refine lv_iload_n hx hb kd_M_best_1 rfl (lv_at hl 1 rfl) ?_
  refine lv_iconst (v := nI 1) hx hb kd_M_best_2 (by decide) ?_
  refine lv_bipush (v := nI 64) hx hb kd_M_best_3 (by decide) ?_
  refine zz_iS (As := [.int x, .int (nI 1), .int (nI 64)]) (rest := [.ref (q 0)]) (wc := []) (wr := [(q 0, zm_ob q th n lc kp), (q 1, .inl (cI, 400, .inl ga)), (q 18, .inl (cI, 400, .inl ge))]) ⟨hx, hb, hml, hown, hts⟩ (cm_in l dC dI cI cZ cO cL x (nI 1) (nI 64) ) (zz_cwS hts kj_400 kj_27 kj_398 kj_399 kz_M_in rfl rfl ⟨Nat.le_of_ble_eq_true rfl, Nat.le_of_ble_eq_true rfl⟩) hP hD hK hS hA rfl hl.1 rfl (Nat.le_of_ble_eq_true rfl) kd_M_best_5 ⟨by decide, by decide⟩ (fun r9 w9 H locs hw hP hD hS => ?_)
  obtain ⟨h_1, rfl, rfl, hin5, hb15⟩ := hw
  have hP : va_P (dC, dI) zk_cl [(q 0, zm_ob q th n lc kp), (q 1, .inl (cI, 400, .inl ga)), (q 18, .inl (cI, 400, .inl ge))] H := hP
  have hD : va_D A [(q 0, zm_ob q th n lc kp), (q 1, .inl (cI, 400, .inl ga)), (q 18, .inl (cI, 400, .inl ge))] := hD
  refine zz_if_eq (tgt := 21) hx hb kd_M_best_8 (by decide) (by omega) (fun c8 => ?_) (fun c8 => ?_)
  · skip
    refine lv_iconst (v := nI 1) hx hb kd_M_best_21 (by decide) ?_
    refine lv_goto (tgt := 26) hx hb kd_M_best_22 (by decide) ?_
    refine lv_iconst (v := nI 0) hx hb kd_M_best_26 (by decide) ?_
    refine lv_iconst (v := nI 0) hx hb kd_M_best_27 (by decide) ?_
    refine zz_iV (As := [.int (nI 1), .int (nI 0), .int (nI 0)]) (rest := []) (wc := [(q 0, zm_ob q th n lc kp)]) (wr := [(q 1, .inl (cI, 400, .inl ga)), (q 18, .inl (cI, 400, .inl ge))]) ⟨hx, hb, hml, hown, hts⟩ (cm_refuse l dC dI cI cZ cO cL q th n lc kp 1 0 0 (by omega) (by omega) (by omega)) (zz_cwV hts kj_403 kj_27 kj_401 kj_402 kj_13 kz_M_refuse rfl rfl ⟨Nat.le_of_ble_eq_true rfl, Nat.le_of_ble_eq_true rfl⟩) (hP.sub [1, 2, 0] rfl) (hD.sub [1, 2, 0] (by decide) rfl) hK hS hA (q0 := 0) rfl rfl rfl rfl hl.1 rfl (Nat.le_of_ble_eq_true rfl) kd_M_best_28 ⟨by decide, by decide⟩ (fun r9 w9 H locs hw hP hD hS => ?_)
    obtain ⟨t1, h0, rfl, rfl, hrf28, hh28, hb128⟩ := hw
    have hP : va_P (dC, dI) zk_cl [(q 1, .inl (cI, 400, .inl ga)), (q 18, .inl (cI, 400, .inl ge)), (q 0, zm_ob q t1 n lc kp)] H := hP
    have hD : va_D A [(q 1, .inl (cI, 400, .inl ga)), (q 18, .inl (cI, 400, .inl ge)), (q 0, zm_ob q t1 n lc kp)] := hD
    refine zz_if_eq (tgt := 36) hx hb kd_M_best_31 (by decide) (by omega) (fun c31 => ?_) (fun c31 => ?_)
    · skip
      exact absurd c31 (by unfold zm_rf at hrf28; omega)
    · skip
      refine lv_iconst (v := nI 0) hx hb kd_M_best_34 (by decide) ?_
      exact hret _ _ _ _ _ _ kd_M_best_35 (hP.sub [2, 0, 1] rfl) (hD.sub [2, 0, 1] (by decide) rfl) hS (⟨t1, kp, ge, rfl, (Or.inl ⟨by unfold zm_rf at hrf28; omega, by first | exact Or.inl (fun k a b => zm_in0 (by decide) (by decide) hin5 c8 k a b) | exact Or.inr (fun k a => zm_in0 (by decide) (by decide) hin15 c18 k (by omega) a)⟩)⟩)
  · skip
    obtain ⟨li, hli1, hli2, ex⟩ := zm_inN (by decide) (by decide) hin5 c8
    subst ex
    refine lv_iload_n hx hb kd_M_best_11 rfl (lv_at hl 2 rfl) ?_
    refine lv_iconst (v := nI 0) hx hb kd_M_best_12 (by decide) ?_
    refine lv_bipush (v := nI 6) hx hb kd_M_best_13 (by decide) ?_
    refine zz_iS (As := [.int y, .int (nI 0), .int (nI 6)]) (rest := [.ref (q 0)]) (wc := []) (wr := [(q 0, zm_ob q th n lc kp), (q 1, .inl (cI, 400, .inl ga)), (q 18, .inl (cI, 400, .inl ge))]) ⟨hx, hb, hml, hown, hts⟩ (cm_in l dC dI cI cZ cO cL y (nI 0) (nI 6) ) (zz_cwS hts kj_400 kj_27 kj_398 kj_399 kz_M_in rfl rfl ⟨Nat.le_of_ble_eq_true rfl, Nat.le_of_ble_eq_true rfl⟩) hP hD hK hS hA rfl hl.1 rfl (Nat.le_of_ble_eq_true rfl) kd_M_best_15 ⟨by decide, by decide⟩ (fun r9 w9 H locs hw hP hD hS => ?_)
    obtain ⟨h_4, rfl, rfl, hin15, hb115⟩ := hw
    have hP : va_P (dC, dI) zk_cl [(q 0, zm_ob q th n lc kp), (q 1, .inl (cI, 400, .inl ga)), (q 18, .inl (cI, 400, .inl ge))] H := hP
    have hD : va_D A [(q 0, zm_ob q th n lc kp), (q 1, .inl (cI, 400, .inl ga)), (q 18, .inl (cI, 400, .inl ge))] := hD
    refine zz_if_ne (tgt := 25) hx hb kd_M_best_18 (by decide) (by omega) (fun c18 => ?_) (fun c18 => ?_)
    · skip
      obtain ⟨bb, hbb1, hbb, ey⟩ := zm_inN (by decide) (by decide) hin15 c18
      subst ey
      refine lv_iconst (v := nI 0) hx hb kd_M_best_25 (by decide) ?_
      refine lv_iconst (v := nI 0) hx hb kd_M_best_26 (by decide) ?_
      refine lv_iconst (v := nI 0) hx hb kd_M_best_27 (by decide) ?_
      refine zz_iV (As := [.int (nI 0), .int (nI 0), .int (nI 0)]) (rest := []) (wc := [(q 0, zm_ob q th n lc kp)]) (wr := [(q 1, .inl (cI, 400, .inl ga)), (q 18, .inl (cI, 400, .inl ge))]) ⟨hx, hb, hml, hown, hts⟩ (cm_refuse l dC dI cI cZ cO cL q th n lc kp 0 0 0 (by omega) (by omega) (by omega)) (zz_cwV hts kj_403 kj_27 kj_401 kj_402 kj_13 kz_M_refuse rfl rfl ⟨Nat.le_of_ble_eq_true rfl, Nat.le_of_ble_eq_true rfl⟩) (hP.sub [1, 2, 0] rfl) (hD.sub [1, 2, 0] (by decide) rfl) hK hS hA (q0 := 0) rfl rfl rfl rfl hl.1 rfl (Nat.le_of_ble_eq_true rfl) kd_M_best_28 ⟨by decide, by decide⟩ (fun r9 w9 H locs hw hP hD hS => ?_)
      obtain ⟨t1, h0, rfl, rfl, hrf28, hh28, hb128⟩ := hw
      have hP : va_P (dC, dI) zk_cl [(q 1, .inl (cI, 400, .inl ga)), (q 18, .inl (cI, 400, .inl ge)), (q 0, zm_ob q t1 n lc kp)] H := hP
      have hD : va_D A [(q 1, .inl (cI, 400, .inl ga)), (q 18, .inl (cI, 400, .inl ge)), (q 0, zm_ob q t1 n lc kp)] := hD
      refine zz_if_eq (tgt := 36) hx hb kd_M_best_31 (by decide) (by omega) (fun c31 => ?_) (fun c31 => ?_)
      · skip
        refine lv_aload_n hx hb kd_M_best_36 rfl (lv_at hl 0 rfl) ?_
        refine lv_iconst (v := nI 0) hx hb kd_M_best_37 (by decide) ?_
        refine va_put (D := (dC, dI)) (ci := 3) (v := .int (nI 0)) (ty := .int) (C := zk_RM) (T := zk_TM) (N := 22) hx hb hts kl_M zk_tM zk_kM zk_nM hown hK hP hD hS 2 rfl rfl 20 (by decide) (hts _ kj_366) (fun _ h9 => h9) rfl (by decide +kernel) rfl rfl (Nat.le_of_ble_eq_true rfl) kd_M_best_38 (fun H locs hP hD hS => ?_)
        have hP : va_P (dC, dI) zk_cl [(q 1, .inl (cI, 400, .inl ga)), (q 18, .inl (cI, 400, .inl ge)), (q 0, zm_ob q t1 n lc 0)] H := hP
        have hD : va_D A [(q 1, .inl (cI, 400, .inl ga)), (q 18, .inl (cI, 400, .inl ge)), (q 0, zm_ob q t1 n lc 0)] := hD
        obtain ⟨nx, hnx⟩ := zx_all n (fun i => ad i / 2 ^ bb)
        refine lv_iconst (v := nI 0) hx hb kd_M_best_41 (by decide) ?_
        refine lv_istore_n (lv' := [(3, .int (nI 0)), (0, .ref (q 0)), (1, .int (nI li)), (2, .int (nI bb))]) hx hb kd_M_best_42 rfl hl (by decide) rfl (fun ls hl => ?_)
        refine lv_iconst (v := nI 0) hx hb kd_M_best_43 (by decide) ?_
        refine lv_istore (lv' := [(4, .int (nI 0)), (3, .int (nI 0)), (0, .ref (q 0)), (1, .int (nI li)), (2, .int (nI bb))]) hx hb kd_M_best_44 hl (by decide) rfl (fun ls hl => ?_)
        have hc46 : ∀ (nn : Nat), ∀ (t : Nat) (cn : Nat) (kp1 : Nat) (E : List Nat) (ge1 : Nat → Int32), n - t < nn → (t ≤ n) → (zb_R li nx t E cn) → (zl_at ge1 E) → (kp1 = E.length) → ∀ (H : Heap) (locs : List Loc), va_P (dC, dI) zk_cl [(q 0, zm_ob q t1 n lc kp1), (q 1, .inl (cI, 400, .inl ga)), (q 18, .inl (cI, 400, .inl ge1))] H → va_D A [(q 0, zm_ob q t1 n lc kp1), (q 1, .inl (cI, 400, .inl ga)), (q 18, .inl (cI, 400, .inl ge1))] → va_S A s.heap H locs → ∀ ls : Array Slot, lv_has ls 9 [(0, .ref (q 0)), (1, .int (nI li)), (2, .int (nI bb)), (3, .int (nI cn)), (4, .int (nI t))] → W p l e rm_cm_best s m args below meth c H locs 0 0 Q (F0 m 46 ls []) := by
          intro nn
          induction nn with
          | zero => intro t cn kp1 E ge1 hm; exact absurd hm (Nat.not_lt_zero _)
          | succ nn ih =>
            intro t cn kp1 E ge1 hm ht hR hE hkp H locs hP hD hS ls hl
            have hL := zb_R_len hli1 t E cn hR
            have hcn := zb_R_cnt hli1 hli2 t E cn hR
            refine lv_iload hx hb kd_M_best_46 (lv_at hl 4 rfl) ?_
            refine lv_aload_n hx hb kd_M_best_48 rfl (lv_at hl 0 rfl) ?_
            refine va_get (D := (dC, dI)) (ci := 3) (v := .int (nI n)) (C := zk_RM) (T := zk_TM) (N := 22) hx hb hts kl_M hown hK hP 0 rfl rfl 1 (by decide) (hts _ kj_347) (fun _ h9 => h9) rfl kd_M_best_49 ?_
            refine zz_icmp_ge (tgt := 228) hx hb kd_M_best_52 (by decide) (by omega) (by omega) (fun c52 => ?_) (fun c52 => ?_)
            · skip
              refine lv_iload_n hx hb kd_M_best_228 rfl (lv_at hl 3 rfl) ?_
              exact hret _ _ _ _ _ _ kd_M_best_229 hP hD hS (⟨t1, kp1, ge1, rfl, (Or.inr ⟨by unfold zm_rf at hrf28; omega, li, bb, cn, nx, E, rfl, rfl, hli1, hli2, hbb, rfl, hnx, (show t = n by omega) ▸ hR⟩)⟩)
            · skip
              have hc101 : ∀ (kp2 : Nat) (E1 : List Nat) (ge2 : Nat → Int32), (zl_at ge2 E1) → (kp2 = E1.length) → (E1 = zb_in nx t E) → ∀ (H : Heap) (locs : List Loc), va_P (dC, dI) zk_cl [(q 0, zm_ob q t1 n lc kp2), (q 1, .inl (cI, 400, .inl ga)), (q 18, .inl (cI, 400, .inl ge2))] H → va_D A [(q 0, zm_ob q t1 n lc kp2), (q 1, .inl (cI, 400, .inl ga)), (q 18, .inl (cI, 400, .inl ge2))] → va_S A s.heap H locs → ∀ ls : Array Slot, lv_has ls 9 [(0, .ref (q 0)), (1, .int (nI li)), (2, .int (nI bb)), (3, .int (nI cn)), (4, .int (nI t))] → W p l e rm_cm_best s m args below meth c H locs 0 0 Q (F0 m 101 ls []) := by
                intro kp2 E1 ge2 hE1 hkp2 hin H locs hP hD hS ls hl
                have hk64 : kp2 ≤ 64 := by
                  have z := zb_in_len (nx := nx) (t := t) (E := E)
                  rw [← hin] at z
                  omega
                refine lv_iconst (v := nI 0) hx hb kd_M_best_101 (by decide) ?_
                refine lv_istore (lv' := [(6, .int (nI 0)), (0, .ref (q 0)), (1, .int (nI li)), (2, .int (nI bb)), (3, .int (nI cn)), (4, .int (nI t))]) hx hb kd_M_best_102 hl (by decide) rfl (fun ls hl => ?_)
                refine lv_iconst (v := (-1)) hx hb kd_M_best_104 (by decide) ?_
                refine lv_istore (lv' := [(7, .int (-1)), (6, .int (nI 0)), (0, .ref (q 0)), (1, .int (nI li)), (2, .int (nI bb)), (3, .int (nI cn)), (4, .int (nI t))]) hx hb kd_M_best_105 hl (by decide) rfl (fun ls hl => ?_)
                refine lv_iconst (v := nI 0) hx hb kd_M_best_107 (by decide) ?_
                refine lv_istore (lv' := [(8, .int (nI 0)), (7, .int (-1)), (6, .int (nI 0)), (0, .ref (q 0)), (1, .int (nI li)), (2, .int (nI bb)), (3, .int (nI cn)), (4, .int (nI t))]) hx hb kd_M_best_108 hl (by decide) rfl (fun ls hl => ?_)
                have hc110 : ∀ (nn : Nat), ∀ (k : Nat) (lf : Nat) (c2 : Nat) (la : Int32) (ge3 : Nat → Int32), kp2 - k < nn → (k ≤ kp2) → (lf = (zE_f E1 t k).length) → (zl_at ge3 (zE_f E1 t k)) → (∀ j, k ≤ j → j < E1.length → ge3 j = nI (E1.getD j 0)) → (zf_LX ge3 lf la) → (c2 = cn + (E1.take k).count t) → ∀ (H : Heap) (locs : List Loc), va_P (dC, dI) zk_cl [(q 0, zm_ob q t1 n lc kp2), (q 1, .inl (cI, 400, .inl ga)), (q 18, .inl (cI, 400, .inl ge3))] H → va_D A [(q 0, zm_ob q t1 n lc kp2), (q 1, .inl (cI, 400, .inl ga)), (q 18, .inl (cI, 400, .inl ge3))] → va_S A s.heap H locs → ∀ ls : Array Slot, lv_has ls 9 [(0, .ref (q 0)), (1, .int (nI li)), (2, .int (nI bb)), (3, .int (nI c2)), (4, .int (nI t)), (6, .int (nI lf)), (7, .int la), (8, .int (nI k))] → W p l e rm_cm_best s m args below meth c H locs 0 0 Q (F0 m 110 ls []) := by
                  intro nn
                  induction nn with
                  | zero => intro k lf c2 la ge3 hm; exact absurd hm (Nat.not_lt_zero _)
                  | succ nn ih110 =>
                    intro k lf c2 la ge3 hm hk hlf hF hB hla hc2 H locs hP hD hS ls hl
                    have hle := zE_le (E := E1) (t := t) (k := k)
                    refine lv_iload hx hb kd_M_best_110 (lv_at hl 7 rfl) ?_
                    refine lv_aload_n hx hb kd_M_best_112 rfl (lv_at hl 0 rfl) ?_
                    refine va_get (D := (dC, dI)) (ci := 3) (v := .int (nI kp2)) (C := zk_RM) (T := zk_TM) (N := 22) hx hb hts kl_M hown hK hP 0 rfl rfl 20 (by decide) (hts _ kj_366) (fun _ h9 => h9) rfl kd_M_best_113 ?_
                    refine zz_icmp_ge (tgt := 191) hx hb kd_M_best_116 (by decide) (by omega) (by omega) (fun c116 => ?_) (fun c116 => ?_)
                    · skip
                      refine lv_iload hx hb kd_M_best_191 (lv_at hl 5 rfl) ?_
                      refine lv_iload_n hx hb kd_M_best_193 rfl (lv_at hl 1 rfl) ?_
                      refine lv_iconst (v := nI 1) hx hb kd_M_best_194 (by decide) ?_
                      refine lv_isub hx hb kd_M_best_195 ?_
                      refine zz_top (y := nI (li - 1)) (pk_sub (by omega)) ?_
                      refine zz_icmp_le (tgt := 216) hx hb kd_M_best_196 (by decide) (by omega) (by omega) (fun c196 => ?_) (fun c196 => ?_)
                      · skip
                        refine lv_aload_n hx hb kd_M_best_216 rfl (lv_at hl 0 rfl) ?_
                        refine lv_iload hx hb kd_M_best_217 (lv_at hl 5 rfl) ?_
                        refine va_put (D := (dC, dI)) (ci := 3) (v := .int (nI lf)) (ty := .int) (C := zk_RM) (T := zk_TM) (N := 22) hx hb hts kl_M zk_tM zk_kM zk_nM hown hK hP hD hS 0 rfl rfl 20 (by decide) (hts _ kj_366) (fun _ h9 => h9) rfl (by decide +kernel) rfl rfl (Nat.le_of_ble_eq_true rfl) kd_M_best_219 (fun H locs hP hD hS => ?_)
                        have hP : va_P (dC, dI) zk_cl [(q 0, zm_ob q t1 n lc lf), (q 1, .inl (cI, 400, .inl ga)), (q 18, .inl (cI, 400, .inl ge3))] H := hP
                        have hD : va_D A [(q 0, zm_ob q t1 n lc lf), (q 1, .inl (cI, 400, .inl ga)), (q 18, .inl (cI, 400, .inl ge3))] := hD
                        refine lv_iinc (v := nI (t + 1)) (lv' := [(4, .int (nI (t + 1))), (0, .ref (q 0)), (1, .int (nI li)), (2, .int (nI bb)), (3, .int (nI c2)), (6, .int (nI lf)), (7, .int la), (8, .int (nI k))]) hx hb kd_M_best_222 hl (k := 4) rfl (by first | exact nI_1 _ | (show _ + _ = _; exact nI_1 _)) (by decide) rfl (fun ls hl => ?_)
                        refine lv_goto (tgt := 46) hx hb kd_M_best_225 (by decide) ?_
                        exact ih (t + 1) c2 lf (zE_f E1 t k) ge3 (by omega) (by omega) (by first | exact zb_R_s1 hR hin (by omega) hc2 (by omega) | exact zb_R_s2 hR hin (by omega) hc2 (by omega) hF (hlf ▸ hax)) (by first | exact hF | (have z := (zE_drop hF (hlf ▸ hm)).1; rw [← hlf] at z ⊢; exact z)) (by first | exact hlf | (rw [(zE_drop hF (hlf ▸ hm)).2.2, ← hlf])) _ _ hP hD hS ls (lv_sub hl [1, 2, 3, 4, 0] rfl)
                      · skip
                        obtain ⟨m, rfl, hax⟩ : ∃ m, la = nI m ∧ zf_AX ge3 lf m := by
                          rcases hla with ⟨z, _⟩ | z
                          · omega
                          · exact z
                        have hm := hax.1
                        refine lv_iinc (v := nI (lf - 1)) (lv' := [(6, .int (nI (lf - 1))), (0, .ref (q 0)), (1, .int (nI li)), (2, .int (nI bb)), (3, .int (nI c2)), (4, .int (nI t)), (7, .int (nI m)), (8, .int (nI k))]) hx hb kd_M_best_199 hl (k := 5) rfl (by first | exact zn_dec (by omega) | (show _ + _ = _; exact zn_dec (by omega))) (by decide) rfl (fun ls hl => ?_)
                        refine lv_aload_n hx hb kd_M_best_202 rfl (lv_at hl 1 rfl) ?_
                        refine va_get (D := (dC, dI)) (ci := 3) (v := .ref (q 18)) (C := zk_RM) (T := zk_TM) (N := 22) hx hb hts kl_M hown hK hP 0 rfl rfl 21 (by decide) (hts _ kj_367) (fun _ h9 => h9) rfl kd_M_best_203 ?_
                        refine lv_iload hx hb kd_M_best_206 (lv_at hl 6 rfl) ?_
                        refine lv_aload_n hx hb kd_M_best_208 rfl (lv_at hl 1 rfl) ?_
                        refine va_get (D := (dC, dI)) (ci := 3) (v := .ref (q 18)) (C := zk_RM) (T := zk_TM) (N := 22) hx hb hts kl_M hown hK hP 0 rfl rfl 21 (by decide) (hts _ kj_367) (fun _ h9 => h9) rfl kd_M_best_209 ?_
                        refine lv_iload hx hb kd_M_best_212 (lv_at hl 0 rfl) ?_
                        refine zz_iald hx hb hK hP 2 0 rfl rfl (k := lf - 1) (by omega) (by decide) kd_M_best_214 ?_
                        refine zz_top (y := nI ((zE_f E1 t k).getD (lf - 1) 0)) ((hF (lf - 1) (by omega)).1) ?_
                        refine zz_iast hx hb hK hP hD hS 2 0 rfl rfl (k := m) (by omega) (by decide) kd_M_best_215 (fun H locs hP hD hS => ?_)
                        have hP : va_P (dC, dI) zk_cl [(q 0, zm_ob q t1 n lc kp2), (q 1, .inl (cI, 400, .inl ga)), (q 18, .inl (cI, 400, .inl (upd ge3 m (nI ((zE_f E1 t k).getD (lf - 1) 0)))))] H := hP
                        have hD : va_D A [(q 0, zm_ob q t1 n lc kp2), (q 1, .inl (cI, 400, .inl ga)), (q 18, .inl (cI, 400, .inl (upd ge3 m (nI ((zE_f E1 t k).getD (lf - 1) 0)))))] := hD
                        refine lv_aload_n hx hb kd_M_best_216 rfl (lv_at hl 1 rfl) ?_
                        refine lv_iload hx hb kd_M_best_217 (lv_at hl 0 rfl) ?_
                        refine va_put (D := (dC, dI)) (ci := 3) (v := .int (nI (lf - 1))) (ty := .int) (C := zk_RM) (T := zk_TM) (N := 22) hx hb hts kl_M zk_tM zk_kM zk_nM hown hK hP hD hS 0 rfl rfl 20 (by decide) (hts _ kj_366) (fun _ h9 => h9) rfl (by decide +kernel) rfl rfl (Nat.le_of_ble_eq_true rfl) kd_M_best_219 (fun H locs hP hD hS => ?_)
                        have hP : va_P (dC, dI) zk_cl [(q 0, zm_ob q t1 n lc (lf - 1)), (q 1, .inl (cI, 400, .inl ga)), (q 18, .inl (cI, 400, .inl (upd ge3 m (nI ((zE_f E1 t k).getD (lf - 1) 0)))))] H := hP
                        have hD : va_D A [(q 0, zm_ob q t1 n lc (lf - 1)), (q 1, .inl (cI, 400, .inl ga)), (q 18, .inl (cI, 400, .inl (upd ge3 m (nI ((zE_f E1 t k).getD (lf - 1) 0)))))] := hD
                        refine lv_iinc (v := nI (t + 1)) (lv' := [(4, .int (nI (t + 1))), (6, .int (nI (lf - 1))), (0, .ref (q 0)), (1, .int (nI li)), (2, .int (nI bb)), (3, .int (nI c2)), (7, .int (nI m)), (8, .int (nI k))]) hx hb kd_M_best_222 hl (k := 5) rfl (by first | exact nI_1 _ | (show _ + _ = _; exact nI_1 _)) (by decide) rfl (fun ls hl => ?_)
                        refine lv_goto (tgt := 46) hx hb kd_M_best_225 (by decide) ?_
                        exact ih (t + 1) c2 (lf - 1) (((zE_f E1 t k).set m ((zE_f E1 t k).getD ((zE_f E1 t k).length - 1) 0)).dropLast) (upd ge3 m (nI ((zE_f E1 t k).getD (lf - 1) 0))) (by omega) (by omega) (by first | exact zb_R_s1 hR hin (by omega) hc2 (by omega) | exact zb_R_s2 hR hin (by omega) hc2 (by omega) hF (hlf ▸ hax)) (by first | exact hF | (have z := (zE_drop hF (hlf ▸ hm)).1; rw [← hlf] at z ⊢; exact z)) (by first | exact hlf | (rw [(zE_drop hF (hlf ▸ hm)).2.2, ← hlf])) _ _ hP hD hS ls (lv_sub hl [2, 3, 4, 5, 0] rfl)
                    · skip
                      refine lv_aload_n hx hb kd_M_best_119 rfl (lv_at hl 0 rfl) ?_
                      refine va_get (D := (dC, dI)) (ci := 3) (v := .ref (q 18)) (C := zk_RM) (T := zk_TM) (N := 22) hx hb hts kl_M hown hK hP 0 rfl rfl 21 (by decide) (hts _ kj_367) (fun _ h9 => h9) rfl kd_M_best_120 ?_
                      refine lv_iload hx hb kd_M_best_123 (lv_at hl 7 rfl) ?_
                      refine zz_iald hx hb hK hP 2 0 rfl rfl (k := k) (by omega) (by decide) kd_M_best_125 ?_
                      refine zz_top (y := nI (E1.getD k 0)) (hB k (Nat.le_refl _) (by omega)) ?_
                      refine lv_iload hx hb kd_M_best_126 (lv_at hl 4 rfl) ?_
                      refine zz_icmp_ne (tgt := 137) hx hb kd_M_best_128 (by decide) (by have := (hE1 k (by omega)).2; omega) (by omega) (fun c128 => ?_) (fun c128 => ?_)
                      · skip
                        refine lv_aload_n hx hb kd_M_best_137 rfl (lv_at hl 0 rfl) ?_
                        refine va_get (D := (dC, dI)) (ci := 3) (v := .ref (q 18)) (C := zk_RM) (T := zk_TM) (N := 22) hx hb hts kl_M hown hK hP 0 rfl rfl 21 (by decide) (hts _ kj_367) (fun _ h9 => h9) rfl kd_M_best_138 ?_
                        refine lv_iload hx hb kd_M_best_141 (lv_at hl 5 rfl) ?_
                        refine lv_aload_n hx hb kd_M_best_143 rfl (lv_at hl 0 rfl) ?_
                        refine va_get (D := (dC, dI)) (ci := 3) (v := .ref (q 18)) (C := zk_RM) (T := zk_TM) (N := 22) hx hb hts kl_M hown hK hP 0 rfl rfl 21 (by decide) (hts _ kj_367) (fun _ h9 => h9) rfl kd_M_best_144 ?_
                        refine lv_iload hx hb kd_M_best_147 (lv_at hl 7 rfl) ?_
                        refine zz_iald hx hb hK hP 2 0 rfl rfl (k := k) (by omega) (by decide) kd_M_best_149 ?_
                        refine zz_top (y := nI (E1.getD k 0)) (hB k (Nat.le_refl _) (by omega)) ?_
                        refine zz_iast hx hb hK hP hD hS 2 0 rfl rfl (k := lf) (by omega) (by decide) kd_M_best_150 (fun H locs hP hD hS => ?_)
                        have hP : va_P (dC, dI) zk_cl [(q 0, zm_ob q t1 n lc kp2), (q 1, .inl (cI, 400, .inl ga)), (q 18, .inl (cI, 400, .inl (upd ge3 lf (nI (E1.getD k 0)))))] H := hP
                        have hD : va_D A [(q 0, zm_ob q t1 n lc kp2), (q 1, .inl (cI, 400, .inl ga)), (q 18, .inl (cI, 400, .inl (upd ge3 lf (nI (E1.getD k 0)))))] := hD
                        refine lv_iload hx hb kd_M_best_151 (lv_at hl 6 rfl) ?_
                        refine lv_if_lt (tgt := 173) hx hb kd_M_best_153 (by decide) (fun c153 => ?_) (fun c153 => ?_)
                        · skip
                          have hl0 := zf_LX_neg (by omega) hla c153
                          refine lv_iload hx hb kd_M_best_173 (lv_at hl 5 rfl) ?_
                          refine lv_goto (tgt := 180) hx hb kd_M_best_175 (by decide) ?_
                          refine lv_istore (lv' := [(7, .int (nI lf)), (0, .ref (q 0)), (1, .int (nI li)), (2, .int (nI bb)), (3, .int (nI c2)), (4, .int (nI t)), (6, .int (nI lf)), (8, .int (nI k))]) hx hb kd_M_best_180 hl (by decide) rfl (fun ls hl => ?_)
                          refine lv_iinc (v := nI (lf + 1)) (lv' := [(6, .int (nI (lf + 1))), (7, .int (nI lf)), (0, .ref (q 0)), (1, .int (nI li)), (2, .int (nI bb)), (3, .int (nI c2)), (4, .int (nI t)), (8, .int (nI k))]) hx hb kd_M_best_182 hl (k := 6) rfl (by first | exact nI_1 _ | (show _ + _ = _; exact nI_1 _)) (by decide) rfl (fun ls hl => ?_)
                          refine lv_iinc (v := nI (k + 1)) (lv' := [(8, .int (nI (k + 1))), (6, .int (nI (lf + 1))), (7, .int (nI lf)), (0, .ref (q 0)), (1, .int (nI li)), (2, .int (nI bb)), (3, .int (nI c2)), (4, .int (nI t))]) hx hb kd_M_best_185 hl (k := 7) rfl (by first | exact nI_1 _ | (show _ + _ = _; exact nI_1 _)) (by decide) rfl (fun ls hl => ?_)
                          refine lv_goto (tgt := 110) hx hb kd_M_best_188 (by decide) ?_
                          exact ih110 (k + 1) (lf + 1) c2 (nI lf) (upd ge3 lf (nI (E1.getD k 0))) (by omega) (by omega) (by first | (rw [zE_n (by omega) c128]; exact hlf) | (rw [zE_t (by omega) c128, List.length_append, ← hlf]; rfl)) (by first | (rw [zE_n (by omega) c128]; exact hF) | (rw [zE_t (by omega) c128]; have z := zl_push hF (hE1 k (by omega)).2; rw [← hlf] at z; exact z)) (by first | exact fun j a b => hB j (by omega) b | exact fun j a b => by rw [pk_un (by omega)]; exact hB j (by omega) b) (by first | exact hla | exact Or.inr ⟨lf, rfl, by rw [hl0]; exact zf_AX_1⟩ | exact Or.inr ⟨lf, rfl, zf_AX_t (zf_AX_c (fun j hj => pk_un (by omega)) hax) (zu_nle c170)⟩ | exact Or.inr ⟨m, rfl, zf_AX_f (zf_AX_c (fun j hj => pk_un (by omega)) hax) (zu_nlt c170)⟩) (by first | (rw [zE_cn (by omega) c128, hc2]; omega) | (rw [zE_ct (by omega) c128, hc2])) _ _ hP hD hS ls (lv_sub hl [3, 4, 5, 6, 7, 1, 2, 0] rfl)
                        · skip
                          obtain ⟨m, rfl, hax⟩ := zf_LX_pos hla c153
                          have hm := hax.1
                          refine lv_aload_n hx hb kd_M_best_156 rfl (lv_at hl 0 rfl) ?_
                          refine va_get (D := (dC, dI)) (ci := 3) (v := .ref (q 18)) (C := zk_RM) (T := zk_TM) (N := 22) hx hb hts kl_M hown hK hP 0 rfl rfl 21 (by decide) (hts _ kj_367) (fun _ h9 => h9) rfl kd_M_best_157 ?_
                          refine lv_iload hx hb kd_M_best_160 (lv_at hl 5 rfl) ?_
                          refine zz_iald hx hb hK hP 2 0 rfl rfl (k := lf) (by omega) (by decide) kd_M_best_162 ?_
                          refine lv_aload_n hx hb kd_M_best_163 rfl (lv_at hl 0 rfl) ?_
                          refine va_get (D := (dC, dI)) (ci := 3) (v := .ref (q 18)) (C := zk_RM) (T := zk_TM) (N := 22) hx hb hts kl_M hown hK hP 0 rfl rfl 21 (by decide) (hts _ kj_367) (fun _ h9 => h9) rfl kd_M_best_164 ?_
                          refine lv_iload hx hb kd_M_best_167 (lv_at hl 6 rfl) ?_
                          refine zz_iald hx hb hK hP 2 0 rfl rfl (k := m) (by omega) (by decide) kd_M_best_169 ?_
                          refine lv_icmp_le (tgt := 178) hx hb kd_M_best_170 (by decide) (fun c170 => ?_) (fun c170 => ?_)
                          · skip
                            refine lv_iload hx hb kd_M_best_178 (lv_at hl 6 rfl) ?_
                            refine lv_istore (lv' := [(7, .int (nI m)), (0, .ref (q 0)), (1, .int (nI li)), (2, .int (nI bb)), (3, .int (nI c2)), (4, .int (nI t)), (6, .int (nI lf)), (8, .int (nI k))]) hx hb kd_M_best_180 hl (by decide) rfl (fun ls hl => ?_)
                            refine lv_iinc (v := nI (lf + 1)) (lv' := [(6, .int (nI (lf + 1))), (7, .int (nI m)), (0, .ref (q 0)), (1, .int (nI li)), (2, .int (nI bb)), (3, .int (nI c2)), (4, .int (nI t)), (8, .int (nI k))]) hx hb kd_M_best_182 hl (k := 6) rfl (by first | exact nI_1 _ | (show _ + _ = _; exact nI_1 _)) (by decide) rfl (fun ls hl => ?_)
                            refine lv_iinc (v := nI (k + 1)) (lv' := [(8, .int (nI (k + 1))), (6, .int (nI (lf + 1))), (7, .int (nI m)), (0, .ref (q 0)), (1, .int (nI li)), (2, .int (nI bb)), (3, .int (nI c2)), (4, .int (nI t))]) hx hb kd_M_best_185 hl (k := 7) rfl (by first | exact nI_1 _ | (show _ + _ = _; exact nI_1 _)) (by decide) rfl (fun ls hl => ?_)
                            refine lv_goto (tgt := 110) hx hb kd_M_best_188 (by decide) ?_
                            exact ih110 (k + 1) (lf + 1) c2 (nI m) (upd ge3 lf (nI (E1.getD k 0))) (by omega) (by omega) (by first | (rw [zE_n (by omega) c128]; exact hlf) | (rw [zE_t (by omega) c128, List.length_append, ← hlf]; rfl)) (by first | (rw [zE_n (by omega) c128]; exact hF) | (rw [zE_t (by omega) c128]; have z := zl_push hF (hE1 k (by omega)).2; rw [← hlf] at z; exact z)) (by first | exact fun j a b => hB j (by omega) b | exact fun j a b => by rw [pk_un (by omega)]; exact hB j (by omega) b) (by first | exact hla | exact Or.inr ⟨lf, rfl, by rw [hl0]; exact zf_AX_1⟩ | exact Or.inr ⟨lf, rfl, zf_AX_t (zf_AX_c (fun j hj => pk_un (by omega)) hax) (zu_nle c170)⟩ | exact Or.inr ⟨m, rfl, zf_AX_f (zf_AX_c (fun j hj => pk_un (by omega)) hax) (zu_nlt c170)⟩) (by first | (rw [zE_cn (by omega) c128, hc2]; omega) | (rw [zE_ct (by omega) c128, hc2])) _ _ hP hD hS ls (lv_sub hl [3, 4, 5, 6, 7, 1, 2, 0] rfl)
                          · skip
                            refine lv_iload hx hb kd_M_best_173 (lv_at hl 5 rfl) ?_
                            refine lv_goto (tgt := 180) hx hb kd_M_best_175 (by decide) ?_
                            refine lv_istore (lv' := [(7, .int (nI lf)), (0, .ref (q 0)), (1, .int (nI li)), (2, .int (nI bb)), (3, .int (nI c2)), (4, .int (nI t)), (6, .int (nI lf)), (8, .int (nI k))]) hx hb kd_M_best_180 hl (by decide) rfl (fun ls hl => ?_)
                            refine lv_iinc (v := nI (lf + 1)) (lv' := [(6, .int (nI (lf + 1))), (7, .int (nI lf)), (0, .ref (q 0)), (1, .int (nI li)), (2, .int (nI bb)), (3, .int (nI c2)), (4, .int (nI t)), (8, .int (nI k))]) hx hb kd_M_best_182 hl (k := 6) rfl (by first | exact nI_1 _ | (show _ + _ = _; exact nI_1 _)) (by decide) rfl (fun ls hl => ?_)
                            refine lv_iinc (v := nI (k + 1)) (lv' := [(8, .int (nI (k + 1))), (6, .int (nI (lf + 1))), (7, .int (nI lf)), (0, .ref (q 0)), (1, .int (nI li)), (2, .int (nI bb)), (3, .int (nI c2)), (4, .int (nI t))]) hx hb kd_M_best_185 hl (k := 7) rfl (by first | exact nI_1 _ | (show _ + _ = _; exact nI_1 _)) (by decide) rfl (fun ls hl => ?_)
                            refine lv_goto (tgt := 110) hx hb kd_M_best_188 (by decide) ?_
                            exact ih110 (k + 1) (lf + 1) c2 (nI lf) (upd ge3 lf (nI (E1.getD k 0))) (by omega) (by omega) (by first | (rw [zE_n (by omega) c128]; exact hlf) | (rw [zE_t (by omega) c128, List.length_append, ← hlf]; rfl)) (by first | (rw [zE_n (by omega) c128]; exact hF) | (rw [zE_t (by omega) c128]; have z := zl_push hF (hE1 k (by omega)).2; rw [← hlf] at z; exact z)) (by first | exact fun j a b => hB j (by omega) b | exact fun j a b => by rw [pk_un (by omega)]; exact hB j (by omega) b) (by first | exact hla | exact Or.inr ⟨lf, rfl, by rw [hl0]; exact zf_AX_1⟩ | exact Or.inr ⟨lf, rfl, zf_AX_t (zf_AX_c (fun j hj => pk_un (by omega)) hax) (zu_nle c170)⟩ | exact Or.inr ⟨m, rfl, zf_AX_f (zf_AX_c (fun j hj => pk_un (by omega)) hax) (zu_nlt c170)⟩) (by first | (rw [zE_cn (by omega) c128, hc2]; omega) | (rw [zE_ct (by omega) c128, hc2])) _ _ hP hD hS ls (lv_sub hl [3, 4, 5, 6, 7, 1, 2, 0] rfl)
                      · skip
                        refine lv_iinc (v := nI (c2 + 1)) (lv' := [(3, .int (nI (c2 + 1))), (0, .ref (q 0)), (1, .int (nI li)), (2, .int (nI bb)), (4, .int (nI t)), (6, .int (nI lf)), (7, .int la), (8, .int (nI k))]) hx hb kd_M_best_131 hl (k := 3) rfl (by first | exact nI_1 _ | (show _ + _ = _; exact nI_1 _)) (by decide) rfl (fun ls hl => ?_)
                        refine lv_goto (tgt := 185) hx hb kd_M_best_134 (by decide) ?_
                        refine lv_iinc (v := nI (k + 1)) (lv' := [(8, .int (nI (k + 1))), (3, .int (nI (c2 + 1))), (0, .ref (q 0)), (1, .int (nI li)), (2, .int (nI bb)), (4, .int (nI t)), (6, .int (nI lf)), (7, .int la)]) hx hb kd_M_best_185 hl (k := 7) rfl (by first | exact nI_1 _ | (show _ + _ = _; exact nI_1 _)) (by decide) rfl (fun ls hl => ?_)
                        refine lv_goto (tgt := 110) hx hb kd_M_best_188 (by decide) ?_
                        exact ih110 (k + 1) lf (c2 + 1) la ge3 (by omega) (by omega) (by first | (rw [zE_n (by omega) c128]; exact hlf) | (rw [zE_t (by omega) c128, List.length_append, ← hlf]; rfl)) (by first | (rw [zE_n (by omega) c128]; exact hF) | (rw [zE_t (by omega) c128]; have z := zl_push hF (hE1 k (by omega)).2; rw [← hlf] at z; exact z)) (by first | exact fun j a b => hB j (by omega) b | exact fun j a b => by rw [pk_un (by omega)]; exact hB j (by omega) b) (by first | exact hla | exact Or.inr ⟨lf, rfl, by rw [hl0]; exact zf_AX_1⟩ | exact Or.inr ⟨lf, rfl, zf_AX_t (zf_AX_c (fun j hj => pk_un (by omega)) hax) (zu_nle c170)⟩ | exact Or.inr ⟨m, rfl, zf_AX_f (zf_AX_c (fun j hj => pk_un (by omega)) hax) (zu_nlt c170)⟩) (by first | (rw [zE_cn (by omega) c128, hc2]; omega) | (rw [zE_ct (by omega) c128, hc2])) _ _ hP hD hS ls (lv_sub hl [2, 3, 4, 1, 5, 6, 7, 0] rfl)
                exact hc110 _ 0 0 cn (-1) ge2 (Nat.lt_succ_self _) (by omega) (rfl) (fun j h => by simp [zE_f] at h) (fun j a b => (hE1 j b).1) (Or.inl ⟨rfl, rfl⟩) (by simp) _ _ hP hD hS ls (lv_sub hl [3, 4, 5, 6, 7, 2, 1, 0] rfl)
              refine lv_iload hx hb kd_M_best_55 (lv_at hl 4 rfl) ?_
              refine zz_if_le (tgt := 72) hx hb kd_M_best_57 (by decide) (by omega) (fun c57 => ?_) (fun c57 => ?_)
              · skip
                refine lv_iconst (v := (-1)) hx hb kd_M_best_72 (by decide) ?_
                refine lv_istore (lv' := [(5, .int (-1)), (0, .ref (q 0)), (1, .int (nI li)), (2, .int (nI bb)), (3, .int (nI cn)), (4, .int (nI t))]) hx hb kd_M_best_73 hl (by decide) rfl (fun ls hl => ?_)
                refine lv_iload hx hb kd_M_best_75 (lv_at hl 0 rfl) ?_
                refine lv_if_lt (tgt := 101) hx hb kd_M_best_77 (by decide) (fun c77 => ?_) (fun c77 => ?_)
                · skip
                  exact hc101 kp1 E ge1  (by first | exact hE | (rw [hkp]; exact zl_push hE (by omega))) (by first | exact hkp | (rw [List.length_append, hkp]; rfl)) (by first | exact zb_in_0 (Or.inl c57) | exact zb_in_0 (Or.inr hnx4) | exact zb_in_1 c57 (zx_NX_u (hnx _) hu2) (by omega)) _ _ hP hD hS ls (lv_sub hl [1, 2, 3, 4, 5] rfl)
                · skip
                  exact absurd c77 (fun z => z (by decide))
              · skip
                refine lv_aload_n hx hb kd_M_best_60 rfl (lv_at hl 0 rfl) ?_
                refine lv_iload hx hb kd_M_best_61 (lv_at hl 4 rfl) ?_
                refine lv_iconst (v := nI 1) hx hb kd_M_best_63 (by decide) ?_
                refine lv_isub hx hb kd_M_best_64 ?_
                refine zz_top (y := nI (t - 1)) (pk_sub (by omega)) ?_
                refine lv_iload_n hx hb kd_M_best_65 rfl (lv_at hl 2 rfl) ?_
                refine zz_iV (As := [.int (nI (t - 1)), .int (nI bb)]) (rest := []) (wc := [(q 0, zm_ob q t1 n lc kp1), (q 1, .inl (cI, 400, .inl ga))]) (wr := [(q 18, .inl (cI, 400, .inl ge1))]) ⟨hx, hb, hml, hown, hts⟩ (cm_nextOf l dC dI cI cZ cO cL q t1 n lc kp1 ga ad (t - 1) bb (by omega) (hn) (hga) (hbb)) (zz_cwV hts kj_461 kj_27 kj_459 kj_460 kj_23 kz_M_nextOf rfl rfl ⟨Nat.le_of_ble_eq_true rfl, Nat.le_of_ble_eq_true rfl⟩) (hP.sub [2, 0, 1] rfl) (hD.sub [2, 0, 1] (by decide) rfl) hK hS hA (q0 := 0) rfl rfl rfl rfl hl.1 rfl (Nat.le_of_ble_eq_true rfl) kd_M_best_66 ⟨by decide, by decide⟩ (fun r9 w9 H locs hw hP hD hS => ?_)
                generalize r9 = re at hw ⊢
                obtain ⟨rfl, hnx66⟩ := hw
                have hP : va_P (dC, dI) zk_cl [(q 18, .inl (cI, 400, .inl ge1)), (q 0, zm_ob q t1 n lc kp1), (q 1, .inl (cI, 400, .inl ga))] H := hP
                have hD : va_D A [(q 18, .inl (cI, 400, .inl ge1)), (q 0, zm_ob q t1 n lc kp1), (q 1, .inl (cI, 400, .inl ga))] := hD
                refine lv_goto (tgt := 73) hx hb kd_M_best_69 (by decide) ?_
                refine lv_istore (lv' := [(5, .int re), (0, .ref (q 0)), (1, .int (nI li)), (2, .int (nI bb)), (3, .int (nI cn)), (4, .int (nI t))]) hx hb kd_M_best_73 hl (by decide) rfl (fun ls hl => ?_)
                refine lv_iload hx hb kd_M_best_75 (lv_at hl 0 rfl) ?_
                refine lv_if_lt (tgt := 101) hx hb kd_M_best_77 (by decide) (fun c77 => ?_) (fun c77 => ?_)
                · skip
                  have hnx4 : nx (t - 1) = 400 := zx_NX_u (hnx _) (zx_rn (by omega) hnx66 c77)
                  exact hc101 kp1 E ge1  (by first | exact hE | (rw [hkp]; exact zl_push hE (by omega))) (by first | exact hkp | (rw [List.length_append, hkp]; rfl)) (by first | exact zb_in_0 (Or.inl c57) | exact zb_in_0 (Or.inr hnx4) | exact zb_in_1 c57 (zx_NX_u (hnx _) hu2) (by omega)) _ _ (hP.sub [1, 2, 0] rfl) (hD.sub [1, 2, 0] (by decide) rfl) hS ls (lv_sub hl [1, 2, 3, 4, 5] rfl)
                · skip
                  obtain ⟨u, hu1, rfl, hu2⟩ := zx_re hnx66 c77
                  refine lv_aload_n hx hb kd_M_best_80 rfl (lv_at hl 1 rfl) ?_
                  refine va_get (D := (dC, dI)) (ci := 3) (v := .ref (q 18)) (C := zk_RM) (T := zk_TM) (N := 22) hx hb hts kl_M hown hK hP 1 rfl rfl 21 (by decide) (hts _ kj_367) (fun _ h9 => h9) rfl kd_M_best_81 ?_
                  refine lv_aload_n hx hb kd_M_best_84 rfl (lv_at hl 1 rfl) ?_
                  refine va_get (D := (dC, dI)) (ci := 3) (v := .int (nI kp1)) (C := zk_RM) (T := zk_TM) (N := 22) hx hb hts kl_M hown hK hP 1 rfl rfl 20 (by decide) (hts _ kj_366) (fun _ h9 => h9) rfl kd_M_best_85 ?_
                  refine lv_iload hx hb kd_M_best_88 (lv_at hl 0 rfl) ?_
                  refine zz_iast hx hb hK hP hD hS 0 0 rfl rfl (k := kp1) (by omega) (by decide) kd_M_best_90 (fun H locs hP hD hS => ?_)
                  have hP : va_P (dC, dI) zk_cl [(q 18, .inl (cI, 400, .inl (upd ge1 kp1 (nI u)))), (q 0, zm_ob q t1 n lc kp1), (q 1, .inl (cI, 400, .inl ga))] H := hP
                  have hD : va_D A [(q 18, .inl (cI, 400, .inl (upd ge1 kp1 (nI u)))), (q 0, zm_ob q t1 n lc kp1), (q 1, .inl (cI, 400, .inl ga))] := hD
                  refine lv_aload_n hx hb kd_M_best_91 rfl (lv_at hl 1 rfl) ?_
                  refine lv_dup hx hb kd_M_best_92 rfl ?_
                  refine va_get (D := (dC, dI)) (ci := 3) (v := .int (nI kp1)) (C := zk_RM) (T := zk_TM) (N := 22) hx hb hts kl_M hown hK hP 1 rfl rfl 20 (by decide) (hts _ kj_366) (fun _ h9 => h9) rfl kd_M_best_93 ?_
                  refine lv_iconst (v := nI 1) hx hb kd_M_best_96 (by decide) ?_
                  refine lv_iadd hx hb kd_M_best_97 ?_
                  refine zz_top (y := nI (kp1 + 1)) (nI_add _ _) ?_
                  refine va_put (D := (dC, dI)) (ci := 3) (v := .int (nI (kp1 + 1))) (ty := .int) (C := zk_RM) (T := zk_TM) (N := 22) hx hb hts kl_M zk_tM zk_kM zk_nM hown hK hP hD hS 1 rfl rfl 20 (by decide) (hts _ kj_366) (fun _ h9 => h9) rfl (by decide +kernel) rfl rfl (Nat.le_of_ble_eq_true rfl) kd_M_best_98 (fun H locs hP hD hS => ?_)
                  have hP : va_P (dC, dI) zk_cl [(q 18, .inl (cI, 400, .inl (upd ge1 kp1 (nI u)))), (q 0, zm_ob q t1 n lc (kp1 + 1)), (q 1, .inl (cI, 400, .inl ga))] H := hP
                  have hD : va_D A [(q 18, .inl (cI, 400, .inl (upd ge1 kp1 (nI u)))), (q 0, zm_ob q t1 n lc (kp1 + 1)), (q 1, .inl (cI, 400, .inl ga))] := hD
                  exact hc101 (kp1 + 1) (E ++ [u]) (upd ge1 kp1 (nI u))  (by first | exact hE | (rw [hkp]; exact zl_push hE (by omega))) (by first | exact hkp | (rw [List.length_append, hkp]; rfl)) (by first | exact zb_in_0 (Or.inl c57) | exact zb_in_0 (Or.inr hnx4) | exact zb_in_1 c57 (zx_NX_u (hnx _) hu2) (by omega)) _ _ (hP.sub [1, 2, 0] rfl) (hD.sub [1, 2, 0] (by decide) rfl) hS ls (lv_sub hl [1, 2, 3, 4, 5] rfl)
        exact hc46 _ 0 0 0 ([]) ge (Nat.lt_succ_self _) (by omega) (⟨rfl, rfl⟩) (fun j h => by simp at h) (rfl) _ _ (hP.sub [2, 0, 1] rfl) (hD.sub [2, 0, 1] (by decide) rfl) hS ls (lv_sub hl [2, 3, 4, 1, 0] rfl)
      · skip
        exact absurd c31 (by unfold zm_rf at hrf28; omega)
    · skip
      refine lv_iconst (v := nI 1) hx hb kd_M_best_21 (by decide) ?_
      refine lv_goto (tgt := 26) hx hb kd_M_best_22 (by decide) ?_
      refine lv_iconst (v := nI 0) hx hb kd_M_best_26 (by decide) ?_
      refine lv_iconst (v := nI 0) hx hb kd_M_best_27 (by decide) ?_
      refine zz_iV (As := [.int (nI 1), .int (nI 0), .int (nI 0)]) (rest := []) (wc := [(q 0, zm_ob q th n lc kp)]) (wr := [(q 1, .inl (cI, 400, .inl ga)), (q 18, .inl (cI, 400, .inl ge))]) ⟨hx, hb, hml, hown, hts⟩ (cm_refuse l dC dI cI cZ cO cL q th n lc kp 1 0 0 (by omega) (by omega) (by omega)) (zz_cwV hts kj_403 kj_27 kj_401 kj_402 kj_13 kz_M_refuse rfl rfl ⟨Nat.le_of_ble_eq_true rfl, Nat.le_of_ble_eq_true rfl⟩) (hP.sub [1, 2, 0] rfl) (hD.sub [1, 2, 0] (by decide) rfl) hK hS hA (q0 := 0) rfl rfl rfl rfl hl.1 rfl (Nat.le_of_ble_eq_true rfl) kd_M_best_28 ⟨by decide, by decide⟩ (fun r9 w9 H locs hw hP hD hS => ?_)
      obtain ⟨t1, h0, rfl, rfl, hrf28, hh28, hb128⟩ := hw
      have hP : va_P (dC, dI) zk_cl [(q 1, .inl (cI, 400, .inl ga)), (q 18, .inl (cI, 400, .inl ge)), (q 0, zm_ob q t1 n lc kp)] H := hP
      have hD : va_D A [(q 1, .inl (cI, 400, .inl ga)), (q 18, .inl (cI, 400, .inl ge)), (q 0, zm_ob q t1 n lc kp)] := hD
      refine zz_if_eq (tgt := 36) hx hb kd_M_best_31 (by decide) (by omega) (fun c31 => ?_) (fun c31 => ?_)
      · skip
        exact absurd c31 (by unfold zm_rf at hrf28; omega)
      · skip
        refine lv_iconst (v := nI 0) hx hb kd_M_best_34 (by decide) ?_
        exact hret _ _ _ _ _ _ kd_M_best_35 (hP.sub [2, 0, 1] rfl) (hD.sub [2, 0, 1] (by decide) rfl) hS (⟨t1, kp, ge, rfl, (Or.inl ⟨by unfold zm_rf at hrf28; omega, by first | exact Or.inl (fun k a b => zm_in0 (by decide) (by decide) hin5 c8 k a b) | exact Or.inr (fun k a => zm_in0 (by decide) (by decide) hin15 c18 k (by omega) a)⟩)⟩)
end
section
/-! PURE ROWS 12: what a cache is, apart from where it lies -/
abbrev zK : Type := (Nat × Nat × Nat × Nat) × (Int32 × Int32 × Int32 × Int32) × (Nat → Nat → Int32) × (Nat → Nat → Int32) × (Nat → Nat → Int32) × (Nat → Nat → Bool)
abbrev zK.sb (K : zK) : Nat := K.1.1
abbrev zK.wy (K : zK) : Nat := K.1.2.1
abbrev zK.kd (K : zK) : Nat := K.1.2.2.1
abbrev zK.bb (K : zK) : Nat := K.1.2.2.2
abbrev zK.hi (K : zK) : Int32 := K.2.1.1
abbrev zK.mi (K : zK) : Int32 := K.2.1.2.1
abbrev zK.vi (K : zK) : Int32 := K.2.1.2.2.1
abbrev zK.wb (K : zK) : Int32 := K.2.1.2.2.2
abbrev zK.bl (K : zK) : Nat → Nat → Int32 := K.2.2.1
abbrev zK.di (K : zK) : Nat → Nat → Int32 := K.2.2.2.1
abbrev zK.st (K : zK) : Nat → Nat → Int32 := K.2.2.2.2.1
abbrev zK.tr (K : zK) : Nat → Nat → Bool := K.2.2.2.2.2
def zu_2 (f : Nat → Nat → Int32) (a k : Nat) (v : Int32) : Nat → Nat → Int32 := fun x y => if x = a ∧ y = k then v else f x y
theorem zu_2s {f : Nat → Nat → Int32} {a k : Nat} {v : Int32} : zu_2 f a k v a k = v := if_pos ⟨rfl, rfl⟩
theorem zu_2n {f : Nat → Nat → Int32} {a k x y : Nat} {v : Int32} (h : ¬ (x = a ∧ y = k)) : zu_2 f a k v x y = f x y := if_neg h
/-- a cache behind an access of the place pl of the set a -/
def zK_up (K : zK) (a pl h : Nat) (b wr num vi wb : Int32) : zK :=
  (K.1, (if h = 1 then K.hi + 1 else K.hi, if h = 1 then K.mi else K.mi + 1, vi, wb), zu_2 K.bl a pl b, zu_2 K.di a pl (if wr = 0 then (if h = 1 then K.di a pl else 0) else 1), zu_2 K.st a pl (if h = 1 ∧ K.kd = 1 then K.st a pl else num), fun x => if x = a then zt_pa pl 4 (K.wy / 2) 1 (K.tr a) else K.tr x)
def zK_see (K : zK) (ad : Nat) (wr num : Int32) (h : Nat) (K2 : zK) : Prop :=
  ∃ (b a pl : Nat) (vi wb : Int32), ad / 2 ^ K.bb = b ∧ b % 2 ^ K.sb = a ∧ pl < K.wy ∧ K2 = zK_up K a pl h (nI b) wr num vi wb ∧
    ((h = 1 ∧ zf_FP (K.bl a) K.wy (nI b) (nI pl) ∧ vi = K.vi ∧ wb = K.wb) ∨ (h = 0 ∧ zf_FP (K.bl a) K.wy (nI b) (-1) ∧ zc_bi K.wy K.kd (K.bl a) (K.st a) (K.di a) (K.tr a) pl K.vi K.wb vi wb))
theorem zf_FP_0 {g : Nat → Int32} {n : Nat} {b : Int32} (hn : n < 2 ^ 31) (h : zf_FP g n b (-1)) : ∀ j, j < n → g j ≠ b := by
  rcases h with ⟨k, h1, h2, -⟩ | ⟨-, h2⟩
  · exact absurd h2.symm (zn_m1 (by omega))
  · exact h2
theorem zf_FP_1 {g : Nat → Int32} {n k : Nat} {b : Int32} (hn : n < 2 ^ 31) (hk : k < n) (h : zf_FP g n b (nI k)) : g k = b := by
  rcases h with ⟨k', h1, h2, h3, -⟩ | ⟨h1, -⟩
  · rw [(nI_eq (by omega) (by omega)).mp h2]; exact h3
  · exact absurd h1 (zn_m1 (by omega))
theorem zc_bi_u {wy kd : Nat} {gb gs gd : Nat → Int32} {tb : Nat → Bool} {p1 p2 : Nat} {vi wb v1 w1 v2 w2 : Int32} (hw : wy < 2 ^ 31) (h1 : zc_bi wy kd gb gs gd tb p1 vi wb v1 w1) (h2 : zc_bi wy kd gb gs gd tb p2 vi wb v2 w2) : p1 = p2 ∧ v1 = v2 ∧ w1 = w2 := by
  obtain ⟨a1, a2⟩ := h1
  obtain ⟨b1, b2⟩ := h2
  rcases a2 with ⟨a2, a3, a4⟩ | ⟨a2, a3, a4, a5⟩ <;> rcases b2 with ⟨b2, b3, b4⟩ | ⟨b2, b3, b4, b5⟩
  · exact ⟨(nI_eq (by omega) (by omega)).mp (zf_FP_u a2 b2), by rw [a3, b3], by rw [a4, b4]⟩
  · exact absurd (zf_FP_u a2 b2) (zn_m1 (by omega))
  · exact absurd (zf_FP_u b2 a2) (zn_m1 (by omega))
  · have e : p1 = p2 := by
      rcases a3 with ⟨z1, z2⟩ | ⟨z1, z2⟩ <;> rcases b3 with ⟨y1, y2⟩ | ⟨y1, y2⟩
      · rw [z2, y2]
      · exact absurd z1 y1
      · exact absurd y1 z1
      · exact zf_AM_u z2 y2
    subst e
    refine ⟨rfl, by rw [a4, b4], ?_⟩
    rcases a5 with ⟨z1, z2⟩ | ⟨z1, z2⟩ <;> rcases b5 with ⟨y1, y2⟩ | ⟨y1, y2⟩
    · rw [z2, y2]
    · exact absurd z1 y1
    · exact absurd y1 z1
    · rw [z2, y2]
theorem zK_see_u {K : zK} {ad h1 h2 : Nat} {wr num : Int32} {K1 K2 : zK} (hw : K.wy ≤ 8) (s1 : zK_see K ad wr num h1 K1) (s2 : zK_see K ad wr num h2 K2) : h1 = h2 ∧ K1 = K2 := by
  obtain ⟨b, a, p1, v1, w1, rfl, rfl, hp1, rfl, c1⟩ := s1
  obtain ⟨b2, a2, p2, v2, w2, rfl, rfl, hp2, rfl, c2⟩ := s2
  rcases c1 with ⟨rfl, f1, rfl, rfl⟩ | ⟨rfl, f1, g1⟩ <;> rcases c2 with ⟨rfl, f2, rfl, rfl⟩ | ⟨rfl, f2, g2⟩
  · rw [(nI_eq (by omega) (by omega)).mp (zf_FP_u f1 f2)]; exact ⟨rfl, rfl⟩
  · exact absurd (zf_FP_u f1 f2) (zn_m1 (by omega))
  · exact absurd (zf_FP_u f2 f1) (zn_m1 (by omega))
  · obtain ⟨e1, e2, e3⟩ := zc_bi_u (by omega) g1 g2
    rw [e1, e2, e3]; exact ⟨rfl, rfl⟩
theorem zc_bi_c {wy kd : Nat} {gb gs gd gb' gs' gd' : Nat → Int32} {tb tb' : Nat → Bool} {pl : Nat} {vi wb v1 w1 : Int32} (hw : wy < 2 ^ 31) (e1 : ∀ k, k < wy → gb' k = gb k) (e2 : ∀ k, k < wy → gd' k = gd k) (e3 : ∀ k, k < wy → gb k ≠ -1 → kd ≠ 2 → gs' k = gs k)
    (e4 : kd = 2 → (wy = 1 ∨ wy = 2 ∨ wy = 4 ∨ wy = 8) ∧ ∀ j, j < 8 → tb' j = tb j) (h : zc_bi wy kd gb gs gd tb pl vi wb v1 w1) : zc_bi wy kd gb' gs' gd' tb' pl vi wb v1 w1 := by
  obtain ⟨a1, a2⟩ := h
  refine ⟨a1, ?_⟩
  rcases a2 with ⟨a2, a3, a4⟩ | ⟨a2, a3, a4, a5⟩
  · exact Or.inl ⟨zf_FP_c e1 a2, a3, a4⟩
  · refine Or.inr ⟨zf_FP_c e1 a2, ?_, a4, ?_⟩
    · rcases a3 with ⟨z1, z2⟩ | ⟨z1, z2⟩
      · exact Or.inl ⟨z1, by rw [z2]; exact zt_pt_c (fun j _ hj => ((e4 z1).2 j hj).symm) (e4 z1).1⟩
      · exact Or.inr ⟨z1, zf_AM_c (fun j hj => e3 j hj (zf_FP_0 hw a2 j hj) z1) z2⟩
    · rw [e2 pl a1]; exact a5
def zK_ok (K : zK) : Prop := K.sb ≤ 4 ∧ (1 ≤ K.wy ∧ K.wy ≤ 8) ∧ K.kd ≤ 2 ∧ K.bb ≤ 6 ∧ (K.kd = 2 → K.wy = 1 ∨ K.wy = 2 ∨ K.wy = 4 ∨ K.wy = 8) ∧
  ∀ a k, a < 2 ^ K.sb → k < K.wy → (K.bl a k = -1 ∨ ∃ x, x < 4096 ∧ K.bl a k = nI x) ∧ (K.di a k = 0 ∨ K.di a k = 1) ∧ (K.bl a k = -1 → K.di a k = 0)
theorem zK_see_ok {K K2 : zK} {ad h : Nat} {wr num : Int32} (had : ad < 4096) (hok : zK_ok K) (hs : zK_see K ad wr num h K2) : zK_ok K2 := by
  obtain ⟨b, a, pl, vi, wb, hb, ha, hp, rfl, c⟩ := hs
  obtain ⟨o1, o2, o3, o4, o5, o6⟩ := hok
  have hb2 : b < 4096 := by rw [← hb]; exact Nat.lt_of_le_of_lt (Nat.div_le_self _ _) had
  have ha2 : a < 2 ^ K.sb := by rw [← ha]; exact Nat.mod_lt _ (Nat.two_pow_pos _)
  refine ⟨o1, o2, o3, o4, o5, fun x k hx hk => ?_⟩
  by_cases q : x = a ∧ k = pl
  · obtain ⟨rfl, rfl⟩ := q
    show (zu_2 K.bl x k (nI b) x k = -1 ∨ ∃ y, y < 4096 ∧ zu_2 K.bl x k (nI b) x k = nI y) ∧ (zu_2 K.di x k _ x k = 0 ∨ zu_2 K.di x k _ x k = 1) ∧ (zu_2 K.bl x k (nI b) x k = -1 → zu_2 K.di x k _ x k = 0)
    rw [zu_2s, zu_2s]
    refine ⟨Or.inr ⟨b, hb2, rfl⟩, ?_, fun e => absurd e (zn_m1 (by omega))⟩
    split
    · split
      · exact (o6 x k ha2 hp).2.1
      · exact Or.inl rfl
    · exact Or.inr rfl
  · show (zu_2 K.bl a pl (nI b) x k = -1 ∨ ∃ y, y < 4096 ∧ zu_2 K.bl a pl (nI b) x k = nI y) ∧ (zu_2 K.di a pl _ x k = 0 ∨ zu_2 K.di a pl _ x k = 1) ∧ (zu_2 K.bl a pl (nI b) x k = -1 → zu_2 K.di a pl _ x k = 0)
    rw [zu_2n q, zu_2n q]
    exact o6 x k hx hk
/-- the reference's rows: G i is the row in the cell i -/
def zG (f1 f2 f3 f4 f5 f6 f7 f8 f9 f10 f11 f12 f13 f14 f15 f16 f17 f18 : Nat → Int32) : Nat → Nat → Int32 := fun i => match i with
  | 1 => f1
  | 2 => f2
  | 3 => f3
  | 4 => f4
  | 5 => f5
  | 6 => f6
  | 7 => f7
  | 8 => f8
  | 9 => f9
  | 10 => f10
  | 11 => f11
  | 12 => f12
  | 13 => f13
  | 14 => f14
  | 15 => f15
  | 16 => f16
  | 17 => f17
  | _ => f18
def zv_m (G : Nat → Nat → Int32) (c : Nat) (K : zK) : Prop :=
  (G 3 c = nI K.sb ∧ G 4 c = nI K.wy ∧ G 5 c = nI K.kd ∧ G 6 c = nI K.bb) ∧ (G 7 c = K.hi ∧ G 8 c = K.mi ∧ G 9 c = K.vi ∧ G 10 c = K.wb) ∧
  (∀ a k, a < 2 ^ K.sb → k < K.wy → G 11 (128 * c + 8 * a + k) = K.bl a k ∧ G 12 (128 * c + 8 * a + k) = K.di a k ∧ (K.bl a k ≠ -1 → K.kd ≠ 2 → zm_gs K.kd (128 * c + 8 * a) (G 13) (G 14) k = K.st a k)) ∧
  (∀ a k, a < 16 → k < 8 → ¬ (a < 2 ^ K.sb ∧ k < K.wy) → G 11 (128 * c + 8 * a + k) = -1 ∧ G 12 (128 * c + 8 * a + k) = 0) ∧
  (K.kd = 2 → ∀ a, a < 2 ^ K.sb → ∀ j, j < 8 → zm_tb (G 15) (128 * c + 8 * a) j = K.tr a j)
theorem zK_16 {sb a : Nat} (h : sb ≤ 4) (ha : a < 2 ^ sb) : a < 16 := by
  have h1 : 2 ^ sb ≤ 2 ^ 4 := Nat.pow_le_pow_right (by decide) h
  omega
theorem zv_m_fr {G G2 : Nat → Nat → Int32} {c : Nat} {K : zK} (hok : zK_ok K) (h1 : ∀ i, 3 ≤ i → i ≤ 10 → G2 i c = G i c) (h2 : ∀ i, 11 ≤ i → i ≤ 15 → ∀ j, 128 * c ≤ j → j < 128 * c + 128 → G2 i j = G i j) (hv : zv_m G c K) : zv_m G2 c K := by
  obtain ⟨⟨a1, a2, a3, a4⟩, ⟨b1, b2, b3, b4⟩, c1, c2, c3⟩ := hv
  have hsb := hok.1
  have hwy := hok.2.1
  refine ⟨⟨by rw [h1 3 (by omega) (by omega), a1], by rw [h1 4 (by omega) (by omega), a2], by rw [h1 5 (by omega) (by omega), a3], by rw [h1 6 (by omega) (by omega), a4]⟩, ⟨by rw [h1 7 (by omega) (by omega), b1], by rw [h1 8 (by omega) (by omega), b2], by rw [h1 9 (by omega) (by omega), b3], by rw [h1 10 (by omega) (by omega), b4]⟩, fun a k ha hk => ?_, fun a k ha hk hn => ?_, fun hkd a ha j hj => ?_⟩
  · have ha16 := zK_16 hsb ha
    obtain ⟨d1, d2, d3⟩ := c1 a k ha hk
    refine ⟨by rw [h2 11 (by omega) (by omega) _ (by omega) (by omega), d1], by rw [h2 12 (by omega) (by omega) _ (by omega) (by omega), d2], fun z1 z2 => ?_⟩
    rw [← d3 z1 z2]
    show (if K.kd = 0 then _ else _) = (if K.kd = 0 then _ else _)
    rw [h2 13 (by omega) (by omega) _ (by omega) (by omega), h2 14 (by omega) (by omega) _ (by omega) (by omega)]
  · obtain ⟨d1, d2⟩ := c2 a k ha hk hn
    exact ⟨by rw [h2 11 (by omega) (by omega) _ (by omega) (by omega), d1], by rw [h2 12 (by omega) (by omega) _ (by omega) (by omega), d2]⟩
  · have ha16 := zK_16 hsb ha
    rw [← c3 hkd a ha j hj]
    show decide (G2 15 (128 * c + 8 * a + j) ≠ 0) = decide (G 15 (128 * c + 8 * a + j) ≠ 0)
    rw [h2 15 (by omega) (by omega) _ (by omega) (by omega)]
theorem zv_m_see {G G2 : Nat → Nat → Int32} {K : zK} {ca ad b a ao pl h n : Nat} {wr : Int32} (hv : zv_m G ca K) (hok : zK_ok K) (had : ad < 4096) (hb1 : ad / 2 ^ K.bb = b) (ha1 : b % 2 ^ K.sb = a) (ha2 : 128 * ca + 8 * a = ao)
    (e3 : G2 3 = G 3) (e4 : G2 4 = G 4) (e5 : G2 5 = G 5) (e6 : G2 6 = G 6) (el : G2 13 = upd (G 13) (ao + pl) (nI n)) (f1 : pl < K.wy)
    (f2 : (h = 1 ∧ zf_FP (fun k => G 11 (ao + k)) K.wy (nI b) (nI pl) ∧ G2 7 = upd (G 7) ca (G 7 ca + 1) ∧ G2 8 = G 8 ∧ G2 9 = G 9 ∧ G2 10 = G 10 ∧ G2 11 = G 11 ∧ G2 14 = G 14) ∨
      (h = 0 ∧ zf_FP (fun k => G 11 (ao + k)) K.wy (nI b) (-1) ∧ zc_bi K.wy K.kd (fun k => G 11 (ao + k)) (zm_gs K.kd ao (G 13) (G 14)) (fun k => G 12 (ao + k)) (zm_tb (G 15) ao) pl (G 9 ca) (G 10 ca) (G2 9 ca) (G2 10 ca) ∧ (∀ j, j ≠ ca → G2 9 j = G 9 j ∧ G2 10 j = G 10 j) ∧ G2 7 = G 7 ∧ G2 8 = upd (G 8) ca (G 8 ca + 1) ∧ G2 11 = upd (G 11) (ao + pl) (nI b) ∧ G2 14 = upd (G 14) (ao + pl) (nI n)))
    (f3 : (∀ j, j ≠ ao + pl → G2 12 j = G 12 j) ∧ G2 12 (ao + pl) = if wr = 0 then (if h = 1 then G 12 (ao + pl) else 0) else 1)
    (f6 : zm_tb (G2 15) ao = zt_mt pl 4 (K.wy / 2) 1 0 (zm_tb (G 15) ao)) (f7 : ∀ j, (j < ao ∨ ao + 8 ≤ j) → G2 15 j = G 15 j) :
    ∃ K2, zK_see K ad wr (nI n) h K2 ∧ zv_m G2 ca K2 := by
  obtain ⟨⟨a1, a2, a3, a4⟩, ⟨b1, b2, b3, b4⟩, c1, c2, c3⟩ := hv
  have hsb := hok.1
  have hwy := hok.2.1
  have hk2 := hok.2.2.2.2.1
  have hb2 : b < 4096 := by rw [← hb1]; exact Nat.lt_of_le_of_lt (Nat.div_le_self _ _) had
  have ha : a < 2 ^ K.sb := by rw [← ha1]; exact Nat.mod_lt _ (Nat.two_pow_pos _)
  have ha16 := zK_16 hsb ha
  have g11 : ∀ k, k < K.wy → K.bl a k = G 11 (ao + k) := fun k hk => by rw [← ha2]; exact (c1 a k ha hk).1.symm
  have g12 : ∀ k, k < K.wy → K.di a k = G 12 (ao + k) := fun k hk => by rw [← ha2]; exact (c1 a k ha hk).2.1.symm
  refine ⟨zK_up K a pl h (nI b) wr (nI n) (G2 9 ca) (G2 10 ca), ⟨b, a, pl, _, _, hb1, ha1, f1, rfl, ?_⟩, ?_⟩
  · rcases f2 with ⟨z0, z1, z2, z3, z4, z5, z6, z7⟩ | ⟨z0, z1, z2, z3⟩
    · exact Or.inl ⟨z0, zf_FP_c g11 z1, by rw [z4, b3], by rw [z5, b4]⟩
    · refine Or.inr ⟨z0, zf_FP_c g11 z1, ?_⟩
      rw [← b3, ← b4]
      refine zc_bi_c (by omega) g11 g12 (fun k hk y1 y2 => ?_) (fun y => ⟨hk2 y, fun j hj => ?_⟩) z2
      · rw [← ha2]
        exact ((c1 a k ha hk).2.2 (by rw [g11 k hk]; exact y1) y2).symm
      · rw [← ha2]; exact (c3 y a ha j hj).symm
  · have hne : h = 1 → K.bl a pl ≠ -1 := by
      intro hh e
      rcases f2 with ⟨z0, z1, -⟩ | ⟨z0, -⟩
      · have := zf_FP_1 (by omega) f1 (zf_FP_c g11 z1)
        rw [e] at this
        exact absurd this.symm (zn_m1 (by omega))
      · omega
    have hadr : ∀ x k, k < 8 → ¬ (x = a ∧ k = pl) → 128 * ca + 8 * x + k ≠ ao + pl := by
      intro x k hk q e
      exact q (by omega)
    have hbl : ∀ j, j ≠ ao + pl → G2 11 j = G 11 j := by
      intro j hj
      rcases f2 with ⟨z0, z1, z2, z3, z4, z5, z6, z7⟩ | ⟨z0, z1, z2, z3, z4, z5, z6, z7⟩
      · rw [z6]
      · rw [z6, pk_un hj]
    have hbl1 : G2 11 (ao + pl) = nI b := by
      rcases f2 with ⟨z0, z1, z2, z3, z4, z5, z6, z7⟩ | ⟨z0, z1, z2, z3, z4, z5, z6, z7⟩
      · rw [z6]; exact zf_FP_1 (g := fun k => G 11 (ao + k)) (by omega) f1 z1
      · rw [z6, pk_us]
    refine ⟨⟨by rw [e3]; exact a1, by rw [e4]; exact a2, by rw [e5]; exact a3, by rw [e6]; exact a4⟩, ⟨?_, ?_, rfl, rfl⟩, fun x k hx hk => ?_, fun x k hx hk hn => ?_, fun hkd x hx j hj => ?_⟩
    · show G2 7 ca = if h = 1 then K.hi + 1 else K.hi
      rcases f2 with ⟨z0, z1, z2, z3, z4, z5, z6, z7⟩ | ⟨z0, z1, z2, z3, z4, z5, z6, z7⟩
      · rw [z2, pk_us, if_pos z0, b1]
      · rw [z4, if_neg (by omega), b1]
    · show G2 8 ca = if h = 1 then K.mi else K.mi + 1
      rcases f2 with ⟨z0, z1, z2, z3, z4, z5, z6, z7⟩ | ⟨z0, z1, z2, z3, z4, z5, z6, z7⟩
      · rw [z3, if_pos z0, b2]
      · rw [z5, pk_us, if_neg (by omega), b2]
    · have hx : x < 2 ^ K.sb := hx
      have hk : k < K.wy := hk
      obtain ⟨d1, d2, d3⟩ := c1 x k hx hk
      show G2 11 (128 * ca + 8 * x + k) = zu_2 K.bl a pl (nI b) x k ∧ G2 12 (128 * ca + 8 * x + k) = zu_2 K.di a pl _ x k ∧ (zu_2 K.bl a pl (nI b) x k ≠ -1 → K.kd ≠ 2 → zm_gs K.kd (128 * ca + 8 * x) (G2 13) (G2 14) k = zu_2 K.st a pl _ x k)
      by_cases q : x = a ∧ k = pl
      · obtain ⟨rfl, rfl⟩ := q
        rw [zu_2s, zu_2s, zu_2s, ha2]
        refine ⟨hbl1, by rw [f3.2, ← g12 k hk], fun _ y2 => ?_⟩
        show (if K.kd = 0 then G2 13 (ao + k) else G2 14 (ao + k)) = _
        rw [el, pk_us]
        rcases f2 with ⟨z0, z1, z2, z3, z4, z5, z6, z7⟩ | ⟨z0, z1, z2, z3, z4, z5, z6, z7⟩
        · by_cases y3 : K.kd = 0
          · rw [if_pos y3, if_neg (by omega)]
          · have o3 := hok.2.2.1
            rw [if_neg y3, if_pos ⟨z0, by omega⟩, z7]
            have := d3 (hne z0) y2
            rw [ha2, zm_gs1 (by omega)] at this
            exact this
        · rw [if_neg (show ¬ (h = 1 ∧ K.kd = 1) by omega), z7, pk_us]
          split <;> rfl
      · rw [zu_2n q, zu_2n q, zu_2n q]
        have hk8 : k < 8 := by omega
        refine ⟨by rw [hbl _ (hadr x k hk8 q), d1], by rw [f3.1 _ (hadr x k hk8 q), d2], fun y1 y2 => ?_⟩
        rw [← d3 y1 y2]
        show (if K.kd = 0 then G2 13 (128 * ca + 8 * x + k) else G2 14 (128 * ca + 8 * x + k)) = (if K.kd = 0 then G 13 (128 * ca + 8 * x + k) else G 14 (128 * ca + 8 * x + k))
        rw [el, pk_un (hadr x k hk8 q)]
        rcases f2 with ⟨z0, z1, z2, z3, z4, z5, z6, z7⟩ | ⟨z0, z1, z2, z3, z4, z5, z6, z7⟩
        · rw [z7]
        · rw [z7, pk_un (hadr x k hk8 q)]
    · have hq : ¬ (x = a ∧ k = pl) := by
        rintro ⟨rfl, rfl⟩
        exact hn ⟨ha, f1⟩
      obtain ⟨d1, d2⟩ := c2 x k hx hk hn
      exact ⟨by rw [hbl _ (hadr x k hk hq), d1], by rw [f3.1 _ (hadr x k hk hq), d2]⟩
    · have hx : x < 2 ^ K.sb := hx
      have hx16 := zK_16 hsb hx
      show zm_tb (G2 15) (128 * ca + 8 * x) j = (if x = a then zt_pa pl 4 (K.wy / 2) 1 (K.tr a) else K.tr x) j
      by_cases q : x = a
      · subst q
        rw [if_pos rfl, ha2, f6, zt_same (hk2 hkd) f1]
        refine zt_mt_c _ _ _ _ _ _ j ?_
        rw [← ha2]; exact c3 hkd x ha j hj
      · rw [if_neg q, ← c3 hkd x hx j hj]
        show decide (G2 15 (128 * ca + 8 * x + j) ≠ 0) = decide (G 15 (128 * ca + 8 * x + j) ≠ 0)
        rw [f7 _ (by omega)]
end
section
/-! PURE ROWS 13: the whole state, and what each call asks -/
def zo_up (Ks : Nat → Option zK) (c : Nat) (K : zK) : Nat → Option zK := fun i => if i = c then some K else Ks i
theorem zo_s {Ks : Nat → Option zK} {c : Nat} {K : zK} : zo_up Ks c K c = some K := if_pos rfl
theorem zo_n {Ks : Nat → Option zK} {c i : Nat} {K : zK} (h : i ≠ c) : zo_up Ks c K i = Ks i := if_neg h
def zm_is (G : Nat → Nat → Int32) (n : Nat) (ad : Nat → Nat) (Ks : Nat → Option zK) : Prop :=
  n ≤ 400 ∧ (∀ j, j < n → G 1 j = nI (ad j) ∧ ad j < 4096) ∧ (∀ j, j < 512 → G 12 j = 0 ∨ G 12 j = 1) ∧ ∀ c, c < 4 → (G 2 c = 0 ∧ Ks c = none) ∨ (G 2 c = 1 ∧ ∃ K, Ks c = some K ∧ zK_ok K ∧ zv_m G c K)
theorem zm_is_at {G : Nat → Nat → Int32} {n : Nat} {ad : Nat → Nat} {Ks : Nat → Option zK} {c : Nat} (h : zm_is G n ad Ks) (hc : c < 4) (h0 : ¬ G 2 c = 0) : ∃ K, Ks c = some K ∧ zK_ok K ∧ zv_m G c K := by
  rcases h.2.2.2 c hc with ⟨z, -⟩ | ⟨-, z⟩
  · exact absurd z h0
  · exact z
theorem zm_is_no {G : Nat → Nat → Int32} {n : Nat} {ad : Nat → Nat} {Ks : Nat → Option zK} {c : Nat} (h : zm_is G n ad Ks) (hc : c < 4) (h0 : G 2 c = 0) : Ks c = none := by
  rcases h.2.2.2 c hc with ⟨-, z⟩ | ⟨z, -⟩
  · exact z
  · rw [h0] at z; exact absurd z (by decide)
theorem zm_is_see {G G2 : Nat → Nat → Int32} {n : Nat} {ad : Nat → Nat} {Ks : Nat → Option zK} {K : zK} {ca a0 b a ao pl h : Nat} {wr : Int32} (his : zm_is G n ad Ks) (hc : ca < 4) (hK : Ks ca = some K) (hok : zK_ok K) (hv : zv_m G ca K) (had : a0 < 4096) (hb1 : a0 / 2 ^ K.bb = b) (ha1 : b % 2 ^ K.sb = a) (ha2 : 128 * ca + 8 * a = ao)
    (e1 : G2 1 = G 1) (e2 : G2 2 = G 2) (e3 : G2 3 = G 3) (e4 : G2 4 = G 4) (e5 : G2 5 = G 5) (e6 : G2 6 = G 6) (el : G2 13 = upd (G 13) (ao + pl) (nI n)) (f1 : pl < K.wy)
    (f2 : (h = 1 ∧ zf_FP (fun k => G 11 (ao + k)) K.wy (nI b) (nI pl) ∧ G2 7 = upd (G 7) ca (G 7 ca + 1) ∧ G2 8 = G 8 ∧ G2 9 = G 9 ∧ G2 10 = G 10 ∧ G2 11 = G 11 ∧ G2 14 = G 14) ∨
      (h = 0 ∧ zf_FP (fun k => G 11 (ao + k)) K.wy (nI b) (-1) ∧ zc_bi K.wy K.kd (fun k => G 11 (ao + k)) (zm_gs K.kd ao (G 13) (G 14)) (fun k => G 12 (ao + k)) (zm_tb (G 15) ao) pl (G 9 ca) (G 10 ca) (G2 9 ca) (G2 10 ca) ∧ (∀ j, j ≠ ca → G2 9 j = G 9 j ∧ G2 10 j = G 10 j) ∧ G2 7 = G 7 ∧ G2 8 = upd (G 8) ca (G 8 ca + 1) ∧ G2 11 = upd (G 11) (ao + pl) (nI b) ∧ G2 14 = upd (G 14) (ao + pl) (nI n)))
    (f3 : (∀ j, j ≠ ao + pl → G2 12 j = G 12 j) ∧ G2 12 (ao + pl) = if wr = 0 then (if h = 1 then G 12 (ao + pl) else 0) else 1)
    (f6 : zm_tb (G2 15) ao = zt_mt pl 4 (K.wy / 2) 1 0 (zm_tb (G 15) ao)) (f7 : ∀ j, (j < ao ∨ ao + 8 ≤ j) → G2 15 j = G 15 j) :
    ∃ K2, zK_see K a0 wr (nI n) h K2 ∧ zm_is G2 n ad (zo_up Ks ca K2) := by
  obtain ⟨K2, s1, s2⟩ := zv_m_see hv hok had hb1 ha1 ha2 e3 e4 e5 e6 el f1 f2 f3 f6 f7
  refine ⟨K2, s1, his.1, fun j hj => by rw [e1]; exact his.2.1 j hj, fun j hj => ?_, fun c h4 => ?_⟩
  · by_cases q : j = ao + pl
    · subst q
      rw [f3.2]
      split
      · split
        · exact his.2.2.1 _ hj
        · exact Or.inl rfl
      · exact Or.inr rfl
    · rw [f3.1 j q]; exact his.2.2.1 j hj
  · by_cases q : c = ca
    · subst q
      rcases his.2.2.2 c h4 with ⟨z1, z2⟩ | ⟨z1, -⟩
      · rw [hK] at z2; exact absurd z2 (by simp)
      · exact Or.inr ⟨by rw [e2]; exact z1, K2, zo_s, zK_see_ok had hok s1, s2⟩
    · rw [zo_n q]
      rcases his.2.2.2 c h4 with ⟨z1, z2⟩ | ⟨z1, K', z2, z3, z4⟩
      · exact Or.inl ⟨by rw [e2]; exact z1, z2⟩
      · have hsb := hok.1
        have hwy := hok.2.1
        have ha : a < 2 ^ K.sb := by rw [← ha1]; exact Nat.mod_lt _ (Nat.two_pow_pos _)
        have ha16 := zK_16 hsb ha
        refine Or.inr ⟨by rw [e2]; exact z1, K', z2, z3, zv_m_fr z3 (fun i i1 i2 => ?_) (fun i i1 i2 j j1 j2 => ?_) z4⟩
        · rcases (show i = 3 ∨ i = 4 ∨ i = 5 ∨ i = 6 ∨ i = 7 ∨ i = 8 ∨ i = 9 ∨ i = 10 by omega) with rfl | rfl | rfl | rfl | rfl | rfl | rfl | rfl
          · rw [e3]
          · rw [e4]
          · rw [e5]
          · rw [e6]
          · rcases f2 with ⟨y0, y1, y2, y3, y4, y5, y6, y7⟩ | ⟨y0, y1, y2, y3, y4, y5, y6, y7⟩
            · rw [y2, pk_un q]
            · rw [y4]
          · rcases f2 with ⟨y0, y1, y2, y3, y4, y5, y6, y7⟩ | ⟨y0, y1, y2, y3, y4, y5, y6, y7⟩
            · rw [y3]
            · rw [y5, pk_un q]
          · rcases f2 with ⟨y0, y1, y2, y3, y4, y5, y6, y7⟩ | ⟨y0, y1, y2, y3, y4, y5, y6, y7⟩
            · rw [y4]
            · exact (y3 c q).1
          · rcases f2 with ⟨y0, y1, y2, y3, y4, y5, y6, y7⟩ | ⟨y0, y1, y2, y3, y4, y5, y6, y7⟩
            · rw [y5]
            · exact (y3 c q).2
        · have hne : j ≠ ao + pl := by omega
          rcases (show i = 11 ∨ i = 12 ∨ i = 13 ∨ i = 14 ∨ i = 15 by omega) with rfl | rfl | rfl | rfl | rfl
          · rcases f2 with ⟨y0, y1, y2, y3, y4, y5, y6, y7⟩ | ⟨y0, y1, y2, y3, y4, y5, y6, y7⟩
            · rw [y6]
            · rw [y6, pk_un hne]
          · exact f3.1 j hne
          · rw [el, pk_un hne]
          · rcases f2 with ⟨y0, y1, y2, y3, y4, y5, y6, y7⟩ | ⟨y0, y1, y2, y3, y4, y5, y6, y7⟩
            · rw [y7]
            · rw [y7, pk_un hne]
          · exact f7 j (by omega)
/-- how a cache hits, or isn't there -/
def zK_acc (o o2 : Option zK) (ad : Nat) (wr num : Int32) (h : Nat) : Prop := (o = none ∧ o2 = none ∧ h = 0) ∨ ∃ K K2, o = some K ∧ o2 = some K2 ∧ zK_see K ad wr num h K2
theorem zK_see_h {K K2 : zK} {ad h : Nat} {wr num : Int32} (s : zK_see K ad wr num h K2) : h ≤ 1 := by
  obtain ⟨b, a, p1, v1, w1, -, -, -, -, c⟩ := s
  rcases c with ⟨z, -⟩ | ⟨z, -⟩ <;> omega
theorem zK_acc_h {o o2 : Option zK} {ad h : Nat} {wr num : Int32} (s : zK_acc o o2 ad wr num h) : h ≤ 1 := by
  rcases s with ⟨-, -, z⟩ | ⟨K, K2, -, -, z⟩
  · omega
  · exact zK_see_h z
theorem zK_acc_u {o o1 o2 : Option zK} {ad h1 h2 : Nat} {wr num : Int32} (hok : ∀ K, o = some K → K.wy ≤ 8) (s1 : zK_acc o o1 ad wr num h1) (s2 : zK_acc o o2 ad wr num h2) : h1 = h2 ∧ o1 = o2 := by
  rcases s1 with ⟨a1, a2, a3⟩ | ⟨K, K1, a1, a2, a3⟩ <;> rcases s2 with ⟨b1, b2, b3⟩ | ⟨K', K2, b1, b2, b3⟩
  · exact ⟨by omega, by rw [a2, b2]⟩
  · rw [a1] at b1; exact absurd b1 (by simp)
  · rw [a1] at b1; exact absurd b1 (by simp)
  · rw [a1] at b1
    cases b1
    obtain ⟨e1, e2⟩ := zK_see_u (hok K a1) a3 b3
    exact ⟨e1, by rw [a2, b2, e2]⟩
def zh_s (hs : Nat → Nat) : Nat → Nat
  | 0 => 0
  | c + 1 => zh_s hs c + hs c * 2 ^ c
theorem zh_s_c {hs hs' : Nat → Nat} : ∀ c, (∀ i, i < c → hs' i = hs i) → zh_s hs' c = zh_s hs c
  | 0, _ => rfl
  | c + 1, h => by
    show zh_s hs' c + hs' c * 2 ^ c = zh_s hs c + hs c * 2 ^ c
    rw [zh_s_c c (fun i hi => h i (by omega)), h c (by omega)]
theorem zh_s_lt {hs : Nat → Nat} : ∀ c, (∀ i, i < c → hs i ≤ 1) → zh_s hs c < 2 ^ c
  | 0, _ => by simp [zh_s]
  | c + 1, h => by
    show zh_s hs c + hs c * 2 ^ c < 2 ^ (c + 1)
    have h1 := zh_s_lt c (fun i hi => h i (by omega))
    have h2 : hs c * 2 ^ c ≤ 1 * 2 ^ c := Nat.mul_le_mul_right _ (h c (by omega))
    rw [Nat.pow_succ]; omega
theorem zh_or0 : ∀ c : Fin 4, ∀ x : Fin 16, x.val < 2 ^ c.val → nI x.val ||| (nI 1 <<< (nI c.val &&& 31)) = nI (x.val + 1 * 2 ^ c.val) := by decide +kernel
theorem zh_or {c x : Nat} (hc : c < 4) (hx : x < 2 ^ c) : nI x ||| (nI 1 <<< (nI c &&& 31)) = nI (x + 1 * 2 ^ c) := by
  have h1 : 2 ^ c ≤ 2 ^ 3 := Nat.pow_le_pow_right (by decide) (by omega)
  exact zh_or0 ⟨c, hc⟩ ⟨x, by omega⟩ hx
def zh_u (hs : Nat → Nat) (c h : Nat) : Nat → Nat := fun i => if i = c then h else hs i
/-- the caches below c have seen the access -/
def zh_I (Ks Ks1 : Nat → Option zK) (ad : Nat) (wr num : Int32) (c : Nat) (hs : Nat → Nat) (all : Nat) : Prop :=
  (∀ i, i < c → zK_acc (Ks i) (Ks1 i) ad wr num (hs i)) ∧ (∀ i, c ≤ i → Ks1 i = Ks i) ∧ all = zh_s hs c ∧ all < 2 ^ c
theorem zh_I0 {Ks : Nat → Option zK} {ad : Nat} {wr num : Int32} {hs : Nat → Nat} : zh_I Ks Ks ad wr num 0 hs 0 := ⟨fun i h => by omega, fun _ _ => rfl, rfl, by decide⟩
theorem zh_Is {Ks Ks1 : Nat → Option zK} {ad : Nat} {wr num : Int32} {c all h : Nat} {hs : Nat → Nat} {K K2 : zK} (hI : zh_I Ks Ks1 ad wr num c hs all) (hK : Ks1 c = some K) (hs2 : zK_see K ad wr num h K2) : zh_I Ks (zo_up Ks1 c K2) ad wr num (c + 1) (zh_u hs c h) (all + h * 2 ^ c) := by
  obtain ⟨h1, h2, h3, h4⟩ := hI
  have hh := zK_see_h hs2
  refine ⟨fun i hi => ?_, fun i hi => ?_, ?_, ?_⟩
  · by_cases q : i = c
    · subst q
      rw [zo_s]
      refine Or.inr ⟨K, K2, by rw [← h2 i (Nat.le_refl _)]; exact hK, rfl, ?_⟩
      show zK_see K ad wr num (if i = i then h else hs i) K2
      rw [if_pos rfl]; exact hs2
    · rw [zo_n q]
      have := h1 i (by omega)
      show zK_acc (Ks i) (Ks1 i) ad wr num (if i = c then h else hs i)
      rw [if_neg q]; exact this
  · rw [zo_n (by omega)]; exact h2 i (by omega)
  · show all + h * 2 ^ c = zh_s (zh_u hs c h) c + zh_u hs c h c * 2 ^ c
    rw [zh_s_c (hs := hs) (hs' := zh_u hs c h) c (fun i hi => if_neg (by omega)), ← h3]
    show _ = _ + (if c = c then h else hs c) * 2 ^ c
    rw [if_pos rfl]
  · have : h * 2 ^ c ≤ 1 * 2 ^ c := Nat.mul_le_mul_right _ hh
    rw [Nat.pow_succ]; omega
theorem zh_In {Ks Ks1 : Nat → Option zK} {ad : Nat} {wr num : Int32} {c all : Nat} {hs : Nat → Nat} (hI : zh_I Ks Ks1 ad wr num c hs all) (hK : Ks1 c = none) : zh_I Ks Ks1 ad wr num (c + 1) (zh_u hs c 0) all := by
  obtain ⟨h1, h2, h3, h4⟩ := hI
  refine ⟨fun i hi => ?_, fun i hi => h2 i (by omega), ?_, by rw [Nat.pow_succ]; omega⟩
  · by_cases q : i = c
    · subst q
      exact Or.inl ⟨by rw [← h2 i (Nat.le_refl _)]; exact hK, hK, if_pos rfl⟩
    · have := h1 i (by omega)
      show zK_acc (Ks i) (Ks1 i) ad wr num (if i = c then 0 else hs i)
      rw [if_neg q]; exact this
  · show all = zh_s (zh_u hs c 0) c + zh_u hs c 0 c * 2 ^ c
    rw [zh_s_c (hs := hs) (hs' := zh_u hs c 0) c (fun i hi => if_neg (by omega)), ← h3]
    show _ = _ + (if c = c then 0 else hs c) * 2 ^ c
    rw [if_pos rfl]; omega
/-! what each call asks: r the answer, t what is thrown -/
def zq_access (n : Nat) (ad : Nat → Nat) (Ks : Nat → Option zK) (x wr r : Int32) (t n2 : Nat) (ad2 : Nat → Nat) (Ks2 : Nat → Option zK) : Prop :=
  (t = 1 ∧ (∀ k, k < 4096 → x ≠ nI k) ∧ n2 = n ∧ ad2 = ad ∧ Ks2 = Ks) ∨ (t = 2 ∧ (∃ k, k < 4096 ∧ x = nI k) ∧ n = 400 ∧ n2 = n ∧ ad2 = ad ∧ Ks2 = Ks) ∨
  (t = 0 ∧ n < 400 ∧ ∃ (k : Nat) (hs : Nat → Nat), k < 4096 ∧ x = nI k ∧ (∀ i, i < 4 → zK_acc (Ks i) (Ks2 i) k wr (nI n) (hs i)) ∧ (∀ i, 4 ≤ i → Ks2 i = Ks i) ∧ r = nI (zh_s hs 4) ∧ n2 = n + 1 ∧ ad2 = (fun j => if j = n then k else ad j))
theorem zm_is_keep {G : Nat → Nat → Int32} {n k : Nat} {ad : Nat → Nat} {Ks : Nat → Option zK} {G2 : Nat → Nat → Int32} (his : zm_is G n ad Ks) (hn : n < 400) (hk : k < 4096) (e1 : G2 1 = upd (G 1) n (nI k)) (e2 : ∀ i, 2 ≤ i → i ≤ 15 → G2 i = G i) : zm_is G2 (n + 1) (fun j => if j = n then k else ad j) Ks := by
  refine ⟨by omega, fun j hj => ?_, fun j hj => by rw [e2 12 (by omega) (by omega)]; exact his.2.2.1 j hj, fun c hc => ?_⟩
  · rw [e1]
    show upd (G 1) n (nI k) j = nI (if j = n then k else ad j) ∧ (if j = n then k else ad j) < 4096
    by_cases q : j = n
    · subst q
      rw [pk_us, if_pos rfl]; exact ⟨rfl, hk⟩
    · rw [pk_un q, if_neg q]; exact his.2.1 j (by omega)
  · rcases his.2.2.2 c hc with ⟨z1, z2⟩ | ⟨z1, K', z2, z3, z4⟩
    · exact Or.inl ⟨by rw [e2 2 (by omega) (by omega)]; exact z1, z2⟩
    · exact Or.inr ⟨by rw [e2 2 (by omega) (by omega)]; exact z1, K', z2, z3, zv_m_fr z3 (fun i i1 i2 => by rw [e2 i (by omega) (by omega)]) (fun i i1 i2 j _ _ => by rw [e2 i (by omega) (by omega)]) z4⟩
theorem zm_nb {n : Nat} {x : Int32} {h : Nat} (hn : n < 2 ^ 31) (hin : zm_in h x (nI 0) (nI n)) (h0 : h = 0) : ∀ k, k < n + 1 → x ≠ nI k := fun k hk => zm_in0 (by decide) hn hin h0 k (Nat.zero_le _) (by omega)
end
section
theorem zz_end : True := trivial
end
