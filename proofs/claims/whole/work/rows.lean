section
-- ===== PART A: goes FIRST, ahead of the names: the tables' words, and 'selects' of the private methods out of them =====
/-- a private method of a class that the tables say can be made, by its rows of tables_1 -/
def lw_okq (q : MethodName × Nat) : Prop := (q.1.cls ≠ "java/lang/invoke/MethodHandle" ∧ q.1.cls ≠ "java/lang/invoke/VarHandle") ∧ Cond.instantiable q.1.cls q.2 ∈ tables_1 ∧ Cond.privateMethod q.1 ∈ tables_1 ∧ Cond.instanceMethod q.1 ∈ tables_1
theorem lw_p0 : lw_okq (⟨"GroupBitmaps", "layOut", "(II)V"⟩, 5) := ⟨⟨by decide +kernel, by decide +kernel⟩, List.mem_of_getElem? (i := 13) (by decide +kernel), List.mem_of_getElem? (i := 80) (by decide +kernel), List.mem_of_getElem? (i := 81) (by decide +kernel)⟩
theorem lw_p1 : lw_okq (⟨"java/lang/Throwable", "fillInStackTrace", "(I)Ljava/lang/Throwable;"⟩, 6) := ⟨⟨by decide +kernel, by decide +kernel⟩, List.mem_of_getElem? (i := 166) (by decide +kernel), List.mem_of_getElem? (i := 164) (by decide +kernel), List.mem_of_getElem? (i := 165) (by decide +kernel)⟩
theorem lw_p2 : lw_okq (⟨"GroupBitmaps", "freeBlocks", "()I"⟩, 5) := ⟨⟨by decide +kernel, by decide +kernel⟩, List.mem_of_getElem? (i := 13) (by decide +kernel), List.mem_of_getElem? (i := 197) (by decide +kernel), List.mem_of_getElem? (i := 198) (by decide +kernel)⟩
theorem lw_p3 : lw_okq (⟨"GroupBitmaps", "takeable", "(Z)I"⟩, 5) := ⟨⟨by decide +kernel, by decide +kernel⟩, List.mem_of_getElem? (i := 13) (by decide +kernel), List.mem_of_getElem? (i := 209) (by decide +kernel), List.mem_of_getElem? (i := 210) (by decide +kernel)⟩
theorem lw_p4 : lw_okq (⟨"GroupBitmaps", "hasBlock", "(I)Z"⟩, 5) := ⟨⟨by decide +kernel, by decide +kernel⟩, List.mem_of_getElem? (i := 13) (by decide +kernel), List.mem_of_getElem? (i := 224) (by decide +kernel), List.mem_of_getElem? (i := 225) (by decide +kernel)⟩
theorem lw_p5 : lw_okq (⟨"GroupBitmaps", "allBlocks", "()I"⟩, 5) := ⟨⟨by decide +kernel, by decide +kernel⟩, List.mem_of_getElem? (i := 13) (by decide +kernel), List.mem_of_getElem? (i := 228) (by decide +kernel), List.mem_of_getElem? (i := 229) (by decide +kernel)⟩
theorem lw_p6 : lw_okq (⟨"GroupBitmaps", "takeNear", "(II)I"⟩, 5) := ⟨⟨by decide +kernel, by decide +kernel⟩, List.mem_of_getElem? (i := 13) (by decide +kernel), List.mem_of_getElem? (i := 253) (by decide +kernel), List.mem_of_getElem? (i := 254) (by decide +kernel)⟩
theorem lw_p7 : lw_okq (⟨"GroupBitmaps", "groupOfBlock", "(I)LGroupBitmaps$Group;"⟩, 5) := ⟨⟨by decide +kernel, by decide +kernel⟩, List.mem_of_getElem? (i := 13) (by decide +kernel), List.mem_of_getElem? (i := 257) (by decide +kernel), List.mem_of_getElem? (i := 258) (by decide +kernel)⟩
theorem lw_p8 : lw_okq (⟨"GroupBitmaps", "takeRun", "(LGroupBitmaps$Group;II)I"⟩, 5) := ⟨⟨by decide +kernel, by decide +kernel⟩, List.mem_of_getElem? (i := 13) (by decide +kernel), List.mem_of_getElem? (i := 269) (by decide +kernel), List.mem_of_getElem? (i := 270) (by decide +kernel)⟩
theorem lw_p9 : lw_okq (⟨"GroupBitmaps", "groupBehind", "(LGroupBitmaps$Group;I)LGroupBitmaps$Group;"⟩, 5) := ⟨⟨by decide +kernel, by decide +kernel⟩, List.mem_of_getElem? (i := 13) (by decide +kernel), List.mem_of_getElem? (i := 277) (by decide +kernel), List.mem_of_getElem? (i := 278) (by decide +kernel)⟩
theorem lw_p10 : lw_okq (⟨"GroupBitmaps", "takeLongestRun", "(LGroupBitmaps$Group;)I"⟩, 5) := ⟨⟨by decide +kernel, by decide +kernel⟩, List.mem_of_getElem? (i := 13) (by decide +kernel), List.mem_of_getElem? (i := 285) (by decide +kernel), List.mem_of_getElem? (i := 286) (by decide +kernel)⟩
theorem lw_p11 : lw_okq (⟨"GroupBitmaps", "areGivable", "(II)Z"⟩, 5) := ⟨⟨by decide +kernel, by decide +kernel⟩, List.mem_of_getElem? (i := 13) (by decide +kernel), List.mem_of_getElem? (i := 303) (by decide +kernel), List.mem_of_getElem? (i := 304) (by decide +kernel)⟩
theorem lw_p12 : lw_okq (⟨"GroupBitmaps", "hasFile", "(I)Z"⟩, 5) := ⟨⟨by decide +kernel, by decide +kernel⟩, List.mem_of_getElem? (i := 13) (by decide +kernel), List.mem_of_getElem? (i := 320) (by decide +kernel), List.mem_of_getElem? (i := 321) (by decide +kernel)⟩
theorem lw_p13 : lw_okq (⟨"GroupBitmaps", "groupForFolder", "(I)LGroupBitmaps$Group;"⟩, 5) := ⟨⟨by decide +kernel, by decide +kernel⟩, List.mem_of_getElem? (i := 13) (by decide +kernel), List.mem_of_getElem? (i := 325) (by decide +kernel), List.mem_of_getElem? (i := 326) (by decide +kernel)⟩
theorem lw_p14 : lw_okq (⟨"GroupBitmaps", "groupOfFile", "(I)LGroupBitmaps$Group;"⟩, 5) := ⟨⟨by decide +kernel, by decide +kernel⟩, List.mem_of_getElem? (i := 13) (by decide +kernel), List.mem_of_getElem? (i := 329) (by decide +kernel), List.mem_of_getElem? (i := 330) (by decide +kernel)⟩
theorem lw_p15 : lw_okq (⟨"GroupBitmaps", "leastFolders", "(LGroupBitmaps$Group;)LGroupBitmaps$Group;"⟩, 5) := ⟨⟨by decide +kernel, by decide +kernel⟩, List.mem_of_getElem? (i := 13) (by decide +kernel), List.mem_of_getElem? (i := 333) (by decide +kernel), List.mem_of_getElem? (i := 334) (by decide +kernel)⟩
def lw_privs_1 : List (MethodName × Nat) := [(⟨"GroupBitmaps", "layOut", "(II)V"⟩, 5), (⟨"java/lang/Throwable", "fillInStackTrace", "(I)Ljava/lang/Throwable;"⟩, 6), (⟨"GroupBitmaps", "freeBlocks", "()I"⟩, 5), (⟨"GroupBitmaps", "takeable", "(Z)I"⟩, 5), (⟨"GroupBitmaps", "hasBlock", "(I)Z"⟩, 5), (⟨"GroupBitmaps", "allBlocks", "()I"⟩, 5), (⟨"GroupBitmaps", "takeNear", "(II)I"⟩, 5), (⟨"GroupBitmaps", "groupOfBlock", "(I)LGroupBitmaps$Group;"⟩, 5), (⟨"GroupBitmaps", "takeRun", "(LGroupBitmaps$Group;II)I"⟩, 5), (⟨"GroupBitmaps", "groupBehind", "(LGroupBitmaps$Group;I)LGroupBitmaps$Group;"⟩, 5), (⟨"GroupBitmaps", "takeLongestRun", "(LGroupBitmaps$Group;)I"⟩, 5), (⟨"GroupBitmaps", "areGivable", "(II)Z"⟩, 5), (⟨"GroupBitmaps", "hasFile", "(I)Z"⟩, 5), (⟨"GroupBitmaps", "groupForFolder", "(I)LGroupBitmaps$Group;"⟩, 5), (⟨"GroupBitmaps", "groupOfFile", "(I)LGroupBitmaps$Group;"⟩, 5), (⟨"GroupBitmaps", "leastFolders", "(LGroupBitmaps$Group;)LGroupBitmaps$Group;"⟩, 5)]
theorem lw_r1 : ∀ q ∈ lw_privs_1, lw_okq q := List.forall_mem_cons.mpr ⟨lw_p0, List.forall_mem_cons.mpr ⟨lw_p1, List.forall_mem_cons.mpr ⟨lw_p2, List.forall_mem_cons.mpr ⟨lw_p3, List.forall_mem_cons.mpr ⟨lw_p4, List.forall_mem_cons.mpr ⟨lw_p5, List.forall_mem_cons.mpr ⟨lw_p6, List.forall_mem_cons.mpr ⟨lw_p7, List.forall_mem_cons.mpr ⟨lw_p8, List.forall_mem_cons.mpr ⟨lw_p9, List.forall_mem_cons.mpr ⟨lw_p10, List.forall_mem_cons.mpr ⟨lw_p11, List.forall_mem_cons.mpr ⟨lw_p12, List.forall_mem_cons.mpr ⟨lw_p13, List.forall_mem_cons.mpr ⟨lw_p14, List.forall_mem_cons.mpr ⟨lw_p15, fun _ h => absurd h List.not_mem_nil⟩⟩⟩⟩⟩⟩⟩⟩⟩⟩⟩⟩⟩⟩⟩⟩
theorem lw_p16 : lw_okq (⟨"GroupBitmaps", "freeFiles", "()I"⟩, 5) := ⟨⟨by decide +kernel, by decide +kernel⟩, List.mem_of_getElem? (i := 13) (by decide +kernel), List.mem_of_getElem? (i := 337) (by decide +kernel), List.mem_of_getElem? (i := 338) (by decide +kernel)⟩
theorem lw_p17 : lw_okq (⟨"GroupBitmaps", "firstWithRoom", "(LGroupBitmaps$Group;)LGroupBitmaps$Group;"⟩, 5) := ⟨⟨by decide +kernel, by decide +kernel⟩, List.mem_of_getElem? (i := 13) (by decide +kernel), List.mem_of_getElem? (i := 341) (by decide +kernel), List.mem_of_getElem? (i := 342) (by decide +kernel)⟩
theorem lw_p18 : lw_okq (⟨"GroupBitmaps", "firstWithFile", "(LGroupBitmaps$Group;)LGroupBitmaps$Group;"⟩, 5) := ⟨⟨by decide +kernel, by decide +kernel⟩, List.mem_of_getElem? (i := 13) (by decide +kernel), List.mem_of_getElem? (i := 349) (by decide +kernel), List.mem_of_getElem? (i := 350) (by decide +kernel)⟩
theorem lw_p19 : lw_okq (⟨"GroupBitmaps", "groupForPlain", "(I)LGroupBitmaps$Group;"⟩, 5) := ⟨⟨by decide +kernel, by decide +kernel⟩, List.mem_of_getElem? (i := 13) (by decide +kernel), List.mem_of_getElem? (i := 353) (by decide +kernel), List.mem_of_getElem? (i := 354) (by decide +kernel)⟩
theorem lw_p20 : lw_okq (⟨"GroupBitmaps", "tableByte", "(I)I"⟩, 5) := ⟨⟨by decide +kernel, by decide +kernel⟩, List.mem_of_getElem? (i := 13) (by decide +kernel), List.mem_of_getElem? (i := 425) (by decide +kernel), List.mem_of_getElem? (i := 426) (by decide +kernel)⟩
theorem lw_p21 : lw_okq (⟨"GroupBitmapsModel", "layOut", "(II)V"⟩, 11) := ⟨⟨by decide +kernel, by decide +kernel⟩, List.mem_of_getElem? (i := 452) (by decide +kernel), List.mem_of_getElem? (i := 458) (by decide +kernel), List.mem_of_getElem? (i := 459) (by decide +kernel)⟩
theorem lw_p22 : lw_okq (⟨"GroupBitmapsModel", "allBlocks", "()I"⟩, 11) := ⟨⟨by decide +kernel, by decide +kernel⟩, List.mem_of_getElem? (i := 452) (by decide +kernel), List.mem_of_getElem? (i := 514) (by decide +kernel), List.mem_of_getElem? (i := 515) (by decide +kernel)⟩
theorem lw_p23 : lw_okq (⟨"GroupBitmapsModel", "freeBlocks", "(I)I"⟩, 11) := ⟨⟨by decide +kernel, by decide +kernel⟩, List.mem_of_getElem? (i := 452) (by decide +kernel), List.mem_of_getElem? (i := 518) (by decide +kernel), List.mem_of_getElem? (i := 519) (by decide +kernel)⟩
theorem lw_p24 : lw_okq (⟨"GroupBitmapsModel", "isBlock", "(I)Z"⟩, 11) := ⟨⟨by decide +kernel, by decide +kernel⟩, List.mem_of_getElem? (i := 452) (by decide +kernel), List.mem_of_getElem? (i := 530) (by decide +kernel), List.mem_of_getElem? (i := 531) (by decide +kernel)⟩
theorem lw_p25 : lw_okq (⟨"GroupBitmapsModel", "areFree", "(II)Z"⟩, 11) := ⟨⟨by decide +kernel, by decide +kernel⟩, List.mem_of_getElem? (i := 452) (by decide +kernel), List.mem_of_getElem? (i := 534) (by decide +kernel), List.mem_of_getElem? (i := 535) (by decide +kernel)⟩
theorem lw_p26 : lw_okq (⟨"GroupBitmapsModel", "findRun", "(II)V"⟩, 11) := ⟨⟨by decide +kernel, by decide +kernel⟩, List.mem_of_getElem? (i := 452) (by decide +kernel), List.mem_of_getElem? (i := 538) (by decide +kernel), List.mem_of_getElem? (i := 539) (by decide +kernel)⟩
theorem lw_p27 : lw_okq (⟨"GroupBitmapsModel", "mark", "(IIZ)V"⟩, 11) := ⟨⟨by decide +kernel, by decide +kernel⟩, List.mem_of_getElem? (i := 452) (by decide +kernel), List.mem_of_getElem? (i := 542) (by decide +kernel), List.mem_of_getElem? (i := 543) (by decide +kernel)⟩
theorem lw_p28 : lw_okq (⟨"GroupBitmapsModel", "isFile", "(I)Z"⟩, 11) := ⟨⟨by decide +kernel, by decide +kernel⟩, List.mem_of_getElem? (i := 452) (by decide +kernel), List.mem_of_getElem? (i := 558) (by decide +kernel), List.mem_of_getElem? (i := 559) (by decide +kernel)⟩
theorem lw_p29 : lw_okq (⟨"GroupBitmapsModel", "allFiles", "()I"⟩, 11) := ⟨⟨by decide +kernel, by decide +kernel⟩, List.mem_of_getElem? (i := 452) (by decide +kernel), List.mem_of_getElem? (i := 562) (by decide +kernel), List.mem_of_getElem? (i := 563) (by decide +kernel)⟩
theorem lw_p30 : lw_okq (⟨"GroupBitmapsModel", "freeFiles", "(I)I"⟩, 11) := ⟨⟨by decide +kernel, by decide +kernel⟩, List.mem_of_getElem? (i := 452) (by decide +kernel), List.mem_of_getElem? (i := 566) (by decide +kernel), List.mem_of_getElem? (i := 567) (by decide +kernel)⟩
theorem lw_p31 : lw_okq (⟨"GroupBitmapsModel", "groupOfFolder", "(IZ)I"⟩, 11) := ⟨⟨by decide +kernel, by decide +kernel⟩, List.mem_of_getElem? (i := 452) (by decide +kernel), List.mem_of_getElem? (i := 570) (by decide +kernel), List.mem_of_getElem? (i := 571) (by decide +kernel)⟩
def lw_privs_2 : List (MethodName × Nat) := [(⟨"GroupBitmaps", "freeFiles", "()I"⟩, 5), (⟨"GroupBitmaps", "firstWithRoom", "(LGroupBitmaps$Group;)LGroupBitmaps$Group;"⟩, 5), (⟨"GroupBitmaps", "firstWithFile", "(LGroupBitmaps$Group;)LGroupBitmaps$Group;"⟩, 5), (⟨"GroupBitmaps", "groupForPlain", "(I)LGroupBitmaps$Group;"⟩, 5), (⟨"GroupBitmaps", "tableByte", "(I)I"⟩, 5), (⟨"GroupBitmapsModel", "layOut", "(II)V"⟩, 11), (⟨"GroupBitmapsModel", "allBlocks", "()I"⟩, 11), (⟨"GroupBitmapsModel", "freeBlocks", "(I)I"⟩, 11), (⟨"GroupBitmapsModel", "isBlock", "(I)Z"⟩, 11), (⟨"GroupBitmapsModel", "areFree", "(II)Z"⟩, 11), (⟨"GroupBitmapsModel", "findRun", "(II)V"⟩, 11), (⟨"GroupBitmapsModel", "mark", "(IIZ)V"⟩, 11), (⟨"GroupBitmapsModel", "isFile", "(I)Z"⟩, 11), (⟨"GroupBitmapsModel", "allFiles", "()I"⟩, 11), (⟨"GroupBitmapsModel", "freeFiles", "(I)I"⟩, 11), (⟨"GroupBitmapsModel", "groupOfFolder", "(IZ)I"⟩, 11)]
theorem lw_r2 : ∀ q ∈ lw_privs_2, lw_okq q := List.forall_mem_cons.mpr ⟨lw_p16, List.forall_mem_cons.mpr ⟨lw_p17, List.forall_mem_cons.mpr ⟨lw_p18, List.forall_mem_cons.mpr ⟨lw_p19, List.forall_mem_cons.mpr ⟨lw_p20, List.forall_mem_cons.mpr ⟨lw_p21, List.forall_mem_cons.mpr ⟨lw_p22, List.forall_mem_cons.mpr ⟨lw_p23, List.forall_mem_cons.mpr ⟨lw_p24, List.forall_mem_cons.mpr ⟨lw_p25, List.forall_mem_cons.mpr ⟨lw_p26, List.forall_mem_cons.mpr ⟨lw_p27, List.forall_mem_cons.mpr ⟨lw_p28, List.forall_mem_cons.mpr ⟨lw_p29, List.forall_mem_cons.mpr ⟨lw_p30, List.forall_mem_cons.mpr ⟨lw_p31, fun _ h => absurd h List.not_mem_nil⟩⟩⟩⟩⟩⟩⟩⟩⟩⟩⟩⟩⟩⟩⟩⟩
theorem lw_p32 : lw_okq (⟨"GroupBitmapsModel", "firstFree", "(I)I"⟩, 11) := ⟨⟨by decide +kernel, by decide +kernel⟩, List.mem_of_getElem? (i := 452) (by decide +kernel), List.mem_of_getElem? (i := 574) (by decide +kernel), List.mem_of_getElem? (i := 575) (by decide +kernel)⟩
theorem lw_p33 : lw_okq (⟨"GroupBitmapsModel", "groupOfPlain", "(I)I"⟩, 11) := ⟨⟨by decide +kernel, by decide +kernel⟩, List.mem_of_getElem? (i := 452) (by decide +kernel), List.mem_of_getElem? (i := 578) (by decide +kernel), List.mem_of_getElem? (i := 579) (by decide +kernel)⟩
theorem lw_p34 : lw_okq (⟨"GroupBitmapsModel", "markFile", "(IIZZ)V"⟩, 11) := ⟨⟨by decide +kernel, by decide +kernel⟩, List.mem_of_getElem? (i := 452) (by decide +kernel), List.mem_of_getElem? (i := 582) (by decide +kernel), List.mem_of_getElem? (i := 583) (by decide +kernel)⟩
theorem lw_p35 : lw_okq (⟨"GroupBitmapsModel", "descriptor", "(I)I"⟩, 11) := ⟨⟨by decide +kernel, by decide +kernel⟩, List.mem_of_getElem? (i := 452) (by decide +kernel), List.mem_of_getElem? (i := 602) (by decide +kernel), List.mem_of_getElem? (i := 603) (by decide +kernel)⟩
def lw_privs_3 : List (MethodName × Nat) := [(⟨"GroupBitmapsModel", "firstFree", "(I)I"⟩, 11), (⟨"GroupBitmapsModel", "groupOfPlain", "(I)I"⟩, 11), (⟨"GroupBitmapsModel", "markFile", "(IIZZ)V"⟩, 11), (⟨"GroupBitmapsModel", "descriptor", "(I)I"⟩, 11)]
theorem lw_r3 : ∀ q ∈ lw_privs_3, lw_okq q := List.forall_mem_cons.mpr ⟨lw_p32, List.forall_mem_cons.mpr ⟨lw_p33, List.forall_mem_cons.mpr ⟨lw_p34, List.forall_mem_cons.mpr ⟨lw_p35, fun _ h => absurd h List.not_mem_nil⟩⟩⟩⟩
def lw_privs : List (MethodName × Nat) := lw_privs_1 ++ (lw_privs_2 ++ (lw_privs_3))
def lw_tbl : List Cond := k2_sels lw_privs ++ tables_1
theorem lw_privs_ok : ∀ q ∈ lw_privs, lw_okq q := by
  show ∀ q ∈ lw_privs_1 ++ (lw_privs_2 ++ (lw_privs_3)), lw_okq q
  exact List.forall_mem_append.mpr ⟨lw_r1, List.forall_mem_append.mpr ⟨lw_r2, lw_r3⟩⟩
end
section
def R_GB : String := "GroupBitmaps"
def R_BM : String := "GroupBitmaps$Bitmap"
def R_GR : String := "GroupBitmaps$Group"
def R_MD : String := "GroupBitmapsModel"
def R_LW : String := "GroupBitmapsLaw"
def F_GB : u_T := fun k => match k with
  | 0 => ("GroupBitmaps", "groups", "[LGroupBitmaps$Group;", true)
  | 1 => ("GroupBitmaps", "count", "I", false)
  | 2 => ("GroupBitmaps", "reserved", "I", false)
  | 3 => ("GroupBitmaps", "latelyTaken", "I", false)
  | _ => ("GroupBitmaps", "tableTold", "Z", false)
def t_GB : Nat → FieldType := fun k => match k with
  | 0 => .array (.object "GroupBitmaps$Group")
  | 1 => .int
  | 2 => .int
  | 3 => .int
  | _ => .boolean
theorem n_GB : ∀ a, a < 5 → ∀ b, b < 5 → a ≠ b → (F_GB a).2.1 ≠ (F_GB b).2.1 := by decide +kernel
theorem t_GB_ok : ∀ k, k < 5 → parseFieldDescriptor (F_GB k).2.2.1 = some (t_GB k) := by decide +kernel
def F_GR : u_T := fun k => match k with
  | 0 => ("GroupBitmaps$Group", "first", "I", true)
  | 1 => ("GroupBitmaps$Group", "fixed", "I", true)
  | 2 => ("GroupBitmaps$Group", "records", "I", true)
  | 3 => ("GroupBitmaps$Group", "blocks", "LGroupBitmaps$Bitmap;", true)
  | 4 => ("GroupBitmaps$Group", "files", "LGroupBitmaps$Bitmap;", true)
  | _ => ("GroupBitmaps$Group", "folders", "I", false)
def t_GR : Nat → FieldType := fun k => match k with
  | 0 => .int
  | 1 => .int
  | 2 => .int
  | 3 => .object "GroupBitmaps$Bitmap"
  | 4 => .object "GroupBitmaps$Bitmap"
  | _ => .int
theorem n_GR : ∀ a, a < 6 → ∀ b, b < 6 → a ≠ b → (F_GR a).2.1 ≠ (F_GR b).2.1 := by decide +kernel
theorem t_GR_ok : ∀ k, k < 6 → parseFieldDescriptor (F_GR k).2.2.1 = some (t_GR k) := by decide +kernel
def F_BM : u_T := fun k => match k with
  | 0 => ("GroupBitmaps$Bitmap", "place", "I", true)
  | 1 => ("GroupBitmaps$Bitmap", "bits", "[Z", true)
  | 2 => ("GroupBitmaps$Bitmap", "size", "I", false)
  | 3 => ("GroupBitmaps$Bitmap", "freeCount", "I", false)
  | _ => ("GroupBitmaps$Bitmap", "told", "Z", false)
def t_BM : Nat → FieldType := fun k => match k with
  | 0 => .int
  | 1 => .array .boolean
  | 2 => .int
  | 3 => .int
  | _ => .boolean
theorem n_BM : ∀ a, a < 5 → ∀ b, b < 5 → a ≠ b → (F_BM a).2.1 ≠ (F_BM b).2.1 := by decide +kernel
theorem t_BM_ok : ∀ k, k < 5 → parseFieldDescriptor (F_BM k).2.2.1 = some (t_BM k) := by decide +kernel
def F_MD : u_T := fun k => match k with
  | 0 => ("GroupBitmapsModel", "thrown", "I", false)
  | 1 => ("GroupBitmapsModel", "groups", "I", false)
  | 2 => ("GroupBitmapsModel", "sizes", "[I", true)
  | 3 => ("GroupBitmapsModel", "blocks", "[Z", true)
  | 4 => ("GroupBitmapsModel", "files", "[Z", true)
  | 5 => ("GroupBitmapsModel", "folders", "[I", true)
  | 6 => ("GroupBitmapsModel", "reserved", "I", false)
  | 7 => ("GroupBitmapsModel", "latest", "I", false)
  | 8 => ("GroupBitmapsModel", "told", "[Z", true)
  | 9 => ("GroupBitmapsModel", "runAt", "I", false)
  | _ => ("GroupBitmapsModel", "runSize", "I", false)
def t_MD : Nat → FieldType := fun k => match k with
  | 0 => .int
  | 1 => .int
  | 2 => .array .int
  | 3 => .array .boolean
  | 4 => .array .boolean
  | 5 => .array .int
  | 6 => .int
  | 7 => .int
  | 8 => .array .boolean
  | 9 => .int
  | _ => .int
theorem n_MD : ∀ a, a < 11 → ∀ b, b < 11 → a ≠ b → (F_MD a).2.1 ≠ (F_MD b).2.1 := by decide +kernel
theorem t_MD_ok : ∀ k, k < 11 → parseFieldDescriptor (F_MD k).2.2.1 = some (t_MD k) := by decide +kernel
abbrev classes : List vw_C := [(R_GB, F_GB, 5), (R_GR, F_GR, 6), (R_BM, F_BM, 5), (R_MD, F_MD, 11)]
abbrev b_GB_init : ByteArray := prog_1_method_1_code
def y_GB_init : MethodName := ⟨"GroupBitmaps", "<init>", "()V"⟩
abbrev b_GB_lay : ByteArray := prog_1_method_2_code
def y_GB_lay : MethodName := ⟨"GroupBitmaps", "lay", "(II)I"⟩
abbrev b_GB_reserve : ByteArray := prog_1_method_3_code
def y_GB_reserve : MethodName := ⟨"GroupBitmaps", "reserve", "(I)I"⟩
abbrev b_GB_take : ByteArray := prog_1_method_4_code
def y_GB_take : MethodName := ⟨"GroupBitmaps", "take", "(IIZ)I"⟩
abbrev b_GB_taken : ByteArray := prog_1_method_5_code
def y_GB_taken : MethodName := ⟨"GroupBitmaps", "taken", "()I"⟩
abbrev b_GB_give : ByteArray := prog_1_method_6_code
def y_GB_give : MethodName := ⟨"GroupBitmaps", "give", "(II)I"⟩
abbrev b_GB_takeFile : ByteArray := prog_1_method_7_code
def y_GB_takeFile : MethodName := ⟨"GroupBitmaps", "takeFile", "(IZ)I"⟩
abbrev b_GB_giveFile : ByteArray := prog_1_method_8_code
def y_GB_giveFile : MethodName := ⟨"GroupBitmaps", "giveFile", "(IZ)I"⟩
abbrev b_GB_isTaken : ByteArray := prog_1_method_9_code
def y_GB_isTaken : MethodName := ⟨"GroupBitmaps", "isTaken", "(II)Z"⟩
abbrev b_GB_group : ByteArray := prog_1_method_10_code
def y_GB_group : MethodName := ⟨"GroupBitmaps", "group", "(II)I"⟩
abbrev b_GB_byteOf : ByteArray := prog_1_method_11_code
def y_GB_byteOf : MethodName := ⟨"GroupBitmaps", "byteOf", "(II)I"⟩
abbrev b_GB_isTold : ByteArray := prog_1_method_12_code
def y_GB_isTold : MethodName := ⟨"GroupBitmaps", "isTold", "(I)Z"⟩
abbrev b_GB_settle : ByteArray := prog_1_method_13_code
def y_GB_settle : MethodName := ⟨"GroupBitmaps", "settle", "()I"⟩
abbrev b_GB_layOut : ByteArray := prog_1_method_14_code
def y_GB_layOut : MethodName := ⟨"GroupBitmaps", "layOut", "(II)V"⟩
abbrev b_GB_allBlocks : ByteArray := prog_1_method_15_code
def y_GB_allBlocks : MethodName := ⟨"GroupBitmaps", "allBlocks", "()I"⟩
abbrev b_GB_hasBlock : ByteArray := prog_1_method_16_code
def y_GB_hasBlock : MethodName := ⟨"GroupBitmaps", "hasBlock", "(I)Z"⟩
abbrev b_GB_hasFile : ByteArray := prog_1_method_17_code
def y_GB_hasFile : MethodName := ⟨"GroupBitmaps", "hasFile", "(I)Z"⟩
abbrev b_GB_groupOfBlock : ByteArray := prog_1_method_18_code
def y_GB_groupOfBlock : MethodName := ⟨"GroupBitmaps", "groupOfBlock", "(I)LGroupBitmaps$Group;"⟩
abbrev b_GB_groupOfFile : ByteArray := prog_1_method_19_code
def y_GB_groupOfFile : MethodName := ⟨"GroupBitmaps", "groupOfFile", "(I)LGroupBitmaps$Group;"⟩
abbrev b_GB_groupBehind : ByteArray := prog_1_method_20_code
def y_GB_groupBehind : MethodName := ⟨"GroupBitmaps", "groupBehind", "(LGroupBitmaps$Group;I)LGroupBitmaps$Group;"⟩
abbrev b_GB_freeBlocks : ByteArray := prog_1_method_21_code
def y_GB_freeBlocks : MethodName := ⟨"GroupBitmaps", "freeBlocks", "()I"⟩
abbrev b_GB_freeFiles : ByteArray := prog_1_method_22_code
def y_GB_freeFiles : MethodName := ⟨"GroupBitmaps", "freeFiles", "()I"⟩
abbrev b_GB_takeable : ByteArray := prog_1_method_23_code
def y_GB_takeable : MethodName := ⟨"GroupBitmaps", "takeable", "(Z)I"⟩
abbrev b_GB_takeNear : ByteArray := prog_1_method_24_code
def y_GB_takeNear : MethodName := ⟨"GroupBitmaps", "takeNear", "(II)I"⟩
abbrev b_GB_takeLongestRun : ByteArray := prog_1_method_25_code
def y_GB_takeLongestRun : MethodName := ⟨"GroupBitmaps", "takeLongestRun", "(LGroupBitmaps$Group;)I"⟩
abbrev b_GB_takeRun : ByteArray := prog_1_method_26_code
def y_GB_takeRun : MethodName := ⟨"GroupBitmaps", "takeRun", "(LGroupBitmaps$Group;II)I"⟩
abbrev b_GB_areGivable : ByteArray := prog_1_method_27_code
def y_GB_areGivable : MethodName := ⟨"GroupBitmaps", "areGivable", "(II)Z"⟩
abbrev b_GB_groupForPlain : ByteArray := prog_1_method_28_code
def y_GB_groupForPlain : MethodName := ⟨"GroupBitmaps", "groupForPlain", "(I)LGroupBitmaps$Group;"⟩
abbrev b_GB_groupForFolder : ByteArray := prog_1_method_29_code
def y_GB_groupForFolder : MethodName := ⟨"GroupBitmaps", "groupForFolder", "(I)LGroupBitmaps$Group;"⟩
abbrev b_GB_leastFolders : ByteArray := prog_1_method_30_code
def y_GB_leastFolders : MethodName := ⟨"GroupBitmaps", "leastFolders", "(LGroupBitmaps$Group;)LGroupBitmaps$Group;"⟩
abbrev b_GB_firstWithRoom : ByteArray := prog_1_method_31_code
def y_GB_firstWithRoom : MethodName := ⟨"GroupBitmaps", "firstWithRoom", "(LGroupBitmaps$Group;)LGroupBitmaps$Group;"⟩
abbrev b_GB_firstWithFile : ByteArray := prog_1_method_32_code
def y_GB_firstWithFile : MethodName := ⟨"GroupBitmaps", "firstWithFile", "(LGroupBitmaps$Group;)LGroupBitmaps$Group;"⟩
abbrev b_GB_tableByte : ByteArray := prog_1_method_33_code
def y_GB_tableByte : MethodName := ⟨"GroupBitmaps", "tableByte", "(I)I"⟩
abbrev b_MD_init : ByteArray := prog_5_method_1_code
def y_MD_init : MethodName := ⟨"GroupBitmapsModel", "<init>", "()V"⟩
abbrev b_MD_thrown : ByteArray := prog_5_method_2_code
def y_MD_thrown : MethodName := ⟨"GroupBitmapsModel", "thrown", "()I"⟩
abbrev b_MD_heads : ByteArray := prog_5_method_3_code
def y_MD_heads : MethodName := ⟨"GroupBitmapsModel", "heads", "(I)I"⟩
abbrev b_MD_bitmap : ByteArray := prog_5_method_4_code
def y_MD_bitmap : MethodName := ⟨"GroupBitmapsModel", "bitmap", "(I)I"⟩
abbrev b_MD_fixed : ByteArray := prog_5_method_5_code
def y_MD_fixed : MethodName := ⟨"GroupBitmapsModel", "fixed", "(I)I"⟩
abbrev b_MD_layOut : ByteArray := prog_5_method_6_code
def y_MD_layOut : MethodName := ⟨"GroupBitmapsModel", "layOut", "(II)V"⟩
abbrev b_MD_freeBlocks : ByteArray := prog_5_method_7_code
def y_MD_freeBlocks : MethodName := ⟨"GroupBitmapsModel", "freeBlocks", "(I)I"⟩
abbrev b_MD_freeFiles : ByteArray := prog_5_method_8_code
def y_MD_freeFiles : MethodName := ⟨"GroupBitmapsModel", "freeFiles", "(I)I"⟩
abbrev b_MD_allBlocks : ByteArray := prog_5_method_9_code
def y_MD_allBlocks : MethodName := ⟨"GroupBitmapsModel", "allBlocks", "()I"⟩
abbrev b_MD_allFiles : ByteArray := prog_5_method_10_code
def y_MD_allFiles : MethodName := ⟨"GroupBitmapsModel", "allFiles", "()I"⟩
abbrev b_MD_isBlock : ByteArray := prog_5_method_11_code
def y_MD_isBlock : MethodName := ⟨"GroupBitmapsModel", "isBlock", "(I)Z"⟩
abbrev b_MD_isFile : ByteArray := prog_5_method_12_code
def y_MD_isFile : MethodName := ⟨"GroupBitmapsModel", "isFile", "(I)Z"⟩
abbrev b_MD_lay : ByteArray := prog_5_method_13_code
def y_MD_lay : MethodName := ⟨"GroupBitmapsModel", "lay", "(II)I"⟩
abbrev b_MD_reserve : ByteArray := prog_5_method_14_code
def y_MD_reserve : MethodName := ⟨"GroupBitmapsModel", "reserve", "(I)I"⟩
abbrev b_MD_findRun : ByteArray := prog_5_method_15_code
def y_MD_findRun : MethodName := ⟨"GroupBitmapsModel", "findRun", "(II)V"⟩
abbrev b_MD_areFree : ByteArray := prog_5_method_16_code
def y_MD_areFree : MethodName := ⟨"GroupBitmapsModel", "areFree", "(II)Z"⟩
abbrev b_MD_mark : ByteArray := prog_5_method_17_code
def y_MD_mark : MethodName := ⟨"GroupBitmapsModel", "mark", "(IIZ)V"⟩
abbrev b_MD_take : ByteArray := prog_5_method_18_code
def y_MD_take : MethodName := ⟨"GroupBitmapsModel", "take", "(IIZ)I"⟩
abbrev b_MD_taken : ByteArray := prog_5_method_19_code
def y_MD_taken : MethodName := ⟨"GroupBitmapsModel", "taken", "()I"⟩
abbrev b_MD_give : ByteArray := prog_5_method_20_code
def y_MD_give : MethodName := ⟨"GroupBitmapsModel", "give", "(II)I"⟩
abbrev b_MD_groupOfPlain : ByteArray := prog_5_method_21_code
def y_MD_groupOfPlain : MethodName := ⟨"GroupBitmapsModel", "groupOfPlain", "(I)I"⟩
abbrev b_MD_firstFree : ByteArray := prog_5_method_22_code
def y_MD_firstFree : MethodName := ⟨"GroupBitmapsModel", "firstFree", "(I)I"⟩
abbrev b_MD_groupOfFolder : ByteArray := prog_5_method_23_code
def y_MD_groupOfFolder : MethodName := ⟨"GroupBitmapsModel", "groupOfFolder", "(IZ)I"⟩
abbrev b_MD_markFile : ByteArray := prog_5_method_24_code
def y_MD_markFile : MethodName := ⟨"GroupBitmapsModel", "markFile", "(IIZZ)V"⟩
abbrev b_MD_takeFile : ByteArray := prog_5_method_25_code
def y_MD_takeFile : MethodName := ⟨"GroupBitmapsModel", "takeFile", "(IZ)I"⟩
abbrev b_MD_giveFile : ByteArray := prog_5_method_26_code
def y_MD_giveFile : MethodName := ⟨"GroupBitmapsModel", "giveFile", "(IZ)I"⟩
abbrev b_MD_isTaken : ByteArray := prog_5_method_27_code
def y_MD_isTaken : MethodName := ⟨"GroupBitmapsModel", "isTaken", "(II)Z"⟩
abbrev b_MD_group : ByteArray := prog_5_method_28_code
def y_MD_group : MethodName := ⟨"GroupBitmapsModel", "group", "(II)I"⟩
abbrev b_MD_descriptor : ByteArray := prog_5_method_29_code
def y_MD_descriptor : MethodName := ⟨"GroupBitmapsModel", "descriptor", "(I)I"⟩
abbrev b_MD_byteOf : ByteArray := prog_5_method_30_code
def y_MD_byteOf : MethodName := ⟨"GroupBitmapsModel", "byteOf", "(II)I"⟩
abbrev b_MD_isTold : ByteArray := prog_5_method_31_code
def y_MD_isTold : MethodName := ⟨"GroupBitmapsModel", "isTold", "(I)Z"⟩
abbrev b_MD_settle : ByteArray := prog_5_method_32_code
def y_MD_settle : MethodName := ⟨"GroupBitmapsModel", "settle", "()I"⟩
abbrev b_BM_init : ByteArray := prog_2_method_1_code
def y_BM_init : MethodName := ⟨"GroupBitmaps$Bitmap", "<init>", "(II)V"⟩
abbrev b_BM_layOut : ByteArray := prog_2_method_2_code
def y_BM_layOut : MethodName := ⟨"GroupBitmaps$Bitmap", "layOut", "(II)V"⟩
abbrev b_BM_isSet : ByteArray := prog_2_method_3_code
def y_BM_isSet : MethodName := ⟨"GroupBitmaps$Bitmap", "isSet", "(I)Z"⟩
abbrev b_BM_occupy : ByteArray := prog_2_method_4_code
def y_BM_occupy : MethodName := ⟨"GroupBitmaps$Bitmap", "occupy", "(I)V"⟩
abbrev b_BM_free : ByteArray := prog_2_method_5_code
def y_BM_free : MethodName := ⟨"GroupBitmaps$Bitmap", "free", "(I)V"⟩
abbrev b_BM_byteAt : ByteArray := prog_2_method_6_code
def y_BM_byteAt : MethodName := ⟨"GroupBitmaps$Bitmap", "byteAt", "(I)I"⟩
abbrev b_BM_leastFree : ByteArray := prog_2_method_7_code
def y_BM_leastFree : MethodName := ⟨"GroupBitmaps$Bitmap", "leastFree", "()I"⟩
abbrev b_BM_areFree : ByteArray := prog_2_method_8_code
def y_BM_areFree : MethodName := ⟨"GroupBitmaps$Bitmap", "areFree", "(II)Z"⟩
abbrev b_BM_longestRun : ByteArray := prog_2_method_9_code
def y_BM_longestRun : MethodName := ⟨"GroupBitmaps$Bitmap", "longestRun", "()I"⟩
abbrev b_BM_shortestRun : ByteArray := prog_2_method_10_code
def y_BM_shortestRun : MethodName := ⟨"GroupBitmaps$Bitmap", "shortestRun", "(I)I"⟩
abbrev b_BM_forgetTold : ByteArray := prog_2_method_11_code
def y_BM_forgetTold : MethodName := ⟨"GroupBitmaps$Bitmap", "forgetTold", "()I"⟩
abbrev b_GR_init : ByteArray := prog_3_method_1_code
def y_GR_init : MethodName := ⟨"GroupBitmaps$Group", "<init>", "(I)V"⟩
abbrev b_GR_layOut : ByteArray := prog_3_method_2_code
def y_GR_layOut : MethodName := ⟨"GroupBitmaps$Group", "layOut", "(I)V"⟩
abbrev b_GR_bitmapIn : ByteArray := prog_3_method_3_code
def y_GR_bitmapIn : MethodName := ⟨"GroupBitmaps$Group", "bitmapIn", "(I)LGroupBitmaps$Bitmap;"⟩
abbrev b_GR_hasFileAndBlock : ByteArray := prog_3_method_4_code
def y_GR_hasFileAndBlock : MethodName := ⟨"GroupBitmaps$Group", "hasFileAndBlock", "()Z"⟩
abbrev b_GR_occupyFile : ByteArray := prog_3_method_5_code
def y_GR_occupyFile : MethodName := ⟨"GroupBitmaps$Group", "occupyFile", "(Z)I"⟩
abbrev b_GR_freeFile : ByteArray := prog_3_method_6_code
def y_GR_freeFile : MethodName := ⟨"GroupBitmaps$Group", "freeFile", "(IZ)V"⟩
abbrev b_GR_tableByte : ByteArray := prog_3_method_7_code
def y_GR_tableByte : MethodName := ⟨"GroupBitmaps$Group", "tableByte", "(I)I"⟩
abbrev b_GR_byteOfNumber : ByteArray := prog_3_method_8_code
def y_GR_byteOfNumber : MethodName := ⟨"GroupBitmaps$Group", "byteOfNumber", "(II)I"⟩
abbrev b_LW_lay : ByteArray := method_3_code
def y_LW_lay : MethodName := ⟨"GroupBitmapsLaw", "lay", "(LGroupBitmaps;II[J)I"⟩
abbrev b_LW_reserve : ByteArray := method_4_code
def y_LW_reserve : MethodName := ⟨"GroupBitmapsLaw", "reserve", "(LGroupBitmaps;I[J)I"⟩
abbrev b_LW_take : ByteArray := method_5_code
def y_LW_take : MethodName := ⟨"GroupBitmapsLaw", "take", "(LGroupBitmaps;IIZ[J)I"⟩
abbrev b_LW_give : ByteArray := method_6_code
def y_LW_give : MethodName := ⟨"GroupBitmapsLaw", "give", "(LGroupBitmaps;II[J)I"⟩
abbrev b_LW_takeFile : ByteArray := method_7_code
def y_LW_takeFile : MethodName := ⟨"GroupBitmapsLaw", "takeFile", "(LGroupBitmaps;IZ[J)I"⟩
abbrev b_LW_giveFile : ByteArray := method_8_code
def y_LW_giveFile : MethodName := ⟨"GroupBitmapsLaw", "giveFile", "(LGroupBitmaps;IZ[J)I"⟩
abbrev b_LW_isTaken : ByteArray := method_9_code
def y_LW_isTaken : MethodName := ⟨"GroupBitmapsLaw", "isTaken", "(LGroupBitmaps;II[J)I"⟩
abbrev b_LW_group : ByteArray := method_10_code
def y_LW_group : MethodName := ⟨"GroupBitmapsLaw", "group", "(LGroupBitmaps;II[J)I"⟩
abbrev b_LW_byteOf : ByteArray := method_11_code
def y_LW_byteOf : MethodName := ⟨"GroupBitmapsLaw", "byteOf", "(LGroupBitmaps;II[J)I"⟩
abbrev b_LW_isTold : ByteArray := method_12_code
def y_LW_isTold : MethodName := ⟨"GroupBitmapsLaw", "isTold", "(LGroupBitmaps;I[J)I"⟩
/-- a word that holds on, however the machine has warmed -/
def okw (w : Cond) : Bool := match w with
  | .fieldLinkNest .. => true
  | w => goodWord w
/-- all words of the tables that hold on: every method's words are these -/
def gw : List Cond := lw_tbl.filter okw
theorem gw_mem {w : Cond} (h : w ∈ lw_tbl) (ho : okw w = true) : w ∈ gw := List.mem_filter.mpr ⟨h, ho⟩
theorem gw_t {w : Cond} (i : Nat) (h : tables_1[i]? = some w) (ho : okw w = true) : w ∈ gw := gw_mem (List.mem_append_right _ (List.mem_of_getElem? h)) ho
theorem gw_p {w : Cond} (i : Nat) (h : (k2_sels lw_privs)[i]? = some w) (ho : okw w = true) : w ∈ gw := gw_mem (List.mem_append_left _ (List.mem_of_getElem? h)) ho
theorem gw_move {args a' : Array Value} {s U : State} (h : ∀ w ∈ gw, w.before args s = true) (hW : s.WarmedH U.vm) : ∀ w ∈ gw, w.before a' U = true := by
  intro w hw
  have hb := h w hw
  have ho := (List.mem_filter.mp hw).2
  cases w with
  | fieldLinkNest a i b n d hh => exact va_Nw.use rfl (va_Nw.warmF hW (va_Nw.of rfl hb))
  | _ => exact word_at hW (good_of_word (by exact ho)) hb
theorem gw_hts {args : Array Value} {s : State} (h : ∀ w ∈ lw_tbl, w.before args s = true) : ∀ w ∈ gw, w.before args s = true := fun w hw => h w (List.mem_filter.mp hw).1
end
section
theorem kw_0 : (.initialized "GroupBitmapsLaw" : Cond) ∈ gw := gw_t 0 (by decide +kernel) (by decide +kernel)
theorem kw_1 : (.initialized "GroupBitmaps" : Cond) ∈ gw := gw_t 1 (by decide +kernel) (by decide +kernel)
theorem kw_2 : (.initialized "GroupBitmaps$Group" : Cond) ∈ gw := gw_t 2 (by decide +kernel) (by decide +kernel)
theorem kw_3 : (.initialized "GroupBitmaps$Bitmap" : Cond) ∈ gw := gw_t 3 (by decide +kernel) (by decide +kernel)
theorem kw_4 : (.initialized "GroupBitmapsModel" : Cond) ∈ gw := gw_t 4 (by decide +kernel) (by decide +kernel)
theorem kw_5 : (.initialized "java/lang/Throwable" : Cond) ∈ gw := gw_t 5 (by decide +kernel) (by decide +kernel)
theorem kw_6 : (.initialized "java/lang/Exception" : Cond) ∈ gw := gw_t 6 (by decide +kernel) (by decide +kernel)
theorem kw_7 : (.initialized "java/lang/RuntimeException" : Cond) ∈ gw := gw_t 7 (by decide +kernel) (by decide +kernel)
theorem kw_8 : (.initialized "java/lang/IllegalArgumentException" : Cond) ∈ gw := gw_t 8 (by decide +kernel) (by decide +kernel)
theorem kw_9 : (.initialized "java/lang/Math" : Cond) ∈ gw := gw_t 9 (by decide +kernel) (by decide +kernel)
theorem kw_10 : (.initialized "java/lang/IllegalStateException" : Cond) ∈ gw := gw_t 10 (by decide +kernel) (by decide +kernel)
theorem kw_11 : (.initialized "java/lang/IndexOutOfBoundsException" : Cond) ∈ gw := gw_t 11 (by decide +kernel) (by decide +kernel)
theorem kw_12 : (.classLink "GroupBitmapsLaw" 8 "GroupBitmaps" : Cond) ∈ gw := gw_t 12 (by decide +kernel) (by decide +kernel)
theorem kw_13 : (.instantiable "GroupBitmaps" 5 : Cond) ∈ gw := gw_t 13 (by decide +kernel) (by decide +kernel)
theorem kw_14 : (.methodLink "GroupBitmapsLaw" 51 ⟨"GroupBitmaps", "<init>", "()V"⟩ : Cond) ∈ gw := gw_t 14 (by decide +kernel) (by decide +kernel)
theorem kw_15 : (.instanceMethod ⟨"GroupBitmaps", "<init>", "()V"⟩ : Cond) ∈ gw := gw_t 15 (by decide +kernel) (by decide +kernel)
theorem kw_16 : (.code ⟨"GroupBitmaps", "<init>", "()V"⟩ prog_1_method_1_code 2 none : Cond) ∈ gw := gw_t 16 (by decide +kernel) (by decide +kernel)
theorem kw_17 : (.methodLink "GroupBitmaps" 3 ⟨"java/lang/Object", "<init>", "()V"⟩ : Cond) ∈ gw := gw_t 17 (by decide +kernel) (by decide +kernel)
theorem kw_18 : (.instanceMethod ⟨"java/lang/Object", "<init>", "()V"⟩ : Cond) ∈ gw := gw_t 18 (by decide +kernel) (by decide +kernel)
theorem kw_19 : (.code ⟨"java/lang/Object", "<init>", "()V"⟩ object_method_1_code 1 none : Cond) ∈ gw := gw_t 19 (by decide +kernel) (by decide +kernel)
theorem kw_20 : (.classLink "GroupBitmaps" 9 "GroupBitmaps$Group" : Cond) ∈ gw := gw_t 20 (by decide +kernel) (by decide +kernel)
theorem kw_22 : (.instantiable "GroupBitmaps$Group" 6 : Cond) ∈ gw := gw_t 22 (by decide +kernel) (by decide +kernel)
theorem kw_23 : (.methodLink "GroupBitmaps" 19 ⟨"GroupBitmaps$Group", "<init>", "(I)V"⟩ : Cond) ∈ gw := gw_t 23 (by decide +kernel) (by decide +kernel)
theorem kw_24 : (.instanceMethod ⟨"GroupBitmaps$Group", "<init>", "(I)V"⟩ : Cond) ∈ gw := gw_t 24 (by decide +kernel) (by decide +kernel)
theorem kw_25 : (.code ⟨"GroupBitmaps$Group", "<init>", "(I)V"⟩ prog_3_method_1_code 3 none : Cond) ∈ gw := gw_t 25 (by decide +kernel) (by decide +kernel)
theorem kw_26 : (.methodLink "GroupBitmaps$Group" 3 ⟨"java/lang/Object", "<init>", "()V"⟩ : Cond) ∈ gw := gw_t 26 (by decide +kernel) (by decide +kernel)
theorem kw_27 : (.classLink "GroupBitmaps$Group" 21 "GroupBitmaps$Bitmap" : Cond) ∈ gw := gw_t 27 (by decide +kernel) (by decide +kernel)
theorem kw_28 : (.instantiable "GroupBitmaps$Bitmap" 5 : Cond) ∈ gw := gw_t 28 (by decide +kernel) (by decide +kernel)
theorem kw_29 : (.methodLink "GroupBitmaps$Group" 23 ⟨"GroupBitmaps$Bitmap", "<init>", "(II)V"⟩ : Cond) ∈ gw := gw_t 29 (by decide +kernel) (by decide +kernel)
theorem kw_30 : (.instanceMethod ⟨"GroupBitmaps$Bitmap", "<init>", "(II)V"⟩ : Cond) ∈ gw := gw_t 30 (by decide +kernel) (by decide +kernel)
theorem kw_31 : (.code ⟨"GroupBitmaps$Bitmap", "<init>", "(II)V"⟩ prog_2_method_1_code 3 none : Cond) ∈ gw := gw_t 31 (by decide +kernel) (by decide +kernel)
theorem kw_32 : (.methodLink "GroupBitmaps$Bitmap" 1 ⟨"java/lang/Object", "<init>", "()V"⟩ : Cond) ∈ gw := gw_t 32 (by decide +kernel) (by decide +kernel)
theorem kw_33 : (.fieldLink "GroupBitmaps$Bitmap" 7 "GroupBitmaps$Bitmap" "place" "I" : Cond) ∈ gw := gw_t 33 (by decide +kernel) (by decide +kernel)
theorem kw_34 : (.fieldLinkNest "GroupBitmaps$Group" 39 "GroupBitmaps$Bitmap" "place" "I" "GroupBitmaps" : Cond) ∈ gw := gw_t 34 (by decide +kernel) (by decide +kernel)
theorem kw_35 : (.fieldLink "GroupBitmaps$Bitmap" 13 "GroupBitmaps$Bitmap" "bits" "[Z" : Cond) ∈ gw := gw_t 35 (by decide +kernel) (by decide +kernel)
theorem kw_36 : (.fieldLink "GroupBitmaps$Bitmap" 17 "GroupBitmaps$Bitmap" "size" "I" : Cond) ∈ gw := gw_t 36 (by decide +kernel) (by decide +kernel)
theorem kw_37 : (.fieldLinkNest "GroupBitmaps" 151 "GroupBitmaps$Bitmap" "size" "I" "GroupBitmaps" : Cond) ∈ gw := gw_t 37 (by decide +kernel) (by decide +kernel)
theorem kw_38 : (.fieldLink "GroupBitmaps$Bitmap" 20 "GroupBitmaps$Bitmap" "freeCount" "I" : Cond) ∈ gw := gw_t 38 (by decide +kernel) (by decide +kernel)
theorem kw_39 : (.fieldLinkNest "GroupBitmaps$Group" 42 "GroupBitmaps$Bitmap" "freeCount" "I" "GroupBitmaps" : Cond) ∈ gw := gw_t 39 (by decide +kernel) (by decide +kernel)
theorem kw_40 : (.fieldLinkNest "GroupBitmaps" 154 "GroupBitmaps$Bitmap" "freeCount" "I" "GroupBitmaps" : Cond) ∈ gw := gw_t 40 (by decide +kernel) (by decide +kernel)
theorem kw_41 : (.fieldLink "GroupBitmaps$Bitmap" 23 "GroupBitmaps$Bitmap" "told" "Z" : Cond) ∈ gw := gw_t 41 (by decide +kernel) (by decide +kernel)
theorem kw_42 : (.fieldLinkNest "GroupBitmaps" 180 "GroupBitmaps$Bitmap" "told" "Z" "GroupBitmaps" : Cond) ∈ gw := gw_t 42 (by decide +kernel) (by decide +kernel)
theorem kw_54 : (.arrayClass .boolean : Cond) ∈ gw := gw_t 54 (by decide +kernel) (by decide +kernel)
theorem kw_55 : (.fieldLink "GroupBitmaps$Group" 9 "GroupBitmaps$Group" "first" "I" : Cond) ∈ gw := gw_t 55 (by decide +kernel) (by decide +kernel)
theorem kw_56 : (.fieldLinkNest "GroupBitmaps" 148 "GroupBitmaps$Group" "first" "I" "GroupBitmaps" : Cond) ∈ gw := gw_t 56 (by decide +kernel) (by decide +kernel)
theorem kw_57 : (.fieldLink "GroupBitmaps$Group" 15 "GroupBitmaps$Group" "fixed" "I" : Cond) ∈ gw := gw_t 57 (by decide +kernel) (by decide +kernel)
theorem kw_58 : (.fieldLinkNest "GroupBitmaps" 212 "GroupBitmaps$Group" "fixed" "I" "GroupBitmaps" : Cond) ∈ gw := gw_t 58 (by decide +kernel) (by decide +kernel)
theorem kw_59 : (.fieldLink "GroupBitmaps$Group" 18 "GroupBitmaps$Group" "records" "I" : Cond) ∈ gw := gw_t 59 (by decide +kernel) (by decide +kernel)
theorem kw_60 : (.fieldLink "GroupBitmaps$Group" 26 "GroupBitmaps$Group" "blocks" "LGroupBitmaps$Bitmap;" : Cond) ∈ gw := gw_t 60 (by decide +kernel) (by decide +kernel)
theorem kw_61 : (.fieldLinkNest "GroupBitmaps" 90 "GroupBitmaps$Group" "blocks" "LGroupBitmaps$Bitmap;" "GroupBitmaps" : Cond) ∈ gw := gw_t 61 (by decide +kernel) (by decide +kernel)
theorem kw_62 : (.fieldLink "GroupBitmaps$Group" 30 "GroupBitmaps$Group" "files" "LGroupBitmaps$Bitmap;" : Cond) ∈ gw := gw_t 62 (by decide +kernel) (by decide +kernel)
theorem kw_63 : (.fieldLinkNest "GroupBitmaps" 124 "GroupBitmaps$Group" "files" "LGroupBitmaps$Bitmap;" "GroupBitmaps" : Cond) ∈ gw := gw_t 63 (by decide +kernel) (by decide +kernel)
theorem kw_64 : (.fieldLink "GroupBitmaps$Group" 36 "GroupBitmaps$Group" "folders" "I" : Cond) ∈ gw := gw_t 64 (by decide +kernel) (by decide +kernel)
theorem kw_65 : (.fieldLinkNest "GroupBitmaps" 132 "GroupBitmaps$Group" "folders" "I" "GroupBitmaps" : Cond) ∈ gw := gw_t 65 (by decide +kernel) (by decide +kernel)
theorem kw_79 : (.methodLink "GroupBitmaps" 22 ⟨"GroupBitmaps", "layOut", "(II)V"⟩ : Cond) ∈ gw := gw_t 79 (by decide +kernel) (by decide +kernel)
theorem kw_81 : (.instanceMethod ⟨"GroupBitmaps", "layOut", "(II)V"⟩ : Cond) ∈ gw := gw_t 81 (by decide +kernel) (by decide +kernel)
theorem kw_82 : (.code ⟨"GroupBitmaps", "layOut", "(II)V"⟩ prog_1_method_14_code 4 none : Cond) ∈ gw := gw_t 82 (by decide +kernel) (by decide +kernel)
theorem kw_83 : (.methodLink "GroupBitmaps" 186 ⟨"GroupBitmaps$Group", "layOut", "(I)V"⟩ : Cond) ∈ gw := gw_t 83 (by decide +kernel) (by decide +kernel)
theorem kw_84 : (.instanceMethod ⟨"GroupBitmaps$Group", "layOut", "(I)V"⟩ : Cond) ∈ gw := gw_t 84 (by decide +kernel) (by decide +kernel)
theorem kw_85 : (.selects "GroupBitmaps$Group" ⟨"GroupBitmaps$Group", "layOut", "(I)V"⟩ ⟨"GroupBitmaps$Group", "layOut", "(I)V"⟩ : Cond) ∈ gw := gw_t 85 (by decide +kernel) (by decide +kernel)
theorem kw_86 : (.code ⟨"GroupBitmaps$Group", "layOut", "(I)V"⟩ prog_3_method_2_code 2 none : Cond) ∈ gw := gw_t 86 (by decide +kernel) (by decide +kernel)
theorem kw_87 : (.methodLink "GroupBitmaps$Group" 33 ⟨"GroupBitmaps$Bitmap", "layOut", "(II)V"⟩ : Cond) ∈ gw := gw_t 87 (by decide +kernel) (by decide +kernel)
theorem kw_88 : (.instanceMethod ⟨"GroupBitmaps$Bitmap", "layOut", "(II)V"⟩ : Cond) ∈ gw := gw_t 88 (by decide +kernel) (by decide +kernel)
theorem kw_89 : (.selects "GroupBitmaps$Bitmap" ⟨"GroupBitmaps$Bitmap", "layOut", "(II)V"⟩ ⟨"GroupBitmaps$Bitmap", "layOut", "(II)V"⟩ : Cond) ∈ gw := gw_t 89 (by decide +kernel) (by decide +kernel)
theorem kw_90 : (.code ⟨"GroupBitmaps$Bitmap", "layOut", "(II)V"⟩ prog_2_method_2_code 4 none : Cond) ∈ gw := gw_t 90 (by decide +kernel) (by decide +kernel)
theorem kw_91 : (.fieldLink "GroupBitmaps" 11 "GroupBitmaps" "groups" "[LGroupBitmaps$Group;" : Cond) ∈ gw := gw_t 91 (by decide +kernel) (by decide +kernel)
theorem kw_92 : (.fieldLink "GroupBitmaps" 15 "GroupBitmaps" "count" "I" : Cond) ∈ gw := gw_t 92 (by decide +kernel) (by decide +kernel)
theorem kw_93 : (.fieldLink "GroupBitmaps" 41 "GroupBitmaps" "reserved" "I" : Cond) ∈ gw := gw_t 93 (by decide +kernel) (by decide +kernel)
theorem kw_94 : (.fieldLink "GroupBitmaps" 70 "GroupBitmaps" "latelyTaken" "I" : Cond) ∈ gw := gw_t 94 (by decide +kernel) (by decide +kernel)
theorem kw_95 : (.fieldLink "GroupBitmaps" 99 "GroupBitmaps" "tableTold" "Z" : Cond) ∈ gw := gw_t 95 (by decide +kernel) (by decide +kernel)
theorem kw_107 : (.methodLink "GroupBitmapsLaw" 73 ⟨"GroupBitmaps", "taken", "()I"⟩ : Cond) ∈ gw := gw_t 107 (by decide +kernel) (by decide +kernel)
theorem kw_108 : (.instanceMethod ⟨"GroupBitmaps", "taken", "()I"⟩ : Cond) ∈ gw := gw_t 108 (by decide +kernel) (by decide +kernel)
theorem kw_109 : (.selects "GroupBitmaps" ⟨"GroupBitmaps", "taken", "()I"⟩ ⟨"GroupBitmaps", "taken", "()I"⟩ : Cond) ∈ gw := gw_t 109 (by decide +kernel) (by decide +kernel)
theorem kw_110 : (.code ⟨"GroupBitmaps", "taken", "()I"⟩ prog_1_method_5_code 1 (some .int) : Cond) ∈ gw := gw_t 110 (by decide +kernel) (by decide +kernel)
theorem kw_111 : (.methodLink "GroupBitmapsLaw" 99 ⟨"GroupBitmaps", "settle", "()I"⟩ : Cond) ∈ gw := gw_t 111 (by decide +kernel) (by decide +kernel)
theorem kw_112 : (.instanceMethod ⟨"GroupBitmaps", "settle", "()I"⟩ : Cond) ∈ gw := gw_t 112 (by decide +kernel) (by decide +kernel)
theorem kw_113 : (.selects "GroupBitmaps" ⟨"GroupBitmaps", "settle", "()I"⟩ ⟨"GroupBitmaps", "settle", "()I"⟩ : Cond) ∈ gw := gw_t 113 (by decide +kernel) (by decide +kernel)
theorem kw_114 : (.code ⟨"GroupBitmaps", "settle", "()I"⟩ prog_1_method_13_code 3 (some .int) : Cond) ∈ gw := gw_t 114 (by decide +kernel) (by decide +kernel)
theorem kw_115 : (.methodLink "GroupBitmaps" 183 ⟨"GroupBitmaps$Bitmap", "forgetTold", "()I"⟩ : Cond) ∈ gw := gw_t 115 (by decide +kernel) (by decide +kernel)
theorem kw_116 : (.instanceMethod ⟨"GroupBitmaps$Bitmap", "forgetTold", "()I"⟩ : Cond) ∈ gw := gw_t 116 (by decide +kernel) (by decide +kernel)
theorem kw_117 : (.selects "GroupBitmaps$Bitmap" ⟨"GroupBitmaps$Bitmap", "forgetTold", "()I"⟩ ⟨"GroupBitmaps$Bitmap", "forgetTold", "()I"⟩ : Cond) ∈ gw := gw_t 117 (by decide +kernel) (by decide +kernel)
theorem kw_118 : (.code ⟨"GroupBitmaps$Bitmap", "forgetTold", "()I"⟩ prog_2_method_11_code 2 (some .int) : Cond) ∈ gw := gw_t 118 (by decide +kernel) (by decide +kernel)
theorem kw_119 : (.methodLink "GroupBitmapsLaw" 55 ⟨"GroupBitmapsLaw", "lay", "(LGroupBitmaps;II[J)I"⟩ : Cond) ∈ gw := gw_t 119 (by decide +kernel) (by decide +kernel)
theorem kw_120 : (.static ⟨"GroupBitmapsLaw", "lay", "(LGroupBitmaps;II[J)I"⟩ : Cond) ∈ gw := gw_t 120 (by decide +kernel) (by decide +kernel)
theorem kw_121 : (.codeWith ⟨"GroupBitmapsLaw", "lay", "(LGroupBitmaps;II[J)I"⟩ method_3_code 5 (some .int) [(0, 10, 13, 13)] : Cond) ∈ gw := gw_t 121 (by decide +kernel) (by decide +kernel)
theorem kw_122 : (.classLink "GroupBitmapsLaw" 13 "java/lang/IllegalArgumentException" : Cond) ∈ gw := gw_t 122 (by decide +kernel) (by decide +kernel)
theorem kw_123 : (.methodLink "GroupBitmapsLaw" 7 ⟨"GroupBitmaps", "lay", "(II)I"⟩ : Cond) ∈ gw := gw_t 123 (by decide +kernel) (by decide +kernel)
theorem kw_124 : (.instanceMethod ⟨"GroupBitmaps", "lay", "(II)I"⟩ : Cond) ∈ gw := gw_t 124 (by decide +kernel) (by decide +kernel)
theorem kw_125 : (.selects "GroupBitmaps" ⟨"GroupBitmaps", "lay", "(II)I"⟩ ⟨"GroupBitmaps", "lay", "(II)I"⟩ : Cond) ∈ gw := gw_t 125 (by decide +kernel) (by decide +kernel)
theorem kw_126 : (.code ⟨"GroupBitmaps", "lay", "(II)I"⟩ prog_1_method_2_code 3 (some .int) : Cond) ∈ gw := gw_t 126 (by decide +kernel) (by decide +kernel)
theorem kw_127 : (.classLink "GroupBitmaps" 26 "java/lang/IllegalArgumentException" : Cond) ∈ gw := gw_t 127 (by decide +kernel) (by decide +kernel)
theorem kw_128 : (.instantiable "java/lang/IllegalArgumentException" 6 : Cond) ∈ gw := gw_t 128 (by decide +kernel) (by decide +kernel)
theorem kw_136 : (.selects "java/lang/IllegalArgumentException" ⟨"java/lang/Throwable", "fillInStackTrace", "(I)Ljava/lang/Throwable;"⟩ ⟨"java/lang/Throwable", "fillInStackTrace", "(I)Ljava/lang/Throwable;"⟩ : Cond) ∈ gw := gw_t 136 (by decide +kernel) (by decide +kernel)
theorem kw_137 : (.selects "java/lang/IllegalArgumentException" ⟨"java/lang/Throwable", "fillInStackTrace", "()Ljava/lang/Throwable;"⟩ ⟨"java/lang/Throwable", "fillInStackTrace", "()Ljava/lang/Throwable;"⟩ : Cond) ∈ gw := gw_t 137 (by decide +kernel) (by decide +kernel)
theorem kw_148 : (.fieldLink "java/lang/Throwable" 198 "java/lang/Throwable" "backtrace" "Ljava/lang/Object;" : Cond) ∈ gw := gw_t 148 (by decide +kernel) (by decide +kernel)
theorem kw_150 : (.instanceMethod ⟨"java/lang/Throwable", "<init>", "()V"⟩ : Cond) ∈ gw := gw_t 150 (by decide +kernel) (by decide +kernel)
theorem kw_151 : (.code ⟨"java/lang/Throwable", "<init>", "()V"⟩ prog_13_method_1_code 1 none : Cond) ∈ gw := gw_t 151 (by decide +kernel) (by decide +kernel)
theorem kw_152 : (.methodLink "java/lang/Throwable" 1 ⟨"java/lang/Object", "<init>", "()V"⟩ : Cond) ∈ gw := gw_t 152 (by decide +kernel) (by decide +kernel)
theorem kw_153 : (.fieldLink "java/lang/Throwable" 13 "java/lang/Throwable" "UNASSIGNED_STACK" "[Ljava/lang/StackTraceElement;" : Cond) ∈ gw := gw_t 153 (by decide +kernel) (by decide +kernel)
theorem kw_155 : (.fieldLink "java/lang/Throwable" 20 "java/lang/Throwable" "SUPPRESSED_SENTINEL" "Ljava/util/List;" : Cond) ∈ gw := gw_t 155 (by decide +kernel) (by decide +kernel)
theorem kw_157 : (.methodLink "java/lang/Throwable" 27 ⟨"java/lang/Throwable", "fillInStackTrace", "()Ljava/lang/Throwable;"⟩ : Cond) ∈ gw := gw_t 157 (by decide +kernel) (by decide +kernel)
theorem kw_158 : (.instanceMethod ⟨"java/lang/Throwable", "fillInStackTrace", "()Ljava/lang/Throwable;"⟩ : Cond) ∈ gw := gw_t 158 (by decide +kernel) (by decide +kernel)
theorem kw_160 : (.selects "java/lang/IllegalStateException" ⟨"java/lang/Throwable", "fillInStackTrace", "()Ljava/lang/Throwable;"⟩ ⟨"java/lang/Throwable", "fillInStackTrace", "()Ljava/lang/Throwable;"⟩ : Cond) ∈ gw := gw_t 160 (by decide +kernel) (by decide +kernel)
theorem kw_161 : (.selects "java/lang/IndexOutOfBoundsException" ⟨"java/lang/Throwable", "fillInStackTrace", "()Ljava/lang/Throwable;"⟩ ⟨"java/lang/Throwable", "fillInStackTrace", "()Ljava/lang/Throwable;"⟩ : Cond) ∈ gw := gw_t 161 (by decide +kernel) (by decide +kernel)
theorem kw_163 : (.methodLink "java/lang/Throwable" 202 ⟨"java/lang/Throwable", "fillInStackTrace", "(I)Ljava/lang/Throwable;"⟩ : Cond) ∈ gw := gw_t 163 (by decide +kernel) (by decide +kernel)
theorem kw_165 : (.instanceMethod ⟨"java/lang/Throwable", "fillInStackTrace", "(I)Ljava/lang/Throwable;"⟩ : Cond) ∈ gw := gw_t 165 (by decide +kernel) (by decide +kernel)
theorem kw_166 : (.instantiable "java/lang/Throwable" 6 : Cond) ∈ gw := gw_t 166 (by decide +kernel) (by decide +kernel)
theorem kw_169 : (.methodLink "GroupBitmaps" 30 ⟨"java/lang/IllegalArgumentException", "<init>", "(Ljava/lang/String;)V"⟩ : Cond) ∈ gw := gw_t 169 (by decide +kernel) (by decide +kernel)
theorem kw_170 : (.instanceMethod ⟨"java/lang/IllegalArgumentException", "<init>", "(Ljava/lang/String;)V"⟩ : Cond) ∈ gw := gw_t 170 (by decide +kernel) (by decide +kernel)
theorem kw_171 : (.code ⟨"java/lang/IllegalArgumentException", "<init>", "(Ljava/lang/String;)V"⟩ prog_7_method_2_code 2 none : Cond) ∈ gw := gw_t 171 (by decide +kernel) (by decide +kernel)
theorem kw_172 : (.methodLink "java/lang/IllegalArgumentException" 7 ⟨"java/lang/RuntimeException", "<init>", "(Ljava/lang/String;)V"⟩ : Cond) ∈ gw := gw_t 172 (by decide +kernel) (by decide +kernel)
theorem kw_173 : (.instanceMethod ⟨"java/lang/RuntimeException", "<init>", "(Ljava/lang/String;)V"⟩ : Cond) ∈ gw := gw_t 173 (by decide +kernel) (by decide +kernel)
theorem kw_174 : (.code ⟨"java/lang/RuntimeException", "<init>", "(Ljava/lang/String;)V"⟩ prog_11_method_2_code 2 none : Cond) ∈ gw := gw_t 174 (by decide +kernel) (by decide +kernel)
theorem kw_175 : (.methodLink "java/lang/RuntimeException" 7 ⟨"java/lang/Exception", "<init>", "(Ljava/lang/String;)V"⟩ : Cond) ∈ gw := gw_t 175 (by decide +kernel) (by decide +kernel)
theorem kw_176 : (.instanceMethod ⟨"java/lang/Exception", "<init>", "(Ljava/lang/String;)V"⟩ : Cond) ∈ gw := gw_t 176 (by decide +kernel) (by decide +kernel)
theorem kw_177 : (.code ⟨"java/lang/Exception", "<init>", "(Ljava/lang/String;)V"⟩ prog_6_method_2_code 2 none : Cond) ∈ gw := gw_t 177 (by decide +kernel) (by decide +kernel)
theorem kw_178 : (.methodLink "java/lang/Exception" 7 ⟨"java/lang/Throwable", "<init>", "(Ljava/lang/String;)V"⟩ : Cond) ∈ gw := gw_t 178 (by decide +kernel) (by decide +kernel)
theorem kw_179 : (.instanceMethod ⟨"java/lang/Throwable", "<init>", "(Ljava/lang/String;)V"⟩ : Cond) ∈ gw := gw_t 179 (by decide +kernel) (by decide +kernel)
theorem kw_180 : (.code ⟨"java/lang/Throwable", "<init>", "(Ljava/lang/String;)V"⟩ prog_13_method_2_code 2 none : Cond) ∈ gw := gw_t 180 (by decide +kernel) (by decide +kernel)
theorem kw_181 : (.fieldLink "java/lang/Throwable" 198 "java/lang/Throwable" "backtrace" "Ljava/lang/Object;" : Cond) ∈ gw := gw_t 181 (by decide +kernel) (by decide +kernel)
theorem kw_182 : (.fieldLink "java/lang/Throwable" 31 "java/lang/Throwable" "detailMessage" "Ljava/lang/String;" : Cond) ∈ gw := gw_t 182 (by decide +kernel) (by decide +kernel)
theorem kw_183 : (.fieldLink "java/lang/Throwable" 7 "java/lang/Throwable" "cause" "Ljava/lang/Throwable;" : Cond) ∈ gw := gw_t 183 (by decide +kernel) (by decide +kernel)
theorem kw_184 : (.fieldLink "java/lang/Throwable" 17 "java/lang/Throwable" "stackTrace" "[Ljava/lang/StackTraceElement;" : Cond) ∈ gw := gw_t 184 (by decide +kernel) (by decide +kernel)
theorem kw_185 : (.fieldLink "java/lang/Throwable" 24 "java/lang/Throwable" "suppressedExceptions" "Ljava/util/List;" : Cond) ∈ gw := gw_t 185 (by decide +kernel) (by decide +kernel)
theorem kw_194 : (.arrayClass .byte : Cond) ∈ gw := gw_t 194 (by decide +kernel) (by decide +kernel)
theorem kw_196 : (.methodLink "GroupBitmaps" 35 ⟨"GroupBitmaps", "freeBlocks", "()I"⟩ : Cond) ∈ gw := gw_t 196 (by decide +kernel) (by decide +kernel)
theorem kw_198 : (.instanceMethod ⟨"GroupBitmaps", "freeBlocks", "()I"⟩ : Cond) ∈ gw := gw_t 198 (by decide +kernel) (by decide +kernel)
theorem kw_199 : (.code ⟨"GroupBitmaps", "freeBlocks", "()I"⟩ prog_1_method_21_code 3 (some .int) : Cond) ∈ gw := gw_t 199 (by decide +kernel) (by decide +kernel)
theorem kw_200 : (.methodLink "GroupBitmapsLaw" 65 ⟨"GroupBitmapsLaw", "reserve", "(LGroupBitmaps;I[J)I"⟩ : Cond) ∈ gw := gw_t 200 (by decide +kernel) (by decide +kernel)
theorem kw_201 : (.static ⟨"GroupBitmapsLaw", "reserve", "(LGroupBitmaps;I[J)I"⟩ : Cond) ∈ gw := gw_t 201 (by decide +kernel) (by decide +kernel)
theorem kw_202 : (.codeWith ⟨"GroupBitmapsLaw", "reserve", "(LGroupBitmaps;I[J)I"⟩ method_4_code 4 (some .int) [(0, 9, 12, 13)] : Cond) ∈ gw := gw_t 202 (by decide +kernel) (by decide +kernel)
theorem kw_203 : (.methodLink "GroupBitmapsLaw" 15 ⟨"GroupBitmaps", "reserve", "(I)I"⟩ : Cond) ∈ gw := gw_t 203 (by decide +kernel) (by decide +kernel)
theorem kw_204 : (.instanceMethod ⟨"GroupBitmaps", "reserve", "(I)I"⟩ : Cond) ∈ gw := gw_t 204 (by decide +kernel) (by decide +kernel)
theorem kw_205 : (.selects "GroupBitmaps" ⟨"GroupBitmaps", "reserve", "(I)I"⟩ ⟨"GroupBitmaps", "reserve", "(I)I"⟩ : Cond) ∈ gw := gw_t 205 (by decide +kernel) (by decide +kernel)
theorem kw_206 : (.code ⟨"GroupBitmaps", "reserve", "(I)I"⟩ prog_1_method_3_code 2 (some .int) : Cond) ∈ gw := gw_t 206 (by decide +kernel) (by decide +kernel)
theorem kw_208 : (.methodLink "GroupBitmaps" 44 ⟨"GroupBitmaps", "takeable", "(Z)I"⟩ : Cond) ∈ gw := gw_t 208 (by decide +kernel) (by decide +kernel)
theorem kw_210 : (.instanceMethod ⟨"GroupBitmaps", "takeable", "(Z)I"⟩ : Cond) ∈ gw := gw_t 210 (by decide +kernel) (by decide +kernel)
theorem kw_211 : (.code ⟨"GroupBitmaps", "takeable", "(Z)I"⟩ prog_1_method_23_code 2 (some .int) : Cond) ∈ gw := gw_t 211 (by decide +kernel) (by decide +kernel)
theorem kw_212 : (.methodLink "GroupBitmaps" 188 ⟨"java/lang/Math", "max", "(II)I"⟩ : Cond) ∈ gw := gw_t 212 (by decide +kernel) (by decide +kernel)
theorem kw_213 : (.static ⟨"java/lang/Math", "max", "(II)I"⟩ : Cond) ∈ gw := gw_t 213 (by decide +kernel) (by decide +kernel)
theorem kw_214 : (.code ⟨"java/lang/Math", "max", "(II)I"⟩ prog_10_method_65_code 2 (some .int) : Cond) ∈ gw := gw_t 214 (by decide +kernel) (by decide +kernel)
theorem kw_215 : (.methodLink "GroupBitmapsLaw" 69 ⟨"GroupBitmapsLaw", "take", "(LGroupBitmaps;IIZ[J)I"⟩ : Cond) ∈ gw := gw_t 215 (by decide +kernel) (by decide +kernel)
theorem kw_216 : (.static ⟨"GroupBitmapsLaw", "take", "(LGroupBitmaps;IIZ[J)I"⟩ : Cond) ∈ gw := gw_t 216 (by decide +kernel) (by decide +kernel)
theorem kw_217 : (.codeWith ⟨"GroupBitmapsLaw", "take", "(LGroupBitmaps;IIZ[J)I"⟩ method_5_code 6 (some .int) [(0, 12, 15, 13), (0, 12, 19, 23)] : Cond) ∈ gw := gw_t 217 (by decide +kernel) (by decide +kernel)
theorem kw_218 : (.classLink "GroupBitmapsLaw" 23 "java/lang/IllegalStateException" : Cond) ∈ gw := gw_t 218 (by decide +kernel) (by decide +kernel)
theorem kw_219 : (.methodLink "GroupBitmapsLaw" 19 ⟨"GroupBitmaps", "take", "(IIZ)I"⟩ : Cond) ∈ gw := gw_t 219 (by decide +kernel) (by decide +kernel)
theorem kw_220 : (.instanceMethod ⟨"GroupBitmaps", "take", "(IIZ)I"⟩ : Cond) ∈ gw := gw_t 220 (by decide +kernel) (by decide +kernel)
theorem kw_221 : (.selects "GroupBitmaps" ⟨"GroupBitmaps", "take", "(IIZ)I"⟩ ⟨"GroupBitmaps", "take", "(IIZ)I"⟩ : Cond) ∈ gw := gw_t 221 (by decide +kernel) (by decide +kernel)
theorem kw_222 : (.code ⟨"GroupBitmaps", "take", "(IIZ)I"⟩ prog_1_method_4_code 5 (some .int) : Cond) ∈ gw := gw_t 222 (by decide +kernel) (by decide +kernel)
theorem kw_223 : (.methodLink "GroupBitmaps" 48 ⟨"GroupBitmaps", "hasBlock", "(I)Z"⟩ : Cond) ∈ gw := gw_t 223 (by decide +kernel) (by decide +kernel)
theorem kw_225 : (.instanceMethod ⟨"GroupBitmaps", "hasBlock", "(I)Z"⟩ : Cond) ∈ gw := gw_t 225 (by decide +kernel) (by decide +kernel)
theorem kw_226 : (.code ⟨"GroupBitmaps", "hasBlock", "(I)Z"⟩ prog_1_method_16_code 2 (some .boolean) : Cond) ∈ gw := gw_t 226 (by decide +kernel) (by decide +kernel)
theorem kw_227 : (.methodLink "GroupBitmaps" 75 ⟨"GroupBitmaps", "allBlocks", "()I"⟩ : Cond) ∈ gw := gw_t 227 (by decide +kernel) (by decide +kernel)
theorem kw_229 : (.instanceMethod ⟨"GroupBitmaps", "allBlocks", "()I"⟩ : Cond) ∈ gw := gw_t 229 (by decide +kernel) (by decide +kernel)
theorem kw_230 : (.code ⟨"GroupBitmaps", "allBlocks", "()I"⟩ prog_1_method_15_code 1 (some .int) : Cond) ∈ gw := gw_t 230 (by decide +kernel) (by decide +kernel)
theorem kw_233 : (.classLink "GroupBitmaps" 56 "java/lang/IllegalStateException" : Cond) ∈ gw := gw_t 233 (by decide +kernel) (by decide +kernel)
theorem kw_234 : (.instantiable "java/lang/IllegalStateException" 6 : Cond) ∈ gw := gw_t 234 (by decide +kernel) (by decide +kernel)
theorem kw_236 : (.selects "java/lang/IllegalStateException" ⟨"java/lang/Throwable", "fillInStackTrace", "(I)Ljava/lang/Throwable;"⟩ ⟨"java/lang/Throwable", "fillInStackTrace", "(I)Ljava/lang/Throwable;"⟩ : Cond) ∈ gw := gw_t 236 (by decide +kernel) (by decide +kernel)
theorem kw_243 : (.methodLink "GroupBitmaps" 60 ⟨"java/lang/IllegalStateException", "<init>", "(Ljava/lang/String;)V"⟩ : Cond) ∈ gw := gw_t 243 (by decide +kernel) (by decide +kernel)
theorem kw_244 : (.instanceMethod ⟨"java/lang/IllegalStateException", "<init>", "(Ljava/lang/String;)V"⟩ : Cond) ∈ gw := gw_t 244 (by decide +kernel) (by decide +kernel)
theorem kw_245 : (.code ⟨"java/lang/IllegalStateException", "<init>", "(Ljava/lang/String;)V"⟩ prog_8_method_2_code 2 none : Cond) ∈ gw := gw_t 245 (by decide +kernel) (by decide +kernel)
theorem kw_246 : (.methodLink "java/lang/IllegalStateException" 7 ⟨"java/lang/RuntimeException", "<init>", "(Ljava/lang/String;)V"⟩ : Cond) ∈ gw := gw_t 246 (by decide +kernel) (by decide +kernel)
theorem kw_249 : (.methodLink "GroupBitmaps" 61 ⟨"java/lang/Math", "min", "(II)I"⟩ : Cond) ∈ gw := gw_t 249 (by decide +kernel) (by decide +kernel)
theorem kw_250 : (.static ⟨"java/lang/Math", "min", "(II)I"⟩ : Cond) ∈ gw := gw_t 250 (by decide +kernel) (by decide +kernel)
theorem kw_251 : (.code ⟨"java/lang/Math", "min", "(II)I"⟩ prog_10_method_69_code 2 (some .int) : Cond) ∈ gw := gw_t 251 (by decide +kernel) (by decide +kernel)
theorem kw_252 : (.methodLink "GroupBitmaps" 67 ⟨"GroupBitmaps", "takeNear", "(II)I"⟩ : Cond) ∈ gw := gw_t 252 (by decide +kernel) (by decide +kernel)
theorem kw_254 : (.instanceMethod ⟨"GroupBitmaps", "takeNear", "(II)I"⟩ : Cond) ∈ gw := gw_t 254 (by decide +kernel) (by decide +kernel)
theorem kw_255 : (.code ⟨"GroupBitmaps", "takeNear", "(II)I"⟩ prog_1_method_24_code 8 (some .int) : Cond) ∈ gw := gw_t 255 (by decide +kernel) (by decide +kernel)
theorem kw_256 : (.methodLink "GroupBitmaps" 86 ⟨"GroupBitmaps", "groupOfBlock", "(I)LGroupBitmaps$Group;"⟩ : Cond) ∈ gw := gw_t 256 (by decide +kernel) (by decide +kernel)
theorem kw_258 : (.instanceMethod ⟨"GroupBitmaps", "groupOfBlock", "(I)LGroupBitmaps$Group;"⟩ : Cond) ∈ gw := gw_t 258 (by decide +kernel) (by decide +kernel)
theorem kw_259 : (.code ⟨"GroupBitmaps", "groupOfBlock", "(I)LGroupBitmaps$Group;"⟩ prog_1_method_18_code 2 (some (.object "GroupBitmaps$Group")) : Cond) ∈ gw := gw_t 259 (by decide +kernel) (by decide +kernel)
theorem kw_260 : (.methodLink "GroupBitmaps" 191 ⟨"GroupBitmaps$Bitmap", "areFree", "(II)Z"⟩ : Cond) ∈ gw := gw_t 260 (by decide +kernel) (by decide +kernel)
theorem kw_261 : (.instanceMethod ⟨"GroupBitmaps$Bitmap", "areFree", "(II)Z"⟩ : Cond) ∈ gw := gw_t 261 (by decide +kernel) (by decide +kernel)
theorem kw_262 : (.selects "GroupBitmaps$Bitmap" ⟨"GroupBitmaps$Bitmap", "areFree", "(II)Z"⟩ ⟨"GroupBitmaps$Bitmap", "areFree", "(II)Z"⟩ : Cond) ∈ gw := gw_t 262 (by decide +kernel) (by decide +kernel)
theorem kw_263 : (.code ⟨"GroupBitmaps$Bitmap", "areFree", "(II)Z"⟩ prog_2_method_8_code 4 (some .boolean) : Cond) ∈ gw := gw_t 263 (by decide +kernel) (by decide +kernel)
theorem kw_264 : (.methodLink "GroupBitmaps$Bitmap" 27 ⟨"GroupBitmaps$Bitmap", "isSet", "(I)Z"⟩ : Cond) ∈ gw := gw_t 264 (by decide +kernel) (by decide +kernel)
theorem kw_265 : (.instanceMethod ⟨"GroupBitmaps$Bitmap", "isSet", "(I)Z"⟩ : Cond) ∈ gw := gw_t 265 (by decide +kernel) (by decide +kernel)
theorem kw_266 : (.selects "GroupBitmaps$Bitmap" ⟨"GroupBitmaps$Bitmap", "isSet", "(I)Z"⟩ ⟨"GroupBitmaps$Bitmap", "isSet", "(I)Z"⟩ : Cond) ∈ gw := gw_t 266 (by decide +kernel) (by decide +kernel)
theorem kw_267 : (.code ⟨"GroupBitmaps$Bitmap", "isSet", "(I)Z"⟩ prog_2_method_3_code 2 (some .boolean) : Cond) ∈ gw := gw_t 267 (by decide +kernel) (by decide +kernel)
theorem kw_268 : (.methodLink "GroupBitmaps" 194 ⟨"GroupBitmaps", "takeRun", "(LGroupBitmaps$Group;II)I"⟩ : Cond) ∈ gw := gw_t 268 (by decide +kernel) (by decide +kernel)
theorem kw_270 : (.instanceMethod ⟨"GroupBitmaps", "takeRun", "(LGroupBitmaps$Group;II)I"⟩ : Cond) ∈ gw := gw_t 270 (by decide +kernel) (by decide +kernel)
theorem kw_271 : (.code ⟨"GroupBitmaps", "takeRun", "(LGroupBitmaps$Group;II)I"⟩ prog_1_method_26_code 5 (some .int) : Cond) ∈ gw := gw_t 271 (by decide +kernel) (by decide +kernel)
theorem kw_272 : (.methodLink "GroupBitmaps" 209 ⟨"GroupBitmaps$Bitmap", "occupy", "(I)V"⟩ : Cond) ∈ gw := gw_t 272 (by decide +kernel) (by decide +kernel)
theorem kw_273 : (.instanceMethod ⟨"GroupBitmaps$Bitmap", "occupy", "(I)V"⟩ : Cond) ∈ gw := gw_t 273 (by decide +kernel) (by decide +kernel)
theorem kw_274 : (.selects "GroupBitmaps$Bitmap" ⟨"GroupBitmaps$Bitmap", "occupy", "(I)V"⟩ ⟨"GroupBitmaps$Bitmap", "occupy", "(I)V"⟩ : Cond) ∈ gw := gw_t 274 (by decide +kernel) (by decide +kernel)
theorem kw_275 : (.code ⟨"GroupBitmaps$Bitmap", "occupy", "(I)V"⟩ prog_2_method_4_code 2 none : Cond) ∈ gw := gw_t 275 (by decide +kernel) (by decide +kernel)
theorem kw_276 : (.methodLink "GroupBitmaps" 198 ⟨"GroupBitmaps", "groupBehind", "(LGroupBitmaps$Group;I)LGroupBitmaps$Group;"⟩ : Cond) ∈ gw := gw_t 276 (by decide +kernel) (by decide +kernel)
theorem kw_278 : (.instanceMethod ⟨"GroupBitmaps", "groupBehind", "(LGroupBitmaps$Group;I)LGroupBitmaps$Group;"⟩ : Cond) ∈ gw := gw_t 278 (by decide +kernel) (by decide +kernel)
theorem kw_279 : (.code ⟨"GroupBitmaps", "groupBehind", "(LGroupBitmaps$Group;I)LGroupBitmaps$Group;"⟩ prog_1_method_20_code 3 (some (.object "GroupBitmaps$Group")) : Cond) ∈ gw := gw_t 279 (by decide +kernel) (by decide +kernel)
theorem kw_280 : (.methodLink "GroupBitmaps" 202 ⟨"GroupBitmaps$Bitmap", "shortestRun", "(I)I"⟩ : Cond) ∈ gw := gw_t 280 (by decide +kernel) (by decide +kernel)
theorem kw_281 : (.instanceMethod ⟨"GroupBitmaps$Bitmap", "shortestRun", "(I)I"⟩ : Cond) ∈ gw := gw_t 281 (by decide +kernel) (by decide +kernel)
theorem kw_282 : (.selects "GroupBitmaps$Bitmap" ⟨"GroupBitmaps$Bitmap", "shortestRun", "(I)I"⟩ ⟨"GroupBitmaps$Bitmap", "shortestRun", "(I)I"⟩ : Cond) ∈ gw := gw_t 282 (by decide +kernel) (by decide +kernel)
theorem kw_283 : (.code ⟨"GroupBitmaps$Bitmap", "shortestRun", "(I)I"⟩ prog_2_method_10_code 6 (some .int) : Cond) ∈ gw := gw_t 283 (by decide +kernel) (by decide +kernel)
theorem kw_284 : (.methodLink "GroupBitmaps" 205 ⟨"GroupBitmaps", "takeLongestRun", "(LGroupBitmaps$Group;)I"⟩ : Cond) ∈ gw := gw_t 284 (by decide +kernel) (by decide +kernel)
theorem kw_286 : (.instanceMethod ⟨"GroupBitmaps", "takeLongestRun", "(LGroupBitmaps$Group;)I"⟩ : Cond) ∈ gw := gw_t 286 (by decide +kernel) (by decide +kernel)
theorem kw_287 : (.code ⟨"GroupBitmaps", "takeLongestRun", "(LGroupBitmaps$Group;)I"⟩ prog_1_method_25_code 7 (some .int) : Cond) ∈ gw := gw_t 287 (by decide +kernel) (by decide +kernel)
theorem kw_288 : (.methodLink "GroupBitmaps" 157 ⟨"GroupBitmaps$Bitmap", "longestRun", "()I"⟩ : Cond) ∈ gw := gw_t 288 (by decide +kernel) (by decide +kernel)
theorem kw_289 : (.instanceMethod ⟨"GroupBitmaps$Bitmap", "longestRun", "()I"⟩ : Cond) ∈ gw := gw_t 289 (by decide +kernel) (by decide +kernel)
theorem kw_290 : (.selects "GroupBitmaps$Bitmap" ⟨"GroupBitmaps$Bitmap", "longestRun", "()I"⟩ ⟨"GroupBitmaps$Bitmap", "longestRun", "()I"⟩ : Cond) ∈ gw := gw_t 290 (by decide +kernel) (by decide +kernel)
theorem kw_291 : (.code ⟨"GroupBitmaps$Bitmap", "longestRun", "()I"⟩ prog_2_method_9_code 4 (some .int) : Cond) ∈ gw := gw_t 291 (by decide +kernel) (by decide +kernel)
theorem kw_292 : (.methodLink "GroupBitmaps$Bitmap" 31 ⟨"java/lang/Math", "max", "(II)I"⟩ : Cond) ∈ gw := gw_t 292 (by decide +kernel) (by decide +kernel)
theorem kw_293 : (.methodLink "GroupBitmapsLaw" 77 ⟨"GroupBitmapsLaw", "give", "(LGroupBitmaps;II[J)I"⟩ : Cond) ∈ gw := gw_t 293 (by decide +kernel) (by decide +kernel)
theorem kw_294 : (.static ⟨"GroupBitmapsLaw", "give", "(LGroupBitmaps;II[J)I"⟩ : Cond) ∈ gw := gw_t 294 (by decide +kernel) (by decide +kernel)
theorem kw_295 : (.codeWith ⟨"GroupBitmapsLaw", "give", "(LGroupBitmaps;II[J)I"⟩ method_6_code 5 (some .int) [(0, 10, 13, 13), (0, 10, 17, 23)] : Cond) ∈ gw := gw_t 295 (by decide +kernel) (by decide +kernel)
theorem kw_296 : (.methodLink "GroupBitmapsLaw" 25 ⟨"GroupBitmaps", "give", "(II)I"⟩ : Cond) ∈ gw := gw_t 296 (by decide +kernel) (by decide +kernel)
theorem kw_297 : (.instanceMethod ⟨"GroupBitmaps", "give", "(II)I"⟩ : Cond) ∈ gw := gw_t 297 (by decide +kernel) (by decide +kernel)
theorem kw_298 : (.selects "GroupBitmaps" ⟨"GroupBitmaps", "give", "(II)I"⟩ ⟨"GroupBitmaps", "give", "(II)I"⟩ : Cond) ∈ gw := gw_t 298 (by decide +kernel) (by decide +kernel)
theorem kw_299 : (.code ⟨"GroupBitmaps", "give", "(II)I"⟩ prog_1_method_6_code 4 (some .int) : Cond) ∈ gw := gw_t 299 (by decide +kernel) (by decide +kernel)
theorem kw_302 : (.methodLink "GroupBitmaps" 80 ⟨"GroupBitmaps", "areGivable", "(II)Z"⟩ : Cond) ∈ gw := gw_t 302 (by decide +kernel) (by decide +kernel)
theorem kw_304 : (.instanceMethod ⟨"GroupBitmaps", "areGivable", "(II)Z"⟩ : Cond) ∈ gw := gw_t 304 (by decide +kernel) (by decide +kernel)
theorem kw_305 : (.code ⟨"GroupBitmaps", "areGivable", "(II)Z"⟩ prog_1_method_27_code 6 (some .boolean) : Cond) ∈ gw := gw_t 305 (by decide +kernel) (by decide +kernel)
theorem kw_306 : (.methodLink "GroupBitmaps" 127 ⟨"GroupBitmaps$Bitmap", "isSet", "(I)Z"⟩ : Cond) ∈ gw := gw_t 306 (by decide +kernel) (by decide +kernel)
theorem kw_308 : (.methodLink "GroupBitmaps" 94 ⟨"GroupBitmaps$Bitmap", "free", "(I)V"⟩ : Cond) ∈ gw := gw_t 308 (by decide +kernel) (by decide +kernel)
theorem kw_309 : (.instanceMethod ⟨"GroupBitmaps$Bitmap", "free", "(I)V"⟩ : Cond) ∈ gw := gw_t 309 (by decide +kernel) (by decide +kernel)
theorem kw_310 : (.selects "GroupBitmaps$Bitmap" ⟨"GroupBitmaps$Bitmap", "free", "(I)V"⟩ ⟨"GroupBitmaps$Bitmap", "free", "(I)V"⟩ : Cond) ∈ gw := gw_t 310 (by decide +kernel) (by decide +kernel)
theorem kw_311 : (.code ⟨"GroupBitmaps$Bitmap", "free", "(I)V"⟩ prog_2_method_5_code 2 none : Cond) ∈ gw := gw_t 311 (by decide +kernel) (by decide +kernel)
theorem kw_312 : (.methodLink "GroupBitmapsLaw" 80 ⟨"GroupBitmapsLaw", "takeFile", "(LGroupBitmaps;IZ[J)I"⟩ : Cond) ∈ gw := gw_t 312 (by decide +kernel) (by decide +kernel)
theorem kw_313 : (.static ⟨"GroupBitmapsLaw", "takeFile", "(LGroupBitmaps;IZ[J)I"⟩ : Cond) ∈ gw := gw_t 313 (by decide +kernel) (by decide +kernel)
theorem kw_314 : (.codeWith ⟨"GroupBitmapsLaw", "takeFile", "(LGroupBitmaps;IZ[J)I"⟩ method_7_code 5 (some .int) [(0, 10, 13, 13), (0, 10, 17, 23)] : Cond) ∈ gw := gw_t 314 (by decide +kernel) (by decide +kernel)
theorem kw_315 : (.methodLink "GroupBitmapsLaw" 28 ⟨"GroupBitmaps", "takeFile", "(IZ)I"⟩ : Cond) ∈ gw := gw_t 315 (by decide +kernel) (by decide +kernel)
theorem kw_316 : (.instanceMethod ⟨"GroupBitmaps", "takeFile", "(IZ)I"⟩ : Cond) ∈ gw := gw_t 316 (by decide +kernel) (by decide +kernel)
theorem kw_317 : (.selects "GroupBitmaps" ⟨"GroupBitmaps", "takeFile", "(IZ)I"⟩ ⟨"GroupBitmaps", "takeFile", "(IZ)I"⟩ : Cond) ∈ gw := gw_t 317 (by decide +kernel) (by decide +kernel)
theorem kw_318 : (.code ⟨"GroupBitmaps", "takeFile", "(IZ)I"⟩ prog_1_method_7_code 4 (some .int) : Cond) ∈ gw := gw_t 318 (by decide +kernel) (by decide +kernel)
theorem kw_319 : (.methodLink "GroupBitmaps" 103 ⟨"GroupBitmaps", "hasFile", "(I)Z"⟩ : Cond) ∈ gw := gw_t 319 (by decide +kernel) (by decide +kernel)
theorem kw_321 : (.instanceMethod ⟨"GroupBitmaps", "hasFile", "(I)Z"⟩ : Cond) ∈ gw := gw_t 321 (by decide +kernel) (by decide +kernel)
theorem kw_322 : (.code ⟨"GroupBitmaps", "hasFile", "(I)Z"⟩ prog_1_method_17_code 2 (some .boolean) : Cond) ∈ gw := gw_t 322 (by decide +kernel) (by decide +kernel)
theorem kw_324 : (.methodLink "GroupBitmaps" 108 ⟨"GroupBitmaps", "groupForFolder", "(I)LGroupBitmaps$Group;"⟩ : Cond) ∈ gw := gw_t 324 (by decide +kernel) (by decide +kernel)
theorem kw_326 : (.instanceMethod ⟨"GroupBitmaps", "groupForFolder", "(I)LGroupBitmaps$Group;"⟩ : Cond) ∈ gw := gw_t 326 (by decide +kernel) (by decide +kernel)
theorem kw_327 : (.code ⟨"GroupBitmaps", "groupForFolder", "(I)LGroupBitmaps$Group;"⟩ prog_1_method_29_code 4 (some (.object "GroupBitmaps$Group")) : Cond) ∈ gw := gw_t 327 (by decide +kernel) (by decide +kernel)
theorem kw_328 : (.methodLink "GroupBitmaps" 121 ⟨"GroupBitmaps", "groupOfFile", "(I)LGroupBitmaps$Group;"⟩ : Cond) ∈ gw := gw_t 328 (by decide +kernel) (by decide +kernel)
theorem kw_330 : (.instanceMethod ⟨"GroupBitmaps", "groupOfFile", "(I)LGroupBitmaps$Group;"⟩ : Cond) ∈ gw := gw_t 330 (by decide +kernel) (by decide +kernel)
theorem kw_331 : (.code ⟨"GroupBitmaps", "groupOfFile", "(I)LGroupBitmaps$Group;"⟩ prog_1_method_19_code 2 (some (.object "GroupBitmaps$Group")) : Cond) ∈ gw := gw_t 331 (by decide +kernel) (by decide +kernel)
theorem kw_332 : (.methodLink "GroupBitmaps" 227 ⟨"GroupBitmaps", "leastFolders", "(LGroupBitmaps$Group;)LGroupBitmaps$Group;"⟩ : Cond) ∈ gw := gw_t 332 (by decide +kernel) (by decide +kernel)
theorem kw_334 : (.instanceMethod ⟨"GroupBitmaps", "leastFolders", "(LGroupBitmaps$Group;)LGroupBitmaps$Group;"⟩ : Cond) ∈ gw := gw_t 334 (by decide +kernel) (by decide +kernel)
theorem kw_335 : (.code ⟨"GroupBitmaps", "leastFolders", "(LGroupBitmaps$Group;)LGroupBitmaps$Group;"⟩ prog_1_method_30_code 8 (some (.object "GroupBitmaps$Group")) : Cond) ∈ gw := gw_t 335 (by decide +kernel) (by decide +kernel)
theorem kw_336 : (.methodLink "GroupBitmaps" 141 ⟨"GroupBitmaps", "freeFiles", "()I"⟩ : Cond) ∈ gw := gw_t 336 (by decide +kernel) (by decide +kernel)
theorem kw_338 : (.instanceMethod ⟨"GroupBitmaps", "freeFiles", "()I"⟩ : Cond) ∈ gw := gw_t 338 (by decide +kernel) (by decide +kernel)
theorem kw_339 : (.code ⟨"GroupBitmaps", "freeFiles", "()I"⟩ prog_1_method_22_code 3 (some .int) : Cond) ∈ gw := gw_t 339 (by decide +kernel) (by decide +kernel)
theorem kw_340 : (.methodLink "GroupBitmaps" 230 ⟨"GroupBitmaps", "firstWithRoom", "(LGroupBitmaps$Group;)LGroupBitmaps$Group;"⟩ : Cond) ∈ gw := gw_t 340 (by decide +kernel) (by decide +kernel)
theorem kw_342 : (.instanceMethod ⟨"GroupBitmaps", "firstWithRoom", "(LGroupBitmaps$Group;)LGroupBitmaps$Group;"⟩ : Cond) ∈ gw := gw_t 342 (by decide +kernel) (by decide +kernel)
theorem kw_343 : (.code ⟨"GroupBitmaps", "firstWithRoom", "(LGroupBitmaps$Group;)LGroupBitmaps$Group;"⟩ prog_1_method_31_code 5 (some (.object "GroupBitmaps$Group")) : Cond) ∈ gw := gw_t 343 (by decide +kernel) (by decide +kernel)
theorem kw_344 : (.methodLink "GroupBitmaps" 219 ⟨"GroupBitmaps$Group", "hasFileAndBlock", "()Z"⟩ : Cond) ∈ gw := gw_t 344 (by decide +kernel) (by decide +kernel)
theorem kw_345 : (.instanceMethod ⟨"GroupBitmaps$Group", "hasFileAndBlock", "()Z"⟩ : Cond) ∈ gw := gw_t 345 (by decide +kernel) (by decide +kernel)
theorem kw_346 : (.selects "GroupBitmaps$Group" ⟨"GroupBitmaps$Group", "hasFileAndBlock", "()Z"⟩ ⟨"GroupBitmaps$Group", "hasFileAndBlock", "()Z"⟩ : Cond) ∈ gw := gw_t 346 (by decide +kernel) (by decide +kernel)
theorem kw_347 : (.code ⟨"GroupBitmaps$Group", "hasFileAndBlock", "()Z"⟩ prog_3_method_4_code 1 (some .boolean) : Cond) ∈ gw := gw_t 347 (by decide +kernel) (by decide +kernel)
theorem kw_348 : (.methodLink "GroupBitmaps" 223 ⟨"GroupBitmaps", "firstWithFile", "(LGroupBitmaps$Group;)LGroupBitmaps$Group;"⟩ : Cond) ∈ gw := gw_t 348 (by decide +kernel) (by decide +kernel)
theorem kw_350 : (.instanceMethod ⟨"GroupBitmaps", "firstWithFile", "(LGroupBitmaps$Group;)LGroupBitmaps$Group;"⟩ : Cond) ∈ gw := gw_t 350 (by decide +kernel) (by decide +kernel)
theorem kw_351 : (.code ⟨"GroupBitmaps", "firstWithFile", "(LGroupBitmaps$Group;)LGroupBitmaps$Group;"⟩ prog_1_method_32_code 4 (some (.object "GroupBitmaps$Group")) : Cond) ∈ gw := gw_t 351 (by decide +kernel) (by decide +kernel)
theorem kw_352 : (.methodLink "GroupBitmaps" 111 ⟨"GroupBitmaps", "groupForPlain", "(I)LGroupBitmaps$Group;"⟩ : Cond) ∈ gw := gw_t 352 (by decide +kernel) (by decide +kernel)
theorem kw_354 : (.instanceMethod ⟨"GroupBitmaps", "groupForPlain", "(I)LGroupBitmaps$Group;"⟩ : Cond) ∈ gw := gw_t 354 (by decide +kernel) (by decide +kernel)
theorem kw_355 : (.code ⟨"GroupBitmaps", "groupForPlain", "(I)LGroupBitmaps$Group;"⟩ prog_1_method_28_code 8 (some (.object "GroupBitmaps$Group")) : Cond) ∈ gw := gw_t 355 (by decide +kernel) (by decide +kernel)
theorem kw_356 : (.fieldLink "GroupBitmaps" 215 "GroupBitmaps" "PLAIN_STEPS" "[I" : Cond) ∈ gw := gw_t 356 (by decide +kernel) (by decide +kernel)
theorem kw_359 : (.methodLink "GroupBitmaps" 116 ⟨"GroupBitmaps$Group", "occupyFile", "(Z)I"⟩ : Cond) ∈ gw := gw_t 359 (by decide +kernel) (by decide +kernel)
theorem kw_360 : (.instanceMethod ⟨"GroupBitmaps$Group", "occupyFile", "(Z)I"⟩ : Cond) ∈ gw := gw_t 360 (by decide +kernel) (by decide +kernel)
theorem kw_361 : (.selects "GroupBitmaps$Group" ⟨"GroupBitmaps$Group", "occupyFile", "(Z)I"⟩ ⟨"GroupBitmaps$Group", "occupyFile", "(Z)I"⟩ : Cond) ∈ gw := gw_t 361 (by decide +kernel) (by decide +kernel)
theorem kw_362 : (.code ⟨"GroupBitmaps$Group", "occupyFile", "(Z)I"⟩ prog_3_method_5_code 3 (some .int) : Cond) ∈ gw := gw_t 362 (by decide +kernel) (by decide +kernel)
theorem kw_363 : (.methodLink "GroupBitmaps$Group" 45 ⟨"GroupBitmaps$Bitmap", "leastFree", "()I"⟩ : Cond) ∈ gw := gw_t 363 (by decide +kernel) (by decide +kernel)
theorem kw_364 : (.instanceMethod ⟨"GroupBitmaps$Bitmap", "leastFree", "()I"⟩ : Cond) ∈ gw := gw_t 364 (by decide +kernel) (by decide +kernel)
theorem kw_365 : (.selects "GroupBitmaps$Bitmap" ⟨"GroupBitmaps$Bitmap", "leastFree", "()I"⟩ ⟨"GroupBitmaps$Bitmap", "leastFree", "()I"⟩ : Cond) ∈ gw := gw_t 365 (by decide +kernel) (by decide +kernel)
theorem kw_366 : (.code ⟨"GroupBitmaps$Bitmap", "leastFree", "()I"⟩ prog_2_method_7_code 2 (some .int) : Cond) ∈ gw := gw_t 366 (by decide +kernel) (by decide +kernel)
theorem kw_367 : (.methodLink "GroupBitmaps$Group" 49 ⟨"GroupBitmaps$Bitmap", "occupy", "(I)V"⟩ : Cond) ∈ gw := gw_t 367 (by decide +kernel) (by decide +kernel)
theorem kw_368 : (.methodLink "GroupBitmapsLaw" 84 ⟨"GroupBitmapsLaw", "giveFile", "(LGroupBitmaps;IZ[J)I"⟩ : Cond) ∈ gw := gw_t 368 (by decide +kernel) (by decide +kernel)
theorem kw_369 : (.static ⟨"GroupBitmapsLaw", "giveFile", "(LGroupBitmaps;IZ[J)I"⟩ : Cond) ∈ gw := gw_t 369 (by decide +kernel) (by decide +kernel)
theorem kw_370 : (.codeWith ⟨"GroupBitmapsLaw", "giveFile", "(LGroupBitmaps;IZ[J)I"⟩ method_8_code 5 (some .int) [(0, 10, 13, 13), (0, 10, 17, 23)] : Cond) ∈ gw := gw_t 370 (by decide +kernel) (by decide +kernel)
theorem kw_371 : (.methodLink "GroupBitmapsLaw" 32 ⟨"GroupBitmaps", "giveFile", "(IZ)I"⟩ : Cond) ∈ gw := gw_t 371 (by decide +kernel) (by decide +kernel)
theorem kw_372 : (.instanceMethod ⟨"GroupBitmaps", "giveFile", "(IZ)I"⟩ : Cond) ∈ gw := gw_t 372 (by decide +kernel) (by decide +kernel)
theorem kw_373 : (.selects "GroupBitmaps" ⟨"GroupBitmaps", "giveFile", "(IZ)I"⟩ ⟨"GroupBitmaps", "giveFile", "(IZ)I"⟩ : Cond) ∈ gw := gw_t 373 (by decide +kernel) (by decide +kernel)
theorem kw_374 : (.code ⟨"GroupBitmaps", "giveFile", "(IZ)I"⟩ prog_1_method_8_code 5 (some .int) : Cond) ∈ gw := gw_t 374 (by decide +kernel) (by decide +kernel)
theorem kw_378 : (.methodLink "GroupBitmaps" 137 ⟨"GroupBitmaps$Group", "freeFile", "(IZ)V"⟩ : Cond) ∈ gw := gw_t 378 (by decide +kernel) (by decide +kernel)
theorem kw_379 : (.instanceMethod ⟨"GroupBitmaps$Group", "freeFile", "(IZ)V"⟩ : Cond) ∈ gw := gw_t 379 (by decide +kernel) (by decide +kernel)
theorem kw_380 : (.selects "GroupBitmaps$Group" ⟨"GroupBitmaps$Group", "freeFile", "(IZ)V"⟩ ⟨"GroupBitmaps$Group", "freeFile", "(IZ)V"⟩ : Cond) ∈ gw := gw_t 380 (by decide +kernel) (by decide +kernel)
theorem kw_381 : (.code ⟨"GroupBitmaps$Group", "freeFile", "(IZ)V"⟩ prog_3_method_6_code 3 none : Cond) ∈ gw := gw_t 381 (by decide +kernel) (by decide +kernel)
theorem kw_382 : (.methodLink "GroupBitmaps$Group" 53 ⟨"GroupBitmaps$Bitmap", "free", "(I)V"⟩ : Cond) ∈ gw := gw_t 382 (by decide +kernel) (by decide +kernel)
theorem kw_383 : (.methodLink "GroupBitmapsLaw" 87 ⟨"GroupBitmapsLaw", "isTaken", "(LGroupBitmaps;II[J)I"⟩ : Cond) ∈ gw := gw_t 383 (by decide +kernel) (by decide +kernel)
theorem kw_384 : (.static ⟨"GroupBitmapsLaw", "isTaken", "(LGroupBitmaps;II[J)I"⟩ : Cond) ∈ gw := gw_t 384 (by decide +kernel) (by decide +kernel)
theorem kw_385 : (.codeWith ⟨"GroupBitmapsLaw", "isTaken", "(LGroupBitmaps;II[J)I"⟩ method_9_code 5 (some .int) [(0, 17, 20, 13)] : Cond) ∈ gw := gw_t 385 (by decide +kernel) (by decide +kernel)
theorem kw_386 : (.methodLink "GroupBitmapsLaw" 35 ⟨"GroupBitmaps", "isTaken", "(II)Z"⟩ : Cond) ∈ gw := gw_t 386 (by decide +kernel) (by decide +kernel)
theorem kw_387 : (.instanceMethod ⟨"GroupBitmaps", "isTaken", "(II)Z"⟩ : Cond) ∈ gw := gw_t 387 (by decide +kernel) (by decide +kernel)
theorem kw_388 : (.selects "GroupBitmaps" ⟨"GroupBitmaps", "isTaken", "(II)Z"⟩ ⟨"GroupBitmaps", "isTaken", "(II)Z"⟩ : Cond) ∈ gw := gw_t 388 (by decide +kernel) (by decide +kernel)
theorem kw_389 : (.code ⟨"GroupBitmaps", "isTaken", "(II)Z"⟩ prog_1_method_9_code 3 (some .boolean) : Cond) ∈ gw := gw_t 389 (by decide +kernel) (by decide +kernel)
theorem kw_391 : (.methodLink "GroupBitmapsLaw" 90 ⟨"GroupBitmapsLaw", "group", "(LGroupBitmaps;II[J)I"⟩ : Cond) ∈ gw := gw_t 391 (by decide +kernel) (by decide +kernel)
theorem kw_392 : (.static ⟨"GroupBitmapsLaw", "group", "(LGroupBitmaps;II[J)I"⟩ : Cond) ∈ gw := gw_t 392 (by decide +kernel) (by decide +kernel)
theorem kw_393 : (.codeWith ⟨"GroupBitmapsLaw", "group", "(LGroupBitmaps;II[J)I"⟩ method_10_code 5 (some .int) [(0, 10, 13, 13)] : Cond) ∈ gw := gw_t 393 (by decide +kernel) (by decide +kernel)
theorem kw_394 : (.methodLink "GroupBitmapsLaw" 39 ⟨"GroupBitmaps", "group", "(II)I"⟩ : Cond) ∈ gw := gw_t 394 (by decide +kernel) (by decide +kernel)
theorem kw_395 : (.instanceMethod ⟨"GroupBitmaps", "group", "(II)I"⟩ : Cond) ∈ gw := gw_t 395 (by decide +kernel) (by decide +kernel)
theorem kw_396 : (.selects "GroupBitmaps" ⟨"GroupBitmaps", "group", "(II)I"⟩ ⟨"GroupBitmaps", "group", "(II)I"⟩ : Cond) ∈ gw := gw_t 396 (by decide +kernel) (by decide +kernel)
theorem kw_397 : (.code ⟨"GroupBitmaps", "group", "(II)I"⟩ prog_1_method_10_code 4 (some .int) : Cond) ∈ gw := gw_t 397 (by decide +kernel) (by decide +kernel)
theorem kw_400 : (.methodLink "GroupBitmapsLaw" 93 ⟨"GroupBitmapsLaw", "byteOf", "(LGroupBitmaps;II[J)I"⟩ : Cond) ∈ gw := gw_t 400 (by decide +kernel) (by decide +kernel)
theorem kw_401 : (.static ⟨"GroupBitmapsLaw", "byteOf", "(LGroupBitmaps;II[J)I"⟩ : Cond) ∈ gw := gw_t 401 (by decide +kernel) (by decide +kernel)
theorem kw_402 : (.codeWith ⟨"GroupBitmapsLaw", "byteOf", "(LGroupBitmaps;II[J)I"⟩ method_11_code 5 (some .int) [(0, 10, 13, 45)] : Cond) ∈ gw := gw_t 402 (by decide +kernel) (by decide +kernel)
theorem kw_403 : (.classLink "GroupBitmapsLaw" 45 "java/lang/IndexOutOfBoundsException" : Cond) ∈ gw := gw_t 403 (by decide +kernel) (by decide +kernel)
theorem kw_404 : (.methodLink "GroupBitmapsLaw" 42 ⟨"GroupBitmaps", "byteOf", "(II)I"⟩ : Cond) ∈ gw := gw_t 404 (by decide +kernel) (by decide +kernel)
theorem kw_405 : (.instanceMethod ⟨"GroupBitmaps", "byteOf", "(II)I"⟩ : Cond) ∈ gw := gw_t 405 (by decide +kernel) (by decide +kernel)
theorem kw_406 : (.selects "GroupBitmaps" ⟨"GroupBitmaps", "byteOf", "(II)I"⟩ ⟨"GroupBitmaps", "byteOf", "(II)I"⟩ : Cond) ∈ gw := gw_t 406 (by decide +kernel) (by decide +kernel)
theorem kw_407 : (.code ⟨"GroupBitmaps", "byteOf", "(II)I"⟩ prog_1_method_11_code 4 (some .int) : Cond) ∈ gw := gw_t 407 (by decide +kernel) (by decide +kernel)
theorem kw_408 : (.classLink "GroupBitmaps" 162 "java/lang/IndexOutOfBoundsException" : Cond) ∈ gw := gw_t 408 (by decide +kernel) (by decide +kernel)
theorem kw_409 : (.instantiable "java/lang/IndexOutOfBoundsException" 6 : Cond) ∈ gw := gw_t 409 (by decide +kernel) (by decide +kernel)
theorem kw_411 : (.selects "java/lang/IndexOutOfBoundsException" ⟨"java/lang/Throwable", "fillInStackTrace", "(I)Ljava/lang/Throwable;"⟩ ⟨"java/lang/Throwable", "fillInStackTrace", "(I)Ljava/lang/Throwable;"⟩ : Cond) ∈ gw := gw_t 411 (by decide +kernel) (by decide +kernel)
theorem kw_418 : (.methodLink "GroupBitmaps" 166 ⟨"java/lang/IndexOutOfBoundsException", "<init>", "(Ljava/lang/String;)V"⟩ : Cond) ∈ gw := gw_t 418 (by decide +kernel) (by decide +kernel)
theorem kw_419 : (.instanceMethod ⟨"java/lang/IndexOutOfBoundsException", "<init>", "(Ljava/lang/String;)V"⟩ : Cond) ∈ gw := gw_t 419 (by decide +kernel) (by decide +kernel)
theorem kw_420 : (.code ⟨"java/lang/IndexOutOfBoundsException", "<init>", "(Ljava/lang/String;)V"⟩ prog_9_method_2_code 2 none : Cond) ∈ gw := gw_t 420 (by decide +kernel) (by decide +kernel)
theorem kw_421 : (.methodLink "java/lang/IndexOutOfBoundsException" 7 ⟨"java/lang/RuntimeException", "<init>", "(Ljava/lang/String;)V"⟩ : Cond) ∈ gw := gw_t 421 (by decide +kernel) (by decide +kernel)
theorem kw_424 : (.methodLink "GroupBitmaps" 167 ⟨"GroupBitmaps", "tableByte", "(I)I"⟩ : Cond) ∈ gw := gw_t 424 (by decide +kernel) (by decide +kernel)
theorem kw_426 : (.instanceMethod ⟨"GroupBitmaps", "tableByte", "(I)I"⟩ : Cond) ∈ gw := gw_t 426 (by decide +kernel) (by decide +kernel)
theorem kw_427 : (.code ⟨"GroupBitmaps", "tableByte", "(I)I"⟩ prog_1_method_33_code 3 (some .int) : Cond) ∈ gw := gw_t 427 (by decide +kernel) (by decide +kernel)
theorem kw_428 : (.methodLink "GroupBitmaps" 233 ⟨"GroupBitmaps$Group", "tableByte", "(I)I"⟩ : Cond) ∈ gw := gw_t 428 (by decide +kernel) (by decide +kernel)
theorem kw_429 : (.instanceMethod ⟨"GroupBitmaps$Group", "tableByte", "(I)I"⟩ : Cond) ∈ gw := gw_t 429 (by decide +kernel) (by decide +kernel)
theorem kw_430 : (.selects "GroupBitmaps$Group" ⟨"GroupBitmaps$Group", "tableByte", "(I)I"⟩ ⟨"GroupBitmaps$Group", "tableByte", "(I)I"⟩ : Cond) ∈ gw := gw_t 430 (by decide +kernel) (by decide +kernel)
theorem kw_431 : (.code ⟨"GroupBitmaps$Group", "tableByte", "(I)I"⟩ prog_3_method_7_code 2 (some .int) : Cond) ∈ gw := gw_t 431 (by decide +kernel) (by decide +kernel)
theorem kw_432 : (.methodLink "GroupBitmaps$Group" 56 ⟨"GroupBitmaps$Group", "byteOfNumber", "(II)I"⟩ : Cond) ∈ gw := gw_t 432 (by decide +kernel) (by decide +kernel)
theorem kw_433 : (.static ⟨"GroupBitmaps$Group", "byteOfNumber", "(II)I"⟩ : Cond) ∈ gw := gw_t 433 (by decide +kernel) (by decide +kernel)
theorem kw_434 : (.code ⟨"GroupBitmaps$Group", "byteOfNumber", "(II)I"⟩ prog_3_method_8_code 2 (some .int) : Cond) ∈ gw := gw_t 434 (by decide +kernel) (by decide +kernel)
theorem kw_435 : (.methodLink "GroupBitmaps" 171 ⟨"GroupBitmaps$Group", "bitmapIn", "(I)LGroupBitmaps$Bitmap;"⟩ : Cond) ∈ gw := gw_t 435 (by decide +kernel) (by decide +kernel)
theorem kw_436 : (.instanceMethod ⟨"GroupBitmaps$Group", "bitmapIn", "(I)LGroupBitmaps$Bitmap;"⟩ : Cond) ∈ gw := gw_t 436 (by decide +kernel) (by decide +kernel)
theorem kw_437 : (.selects "GroupBitmaps$Group" ⟨"GroupBitmaps$Group", "bitmapIn", "(I)LGroupBitmaps$Bitmap;"⟩ ⟨"GroupBitmaps$Group", "bitmapIn", "(I)LGroupBitmaps$Bitmap;"⟩ : Cond) ∈ gw := gw_t 437 (by decide +kernel) (by decide +kernel)
theorem kw_438 : (.code ⟨"GroupBitmaps$Group", "bitmapIn", "(I)LGroupBitmaps$Bitmap;"⟩ prog_3_method_3_code 2 (some (.object "GroupBitmaps$Bitmap")) : Cond) ∈ gw := gw_t 438 (by decide +kernel) (by decide +kernel)
theorem kw_439 : (.methodLink "GroupBitmaps" 175 ⟨"GroupBitmaps$Bitmap", "byteAt", "(I)I"⟩ : Cond) ∈ gw := gw_t 439 (by decide +kernel) (by decide +kernel)
theorem kw_440 : (.instanceMethod ⟨"GroupBitmaps$Bitmap", "byteAt", "(I)I"⟩ : Cond) ∈ gw := gw_t 440 (by decide +kernel) (by decide +kernel)
theorem kw_441 : (.selects "GroupBitmaps$Bitmap" ⟨"GroupBitmaps$Bitmap", "byteAt", "(I)I"⟩ ⟨"GroupBitmaps$Bitmap", "byteAt", "(I)I"⟩ : Cond) ∈ gw := gw_t 441 (by decide +kernel) (by decide +kernel)
theorem kw_442 : (.code ⟨"GroupBitmaps$Bitmap", "byteAt", "(I)I"⟩ prog_2_method_6_code 4 (some .int) : Cond) ∈ gw := gw_t 442 (by decide +kernel) (by decide +kernel)
theorem kw_443 : (.methodLink "GroupBitmapsLaw" 96 ⟨"GroupBitmapsLaw", "isTold", "(LGroupBitmaps;I[J)I"⟩ : Cond) ∈ gw := gw_t 443 (by decide +kernel) (by decide +kernel)
theorem kw_444 : (.static ⟨"GroupBitmapsLaw", "isTold", "(LGroupBitmaps;I[J)I"⟩ : Cond) ∈ gw := gw_t 444 (by decide +kernel) (by decide +kernel)
theorem kw_445 : (.codeWith ⟨"GroupBitmapsLaw", "isTold", "(LGroupBitmaps;I[J)I"⟩ method_12_code 4 (some .int) [(0, 16, 19, 45)] : Cond) ∈ gw := gw_t 445 (by decide +kernel) (by decide +kernel)
theorem kw_446 : (.methodLink "GroupBitmapsLaw" 47 ⟨"GroupBitmaps", "isTold", "(I)Z"⟩ : Cond) ∈ gw := gw_t 446 (by decide +kernel) (by decide +kernel)
theorem kw_447 : (.instanceMethod ⟨"GroupBitmaps", "isTold", "(I)Z"⟩ : Cond) ∈ gw := gw_t 447 (by decide +kernel) (by decide +kernel)
theorem kw_448 : (.selects "GroupBitmaps" ⟨"GroupBitmaps", "isTold", "(I)Z"⟩ ⟨"GroupBitmaps", "isTold", "(I)Z"⟩ : Cond) ∈ gw := gw_t 448 (by decide +kernel) (by decide +kernel)
theorem kw_449 : (.code ⟨"GroupBitmaps", "isTold", "(I)Z"⟩ prog_1_method_12_code 3 (some .boolean) : Cond) ∈ gw := gw_t 449 (by decide +kernel) (by decide +kernel)
theorem kw_451 : (.classLink "GroupBitmapsLaw" 52 "GroupBitmapsModel" : Cond) ∈ gw := gw_t 451 (by decide +kernel) (by decide +kernel)
theorem kw_452 : (.instantiable "GroupBitmapsModel" 11 : Cond) ∈ gw := gw_t 452 (by decide +kernel) (by decide +kernel)
theorem kw_453 : (.methodLink "GroupBitmapsLaw" 54 ⟨"GroupBitmapsModel", "<init>", "()V"⟩ : Cond) ∈ gw := gw_t 453 (by decide +kernel) (by decide +kernel)
theorem kw_454 : (.instanceMethod ⟨"GroupBitmapsModel", "<init>", "()V"⟩ : Cond) ∈ gw := gw_t 454 (by decide +kernel) (by decide +kernel)
theorem kw_455 : (.code ⟨"GroupBitmapsModel", "<init>", "()V"⟩ prog_5_method_1_code 1 none : Cond) ∈ gw := gw_t 455 (by decide +kernel) (by decide +kernel)
theorem kw_456 : (.methodLink "GroupBitmapsModel" 1 ⟨"java/lang/Object", "<init>", "()V"⟩ : Cond) ∈ gw := gw_t 456 (by decide +kernel) (by decide +kernel)
theorem kw_457 : (.methodLink "GroupBitmapsModel" 26 ⟨"GroupBitmapsModel", "layOut", "(II)V"⟩ : Cond) ∈ gw := gw_t 457 (by decide +kernel) (by decide +kernel)
theorem kw_459 : (.instanceMethod ⟨"GroupBitmapsModel", "layOut", "(II)V"⟩ : Cond) ∈ gw := gw_t 459 (by decide +kernel) (by decide +kernel)
theorem kw_460 : (.code ⟨"GroupBitmapsModel", "layOut", "(II)V"⟩ prog_5_method_6_code 5 none : Cond) ∈ gw := gw_t 460 (by decide +kernel) (by decide +kernel)
theorem kw_461 : (.methodLink "GroupBitmapsModel" 47 ⟨"GroupBitmapsModel", "bitmap", "(I)I"⟩ : Cond) ∈ gw := gw_t 461 (by decide +kernel) (by decide +kernel)
theorem kw_462 : (.static ⟨"GroupBitmapsModel", "bitmap", "(I)I"⟩ : Cond) ∈ gw := gw_t 462 (by decide +kernel) (by decide +kernel)
theorem kw_463 : (.code ⟨"GroupBitmapsModel", "bitmap", "(I)I"⟩ prog_5_method_4_code 1 (some .int) : Cond) ∈ gw := gw_t 463 (by decide +kernel) (by decide +kernel)
theorem kw_464 : (.methodLink "GroupBitmapsModel" 34 ⟨"GroupBitmapsModel", "heads", "(I)I"⟩ : Cond) ∈ gw := gw_t 464 (by decide +kernel) (by decide +kernel)
theorem kw_465 : (.static ⟨"GroupBitmapsModel", "heads", "(I)I"⟩ : Cond) ∈ gw := gw_t 465 (by decide +kernel) (by decide +kernel)
theorem kw_466 : (.code ⟨"GroupBitmapsModel", "heads", "(I)I"⟩ prog_5_method_3_code 1 (some .int) : Cond) ∈ gw := gw_t 466 (by decide +kernel) (by decide +kernel)
theorem kw_467 : (.methodLink "GroupBitmapsModel" 50 ⟨"GroupBitmapsModel", "fixed", "(I)I"⟩ : Cond) ∈ gw := gw_t 467 (by decide +kernel) (by decide +kernel)
theorem kw_468 : (.static ⟨"GroupBitmapsModel", "fixed", "(I)I"⟩ : Cond) ∈ gw := gw_t 468 (by decide +kernel) (by decide +kernel)
theorem kw_469 : (.code ⟨"GroupBitmapsModel", "fixed", "(I)I"⟩ prog_5_method_5_code 1 (some .int) : Cond) ∈ gw := gw_t 469 (by decide +kernel) (by decide +kernel)
theorem kw_470 : (.fieldLink "GroupBitmapsModel" 30 "GroupBitmapsModel" "thrown" "I" : Cond) ∈ gw := gw_t 470 (by decide +kernel) (by decide +kernel)
theorem kw_471 : (.fieldLink "GroupBitmapsModel" 38 "GroupBitmapsModel" "groups" "I" : Cond) ∈ gw := gw_t 471 (by decide +kernel) (by decide +kernel)
theorem kw_472 : (.fieldLink "GroupBitmapsModel" 7 "GroupBitmapsModel" "sizes" "[I" : Cond) ∈ gw := gw_t 472 (by decide +kernel) (by decide +kernel)
theorem kw_473 : (.fieldLink "GroupBitmapsModel" 13 "GroupBitmapsModel" "blocks" "[Z" : Cond) ∈ gw := gw_t 473 (by decide +kernel) (by decide +kernel)
theorem kw_474 : (.fieldLink "GroupBitmapsModel" 17 "GroupBitmapsModel" "files" "[Z" : Cond) ∈ gw := gw_t 474 (by decide +kernel) (by decide +kernel)
theorem kw_475 : (.fieldLink "GroupBitmapsModel" 20 "GroupBitmapsModel" "folders" "[I" : Cond) ∈ gw := gw_t 475 (by decide +kernel) (by decide +kernel)
theorem kw_476 : (.fieldLink "GroupBitmapsModel" 41 "GroupBitmapsModel" "reserved" "I" : Cond) ∈ gw := gw_t 476 (by decide +kernel) (by decide +kernel)
theorem kw_477 : (.fieldLink "GroupBitmapsModel" 44 "GroupBitmapsModel" "latest" "I" : Cond) ∈ gw := gw_t 477 (by decide +kernel) (by decide +kernel)
theorem kw_478 : (.fieldLink "GroupBitmapsModel" 23 "GroupBitmapsModel" "told" "[Z" : Cond) ∈ gw := gw_t 478 (by decide +kernel) (by decide +kernel)
theorem kw_479 : (.fieldLink "GroupBitmapsModel" 66 "GroupBitmapsModel" "runAt" "I" : Cond) ∈ gw := gw_t 479 (by decide +kernel) (by decide +kernel)
theorem kw_480 : (.fieldLink "GroupBitmapsModel" 63 "GroupBitmapsModel" "runSize" "I" : Cond) ∈ gw := gw_t 480 (by decide +kernel) (by decide +kernel)
theorem kw_504 : (.arrayClass .int : Cond) ∈ gw := gw_t 504 (by decide +kernel) (by decide +kernel)
theorem kw_505 : (.methodLink "GroupBitmapsLaw" 61 ⟨"GroupBitmapsModel", "thrown", "()I"⟩ : Cond) ∈ gw := gw_t 505 (by decide +kernel) (by decide +kernel)
theorem kw_506 : (.instanceMethod ⟨"GroupBitmapsModel", "thrown", "()I"⟩ : Cond) ∈ gw := gw_t 506 (by decide +kernel) (by decide +kernel)
theorem kw_507 : (.selects "GroupBitmapsModel" ⟨"GroupBitmapsModel", "thrown", "()I"⟩ ⟨"GroupBitmapsModel", "thrown", "()I"⟩ : Cond) ∈ gw := gw_t 507 (by decide +kernel) (by decide +kernel)
theorem kw_508 : (.code ⟨"GroupBitmapsModel", "thrown", "()I"⟩ prog_5_method_2_code 1 (some .int) : Cond) ∈ gw := gw_t 508 (by decide +kernel) (by decide +kernel)
theorem kw_509 : (.methodLink "GroupBitmapsLaw" 60 ⟨"GroupBitmapsModel", "lay", "(II)I"⟩ : Cond) ∈ gw := gw_t 509 (by decide +kernel) (by decide +kernel)
theorem kw_510 : (.instanceMethod ⟨"GroupBitmapsModel", "lay", "(II)I"⟩ : Cond) ∈ gw := gw_t 510 (by decide +kernel) (by decide +kernel)
theorem kw_511 : (.selects "GroupBitmapsModel" ⟨"GroupBitmapsModel", "lay", "(II)I"⟩ ⟨"GroupBitmapsModel", "lay", "(II)I"⟩ : Cond) ∈ gw := gw_t 511 (by decide +kernel) (by decide +kernel)
theorem kw_512 : (.code ⟨"GroupBitmapsModel", "lay", "(II)I"⟩ prog_5_method_13_code 3 (some .int) : Cond) ∈ gw := gw_t 512 (by decide +kernel) (by decide +kernel)
theorem kw_513 : (.methodLink "GroupBitmapsModel" 59 ⟨"GroupBitmapsModel", "allBlocks", "()I"⟩ : Cond) ∈ gw := gw_t 513 (by decide +kernel) (by decide +kernel)
theorem kw_515 : (.instanceMethod ⟨"GroupBitmapsModel", "allBlocks", "()I"⟩ : Cond) ∈ gw := gw_t 515 (by decide +kernel) (by decide +kernel)
theorem kw_516 : (.code ⟨"GroupBitmapsModel", "allBlocks", "()I"⟩ prog_5_method_9_code 3 (some .int) : Cond) ∈ gw := gw_t 516 (by decide +kernel) (by decide +kernel)
theorem kw_517 : (.methodLink "GroupBitmapsModel" 53 ⟨"GroupBitmapsModel", "freeBlocks", "(I)I"⟩ : Cond) ∈ gw := gw_t 517 (by decide +kernel) (by decide +kernel)
theorem kw_519 : (.instanceMethod ⟨"GroupBitmapsModel", "freeBlocks", "(I)I"⟩ : Cond) ∈ gw := gw_t 519 (by decide +kernel) (by decide +kernel)
theorem kw_520 : (.code ⟨"GroupBitmapsModel", "freeBlocks", "(I)I"⟩ prog_5_method_7_code 4 (some .int) : Cond) ∈ gw := gw_t 520 (by decide +kernel) (by decide +kernel)
theorem kw_521 : (.methodLink "GroupBitmapsLaw" 68 ⟨"GroupBitmapsModel", "reserve", "(I)I"⟩ : Cond) ∈ gw := gw_t 521 (by decide +kernel) (by decide +kernel)
theorem kw_522 : (.instanceMethod ⟨"GroupBitmapsModel", "reserve", "(I)I"⟩ : Cond) ∈ gw := gw_t 522 (by decide +kernel) (by decide +kernel)
theorem kw_523 : (.selects "GroupBitmapsModel" ⟨"GroupBitmapsModel", "reserve", "(I)I"⟩ ⟨"GroupBitmapsModel", "reserve", "(I)I"⟩ : Cond) ∈ gw := gw_t 523 (by decide +kernel) (by decide +kernel)
theorem kw_524 : (.code ⟨"GroupBitmapsModel", "reserve", "(I)I"⟩ prog_5_method_14_code 3 (some .int) : Cond) ∈ gw := gw_t 524 (by decide +kernel) (by decide +kernel)
theorem kw_525 : (.methodLink "GroupBitmapsLaw" 72 ⟨"GroupBitmapsModel", "take", "(IIZ)I"⟩ : Cond) ∈ gw := gw_t 525 (by decide +kernel) (by decide +kernel)
theorem kw_526 : (.instanceMethod ⟨"GroupBitmapsModel", "take", "(IIZ)I"⟩ : Cond) ∈ gw := gw_t 526 (by decide +kernel) (by decide +kernel)
theorem kw_527 : (.selects "GroupBitmapsModel" ⟨"GroupBitmapsModel", "take", "(IIZ)I"⟩ ⟨"GroupBitmapsModel", "take", "(IIZ)I"⟩ : Cond) ∈ gw := gw_t 527 (by decide +kernel) (by decide +kernel)
theorem kw_528 : (.code ⟨"GroupBitmapsModel", "take", "(IIZ)I"⟩ prog_5_method_18_code 9 (some .int) : Cond) ∈ gw := gw_t 528 (by decide +kernel) (by decide +kernel)
theorem kw_529 : (.methodLink "GroupBitmapsModel" 69 ⟨"GroupBitmapsModel", "isBlock", "(I)Z"⟩ : Cond) ∈ gw := gw_t 529 (by decide +kernel) (by decide +kernel)
theorem kw_531 : (.instanceMethod ⟨"GroupBitmapsModel", "isBlock", "(I)Z"⟩ : Cond) ∈ gw := gw_t 531 (by decide +kernel) (by decide +kernel)
theorem kw_532 : (.code ⟨"GroupBitmapsModel", "isBlock", "(I)Z"⟩ prog_5_method_11_code 2 (some .boolean) : Cond) ∈ gw := gw_t 532 (by decide +kernel) (by decide +kernel)
theorem kw_533 : (.methodLink "GroupBitmapsModel" 73 ⟨"GroupBitmapsModel", "areFree", "(II)Z"⟩ : Cond) ∈ gw := gw_t 533 (by decide +kernel) (by decide +kernel)
theorem kw_535 : (.instanceMethod ⟨"GroupBitmapsModel", "areFree", "(II)Z"⟩ : Cond) ∈ gw := gw_t 535 (by decide +kernel) (by decide +kernel)
theorem kw_536 : (.code ⟨"GroupBitmapsModel", "areFree", "(II)Z"⟩ prog_5_method_16_code 5 (some .boolean) : Cond) ∈ gw := gw_t 536 (by decide +kernel) (by decide +kernel)
theorem kw_537 : (.methodLink "GroupBitmapsModel" 77 ⟨"GroupBitmapsModel", "findRun", "(II)V"⟩ : Cond) ∈ gw := gw_t 537 (by decide +kernel) (by decide +kernel)
theorem kw_539 : (.instanceMethod ⟨"GroupBitmapsModel", "findRun", "(II)V"⟩ : Cond) ∈ gw := gw_t 539 (by decide +kernel) (by decide +kernel)
theorem kw_540 : (.code ⟨"GroupBitmapsModel", "findRun", "(II)V"⟩ prog_5_method_15_code 7 none : Cond) ∈ gw := gw_t 540 (by decide +kernel) (by decide +kernel)
theorem kw_541 : (.methodLink "GroupBitmapsModel" 80 ⟨"GroupBitmapsModel", "mark", "(IIZ)V"⟩ : Cond) ∈ gw := gw_t 541 (by decide +kernel) (by decide +kernel)
theorem kw_543 : (.instanceMethod ⟨"GroupBitmapsModel", "mark", "(IIZ)V"⟩ : Cond) ∈ gw := gw_t 543 (by decide +kernel) (by decide +kernel)
theorem kw_544 : (.code ⟨"GroupBitmapsModel", "mark", "(IIZ)V"⟩ prog_5_method_17_code 5 none : Cond) ∈ gw := gw_t 544 (by decide +kernel) (by decide +kernel)
theorem kw_545 : (.methodLink "GroupBitmapsLaw" 76 ⟨"GroupBitmapsModel", "taken", "()I"⟩ : Cond) ∈ gw := gw_t 545 (by decide +kernel) (by decide +kernel)
theorem kw_546 : (.instanceMethod ⟨"GroupBitmapsModel", "taken", "()I"⟩ : Cond) ∈ gw := gw_t 546 (by decide +kernel) (by decide +kernel)
theorem kw_547 : (.selects "GroupBitmapsModel" ⟨"GroupBitmapsModel", "taken", "()I"⟩ ⟨"GroupBitmapsModel", "taken", "()I"⟩ : Cond) ∈ gw := gw_t 547 (by decide +kernel) (by decide +kernel)
theorem kw_548 : (.code ⟨"GroupBitmapsModel", "taken", "()I"⟩ prog_5_method_19_code 1 (some .int) : Cond) ∈ gw := gw_t 548 (by decide +kernel) (by decide +kernel)
theorem kw_549 : (.methodLink "GroupBitmapsLaw" 79 ⟨"GroupBitmapsModel", "give", "(II)I"⟩ : Cond) ∈ gw := gw_t 549 (by decide +kernel) (by decide +kernel)
theorem kw_550 : (.instanceMethod ⟨"GroupBitmapsModel", "give", "(II)I"⟩ : Cond) ∈ gw := gw_t 550 (by decide +kernel) (by decide +kernel)
theorem kw_551 : (.selects "GroupBitmapsModel" ⟨"GroupBitmapsModel", "give", "(II)I"⟩ ⟨"GroupBitmapsModel", "give", "(II)I"⟩ : Cond) ∈ gw := gw_t 551 (by decide +kernel) (by decide +kernel)
theorem kw_552 : (.code ⟨"GroupBitmapsModel", "give", "(II)I"⟩ prog_5_method_20_code 6 (some .int) : Cond) ∈ gw := gw_t 552 (by decide +kernel) (by decide +kernel)
theorem kw_553 : (.methodLink "GroupBitmapsLaw" 83 ⟨"GroupBitmapsModel", "takeFile", "(IZ)I"⟩ : Cond) ∈ gw := gw_t 553 (by decide +kernel) (by decide +kernel)
theorem kw_554 : (.instanceMethod ⟨"GroupBitmapsModel", "takeFile", "(IZ)I"⟩ : Cond) ∈ gw := gw_t 554 (by decide +kernel) (by decide +kernel)
theorem kw_555 : (.selects "GroupBitmapsModel" ⟨"GroupBitmapsModel", "takeFile", "(IZ)I"⟩ ⟨"GroupBitmapsModel", "takeFile", "(IZ)I"⟩ : Cond) ∈ gw := gw_t 555 (by decide +kernel) (by decide +kernel)
theorem kw_556 : (.code ⟨"GroupBitmapsModel", "takeFile", "(IZ)I"⟩ prog_5_method_25_code 6 (some .int) : Cond) ∈ gw := gw_t 556 (by decide +kernel) (by decide +kernel)
theorem kw_557 : (.methodLink "GroupBitmapsModel" 90 ⟨"GroupBitmapsModel", "isFile", "(I)Z"⟩ : Cond) ∈ gw := gw_t 557 (by decide +kernel) (by decide +kernel)
theorem kw_559 : (.instanceMethod ⟨"GroupBitmapsModel", "isFile", "(I)Z"⟩ : Cond) ∈ gw := gw_t 559 (by decide +kernel) (by decide +kernel)
theorem kw_560 : (.code ⟨"GroupBitmapsModel", "isFile", "(I)Z"⟩ prog_5_method_12_code 2 (some .boolean) : Cond) ∈ gw := gw_t 560 (by decide +kernel) (by decide +kernel)
theorem kw_561 : (.methodLink "GroupBitmapsModel" 87 ⟨"GroupBitmapsModel", "allFiles", "()I"⟩ : Cond) ∈ gw := gw_t 561 (by decide +kernel) (by decide +kernel)
theorem kw_563 : (.instanceMethod ⟨"GroupBitmapsModel", "allFiles", "()I"⟩ : Cond) ∈ gw := gw_t 563 (by decide +kernel) (by decide +kernel)
theorem kw_564 : (.code ⟨"GroupBitmapsModel", "allFiles", "()I"⟩ prog_5_method_10_code 3 (some .int) : Cond) ∈ gw := gw_t 564 (by decide +kernel) (by decide +kernel)
theorem kw_565 : (.methodLink "GroupBitmapsModel" 56 ⟨"GroupBitmapsModel", "freeFiles", "(I)I"⟩ : Cond) ∈ gw := gw_t 565 (by decide +kernel) (by decide +kernel)
theorem kw_567 : (.instanceMethod ⟨"GroupBitmapsModel", "freeFiles", "(I)I"⟩ : Cond) ∈ gw := gw_t 567 (by decide +kernel) (by decide +kernel)
theorem kw_568 : (.code ⟨"GroupBitmapsModel", "freeFiles", "(I)I"⟩ prog_5_method_8_code 4 (some .int) : Cond) ∈ gw := gw_t 568 (by decide +kernel) (by decide +kernel)
theorem kw_569 : (.methodLink "GroupBitmapsModel" 93 ⟨"GroupBitmapsModel", "groupOfFolder", "(IZ)I"⟩ : Cond) ∈ gw := gw_t 569 (by decide +kernel) (by decide +kernel)
theorem kw_571 : (.instanceMethod ⟨"GroupBitmapsModel", "groupOfFolder", "(IZ)I"⟩ : Cond) ∈ gw := gw_t 571 (by decide +kernel) (by decide +kernel)
theorem kw_572 : (.code ⟨"GroupBitmapsModel", "groupOfFolder", "(IZ)I"⟩ prog_5_method_23_code 9 (some .int) : Cond) ∈ gw := gw_t 572 (by decide +kernel) (by decide +kernel)
theorem kw_573 : (.methodLink "GroupBitmapsModel" 84 ⟨"GroupBitmapsModel", "firstFree", "(I)I"⟩ : Cond) ∈ gw := gw_t 573 (by decide +kernel) (by decide +kernel)
theorem kw_575 : (.instanceMethod ⟨"GroupBitmapsModel", "firstFree", "(I)I"⟩ : Cond) ∈ gw := gw_t 575 (by decide +kernel) (by decide +kernel)
theorem kw_576 : (.code ⟨"GroupBitmapsModel", "firstFree", "(I)I"⟩ prog_5_method_22_code 3 (some .int) : Cond) ∈ gw := gw_t 576 (by decide +kernel) (by decide +kernel)
theorem kw_577 : (.methodLink "GroupBitmapsModel" 97 ⟨"GroupBitmapsModel", "groupOfPlain", "(I)I"⟩ : Cond) ∈ gw := gw_t 577 (by decide +kernel) (by decide +kernel)
theorem kw_579 : (.instanceMethod ⟨"GroupBitmapsModel", "groupOfPlain", "(I)I"⟩ : Cond) ∈ gw := gw_t 579 (by decide +kernel) (by decide +kernel)
theorem kw_580 : (.code ⟨"GroupBitmapsModel", "groupOfPlain", "(I)I"⟩ prog_5_method_21_code 4 (some .int) : Cond) ∈ gw := gw_t 580 (by decide +kernel) (by decide +kernel)
theorem kw_581 : (.methodLink "GroupBitmapsModel" 100 ⟨"GroupBitmapsModel", "markFile", "(IIZZ)V"⟩ : Cond) ∈ gw := gw_t 581 (by decide +kernel) (by decide +kernel)
theorem kw_583 : (.instanceMethod ⟨"GroupBitmapsModel", "markFile", "(IIZZ)V"⟩ : Cond) ∈ gw := gw_t 583 (by decide +kernel) (by decide +kernel)
theorem kw_584 : (.code ⟨"GroupBitmapsModel", "markFile", "(IIZZ)V"⟩ prog_5_method_24_code 5 none : Cond) ∈ gw := gw_t 584 (by decide +kernel) (by decide +kernel)
theorem kw_585 : (.methodLink "GroupBitmapsLaw" 86 ⟨"GroupBitmapsModel", "giveFile", "(IZ)I"⟩ : Cond) ∈ gw := gw_t 585 (by decide +kernel) (by decide +kernel)
theorem kw_586 : (.instanceMethod ⟨"GroupBitmapsModel", "giveFile", "(IZ)I"⟩ : Cond) ∈ gw := gw_t 586 (by decide +kernel) (by decide +kernel)
theorem kw_587 : (.selects "GroupBitmapsModel" ⟨"GroupBitmapsModel", "giveFile", "(IZ)I"⟩ ⟨"GroupBitmapsModel", "giveFile", "(IZ)I"⟩ : Cond) ∈ gw := gw_t 587 (by decide +kernel) (by decide +kernel)
theorem kw_588 : (.code ⟨"GroupBitmapsModel", "giveFile", "(IZ)I"⟩ prog_5_method_26_code 4 (some .int) : Cond) ∈ gw := gw_t 588 (by decide +kernel) (by decide +kernel)
theorem kw_589 : (.methodLink "GroupBitmapsLaw" 89 ⟨"GroupBitmapsModel", "isTaken", "(II)Z"⟩ : Cond) ∈ gw := gw_t 589 (by decide +kernel) (by decide +kernel)
theorem kw_590 : (.instanceMethod ⟨"GroupBitmapsModel", "isTaken", "(II)Z"⟩ : Cond) ∈ gw := gw_t 590 (by decide +kernel) (by decide +kernel)
theorem kw_591 : (.selects "GroupBitmapsModel" ⟨"GroupBitmapsModel", "isTaken", "(II)Z"⟩ ⟨"GroupBitmapsModel", "isTaken", "(II)Z"⟩ : Cond) ∈ gw := gw_t 591 (by decide +kernel) (by decide +kernel)
theorem kw_592 : (.code ⟨"GroupBitmapsModel", "isTaken", "(II)Z"⟩ prog_5_method_27_code 3 (some .boolean) : Cond) ∈ gw := gw_t 592 (by decide +kernel) (by decide +kernel)
theorem kw_593 : (.methodLink "GroupBitmapsLaw" 92 ⟨"GroupBitmapsModel", "group", "(II)I"⟩ : Cond) ∈ gw := gw_t 593 (by decide +kernel) (by decide +kernel)
theorem kw_594 : (.instanceMethod ⟨"GroupBitmapsModel", "group", "(II)I"⟩ : Cond) ∈ gw := gw_t 594 (by decide +kernel) (by decide +kernel)
theorem kw_595 : (.selects "GroupBitmapsModel" ⟨"GroupBitmapsModel", "group", "(II)I"⟩ ⟨"GroupBitmapsModel", "group", "(II)I"⟩ : Cond) ∈ gw := gw_t 595 (by decide +kernel) (by decide +kernel)
theorem kw_596 : (.code ⟨"GroupBitmapsModel", "group", "(II)I"⟩ prog_5_method_28_code 3 (some .int) : Cond) ∈ gw := gw_t 596 (by decide +kernel) (by decide +kernel)
theorem kw_597 : (.methodLink "GroupBitmapsLaw" 95 ⟨"GroupBitmapsModel", "byteOf", "(II)I"⟩ : Cond) ∈ gw := gw_t 597 (by decide +kernel) (by decide +kernel)
theorem kw_598 : (.instanceMethod ⟨"GroupBitmapsModel", "byteOf", "(II)I"⟩ : Cond) ∈ gw := gw_t 598 (by decide +kernel) (by decide +kernel)
theorem kw_599 : (.selects "GroupBitmapsModel" ⟨"GroupBitmapsModel", "byteOf", "(II)I"⟩ ⟨"GroupBitmapsModel", "byteOf", "(II)I"⟩ : Cond) ∈ gw := gw_t 599 (by decide +kernel) (by decide +kernel)
theorem kw_600 : (.code ⟨"GroupBitmapsModel", "byteOf", "(II)I"⟩ prog_5_method_30_code 9 (some .int) : Cond) ∈ gw := gw_t 600 (by decide +kernel) (by decide +kernel)
theorem kw_601 : (.methodLink "GroupBitmapsModel" 104 ⟨"GroupBitmapsModel", "descriptor", "(I)I"⟩ : Cond) ∈ gw := gw_t 601 (by decide +kernel) (by decide +kernel)
theorem kw_603 : (.instanceMethod ⟨"GroupBitmapsModel", "descriptor", "(I)I"⟩ : Cond) ∈ gw := gw_t 603 (by decide +kernel) (by decide +kernel)
theorem kw_604 : (.code ⟨"GroupBitmapsModel", "descriptor", "(I)I"⟩ prog_5_method_29_code 6 (some .int) : Cond) ∈ gw := gw_t 604 (by decide +kernel) (by decide +kernel)
theorem kw_605 : (.methodLink "GroupBitmapsLaw" 98 ⟨"GroupBitmapsModel", "isTold", "(I)Z"⟩ : Cond) ∈ gw := gw_t 605 (by decide +kernel) (by decide +kernel)
theorem kw_606 : (.instanceMethod ⟨"GroupBitmapsModel", "isTold", "(I)Z"⟩ : Cond) ∈ gw := gw_t 606 (by decide +kernel) (by decide +kernel)
theorem kw_607 : (.selects "GroupBitmapsModel" ⟨"GroupBitmapsModel", "isTold", "(I)Z"⟩ ⟨"GroupBitmapsModel", "isTold", "(I)Z"⟩ : Cond) ∈ gw := gw_t 607 (by decide +kernel) (by decide +kernel)
theorem kw_608 : (.code ⟨"GroupBitmapsModel", "isTold", "(I)Z"⟩ prog_5_method_31_code 2 (some .boolean) : Cond) ∈ gw := gw_t 608 (by decide +kernel) (by decide +kernel)
theorem kw_609 : (.methodLink "GroupBitmapsLaw" 102 ⟨"GroupBitmapsModel", "settle", "()I"⟩ : Cond) ∈ gw := gw_t 609 (by decide +kernel) (by decide +kernel)
theorem kw_610 : (.instanceMethod ⟨"GroupBitmapsModel", "settle", "()I"⟩ : Cond) ∈ gw := gw_t 610 (by decide +kernel) (by decide +kernel)
theorem kw_611 : (.selects "GroupBitmapsModel" ⟨"GroupBitmapsModel", "settle", "()I"⟩ ⟨"GroupBitmapsModel", "settle", "()I"⟩ : Cond) ∈ gw := gw_t 611 (by decide +kernel) (by decide +kernel)
theorem kw_612 : (.code ⟨"GroupBitmapsModel", "settle", "()I"⟩ prog_5_method_32_code 3 (some .int) : Cond) ∈ gw := gw_t 612 (by decide +kernel) (by decide +kernel)
theorem kw_613 : (.arrayClass .long : Cond) ∈ gw := gw_t 613 (by decide +kernel) (by decide +kernel)
theorem kp_0 : (.selects "GroupBitmaps" ⟨"GroupBitmaps", "layOut", "(II)V"⟩ ⟨"GroupBitmaps", "layOut", "(II)V"⟩ : Cond) ∈ gw := gw_p 0 (by decide +kernel) (by decide +kernel)
theorem kp_1 : (.selects "java/lang/Throwable" ⟨"java/lang/Throwable", "fillInStackTrace", "(I)Ljava/lang/Throwable;"⟩ ⟨"java/lang/Throwable", "fillInStackTrace", "(I)Ljava/lang/Throwable;"⟩ : Cond) ∈ gw := gw_p 1 (by decide +kernel) (by decide +kernel)
theorem kp_2 : (.selects "GroupBitmaps" ⟨"GroupBitmaps", "freeBlocks", "()I"⟩ ⟨"GroupBitmaps", "freeBlocks", "()I"⟩ : Cond) ∈ gw := gw_p 2 (by decide +kernel) (by decide +kernel)
theorem kp_3 : (.selects "GroupBitmaps" ⟨"GroupBitmaps", "takeable", "(Z)I"⟩ ⟨"GroupBitmaps", "takeable", "(Z)I"⟩ : Cond) ∈ gw := gw_p 3 (by decide +kernel) (by decide +kernel)
theorem kp_4 : (.selects "GroupBitmaps" ⟨"GroupBitmaps", "hasBlock", "(I)Z"⟩ ⟨"GroupBitmaps", "hasBlock", "(I)Z"⟩ : Cond) ∈ gw := gw_p 4 (by decide +kernel) (by decide +kernel)
theorem kp_5 : (.selects "GroupBitmaps" ⟨"GroupBitmaps", "allBlocks", "()I"⟩ ⟨"GroupBitmaps", "allBlocks", "()I"⟩ : Cond) ∈ gw := gw_p 5 (by decide +kernel) (by decide +kernel)
theorem kp_6 : (.selects "GroupBitmaps" ⟨"GroupBitmaps", "takeNear", "(II)I"⟩ ⟨"GroupBitmaps", "takeNear", "(II)I"⟩ : Cond) ∈ gw := gw_p 6 (by decide +kernel) (by decide +kernel)
theorem kp_7 : (.selects "GroupBitmaps" ⟨"GroupBitmaps", "groupOfBlock", "(I)LGroupBitmaps$Group;"⟩ ⟨"GroupBitmaps", "groupOfBlock", "(I)LGroupBitmaps$Group;"⟩ : Cond) ∈ gw := gw_p 7 (by decide +kernel) (by decide +kernel)
theorem kp_8 : (.selects "GroupBitmaps" ⟨"GroupBitmaps", "takeRun", "(LGroupBitmaps$Group;II)I"⟩ ⟨"GroupBitmaps", "takeRun", "(LGroupBitmaps$Group;II)I"⟩ : Cond) ∈ gw := gw_p 8 (by decide +kernel) (by decide +kernel)
theorem kp_9 : (.selects "GroupBitmaps" ⟨"GroupBitmaps", "groupBehind", "(LGroupBitmaps$Group;I)LGroupBitmaps$Group;"⟩ ⟨"GroupBitmaps", "groupBehind", "(LGroupBitmaps$Group;I)LGroupBitmaps$Group;"⟩ : Cond) ∈ gw := gw_p 9 (by decide +kernel) (by decide +kernel)
theorem kp_10 : (.selects "GroupBitmaps" ⟨"GroupBitmaps", "takeLongestRun", "(LGroupBitmaps$Group;)I"⟩ ⟨"GroupBitmaps", "takeLongestRun", "(LGroupBitmaps$Group;)I"⟩ : Cond) ∈ gw := gw_p 10 (by decide +kernel) (by decide +kernel)
theorem kp_11 : (.selects "GroupBitmaps" ⟨"GroupBitmaps", "areGivable", "(II)Z"⟩ ⟨"GroupBitmaps", "areGivable", "(II)Z"⟩ : Cond) ∈ gw := gw_p 11 (by decide +kernel) (by decide +kernel)
theorem kp_12 : (.selects "GroupBitmaps" ⟨"GroupBitmaps", "hasFile", "(I)Z"⟩ ⟨"GroupBitmaps", "hasFile", "(I)Z"⟩ : Cond) ∈ gw := gw_p 12 (by decide +kernel) (by decide +kernel)
theorem kp_13 : (.selects "GroupBitmaps" ⟨"GroupBitmaps", "groupForFolder", "(I)LGroupBitmaps$Group;"⟩ ⟨"GroupBitmaps", "groupForFolder", "(I)LGroupBitmaps$Group;"⟩ : Cond) ∈ gw := gw_p 13 (by decide +kernel) (by decide +kernel)
theorem kp_14 : (.selects "GroupBitmaps" ⟨"GroupBitmaps", "groupOfFile", "(I)LGroupBitmaps$Group;"⟩ ⟨"GroupBitmaps", "groupOfFile", "(I)LGroupBitmaps$Group;"⟩ : Cond) ∈ gw := gw_p 14 (by decide +kernel) (by decide +kernel)
theorem kp_15 : (.selects "GroupBitmaps" ⟨"GroupBitmaps", "leastFolders", "(LGroupBitmaps$Group;)LGroupBitmaps$Group;"⟩ ⟨"GroupBitmaps", "leastFolders", "(LGroupBitmaps$Group;)LGroupBitmaps$Group;"⟩ : Cond) ∈ gw := gw_p 15 (by decide +kernel) (by decide +kernel)
theorem kp_16 : (.selects "GroupBitmaps" ⟨"GroupBitmaps", "freeFiles", "()I"⟩ ⟨"GroupBitmaps", "freeFiles", "()I"⟩ : Cond) ∈ gw := gw_p 16 (by decide +kernel) (by decide +kernel)
theorem kp_17 : (.selects "GroupBitmaps" ⟨"GroupBitmaps", "firstWithRoom", "(LGroupBitmaps$Group;)LGroupBitmaps$Group;"⟩ ⟨"GroupBitmaps", "firstWithRoom", "(LGroupBitmaps$Group;)LGroupBitmaps$Group;"⟩ : Cond) ∈ gw := gw_p 17 (by decide +kernel) (by decide +kernel)
theorem kp_18 : (.selects "GroupBitmaps" ⟨"GroupBitmaps", "firstWithFile", "(LGroupBitmaps$Group;)LGroupBitmaps$Group;"⟩ ⟨"GroupBitmaps", "firstWithFile", "(LGroupBitmaps$Group;)LGroupBitmaps$Group;"⟩ : Cond) ∈ gw := gw_p 18 (by decide +kernel) (by decide +kernel)
theorem kp_19 : (.selects "GroupBitmaps" ⟨"GroupBitmaps", "groupForPlain", "(I)LGroupBitmaps$Group;"⟩ ⟨"GroupBitmaps", "groupForPlain", "(I)LGroupBitmaps$Group;"⟩ : Cond) ∈ gw := gw_p 19 (by decide +kernel) (by decide +kernel)
theorem kp_20 : (.selects "GroupBitmaps" ⟨"GroupBitmaps", "tableByte", "(I)I"⟩ ⟨"GroupBitmaps", "tableByte", "(I)I"⟩ : Cond) ∈ gw := gw_p 20 (by decide +kernel) (by decide +kernel)
theorem kp_21 : (.selects "GroupBitmapsModel" ⟨"GroupBitmapsModel", "layOut", "(II)V"⟩ ⟨"GroupBitmapsModel", "layOut", "(II)V"⟩ : Cond) ∈ gw := gw_p 21 (by decide +kernel) (by decide +kernel)
theorem kp_22 : (.selects "GroupBitmapsModel" ⟨"GroupBitmapsModel", "allBlocks", "()I"⟩ ⟨"GroupBitmapsModel", "allBlocks", "()I"⟩ : Cond) ∈ gw := gw_p 22 (by decide +kernel) (by decide +kernel)
theorem kp_23 : (.selects "GroupBitmapsModel" ⟨"GroupBitmapsModel", "freeBlocks", "(I)I"⟩ ⟨"GroupBitmapsModel", "freeBlocks", "(I)I"⟩ : Cond) ∈ gw := gw_p 23 (by decide +kernel) (by decide +kernel)
theorem kp_24 : (.selects "GroupBitmapsModel" ⟨"GroupBitmapsModel", "isBlock", "(I)Z"⟩ ⟨"GroupBitmapsModel", "isBlock", "(I)Z"⟩ : Cond) ∈ gw := gw_p 24 (by decide +kernel) (by decide +kernel)
theorem kp_25 : (.selects "GroupBitmapsModel" ⟨"GroupBitmapsModel", "areFree", "(II)Z"⟩ ⟨"GroupBitmapsModel", "areFree", "(II)Z"⟩ : Cond) ∈ gw := gw_p 25 (by decide +kernel) (by decide +kernel)
theorem kp_26 : (.selects "GroupBitmapsModel" ⟨"GroupBitmapsModel", "findRun", "(II)V"⟩ ⟨"GroupBitmapsModel", "findRun", "(II)V"⟩ : Cond) ∈ gw := gw_p 26 (by decide +kernel) (by decide +kernel)
theorem kp_27 : (.selects "GroupBitmapsModel" ⟨"GroupBitmapsModel", "mark", "(IIZ)V"⟩ ⟨"GroupBitmapsModel", "mark", "(IIZ)V"⟩ : Cond) ∈ gw := gw_p 27 (by decide +kernel) (by decide +kernel)
theorem kp_28 : (.selects "GroupBitmapsModel" ⟨"GroupBitmapsModel", "isFile", "(I)Z"⟩ ⟨"GroupBitmapsModel", "isFile", "(I)Z"⟩ : Cond) ∈ gw := gw_p 28 (by decide +kernel) (by decide +kernel)
theorem kp_29 : (.selects "GroupBitmapsModel" ⟨"GroupBitmapsModel", "allFiles", "()I"⟩ ⟨"GroupBitmapsModel", "allFiles", "()I"⟩ : Cond) ∈ gw := gw_p 29 (by decide +kernel) (by decide +kernel)
theorem kp_30 : (.selects "GroupBitmapsModel" ⟨"GroupBitmapsModel", "freeFiles", "(I)I"⟩ ⟨"GroupBitmapsModel", "freeFiles", "(I)I"⟩ : Cond) ∈ gw := gw_p 30 (by decide +kernel) (by decide +kernel)
theorem kp_31 : (.selects "GroupBitmapsModel" ⟨"GroupBitmapsModel", "groupOfFolder", "(IZ)I"⟩ ⟨"GroupBitmapsModel", "groupOfFolder", "(IZ)I"⟩ : Cond) ∈ gw := gw_p 31 (by decide +kernel) (by decide +kernel)
theorem kp_32 : (.selects "GroupBitmapsModel" ⟨"GroupBitmapsModel", "firstFree", "(I)I"⟩ ⟨"GroupBitmapsModel", "firstFree", "(I)I"⟩ : Cond) ∈ gw := gw_p 32 (by decide +kernel) (by decide +kernel)
theorem kp_33 : (.selects "GroupBitmapsModel" ⟨"GroupBitmapsModel", "groupOfPlain", "(I)I"⟩ ⟨"GroupBitmapsModel", "groupOfPlain", "(I)I"⟩ : Cond) ∈ gw := gw_p 33 (by decide +kernel) (by decide +kernel)
theorem kp_34 : (.selects "GroupBitmapsModel" ⟨"GroupBitmapsModel", "markFile", "(IIZZ)V"⟩ ⟨"GroupBitmapsModel", "markFile", "(IIZZ)V"⟩ : Cond) ∈ gw := gw_p 34 (by decide +kernel) (by decide +kernel)
theorem kp_35 : (.selects "GroupBitmapsModel" ⟨"GroupBitmapsModel", "descriptor", "(I)I"⟩ ⟨"GroupBitmapsModel", "descriptor", "(I)I"⟩ : Cond) ∈ gw := gw_p 35 (by decide +kernel) (by decide +kernel)
theorem ku_GB : ∀ w ∈ u_ws R_GB F_GB 5, w ∈ gw := by decide +kernel
theorem ku_GR : ∀ w ∈ u_ws R_GR F_GR 6, w ∈ gw := by decide +kernel
theorem ku_BM : ∀ w ∈ u_ws R_BM F_BM 5, w ∈ gw := by decide +kernel
theorem ku_MD : ∀ w ∈ u_ws R_MD F_MD 11, w ∈ gw := by decide +kernel
end
section
theorem d_BM_init_0 : decode b_BM_init 0 = .ok (.aload_n 0, 1) := by decide +kernel
theorem d_BM_init_1 : decode b_BM_init 1 = .ok (.invokespecial 1, 3) := by decide +kernel
theorem d_BM_init_4 : decode b_BM_init 4 = .ok (.aload_n 0, 1) := by decide +kernel
theorem d_BM_init_5 : decode b_BM_init 5 = .ok (.iload_n 1, 1) := by decide +kernel
theorem d_BM_init_6 : decode b_BM_init 6 = .ok (.putfield 7, 3) := by decide +kernel
theorem d_BM_init_9 : decode b_BM_init 9 = .ok (.aload_n 0, 1) := by decide +kernel
theorem d_BM_init_10 : decode b_BM_init 10 = .ok (.iload_n 2, 1) := by decide +kernel
theorem d_BM_init_11 : decode b_BM_init 11 = .ok (.newarray .boolean, 2) := by decide +kernel
theorem d_BM_init_13 : decode b_BM_init 13 = .ok (.putfield 13, 3) := by decide +kernel
theorem d_BM_init_16 : decode b_BM_init 16 = .ok (.return_, 1) := by decide +kernel
theorem d_BM_layOut_0 : decode b_BM_layOut 0 = .ok (.iconst 0, 1) := by decide +kernel
theorem d_BM_layOut_1 : decode b_BM_layOut 1 = .ok (.istore_n 3, 1) := by decide +kernel
theorem d_BM_layOut_2 : decode b_BM_layOut 2 = .ok (.iload_n 3, 1) := by decide +kernel
theorem d_BM_layOut_3 : decode b_BM_layOut 3 = .ok (.aload_n 0, 1) := by decide +kernel
theorem d_BM_layOut_4 : decode b_BM_layOut 4 = .ok (.getfield 13, 3) := by decide +kernel
theorem d_BM_layOut_7 : decode b_BM_layOut 7 = .ok (.arraylength, 1) := by decide +kernel
theorem d_BM_layOut_8 : decode b_BM_layOut 8 = .ok (.if_icmp .ge 30, 3) := by decide +kernel
theorem d_BM_layOut_11 : decode b_BM_layOut 11 = .ok (.aload_n 0, 1) := by decide +kernel
theorem d_BM_layOut_12 : decode b_BM_layOut 12 = .ok (.getfield 13, 3) := by decide +kernel
theorem d_BM_layOut_15 : decode b_BM_layOut 15 = .ok (.iload_n 3, 1) := by decide +kernel
theorem d_BM_layOut_16 : decode b_BM_layOut 16 = .ok (.iload_n 3, 1) := by decide +kernel
theorem d_BM_layOut_17 : decode b_BM_layOut 17 = .ok (.iload_n 2, 1) := by decide +kernel
theorem d_BM_layOut_18 : decode b_BM_layOut 18 = .ok (.if_icmp .lt 8, 3) := by decide +kernel
theorem d_BM_layOut_21 : decode b_BM_layOut 21 = .ok (.iload_n 3, 1) := by decide +kernel
theorem d_BM_layOut_22 : decode b_BM_layOut 22 = .ok (.iload_n 1, 1) := by decide +kernel
theorem d_BM_layOut_23 : decode b_BM_layOut 23 = .ok (.if_icmp .lt 7, 3) := by decide +kernel
theorem d_BM_layOut_26 : decode b_BM_layOut 26 = .ok (.iconst 1, 1) := by decide +kernel
theorem d_BM_layOut_27 : decode b_BM_layOut 27 = .ok (.goto 4, 3) := by decide +kernel
theorem d_BM_layOut_30 : decode b_BM_layOut 30 = .ok (.iconst 0, 1) := by decide +kernel
theorem d_BM_layOut_31 : decode b_BM_layOut 31 = .ok (.bastore, 1) := by decide +kernel
theorem d_BM_layOut_32 : decode b_BM_layOut 32 = .ok (.iinc 3 1, 3) := by decide +kernel
theorem d_BM_layOut_35 : decode b_BM_layOut 35 = .ok (.goto (-33), 3) := by decide +kernel
theorem d_BM_layOut_38 : decode b_BM_layOut 38 = .ok (.aload_n 0, 1) := by decide +kernel
theorem d_BM_layOut_39 : decode b_BM_layOut 39 = .ok (.iload_n 1, 1) := by decide +kernel
theorem d_BM_layOut_40 : decode b_BM_layOut 40 = .ok (.putfield 17, 3) := by decide +kernel
theorem d_BM_layOut_43 : decode b_BM_layOut 43 = .ok (.aload_n 0, 1) := by decide +kernel
theorem d_BM_layOut_44 : decode b_BM_layOut 44 = .ok (.iload_n 1, 1) := by decide +kernel
theorem d_BM_layOut_45 : decode b_BM_layOut 45 = .ok (.iload_n 2, 1) := by decide +kernel
theorem d_BM_layOut_46 : decode b_BM_layOut 46 = .ok (.isub, 1) := by decide +kernel
theorem d_BM_layOut_47 : decode b_BM_layOut 47 = .ok (.putfield 20, 3) := by decide +kernel
theorem d_BM_layOut_50 : decode b_BM_layOut 50 = .ok (.aload_n 0, 1) := by decide +kernel
theorem d_BM_layOut_51 : decode b_BM_layOut 51 = .ok (.iconst 1, 1) := by decide +kernel
theorem d_BM_layOut_52 : decode b_BM_layOut 52 = .ok (.putfield 23, 3) := by decide +kernel
theorem d_BM_layOut_55 : decode b_BM_layOut 55 = .ok (.return_, 1) := by decide +kernel
theorem d_BM_isSet_0 : decode b_BM_isSet 0 = .ok (.iload_n 1, 1) := by decide +kernel
theorem d_BM_isSet_1 : decode b_BM_isSet 1 = .ok (.ifCond .lt 21, 3) := by decide +kernel
theorem d_BM_isSet_4 : decode b_BM_isSet 4 = .ok (.iload_n 1, 1) := by decide +kernel
theorem d_BM_isSet_5 : decode b_BM_isSet 5 = .ok (.aload_n 0, 1) := by decide +kernel
theorem d_BM_isSet_6 : decode b_BM_isSet 6 = .ok (.getfield 13, 3) := by decide +kernel
theorem d_BM_isSet_9 : decode b_BM_isSet 9 = .ok (.arraylength, 1) := by decide +kernel
theorem d_BM_isSet_10 : decode b_BM_isSet 10 = .ok (.if_icmp .ge 12, 3) := by decide +kernel
theorem d_BM_isSet_13 : decode b_BM_isSet 13 = .ok (.aload_n 0, 1) := by decide +kernel
theorem d_BM_isSet_14 : decode b_BM_isSet 14 = .ok (.getfield 13, 3) := by decide +kernel
theorem d_BM_isSet_17 : decode b_BM_isSet 17 = .ok (.iload_n 1, 1) := by decide +kernel
theorem d_BM_isSet_18 : decode b_BM_isSet 18 = .ok (.baload, 1) := by decide +kernel
theorem d_BM_isSet_19 : decode b_BM_isSet 19 = .ok (.ifCond .eq 7, 3) := by decide +kernel
theorem d_BM_isSet_22 : decode b_BM_isSet 22 = .ok (.iconst 1, 1) := by decide +kernel
theorem d_BM_isSet_23 : decode b_BM_isSet 23 = .ok (.goto 4, 3) := by decide +kernel
theorem d_BM_isSet_26 : decode b_BM_isSet 26 = .ok (.iconst 0, 1) := by decide +kernel
theorem d_BM_isSet_27 : decode b_BM_isSet 27 = .ok (.ireturn, 1) := by decide +kernel
theorem d_BM_occupy_0 : decode b_BM_occupy 0 = .ok (.aload_n 0, 1) := by decide +kernel
theorem d_BM_occupy_1 : decode b_BM_occupy 1 = .ok (.iload_n 1, 1) := by decide +kernel
theorem d_BM_occupy_2 : decode b_BM_occupy 2 = .ok (.invokevirtual 27, 3) := by decide +kernel
theorem d_BM_occupy_5 : decode b_BM_occupy 5 = .ok (.ifCond .ne 25, 3) := by decide +kernel
theorem d_BM_occupy_8 : decode b_BM_occupy 8 = .ok (.aload_n 0, 1) := by decide +kernel
theorem d_BM_occupy_9 : decode b_BM_occupy 9 = .ok (.getfield 13, 3) := by decide +kernel
theorem d_BM_occupy_12 : decode b_BM_occupy 12 = .ok (.iload_n 1, 1) := by decide +kernel
theorem d_BM_occupy_13 : decode b_BM_occupy 13 = .ok (.iconst 1, 1) := by decide +kernel
theorem d_BM_occupy_14 : decode b_BM_occupy 14 = .ok (.bastore, 1) := by decide +kernel
theorem d_BM_occupy_15 : decode b_BM_occupy 15 = .ok (.aload_n 0, 1) := by decide +kernel
theorem d_BM_occupy_16 : decode b_BM_occupy 16 = .ok (.dup, 1) := by decide +kernel
theorem d_BM_occupy_17 : decode b_BM_occupy 17 = .ok (.getfield 20, 3) := by decide +kernel
theorem d_BM_occupy_20 : decode b_BM_occupy 20 = .ok (.iconst 1, 1) := by decide +kernel
theorem d_BM_occupy_21 : decode b_BM_occupy 21 = .ok (.isub, 1) := by decide +kernel
theorem d_BM_occupy_22 : decode b_BM_occupy 22 = .ok (.putfield 20, 3) := by decide +kernel
theorem d_BM_occupy_25 : decode b_BM_occupy 25 = .ok (.aload_n 0, 1) := by decide +kernel
theorem d_BM_occupy_26 : decode b_BM_occupy 26 = .ok (.iconst 1, 1) := by decide +kernel
theorem d_BM_occupy_27 : decode b_BM_occupy 27 = .ok (.putfield 23, 3) := by decide +kernel
theorem d_BM_occupy_30 : decode b_BM_occupy 30 = .ok (.return_, 1) := by decide +kernel
theorem d_BM_free_0 : decode b_BM_free 0 = .ok (.iload_n 1, 1) := by decide +kernel
theorem d_BM_free_1 : decode b_BM_free 1 = .ok (.ifCond .lt 42, 3) := by decide +kernel
theorem d_BM_free_4 : decode b_BM_free 4 = .ok (.iload_n 1, 1) := by decide +kernel
theorem d_BM_free_5 : decode b_BM_free 5 = .ok (.aload_n 0, 1) := by decide +kernel
theorem d_BM_free_6 : decode b_BM_free 6 = .ok (.getfield 17, 3) := by decide +kernel
theorem d_BM_free_9 : decode b_BM_free 9 = .ok (.if_icmp .ge 34, 3) := by decide +kernel
theorem d_BM_free_12 : decode b_BM_free 12 = .ok (.aload_n 0, 1) := by decide +kernel
theorem d_BM_free_13 : decode b_BM_free 13 = .ok (.getfield 13, 3) := by decide +kernel
theorem d_BM_free_16 : decode b_BM_free 16 = .ok (.iload_n 1, 1) := by decide +kernel
theorem d_BM_free_17 : decode b_BM_free 17 = .ok (.baload, 1) := by decide +kernel
theorem d_BM_free_18 : decode b_BM_free 18 = .ok (.ifCond .eq 25, 3) := by decide +kernel
theorem d_BM_free_21 : decode b_BM_free 21 = .ok (.aload_n 0, 1) := by decide +kernel
theorem d_BM_free_22 : decode b_BM_free 22 = .ok (.getfield 13, 3) := by decide +kernel
theorem d_BM_free_25 : decode b_BM_free 25 = .ok (.iload_n 1, 1) := by decide +kernel
theorem d_BM_free_26 : decode b_BM_free 26 = .ok (.iconst 0, 1) := by decide +kernel
theorem d_BM_free_27 : decode b_BM_free 27 = .ok (.bastore, 1) := by decide +kernel
theorem d_BM_free_28 : decode b_BM_free 28 = .ok (.aload_n 0, 1) := by decide +kernel
theorem d_BM_free_29 : decode b_BM_free 29 = .ok (.dup, 1) := by decide +kernel
theorem d_BM_free_30 : decode b_BM_free 30 = .ok (.getfield 20, 3) := by decide +kernel
theorem d_BM_free_33 : decode b_BM_free 33 = .ok (.iconst 1, 1) := by decide +kernel
theorem d_BM_free_34 : decode b_BM_free 34 = .ok (.iadd, 1) := by decide +kernel
theorem d_BM_free_35 : decode b_BM_free 35 = .ok (.putfield 20, 3) := by decide +kernel
theorem d_BM_free_38 : decode b_BM_free 38 = .ok (.aload_n 0, 1) := by decide +kernel
theorem d_BM_free_39 : decode b_BM_free 39 = .ok (.iconst 1, 1) := by decide +kernel
theorem d_BM_free_40 : decode b_BM_free 40 = .ok (.putfield 23, 3) := by decide +kernel
theorem d_BM_free_43 : decode b_BM_free 43 = .ok (.return_, 1) := by decide +kernel
theorem d_BM_byteAt_0 : decode b_BM_byteAt 0 = .ok (.iconst 0, 1) := by decide +kernel
theorem d_BM_byteAt_1 : decode b_BM_byteAt 1 = .ok (.istore_n 2, 1) := by decide +kernel
theorem d_BM_byteAt_2 : decode b_BM_byteAt 2 = .ok (.iconst 0, 1) := by decide +kernel
theorem d_BM_byteAt_3 : decode b_BM_byteAt 3 = .ok (.istore_n 3, 1) := by decide +kernel
theorem d_BM_byteAt_4 : decode b_BM_byteAt 4 = .ok (.iload_n 3, 1) := by decide +kernel
theorem d_BM_byteAt_5 : decode b_BM_byteAt 5 = .ok (.bipush 8, 2) := by decide +kernel
theorem d_BM_byteAt_7 : decode b_BM_byteAt 7 = .ok (.if_icmp .ge 28, 3) := by decide +kernel
theorem d_BM_byteAt_10 : decode b_BM_byteAt 10 = .ok (.aload_n 0, 1) := by decide +kernel
theorem d_BM_byteAt_11 : decode b_BM_byteAt 11 = .ok (.bipush 8, 2) := by decide +kernel
theorem d_BM_byteAt_13 : decode b_BM_byteAt 13 = .ok (.iload_n 1, 1) := by decide +kernel
theorem d_BM_byteAt_14 : decode b_BM_byteAt 14 = .ok (.imul, 1) := by decide +kernel
theorem d_BM_byteAt_15 : decode b_BM_byteAt 15 = .ok (.iload_n 3, 1) := by decide +kernel
theorem d_BM_byteAt_16 : decode b_BM_byteAt 16 = .ok (.iadd, 1) := by decide +kernel
theorem d_BM_byteAt_17 : decode b_BM_byteAt 17 = .ok (.invokevirtual 27, 3) := by decide +kernel
theorem d_BM_byteAt_20 : decode b_BM_byteAt 20 = .ok (.ifCond .eq 9, 3) := by decide +kernel
theorem d_BM_byteAt_23 : decode b_BM_byteAt 23 = .ok (.iload_n 2, 1) := by decide +kernel
theorem d_BM_byteAt_24 : decode b_BM_byteAt 24 = .ok (.iconst 1, 1) := by decide +kernel
theorem d_BM_byteAt_25 : decode b_BM_byteAt 25 = .ok (.iload_n 3, 1) := by decide +kernel
theorem d_BM_byteAt_26 : decode b_BM_byteAt 26 = .ok (.ishl, 1) := by decide +kernel
theorem d_BM_byteAt_27 : decode b_BM_byteAt 27 = .ok (.ior, 1) := by decide +kernel
theorem d_BM_byteAt_28 : decode b_BM_byteAt 28 = .ok (.istore_n 2, 1) := by decide +kernel
theorem d_BM_byteAt_29 : decode b_BM_byteAt 29 = .ok (.iinc 3 1, 3) := by decide +kernel
theorem d_BM_byteAt_32 : decode b_BM_byteAt 32 = .ok (.goto (-28), 3) := by decide +kernel
theorem d_BM_byteAt_35 : decode b_BM_byteAt 35 = .ok (.iload_n 2, 1) := by decide +kernel
theorem d_BM_byteAt_36 : decode b_BM_byteAt 36 = .ok (.ireturn, 1) := by decide +kernel
theorem d_BM_leastFree_0 : decode b_BM_leastFree 0 = .ok (.iconst 0, 1) := by decide +kernel
theorem d_BM_leastFree_1 : decode b_BM_leastFree 1 = .ok (.istore_n 1, 1) := by decide +kernel
theorem d_BM_leastFree_2 : decode b_BM_leastFree 2 = .ok (.iload_n 1, 1) := by decide +kernel
theorem d_BM_leastFree_3 : decode b_BM_leastFree 3 = .ok (.aload_n 0, 1) := by decide +kernel
theorem d_BM_leastFree_4 : decode b_BM_leastFree 4 = .ok (.getfield 17, 3) := by decide +kernel
theorem d_BM_leastFree_7 : decode b_BM_leastFree 7 = .ok (.if_icmp .ge 19, 3) := by decide +kernel
theorem d_BM_leastFree_10 : decode b_BM_leastFree 10 = .ok (.aload_n 0, 1) := by decide +kernel
theorem d_BM_leastFree_11 : decode b_BM_leastFree 11 = .ok (.iload_n 1, 1) := by decide +kernel
theorem d_BM_leastFree_12 : decode b_BM_leastFree 12 = .ok (.invokevirtual 27, 3) := by decide +kernel
theorem d_BM_leastFree_15 : decode b_BM_leastFree 15 = .ok (.ifCond .ne 5, 3) := by decide +kernel
theorem d_BM_leastFree_18 : decode b_BM_leastFree 18 = .ok (.iload_n 1, 1) := by decide +kernel
theorem d_BM_leastFree_19 : decode b_BM_leastFree 19 = .ok (.ireturn, 1) := by decide +kernel
theorem d_BM_leastFree_20 : decode b_BM_leastFree 20 = .ok (.iinc 1 1, 3) := by decide +kernel
theorem d_BM_leastFree_23 : decode b_BM_leastFree 23 = .ok (.goto (-21), 3) := by decide +kernel
theorem d_BM_leastFree_26 : decode b_BM_leastFree 26 = .ok (.iconst (-1), 1) := by decide +kernel
theorem d_BM_leastFree_27 : decode b_BM_leastFree 27 = .ok (.ireturn, 1) := by decide +kernel
theorem d_BM_areFree_0 : decode b_BM_areFree 0 = .ok (.iload_n 1, 1) := by decide +kernel
theorem d_BM_areFree_1 : decode b_BM_areFree 1 = .ok (.istore_n 3, 1) := by decide +kernel
theorem d_BM_areFree_2 : decode b_BM_areFree 2 = .ok (.iload_n 3, 1) := by decide +kernel
theorem d_BM_areFree_3 : decode b_BM_areFree 3 = .ok (.iload_n 1, 1) := by decide +kernel
theorem d_BM_areFree_4 : decode b_BM_areFree 4 = .ok (.iload_n 2, 1) := by decide +kernel
theorem d_BM_areFree_5 : decode b_BM_areFree 5 = .ok (.iadd, 1) := by decide +kernel
theorem d_BM_areFree_6 : decode b_BM_areFree 6 = .ok (.if_icmp .ge 19, 3) := by decide +kernel
theorem d_BM_areFree_9 : decode b_BM_areFree 9 = .ok (.aload_n 0, 1) := by decide +kernel
theorem d_BM_areFree_10 : decode b_BM_areFree 10 = .ok (.iload_n 3, 1) := by decide +kernel
theorem d_BM_areFree_11 : decode b_BM_areFree 11 = .ok (.invokevirtual 27, 3) := by decide +kernel
theorem d_BM_areFree_14 : decode b_BM_areFree 14 = .ok (.ifCond .eq 5, 3) := by decide +kernel
theorem d_BM_areFree_17 : decode b_BM_areFree 17 = .ok (.iconst 0, 1) := by decide +kernel
theorem d_BM_areFree_18 : decode b_BM_areFree 18 = .ok (.ireturn, 1) := by decide +kernel
theorem d_BM_areFree_19 : decode b_BM_areFree 19 = .ok (.iinc 3 1, 3) := by decide +kernel
theorem d_BM_areFree_22 : decode b_BM_areFree 22 = .ok (.goto (-20), 3) := by decide +kernel
theorem d_BM_areFree_25 : decode b_BM_areFree 25 = .ok (.iconst 1, 1) := by decide +kernel
theorem d_BM_areFree_26 : decode b_BM_areFree 26 = .ok (.ireturn, 1) := by decide +kernel
theorem d_BM_longestRun_0 : decode b_BM_longestRun 0 = .ok (.iconst 0, 1) := by decide +kernel
theorem d_BM_longestRun_1 : decode b_BM_longestRun 1 = .ok (.istore_n 1, 1) := by decide +kernel
theorem d_BM_longestRun_2 : decode b_BM_longestRun 2 = .ok (.iconst 0, 1) := by decide +kernel
theorem d_BM_longestRun_3 : decode b_BM_longestRun 3 = .ok (.istore_n 2, 1) := by decide +kernel
theorem d_BM_longestRun_4 : decode b_BM_longestRun 4 = .ok (.iconst 0, 1) := by decide +kernel
theorem d_BM_longestRun_5 : decode b_BM_longestRun 5 = .ok (.istore_n 3, 1) := by decide +kernel
theorem d_BM_longestRun_6 : decode b_BM_longestRun 6 = .ok (.iload_n 3, 1) := by decide +kernel
theorem d_BM_longestRun_7 : decode b_BM_longestRun 7 = .ok (.aload_n 0, 1) := by decide +kernel
theorem d_BM_longestRun_8 : decode b_BM_longestRun 8 = .ok (.getfield 17, 3) := by decide +kernel
theorem d_BM_longestRun_11 : decode b_BM_longestRun 11 = .ok (.if_icmp .ge 31, 3) := by decide +kernel
theorem d_BM_longestRun_14 : decode b_BM_longestRun 14 = .ok (.aload_n 0, 1) := by decide +kernel
theorem d_BM_longestRun_15 : decode b_BM_longestRun 15 = .ok (.iload_n 3, 1) := by decide +kernel
theorem d_BM_longestRun_16 : decode b_BM_longestRun 16 = .ok (.invokevirtual 27, 3) := by decide +kernel
theorem d_BM_longestRun_19 : decode b_BM_longestRun 19 = .ok (.ifCond .eq 7, 3) := by decide +kernel
theorem d_BM_longestRun_22 : decode b_BM_longestRun 22 = .ok (.iconst 0, 1) := by decide +kernel
theorem d_BM_longestRun_23 : decode b_BM_longestRun 23 = .ok (.goto 6, 3) := by decide +kernel
theorem d_BM_longestRun_26 : decode b_BM_longestRun 26 = .ok (.iload_n 2, 1) := by decide +kernel
theorem d_BM_longestRun_27 : decode b_BM_longestRun 27 = .ok (.iconst 1, 1) := by decide +kernel
theorem d_BM_longestRun_28 : decode b_BM_longestRun 28 = .ok (.iadd, 1) := by decide +kernel
theorem d_BM_longestRun_29 : decode b_BM_longestRun 29 = .ok (.istore_n 2, 1) := by decide +kernel
theorem d_BM_longestRun_30 : decode b_BM_longestRun 30 = .ok (.iload_n 1, 1) := by decide +kernel
theorem d_BM_longestRun_31 : decode b_BM_longestRun 31 = .ok (.iload_n 2, 1) := by decide +kernel
theorem d_BM_longestRun_32 : decode b_BM_longestRun 32 = .ok (.invokestatic 31, 3) := by decide +kernel
theorem d_BM_longestRun_35 : decode b_BM_longestRun 35 = .ok (.istore_n 1, 1) := by decide +kernel
theorem d_BM_longestRun_36 : decode b_BM_longestRun 36 = .ok (.iinc 3 1, 3) := by decide +kernel
theorem d_BM_longestRun_39 : decode b_BM_longestRun 39 = .ok (.goto (-33), 3) := by decide +kernel
theorem d_BM_longestRun_42 : decode b_BM_longestRun 42 = .ok (.iload_n 1, 1) := by decide +kernel
theorem d_BM_longestRun_43 : decode b_BM_longestRun 43 = .ok (.ireturn, 1) := by decide +kernel
theorem d_BM_shortestRun_0 : decode b_BM_shortestRun 0 = .ok (.iconst (-1), 1) := by decide +kernel
theorem d_BM_shortestRun_1 : decode b_BM_shortestRun 1 = .ok (.istore_n 2, 1) := by decide +kernel
theorem d_BM_shortestRun_2 : decode b_BM_shortestRun 2 = .ok (.aload_n 0, 1) := by decide +kernel
theorem d_BM_shortestRun_3 : decode b_BM_shortestRun 3 = .ok (.getfield 17, 3) := by decide +kernel
theorem d_BM_shortestRun_6 : decode b_BM_shortestRun 6 = .ok (.iconst 1, 1) := by decide +kernel
theorem d_BM_shortestRun_7 : decode b_BM_shortestRun 7 = .ok (.iadd, 1) := by decide +kernel
theorem d_BM_shortestRun_8 : decode b_BM_shortestRun 8 = .ok (.istore_n 3, 1) := by decide +kernel
theorem d_BM_shortestRun_9 : decode b_BM_shortestRun 9 = .ok (.iconst 0, 1) := by decide +kernel
theorem d_BM_shortestRun_10 : decode b_BM_shortestRun 10 = .ok (.istore 4, 2) := by decide +kernel
theorem d_BM_shortestRun_12 : decode b_BM_shortestRun 12 = .ok (.iconst 0, 1) := by decide +kernel
theorem d_BM_shortestRun_13 : decode b_BM_shortestRun 13 = .ok (.istore 5, 2) := by decide +kernel
theorem d_BM_shortestRun_15 : decode b_BM_shortestRun 15 = .ok (.iload 5, 2) := by decide +kernel
theorem d_BM_shortestRun_17 : decode b_BM_shortestRun 17 = .ok (.aload_n 0, 1) := by decide +kernel
theorem d_BM_shortestRun_18 : decode b_BM_shortestRun 18 = .ok (.getfield 17, 3) := by decide +kernel
theorem d_BM_shortestRun_21 : decode b_BM_shortestRun 21 = .ok (.if_icmp .ge 62, 3) := by decide +kernel
theorem d_BM_shortestRun_24 : decode b_BM_shortestRun 24 = .ok (.aload_n 0, 1) := by decide +kernel
theorem d_BM_shortestRun_25 : decode b_BM_shortestRun 25 = .ok (.iload 5, 2) := by decide +kernel
theorem d_BM_shortestRun_27 : decode b_BM_shortestRun 27 = .ok (.invokevirtual 27, 3) := by decide +kernel
theorem d_BM_shortestRun_30 : decode b_BM_shortestRun 30 = .ok (.ifCond .eq 7, 3) := by decide +kernel
theorem d_BM_shortestRun_33 : decode b_BM_shortestRun 33 = .ok (.iconst 0, 1) := by decide +kernel
theorem d_BM_shortestRun_34 : decode b_BM_shortestRun 34 = .ok (.goto 7, 3) := by decide +kernel
theorem d_BM_shortestRun_37 : decode b_BM_shortestRun 37 = .ok (.iload 4, 2) := by decide +kernel
theorem d_BM_shortestRun_39 : decode b_BM_shortestRun 39 = .ok (.iconst 1, 1) := by decide +kernel
theorem d_BM_shortestRun_40 : decode b_BM_shortestRun 40 = .ok (.iadd, 1) := by decide +kernel
theorem d_BM_shortestRun_41 : decode b_BM_shortestRun 41 = .ok (.istore 4, 2) := by decide +kernel
theorem d_BM_shortestRun_43 : decode b_BM_shortestRun 43 = .ok (.iload 4, 2) := by decide +kernel
theorem d_BM_shortestRun_45 : decode b_BM_shortestRun 45 = .ok (.iload_n 1, 1) := by decide +kernel
theorem d_BM_shortestRun_46 : decode b_BM_shortestRun 46 = .ok (.if_icmp .lt 31, 3) := by decide +kernel
theorem d_BM_shortestRun_49 : decode b_BM_shortestRun 49 = .ok (.iload 4, 2) := by decide +kernel
theorem d_BM_shortestRun_51 : decode b_BM_shortestRun 51 = .ok (.iload_n 3, 1) := by decide +kernel
theorem d_BM_shortestRun_52 : decode b_BM_shortestRun 52 = .ok (.if_icmp .ge 25, 3) := by decide +kernel
theorem d_BM_shortestRun_55 : decode b_BM_shortestRun 55 = .ok (.aload_n 0, 1) := by decide +kernel
theorem d_BM_shortestRun_56 : decode b_BM_shortestRun 56 = .ok (.iload 5, 2) := by decide +kernel
theorem d_BM_shortestRun_58 : decode b_BM_shortestRun 58 = .ok (.iconst 1, 1) := by decide +kernel
theorem d_BM_shortestRun_59 : decode b_BM_shortestRun 59 = .ok (.iadd, 1) := by decide +kernel
theorem d_BM_shortestRun_60 : decode b_BM_shortestRun 60 = .ok (.invokevirtual 27, 3) := by decide +kernel
theorem d_BM_shortestRun_63 : decode b_BM_shortestRun 63 = .ok (.ifCond .eq 14, 3) := by decide +kernel
theorem d_BM_shortestRun_66 : decode b_BM_shortestRun 66 = .ok (.iload 4, 2) := by decide +kernel
theorem d_BM_shortestRun_68 : decode b_BM_shortestRun 68 = .ok (.istore_n 3, 1) := by decide +kernel
theorem d_BM_shortestRun_69 : decode b_BM_shortestRun 69 = .ok (.iload 5, 2) := by decide +kernel
theorem d_BM_shortestRun_71 : decode b_BM_shortestRun 71 = .ok (.iconst 1, 1) := by decide +kernel
theorem d_BM_shortestRun_72 : decode b_BM_shortestRun 72 = .ok (.iadd, 1) := by decide +kernel
theorem d_BM_shortestRun_73 : decode b_BM_shortestRun 73 = .ok (.iload 4, 2) := by decide +kernel
theorem d_BM_shortestRun_75 : decode b_BM_shortestRun 75 = .ok (.isub, 1) := by decide +kernel
theorem d_BM_shortestRun_76 : decode b_BM_shortestRun 76 = .ok (.istore_n 2, 1) := by decide +kernel
theorem d_BM_shortestRun_77 : decode b_BM_shortestRun 77 = .ok (.iinc 5 1, 3) := by decide +kernel
theorem d_BM_shortestRun_80 : decode b_BM_shortestRun 80 = .ok (.goto (-65), 3) := by decide +kernel
theorem d_BM_shortestRun_83 : decode b_BM_shortestRun 83 = .ok (.iload_n 2, 1) := by decide +kernel
theorem d_BM_shortestRun_84 : decode b_BM_shortestRun 84 = .ok (.ireturn, 1) := by decide +kernel
theorem d_BM_forgetTold_0 : decode b_BM_forgetTold 0 = .ok (.aload_n 0, 1) := by decide +kernel
theorem d_BM_forgetTold_1 : decode b_BM_forgetTold 1 = .ok (.getfield 23, 3) := by decide +kernel
theorem d_BM_forgetTold_4 : decode b_BM_forgetTold 4 = .ok (.ifCond .eq 7, 3) := by decide +kernel
theorem d_BM_forgetTold_7 : decode b_BM_forgetTold 7 = .ok (.iconst 1, 1) := by decide +kernel
theorem d_BM_forgetTold_8 : decode b_BM_forgetTold 8 = .ok (.goto 4, 3) := by decide +kernel
theorem d_BM_forgetTold_11 : decode b_BM_forgetTold 11 = .ok (.iconst 0, 1) := by decide +kernel
theorem d_BM_forgetTold_12 : decode b_BM_forgetTold 12 = .ok (.istore_n 1, 1) := by decide +kernel
theorem d_BM_forgetTold_13 : decode b_BM_forgetTold 13 = .ok (.aload_n 0, 1) := by decide +kernel
theorem d_BM_forgetTold_14 : decode b_BM_forgetTold 14 = .ok (.iconst 0, 1) := by decide +kernel
theorem d_BM_forgetTold_15 : decode b_BM_forgetTold 15 = .ok (.putfield 23, 3) := by decide +kernel
theorem d_BM_forgetTold_18 : decode b_BM_forgetTold 18 = .ok (.iload_n 1, 1) := by decide +kernel
theorem d_BM_forgetTold_19 : decode b_BM_forgetTold 19 = .ok (.ireturn, 1) := by decide +kernel
end
section
/-! ===== rows over naturals: nI n on the stack ===== -/
def bI (b : Bool) : Int32 := if b = true then 1 else 0
theorem bI_t : bI true = 1 := rfl
theorem bI_f : bI false = 0 := rfl
theorem bI_n (b : Bool) : narrow .boolean (.int (bI b)) = .int (bI b) := by cases b <;> decide
theorem bI_fit (b : Bool) : fits .boolean (.int (bI b)) = true := by cases b <;> decide
theorem bI_eq0 {b : Bool} : bI b = 0 ↔ b = false := by cases b <;> decide
theorem bI_inj {a b : Bool} : bI a = bI b ↔ a = b := by cases a <;> cases b <;> decide
section NROWS
variable {p : Program} {l : Launch} {e : Env} {R : Room} {s : State} {m : MethodId} {args : Array Value} {below : List Frame} {meth : Method} {c : Code} {H : Heap} {locs : List Loc} {cells slots : Nat} {Q : State → Prop}
variable {cc : ByteArray} {pc : Nat} {ls : Array Slot} {rest : List Value}
theorem r_iadd (hx : p.tables.exec = Jvm.exec) (hb : c.code = cc) {a b : Nat} (d : decode cc pc = .ok (.iadd, 1)) (k : W p l e R s m args below meth c H locs cells slots Q (F0 m (pc + 1) ls (.int (nI (a + b)) :: rest))) : W p l e R s m args below meth c H locs cells slots Q (F0 m pc ls (.int (nI b) :: .int (nI a) :: rest)) := lv_iadd hx hb d (by rw [nI_add]; exact k)
theorem r_isub (hx : p.tables.exec = Jvm.exec) (hb : c.code = cc) {a b : Nat} (h : b ≤ a) (d : decode cc pc = .ok (.isub, 1)) (k : W p l e R s m args below meth c H locs cells slots Q (F0 m (pc + 1) ls (.int (nI (a - b)) :: rest))) : W p l e R s m args below meth c H locs cells slots Q (F0 m pc ls (.int (nI b) :: .int (nI a) :: rest)) := lv_isub hx hb d (by rw [pk_sub h]; exact k)
theorem r_imul (hx : p.tables.exec = Jvm.exec) (hb : c.code = cc) {a b : Nat} (d : decode cc pc = .ok (.imul, 1)) (k : W p l e R s m args below meth c H locs cells slots Q (F0 m (pc + 1) ls (.int (nI (a * b)) :: rest))) : W p l e R s m args below meth c H locs cells slots Q (F0 m pc ls (.int (nI b) :: .int (nI a) :: rest)) := lv_imul hx hb d (by rw [pk_mul]; exact k)
theorem r_idiv (hx : p.tables.exec = Jvm.exec) (hb : c.code = cc) {a b : Nat} (ha : a < 2 ^ 31) (h0 : 0 < b) (hb2 : b < 2 ^ 31) (d : decode cc pc = .ok (.idiv, 1)) (k : W p l e R s m args below meth c H locs cells slots Q (F0 m (pc + 1) ls (.int (nI (a / b)) :: rest))) : W p l e R s m args below meth c H locs cells slots Q (F0 m pc ls (.int (nI b) :: .int (nI a) :: rest)) := lv_idiv hx hb d (nI_ne0 h0 hb2) (by rw [pk_div ha h0 hb2]; exact k)
theorem r_irem (hx : p.tables.exec = Jvm.exec) (hb : c.code = cc) {a b : Nat} (ha : a < 2 ^ 31) (h0 : 0 < b) (hb2 : b < 2 ^ 31) (d : decode cc pc = .ok (.irem, 1)) (k : W p l e R s m args below meth c H locs cells slots Q (F0 m (pc + 1) ls (.int (nI (a % b)) :: rest))) : W p l e R s m args below meth c H locs cells slots Q (F0 m pc ls (.int (nI b) :: .int (nI a) :: rest)) := lv_irem hx hb d (nI_ne0 h0 hb2) (by rw [pk_rem ha h0 hb2]; exact k)
theorem r_lt (hx : p.tables.exec = Jvm.exec) (hb : c.code = cc) {a b : Nat} {off : Int} {tgt : Nat} (d : decode cc pc = .ok (.if_icmp .lt off, 3)) (ht : (pc : Int) + off = (tgt : Int)) (ha : a < 2 ^ 31) (hb2 : b < 2 ^ 31) (k1 : a < b → W p l e R s m args below meth c H locs cells slots Q (F0 m tgt ls rest)) (k2 : b ≤ a → W p l e R s m args below meth c H locs cells slots Q (F0 m (pc + 3) ls rest)) : W p l e R s m args below meth c H locs cells slots Q (F0 m pc ls (.int (nI b) :: .int (nI a) :: rest)) := lv_icmp_lt hx hb d ht (fun h => k1 ((nI_ltI ha hb2).mp h)) (fun h => k2 (Nat.le_of_not_lt (fun q => h ((nI_ltI ha hb2).mpr q))))
theorem r_ge (hx : p.tables.exec = Jvm.exec) (hb : c.code = cc) {a b : Nat} {off : Int} {tgt : Nat} (d : decode cc pc = .ok (.if_icmp .ge off, 3)) (ht : (pc : Int) + off = (tgt : Int)) (ha : a < 2 ^ 31) (hb2 : b < 2 ^ 31) (k1 : b ≤ a → W p l e R s m args below meth c H locs cells slots Q (F0 m tgt ls rest)) (k2 : a < b → W p l e R s m args below meth c H locs cells slots Q (F0 m (pc + 3) ls rest)) : W p l e R s m args below meth c H locs cells slots Q (F0 m pc ls (.int (nI b) :: .int (nI a) :: rest)) := lv_icmp_ge hx hb d ht (fun h => k1 ((nI_leI hb2 ha).mp h)) (fun h => k2 (Nat.lt_of_not_le (fun q => h ((nI_leI hb2 ha).mpr q))))
theorem r_gt (hx : p.tables.exec = Jvm.exec) (hb : c.code = cc) {a b : Nat} {off : Int} {tgt : Nat} (d : decode cc pc = .ok (.if_icmp .gt off, 3)) (ht : (pc : Int) + off = (tgt : Int)) (ha : a < 2 ^ 31) (hb2 : b < 2 ^ 31) (k1 : b < a → W p l e R s m args below meth c H locs cells slots Q (F0 m tgt ls rest)) (k2 : a ≤ b → W p l e R s m args below meth c H locs cells slots Q (F0 m (pc + 3) ls rest)) : W p l e R s m args below meth c H locs cells slots Q (F0 m pc ls (.int (nI b) :: .int (nI a) :: rest)) := lv_icmp_gt hx hb d ht (fun h => k1 ((nI_ltI hb2 ha).mp h)) (fun h => k2 (Nat.le_of_not_lt (fun q => h ((nI_ltI hb2 ha).mpr q))))
theorem r_le (hx : p.tables.exec = Jvm.exec) (hb : c.code = cc) {a b : Nat} {off : Int} {tgt : Nat} (d : decode cc pc = .ok (.if_icmp .le off, 3)) (ht : (pc : Int) + off = (tgt : Int)) (ha : a < 2 ^ 31) (hb2 : b < 2 ^ 31) (k1 : a ≤ b → W p l e R s m args below meth c H locs cells slots Q (F0 m tgt ls rest)) (k2 : b < a → W p l e R s m args below meth c H locs cells slots Q (F0 m (pc + 3) ls rest)) : W p l e R s m args below meth c H locs cells slots Q (F0 m pc ls (.int (nI b) :: .int (nI a) :: rest)) := lv_icmp_le hx hb d ht (fun h => k1 ((nI_leI ha hb2).mp h)) (fun h => k2 (Nat.lt_of_not_le (fun q => h ((nI_leI ha hb2).mpr q))))
theorem r_eq (hx : p.tables.exec = Jvm.exec) (hb : c.code = cc) {a b : Nat} {off : Int} {tgt : Nat} (d : decode cc pc = .ok (.if_icmp .eq off, 3)) (ht : (pc : Int) + off = (tgt : Int)) (ha : a < 2 ^ 31) (hb2 : b < 2 ^ 31) (k1 : a = b → W p l e R s m args below meth c H locs cells slots Q (F0 m tgt ls rest)) (k2 : ¬ a = b → W p l e R s m args below meth c H locs cells slots Q (F0 m (pc + 3) ls rest)) : W p l e R s m args below meth c H locs cells slots Q (F0 m pc ls (.int (nI b) :: .int (nI a) :: rest)) := lv_icmp_eq hx hb d ht (fun h => k1 ((nI_eq ha hb2).mp h)) (fun h => k2 (fun q => h ((nI_eq ha hb2).mpr q)))
theorem r_ne (hx : p.tables.exec = Jvm.exec) (hb : c.code = cc) {a b : Nat} {off : Int} {tgt : Nat} (d : decode cc pc = .ok (.if_icmp .ne off, 3)) (ht : (pc : Int) + off = (tgt : Int)) (ha : a < 2 ^ 31) (hb2 : b < 2 ^ 31) (k1 : ¬ a = b → W p l e R s m args below meth c H locs cells slots Q (F0 m tgt ls rest)) (k2 : a = b → W p l e R s m args below meth c H locs cells slots Q (F0 m (pc + 3) ls rest)) : W p l e R s m args below meth c H locs cells slots Q (F0 m pc ls (.int (nI b) :: .int (nI a) :: rest)) := lv_icmp_ne hx hb d ht (fun h => k1 (fun q => h ((nI_eq ha hb2).mpr q))) (fun h => k2 (by first | exact (nI_eq ha hb2).mp h | exact (nI_eq ha hb2).mp (Classical.not_not.mp h)))
theorem r_bz (hx : p.tables.exec = Jvm.exec) (hb : c.code = cc) {b : Bool} {off : Int} {tgt : Nat} (d : decode cc pc = .ok (.ifCond .eq off, 3)) (ht : (pc : Int) + off = (tgt : Int)) (k1 : b = false → W p l e R s m args below meth c H locs cells slots Q (F0 m tgt ls rest)) (k2 : b = true → W p l e R s m args below meth c H locs cells slots Q (F0 m (pc + 3) ls rest)) : W p l e R s m args below meth c H locs cells slots Q (F0 m pc ls (.int (bI b) :: rest)) := lv_if_eq hx hb d ht (fun h => k1 (bI_eq0.mp h)) (fun h => k2 (by cases b with | true => rfl | false => exact absurd rfl h))
theorem r_bnz (hx : p.tables.exec = Jvm.exec) (hb : c.code = cc) {b : Bool} {off : Int} {tgt : Nat} (d : decode cc pc = .ok (.ifCond .ne off, 3)) (ht : (pc : Int) + off = (tgt : Int)) (k1 : b = true → W p l e R s m args below meth c H locs cells slots Q (F0 m tgt ls rest)) (k2 : b = false → W p l e R s m args below meth c H locs cells slots Q (F0 m (pc + 3) ls rest)) : W p l e R s m args below meth c H locs cells slots Q (F0 m pc ls (.int (bI b) :: rest)) := lv_if_ne hx hb d ht (fun h => k1 (by cases b with | true => rfl | false => exact absurd rfl h)) (fun h => k2 (by first | exact bI_eq0.mp h | exact bI_eq0.mp (Classical.not_not.mp h)))
theorem r_zlt (hx : p.tables.exec = Jvm.exec) (hb : c.code = cc) {a : Nat} {off : Int} (d : decode cc pc = .ok (.ifCond .lt off, 3)) {tgt : Nat} (ht : (pc : Int) + off = (tgt : Int)) (ha : a < 2 ^ 31) (k2 : W p l e R s m args below meth c H locs cells slots Q (F0 m (pc + 3) ls rest)) : W p l e R s m args below meth c H locs cells slots Q (F0 m pc ls (.int (nI a) :: rest)) := lv_if_lt hx hb d ht (fun h => absurd h (nI_pos ha)) (fun _ => k2)
theorem r_zle (hx : p.tables.exec = Jvm.exec) (hb : c.code = cc) {a : Nat} {off : Int} (d : decode cc pc = .ok (.ifCond .le off, 3)) {tgt : Nat} (ht : (pc : Int) + off = (tgt : Int)) (ha : a < 2 ^ 31) (k1 : a = 0 → W p l e R s m args below meth c H locs cells slots Q (F0 m tgt ls rest)) (k2 : 0 < a → W p l e R s m args below meth c H locs cells slots Q (F0 m (pc + 3) ls rest)) : W p l e R s m args below meth c H locs cells slots Q (F0 m pc ls (.int (nI a) :: rest)) := lv_if_le hx hb d ht (fun h => k1 (by rcases Nat.eq_zero_or_pos a with q | q; exact q; exact absurd h (nI_nle q ha))) (fun h => k2 (by rcases Nat.eq_zero_or_pos a with q | q; exact absurd (by rw [q, nI_0]; exact Int32.le_refl _) h; exact q))
theorem r_zge (hx : p.tables.exec = Jvm.exec) (hb : c.code = cc) {a : Nat} {off : Int} (d : decode cc pc = .ok (.ifCond .ge off, 3)) {tgt : Nat} (ht : (pc : Int) + off = (tgt : Int)) (ha : a < 2 ^ 31) (k1 : W p l e R s m args below meth c H locs cells slots Q (F0 m tgt ls rest)) : W p l e R s m args below meth c H locs cells slots Q (F0 m pc ls (.int (nI a) :: rest)) := lv_if_ge hx hb d ht (fun _ => k1) (fun h => absurd (nI_pos' ha) h)
theorem r_zeq (hx : p.tables.exec = Jvm.exec) (hb : c.code = cc) {a : Nat} {off : Int} (d : decode cc pc = .ok (.ifCond .eq off, 3)) {tgt : Nat} (ht : (pc : Int) + off = (tgt : Int)) (ha : a < 2 ^ 31) (k1 : a = 0 → W p l e R s m args below meth c H locs cells slots Q (F0 m tgt ls rest)) (k2 : 0 < a → W p l e R s m args below meth c H locs cells slots Q (F0 m (pc + 3) ls rest)) : W p l e R s m args below meth c H locs cells slots Q (F0 m pc ls (.int (nI a) :: rest)) := lv_if_eq hx hb d ht (fun h => k1 ((nI_eq ha (by omega)).mp (h.trans nI_0.symm))) (fun h => k2 (Nat.pos_of_ne_zero (fun q => h (by rw [q, nI_0]))))
theorem r_zne (hx : p.tables.exec = Jvm.exec) (hb : c.code = cc) {a : Nat} {off : Int} (d : decode cc pc = .ok (.ifCond .ne off, 3)) {tgt : Nat} (ht : (pc : Int) + off = (tgt : Int)) (ha : a < 2 ^ 31) (k1 : 0 < a → W p l e R s m args below meth c H locs cells slots Q (F0 m tgt ls rest)) (k2 : a = 0 → W p l e R s m args below meth c H locs cells slots Q (F0 m (pc + 3) ls rest)) : W p l e R s m args below meth c H locs cells slots Q (F0 m pc ls (.int (nI a) :: rest)) := lv_if_ne hx hb d ht (fun h => k1 (Nat.pos_of_ne_zero (fun q => h (by rw [q, nI_0])))) (fun h => k2 (by first | exact (nI_eq ha (by omega)).mp (h.trans nI_0.symm) | exact (nI_eq ha (by omega)).mp ((Classical.not_not.mp h).trans nI_0.symm)))
end NROWS
/-! ===== a method's world and contract: from the cells ws to the cells ws', with the answer o; nothing is made ===== -/
def gI (D : va_G) (A : Nat → Prop) (H0 : Heap) (ws : va_W) (H : Heap) (locs : List Loc) : Prop := va_P D classes ws H ∧ va_D A ws ∧ va_S A H0 H locs
def gQ (D : va_G) (below : List Frame) (args : Array Value) (s : State) (A : Nat → Prop) (ws' : va_W) (o : Option Value) : State → Prop :=
  MQ below (fun _ st oc t => (oc = .returned o ∧ va_P D classes ws' t.heap ∧ va_D A ws') ∧ va_F A st t) args s 0 0 A
def gMet (l : Launch) (D : va_G) (tys : List (ClassId × FieldType)) (y : MethodName) (b : ByteArray) (n : Nat) (ret : Option FieldType) (rm : Room) (ws : va_W) (as : List Value) (ws' : va_W) (o : Option Value) : Prop :=
  ∀ sz : Nat, Met l y (.code y b n ret :: gw) rm (va_Pc as (fun U => U.heap.size = sz ∧ va_P D classes ws U.heap ∧ va_K D classes tys U ∧ va_D (fun _ => True) ws))
    (fun _ st oc t => (oc = .returned o ∧ va_P D classes ws' t.heap ∧ va_D (va_A ws sz) ws') ∧ va_F (va_A ws sz) st t) 0 0 (va_A ws sz)
/-- what holds all along a body -/
def gC (p : Program) (s : State) (m : MethodId) (meth : Method) (c : Code) (args : Array Value) (D : va_G) (tys : List (ClassId × FieldType)) (own : String) (b : ByteArray) (n : Nat) (ret : Option FieldType) : Prop :=
  p.tables.exec = Jvm.exec ∧ c.code = b ∧ meth.sig.returnType = ret ∧ meth.locks = false ∧ s.vm.findClass own = some m.cls ∧ c.maxLocals = n ∧ (∀ w ∈ gw, w.before args s = true) ∧ va_K D classes tys s
theorem gMet_of {l : Launch} {D : va_G} {tys : List (ClassId × FieldType)} {y : MethodName} {b : ByteArray} {n : Nat} {ret : Option FieldType} {rm : Room} {ws : va_W} {as : List Value} {ws' : va_W} {o : Option Value} (hy : plainName y.cls = true) (hn : (lg_sl as).length ≤ n)
    (body : ∀ (p : Program) (e : Env) (s : State) (m : MethodId) (below : List Frame) (meth : Method) (c : Code) (A : Nat → Prop) (ls : Array Slot), gC p s m meth c as.toArray D tys y.cls b n ret → (∀ q : Nat, s.heap.size ≤ q → A q) → gI D A s.heap ws s.heap [] → lv_has ls n (lv_args 0 as) →
      W p l e rm s m as.toArray below meth c s.heap [] 0 0 (gQ D below as.toArray s A ws' o) (F0 m 0 ls [])) : gMet l D tys y b n ret rm ws as ws' o := by
  intro sz
  refine Met.ofW (cc := b) (maxL := n) (ret := ret) hy rfl ?_
  intro p e s m args below meth c s₁ B hml hv
  obtain ⟨rfl, hsz, hP, hK, hD0⟩ := hv
  subst hsz
  have hts := atoms_spec (ws := .code y b n ret :: gw) B.pre
  have hl := lv_entry as (n := n) hn
  rw [lg_entry_eq]
  generalize (lg_sl as ++ List.replicate (n - (lg_sl as).length) Slot.unset).toArray = ls at hl ⊢
  exact body p e s m below meth c (va_A ws s.heap.size) ls ⟨B.exec, B.bytes, B.returns, B.notSynchronized, findClass_of_methodNamed B.named, hml, fun w h => hts w (List.mem_cons_of_mem _ h), hK⟩ (fun q h => Or.inr h) ⟨hP, hD0.self, va_S.rf⟩ hl
section GROWS
variable {p : Program} {l : Launch} {e : Env} {R : Room} {s : State} {m : MethodId} {args : Array Value} {below : List Frame} {meth : Method} {c : Code} {H : Heap} {locs : List Loc} {cells slots : Nat} {Q : State → Prop}
variable {cc : ByteArray} {pc : Nat} {ls : Array Slot} {rest : List Value} {D : va_G} {A : Nat → Prop} {tys : List (ClassId × FieldType)} {ws ws' : va_W} {H0 : Heap}
theorem g_free (hI : gI D A H0 ws H locs) (hA : ∀ q : Nat, H0.size ≤ q → A q) : ∀ q : Nat, va_A ws H.size q → A q := by
  intro q hq
  rcases hq with ⟨k, e, hk⟩ | hq
  · exact hI.2.1.2 k _ hk
  · exact hA q (Nat.le_trans hI.2.2.1 hq)
theorem g_ri {o : Option Value} {v : Int32} (hx : p.tables.exec = Jvm.exec) (hb : c.code = cc) (hr : meth.sig.returnType = some .int) (hlocks : meth.locks = false) (hI : gI D A s.heap ws' H locs) (ho : o = some (.int v)) (d : decode cc pc = .ok (.ireturn, 1)) : W p l e R s m args below meth c H locs 0 0 (gQ D below args s A ws' o) (F0 m pc ls [.int v]) := by
  subst ho
  exact W.iret hx hb hr (fun t ht hW => ⟨⟨rfl, by rw [ht]; exact hI.1, hI.2.1⟩, hI.2.2.F ht⟩) hI.2.2.2.2 d
theorem g_rz {o : Option Value} {v : Bool} (hx : p.tables.exec = Jvm.exec) (hb : c.code = cc) (hr : meth.sig.returnType = some .boolean) (hlocks : meth.locks = false) (hI : gI D A s.heap ws' H locs) (ho : o = some (.int (bI v))) (d : decode cc pc = .ok (.ireturn, 1)) : W p l e R s m args below meth c H locs 0 0 (gQ D below args s A ws' o) (F0 m pc ls [.int (bI v)]) := by
  subst ho
  exact W.zret hx hb hr (bI_n v) (fun t ht hW => ⟨⟨rfl, by rw [ht]; exact hI.1, hI.2.1⟩, hI.2.2.F ht⟩) hI.2.2.2.2 d
theorem g_rv {o : Option Value} (hx : p.tables.exec = Jvm.exec) (hb : c.code = cc) (hr : meth.sig.returnType = none) (hlocks : meth.locks = false) (hI : gI D A s.heap ws' H locs) (ho : o = none) (d : decode cc pc = .ok (.return_, 1)) : W p l e R s m args below meth c H locs 0 0 (gQ D below args s A ws' o) (F0 m pc ls []) := by
  subst ho
  exact W.vret hx hb hr (fun t ht hW => ⟨⟨rfl, by rw [ht]; exact hI.1, hI.2.1⟩, hI.2.2.F ht⟩) hI.2.2.2.2 d
theorem g_get {own C : String} {T : u_T} {N ci index a : Nat} {fs : List Value} {v : Value} (hx : p.tables.exec = Jvm.exec) (hb : c.code = cc) (hg : ∀ w ∈ gw, w.before args s = true) (hu : ∀ w ∈ u_ws C T N, w ∈ gw) (hown : s.vm.findClass own = some m.cls) (hK : va_K D classes tys s) (hI : gI D A H0 ws H locs) (q0 : Nat) (he : ws[q0]? = some (a, .inr (ci, fs))) (hc : classes[ci]? = some (C, T, N)) (k : Nat) (hk : k < N) (hl : Cond.fieldLink own index (T k).1 (T k).2.1 (T k).2.2.1 ∈ gw) (hv : fs[k]? = some v) (d : decode cc pc = .ok (.getfield index, 3))
    (kk : W p l e R s m args below meth c H locs cells slots Q (F0 m (pc + 3) ls (v :: rest))) : W p l e R s m args below meth c H locs cells slots Q (F0 m pc ls (.ref a :: rest)) :=
  va_get hx hb hg hu hown hK hI.1 q0 he hc k hk (hg _ hl) (fun _ h => h) hv d kk
theorem g_getN {own C host : String} {T : u_T} {N ci index a : Nat} {fs : List Value} {v : Value} (hx : p.tables.exec = Jvm.exec) (hb : c.code = cc) (hg : ∀ w ∈ gw, w.before args s = true) (hu : ∀ w ∈ u_ws C T N, w ∈ gw) (hown : s.vm.findClass own = some m.cls) (hK : va_K D classes tys s) (hI : gI D A H0 ws H locs) (q0 : Nat) (he : ws[q0]? = some (a, .inr (ci, fs))) (hc : classes[ci]? = some (C, T, N)) (k : Nat) (hk : k < N) (hl : Cond.fieldLinkNest own index (T k).1 (T k).2.1 (T k).2.2.1 host ∈ gw) (hv : fs[k]? = some v) (d : decode cc pc = .ok (.getfield index, 3))
    (kk : W p l e R s m args below meth c H locs cells slots Q (F0 m (pc + 3) ls (v :: rest))) : W p l e R s m args below meth c H locs cells slots Q (F0 m pc ls (.ref a :: rest)) :=
  va_getN hx hb hg hu hown hK hI.1 q0 he hc k hk (hg _ hl) (fun _ h => h) hv d kk
theorem g_put {own C : String} {T : u_T} {N ci index a : Nat} {fs : List Value} {v : Value} {ty : FieldType} (hx : p.tables.exec = Jvm.exec) (hb : c.code = cc) (hg : ∀ w ∈ gw, w.before args s = true) (hu : ∀ w ∈ u_ws C T N, w ∈ gw) (ty0 : Nat → FieldType) (hty : ∀ k, k < N → parseFieldDescriptor (T k).2.2.1 = some (ty0 k)) (hnm : ∀ a, a < N → ∀ b, b < N → a ≠ b → (T a).2.1 ≠ (T b).2.1) (hown : s.vm.findClass own = some m.cls) (hK : va_K D classes tys s) (hI : gI D A H0 ws H locs) (q0 : Nat) (he : ws[q0]? = some (a, .inr (ci, fs))) (hc : classes[ci]? = some (C, T, N)) (k : Nat) (hk : k < N) (hl : Cond.fieldLink own index (T k).1 (T k).2.1 (T k).2.2.1 ∈ gw) (hfin : (T k).2.2.2 = false) (hd : ty0 k = ty) (hn : narrow ty v = v) (hfit : fits ty v = true) (hlen : k < fs.length) (hw : ws.set q0 (a, .inr (ci, fs.set k v)) = ws') (d : decode cc pc = .ok (.putfield index, 3))
    (kk : ∀ (H : Heap) (locs : List Loc), gI D A H0 ws' H locs → W p l e R s m args below meth c H locs cells slots Q (F0 m (pc + 3) ls rest)) : W p l e R s m args below meth c H locs cells slots Q (F0 m pc ls (v :: .ref a :: rest)) := by
  subst hw
  exact va_put hx hb hg hu ty0 hty hnm hown hK hI.1 hI.2.1 hI.2.2 q0 he hc k hk (hg _ hl) (fun _ h => h) hfin (by rw [hty k hk, hd]) hn hfit hlen d (fun H1 l1 h1 h2 h3 => kk H1 l1 ⟨h1, h2, h3⟩)
end GROWS
end
section
section GCALLS
variable {p : Program} {l : Launch} {e : Env} {R : Room} {s : State} {m : MethodId} {args : Array Value} {below : List Frame} {meth : Method} {c : Code} {H : Heap} {locs : List Loc} {cells slots : Nat} {Q : State → Prop}
variable {cc : ByteArray} {pc : Nat} {ls : Array Slot} {rest : List Value} {D : va_G} {A : Nat → Prop} {tys : List (ClassId × FieldType)} {ws ws' : va_W} {H0 : Heap}
theorem g_ra {o : Option Value} {v : Value} {rn : String} (hx : p.tables.exec = Jvm.exec) (hb : c.code = cc) (hr : meth.sig.returnType = some (.object rn)) (hlocks : meth.locks = false) (hv : v = .null ∨ ∃ a, v = .ref a) (hI : gI D A s.heap ws' H locs) (ho : o = some v) (d : decode cc pc = .ok (.areturn, 1)) : W p l e R s m args below meth c H locs 0 0 (gQ D below args s A ws' o) (F0 m pc ls [v]) := by
  subst ho
  exact W.aret hx hb hr (Or.inl ⟨_, rfl⟩) hv (fun t ht hW => ⟨⟨rfl, by rw [ht]; exact hI.1, hI.2.1⟩, hI.2.2.F ht⟩) hI.2.2.2.2 d
theorem g_zald {cA : ClassId} {n a : Nat} {B : Nat → Bool} {i : Nat} (hx : p.tables.exec = Jvm.exec) (hb : c.code = cc) (hK : va_K D classes tys s) (hI : gI D A H0 ws H locs) (q0 t0 : Nat) (he : ws[q0]? = some (a, .inl (cA, n, .inl (fun k => bI (B k))))) (ht : tys[t0]? = some (cA, .boolean)) (hi : i < n) (hn : n < 2 ^ 31) (d : decode cc pc = .ok (.baload, 1))
    (kk : W p l e R s m args below meth c H locs cells slots Q (F0 m (pc + 1) ls (.int (bI (B i)) :: rest))) : W p l e R s m args below meth c H locs cells slots Q (F0 m pc ls (.int (nI i) :: .ref a :: rest)) :=
  va_zald hx hb hK hI.1 q0 t0 he ht (vp_in_nI hi hn) d (by rw [nI_clamp (Nat.lt_trans hi hn)]; exact kk)
theorem g_updZ {B : Nat → Bool} {i : Nat} {b : Bool} (h : i < 2 ^ 31) : upd (fun k => bI (B k)) (nI i).toNatClampNeg (vp_nar .boolean (bI b)) = fun k => bI (if k = i then b else B k) := by
  funext k
  rw [nI_clamp h]
  unfold upd
  have hv : vp_nar .boolean (bI b) = bI b := by cases b <;> decide
  rw [hv]
  split <;> rfl
theorem g_zast {cA : ClassId} {n a : Nat} {B : Nat → Bool} {i : Nat} {b : Bool} (hx : p.tables.exec = Jvm.exec) (hb : c.code = cc) (hK : va_K D classes tys s) (hI : gI D A H0 ws H locs) (q0 t0 : Nat) (he : ws[q0]? = some (a, .inl (cA, n, .inl (fun k => bI (B k))))) (ht : tys[t0]? = some (cA, .boolean)) (hi : i < n) (hn : n < 2 ^ 31) (hw : ws.set q0 (a, .inl (cA, n, .inl (fun k => bI (if k = i then b else B k)))) = ws') (d : decode cc pc = .ok (.bastore, 1))
    (kk : ∀ (H : Heap) (locs : List Loc), gI D A H0 ws' H locs → W p l e R s m args below meth c H locs cells slots Q (F0 m (pc + 1) ls rest)) : W p l e R s m args below meth c H locs cells slots Q (F0 m pc ls (.int (bI b) :: .int (nI i) :: .ref a :: rest)) := by
  subst hw
  refine va_zast hx hb hK hI.1 hI.2.1 hI.2.2 q0 t0 he ht (vp_in_nI hi hn) d (fun H1 l1 h1 h2 h3 => ?_)
  rw [g_updZ (Nat.lt_trans hi hn)] at h1 h2
  exact kk H1 l1 ⟨h1, h2, h3⟩
theorem g_iald {cA : ClassId} {n a : Nat} {F : Nat → Nat} {i : Nat} (hx : p.tables.exec = Jvm.exec) (hb : c.code = cc) (hK : va_K D classes tys s) (hI : gI D A H0 ws H locs) (q0 t0 : Nat) (he : ws[q0]? = some (a, .inl (cA, n, .inl (fun k => nI (F k))))) (ht : tys[t0]? = some (cA, .int)) (hi : i < n) (hn : n < 2 ^ 31) (d : decode cc pc = .ok (.iaload, 1))
    (kk : W p l e R s m args below meth c H locs cells slots Q (F0 m (pc + 1) ls (.int (nI (F i)) :: rest))) : W p l e R s m args below meth c H locs cells slots Q (F0 m pc ls (.int (nI i) :: .ref a :: rest)) :=
  va_iald hx hb hK hI.1 q0 t0 he ht (vp_in_nI hi hn) d (by rw [nI_clamp (Nat.lt_trans hi hn)]; exact kk)
theorem g_updI {F : Nat → Nat} {i v : Nat} (h : i < 2 ^ 31) : upd (fun k => nI (F k)) (nI i).toNatClampNeg (nI v) = fun k => nI (if k = i then v else F k) := by
  funext k
  rw [nI_clamp h]
  unfold upd
  split <;> rfl
theorem g_iast {cA : ClassId} {n a : Nat} {F : Nat → Nat} {i v : Nat} (hx : p.tables.exec = Jvm.exec) (hb : c.code = cc) (hK : va_K D classes tys s) (hI : gI D A H0 ws H locs) (q0 t0 : Nat) (he : ws[q0]? = some (a, .inl (cA, n, .inl (fun k => nI (F k))))) (ht : tys[t0]? = some (cA, .int)) (hi : i < n) (hn : n < 2 ^ 31) (hw : ws.set q0 (a, .inl (cA, n, .inl (fun k => nI (if k = i then v else F k)))) = ws') (d : decode cc pc = .ok (.iastore, 1))
    (kk : ∀ (H : Heap) (locs : List Loc), gI D A H0 ws' H locs → W p l e R s m args below meth c H locs cells slots Q (F0 m (pc + 1) ls rest)) : W p l e R s m args below meth c H locs cells slots Q (F0 m pc ls (.int (nI v) :: .int (nI i) :: .ref a :: rest)) := by
  subst hw
  refine va_iast hx hb hK hI.1 hI.2.1 hI.2.2 q0 t0 he ht (vp_in_nI hi hn) d (fun H1 l1 h1 h2 h3 => ?_)
  rw [g_updI (Nat.lt_trans hi hn)] at h1 h2
  exact kk H1 l1 ⟨h1, h2, h3⟩
theorem g_aldq {cA : ClassId} {C : String} {n a r : Nat} {f : Nat → Option Nat} {i : Nat} (hx : p.tables.exec = Jvm.exec) (hb : c.code = cc) (hK : va_K D classes tys s) (hI : gI D A H0 ws H locs) (q0 t0 : Nat) (he : ws[q0]? = some (a, .inl (cA, n, .inr (.inr (.inr (.inr f)))))) (ht : tys[t0]? = some (cA, .object C)) (hi : i < n) (hn : n < 2 ^ 31) (hf : f i = some r) (d : decode cc pc = .ok (.aaload, 1))
    (kk : W p l e R s m args below meth c H locs cells slots Q (F0 m (pc + 1) ls (.ref r :: rest))) : W p l e R s m args below meth c H locs cells slots Q (F0 m pc ls (.int (nI i) :: .ref a :: rest)) :=
  va_aldq hx hb hK hI.1 q0 t0 he ht (vp_in_nI hi hn) d (by rw [nI_clamp (Nat.lt_trans hi hn), hf]; exact kk)
theorem g_alen {cA : ClassId} {x : vp_A} {a : Nat} {ty : FieldType} (hx : p.tables.exec = Jvm.exec) (hb : c.code = cc) (hK : va_K D classes tys s) (hI : gI D A H0 ws H locs) (q0 t0 : Nat) (he : ws[q0]? = some (a, .inl (cA, x))) (ht : tys[t0]? = some (cA, ty)) (d : decode cc pc = .ok (.arraylength, 1))
    (kk : W p l e R s m args below meth c H locs cells slots Q (F0 m (pc + 1) ls (.int (nI x.1) :: rest))) : W p l e R s m args below meth c H locs cells slots Q (F0 m pc ls (.ref a :: rest)) :=
  va_alen hx hb hK hI.1 q0 t0 he ht rfl d kk
theorem g_blind {as : List Value} {sz : Nat} : FrameBlind (va_Pc as (fun U => U.heap.size = sz ∧ va_P D classes ws U.heap ∧ va_K D classes tys U ∧ va_D (fun _ => True) ws)) := fun a U g mk q => by
  obtain ⟨q0, q1, qP, qK, qD⟩ := q
  exact ⟨q0, q1, qP, va_K.moved (u := U) (U := U.calling g mk a) (Vm.Alike.refl U.vm) qK, qD⟩
/-- the callee's words of a call -/
theorem g_cb {own : String} {idx n k : Nat} {y : MethodName} {b : ByteArray} {ret : Option FieldType} {rm : Room} (hg : ∀ w ∈ gw, w.before args s = true) (w1 : Cond.methodLink own idx y ∈ gw) (w4 : Cond.initialized y.cls ∈ gw) (w5 : Cond.code y b n ret ∈ gw)
    (hd : y.cls ≠ "java/lang/invoke/MethodHandle" ∧ y.cls ≠ "java/lang/invoke/VarHandle" ∧ (parseMethodDescriptor y.desc).map (fun d => d.parameters.length) = some k) (hR : rm.frames + 1 ≤ R.frames ∧ 8 + (n + 11) + rm.locals ≤ R.locals) {mc ms : Nat} (hrc : rm.cells = mc) (hrs : rm.slots = ms) : CallB R s args own idx y b n ret (.code y b n ret :: gw) rm mc ms k := by
  refine ⟨hrc, hrs, hR.1, hR.2, ?_, List.mem_cons_self, hg _ w5, hg _ w4, ⟨hd.1, hd.2.1⟩, fun sig h => ?_, hg _ w1⟩
  · intro w hw a' U hW
    rcases List.mem_cons.mp hw with h | h
    · rw [h]; exact gw_move hg hW _ w5
    · exact gw_move hg hW _ h
  · have h2 := hd.2.2
    rw [h] at h2
    exact (Option.some.inj h2).symm
theorem g_callV {own C : String} {T : u_T} {N idx n k a q0 ci nL : Nat} {fs : List Value} {y : MethodName} {b : ByteArray} {ret : Option FieldType} {rm : Room} {As : List Value} {o : Option Value} (hM : gMet l D tys y b n ret rm ws (.ref a :: As) ws' o)
    (hx : p.tables.exec = Jvm.exec) (hb : c.code = cc) (hml : c.maxLocals = nL) (hown : s.vm.findClass own = some m.cls) (hg : ∀ w ∈ gw, w.before args s = true) (hK : va_K D classes tys s) (hI : gI D A H0 ws H locs) (hA : ∀ q : Nat, H0.size ≤ q → A q)
    (w1 : Cond.methodLink own idx y ∈ gw) (w2 : Cond.instanceMethod y ∈ gw) (w3 : Cond.selects C y y ∈ gw) (w4 : Cond.initialized y.cls ∈ gw) (w5 : Cond.code y b n ret ∈ gw)
    (hd : y.cls ≠ "java/lang/invoke/MethodHandle" ∧ y.cls ≠ "java/lang/invoke/VarHandle" ∧ (parseMethodDescriptor y.desc).map (fun d => d.parameters.length) = some k) (hR : rm.frames + 1 ≤ R.frames ∧ 8 + (n + 11) + rm.locals ≤ R.locals) (hrc : rm.cells = 0) (hrs : rm.slots = 0)
    (he : ws[q0]? = some (a, .inr (ci, fs))) (hc : classes[ci]? = some (C, T, N)) (hn : As.length = k) (hls : ls.size = nL) (hst : (rest.map fun v => v.category).sum ≤ 8) (hcs : cells ≤ R.cells ∧ slots ≤ R.slots) (d : decode cc pc = .ok (.invokevirtual idx, 3))
    {st0 st1 : List Value} (hst0 : st0 = As.reverse ++ .ref a :: rest) (hst1 : o.toList ++ rest = st1)
    (kk : ∀ (H : Heap) (locs : List Loc), gI D A H0 ws' H locs → W p l e R s m args below meth c H locs cells slots Q (F0 m (pc + 3) ls st1)) : W p l e R s m args below meth c H locs cells slots Q (F0 m pc ls st0) := by
  subst hst0; subst hst1
  intro T9 hT X
  have hF := g_free hI hA
  have hr := va_runV (g := F0 m pc ls (As.reverse ++ .ref a :: rest)) (As := As) (rest := rest) (b := a) (C := C) (locs := locs) (cells := cells) (slots := slots) (meth := meth) (below := below) (e := e) (nL := nL) ⟨hx, hb, hml, hown, hg⟩ (hM H.size) ⟨g_cb hg w1 w4 w5 hd hR hrc hrs, hg _ w2, hg _ w3⟩ ⟨g_blind, va_recv hK hI.1 hc he, fun U hU hW => ⟨rfl, by rw [hU], by rw [hU]; exact hI.1, va_K.moved hW.alike hK, hI.2.1.weaken (fun _ _ _ _ => trivial)⟩⟩ rfl hn hls rfl (lv_room hst) d ⟨hcs.1, hcs.2⟩
  obtain ⟨v, st₀, t, T', L, h0, X', hL, e1, e2, ⟨⟨hv, hP', hD'⟩, hz, hk⟩, st⟩ := hr T9 hT X
  cases hv
  rw [h0] at hz hk
  have hS := hI.2.2
  obtain ⟨t2, a1, b1⟩ := kk T'.heap (locs ++ L) ⟨by rw [e1]; exact hP', hD'.weaken (fun _ _ _ h => hF _ h), Nat.le_trans hS.1 (by rw [e1]; exact hz), fun q h1 h2 => by rw [e1, hk q (Nat.lt_of_lt_of_le h1 hS.1) (fun z => h2 (hF q z))]; exact hS.2.1 q h1 h2, fun q hq => by
      rcases List.mem_append.mp hq with h | h
      · exact hS.2.2 q h
      · exact hF _ (hL q h)⟩ T' rfl X'
  exact ⟨t2, st t2 a1, b1⟩
theorem g_callS {own : String} {idx n k nL : Nat} {y : MethodName} {b : ByteArray} {ret : Option FieldType} {rm : Room} {As : List Value} {o : Option Value} (hM : gMet l D tys y b n ret rm ws As ws' o)
    (hx : p.tables.exec = Jvm.exec) (hb : c.code = cc) (hml : c.maxLocals = nL) (hown : s.vm.findClass own = some m.cls) (hg : ∀ w ∈ gw, w.before args s = true) (hK : va_K D classes tys s) (hI : gI D A H0 ws H locs) (hA : ∀ q : Nat, H0.size ≤ q → A q)
    (w1 : Cond.methodLink own idx y ∈ gw) (w2 : Cond.static y ∈ gw) (w4 : Cond.initialized y.cls ∈ gw) (w5 : Cond.code y b n ret ∈ gw)
    (hd : y.cls ≠ "java/lang/invoke/MethodHandle" ∧ y.cls ≠ "java/lang/invoke/VarHandle" ∧ (parseMethodDescriptor y.desc).map (fun d => d.parameters.length) = some k) (hR : rm.frames + 1 ≤ R.frames ∧ 8 + (n + 11) + rm.locals ≤ R.locals) (hrc : rm.cells = 0) (hrs : rm.slots = 0)
    (hn : As.length = k) (hls : ls.size = nL) (hst : (rest.map fun v => v.category).sum ≤ 8) (hcs : cells ≤ R.cells ∧ slots ≤ R.slots) (d : decode cc pc = .ok (.invokestatic idx, 3))
    {st0 st1 : List Value} (hst0 : st0 = As.reverse ++ rest) (hst1 : o.toList ++ rest = st1)
    (kk : ∀ (H : Heap) (locs : List Loc), gI D A H0 ws' H locs → W p l e R s m args below meth c H locs cells slots Q (F0 m (pc + 3) ls st1)) : W p l e R s m args below meth c H locs cells slots Q (F0 m pc ls st0) := by
  subst hst0; subst hst1
  intro T9 hT X
  have hF := g_free hI hA
  have hr := va_runS (g := F0 m pc ls (As.reverse ++ rest)) (As := As) (rest := rest) (locs := locs) (cells := cells) (slots := slots) (meth := meth) (below := below) (e := e) (nL := nL) ⟨hx, hb, hml, hown, hg⟩ (hM H.size) ⟨g_cb hg w1 w4 w5 hd hR hrc hrs, hg _ w2⟩ ⟨g_blind, fun U hU hW => ⟨rfl, by rw [hU], by rw [hU]; exact hI.1, va_K.moved hW.alike hK, hI.2.1.weaken (fun _ _ _ _ => trivial)⟩⟩ rfl hn hls rfl (lv_room hst) d ⟨hcs.1, hcs.2⟩
  obtain ⟨v, st₀, t, T', L, h0, X', hL, e1, e2, ⟨⟨hv, hP', hD'⟩, hz, hk⟩, st⟩ := hr T9 hT X
  cases hv
  rw [h0] at hz hk
  have hS := hI.2.2
  obtain ⟨t2, a1, b1⟩ := kk T'.heap (locs ++ L) ⟨by rw [e1]; exact hP', hD'.weaken (fun _ _ _ h => hF _ h), Nat.le_trans hS.1 (by rw [e1]; exact hz), fun q h1 h2 => by rw [e1, hk q (Nat.lt_of_lt_of_le h1 hS.1) (fun z => h2 (hF q z))]; exact hS.2.1 q h1 h2, fun q hq => by
      rcases List.mem_append.mp hq with h | h
      · exact hS.2.2 q h
      · exact hF _ (hL q h)⟩ T' rfl X'
  exact ⟨t2, st t2 a1, b1⟩
end GCALLS
section GMATH
variable {p : Program} {l : Launch} {e : Env} {R : Room} {s : State} {m : MethodId} {args : Array Value} {below : List Frame} {meth : Method} {c : Code} {H : Heap} {locs : List Loc} {cells slots : Nat} {Q : State → Prop}
variable {cc : ByteArray} {pc : Nat} {ls : Array Slot} {rest : List Value}
theorem r_max {own : String} {index nL a b : Nat} (hx : p.tables.exec = Jvm.exec) (hb : c.code = cc) (hml : c.maxLocals = nL) (hls : ls.size = nL) (hown : s.vm.findClass own = some m.cls) (hg : ∀ w ∈ gw, w.before args s = true) (w1 : Cond.methodLink own index Lib.Math.max.name ∈ gw) (w2 : Cond.static Lib.Math.max.name ∈ gw) (w3 : Cond.initialized "java/lang/Math" ∈ gw) (w4 : Cond.code Lib.Math.max.name Lib.Math.max.code 2 (some .int) ∈ gw) (h1 : 1 ≤ R.frames) (h2 : (rest.map fun v => v.category).sum + 13 ≤ R.locals) (h3 : cells ≤ R.cells) (h4 : slots ≤ R.slots) (ha : a < 2 ^ 31) (hb2 : b < 2 ^ 31) (d : decode cc pc = .ok (.invokestatic index, 3))
    (kk : W p l e R s m args below meth c H locs cells slots Q (F0 m (pc + 3) ls (.int (nI (Nat.max a b)) :: rest))) : W p l e R s m args below meth c H locs cells slots Q (F0 m pc ls (.int (nI b) :: .int (nI a) :: rest)) := by
  refine va_mmax hx hb (hml.trans hls.symm) hown (hg _ w1) (hg _ w2) (hg _ w3) (hg _ w4) h1 h2 h3 h4 d ?_
  have : (if nI a < nI b then nI b else nI a) = nI (Nat.max a b) := by
    by_cases h : a < b
    · rw [if_pos ((nI_ltI ha hb2).mpr h), show Nat.max a b = b from Nat.max_eq_right (Nat.le_of_lt h)]
    · rw [if_neg (fun q => h ((nI_ltI ha hb2).mp q)), show Nat.max a b = a from Nat.max_eq_left (Nat.le_of_not_lt h)]
  rw [this]
  exact kk
theorem r_min {own : String} {index nL a b : Nat} (hx : p.tables.exec = Jvm.exec) (hb : c.code = cc) (hml : c.maxLocals = nL) (hls : ls.size = nL) (hown : s.vm.findClass own = some m.cls) (hg : ∀ w ∈ gw, w.before args s = true) (w1 : Cond.methodLink own index Lib.Math.min.name ∈ gw) (w2 : Cond.static Lib.Math.min.name ∈ gw) (w3 : Cond.initialized "java/lang/Math" ∈ gw) (w4 : Cond.code Lib.Math.min.name Lib.Math.min.code 2 (some .int) ∈ gw) (h1 : 1 ≤ R.frames) (h2 : (rest.map fun v => v.category).sum + 13 ≤ R.locals) (h3 : cells ≤ R.cells) (h4 : slots ≤ R.slots) (ha : a < 2 ^ 31) (hb2 : b < 2 ^ 31) (d : decode cc pc = .ok (.invokestatic index, 3))
    (kk : W p l e R s m args below meth c H locs cells slots Q (F0 m (pc + 3) ls (.int (nI (Nat.min a b)) :: rest))) : W p l e R s m args below meth c H locs cells slots Q (F0 m pc ls (.int (nI b) :: .int (nI a) :: rest)) := by
  refine va_mmin hx hb (hml.trans hls.symm) hown (hg _ w1) (hg _ w2) (hg _ w3) (hg _ w4) h1 h2 h3 h4 d ?_
  have : (if nI b < nI a then nI b else nI a) = nI (Nat.min a b) := by
    by_cases h : b < a
    · rw [if_pos ((nI_ltI hb2 ha).mpr h), show Nat.min a b = b from Nat.min_eq_right (Nat.le_of_lt h)]
    · rw [if_neg (fun q => h ((nI_ltI hb2 ha).mp q)), show Nat.min a b = a from Nat.min_eq_left (Nat.le_of_not_lt h)]
  rw [this]
  exact kk
end GMATH
end
section
/-! ===== the class's state: how many groups, reserved, lately taken, block 1 told; folders of a group; of a bitmap (2 g: blocks of group g, 2 g + 1: its files) size, free, told, bits ===== -/
abbrev gS : Type := Nat × Nat × Nat × Bool × (Nat → Nat) × (Nat → Nat) × (Nat → Nat) × (Nat → Bool) × (Nat → Nat → Bool)
def sCnt (σ : gS) : Nat := σ.1
def sRsv (σ : gS) : Nat := σ.2.1
def sLat (σ : gS) : Nat := σ.2.2.1
def sTT (σ : gS) : Bool := σ.2.2.2.1
def sFd (σ : gS) : Nat → Nat := σ.2.2.2.2.1
def sSz (σ : gS) : Nat → Nat := σ.2.2.2.2.2.1
def sFr (σ : gS) : Nat → Nat := σ.2.2.2.2.2.2.1
def sTd (σ : gS) : Nat → Bool := σ.2.2.2.2.2.2.2.1
def sBt (σ : gS) : Nat → Nat → Bool := σ.2.2.2.2.2.2.2.2
def uCnt (σ : gS) (v : Nat) : gS := (v, sRsv σ, sLat σ, sTT σ, sFd σ, sSz σ, sFr σ, sTd σ, sBt σ)
def uRsv (σ : gS) (v : Nat) : gS := (sCnt σ, v, sLat σ, sTT σ, sFd σ, sSz σ, sFr σ, sTd σ, sBt σ)
def uLat (σ : gS) (v : Nat) : gS := (sCnt σ, sRsv σ, v, sTT σ, sFd σ, sSz σ, sFr σ, sTd σ, sBt σ)
def uTT (σ : gS) (v : Bool) : gS := (sCnt σ, sRsv σ, sLat σ, v, sFd σ, sSz σ, sFr σ, sTd σ, sBt σ)
def uFd (σ : gS) (g v : Nat) : gS := (sCnt σ, sRsv σ, sLat σ, sTT σ, va_up (sFd σ) g v, sSz σ, sFr σ, sTd σ, sBt σ)
def uSz (σ : gS) (j v : Nat) : gS := (sCnt σ, sRsv σ, sLat σ, sTT σ, sFd σ, va_up (sSz σ) j v, sFr σ, sTd σ, sBt σ)
def uFr (σ : gS) (j v : Nat) : gS := (sCnt σ, sRsv σ, sLat σ, sTT σ, sFd σ, sSz σ, va_up (sFr σ) j v, sTd σ, sBt σ)
def uTd (σ : gS) (j : Nat) (v : Bool) : gS := (sCnt σ, sRsv σ, sLat σ, sTT σ, sFd σ, sSz σ, sFr σ, va_up (sTd σ) j v, sBt σ)
def uBt (σ : gS) (j : Nat) (f : Nat → Bool) : gS := (sCnt σ, sRsv σ, sLat σ, sTT σ, sFd σ, sSz σ, sFr σ, sTd σ, va_up (sBt σ) j f)
def gHd (g : Nat) : Nat := if g = 2 then 0 else 2
def gLen (j : Nat) : Nat := if j % 2 = 0 then 256 else 128
def gPl (j : Nat) : Nat := 256 * (j / 2) + gHd (j / 2) + j % 2
abbrev cGB (ad : Nat → Nat) (σ : gS) : Nat × va_E := (ad 0, .inr (0, [.ref (ad 1), .int (nI (sCnt σ)), .int (nI (sRsv σ)), .int (nI (sLat σ)), .int (bI (sTT σ))]))
abbrev cGA (ad : Nat → Nat) (cG : ClassId) : Nat × va_E := (ad 1, .inl (cG, 4, .inr (.inr (.inr (.inr (fun k => some (ad (2 + k))))))))
abbrev cGR (ad : Nat → Nat) (σ : gS) (g : Nat) : Nat × va_E := (ad (2 + g), .inr (1, [.int (nI (256 * g)), .int (nI (gHd g + 10)), .int (nI (256 * g + gHd g + 2)), .ref (ad (6 + 2 * g)), .ref (ad (6 + (2 * g + 1))), .int (nI (sFd σ g))]))
abbrev cBM (ad : Nat → Nat) (σ : gS) (j : Nat) : Nat × va_E := (ad (6 + j), .inr (2, [.int (nI (gPl j)), .ref (ad (14 + j)), .int (nI (sSz σ j)), .int (nI (sFr σ j)), .int (bI (sTd σ j))]))
abbrev cBA (ad : Nat → Nat) (cZ : ClassId) (σ : gS) (j : Nat) : Nat × va_E := (ad (14 + j), .inl (cZ, gLen j, .inl (fun k => bI (sBt σ j k))))
def wd (ad : Nat → Nat) (cG cZ : ClassId) (σ : gS) : va_W := [cGB ad σ, cGA ad cG, cGR ad σ 0, cGR ad σ 1, cGR ad σ 2, cGR ad σ 3, cBM ad σ 0, cBM ad σ 1, cBM ad σ 2, cBM ad σ 3, cBM ad σ 4, cBM ad σ 5, cBM ad σ 6, cBM ad σ 7, cBA ad cZ σ 0, cBA ad cZ σ 1, cBA ad cZ σ 2, cBA ad cZ σ 3, cBA ad cZ σ 4, cBA ad cZ σ 5, cBA ad cZ σ 6, cBA ad cZ σ 7]
abbrev gT (cG cZ cI cJ : ClassId) : List (ClassId × FieldType) := [(cG, .object "GroupBitmaps$Group"), (cZ, .boolean), (cI, .int), (cJ, .long)]
theorem lt4 {g : Nat} (h : g < 4) : g = 0 ∨ g = 1 ∨ g = 2 ∨ g = 3 := by omega
theorem lt8 {g : Nat} (h : g < 8) : g = 0 ∨ g = 1 ∨ g = 2 ∨ g = 3 ∨ g = 4 ∨ g = 5 ∨ g = 6 ∨ g = 7 := by omega
theorem gHd_le (g : Nat) : gHd g ≤ 2 := by unfold gHd; split <;> omega
theorem gLen_le (j : Nat) : gLen j ≤ 256 := by unfold gLen; split <;> omega
theorem gLen_lt (j : Nat) : gLen j < 2 ^ 31 := by unfold gLen; split <;> omega
theorem gPl_lt {j : Nat} (h : j < 8) : gPl j < 1024 := by have := gHd_le (j / 2); unfold gPl; omega
section WD
variable {ad : Nat → Nat} {cG cZ : ClassId} {σ : gS}
theorem wd_GB : (wd ad cG cZ σ)[0]? = some (cGB ad σ) := rfl
theorem wd_GA : (wd ad cG cZ σ)[1]? = some (cGA ad cG) := rfl
theorem wd_GR {g : Nat} (h : g < 4) : (wd ad cG cZ σ)[2 + g]? = some (cGR ad σ g) := by rcases lt4 h with rfl | rfl | rfl | rfl <;> rfl
theorem wd_BM {j : Nat} (h : j < 8) : (wd ad cG cZ σ)[6 + j]? = some (cBM ad σ j) := by rcases lt8 h with rfl | rfl | rfl | rfl | rfl | rfl | rfl | rfl <;> rfl
theorem wd_BA {j : Nat} (h : j < 8) : (wd ad cG cZ σ)[14 + j]? = some (cBA ad cZ σ j) := by rcases lt8 h with rfl | rfl | rfl | rfl | rfl | rfl | rfl | rfl <;> rfl
theorem wd_uCnt {v : Nat} : (wd ad cG cZ σ).set 0 (ad 0, .inr (0, [.ref (ad 1), .int (nI v), .int (nI (sRsv σ)), .int (nI (sLat σ)), .int (bI (sTT σ))])) = wd ad cG cZ (uCnt σ v) := rfl
theorem wd_uRsv {v : Nat} : (wd ad cG cZ σ).set 0 (ad 0, .inr (0, [.ref (ad 1), .int (nI (sCnt σ)), .int (nI v), .int (nI (sLat σ)), .int (bI (sTT σ))])) = wd ad cG cZ (uRsv σ v) := rfl
theorem wd_uLat {v : Nat} : (wd ad cG cZ σ).set 0 (ad 0, .inr (0, [.ref (ad 1), .int (nI (sCnt σ)), .int (nI (sRsv σ)), .int (nI v), .int (bI (sTT σ))])) = wd ad cG cZ (uLat σ v) := rfl
theorem wd_uTT {v : Bool} : (wd ad cG cZ σ).set 0 (ad 0, .inr (0, [.ref (ad 1), .int (nI (sCnt σ)), .int (nI (sRsv σ)), .int (nI (sLat σ)), .int (bI v)])) = wd ad cG cZ (uTT σ v) := rfl
theorem wd_uFd {g v : Nat} (h : g < 4) : (wd ad cG cZ σ).set (2 + g) (ad (2 + g), .inr (1, [.int (nI (256 * g)), .int (nI (gHd g + 10)), .int (nI (256 * g + gHd g + 2)), .ref (ad (6 + 2 * g)), .ref (ad (6 + (2 * g + 1))), .int (nI v)])) = wd ad cG cZ (uFd σ g v) := by rcases lt4 h with rfl | rfl | rfl | rfl <;> rfl
theorem wd_uSz {j v : Nat} (h : j < 8) : (wd ad cG cZ σ).set (6 + j) (ad (6 + j), .inr (2, [.int (nI (gPl j)), .ref (ad (14 + j)), .int (nI v), .int (nI (sFr σ j)), .int (bI (sTd σ j))])) = wd ad cG cZ (uSz σ j v) := by rcases lt8 h with rfl | rfl | rfl | rfl | rfl | rfl | rfl | rfl <;> rfl
theorem wd_uFr {j v : Nat} (h : j < 8) : (wd ad cG cZ σ).set (6 + j) (ad (6 + j), .inr (2, [.int (nI (gPl j)), .ref (ad (14 + j)), .int (nI (sSz σ j)), .int (nI v), .int (bI (sTd σ j))])) = wd ad cG cZ (uFr σ j v) := by rcases lt8 h with rfl | rfl | rfl | rfl | rfl | rfl | rfl | rfl <;> rfl
theorem wd_uTd {j : Nat} {v : Bool} (h : j < 8) : (wd ad cG cZ σ).set (6 + j) (ad (6 + j), .inr (2, [.int (nI (gPl j)), .ref (ad (14 + j)), .int (nI (sSz σ j)), .int (nI (sFr σ j)), .int (bI v)])) = wd ad cG cZ (uTd σ j v) := by rcases lt8 h with rfl | rfl | rfl | rfl | rfl | rfl | rfl | rfl <;> rfl
theorem wd_uBt {j : Nat} {f : Nat → Bool} (h : j < 8) : (wd ad cG cZ σ).set (14 + j) (ad (14 + j), .inl (cZ, gLen j, .inl (fun k => bI (f k)))) = wd ad cG cZ (uBt σ j f) := by rcases lt8 h with rfl | rfl | rfl | rfl | rfl | rfl | rfl | rfl <;> rfl
end WD
end
section
theorem ky_GB_init : y_GB_init.cls ≠ "java/lang/invoke/MethodHandle" ∧ y_GB_init.cls ≠ "java/lang/invoke/VarHandle" ∧ (parseMethodDescriptor y_GB_init.desc).map (fun d => d.parameters.length) = some 0 := by decide +kernel
theorem ky_GB_lay : y_GB_lay.cls ≠ "java/lang/invoke/MethodHandle" ∧ y_GB_lay.cls ≠ "java/lang/invoke/VarHandle" ∧ (parseMethodDescriptor y_GB_lay.desc).map (fun d => d.parameters.length) = some 2 := by decide +kernel
theorem ky_GB_reserve : y_GB_reserve.cls ≠ "java/lang/invoke/MethodHandle" ∧ y_GB_reserve.cls ≠ "java/lang/invoke/VarHandle" ∧ (parseMethodDescriptor y_GB_reserve.desc).map (fun d => d.parameters.length) = some 1 := by decide +kernel
theorem ky_GB_take : y_GB_take.cls ≠ "java/lang/invoke/MethodHandle" ∧ y_GB_take.cls ≠ "java/lang/invoke/VarHandle" ∧ (parseMethodDescriptor y_GB_take.desc).map (fun d => d.parameters.length) = some 3 := by decide +kernel
theorem ky_GB_taken : y_GB_taken.cls ≠ "java/lang/invoke/MethodHandle" ∧ y_GB_taken.cls ≠ "java/lang/invoke/VarHandle" ∧ (parseMethodDescriptor y_GB_taken.desc).map (fun d => d.parameters.length) = some 0 := by decide +kernel
theorem ky_GB_give : y_GB_give.cls ≠ "java/lang/invoke/MethodHandle" ∧ y_GB_give.cls ≠ "java/lang/invoke/VarHandle" ∧ (parseMethodDescriptor y_GB_give.desc).map (fun d => d.parameters.length) = some 2 := by decide +kernel
theorem ky_GB_takeFile : y_GB_takeFile.cls ≠ "java/lang/invoke/MethodHandle" ∧ y_GB_takeFile.cls ≠ "java/lang/invoke/VarHandle" ∧ (parseMethodDescriptor y_GB_takeFile.desc).map (fun d => d.parameters.length) = some 2 := by decide +kernel
theorem ky_GB_giveFile : y_GB_giveFile.cls ≠ "java/lang/invoke/MethodHandle" ∧ y_GB_giveFile.cls ≠ "java/lang/invoke/VarHandle" ∧ (parseMethodDescriptor y_GB_giveFile.desc).map (fun d => d.parameters.length) = some 2 := by decide +kernel
theorem ky_GB_isTaken : y_GB_isTaken.cls ≠ "java/lang/invoke/MethodHandle" ∧ y_GB_isTaken.cls ≠ "java/lang/invoke/VarHandle" ∧ (parseMethodDescriptor y_GB_isTaken.desc).map (fun d => d.parameters.length) = some 2 := by decide +kernel
theorem ky_GB_group : y_GB_group.cls ≠ "java/lang/invoke/MethodHandle" ∧ y_GB_group.cls ≠ "java/lang/invoke/VarHandle" ∧ (parseMethodDescriptor y_GB_group.desc).map (fun d => d.parameters.length) = some 2 := by decide +kernel
theorem ky_GB_byteOf : y_GB_byteOf.cls ≠ "java/lang/invoke/MethodHandle" ∧ y_GB_byteOf.cls ≠ "java/lang/invoke/VarHandle" ∧ (parseMethodDescriptor y_GB_byteOf.desc).map (fun d => d.parameters.length) = some 2 := by decide +kernel
theorem ky_GB_isTold : y_GB_isTold.cls ≠ "java/lang/invoke/MethodHandle" ∧ y_GB_isTold.cls ≠ "java/lang/invoke/VarHandle" ∧ (parseMethodDescriptor y_GB_isTold.desc).map (fun d => d.parameters.length) = some 1 := by decide +kernel
theorem ky_GB_settle : y_GB_settle.cls ≠ "java/lang/invoke/MethodHandle" ∧ y_GB_settle.cls ≠ "java/lang/invoke/VarHandle" ∧ (parseMethodDescriptor y_GB_settle.desc).map (fun d => d.parameters.length) = some 0 := by decide +kernel
theorem ky_GB_layOut : y_GB_layOut.cls ≠ "java/lang/invoke/MethodHandle" ∧ y_GB_layOut.cls ≠ "java/lang/invoke/VarHandle" ∧ (parseMethodDescriptor y_GB_layOut.desc).map (fun d => d.parameters.length) = some 2 := by decide +kernel
theorem ky_GB_allBlocks : y_GB_allBlocks.cls ≠ "java/lang/invoke/MethodHandle" ∧ y_GB_allBlocks.cls ≠ "java/lang/invoke/VarHandle" ∧ (parseMethodDescriptor y_GB_allBlocks.desc).map (fun d => d.parameters.length) = some 0 := by decide +kernel
theorem ky_GB_hasBlock : y_GB_hasBlock.cls ≠ "java/lang/invoke/MethodHandle" ∧ y_GB_hasBlock.cls ≠ "java/lang/invoke/VarHandle" ∧ (parseMethodDescriptor y_GB_hasBlock.desc).map (fun d => d.parameters.length) = some 1 := by decide +kernel
theorem ky_GB_hasFile : y_GB_hasFile.cls ≠ "java/lang/invoke/MethodHandle" ∧ y_GB_hasFile.cls ≠ "java/lang/invoke/VarHandle" ∧ (parseMethodDescriptor y_GB_hasFile.desc).map (fun d => d.parameters.length) = some 1 := by decide +kernel
theorem ky_GB_groupOfBlock : y_GB_groupOfBlock.cls ≠ "java/lang/invoke/MethodHandle" ∧ y_GB_groupOfBlock.cls ≠ "java/lang/invoke/VarHandle" ∧ (parseMethodDescriptor y_GB_groupOfBlock.desc).map (fun d => d.parameters.length) = some 1 := by decide +kernel
theorem ky_GB_groupOfFile : y_GB_groupOfFile.cls ≠ "java/lang/invoke/MethodHandle" ∧ y_GB_groupOfFile.cls ≠ "java/lang/invoke/VarHandle" ∧ (parseMethodDescriptor y_GB_groupOfFile.desc).map (fun d => d.parameters.length) = some 1 := by decide +kernel
theorem ky_GB_groupBehind : y_GB_groupBehind.cls ≠ "java/lang/invoke/MethodHandle" ∧ y_GB_groupBehind.cls ≠ "java/lang/invoke/VarHandle" ∧ (parseMethodDescriptor y_GB_groupBehind.desc).map (fun d => d.parameters.length) = some 2 := by decide +kernel
theorem ky_GB_freeBlocks : y_GB_freeBlocks.cls ≠ "java/lang/invoke/MethodHandle" ∧ y_GB_freeBlocks.cls ≠ "java/lang/invoke/VarHandle" ∧ (parseMethodDescriptor y_GB_freeBlocks.desc).map (fun d => d.parameters.length) = some 0 := by decide +kernel
theorem ky_GB_freeFiles : y_GB_freeFiles.cls ≠ "java/lang/invoke/MethodHandle" ∧ y_GB_freeFiles.cls ≠ "java/lang/invoke/VarHandle" ∧ (parseMethodDescriptor y_GB_freeFiles.desc).map (fun d => d.parameters.length) = some 0 := by decide +kernel
theorem ky_GB_takeable : y_GB_takeable.cls ≠ "java/lang/invoke/MethodHandle" ∧ y_GB_takeable.cls ≠ "java/lang/invoke/VarHandle" ∧ (parseMethodDescriptor y_GB_takeable.desc).map (fun d => d.parameters.length) = some 1 := by decide +kernel
theorem ky_GB_takeNear : y_GB_takeNear.cls ≠ "java/lang/invoke/MethodHandle" ∧ y_GB_takeNear.cls ≠ "java/lang/invoke/VarHandle" ∧ (parseMethodDescriptor y_GB_takeNear.desc).map (fun d => d.parameters.length) = some 2 := by decide +kernel
theorem ky_GB_takeLongestRun : y_GB_takeLongestRun.cls ≠ "java/lang/invoke/MethodHandle" ∧ y_GB_takeLongestRun.cls ≠ "java/lang/invoke/VarHandle" ∧ (parseMethodDescriptor y_GB_takeLongestRun.desc).map (fun d => d.parameters.length) = some 1 := by decide +kernel
theorem ky_GB_takeRun : y_GB_takeRun.cls ≠ "java/lang/invoke/MethodHandle" ∧ y_GB_takeRun.cls ≠ "java/lang/invoke/VarHandle" ∧ (parseMethodDescriptor y_GB_takeRun.desc).map (fun d => d.parameters.length) = some 3 := by decide +kernel
theorem ky_GB_areGivable : y_GB_areGivable.cls ≠ "java/lang/invoke/MethodHandle" ∧ y_GB_areGivable.cls ≠ "java/lang/invoke/VarHandle" ∧ (parseMethodDescriptor y_GB_areGivable.desc).map (fun d => d.parameters.length) = some 2 := by decide +kernel
theorem ky_GB_groupForPlain : y_GB_groupForPlain.cls ≠ "java/lang/invoke/MethodHandle" ∧ y_GB_groupForPlain.cls ≠ "java/lang/invoke/VarHandle" ∧ (parseMethodDescriptor y_GB_groupForPlain.desc).map (fun d => d.parameters.length) = some 1 := by decide +kernel
theorem ky_GB_groupForFolder : y_GB_groupForFolder.cls ≠ "java/lang/invoke/MethodHandle" ∧ y_GB_groupForFolder.cls ≠ "java/lang/invoke/VarHandle" ∧ (parseMethodDescriptor y_GB_groupForFolder.desc).map (fun d => d.parameters.length) = some 1 := by decide +kernel
theorem ky_GB_leastFolders : y_GB_leastFolders.cls ≠ "java/lang/invoke/MethodHandle" ∧ y_GB_leastFolders.cls ≠ "java/lang/invoke/VarHandle" ∧ (parseMethodDescriptor y_GB_leastFolders.desc).map (fun d => d.parameters.length) = some 1 := by decide +kernel
theorem ky_GB_firstWithRoom : y_GB_firstWithRoom.cls ≠ "java/lang/invoke/MethodHandle" ∧ y_GB_firstWithRoom.cls ≠ "java/lang/invoke/VarHandle" ∧ (parseMethodDescriptor y_GB_firstWithRoom.desc).map (fun d => d.parameters.length) = some 1 := by decide +kernel
theorem ky_GB_firstWithFile : y_GB_firstWithFile.cls ≠ "java/lang/invoke/MethodHandle" ∧ y_GB_firstWithFile.cls ≠ "java/lang/invoke/VarHandle" ∧ (parseMethodDescriptor y_GB_firstWithFile.desc).map (fun d => d.parameters.length) = some 1 := by decide +kernel
theorem ky_GB_tableByte : y_GB_tableByte.cls ≠ "java/lang/invoke/MethodHandle" ∧ y_GB_tableByte.cls ≠ "java/lang/invoke/VarHandle" ∧ (parseMethodDescriptor y_GB_tableByte.desc).map (fun d => d.parameters.length) = some 1 := by decide +kernel
theorem ky_MD_init : y_MD_init.cls ≠ "java/lang/invoke/MethodHandle" ∧ y_MD_init.cls ≠ "java/lang/invoke/VarHandle" ∧ (parseMethodDescriptor y_MD_init.desc).map (fun d => d.parameters.length) = some 0 := by decide +kernel
theorem ky_MD_thrown : y_MD_thrown.cls ≠ "java/lang/invoke/MethodHandle" ∧ y_MD_thrown.cls ≠ "java/lang/invoke/VarHandle" ∧ (parseMethodDescriptor y_MD_thrown.desc).map (fun d => d.parameters.length) = some 0 := by decide +kernel
theorem ky_MD_heads : y_MD_heads.cls ≠ "java/lang/invoke/MethodHandle" ∧ y_MD_heads.cls ≠ "java/lang/invoke/VarHandle" ∧ (parseMethodDescriptor y_MD_heads.desc).map (fun d => d.parameters.length) = some 1 := by decide +kernel
theorem ky_MD_bitmap : y_MD_bitmap.cls ≠ "java/lang/invoke/MethodHandle" ∧ y_MD_bitmap.cls ≠ "java/lang/invoke/VarHandle" ∧ (parseMethodDescriptor y_MD_bitmap.desc).map (fun d => d.parameters.length) = some 1 := by decide +kernel
theorem ky_MD_fixed : y_MD_fixed.cls ≠ "java/lang/invoke/MethodHandle" ∧ y_MD_fixed.cls ≠ "java/lang/invoke/VarHandle" ∧ (parseMethodDescriptor y_MD_fixed.desc).map (fun d => d.parameters.length) = some 1 := by decide +kernel
theorem ky_MD_layOut : y_MD_layOut.cls ≠ "java/lang/invoke/MethodHandle" ∧ y_MD_layOut.cls ≠ "java/lang/invoke/VarHandle" ∧ (parseMethodDescriptor y_MD_layOut.desc).map (fun d => d.parameters.length) = some 2 := by decide +kernel
theorem ky_MD_freeBlocks : y_MD_freeBlocks.cls ≠ "java/lang/invoke/MethodHandle" ∧ y_MD_freeBlocks.cls ≠ "java/lang/invoke/VarHandle" ∧ (parseMethodDescriptor y_MD_freeBlocks.desc).map (fun d => d.parameters.length) = some 1 := by decide +kernel
theorem ky_MD_freeFiles : y_MD_freeFiles.cls ≠ "java/lang/invoke/MethodHandle" ∧ y_MD_freeFiles.cls ≠ "java/lang/invoke/VarHandle" ∧ (parseMethodDescriptor y_MD_freeFiles.desc).map (fun d => d.parameters.length) = some 1 := by decide +kernel
theorem ky_MD_allBlocks : y_MD_allBlocks.cls ≠ "java/lang/invoke/MethodHandle" ∧ y_MD_allBlocks.cls ≠ "java/lang/invoke/VarHandle" ∧ (parseMethodDescriptor y_MD_allBlocks.desc).map (fun d => d.parameters.length) = some 0 := by decide +kernel
theorem ky_MD_allFiles : y_MD_allFiles.cls ≠ "java/lang/invoke/MethodHandle" ∧ y_MD_allFiles.cls ≠ "java/lang/invoke/VarHandle" ∧ (parseMethodDescriptor y_MD_allFiles.desc).map (fun d => d.parameters.length) = some 0 := by decide +kernel
theorem ky_MD_isBlock : y_MD_isBlock.cls ≠ "java/lang/invoke/MethodHandle" ∧ y_MD_isBlock.cls ≠ "java/lang/invoke/VarHandle" ∧ (parseMethodDescriptor y_MD_isBlock.desc).map (fun d => d.parameters.length) = some 1 := by decide +kernel
theorem ky_MD_isFile : y_MD_isFile.cls ≠ "java/lang/invoke/MethodHandle" ∧ y_MD_isFile.cls ≠ "java/lang/invoke/VarHandle" ∧ (parseMethodDescriptor y_MD_isFile.desc).map (fun d => d.parameters.length) = some 1 := by decide +kernel
theorem ky_MD_lay : y_MD_lay.cls ≠ "java/lang/invoke/MethodHandle" ∧ y_MD_lay.cls ≠ "java/lang/invoke/VarHandle" ∧ (parseMethodDescriptor y_MD_lay.desc).map (fun d => d.parameters.length) = some 2 := by decide +kernel
theorem ky_MD_reserve : y_MD_reserve.cls ≠ "java/lang/invoke/MethodHandle" ∧ y_MD_reserve.cls ≠ "java/lang/invoke/VarHandle" ∧ (parseMethodDescriptor y_MD_reserve.desc).map (fun d => d.parameters.length) = some 1 := by decide +kernel
theorem ky_MD_findRun : y_MD_findRun.cls ≠ "java/lang/invoke/MethodHandle" ∧ y_MD_findRun.cls ≠ "java/lang/invoke/VarHandle" ∧ (parseMethodDescriptor y_MD_findRun.desc).map (fun d => d.parameters.length) = some 2 := by decide +kernel
theorem ky_MD_areFree : y_MD_areFree.cls ≠ "java/lang/invoke/MethodHandle" ∧ y_MD_areFree.cls ≠ "java/lang/invoke/VarHandle" ∧ (parseMethodDescriptor y_MD_areFree.desc).map (fun d => d.parameters.length) = some 2 := by decide +kernel
theorem ky_MD_mark : y_MD_mark.cls ≠ "java/lang/invoke/MethodHandle" ∧ y_MD_mark.cls ≠ "java/lang/invoke/VarHandle" ∧ (parseMethodDescriptor y_MD_mark.desc).map (fun d => d.parameters.length) = some 3 := by decide +kernel
theorem ky_MD_take : y_MD_take.cls ≠ "java/lang/invoke/MethodHandle" ∧ y_MD_take.cls ≠ "java/lang/invoke/VarHandle" ∧ (parseMethodDescriptor y_MD_take.desc).map (fun d => d.parameters.length) = some 3 := by decide +kernel
theorem ky_MD_taken : y_MD_taken.cls ≠ "java/lang/invoke/MethodHandle" ∧ y_MD_taken.cls ≠ "java/lang/invoke/VarHandle" ∧ (parseMethodDescriptor y_MD_taken.desc).map (fun d => d.parameters.length) = some 0 := by decide +kernel
theorem ky_MD_give : y_MD_give.cls ≠ "java/lang/invoke/MethodHandle" ∧ y_MD_give.cls ≠ "java/lang/invoke/VarHandle" ∧ (parseMethodDescriptor y_MD_give.desc).map (fun d => d.parameters.length) = some 2 := by decide +kernel
theorem ky_MD_groupOfPlain : y_MD_groupOfPlain.cls ≠ "java/lang/invoke/MethodHandle" ∧ y_MD_groupOfPlain.cls ≠ "java/lang/invoke/VarHandle" ∧ (parseMethodDescriptor y_MD_groupOfPlain.desc).map (fun d => d.parameters.length) = some 1 := by decide +kernel
theorem ky_MD_firstFree : y_MD_firstFree.cls ≠ "java/lang/invoke/MethodHandle" ∧ y_MD_firstFree.cls ≠ "java/lang/invoke/VarHandle" ∧ (parseMethodDescriptor y_MD_firstFree.desc).map (fun d => d.parameters.length) = some 1 := by decide +kernel
theorem ky_MD_groupOfFolder : y_MD_groupOfFolder.cls ≠ "java/lang/invoke/MethodHandle" ∧ y_MD_groupOfFolder.cls ≠ "java/lang/invoke/VarHandle" ∧ (parseMethodDescriptor y_MD_groupOfFolder.desc).map (fun d => d.parameters.length) = some 2 := by decide +kernel
theorem ky_MD_markFile : y_MD_markFile.cls ≠ "java/lang/invoke/MethodHandle" ∧ y_MD_markFile.cls ≠ "java/lang/invoke/VarHandle" ∧ (parseMethodDescriptor y_MD_markFile.desc).map (fun d => d.parameters.length) = some 4 := by decide +kernel
theorem ky_MD_takeFile : y_MD_takeFile.cls ≠ "java/lang/invoke/MethodHandle" ∧ y_MD_takeFile.cls ≠ "java/lang/invoke/VarHandle" ∧ (parseMethodDescriptor y_MD_takeFile.desc).map (fun d => d.parameters.length) = some 2 := by decide +kernel
theorem ky_MD_giveFile : y_MD_giveFile.cls ≠ "java/lang/invoke/MethodHandle" ∧ y_MD_giveFile.cls ≠ "java/lang/invoke/VarHandle" ∧ (parseMethodDescriptor y_MD_giveFile.desc).map (fun d => d.parameters.length) = some 2 := by decide +kernel
theorem ky_MD_isTaken : y_MD_isTaken.cls ≠ "java/lang/invoke/MethodHandle" ∧ y_MD_isTaken.cls ≠ "java/lang/invoke/VarHandle" ∧ (parseMethodDescriptor y_MD_isTaken.desc).map (fun d => d.parameters.length) = some 2 := by decide +kernel
theorem ky_MD_group : y_MD_group.cls ≠ "java/lang/invoke/MethodHandle" ∧ y_MD_group.cls ≠ "java/lang/invoke/VarHandle" ∧ (parseMethodDescriptor y_MD_group.desc).map (fun d => d.parameters.length) = some 2 := by decide +kernel
theorem ky_MD_descriptor : y_MD_descriptor.cls ≠ "java/lang/invoke/MethodHandle" ∧ y_MD_descriptor.cls ≠ "java/lang/invoke/VarHandle" ∧ (parseMethodDescriptor y_MD_descriptor.desc).map (fun d => d.parameters.length) = some 1 := by decide +kernel
theorem ky_MD_byteOf : y_MD_byteOf.cls ≠ "java/lang/invoke/MethodHandle" ∧ y_MD_byteOf.cls ≠ "java/lang/invoke/VarHandle" ∧ (parseMethodDescriptor y_MD_byteOf.desc).map (fun d => d.parameters.length) = some 2 := by decide +kernel
theorem ky_MD_isTold : y_MD_isTold.cls ≠ "java/lang/invoke/MethodHandle" ∧ y_MD_isTold.cls ≠ "java/lang/invoke/VarHandle" ∧ (parseMethodDescriptor y_MD_isTold.desc).map (fun d => d.parameters.length) = some 1 := by decide +kernel
theorem ky_MD_settle : y_MD_settle.cls ≠ "java/lang/invoke/MethodHandle" ∧ y_MD_settle.cls ≠ "java/lang/invoke/VarHandle" ∧ (parseMethodDescriptor y_MD_settle.desc).map (fun d => d.parameters.length) = some 0 := by decide +kernel
theorem ky_BM_init : y_BM_init.cls ≠ "java/lang/invoke/MethodHandle" ∧ y_BM_init.cls ≠ "java/lang/invoke/VarHandle" ∧ (parseMethodDescriptor y_BM_init.desc).map (fun d => d.parameters.length) = some 2 := by decide +kernel
theorem ky_BM_layOut : y_BM_layOut.cls ≠ "java/lang/invoke/MethodHandle" ∧ y_BM_layOut.cls ≠ "java/lang/invoke/VarHandle" ∧ (parseMethodDescriptor y_BM_layOut.desc).map (fun d => d.parameters.length) = some 2 := by decide +kernel
theorem ky_BM_isSet : y_BM_isSet.cls ≠ "java/lang/invoke/MethodHandle" ∧ y_BM_isSet.cls ≠ "java/lang/invoke/VarHandle" ∧ (parseMethodDescriptor y_BM_isSet.desc).map (fun d => d.parameters.length) = some 1 := by decide +kernel
theorem ky_BM_occupy : y_BM_occupy.cls ≠ "java/lang/invoke/MethodHandle" ∧ y_BM_occupy.cls ≠ "java/lang/invoke/VarHandle" ∧ (parseMethodDescriptor y_BM_occupy.desc).map (fun d => d.parameters.length) = some 1 := by decide +kernel
theorem ky_BM_free : y_BM_free.cls ≠ "java/lang/invoke/MethodHandle" ∧ y_BM_free.cls ≠ "java/lang/invoke/VarHandle" ∧ (parseMethodDescriptor y_BM_free.desc).map (fun d => d.parameters.length) = some 1 := by decide +kernel
theorem ky_BM_byteAt : y_BM_byteAt.cls ≠ "java/lang/invoke/MethodHandle" ∧ y_BM_byteAt.cls ≠ "java/lang/invoke/VarHandle" ∧ (parseMethodDescriptor y_BM_byteAt.desc).map (fun d => d.parameters.length) = some 1 := by decide +kernel
theorem ky_BM_leastFree : y_BM_leastFree.cls ≠ "java/lang/invoke/MethodHandle" ∧ y_BM_leastFree.cls ≠ "java/lang/invoke/VarHandle" ∧ (parseMethodDescriptor y_BM_leastFree.desc).map (fun d => d.parameters.length) = some 0 := by decide +kernel
theorem ky_BM_areFree : y_BM_areFree.cls ≠ "java/lang/invoke/MethodHandle" ∧ y_BM_areFree.cls ≠ "java/lang/invoke/VarHandle" ∧ (parseMethodDescriptor y_BM_areFree.desc).map (fun d => d.parameters.length) = some 2 := by decide +kernel
theorem ky_BM_longestRun : y_BM_longestRun.cls ≠ "java/lang/invoke/MethodHandle" ∧ y_BM_longestRun.cls ≠ "java/lang/invoke/VarHandle" ∧ (parseMethodDescriptor y_BM_longestRun.desc).map (fun d => d.parameters.length) = some 0 := by decide +kernel
theorem ky_BM_shortestRun : y_BM_shortestRun.cls ≠ "java/lang/invoke/MethodHandle" ∧ y_BM_shortestRun.cls ≠ "java/lang/invoke/VarHandle" ∧ (parseMethodDescriptor y_BM_shortestRun.desc).map (fun d => d.parameters.length) = some 1 := by decide +kernel
theorem ky_BM_forgetTold : y_BM_forgetTold.cls ≠ "java/lang/invoke/MethodHandle" ∧ y_BM_forgetTold.cls ≠ "java/lang/invoke/VarHandle" ∧ (parseMethodDescriptor y_BM_forgetTold.desc).map (fun d => d.parameters.length) = some 0 := by decide +kernel
theorem ky_GR_init : y_GR_init.cls ≠ "java/lang/invoke/MethodHandle" ∧ y_GR_init.cls ≠ "java/lang/invoke/VarHandle" ∧ (parseMethodDescriptor y_GR_init.desc).map (fun d => d.parameters.length) = some 1 := by decide +kernel
theorem ky_GR_layOut : y_GR_layOut.cls ≠ "java/lang/invoke/MethodHandle" ∧ y_GR_layOut.cls ≠ "java/lang/invoke/VarHandle" ∧ (parseMethodDescriptor y_GR_layOut.desc).map (fun d => d.parameters.length) = some 1 := by decide +kernel
theorem ky_GR_bitmapIn : y_GR_bitmapIn.cls ≠ "java/lang/invoke/MethodHandle" ∧ y_GR_bitmapIn.cls ≠ "java/lang/invoke/VarHandle" ∧ (parseMethodDescriptor y_GR_bitmapIn.desc).map (fun d => d.parameters.length) = some 1 := by decide +kernel
theorem ky_GR_hasFileAndBlock : y_GR_hasFileAndBlock.cls ≠ "java/lang/invoke/MethodHandle" ∧ y_GR_hasFileAndBlock.cls ≠ "java/lang/invoke/VarHandle" ∧ (parseMethodDescriptor y_GR_hasFileAndBlock.desc).map (fun d => d.parameters.length) = some 0 := by decide +kernel
theorem ky_GR_occupyFile : y_GR_occupyFile.cls ≠ "java/lang/invoke/MethodHandle" ∧ y_GR_occupyFile.cls ≠ "java/lang/invoke/VarHandle" ∧ (parseMethodDescriptor y_GR_occupyFile.desc).map (fun d => d.parameters.length) = some 1 := by decide +kernel
theorem ky_GR_freeFile : y_GR_freeFile.cls ≠ "java/lang/invoke/MethodHandle" ∧ y_GR_freeFile.cls ≠ "java/lang/invoke/VarHandle" ∧ (parseMethodDescriptor y_GR_freeFile.desc).map (fun d => d.parameters.length) = some 2 := by decide +kernel
theorem ky_GR_tableByte : y_GR_tableByte.cls ≠ "java/lang/invoke/MethodHandle" ∧ y_GR_tableByte.cls ≠ "java/lang/invoke/VarHandle" ∧ (parseMethodDescriptor y_GR_tableByte.desc).map (fun d => d.parameters.length) = some 1 := by decide +kernel
theorem ky_GR_byteOfNumber : y_GR_byteOfNumber.cls ≠ "java/lang/invoke/MethodHandle" ∧ y_GR_byteOfNumber.cls ≠ "java/lang/invoke/VarHandle" ∧ (parseMethodDescriptor y_GR_byteOfNumber.desc).map (fun d => d.parameters.length) = some 2 := by decide +kernel
theorem ky_LW_lay : y_LW_lay.cls ≠ "java/lang/invoke/MethodHandle" ∧ y_LW_lay.cls ≠ "java/lang/invoke/VarHandle" ∧ (parseMethodDescriptor y_LW_lay.desc).map (fun d => d.parameters.length) = some 4 := by decide +kernel
theorem ky_LW_reserve : y_LW_reserve.cls ≠ "java/lang/invoke/MethodHandle" ∧ y_LW_reserve.cls ≠ "java/lang/invoke/VarHandle" ∧ (parseMethodDescriptor y_LW_reserve.desc).map (fun d => d.parameters.length) = some 3 := by decide +kernel
theorem ky_LW_take : y_LW_take.cls ≠ "java/lang/invoke/MethodHandle" ∧ y_LW_take.cls ≠ "java/lang/invoke/VarHandle" ∧ (parseMethodDescriptor y_LW_take.desc).map (fun d => d.parameters.length) = some 5 := by decide +kernel
theorem ky_LW_give : y_LW_give.cls ≠ "java/lang/invoke/MethodHandle" ∧ y_LW_give.cls ≠ "java/lang/invoke/VarHandle" ∧ (parseMethodDescriptor y_LW_give.desc).map (fun d => d.parameters.length) = some 4 := by decide +kernel
theorem ky_LW_takeFile : y_LW_takeFile.cls ≠ "java/lang/invoke/MethodHandle" ∧ y_LW_takeFile.cls ≠ "java/lang/invoke/VarHandle" ∧ (parseMethodDescriptor y_LW_takeFile.desc).map (fun d => d.parameters.length) = some 4 := by decide +kernel
theorem ky_LW_giveFile : y_LW_giveFile.cls ≠ "java/lang/invoke/MethodHandle" ∧ y_LW_giveFile.cls ≠ "java/lang/invoke/VarHandle" ∧ (parseMethodDescriptor y_LW_giveFile.desc).map (fun d => d.parameters.length) = some 4 := by decide +kernel
theorem ky_LW_isTaken : y_LW_isTaken.cls ≠ "java/lang/invoke/MethodHandle" ∧ y_LW_isTaken.cls ≠ "java/lang/invoke/VarHandle" ∧ (parseMethodDescriptor y_LW_isTaken.desc).map (fun d => d.parameters.length) = some 4 := by decide +kernel
theorem ky_LW_group : y_LW_group.cls ≠ "java/lang/invoke/MethodHandle" ∧ y_LW_group.cls ≠ "java/lang/invoke/VarHandle" ∧ (parseMethodDescriptor y_LW_group.desc).map (fun d => d.parameters.length) = some 4 := by decide +kernel
theorem ky_LW_byteOf : y_LW_byteOf.cls ≠ "java/lang/invoke/MethodHandle" ∧ y_LW_byteOf.cls ≠ "java/lang/invoke/VarHandle" ∧ (parseMethodDescriptor y_LW_byteOf.desc).map (fun d => d.parameters.length) = some 4 := by decide +kernel
theorem ky_LW_isTold : y_LW_isTold.cls ≠ "java/lang/invoke/MethodHandle" ∧ y_LW_isTold.cls ≠ "java/lang/invoke/VarHandle" ∧ (parseMethodDescriptor y_LW_isTold.desc).map (fun d => d.parameters.length) = some 3 := by decide +kernel
end
section
/-! ===== what the methods of a bitmap answer and do, in numbers ===== -/
def sSet (σ : gS) (j k : Nat) : Bool := decide (gLen j ≤ k) || sBt σ j k
theorem sSet_ge {σ : gS} {j k : Nat} (h : gLen j ≤ k) : sSet σ j k = true := by simp [sSet, h]
theorem sSet_lt {σ : gS} {j k : Nat} (h : k < gLen j) : sSet σ j k = sBt σ j k := by simp [sSet, Nat.not_le.mpr h]
theorem va_up_id {α : Type} (f : Nat → α) (j : Nat) : va_up f j (f j) = f := by
  funext i; unfold va_up; split
  · rename_i h; rw [h]
  · rfl
theorem uBt_uBt (σ : gS) (j : Nat) (f g : Nat → Bool) : uBt (uBt σ j f) j g = uBt σ j g := by
  show (_, _, _, _, _, _, _, _, va_up (va_up (sBt σ) j f) j g) = _
  rw [bx_uu]; rfl
theorem uBt_id (σ : gS) (j : Nat) : uBt σ j (sBt σ j) = σ := by
  show (_, _, _, _, _, _, _, _, va_up (sBt σ) j (sBt σ j)) = _
  rw [va_up_id]; rfl
theorem va_up_at {α : Type} (f : Nat → α) (j : Nat) (v : α) : va_up f j v j = v := by simp [va_up]
theorem sBt_uBt (σ : gS) (j : Nat) (f : Nat → Bool) : sBt (uBt σ j f) j = f := va_up_at _ _ _
/-- one bit -/
def setb (B : Nat → Bool) (k : Nat) (v : Bool) : Nat → Bool := fun i => if i = k then v else B i
def sOcc (σ : gS) (j k : Nat) : gS := if sSet σ j k = true then σ else uTd (uFr (uBt σ j (setb (sBt σ j) k true)) j (sFr σ j - 1)) j true
theorem sOcc_t {σ : gS} {j k : Nat} (h : sSet σ j k = true) : sOcc σ j k = σ := if_pos h
theorem sOcc_f {σ : gS} {j k : Nat} (h : sSet σ j k = false) : sOcc σ j k = uTd (uFr (uBt σ j (setb (sBt σ j) k true)) j (sFr σ j - 1)) j true := if_neg (by rw [h]; decide)
def sFre (σ : gS) (j k : Nat) : gS := if k < sSz σ j ∧ sBt σ j k = true then uTd (uFr (uBt σ j (setb (sBt σ j) k false)) j (sFr σ j + 1)) j true else σ
theorem sFre_t {σ : gS} {j k : Nat} (h : k < sSz σ j) (h2 : sBt σ j k = true) : sFre σ j k = uTd (uFr (uBt σ j (setb (sBt σ j) k false)) j (sFr σ j + 1)) j true := if_pos ⟨h, h2⟩
theorem sFre_f1 {σ : gS} {j k : Nat} (h : sSz σ j ≤ k) : sFre σ j k = σ := if_neg (fun q => absurd q.1 (Nat.not_lt.mpr h))
theorem sFre_f2 {σ : gS} {j k : Nat} (h : sBt σ j k = false) : sFre σ j k = σ := if_neg (fun q => by rw [h] at q; exact absurd q.2 (by decide))
def lyv (f a k : Nat) : Bool := decide (k < f) || decide (a ≤ k)
def lyf (B : Nat → Bool) (f a n : Nat) : Nat → Bool := fun i => if i < n then lyv f a i else B i
theorem lyf_0 (B : Nat → Bool) (f a : Nat) : lyf B f a 0 = B := by funext i; simp [lyf]
theorem lyf_succ (B : Nat → Bool) (f a n : Nat) {v : Bool} (hv : v = lyv f a n) : (fun i => if i = n then v else lyf B f a n i) = lyf B f a (n + 1) := by
  funext i
  unfold lyf
  by_cases h : i = n
  · subst h; rw [if_pos rfl, if_pos (Nat.lt_succ_self _)]; exact hv
  · rw [if_neg h]
    by_cases h2 : i < n
    · rw [if_pos h2, if_pos (by omega)]
    · rw [if_neg h2, if_neg (by omega)]
def sLay (σ : gS) (j a f : Nat) : gS := uTd (uFr (uSz (uBt σ j (lyf (sBt σ j) f a (gLen j))) j a) j (a - f)) j true
def sBy (σ : gS) (j i : Nat) : Nat → Nat
  | 0 => 0
  | k + 1 => sBy σ j i k + if sSet σ j (8 * i + k) = true then 2 ^ k else 0
/-- the first number below n that is free -/
def sLf (σ : gS) (j : Nat) : Nat → Option Nat
  | 0 => none
  | k + 1 => match sLf σ j k with
    | some q => some q
    | none => if sSet σ j k = true then none else some k
def oI (o : Option Nat) : Int32 := match o with
  | none => -1
  | some k => nI k
/-- are the n from a on free -/
def sAf (σ : gS) (j a : Nat) : Nat → Bool
  | 0 => true
  | k + 1 => sAf σ j a k && !sSet σ j (a + k)
/-- the run that ends here, one further -/
def sLen (c : Bool) (q : Nat) : Nat := if c = true then 0 else q + 1
theorem sLen_t (q : Nat) : sLen true q = 0 := rfl
theorem sLen_f (q : Nat) : sLen false q = q + 1 := rfl
theorem sLen_le (c : Bool) (q : Nat) : sLen c q ≤ q + 1 := by cases c <;> simp [sLen]
/-- the longest run below k, and that which ends at k -/
def sLr (σ : gS) (j : Nat) : Nat → Nat × Nat
  | 0 => (0, 0)
  | k + 1 => (Nat.max (sLr σ j k).1 (sLen (sSet σ j k) (sLr σ j k).2), sLen (sSet σ j k) (sLr σ j k).2)
def sSrN (n k : Nat) (q : Option Nat × Nat × Nat) (len : Nat) (e : Bool) : Option Nat × Nat × Nat :=
  if n ≤ len ∧ len < q.2.1 ∧ e = true then (some (k + 1 - len), len, len) else (q.1, q.2.1, len)
/-- where the first of the shortest runs of n or more begins, that length, and that of the run which ends at k -/
def sSr (σ : gS) (j n : Nat) : Nat → Option Nat × Nat × Nat
  | 0 => (none, sSz σ j + 1, 0)
  | k + 1 => sSrN n k (sSr σ j n k) (sLen (sSet σ j k) (sSr σ j n k).2.2) (sSet σ j (k + 1))
theorem sLr_le (σ : gS) (j k : Nat) : (sLr σ j k).1 ≤ k ∧ (sLr σ j k).2 ≤ k := by
  induction k with
  | zero => exact ⟨Nat.le_refl _, Nat.le_refl _⟩
  | succ k ih =>
    have h1 := ih.1
    have h2 := ih.2
    have h3 := sLen_le (sSet σ j k) (sLr σ j k).2
    constructor
    · show Nat.max (sLr σ j k).1 (sLen (sSet σ j k) (sLr σ j k).2) ≤ k + 1
      exact Nat.max_le.mpr ⟨by omega, by omega⟩
    · show sLen (sSet σ j k) (sLr σ j k).2 ≤ k + 1
      omega
theorem sSr_le (σ : gS) (j n k : Nat) : (sSr σ j n k).2.1 ≤ sSz σ j + 1 + k ∧ (sSr σ j n k).2.2 ≤ k := by
  induction k with
  | zero => exact ⟨Nat.le_refl _, Nat.le_refl _⟩
  | succ k ih =>
    have h1 := ih.1
    have h2 := ih.2
    have h3 := sLen_le (sSet σ j k) (sSr σ j n k).2.2
    show (sSrN n k (sSr σ j n k) (sLen (sSet σ j k) (sSr σ j n k).2.2) (sSet σ j (k + 1))).2.1 ≤ _ ∧ (sSrN n k (sSr σ j n k) (sLen (sSet σ j k) (sSr σ j n k).2.2) (sSet σ j (k + 1))).2.2 ≤ _
    unfold sSrN
    split
    · exact ⟨by show sLen _ _ ≤ _; omega, by show sLen _ _ ≤ _; omega⟩
    · exact ⟨by show (sSr σ j n k).2.1 ≤ _; omega, by show sLen _ _ ≤ _; omega⟩
theorem lay_step {ad : Nat → Nat} {cG cZ : ClassId} {σ : gS} {j f a k : Nat} {v : Bool} (hj : j < 8) (hv : v = lyv f a k) : (wd ad cG cZ (uBt σ j (lyf (sBt σ j) f a k))).set (14 + j) (ad (14 + j), .inl (cZ, gLen j, .inl (fun i => bI (if i = k then v else sBt (uBt σ j (lyf (sBt σ j) f a k)) j i)))) = wd ad cG cZ (uBt σ j (lyf (sBt σ j) f a (k + 1))) := by
  rw [sBt_uBt, wd_uBt (f := fun i => if i = k then v else lyf (sBt σ j) f a k i) hj, uBt_uBt, lyf_succ _ _ _ _ hv]
end
section
set_option maxHeartbeats 4000000 in
set_option maxRecDepth 100000 in
/-- isSet(k) -/
theorem c_BM_isSet {l : Launch} {D : va_G} {cG cZ cI cJ : ClassId} {ad : Nat → Nat} (σ : gS) (j : Nat) (hj : j < 8) (k : Nat) (hk : k < 2 ^ 31) : gMet l D (gT cG cZ cI cJ) y_BM_isSet b_BM_isSet 2 (some .boolean) ({ frames := 0, cells := 0, slots := 0, locals := 0 }) (wd ad cG cZ σ) [.ref (ad (6 + j)), .int (nI k)] (wd ad cG cZ σ) (some (.int (bI (sSet σ j k)))) := by
  refine gMet_of (by decide) (Nat.le_of_ble_eq_true rfl) ?_
  intro p e s m below meth c A ls hC hA hI hl
  obtain ⟨hx, hb, hr, hlk, hown, hml, hg, hK⟩ := hC
  have hown : s.vm.findClass "GroupBitmaps$Bitmap" = some m.cls := hown
  have hl : lv_has ls 2 [(0, .ref (ad (6 + j))), (1, .int (nI k))] := hl
  refine lv_iload_n hx hb d_BM_isSet_0 rfl (lv_at hl 1 rfl) ?_
  refine r_zlt (a := k) (tgt := 22) hx hb d_BM_isSet_1 (by decide) (hk) ?_
  refine lv_iload_n hx hb d_BM_isSet_4 rfl (lv_at hl 1 rfl) ?_
  refine lv_aload_n hx hb d_BM_isSet_5 rfl (lv_at hl 0 rfl) ?_
  refine g_get (own := "GroupBitmaps$Bitmap") (C := R_BM) (T := F_BM) (N := 5) (ci := 2) (v := .ref (ad (14 + j))) hx hb hg ku_BM hown hK hI (6 + j) (wd_BM hj) rfl 1 (by decide) kw_35 rfl d_BM_isSet_6 ?_
  refine g_alen hx hb hK hI (14 + j) 1 (wd_BA hj) rfl d_BM_isSet_9 ?_
  refine r_ge (a := k) (b := gLen j) (tgt := 22) hx hb d_BM_isSet_10 (by decide) (hk) (gLen_lt _) (fun h => ?_) (fun h => ?_)
  · refine lv_iconst (v := bI true) hx hb d_BM_isSet_22 (by decide) ?_
    refine lv_goto (tgt := 27) hx hb d_BM_isSet_23 (by decide) ?_
    exact g_rz hx hb hr hlk hI (by rw [sSet_ge h]) d_BM_isSet_27
  · refine lv_aload_n hx hb d_BM_isSet_13 rfl (lv_at hl 0 rfl) ?_
    refine g_get (own := "GroupBitmaps$Bitmap") (C := R_BM) (T := F_BM) (N := 5) (ci := 2) (v := .ref (ad (14 + j))) hx hb hg ku_BM hown hK hI (6 + j) (wd_BM hj) rfl 1 (by decide) kw_35 rfl d_BM_isSet_14 ?_
    refine lv_iload_n hx hb d_BM_isSet_17 rfl (lv_at hl 1 rfl) ?_
    refine g_zald (B := (sBt σ j)) (i := k) hx hb hK hI (14 + j) 1 (wd_BA hj) rfl (h) (gLen_lt _) d_BM_isSet_18 ?_
    refine r_bz (b := (sBt σ j) k) (tgt := 26) hx hb d_BM_isSet_19 (by decide) (fun h2 => ?_) (fun h2 => ?_)
    · refine lv_iconst (v := bI false) hx hb d_BM_isSet_26 (by decide) ?_
      exact g_rz hx hb hr hlk hI (by rw [sSet_lt h, h2]) d_BM_isSet_27
    · refine lv_iconst (v := bI true) hx hb d_BM_isSet_22 (by decide) ?_
      refine lv_goto (tgt := 27) hx hb d_BM_isSet_23 (by decide) ?_
      exact g_rz hx hb hr hlk hI (by rw [sSet_lt h, h2]) d_BM_isSet_27
set_option maxHeartbeats 4000000 in
set_option maxRecDepth 100000 in
/-- occupy(k) -/
theorem c_BM_occupy {l : Launch} {D : va_G} {cG cZ cI cJ : ClassId} {ad : Nat → Nat} (σ : gS) (j : Nat) (hj : j < 8) (k : Nat) (hk : k < 2 ^ 31) (hf : sSet σ j k = false → 0 < sFr σ j) : gMet l D (gT cG cZ cI cJ) y_BM_occupy b_BM_occupy 2 none ({ frames := 1, cells := 0, slots := 0, locals := 21 }) (wd ad cG cZ σ) [.ref (ad (6 + j)), .int (nI k)] (wd ad cG cZ (sOcc σ j k)) (none) := by
  refine gMet_of (by decide) (Nat.le_of_ble_eq_true rfl) ?_
  intro p e s m below meth c A ls hC hA hI hl
  obtain ⟨hx, hb, hr, hlk, hown, hml, hg, hK⟩ := hC
  have hown : s.vm.findClass "GroupBitmaps$Bitmap" = some m.cls := hown
  have hl : lv_has ls 2 [(0, .ref (ad (6 + j))), (1, .int (nI k))] := hl
  refine lv_aload_n hx hb d_BM_occupy_0 rfl (lv_at hl 0 rfl) ?_
  refine lv_iload_n hx hb d_BM_occupy_1 rfl (lv_at hl 1 rfl) ?_
  refine g_callV (own := "GroupBitmaps$Bitmap") (C := "GroupBitmaps$Bitmap") (T := F_BM) (N := 5) (k := 1) (q0 := 6 + j) (ci := 2) (a := ad (6 + j)) (As := [.int (nI k)]) (rest := []) (c_BM_isSet σ j hj k hk) hx hb hml hown hg hK hI hA kw_264 kw_265 kw_266 kw_3 kw_267 ky_BM_isSet ⟨Nat.le_of_ble_eq_true rfl, Nat.le_of_ble_eq_true rfl⟩ rfl rfl (wd_BM hj) rfl rfl hl.1 (Nat.le_of_ble_eq_true rfl) ⟨Nat.zero_le _, Nat.zero_le _⟩ d_BM_occupy_2 rfl rfl (fun H locs hI => ?_)
  refine r_bnz (b := sSet σ j k) (tgt := 30) hx hb d_BM_occupy_5 (by decide) (fun h => ?_) (fun h => ?_)
  · rw [sOcc_t h]
    exact g_rv hx hb hr hlk hI (rfl) d_BM_occupy_30
  · rw [sOcc_f h]
    have hkl : k < gLen j := Nat.lt_of_not_le (fun q => by rw [sSet_ge q] at h; exact absurd h (by decide))
    have hf : 0 < sFr (uBt σ j (setb (sBt σ j) k true)) j := hf h
    refine lv_aload_n hx hb d_BM_occupy_8 rfl (lv_at hl 0 rfl) ?_
    refine g_get (own := "GroupBitmaps$Bitmap") (C := R_BM) (T := F_BM) (N := 5) (ci := 2) (v := .ref (ad (14 + j))) hx hb hg ku_BM hown hK hI (6 + j) (wd_BM hj) rfl 1 (by decide) kw_35 rfl d_BM_occupy_9 ?_
    refine lv_iload_n hx hb d_BM_occupy_12 rfl (lv_at hl 1 rfl) ?_
    refine lv_iconst (v := bI true) hx hb d_BM_occupy_13 (by decide) ?_
    refine g_zast (ws' := (wd ad cG cZ (uBt σ j (setb (sBt σ j) k true)))) (B := (sBt σ j)) (i := k) (b := true) hx hb hK hI (14 + j) 1 (wd_BA hj) rfl (hkl) (gLen_lt _) (wd_uBt (f := setb (sBt σ j) k true) hj) d_BM_occupy_14 (fun H locs hI => ?_)
    refine lv_aload_n hx hb d_BM_occupy_15 rfl (lv_at hl 0 rfl) ?_
    refine lv_dup hx hb d_BM_occupy_16 rfl ?_
    refine g_get (own := "GroupBitmaps$Bitmap") (C := R_BM) (T := F_BM) (N := 5) (ci := 2) (v := .int (nI (sFr (uBt σ j (setb (sBt σ j) k true)) j))) hx hb hg ku_BM hown hK hI (6 + j) (wd_BM hj) rfl 3 (by decide) kw_38 rfl d_BM_occupy_17 ?_
    refine lv_iconst (v := nI 1) hx hb d_BM_occupy_20 (by decide) ?_
    refine r_isub (a := sFr (uBt σ j (setb (sBt σ j) k true)) j) (b := 1) hx hb (by omega) d_BM_occupy_21 ?_
    refine g_put (ws' := (wd ad cG cZ (uFr (uBt σ j (setb (sBt σ j) k true)) j (sFr σ j - 1)))) (own := "GroupBitmaps$Bitmap") (C := R_BM) (T := F_BM) (N := 5) (ci := 2) (v := .int (nI ((sFr (uBt σ j (setb (sBt σ j) k true)) j) - 1))) hx hb hg ku_BM t_BM t_BM_ok n_BM hown hK hI (6 + j) (wd_BM hj) rfl 3 (by decide) kw_38 rfl rfl (rfl) (rfl) (Nat.le_of_ble_eq_true rfl) (wd_uFr hj) d_BM_occupy_22 (fun H locs hI => ?_)
    refine lv_aload_n hx hb d_BM_occupy_25 rfl (lv_at hl 0 rfl) ?_
    refine lv_iconst (v := bI true) hx hb d_BM_occupy_26 (by decide) ?_
    refine g_put (ws' := (wd ad cG cZ (uTd (uFr (uBt σ j (setb (sBt σ j) k true)) j (sFr σ j - 1)) j true))) (own := "GroupBitmaps$Bitmap") (C := R_BM) (T := F_BM) (N := 5) (ci := 2) (v := .int (bI true)) hx hb hg ku_BM t_BM t_BM_ok n_BM hown hK hI (6 + j) (wd_BM hj) rfl 4 (by decide) kw_41 rfl rfl (bI_n _) (bI_fit _) (Nat.le_of_ble_eq_true rfl) (wd_uTd hj) d_BM_occupy_27 (fun H locs hI => ?_)
    exact g_rv hx hb hr hlk hI (rfl) d_BM_occupy_30
set_option maxHeartbeats 4000000 in
set_option maxRecDepth 100000 in
/-- free(k) -/
theorem c_BM_free {l : Launch} {D : va_G} {cG cZ cI cJ : ClassId} {ad : Nat → Nat} (σ : gS) (j : Nat) (hj : j < 8) (k : Nat) (hk : k < 2 ^ 31) (hz : sSz σ j ≤ gLen j) : gMet l D (gT cG cZ cI cJ) y_BM_free b_BM_free 2 none ({ frames := 0, cells := 0, slots := 0, locals := 0 }) (wd ad cG cZ σ) [.ref (ad (6 + j)), .int (nI k)] (wd ad cG cZ (sFre σ j k)) (none) := by
  refine gMet_of (by decide) (Nat.le_of_ble_eq_true rfl) ?_
  intro p e s m below meth c A ls hC hA hI hl
  obtain ⟨hx, hb, hr, hlk, hown, hml, hg, hK⟩ := hC
  have hown : s.vm.findClass "GroupBitmaps$Bitmap" = some m.cls := hown
  have hl : lv_has ls 2 [(0, .ref (ad (6 + j))), (1, .int (nI k))] := hl
  have hz2 := gLen_le j
  refine lv_iload_n hx hb d_BM_free_0 rfl (lv_at hl 1 rfl) ?_
  refine r_zlt (a := k) (tgt := 43) hx hb d_BM_free_1 (by decide) (hk) ?_
  refine lv_iload_n hx hb d_BM_free_4 rfl (lv_at hl 1 rfl) ?_
  refine lv_aload_n hx hb d_BM_free_5 rfl (lv_at hl 0 rfl) ?_
  refine g_get (own := "GroupBitmaps$Bitmap") (C := R_BM) (T := F_BM) (N := 5) (ci := 2) (v := .int (nI (sSz σ j))) hx hb hg ku_BM hown hK hI (6 + j) (wd_BM hj) rfl 2 (by decide) kw_36 rfl d_BM_free_6 ?_
  refine r_ge (a := k) (b := sSz σ j) (tgt := 43) hx hb d_BM_free_9 (by decide) (by omega) (by omega) (fun h => ?_) (fun h => ?_)
  · rw [sFre_f1 h]
    exact g_rv hx hb hr hlk hI (rfl) d_BM_free_43
  · refine lv_aload_n hx hb d_BM_free_12 rfl (lv_at hl 0 rfl) ?_
    refine g_get (own := "GroupBitmaps$Bitmap") (C := R_BM) (T := F_BM) (N := 5) (ci := 2) (v := .ref (ad (14 + j))) hx hb hg ku_BM hown hK hI (6 + j) (wd_BM hj) rfl 1 (by decide) kw_35 rfl d_BM_free_13 ?_
    refine lv_iload_n hx hb d_BM_free_16 rfl (lv_at hl 1 rfl) ?_
    refine g_zald (B := (sBt σ j)) (i := k) hx hb hK hI (14 + j) 1 (wd_BA hj) rfl (by omega) (gLen_lt _) d_BM_free_17 ?_
    refine r_bz (b := (sBt σ j) k) (tgt := 43) hx hb d_BM_free_18 (by decide) (fun h2 => ?_) (fun h2 => ?_)
    · rw [sFre_f2 h2]
      exact g_rv hx hb hr hlk hI (rfl) d_BM_free_43
    · rw [sFre_t h h2]
      refine lv_aload_n hx hb d_BM_free_21 rfl (lv_at hl 0 rfl) ?_
      refine g_get (own := "GroupBitmaps$Bitmap") (C := R_BM) (T := F_BM) (N := 5) (ci := 2) (v := .ref (ad (14 + j))) hx hb hg ku_BM hown hK hI (6 + j) (wd_BM hj) rfl 1 (by decide) kw_35 rfl d_BM_free_22 ?_
      refine lv_iload_n hx hb d_BM_free_25 rfl (lv_at hl 1 rfl) ?_
      refine lv_iconst (v := bI false) hx hb d_BM_free_26 (by decide) ?_
      refine g_zast (ws' := (wd ad cG cZ (uBt σ j (setb (sBt σ j) k false)))) (B := (sBt σ j)) (i := k) (b := false) hx hb hK hI (14 + j) 1 (wd_BA hj) rfl (by omega) (gLen_lt _) (wd_uBt (f := setb (sBt σ j) k false) hj) d_BM_free_27 (fun H locs hI => ?_)
      refine lv_aload_n hx hb d_BM_free_28 rfl (lv_at hl 0 rfl) ?_
      refine lv_dup hx hb d_BM_free_29 rfl ?_
      refine g_get (own := "GroupBitmaps$Bitmap") (C := R_BM) (T := F_BM) (N := 5) (ci := 2) (v := .int (nI (sFr (uBt σ j (setb (sBt σ j) k false)) j))) hx hb hg ku_BM hown hK hI (6 + j) (wd_BM hj) rfl 3 (by decide) kw_38 rfl d_BM_free_30 ?_
      refine lv_iconst (v := nI 1) hx hb d_BM_free_33 (by decide) ?_
      refine r_iadd (a := sFr (uBt σ j (setb (sBt σ j) k false)) j) (b := 1) hx hb d_BM_free_34 ?_
      refine g_put (ws' := (wd ad cG cZ (uFr (uBt σ j (setb (sBt σ j) k false)) j (sFr σ j + 1)))) (own := "GroupBitmaps$Bitmap") (C := R_BM) (T := F_BM) (N := 5) (ci := 2) (v := .int (nI ((sFr (uBt σ j (setb (sBt σ j) k false)) j) + 1))) hx hb hg ku_BM t_BM t_BM_ok n_BM hown hK hI (6 + j) (wd_BM hj) rfl 3 (by decide) kw_38 rfl rfl (rfl) (rfl) (Nat.le_of_ble_eq_true rfl) (wd_uFr hj) d_BM_free_35 (fun H locs hI => ?_)
      refine lv_aload_n hx hb d_BM_free_38 rfl (lv_at hl 0 rfl) ?_
      refine lv_iconst (v := bI true) hx hb d_BM_free_39 (by decide) ?_
      refine g_put (ws' := (wd ad cG cZ (uTd (uFr (uBt σ j (setb (sBt σ j) k false)) j (sFr σ j + 1)) j true))) (own := "GroupBitmaps$Bitmap") (C := R_BM) (T := F_BM) (N := 5) (ci := 2) (v := .int (bI true)) hx hb hg ku_BM t_BM t_BM_ok n_BM hown hK hI (6 + j) (wd_BM hj) rfl 4 (by decide) kw_41 rfl rfl (bI_n _) (bI_fit _) (Nat.le_of_ble_eq_true rfl) (wd_uTd hj) d_BM_free_40 (fun H locs hI => ?_)
      exact g_rv hx hb hr hlk hI (rfl) d_BM_free_43
set_option maxHeartbeats 4000000 in
set_option maxRecDepth 100000 in
/-- layOut(a, f) -/
theorem c_BM_layOut {l : Launch} {D : va_G} {cG cZ cI cJ : ClassId} {ad : Nat → Nat} (σ : gS) (j : Nat) (hj : j < 8) (a f : Nat) (ha : a < 2 ^ 31) (hfa : f ≤ a) : gMet l D (gT cG cZ cI cJ) y_BM_layOut b_BM_layOut 4 none ({ frames := 0, cells := 0, slots := 0, locals := 0 }) (wd ad cG cZ σ) [.ref (ad (6 + j)), .int (nI a), .int (nI f)] (wd ad cG cZ (sLay σ j a f)) (none) := by
  refine gMet_of (by decide) (Nat.le_of_ble_eq_true rfl) ?_
  intro p e s m below meth c A ls hC hA hI hl
  obtain ⟨hx, hb, hr, hlk, hown, hml, hg, hK⟩ := hC
  have hown : s.vm.findClass "GroupBitmaps$Bitmap" = some m.cls := hown
  have hl : lv_has ls 4 [(0, .ref (ad (6 + j))), (1, .int (nI a)), (2, .int (nI f))] := hl
  have hz2 := gLen_le j
  refine lv_iconst (v := nI 0) hx hb d_BM_layOut_0 (by decide) ?_
  refine lv_istore_n (lv' := [(3, .int (nI 0)), (0, .ref (ad (6 + j))), (1, .int (nI a)), (2, .int (nI f))]) hx hb d_BM_layOut_1 rfl hl (by decide) rfl (fun ls hl => ?_)
  have loop : ∀ (fuel : Nat) (k : Nat), gLen j + 1 ≤ fuel + k → (k ≤ gLen j) → ∀ (H : Heap) (locs : List Loc) (ls : Array Slot), gI D A s.heap (wd ad cG cZ (uBt σ j (lyf (sBt σ j) f a k))) H locs → lv_has ls 4 [(0, .ref (ad (6 + j))), (1, .int (nI a)), (2, .int (nI f)), (3, .int (nI k))] → W p l e ({ frames := 0, cells := 0, slots := 0, locals := 0 }) s m ([.ref (ad (6 + j)), .int (nI a), .int (nI f)] : List Value).toArray below meth c H locs 0 0 (gQ D below ([.ref (ad (6 + j)), .int (nI a), .int (nI f)] : List Value).toArray s A (wd ad cG cZ (sLay σ j a f)) (none)) (F0 m 2 ls []) := by
    intro fuel
    induction fuel with
    | zero => intro k hfu hk; exact absurd hfu (by omega)
    | succ fuel ih =>
      intro k hfu hk H locs ls hI hl
      refine lv_iload_n hx hb d_BM_layOut_2 rfl (lv_at hl 3 rfl) ?_
      refine lv_aload_n hx hb d_BM_layOut_3 rfl (lv_at hl 0 rfl) ?_
      refine g_get (own := "GroupBitmaps$Bitmap") (C := R_BM) (T := F_BM) (N := 5) (ci := 2) (v := .ref (ad (14 + j))) hx hb hg ku_BM hown hK hI (6 + j) (wd_BM hj) rfl 1 (by decide) kw_35 rfl d_BM_layOut_4 ?_
      refine g_alen hx hb hK hI (14 + j) 1 (wd_BA hj) rfl d_BM_layOut_7 ?_
      refine r_ge (a := k) (b := gLen j) (tgt := 38) hx hb d_BM_layOut_8 (by decide) (by omega) (gLen_lt _) (fun h => ?_) (fun h => ?_)
      · obtain rfl : k = gLen j := by omega
        refine lv_aload_n hx hb d_BM_layOut_38 rfl (lv_at hl 0 rfl) ?_
        refine lv_iload_n hx hb d_BM_layOut_39 rfl (lv_at hl 1 rfl) ?_
        refine g_put (ws' := (wd ad cG cZ (uSz (uBt σ j (lyf (sBt σ j) f a (gLen j))) j a))) (own := "GroupBitmaps$Bitmap") (C := R_BM) (T := F_BM) (N := 5) (ci := 2) (v := .int (nI a)) hx hb hg ku_BM t_BM t_BM_ok n_BM hown hK hI (6 + j) (wd_BM hj) rfl 2 (by decide) kw_36 rfl rfl (rfl) (rfl) (Nat.le_of_ble_eq_true rfl) (wd_uSz hj) d_BM_layOut_40 (fun H locs hI => ?_)
        refine lv_aload_n hx hb d_BM_layOut_43 rfl (lv_at hl 0 rfl) ?_
        refine lv_iload_n hx hb d_BM_layOut_44 rfl (lv_at hl 1 rfl) ?_
        refine lv_iload_n hx hb d_BM_layOut_45 rfl (lv_at hl 2 rfl) ?_
        refine r_isub (a := a) (b := f) hx hb (by omega) d_BM_layOut_46 ?_
        refine g_put (ws' := (wd ad cG cZ (uFr (uSz (uBt σ j (lyf (sBt σ j) f a (gLen j))) j a) j (a - f)))) (own := "GroupBitmaps$Bitmap") (C := R_BM) (T := F_BM) (N := 5) (ci := 2) (v := .int (nI (a - f))) hx hb hg ku_BM t_BM t_BM_ok n_BM hown hK hI (6 + j) (wd_BM hj) rfl 3 (by decide) kw_38 rfl rfl (rfl) (rfl) (Nat.le_of_ble_eq_true rfl) (wd_uFr hj) d_BM_layOut_47 (fun H locs hI => ?_)
        refine lv_aload_n hx hb d_BM_layOut_50 rfl (lv_at hl 0 rfl) ?_
        refine lv_iconst (v := bI true) hx hb d_BM_layOut_51 (by decide) ?_
        refine g_put (ws' := (wd ad cG cZ (uTd (uFr (uSz (uBt σ j (lyf (sBt σ j) f a (gLen j))) j a) j (a - f)) j true))) (own := "GroupBitmaps$Bitmap") (C := R_BM) (T := F_BM) (N := 5) (ci := 2) (v := .int (bI true)) hx hb hg ku_BM t_BM t_BM_ok n_BM hown hK hI (6 + j) (wd_BM hj) rfl 4 (by decide) kw_41 rfl rfl (bI_n _) (bI_fit _) (Nat.le_of_ble_eq_true rfl) (wd_uTd hj) d_BM_layOut_52 (fun H locs hI => ?_)
        exact g_rv hx hb hr hlk hI (rfl) d_BM_layOut_55
      · refine lv_aload_n hx hb d_BM_layOut_11 rfl (lv_at hl 0 rfl) ?_
        refine g_get (own := "GroupBitmaps$Bitmap") (C := R_BM) (T := F_BM) (N := 5) (ci := 2) (v := .ref (ad (14 + j))) hx hb hg ku_BM hown hK hI (6 + j) (wd_BM hj) rfl 1 (by decide) kw_35 rfl d_BM_layOut_12 ?_
        refine lv_iload_n hx hb d_BM_layOut_15 rfl (lv_at hl 3 rfl) ?_
        refine lv_iload_n hx hb d_BM_layOut_16 rfl (lv_at hl 3 rfl) ?_
        refine lv_iload_n hx hb d_BM_layOut_17 rfl (lv_at hl 2 rfl) ?_
        refine r_lt (a := k) (b := f) (tgt := 26) hx hb d_BM_layOut_18 (by decide) (by omega) (by omega) (fun h2 => ?_) (fun h2 => ?_)
        · refine lv_iconst (v := bI true) hx hb d_BM_layOut_26 (by decide) ?_
          refine lv_goto (tgt := 31) hx hb d_BM_layOut_27 (by decide) ?_
          refine g_zast (ws' := (wd ad cG cZ (uBt σ j (lyf (sBt σ j) f a (k + 1))))) (B := (sBt (uBt σ j (lyf (sBt σ j) f a k)) j)) (i := k) (b := true) hx hb hK hI (14 + j) 1 (wd_BA hj) rfl (by omega) (gLen_lt _) (lay_step hj (by simp [lyv]; omega)) d_BM_layOut_31 (fun H locs hI => ?_)
          refine lv_iinc (v := nI (k + 1)) (lv' := [(3, .int (nI (k + 1))), (0, .ref (ad (6 + j))), (1, .int (nI a)), (2, .int (nI f))]) hx hb d_BM_layOut_32 hl (k := 3) rfl (nI_1 _) (by decide) rfl (fun ls hl => ?_)
          refine lv_goto (tgt := 2) hx hb d_BM_layOut_35 (by decide) ?_
          exact ih (k + 1) (by omega) (by omega) _ _ _ hI (lv_sub hl [1, 2, 3, 0] rfl)
        · refine lv_iload_n hx hb d_BM_layOut_21 rfl (lv_at hl 3 rfl) ?_
          refine lv_iload_n hx hb d_BM_layOut_22 rfl (lv_at hl 1 rfl) ?_
          refine r_lt (a := k) (b := a) (tgt := 30) hx hb d_BM_layOut_23 (by decide) (by omega) (by omega) (fun h3 => ?_) (fun h3 => ?_)
          · refine lv_iconst (v := bI false) hx hb d_BM_layOut_30 (by decide) ?_
            refine g_zast (ws' := (wd ad cG cZ (uBt σ j (lyf (sBt σ j) f a (k + 1))))) (B := (sBt (uBt σ j (lyf (sBt σ j) f a k)) j)) (i := k) (b := false) hx hb hK hI (14 + j) 1 (wd_BA hj) rfl (by omega) (gLen_lt _) (lay_step hj (by simp [lyv]; omega)) d_BM_layOut_31 (fun H locs hI => ?_)
            refine lv_iinc (v := nI (k + 1)) (lv' := [(3, .int (nI (k + 1))), (0, .ref (ad (6 + j))), (1, .int (nI a)), (2, .int (nI f))]) hx hb d_BM_layOut_32 hl (k := 3) rfl (nI_1 _) (by decide) rfl (fun ls hl => ?_)
            refine lv_goto (tgt := 2) hx hb d_BM_layOut_35 (by decide) ?_
            exact ih (k + 1) (by omega) (by omega) _ _ _ hI (lv_sub hl [1, 2, 3, 0] rfl)
          · refine lv_iconst (v := bI true) hx hb d_BM_layOut_26 (by decide) ?_
            refine lv_goto (tgt := 31) hx hb d_BM_layOut_27 (by decide) ?_
            refine g_zast (ws' := (wd ad cG cZ (uBt σ j (lyf (sBt σ j) f a (k + 1))))) (B := (sBt (uBt σ j (lyf (sBt σ j) f a k)) j)) (i := k) (b := true) hx hb hK hI (14 + j) 1 (wd_BA hj) rfl (by omega) (gLen_lt _) (lay_step hj (by simp [lyv]; omega)) d_BM_layOut_31 (fun H locs hI => ?_)
            refine lv_iinc (v := nI (k + 1)) (lv' := [(3, .int (nI (k + 1))), (0, .ref (ad (6 + j))), (1, .int (nI a)), (2, .int (nI f))]) hx hb d_BM_layOut_32 hl (k := 3) rfl (nI_1 _) (by decide) rfl (fun ls hl => ?_)
            refine lv_goto (tgt := 2) hx hb d_BM_layOut_35 (by decide) ?_
            exact ih (k + 1) (by omega) (by omega) _ _ _ hI (lv_sub hl [1, 2, 3, 0] rfl)
  exact loop (gLen j + 1) 0 (by omega) (Nat.zero_le _) _ _ _ (by rw [lyf_0, uBt_id]; exact hI) (lv_sub hl [1, 2, 3, 0] rfl)
set_option maxHeartbeats 4000000 in
set_option maxRecDepth 100000 in
/-- forgetTold() -/
theorem c_BM_forgetTold {l : Launch} {D : va_G} {cG cZ cI cJ : ClassId} {ad : Nat → Nat} (σ : gS) (j : Nat) (hj : j < 8)  : gMet l D (gT cG cZ cI cJ) y_BM_forgetTold b_BM_forgetTold 2 (some .int) ({ frames := 0, cells := 0, slots := 0, locals := 0 }) (wd ad cG cZ σ) [.ref (ad (6 + j))] (wd ad cG cZ (uTd σ j false)) (some (.int (nI (if sTd σ j = true then 1 else 0)))) := by
  refine gMet_of (by decide) (Nat.le_of_ble_eq_true rfl) ?_
  intro p e s m below meth c A ls hC hA hI hl
  obtain ⟨hx, hb, hr, hlk, hown, hml, hg, hK⟩ := hC
  have hown : s.vm.findClass "GroupBitmaps$Bitmap" = some m.cls := hown
  have hl : lv_has ls 2 [(0, .ref (ad (6 + j)))] := hl
  refine lv_aload_n hx hb d_BM_forgetTold_0 rfl (lv_at hl 0 rfl) ?_
  refine g_get (own := "GroupBitmaps$Bitmap") (C := R_BM) (T := F_BM) (N := 5) (ci := 2) (v := .int (bI (sTd σ j))) hx hb hg ku_BM hown hK hI (6 + j) (wd_BM hj) rfl 4 (by decide) kw_41 rfl d_BM_forgetTold_1 ?_
  refine r_bz (b := sTd σ j) (tgt := 11) hx hb d_BM_forgetTold_4 (by decide) (fun h => ?_) (fun h => ?_)
  · refine lv_iconst (v := nI 0) hx hb d_BM_forgetTold_11 (by decide) ?_
    refine lv_istore_n (lv' := [(1, .int (nI 0)), (0, .ref (ad (6 + j)))]) hx hb d_BM_forgetTold_12 rfl hl (by decide) rfl (fun ls hl => ?_)
    refine lv_aload_n hx hb d_BM_forgetTold_13 rfl (lv_at hl 1 rfl) ?_
    refine lv_iconst (v := bI false) hx hb d_BM_forgetTold_14 (by decide) ?_
    refine g_put (ws' := (wd ad cG cZ (uTd σ j false))) (own := "GroupBitmaps$Bitmap") (C := R_BM) (T := F_BM) (N := 5) (ci := 2) (v := .int (bI false)) hx hb hg ku_BM t_BM t_BM_ok n_BM hown hK hI (6 + j) (wd_BM hj) rfl 4 (by decide) kw_41 rfl rfl (bI_n _) (bI_fit _) (Nat.le_of_ble_eq_true rfl) (wd_uTd hj) d_BM_forgetTold_15 (fun H locs hI => ?_)
    refine lv_iload_n hx hb d_BM_forgetTold_18 rfl (lv_at hl 0 rfl) ?_
    exact g_ri hx hb hr hlk hI (by rw [h]; rfl) d_BM_forgetTold_19
  · refine lv_iconst (v := nI 1) hx hb d_BM_forgetTold_7 (by decide) ?_
    refine lv_goto (tgt := 12) hx hb d_BM_forgetTold_8 (by decide) ?_
    refine lv_istore_n (lv' := [(1, .int (nI 1)), (0, .ref (ad (6 + j)))]) hx hb d_BM_forgetTold_12 rfl hl (by decide) rfl (fun ls hl => ?_)
    refine lv_aload_n hx hb d_BM_forgetTold_13 rfl (lv_at hl 1 rfl) ?_
    refine lv_iconst (v := bI false) hx hb d_BM_forgetTold_14 (by decide) ?_
    refine g_put (ws' := (wd ad cG cZ (uTd σ j false))) (own := "GroupBitmaps$Bitmap") (C := R_BM) (T := F_BM) (N := 5) (ci := 2) (v := .int (bI false)) hx hb hg ku_BM t_BM t_BM_ok n_BM hown hK hI (6 + j) (wd_BM hj) rfl 4 (by decide) kw_41 rfl rfl (bI_n _) (bI_fit _) (Nat.le_of_ble_eq_true rfl) (wd_uTd hj) d_BM_forgetTold_15 (fun H locs hI => ?_)
    refine lv_iload_n hx hb d_BM_forgetTold_18 rfl (lv_at hl 0 rfl) ?_
    exact g_ri hx hb hr hlk hI (by rw [h]; rfl) d_BM_forgetTold_19
end
section
theorem byo : ∀ k, k < 8 → ∀ a, a < 2 ^ k → nI a ||| (nI 1 <<< (nI k &&& 31)) = nI (a + 2 ^ k) := by decide +kernel
theorem sBy_lt (σ : gS) (j i k : Nat) : sBy σ j i k < 2 ^ k := by
  induction k with
  | zero => exact Nat.one_pos
  | succ k ih =>
    have h2 : (2 : Nat) ^ (k + 1) = 2 ^ k + 2 ^ k := by rw [Nat.pow_succ]; omega
    generalize hq : (2 : Nat) ^ k = q at h2 ih
    cases hc : sSet σ j (8 * i + k) with
    | true =>
      have e1 : sBy σ j i (k + 1) = sBy σ j i k + 2 ^ k := by simp [sBy, hc]
      rw [e1, h2, hq]
      omega
    | false =>
      have e1 : sBy σ j i (k + 1) = sBy σ j i k := by simp [sBy, hc]
      rw [e1, h2]
      omega
theorem sLf_some {σ : gS} {j k n : Nat} (h : sLf σ j k = none) (hs : sSet σ j k = false) (hk : k < n) : sLf σ j n = some k := by
  obtain ⟨t, rfl⟩ : ∃ t, n = k + 1 + t := ⟨n - (k + 1), by omega⟩
  clear hk
  induction t with
  | zero => simp [sLf, h, hs]
  | succ t ih =>
    show (match sLf σ j (k + 1 + t) with | some q => some q | none => _) = _
    rw [ih]
theorem sLf_step {σ : gS} {j k : Nat} (h : sLf σ j k = none) (hs : sSet σ j k = true) : sLf σ j (k + 1) = none := by
  simp [sLf, h, hs]
theorem sAf_false {σ : gS} {j a t n : Nat} (hs : sSet σ j (a + t) = true) (hk : t < n) : sAf σ j a n = false := by
  obtain ⟨u, rfl⟩ : ∃ u, n = t + 1 + u := ⟨n - (t + 1), by omega⟩
  clear hk
  induction u with
  | zero => simp [sAf, hs]
  | succ u ih =>
    show (sAf σ j a (t + 1 + u) && _) = false
    rw [ih]; rfl
theorem sAf_step {σ : gS} {j a t : Nat} (h : sAf σ j a t = true) (hs : sSet σ j (a + t) = false) : sAf σ j a (t + 1) = true := by
  simp [sAf, h, hs]
theorem sLr_t {σ : gS} {j k : Nat} (h : sSet σ j k = true) : sLr σ j (k + 1) = (Nat.max (sLr σ j k).1 0, 0) := by simp [sLr, h, sLen]
theorem sLr_f {σ : gS} {j k : Nat} (h : sSet σ j k = false) : sLr σ j (k + 1) = (Nat.max (sLr σ j k).1 ((sLr σ j k).2 + 1), (sLr σ j k).2 + 1) := by simp [sLr, h, sLen]
theorem sSr_s {σ : gS} {j n k len : Nat} (hl : sLen (sSet σ j k) (sSr σ j n k).2.2 = len) : sSr σ j n (k + 1) = sSrN n k (sSr σ j n k) len (sSet σ j (k + 1)) := by rw [← hl]; rfl
theorem sSrN_1 {n k len : Nat} {q : Option Nat × Nat × Nat} {e : Bool} (h : len < n) : sSrN n k q len e = (q.1, q.2.1, len) := if_neg (fun z => absurd z.1 (Nat.not_le.mpr h))
theorem sSrN_2 {n k len : Nat} {q : Option Nat × Nat × Nat} {e : Bool} (h : q.2.1 ≤ len) : sSrN n k q len e = (q.1, q.2.1, len) := if_neg (fun z => absurd z.2.1 (Nat.not_lt.mpr h))
theorem sSrN_3 {n k len : Nat} {q : Option Nat × Nat × Nat} {e : Bool} (h : e = false) : sSrN n k q len e = (q.1, q.2.1, len) := if_neg (fun z => by rw [h] at z; exact absurd z.2.2 (by decide))
theorem sSrN_4 {n k len : Nat} {q : Option Nat × Nat × Nat} {e : Bool} (h1 : n ≤ len) (h2 : len < q.2.1) (h : e = true) : sSrN n k q len e = (some (k + 1 - len), len, len) := if_pos ⟨h1, h2, h⟩
end
section
set_option maxHeartbeats 4000000 in
set_option maxRecDepth 100000 in
/-- byteAt(i) -/
theorem c_BM_byteAt {l : Launch} {D : va_G} {cG cZ cI cJ : ClassId} {ad : Nat → Nat} (σ : gS) (j : Nat) (hj : j < 8) (i : Nat) (hi : i < 4096) : gMet l D (gT cG cZ cI cJ) y_BM_byteAt b_BM_byteAt 4 (some .int) ({ frames := 1, cells := 0, slots := 0, locals := 21 }) (wd ad cG cZ σ) [.ref (ad (6 + j)), .int (nI i)] (wd ad cG cZ σ) (some (.int (nI (sBy σ j i 8)))) := by
  refine gMet_of (by decide) (Nat.le_of_ble_eq_true rfl) ?_
  intro p e s m below meth c A ls hC hA hI hl
  obtain ⟨hx, hb, hr, hlk, hown, hml, hg, hK⟩ := hC
  have hown : s.vm.findClass "GroupBitmaps$Bitmap" = some m.cls := hown
  have hl : lv_has ls 4 [(0, .ref (ad (6 + j))), (1, .int (nI i))] := hl
  have hz2 := gLen_le j
  refine lv_iconst (v := nI 0) hx hb d_BM_byteAt_0 (by decide) ?_
  refine lv_istore_n (lv' := [(2, .int (nI 0)), (0, .ref (ad (6 + j))), (1, .int (nI i))]) hx hb d_BM_byteAt_1 rfl hl (by decide) rfl (fun ls hl => ?_)
  refine lv_iconst (v := nI 0) hx hb d_BM_byteAt_2 (by decide) ?_
  refine lv_istore_n (lv' := [(3, .int (nI 0)), (2, .int (nI 0)), (0, .ref (ad (6 + j))), (1, .int (nI i))]) hx hb d_BM_byteAt_3 rfl hl (by decide) rfl (fun ls hl => ?_)
  have loop : ∀ (fuel : Nat) (k : Nat), 9 ≤ fuel + k → (k ≤ 8) → ∀ (H : Heap) (locs : List Loc) (ls : Array Slot), gI D A s.heap (wd ad cG cZ σ) H locs → lv_has ls 4 [(0, .ref (ad (6 + j))), (1, .int (nI i)), (2, .int (nI (sBy σ j i k))), (3, .int (nI k))] → W p l e ({ frames := 1, cells := 0, slots := 0, locals := 21 }) s m ([.ref (ad (6 + j)), .int (nI i)] : List Value).toArray below meth c H locs 0 0 (gQ D below ([.ref (ad (6 + j)), .int (nI i)] : List Value).toArray s A (wd ad cG cZ σ) (some (.int (nI (sBy σ j i 8))))) (F0 m 4 ls []) := by
    intro fuel
    induction fuel with
    | zero => intro k hfu hk; exact absurd hfu (by omega)
    | succ fuel ih =>
      intro k hfu hk H locs ls hI hl
      refine lv_iload_n hx hb d_BM_byteAt_4 rfl (lv_at hl 3 rfl) ?_
      refine lv_bipush (v := nI 8) hx hb d_BM_byteAt_5 (by decide) ?_
      refine r_ge (a := k) (b := 8) (tgt := 35) hx hb d_BM_byteAt_7 (by decide) (by omega) (by omega) (fun h => ?_) (fun h => ?_)
      · obtain rfl : k = 8 := by omega
        refine lv_iload_n hx hb d_BM_byteAt_35 rfl (lv_at hl 2 rfl) ?_
        exact g_ri hx hb hr hlk hI (rfl) d_BM_byteAt_36
      · refine lv_aload_n hx hb d_BM_byteAt_10 rfl (lv_at hl 0 rfl) ?_
        refine lv_bipush (v := nI 8) hx hb d_BM_byteAt_11 (by decide) ?_
        refine lv_iload_n hx hb d_BM_byteAt_13 rfl (lv_at hl 1 rfl) ?_
        refine r_imul (a := 8) (b := i) hx hb d_BM_byteAt_14 ?_
        refine lv_iload_n hx hb d_BM_byteAt_15 rfl (lv_at hl 3 rfl) ?_
        refine r_iadd (a := 8 * i) (b := k) hx hb d_BM_byteAt_16 ?_
        refine g_callV (own := "GroupBitmaps$Bitmap") (C := "GroupBitmaps$Bitmap") (T := F_BM) (N := 5) (k := 1) (q0 := 6 + j) (ci := 2) (a := ad (6 + j)) (As := [.int (nI ((8 * i) + k))]) (rest := []) (c_BM_isSet σ j hj (8 * i + k) (by omega)) hx hb hml hown hg hK hI hA kw_264 kw_265 kw_266 kw_3 kw_267 ky_BM_isSet ⟨Nat.le_of_ble_eq_true rfl, Nat.le_of_ble_eq_true rfl⟩ rfl rfl (wd_BM hj) rfl rfl hl.1 (Nat.le_of_ble_eq_true rfl) ⟨Nat.zero_le _, Nat.zero_le _⟩ d_BM_byteAt_17 rfl rfl (fun H locs hI => ?_)
        refine r_bz (b := sSet σ j (8 * i + k)) (tgt := 29) hx hb d_BM_byteAt_20 (by decide) (fun h2 => ?_) (fun h2 => ?_)
        · have e1 : sBy σ j i (k + 1) = sBy σ j i k := by simp [sBy, h2]
          refine lv_iinc (v := nI (k + 1)) (lv' := [(3, .int (nI (k + 1))), (0, .ref (ad (6 + j))), (1, .int (nI i)), (2, .int (nI (sBy σ j i k)))]) hx hb d_BM_byteAt_29 hl (k := 3) rfl (nI_1 _) (by decide) rfl (fun ls hl => ?_)
          refine lv_goto (tgt := 4) hx hb d_BM_byteAt_32 (by decide) ?_
          exact ih (k + 1) (by omega) (by omega) _ _ _ hI (by rw [e1]; exact lv_sub hl [1, 2, 3, 0] rfl)
        · have e1 : sBy σ j i (k + 1) = sBy σ j i k + 2 ^ k := by simp [sBy, h2]
          refine lv_iload_n hx hb d_BM_byteAt_23 rfl (lv_at hl 2 rfl) ?_
          refine lv_iconst (v := nI 1) hx hb d_BM_byteAt_24 (by decide) ?_
          refine lv_iload_n hx hb d_BM_byteAt_25 rfl (lv_at hl 3 rfl) ?_
          refine lv_ishl hx hb d_BM_byteAt_26 ?_
          refine lv_ior hx hb d_BM_byteAt_27 ?_
          rw [byo k (by omega) _ (sBy_lt σ j i k)]
          refine lv_istore_n (lv' := [(2, .int (nI (sBy σ j i k + 2 ^ k))), (0, .ref (ad (6 + j))), (1, .int (nI i)), (3, .int (nI k))]) hx hb d_BM_byteAt_28 rfl hl (by decide) rfl (fun ls hl => ?_)
          refine lv_iinc (v := nI (k + 1)) (lv' := [(3, .int (nI (k + 1))), (2, .int (nI (sBy σ j i k + 2 ^ k))), (0, .ref (ad (6 + j))), (1, .int (nI i))]) hx hb d_BM_byteAt_29 hl (k := 3) rfl (nI_1 _) (by decide) rfl (fun ls hl => ?_)
          refine lv_goto (tgt := 4) hx hb d_BM_byteAt_32 (by decide) ?_
          exact ih (k + 1) (by omega) (by omega) _ _ _ hI (by rw [e1]; exact lv_sub hl [2, 3, 1, 0] rfl)
  exact loop 9 0 (by omega) (by omega) _ _ _ hI (lv_sub hl [2, 3, 1, 0] rfl)
set_option maxHeartbeats 4000000 in
set_option maxRecDepth 100000 in
/-- leastFree() -/
theorem c_BM_leastFree {l : Launch} {D : va_G} {cG cZ cI cJ : ClassId} {ad : Nat → Nat} (σ : gS) (j : Nat) (hj : j < 8) (hz : sSz σ j ≤ gLen j) : gMet l D (gT cG cZ cI cJ) y_BM_leastFree b_BM_leastFree 2 (some .int) ({ frames := 1, cells := 0, slots := 0, locals := 21 }) (wd ad cG cZ σ) [.ref (ad (6 + j))] (wd ad cG cZ σ) (some (.int (oI (sLf σ j (sSz σ j))))) := by
  refine gMet_of (by decide) (Nat.le_of_ble_eq_true rfl) ?_
  intro p e s m below meth c A ls hC hA hI hl
  obtain ⟨hx, hb, hr, hlk, hown, hml, hg, hK⟩ := hC
  have hown : s.vm.findClass "GroupBitmaps$Bitmap" = some m.cls := hown
  have hl : lv_has ls 2 [(0, .ref (ad (6 + j)))] := hl
  have hz2 := gLen_le j
  refine lv_iconst (v := nI 0) hx hb d_BM_leastFree_0 (by decide) ?_
  refine lv_istore_n (lv' := [(1, .int (nI 0)), (0, .ref (ad (6 + j)))]) hx hb d_BM_leastFree_1 rfl hl (by decide) rfl (fun ls hl => ?_)
  have loop : ∀ (fuel : Nat) (k : Nat), sSz σ j + 1 ≤ fuel + k → (k ≤ sSz σ j) → (sLf σ j k = none) → ∀ (H : Heap) (locs : List Loc) (ls : Array Slot), gI D A s.heap (wd ad cG cZ σ) H locs → lv_has ls 2 [(0, .ref (ad (6 + j))), (1, .int (nI k))] → W p l e ({ frames := 1, cells := 0, slots := 0, locals := 21 }) s m ([.ref (ad (6 + j))] : List Value).toArray below meth c H locs 0 0 (gQ D below ([.ref (ad (6 + j))] : List Value).toArray s A (wd ad cG cZ σ) (some (.int (oI (sLf σ j (sSz σ j)))))) (F0 m 2 ls []) := by
    intro fuel
    induction fuel with
    | zero => intro k hfu hk hn; exact absurd hfu (by omega)
    | succ fuel ih =>
      intro k hfu hk hn H locs ls hI hl
      refine lv_iload_n hx hb d_BM_leastFree_2 rfl (lv_at hl 1 rfl) ?_
      refine lv_aload_n hx hb d_BM_leastFree_3 rfl (lv_at hl 0 rfl) ?_
      refine g_get (own := "GroupBitmaps$Bitmap") (C := R_BM) (T := F_BM) (N := 5) (ci := 2) (v := .int (nI (sSz σ j))) hx hb hg ku_BM hown hK hI (6 + j) (wd_BM hj) rfl 2 (by decide) kw_36 rfl d_BM_leastFree_4 ?_
      refine r_ge (a := k) (b := sSz σ j) (tgt := 26) hx hb d_BM_leastFree_7 (by decide) (by omega) (by omega) (fun h => ?_) (fun h => ?_)
      · obtain rfl : k = sSz σ j := by omega
        refine lv_iconst (v := (-1)) hx hb d_BM_leastFree_26 (by decide) ?_
        exact g_ri hx hb hr hlk hI (by rw [hn]; rfl) d_BM_leastFree_27
      · refine lv_aload_n hx hb d_BM_leastFree_10 rfl (lv_at hl 0 rfl) ?_
        refine lv_iload_n hx hb d_BM_leastFree_11 rfl (lv_at hl 1 rfl) ?_
        refine g_callV (own := "GroupBitmaps$Bitmap") (C := "GroupBitmaps$Bitmap") (T := F_BM) (N := 5) (k := 1) (q0 := 6 + j) (ci := 2) (a := ad (6 + j)) (As := [.int (nI k)]) (rest := []) (c_BM_isSet σ j hj k (by omega)) hx hb hml hown hg hK hI hA kw_264 kw_265 kw_266 kw_3 kw_267 ky_BM_isSet ⟨Nat.le_of_ble_eq_true rfl, Nat.le_of_ble_eq_true rfl⟩ rfl rfl (wd_BM hj) rfl rfl hl.1 (Nat.le_of_ble_eq_true rfl) ⟨Nat.zero_le _, Nat.zero_le _⟩ d_BM_leastFree_12 rfl rfl (fun H locs hI => ?_)
        refine r_bnz (b := sSet σ j k) (tgt := 20) hx hb d_BM_leastFree_15 (by decide) (fun h2 => ?_) (fun h2 => ?_)
        · refine lv_iinc (v := nI (k + 1)) (lv' := [(1, .int (nI (k + 1))), (0, .ref (ad (6 + j)))]) hx hb d_BM_leastFree_20 hl (k := 1) rfl (nI_1 _) (by decide) rfl (fun ls hl => ?_)
          refine lv_goto (tgt := 2) hx hb d_BM_leastFree_23 (by decide) ?_
          exact ih (k + 1) (by omega) (by omega) (sLf_step hn h2) _ _ _ hI (lv_sub hl [1, 0] rfl)
        · refine lv_iload_n hx hb d_BM_leastFree_18 rfl (lv_at hl 1 rfl) ?_
          exact g_ri hx hb hr hlk hI (by rw [sLf_some hn h2 h]; rfl) d_BM_leastFree_19
  exact loop (sSz σ j + 1) 0 (by omega) (Nat.zero_le _) rfl _ _ _ hI (lv_sub hl [1, 0] rfl)
set_option maxHeartbeats 4000000 in
set_option maxRecDepth 100000 in
/-- areFree(a, q) -/
theorem c_BM_areFree {l : Launch} {D : va_G} {cG cZ cI cJ : ClassId} {ad : Nat → Nat} (σ : gS) (j : Nat) (hj : j < 8) (a q : Nat) (ha : a < 65536) (hq : q < 65536) : gMet l D (gT cG cZ cI cJ) y_BM_areFree b_BM_areFree 4 (some .boolean) ({ frames := 1, cells := 0, slots := 0, locals := 21 }) (wd ad cG cZ σ) [.ref (ad (6 + j)), .int (nI a), .int (nI q)] (wd ad cG cZ σ) (some (.int (bI (sAf σ j a q)))) := by
  refine gMet_of (by decide) (Nat.le_of_ble_eq_true rfl) ?_
  intro p e s m below meth c A ls hC hA hI hl
  obtain ⟨hx, hb, hr, hlk, hown, hml, hg, hK⟩ := hC
  have hown : s.vm.findClass "GroupBitmaps$Bitmap" = some m.cls := hown
  have hl : lv_has ls 4 [(0, .ref (ad (6 + j))), (1, .int (nI a)), (2, .int (nI q))] := hl
  have hz2 := gLen_le j
  refine lv_iload_n hx hb d_BM_areFree_0 rfl (lv_at hl 1 rfl) ?_
  refine lv_istore_n (lv' := [(3, .int (nI a)), (0, .ref (ad (6 + j))), (1, .int (nI a)), (2, .int (nI q))]) hx hb d_BM_areFree_1 rfl hl (by decide) rfl (fun ls hl => ?_)
  have loop : ∀ (fuel : Nat) (t : Nat), q + 1 ≤ fuel + t → (t ≤ q) → (sAf σ j a t = true) → ∀ (H : Heap) (locs : List Loc) (ls : Array Slot), gI D A s.heap (wd ad cG cZ σ) H locs → lv_has ls 4 [(0, .ref (ad (6 + j))), (1, .int (nI a)), (2, .int (nI q)), (3, .int (nI (a + t)))] → W p l e ({ frames := 1, cells := 0, slots := 0, locals := 21 }) s m ([.ref (ad (6 + j)), .int (nI a), .int (nI q)] : List Value).toArray below meth c H locs 0 0 (gQ D below ([.ref (ad (6 + j)), .int (nI a), .int (nI q)] : List Value).toArray s A (wd ad cG cZ σ) (some (.int (bI (sAf σ j a q))))) (F0 m 2 ls []) := by
    intro fuel
    induction fuel with
    | zero => intro t hfu ht hn; exact absurd hfu (by omega)
    | succ fuel ih =>
      intro t hfu ht hn H locs ls hI hl
      refine lv_iload_n hx hb d_BM_areFree_2 rfl (lv_at hl 3 rfl) ?_
      refine lv_iload_n hx hb d_BM_areFree_3 rfl (lv_at hl 1 rfl) ?_
      refine lv_iload_n hx hb d_BM_areFree_4 rfl (lv_at hl 2 rfl) ?_
      refine r_iadd (a := a) (b := q) hx hb d_BM_areFree_5 ?_
      refine r_ge (a := a + t) (b := a + q) (tgt := 25) hx hb d_BM_areFree_6 (by decide) (by omega) (by omega) (fun h => ?_) (fun h => ?_)
      · obtain rfl : t = q := by omega
        refine lv_iconst (v := bI true) hx hb d_BM_areFree_25 (by decide) ?_
        exact g_rz hx hb hr hlk hI (by rw [hn]) d_BM_areFree_26
      · refine lv_aload_n hx hb d_BM_areFree_9 rfl (lv_at hl 0 rfl) ?_
        refine lv_iload_n hx hb d_BM_areFree_10 rfl (lv_at hl 3 rfl) ?_
        refine g_callV (own := "GroupBitmaps$Bitmap") (C := "GroupBitmaps$Bitmap") (T := F_BM) (N := 5) (k := 1) (q0 := 6 + j) (ci := 2) (a := ad (6 + j)) (As := [.int (nI (a + t))]) (rest := []) (c_BM_isSet σ j hj (a + t) (by omega)) hx hb hml hown hg hK hI hA kw_264 kw_265 kw_266 kw_3 kw_267 ky_BM_isSet ⟨Nat.le_of_ble_eq_true rfl, Nat.le_of_ble_eq_true rfl⟩ rfl rfl (wd_BM hj) rfl rfl hl.1 (Nat.le_of_ble_eq_true rfl) ⟨Nat.zero_le _, Nat.zero_le _⟩ d_BM_areFree_11 rfl rfl (fun H locs hI => ?_)
        refine r_bz (b := sSet σ j (a + t)) (tgt := 19) hx hb d_BM_areFree_14 (by decide) (fun h2 => ?_) (fun h2 => ?_)
        · refine lv_iinc (v := nI ((a + t) + 1)) (lv' := [(3, .int (nI ((a + t) + 1))), (0, .ref (ad (6 + j))), (1, .int (nI a)), (2, .int (nI q))]) hx hb d_BM_areFree_19 hl (k := 3) rfl (nI_1 _) (by decide) rfl (fun ls hl => ?_)
          refine lv_goto (tgt := 2) hx hb d_BM_areFree_22 (by decide) ?_
          exact ih (t + 1) (by omega) (by omega) (sAf_step hn h2) _ _ _ hI (lv_sub hl [1, 2, 3, 0] rfl)
        · refine lv_iconst (v := bI false) hx hb d_BM_areFree_17 (by decide) ?_
          exact g_rz hx hb hr hlk hI (by rw [sAf_false h2 (by omega)]) d_BM_areFree_18
  exact loop (q + 1) 0 (by omega) (Nat.zero_le _) rfl _ _ _ hI (lv_sub hl [1, 2, 3, 0] rfl)
set_option maxHeartbeats 4000000 in
set_option maxRecDepth 100000 in
/-- longestRun() -/
theorem c_BM_longestRun {l : Launch} {D : va_G} {cG cZ cI cJ : ClassId} {ad : Nat → Nat} (σ : gS) (j : Nat) (hj : j < 8) (hz : sSz σ j ≤ gLen j) : gMet l D (gT cG cZ cI cJ) y_BM_longestRun b_BM_longestRun 4 (some .int) ({ frames := 1, cells := 0, slots := 0, locals := 21 }) (wd ad cG cZ σ) [.ref (ad (6 + j))] (wd ad cG cZ σ) (some (.int (nI (sLr σ j (sSz σ j)).1))) := by
  refine gMet_of (by decide) (Nat.le_of_ble_eq_true rfl) ?_
  intro p e s m below meth c A ls hC hA hI hl
  obtain ⟨hx, hb, hr, hlk, hown, hml, hg, hK⟩ := hC
  have hown : s.vm.findClass "GroupBitmaps$Bitmap" = some m.cls := hown
  have hl : lv_has ls 4 [(0, .ref (ad (6 + j)))] := hl
  have hz2 := gLen_le j
  refine lv_iconst (v := nI 0) hx hb d_BM_longestRun_0 (by decide) ?_
  refine lv_istore_n (lv' := [(1, .int (nI 0)), (0, .ref (ad (6 + j)))]) hx hb d_BM_longestRun_1 rfl hl (by decide) rfl (fun ls hl => ?_)
  refine lv_iconst (v := nI 0) hx hb d_BM_longestRun_2 (by decide) ?_
  refine lv_istore_n (lv' := [(2, .int (nI 0)), (1, .int (nI 0)), (0, .ref (ad (6 + j)))]) hx hb d_BM_longestRun_3 rfl hl (by decide) rfl (fun ls hl => ?_)
  refine lv_iconst (v := nI 0) hx hb d_BM_longestRun_4 (by decide) ?_
  refine lv_istore_n (lv' := [(3, .int (nI 0)), (2, .int (nI 0)), (1, .int (nI 0)), (0, .ref (ad (6 + j)))]) hx hb d_BM_longestRun_5 rfl hl (by decide) rfl (fun ls hl => ?_)
  have loop : ∀ (fuel : Nat) (k : Nat), sSz σ j + 1 ≤ fuel + k → (k ≤ sSz σ j) → ∀ (H : Heap) (locs : List Loc) (ls : Array Slot), gI D A s.heap (wd ad cG cZ σ) H locs → lv_has ls 4 [(0, .ref (ad (6 + j))), (1, .int (nI ((sLr σ j k).1))), (2, .int (nI ((sLr σ j k).2))), (3, .int (nI k))] → W p l e ({ frames := 1, cells := 0, slots := 0, locals := 21 }) s m ([.ref (ad (6 + j))] : List Value).toArray below meth c H locs 0 0 (gQ D below ([.ref (ad (6 + j))] : List Value).toArray s A (wd ad cG cZ σ) (some (.int (nI (sLr σ j (sSz σ j)).1)))) (F0 m 6 ls []) := by
    intro fuel
    induction fuel with
    | zero => intro k hfu hk; exact absurd hfu (by omega)
    | succ fuel ih =>
      intro k hfu hk H locs ls hI hl
      have hle := sLr_le σ j k
      refine lv_iload_n hx hb d_BM_longestRun_6 rfl (lv_at hl 3 rfl) ?_
      refine lv_aload_n hx hb d_BM_longestRun_7 rfl (lv_at hl 0 rfl) ?_
      refine g_get (own := "GroupBitmaps$Bitmap") (C := R_BM) (T := F_BM) (N := 5) (ci := 2) (v := .int (nI (sSz σ j))) hx hb hg ku_BM hown hK hI (6 + j) (wd_BM hj) rfl 2 (by decide) kw_36 rfl d_BM_longestRun_8 ?_
      refine r_ge (a := k) (b := sSz σ j) (tgt := 42) hx hb d_BM_longestRun_11 (by decide) (by omega) (by omega) (fun h => ?_) (fun h => ?_)
      · obtain rfl : k = sSz σ j := by omega
        refine lv_iload_n hx hb d_BM_longestRun_42 rfl (lv_at hl 1 rfl) ?_
        exact g_ri hx hb hr hlk hI (rfl) d_BM_longestRun_43
      · refine lv_aload_n hx hb d_BM_longestRun_14 rfl (lv_at hl 0 rfl) ?_
        refine lv_iload_n hx hb d_BM_longestRun_15 rfl (lv_at hl 3 rfl) ?_
        refine g_callV (own := "GroupBitmaps$Bitmap") (C := "GroupBitmaps$Bitmap") (T := F_BM) (N := 5) (k := 1) (q0 := 6 + j) (ci := 2) (a := ad (6 + j)) (As := [.int (nI k)]) (rest := []) (c_BM_isSet σ j hj k (by omega)) hx hb hml hown hg hK hI hA kw_264 kw_265 kw_266 kw_3 kw_267 ky_BM_isSet ⟨Nat.le_of_ble_eq_true rfl, Nat.le_of_ble_eq_true rfl⟩ rfl rfl (wd_BM hj) rfl rfl hl.1 (Nat.le_of_ble_eq_true rfl) ⟨Nat.zero_le _, Nat.zero_le _⟩ d_BM_longestRun_16 rfl rfl (fun H locs hI => ?_)
        refine r_bz (b := sSet σ j k) (tgt := 26) hx hb d_BM_longestRun_19 (by decide) (fun h2 => ?_) (fun h2 => ?_)
        · have e1 := sLr_f h2
          refine lv_iload_n hx hb d_BM_longestRun_26 rfl (lv_at hl 2 rfl) ?_
          refine lv_iconst (v := nI 1) hx hb d_BM_longestRun_27 (by decide) ?_
          refine r_iadd (a := (sLr σ j k).2) (b := 1) hx hb d_BM_longestRun_28 ?_
          refine lv_istore_n (lv' := [(2, .int (nI (((sLr σ j k).2) + 1))), (0, .ref (ad (6 + j))), (1, .int (nI ((sLr σ j k).1))), (3, .int (nI k))]) hx hb d_BM_longestRun_29 rfl hl (by decide) rfl (fun ls hl => ?_)
          refine lv_iload_n hx hb d_BM_longestRun_30 rfl (lv_at hl 2 rfl) ?_
          refine lv_iload_n hx hb d_BM_longestRun_31 rfl (lv_at hl 0 rfl) ?_
          refine r_max (a := (sLr σ j k).1) (b := ((sLr σ j k).2) + 1) (own := "GroupBitmaps$Bitmap") hx hb hml hl.1 hown hg kw_292 kw_213 kw_9 kw_214 (Nat.le_of_ble_eq_true rfl) (Nat.le_of_ble_eq_true rfl) (Nat.zero_le _) (Nat.zero_le _) (by omega) (by omega) d_BM_longestRun_32 ?_
          refine lv_istore_n (lv' := [(1, .int (nI (Nat.max ((sLr σ j k).1) (((sLr σ j k).2) + 1)))), (2, .int (nI (((sLr σ j k).2) + 1))), (0, .ref (ad (6 + j))), (3, .int (nI k))]) hx hb d_BM_longestRun_35 rfl hl (by decide) rfl (fun ls hl => ?_)
          refine lv_iinc (v := nI (k + 1)) (lv' := [(3, .int (nI (k + 1))), (1, .int (nI (Nat.max ((sLr σ j k).1) (((sLr σ j k).2) + 1)))), (2, .int (nI (((sLr σ j k).2) + 1))), (0, .ref (ad (6 + j)))]) hx hb d_BM_longestRun_36 hl (k := 3) rfl (nI_1 _) (by decide) rfl (fun ls hl => ?_)
          refine lv_goto (tgt := 6) hx hb d_BM_longestRun_39 (by decide) ?_
          exact ih (k + 1) (by omega) (by omega) _ _ _ hI (by rw [e1]; exact lv_sub hl [3, 1, 2, 0] rfl)
        · have e1 := sLr_t h2
          refine lv_iconst (v := nI 0) hx hb d_BM_longestRun_22 (by decide) ?_
          refine lv_goto (tgt := 29) hx hb d_BM_longestRun_23 (by decide) ?_
          refine lv_istore_n (lv' := [(2, .int (nI 0)), (0, .ref (ad (6 + j))), (1, .int (nI ((sLr σ j k).1))), (3, .int (nI k))]) hx hb d_BM_longestRun_29 rfl hl (by decide) rfl (fun ls hl => ?_)
          refine lv_iload_n hx hb d_BM_longestRun_30 rfl (lv_at hl 2 rfl) ?_
          refine lv_iload_n hx hb d_BM_longestRun_31 rfl (lv_at hl 0 rfl) ?_
          refine r_max (a := (sLr σ j k).1) (b := 0) (own := "GroupBitmaps$Bitmap") hx hb hml hl.1 hown hg kw_292 kw_213 kw_9 kw_214 (Nat.le_of_ble_eq_true rfl) (Nat.le_of_ble_eq_true rfl) (Nat.zero_le _) (Nat.zero_le _) (by omega) (by omega) d_BM_longestRun_32 ?_
          refine lv_istore_n (lv' := [(1, .int (nI (Nat.max ((sLr σ j k).1) 0))), (2, .int (nI 0)), (0, .ref (ad (6 + j))), (3, .int (nI k))]) hx hb d_BM_longestRun_35 rfl hl (by decide) rfl (fun ls hl => ?_)
          refine lv_iinc (v := nI (k + 1)) (lv' := [(3, .int (nI (k + 1))), (1, .int (nI (Nat.max ((sLr σ j k).1) 0))), (2, .int (nI 0)), (0, .ref (ad (6 + j)))]) hx hb d_BM_longestRun_36 hl (k := 3) rfl (nI_1 _) (by decide) rfl (fun ls hl => ?_)
          refine lv_goto (tgt := 6) hx hb d_BM_longestRun_39 (by decide) ?_
          exact ih (k + 1) (by omega) (by omega) _ _ _ hI (by rw [e1]; exact lv_sub hl [3, 1, 2, 0] rfl)
  exact loop (sSz σ j + 1) 0 (by omega) (Nat.zero_le _) _ _ _ hI (lv_sub hl [3, 2, 1, 0] rfl)
set_option maxHeartbeats 4000000 in
set_option maxRecDepth 100000 in
/-- shortestRun(q) -/
theorem c_BM_shortestRun {l : Launch} {D : va_G} {cG cZ cI cJ : ClassId} {ad : Nat → Nat} (σ : gS) (j : Nat) (hj : j < 8) (q : Nat) (hq : q < 65536) (hz : sSz σ j ≤ gLen j) : gMet l D (gT cG cZ cI cJ) y_BM_shortestRun b_BM_shortestRun 6 (some .int) ({ frames := 1, cells := 0, slots := 0, locals := 21 }) (wd ad cG cZ σ) [.ref (ad (6 + j)), .int (nI q)] (wd ad cG cZ σ) (some (.int (oI (sSr σ j q (sSz σ j)).1))) := by
  refine gMet_of (by decide) (Nat.le_of_ble_eq_true rfl) ?_
  intro p e s m below meth c A ls hC hA hI hl
  obtain ⟨hx, hb, hr, hlk, hown, hml, hg, hK⟩ := hC
  have hown : s.vm.findClass "GroupBitmaps$Bitmap" = some m.cls := hown
  have hl : lv_has ls 6 [(0, .ref (ad (6 + j))), (1, .int (nI q))] := hl
  have hz2 := gLen_le j
  refine lv_iconst (v := (-1)) hx hb d_BM_shortestRun_0 (by decide) ?_
  refine lv_istore_n (lv' := [(2, .int ((-1))), (0, .ref (ad (6 + j))), (1, .int (nI q))]) hx hb d_BM_shortestRun_1 rfl hl (by decide) rfl (fun ls hl => ?_)
  refine lv_aload_n hx hb d_BM_shortestRun_2 rfl (lv_at hl 1 rfl) ?_
  refine g_get (own := "GroupBitmaps$Bitmap") (C := R_BM) (T := F_BM) (N := 5) (ci := 2) (v := .int (nI (sSz σ j))) hx hb hg ku_BM hown hK hI (6 + j) (wd_BM hj) rfl 2 (by decide) kw_36 rfl d_BM_shortestRun_3 ?_
  refine lv_iconst (v := nI 1) hx hb d_BM_shortestRun_6 (by decide) ?_
  refine r_iadd (a := sSz σ j) (b := 1) hx hb d_BM_shortestRun_7 ?_
  refine lv_istore_n (lv' := [(3, .int (nI ((sSz σ j) + 1))), (2, .int ((-1))), (0, .ref (ad (6 + j))), (1, .int (nI q))]) hx hb d_BM_shortestRun_8 rfl hl (by decide) rfl (fun ls hl => ?_)
  refine lv_iconst (v := nI 0) hx hb d_BM_shortestRun_9 (by decide) ?_
  refine lv_istore (lv' := [(4, .int (nI 0)), (3, .int (nI ((sSz σ j) + 1))), (2, .int ((-1))), (0, .ref (ad (6 + j))), (1, .int (nI q))]) hx hb d_BM_shortestRun_10 hl (by decide) rfl (fun ls hl => ?_)
  refine lv_iconst (v := nI 0) hx hb d_BM_shortestRun_12 (by decide) ?_
  refine lv_istore (lv' := [(5, .int (nI 0)), (4, .int (nI 0)), (3, .int (nI ((sSz σ j) + 1))), (2, .int ((-1))), (0, .ref (ad (6 + j))), (1, .int (nI q))]) hx hb d_BM_shortestRun_13 hl (by decide) rfl (fun ls hl => ?_)
  have loop : ∀ (fuel : Nat) (k : Nat), sSz σ j + 1 ≤ fuel + k → (k ≤ sSz σ j) → ∀ (H : Heap) (locs : List Loc) (ls : Array Slot), gI D A s.heap (wd ad cG cZ σ) H locs → lv_has ls 6 [(0, .ref (ad (6 + j))), (1, .int (nI q)), (2, .int (oI (sSr σ j q k).1)), (3, .int (nI ((sSr σ j q k).2.1))), (4, .int (nI ((sSr σ j q k).2.2))), (5, .int (nI k))] → W p l e ({ frames := 1, cells := 0, slots := 0, locals := 21 }) s m ([.ref (ad (6 + j)), .int (nI q)] : List Value).toArray below meth c H locs 0 0 (gQ D below ([.ref (ad (6 + j)), .int (nI q)] : List Value).toArray s A (wd ad cG cZ σ) (some (.int (oI (sSr σ j q (sSz σ j)).1)))) (F0 m 15 ls []) := by
    intro fuel
    induction fuel with
    | zero => intro k hfu hk; exact absurd hfu (by omega)
    | succ fuel ih =>
      intro k hfu hk H locs ls hI hl
      have hle := sSr_le σ j q k
      refine lv_iload hx hb d_BM_shortestRun_15 (lv_at hl 5 rfl) ?_
      refine lv_aload_n hx hb d_BM_shortestRun_17 rfl (lv_at hl 0 rfl) ?_
      refine g_get (own := "GroupBitmaps$Bitmap") (C := R_BM) (T := F_BM) (N := 5) (ci := 2) (v := .int (nI (sSz σ j))) hx hb hg ku_BM hown hK hI (6 + j) (wd_BM hj) rfl 2 (by decide) kw_36 rfl d_BM_shortestRun_18 ?_
      refine r_ge (a := k) (b := sSz σ j) (tgt := 83) hx hb d_BM_shortestRun_21 (by decide) (by omega) (by omega) (fun h => ?_) (fun h => ?_)
      · obtain rfl : k = sSz σ j := by omega
        refine lv_iload_n hx hb d_BM_shortestRun_83 rfl (lv_at hl 2 rfl) ?_
        exact g_ri hx hb hr hlk hI (rfl) d_BM_shortestRun_84
      · refine lv_aload_n hx hb d_BM_shortestRun_24 rfl (lv_at hl 0 rfl) ?_
        refine lv_iload hx hb d_BM_shortestRun_25 (lv_at hl 5 rfl) ?_
        refine g_callV (own := "GroupBitmaps$Bitmap") (C := "GroupBitmaps$Bitmap") (T := F_BM) (N := 5) (k := 1) (q0 := 6 + j) (ci := 2) (a := ad (6 + j)) (As := [.int (nI k)]) (rest := []) (c_BM_isSet σ j hj k (by omega)) hx hb hml hown hg hK hI hA kw_264 kw_265 kw_266 kw_3 kw_267 ky_BM_isSet ⟨Nat.le_of_ble_eq_true rfl, Nat.le_of_ble_eq_true rfl⟩ rfl rfl (wd_BM hj) rfl rfl hl.1 (Nat.le_of_ble_eq_true rfl) ⟨Nat.zero_le _, Nat.zero_le _⟩ d_BM_shortestRun_27 rfl rfl (fun H locs hI => ?_)
        refine r_bz (b := sSet σ j k) (tgt := 37) hx hb d_BM_shortestRun_30 (by decide) (fun h2 => ?_) (fun h2 => ?_)
        · have e0 := sSr_s (n := q) (show sLen (sSet σ j k) (sSr σ j q k).2.2 = (sSr σ j q k).2.2 + 1 by rw [h2]; rfl)
          refine lv_iload hx hb d_BM_shortestRun_37 (lv_at hl 4 rfl) ?_
          refine lv_iconst (v := nI 1) hx hb d_BM_shortestRun_39 (by decide) ?_
          refine r_iadd (a := (sSr σ j q k).2.2) (b := 1) hx hb d_BM_shortestRun_40 ?_
          refine lv_istore (lv' := [(4, .int (nI (((sSr σ j q k).2.2) + 1))), (0, .ref (ad (6 + j))), (1, .int (nI q)), (2, .int (oI (sSr σ j q k).1)), (3, .int (nI ((sSr σ j q k).2.1))), (5, .int (nI k))]) hx hb d_BM_shortestRun_41 hl (by decide) rfl (fun ls hl => ?_)
          refine lv_iload hx hb d_BM_shortestRun_43 (lv_at hl 0 rfl) ?_
          refine lv_iload_n hx hb d_BM_shortestRun_45 rfl (lv_at hl 2 rfl) ?_
          refine r_lt (a := ((sSr σ j q k).2.2) + 1) (b := q) (tgt := 77) hx hb d_BM_shortestRun_46 (by decide) (by omega) (by omega) (fun h3 => ?_) (fun h3 => ?_)
          · have e1 := e0.trans (sSrN_1 h3)
            refine lv_iinc (v := nI (k + 1)) (lv' := [(5, .int (nI (k + 1))), (4, .int (nI (((sSr σ j q k).2.2) + 1))), (0, .ref (ad (6 + j))), (1, .int (nI q)), (2, .int (oI (sSr σ j q k).1)), (3, .int (nI ((sSr σ j q k).2.1)))]) hx hb d_BM_shortestRun_77 hl (k := 5) rfl (nI_1 _) (by decide) rfl (fun ls hl => ?_)
            refine lv_goto (tgt := 15) hx hb d_BM_shortestRun_80 (by decide) ?_
            exact ih (k + 1) (by omega) (by omega) _ _ _ hI (by rw [e1]; exact lv_sub hl [2, 3, 4, 5, 1, 0] rfl)
          · refine lv_iload hx hb d_BM_shortestRun_49 (lv_at hl 0 rfl) ?_
            refine lv_iload_n hx hb d_BM_shortestRun_51 rfl (lv_at hl 4 rfl) ?_
            refine r_ge (a := ((sSr σ j q k).2.2) + 1) (b := (sSr σ j q k).2.1) (tgt := 77) hx hb d_BM_shortestRun_52 (by decide) (by omega) (by omega) (fun h4 => ?_) (fun h4 => ?_)
            · have e1 := e0.trans (sSrN_2 h4)
              refine lv_iinc (v := nI (k + 1)) (lv' := [(5, .int (nI (k + 1))), (4, .int (nI (((sSr σ j q k).2.2) + 1))), (0, .ref (ad (6 + j))), (1, .int (nI q)), (2, .int (oI (sSr σ j q k).1)), (3, .int (nI ((sSr σ j q k).2.1)))]) hx hb d_BM_shortestRun_77 hl (k := 5) rfl (nI_1 _) (by decide) rfl (fun ls hl => ?_)
              refine lv_goto (tgt := 15) hx hb d_BM_shortestRun_80 (by decide) ?_
              exact ih (k + 1) (by omega) (by omega) _ _ _ hI (by rw [e1]; exact lv_sub hl [2, 3, 4, 5, 1, 0] rfl)
            · refine lv_aload_n hx hb d_BM_shortestRun_55 rfl (lv_at hl 1 rfl) ?_
              refine lv_iload hx hb d_BM_shortestRun_56 (lv_at hl 5 rfl) ?_
              refine lv_iconst (v := nI 1) hx hb d_BM_shortestRun_58 (by decide) ?_
              refine r_iadd (a := k) (b := 1) hx hb d_BM_shortestRun_59 ?_
              refine g_callV (own := "GroupBitmaps$Bitmap") (C := "GroupBitmaps$Bitmap") (T := F_BM) (N := 5) (k := 1) (q0 := 6 + j) (ci := 2) (a := ad (6 + j)) (As := [.int (nI (k + 1))]) (rest := []) (c_BM_isSet σ j hj (k + 1) (by omega)) hx hb hml hown hg hK hI hA kw_264 kw_265 kw_266 kw_3 kw_267 ky_BM_isSet ⟨Nat.le_of_ble_eq_true rfl, Nat.le_of_ble_eq_true rfl⟩ rfl rfl (wd_BM hj) rfl rfl hl.1 (Nat.le_of_ble_eq_true rfl) ⟨Nat.zero_le _, Nat.zero_le _⟩ d_BM_shortestRun_60 rfl rfl (fun H locs hI => ?_)
              refine r_bz (b := sSet σ j (k + 1)) (tgt := 77) hx hb d_BM_shortestRun_63 (by decide) (fun h5 => ?_) (fun h5 => ?_)
              · have e1 := e0.trans (sSrN_3 h5)
                refine lv_iinc (v := nI (k + 1)) (lv' := [(5, .int (nI (k + 1))), (4, .int (nI (((sSr σ j q k).2.2) + 1))), (0, .ref (ad (6 + j))), (1, .int (nI q)), (2, .int (oI (sSr σ j q k).1)), (3, .int (nI ((sSr σ j q k).2.1)))]) hx hb d_BM_shortestRun_77 hl (k := 5) rfl (nI_1 _) (by decide) rfl (fun ls hl => ?_)
                refine lv_goto (tgt := 15) hx hb d_BM_shortestRun_80 (by decide) ?_
                exact ih (k + 1) (by omega) (by omega) _ _ _ hI (by rw [e1]; exact lv_sub hl [2, 3, 4, 5, 1, 0] rfl)
              · have e1 := e0.trans (sSrN_4 h3 h4 h5)
                refine lv_iload hx hb d_BM_shortestRun_66 (lv_at hl 0 rfl) ?_
                refine lv_istore_n (lv' := [(3, .int (nI (((sSr σ j q k).2.2) + 1))), (4, .int (nI (((sSr σ j q k).2.2) + 1))), (0, .ref (ad (6 + j))), (1, .int (nI q)), (2, .int (oI (sSr σ j q k).1)), (5, .int (nI k))]) hx hb d_BM_shortestRun_68 rfl hl (by decide) rfl (fun ls hl => ?_)
                refine lv_iload hx hb d_BM_shortestRun_69 (lv_at hl 5 rfl) ?_
                refine lv_iconst (v := nI 1) hx hb d_BM_shortestRun_71 (by decide) ?_
                refine r_iadd (a := k) (b := 1) hx hb d_BM_shortestRun_72 ?_
                refine lv_iload hx hb d_BM_shortestRun_73 (lv_at hl 1 rfl) ?_
                refine r_isub (a := k + 1) (b := ((sSr σ j q k).2.2) + 1) hx hb (by omega) d_BM_shortestRun_75 ?_
                refine lv_istore_n (lv' := [(2, .int (nI ((k + 1) - (((sSr σ j q k).2.2) + 1)))), (3, .int (nI (((sSr σ j q k).2.2) + 1))), (4, .int (nI (((sSr σ j q k).2.2) + 1))), (0, .ref (ad (6 + j))), (1, .int (nI q)), (5, .int (nI k))]) hx hb d_BM_shortestRun_76 rfl hl (by decide) rfl (fun ls hl => ?_)
                refine lv_iinc (v := nI (k + 1)) (lv' := [(5, .int (nI (k + 1))), (2, .int (nI ((k + 1) - (((sSr σ j q k).2.2) + 1)))), (3, .int (nI (((sSr σ j q k).2.2) + 1))), (4, .int (nI (((sSr σ j q k).2.2) + 1))), (0, .ref (ad (6 + j))), (1, .int (nI q))]) hx hb d_BM_shortestRun_77 hl (k := 5) rfl (nI_1 _) (by decide) rfl (fun ls hl => ?_)
                refine lv_goto (tgt := 15) hx hb d_BM_shortestRun_80 (by decide) ?_
                exact ih (k + 1) (by omega) (by omega) _ _ _ hI (by rw [e1]; exact lv_sub hl [4, 5, 1, 2, 3, 0] rfl)
        · have e0 := sSr_s (n := q) (show sLen (sSet σ j k) (sSr σ j q k).2.2 = 0 by rw [h2]; rfl)
          refine lv_iconst (v := nI 0) hx hb d_BM_shortestRun_33 (by decide) ?_
          refine lv_goto (tgt := 41) hx hb d_BM_shortestRun_34 (by decide) ?_
          refine lv_istore (lv' := [(4, .int (nI 0)), (0, .ref (ad (6 + j))), (1, .int (nI q)), (2, .int (oI (sSr σ j q k).1)), (3, .int (nI ((sSr σ j q k).2.1))), (5, .int (nI k))]) hx hb d_BM_shortestRun_41 hl (by decide) rfl (fun ls hl => ?_)
          refine lv_iload hx hb d_BM_shortestRun_43 (lv_at hl 0 rfl) ?_
          refine lv_iload_n hx hb d_BM_shortestRun_45 rfl (lv_at hl 2 rfl) ?_
          refine r_lt (a := 0) (b := q) (tgt := 77) hx hb d_BM_shortestRun_46 (by decide) (by omega) (by omega) (fun h3 => ?_) (fun h3 => ?_)
          · have e1 := e0.trans (sSrN_1 h3)
            refine lv_iinc (v := nI (k + 1)) (lv' := [(5, .int (nI (k + 1))), (4, .int (nI 0)), (0, .ref (ad (6 + j))), (1, .int (nI q)), (2, .int (oI (sSr σ j q k).1)), (3, .int (nI ((sSr σ j q k).2.1)))]) hx hb d_BM_shortestRun_77 hl (k := 5) rfl (nI_1 _) (by decide) rfl (fun ls hl => ?_)
            refine lv_goto (tgt := 15) hx hb d_BM_shortestRun_80 (by decide) ?_
            exact ih (k + 1) (by omega) (by omega) _ _ _ hI (by rw [e1]; exact lv_sub hl [2, 3, 4, 5, 1, 0] rfl)
          · refine lv_iload hx hb d_BM_shortestRun_49 (lv_at hl 0 rfl) ?_
            refine lv_iload_n hx hb d_BM_shortestRun_51 rfl (lv_at hl 4 rfl) ?_
            refine r_ge (a := 0) (b := (sSr σ j q k).2.1) (tgt := 77) hx hb d_BM_shortestRun_52 (by decide) (by omega) (by omega) (fun h4 => ?_) (fun h4 => ?_)
            · have e1 := e0.trans (sSrN_2 h4)
              refine lv_iinc (v := nI (k + 1)) (lv' := [(5, .int (nI (k + 1))), (4, .int (nI 0)), (0, .ref (ad (6 + j))), (1, .int (nI q)), (2, .int (oI (sSr σ j q k).1)), (3, .int (nI ((sSr σ j q k).2.1)))]) hx hb d_BM_shortestRun_77 hl (k := 5) rfl (nI_1 _) (by decide) rfl (fun ls hl => ?_)
              refine lv_goto (tgt := 15) hx hb d_BM_shortestRun_80 (by decide) ?_
              exact ih (k + 1) (by omega) (by omega) _ _ _ hI (by rw [e1]; exact lv_sub hl [2, 3, 4, 5, 1, 0] rfl)
            · refine lv_aload_n hx hb d_BM_shortestRun_55 rfl (lv_at hl 1 rfl) ?_
              refine lv_iload hx hb d_BM_shortestRun_56 (lv_at hl 5 rfl) ?_
              refine lv_iconst (v := nI 1) hx hb d_BM_shortestRun_58 (by decide) ?_
              refine r_iadd (a := k) (b := 1) hx hb d_BM_shortestRun_59 ?_
              refine g_callV (own := "GroupBitmaps$Bitmap") (C := "GroupBitmaps$Bitmap") (T := F_BM) (N := 5) (k := 1) (q0 := 6 + j) (ci := 2) (a := ad (6 + j)) (As := [.int (nI (k + 1))]) (rest := []) (c_BM_isSet σ j hj (k + 1) (by omega)) hx hb hml hown hg hK hI hA kw_264 kw_265 kw_266 kw_3 kw_267 ky_BM_isSet ⟨Nat.le_of_ble_eq_true rfl, Nat.le_of_ble_eq_true rfl⟩ rfl rfl (wd_BM hj) rfl rfl hl.1 (Nat.le_of_ble_eq_true rfl) ⟨Nat.zero_le _, Nat.zero_le _⟩ d_BM_shortestRun_60 rfl rfl (fun H locs hI => ?_)
              refine r_bz (b := sSet σ j (k + 1)) (tgt := 77) hx hb d_BM_shortestRun_63 (by decide) (fun h5 => ?_) (fun h5 => ?_)
              · have e1 := e0.trans (sSrN_3 h5)
                refine lv_iinc (v := nI (k + 1)) (lv' := [(5, .int (nI (k + 1))), (4, .int (nI 0)), (0, .ref (ad (6 + j))), (1, .int (nI q)), (2, .int (oI (sSr σ j q k).1)), (3, .int (nI ((sSr σ j q k).2.1)))]) hx hb d_BM_shortestRun_77 hl (k := 5) rfl (nI_1 _) (by decide) rfl (fun ls hl => ?_)
                refine lv_goto (tgt := 15) hx hb d_BM_shortestRun_80 (by decide) ?_
                exact ih (k + 1) (by omega) (by omega) _ _ _ hI (by rw [e1]; exact lv_sub hl [2, 3, 4, 5, 1, 0] rfl)
              · have e1 := e0.trans (sSrN_4 h3 h4 h5)
                refine lv_iload hx hb d_BM_shortestRun_66 (lv_at hl 0 rfl) ?_
                refine lv_istore_n (lv' := [(3, .int (nI 0)), (4, .int (nI 0)), (0, .ref (ad (6 + j))), (1, .int (nI q)), (2, .int (oI (sSr σ j q k).1)), (5, .int (nI k))]) hx hb d_BM_shortestRun_68 rfl hl (by decide) rfl (fun ls hl => ?_)
                refine lv_iload hx hb d_BM_shortestRun_69 (lv_at hl 5 rfl) ?_
                refine lv_iconst (v := nI 1) hx hb d_BM_shortestRun_71 (by decide) ?_
                refine r_iadd (a := k) (b := 1) hx hb d_BM_shortestRun_72 ?_
                refine lv_iload hx hb d_BM_shortestRun_73 (lv_at hl 1 rfl) ?_
                refine r_isub (a := k + 1) (b := 0) hx hb (by omega) d_BM_shortestRun_75 ?_
                refine lv_istore_n (lv' := [(2, .int (nI ((k + 1) - 0))), (3, .int (nI 0)), (4, .int (nI 0)), (0, .ref (ad (6 + j))), (1, .int (nI q)), (5, .int (nI k))]) hx hb d_BM_shortestRun_76 rfl hl (by decide) rfl (fun ls hl => ?_)
                refine lv_iinc (v := nI (k + 1)) (lv' := [(5, .int (nI (k + 1))), (2, .int (nI ((k + 1) - 0))), (3, .int (nI 0)), (4, .int (nI 0)), (0, .ref (ad (6 + j))), (1, .int (nI q))]) hx hb d_BM_shortestRun_77 hl (k := 5) rfl (nI_1 _) (by decide) rfl (fun ls hl => ?_)
                refine lv_goto (tgt := 15) hx hb d_BM_shortestRun_80 (by decide) ?_
                exact ih (k + 1) (by omega) (by omega) _ _ _ hI (by rw [e1]; exact lv_sub hl [4, 5, 1, 2, 3, 0] rfl)
  exact loop (sSz σ j + 1) 0 (by omega) (Nat.zero_le _) _ _ _ hI (lv_sub hl [4, 5, 3, 2, 1, 0] rfl)
end
