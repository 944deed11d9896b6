section
-- ===== PART A: goes FIRST, ahead of the names: the tables' words, and 'selects' of the private methods out of them =====
/-- a private method of a class that the tables say can be made, by its rows of tables_1 -/
def lw_okq (q : MethodName × Nat) : Prop := (q.1.cls ≠ "java/lang/invoke/MethodHandle" ∧ q.1.cls ≠ "java/lang/invoke/VarHandle") ∧ Cond.instantiable q.1.cls q.2 ∈ tables_1 ∧ Cond.privateMethod q.1 ∈ tables_1 ∧ Cond.instanceMethod q.1 ∈ tables_1
theorem lw_p0 : lw_okq (⟨"GroupBitmaps", "layOut", "(II)V"⟩, 5) := ⟨⟨by decide +kernel, by decide +kernel⟩, List.mem_of_getElem? (i := 13) (by decide +kernel), List.mem_of_getElem? (i := 80) (by decide +kernel), List.mem_of_getElem? (i := 81) (by decide +kernel)⟩
theorem lw_p1 : lw_okq (⟨"java/lang/Throwable", "fillInStackTrace", "(I)Ljava/lang/Throwable;"⟩, 6) := ⟨⟨by decide +kernel, by decide +kernel⟩, List.mem_of_getElem? (i := 166) (by decide +kernel), List.mem_of_getElem? (i := 164) (by decide +kernel), List.mem_of_getElem? (i := 165) (by decide +kernel)⟩
theorem lw_p2 : lw_okq (⟨"GroupBitmaps", "freeBlocks", "()I"⟩, 5) := ⟨⟨by decide +kernel, by decide +kernel⟩, List.mem_of_getElem? (i := 13) (by decide +kernel), List.mem_of_getElem? (i := 197) (by decide +kernel), List.mem_of_getElem? (i := 198) (by decide +kernel)⟩
theorem lw_p3 : lw_okq (⟨"GroupBitmaps", "takeable", "(Z)I"⟩, 5) := ⟨⟨by decide +kernel, by decide +kernel⟩, List.mem_of_getElem? (i := 13) (by decide +kernel), List.mem_of_getElem? (i := 209) (by decide +kernel), List.mem_of_getElem? (i := 210) (by decide +kernel)⟩
theorem lw_p4 : lw_okq (⟨"GroupBitmaps", "hasBlock", "(I)Z"⟩, 5) := ⟨⟨by decide +kernel, by decide +kernel⟩, List.mem_of_getElem? (i := 13) (by decide +kernel), List.mem_of_getElem? (i := 224) (by decide +kernel), List.mem_of_getElem? (i := 225) (by decide +kernel)⟩
theorem lw_p5 : lw_okq (⟨"GroupBitmaps", "allBlocks", "()I"⟩, 5) := ⟨⟨by decide +kernel, by decide +kernel⟩, List.mem_of_getElem? (i := 13) (by decide +kernel), List.mem_of_getElem? (i := 228) (by decide +kernel), List.mem_of_getElem? (i := 229) (by decide +kernel)⟩
theorem lw_p6 : lw_okq (⟨"GroupBitmaps", "takeNear", "(II)I"⟩, 5) := ⟨⟨by decide +kernel, by decide +kernel⟩, List.mem_of_getElem? (i := 13) (by decide +kernel), List.mem_of_getElem? (i := 253) (by decide +kernel), List.mem_of_getElem? (i := 254) (by decide +kernel)⟩
theorem lw_p7 : lw_okq (⟨"GroupBitmaps", "groupOfBlock", "(I)LGroupBitmaps$Group;"⟩, 5) := ⟨⟨by decide +kernel, by decide +kernel⟩, List.mem_of_getElem? (i := 13) (by decide +kernel), List.mem_of_getElem? (i := 257) (by decide +kernel), List.mem_of_getElem? (i := 258) (by decide +kernel)⟩
theorem lw_p8 : lw_okq (⟨"GroupBitmaps", "takeRun", "(LGroupBitmaps$Group;II)I"⟩, 5) := ⟨⟨by decide +kernel, by decide +kernel⟩, List.mem_of_getElem? (i := 13) (by decide +kernel), List.mem_of_getElem? (i := 269) (by decide +kernel), List.mem_of_getElem? (i := 270) (by decide +kernel)⟩
theorem lw_p9 : lw_okq (⟨"GroupBitmaps", "groupBehind", "(LGroupBitmaps$Group;I)LGroupBitmaps$Group;"⟩, 5) := ⟨⟨by decide +kernel, by decide +kernel⟩, List.mem_of_getElem? (i := 13) (by decide +kernel), List.mem_of_getElem? (i := 277) (by decide +kernel), List.mem_of_getElem? (i := 278) (by decide +kernel)⟩
theorem lw_p10 : lw_okq (⟨"GroupBitmaps", "takeLongestRun", "(LGroupBitmaps$Group;)I"⟩, 5) := ⟨⟨by decide +kernel, by decide +kernel⟩, List.mem_of_getElem? (i := 13) (by decide +kernel), List.mem_of_getElem? (i := 285) (by decide +kernel), List.mem_of_getElem? (i := 286) (by decide +kernel)⟩
theorem lw_p11 : lw_okq (⟨"GroupBitmaps", "areGivable", "(II)Z"⟩, 5) := ⟨⟨by decide +kernel, by decide +kernel⟩, List.mem_of_getElem? (i := 13) (by decide +kernel), List.mem_of_getElem? (i := 303) (by decide +kernel), List.mem_of_getElem? (i := 304) (by decide +kernel)⟩
theorem lw_p12 : lw_okq (⟨"GroupBitmaps", "hasFile", "(I)Z"⟩, 5) := ⟨⟨by decide +kernel, by decide +kernel⟩, List.mem_of_getElem? (i := 13) (by decide +kernel), List.mem_of_getElem? (i := 320) (by decide +kernel), List.mem_of_getElem? (i := 321) (by decide +kernel)⟩
theorem lw_p13 : lw_okq (⟨"GroupBitmaps", "groupForFolder", "(I)LGroupBitmaps$Group;"⟩, 5) := ⟨⟨by decide +kernel, by decide +kernel⟩, List.mem_of_getElem? (i := 13) (by decide +kernel), List.mem_of_getElem? (i := 325) (by decide +kernel), List.mem_of_getElem? (i := 326) (by decide +kernel)⟩
theorem lw_p14 : lw_okq (⟨"GroupBitmaps", "groupOfFile", "(I)LGroupBitmaps$Group;"⟩, 5) := ⟨⟨by decide +kernel, by decide +kernel⟩, List.mem_of_getElem? (i := 13) (by decide +kernel), List.mem_of_getElem? (i := 329) (by decide +kernel), List.mem_of_getElem? (i := 330) (by decide +kernel)⟩
theorem lw_p15 : lw_okq (⟨"GroupBitmaps", "leastFolders", "(LGroupBitmaps$Group;)LGroupBitmaps$Group;"⟩, 5) := ⟨⟨by decide +kernel, by decide +kernel⟩, List.mem_of_getElem? (i := 13) (by decide +kernel), List.mem_of_getElem? (i := 333) (by decide +kernel), List.mem_of_getElem? (i := 334) (by decide +kernel)⟩
def lw_privs_1 : List (MethodName × Nat) := [(⟨"GroupBitmaps", "layOut", "(II)V"⟩, 5), (⟨"java/lang/Throwable", "fillInStackTrace", "(I)Ljava/lang/Throwable;"⟩, 6), (⟨"GroupBitmaps", "freeBlocks", "()I"⟩, 5), (⟨"GroupBitmaps", "takeable", "(Z)I"⟩, 5), (⟨"GroupBitmaps", "hasBlock", "(I)Z"⟩, 5), (⟨"GroupBitmaps", "allBlocks", "()I"⟩, 5), (⟨"GroupBitmaps", "takeNear", "(II)I"⟩, 5), (⟨"GroupBitmaps", "groupOfBlock", "(I)LGroupBitmaps$Group;"⟩, 5), (⟨"GroupBitmaps", "takeRun", "(LGroupBitmaps$Group;II)I"⟩, 5), (⟨"GroupBitmaps", "groupBehind", "(LGroupBitmaps$Group;I)LGroupBitmaps$Group;"⟩, 5), (⟨"GroupBitmaps", "takeLongestRun", "(LGroupBitmaps$Group;)I"⟩, 5), (⟨"GroupBitmaps", "areGivable", "(II)Z"⟩, 5), (⟨"GroupBitmaps", "hasFile", "(I)Z"⟩, 5), (⟨"GroupBitmaps", "groupForFolder", "(I)LGroupBitmaps$Group;"⟩, 5), (⟨"GroupBitmaps", "groupOfFile", "(I)LGroupBitmaps$Group;"⟩, 5), (⟨"GroupBitmaps", "leastFolders", "(LGroupBitmaps$Group;)LGroupBitmaps$Group;"⟩, 5)]
theorem lw_r1 : ∀ q ∈ lw_privs_1, lw_okq q := List.forall_mem_cons.mpr ⟨lw_p0, List.forall_mem_cons.mpr ⟨lw_p1, List.forall_mem_cons.mpr ⟨lw_p2, List.forall_mem_cons.mpr ⟨lw_p3, List.forall_mem_cons.mpr ⟨lw_p4, List.forall_mem_cons.mpr ⟨lw_p5, List.forall_mem_cons.mpr ⟨lw_p6, List.forall_mem_cons.mpr ⟨lw_p7, List.forall_mem_cons.mpr ⟨lw_p8, List.forall_mem_cons.mpr ⟨lw_p9, List.forall_mem_cons.mpr ⟨lw_p10, List.forall_mem_cons.mpr ⟨lw_p11, List.forall_mem_cons.mpr ⟨lw_p12, List.forall_mem_cons.mpr ⟨lw_p13, List.forall_mem_cons.mpr ⟨lw_p14, List.forall_mem_cons.mpr ⟨lw_p15, fun _ h => absurd h List.not_mem_nil⟩⟩⟩⟩⟩⟩⟩⟩⟩⟩⟩⟩⟩⟩⟩⟩
theorem lw_p16 : lw_okq (⟨"GroupBitmaps", "freeFiles", "()I"⟩, 5) := ⟨⟨by decide +kernel, by decide +kernel⟩, List.mem_of_getElem? (i := 13) (by decide +kernel), List.mem_of_getElem? (i := 337) (by decide +kernel), List.mem_of_getElem? (i := 338) (by decide +kernel)⟩
theorem lw_p17 : lw_okq (⟨"GroupBitmaps", "firstWithRoom", "(LGroupBitmaps$Group;)LGroupBitmaps$Group;"⟩, 5) := ⟨⟨by decide +kernel, by decide +kernel⟩, List.mem_of_getElem? (i := 13) (by decide +kernel), List.mem_of_getElem? (i := 341) (by decide +kernel), List.mem_of_getElem? (i := 342) (by decide +kernel)⟩
theorem lw_p18 : lw_okq (⟨"GroupBitmaps", "firstWithFile", "(LGroupBitmaps$Group;)LGroupBitmaps$Group;"⟩, 5) := ⟨⟨by decide +kernel, by decide +kernel⟩, List.mem_of_getElem? (i := 13) (by decide +kernel), List.mem_of_getElem? (i := 349) (by decide +kernel), List.mem_of_getElem? (i := 350) (by decide +kernel)⟩
theorem lw_p19 : lw_okq (⟨"GroupBitmaps", "groupForPlain", "(I)LGroupBitmaps$Group;"⟩, 5) := ⟨⟨by decide +kernel, by decide +kernel⟩, List.mem_of_getElem? (i := 13) (by decide +kernel), List.mem_of_getElem? (i := 353) (by decide +kernel), List.mem_of_getElem? (i := 354) (by decide +kernel)⟩
theorem lw_p20 : lw_okq (⟨"GroupBitmaps", "tableByte", "(I)I"⟩, 5) := ⟨⟨by decide +kernel, by decide +kernel⟩, List.mem_of_getElem? (i := 13) (by decide +kernel), List.mem_of_getElem? (i := 425) (by decide +kernel), List.mem_of_getElem? (i := 426) (by decide +kernel)⟩
theorem lw_p21 : lw_okq (⟨"GroupBitmapsModel", "layOut", "(II)V"⟩, 11) := ⟨⟨by decide +kernel, by decide +kernel⟩, List.mem_of_getElem? (i := 452) (by decide +kernel), List.mem_of_getElem? (i := 458) (by decide +kernel), List.mem_of_getElem? (i := 459) (by decide +kernel)⟩
theorem lw_p22 : lw_okq (⟨"GroupBitmapsModel", "allBlocks", "()I"⟩, 11) := ⟨⟨by decide +kernel, by decide +kernel⟩, List.mem_of_getElem? (i := 452) (by decide +kernel), List.mem_of_getElem? (i := 514) (by decide +kernel), List.mem_of_getElem? (i := 515) (by decide +kernel)⟩
theorem lw_p23 : lw_okq (⟨"GroupBitmapsModel", "freeBlocks", "(I)I"⟩, 11) := ⟨⟨by decide +kernel, by decide +kernel⟩, List.mem_of_getElem? (i := 452) (by decide +kernel), List.mem_of_getElem? (i := 518) (by decide +kernel), List.mem_of_getElem? (i := 519) (by decide +kernel)⟩
theorem lw_p24 : lw_okq (⟨"GroupBitmapsModel", "isBlock", "(I)Z"⟩, 11) := ⟨⟨by decide +kernel, by decide +kernel⟩, List.mem_of_getElem? (i := 452) (by decide +kernel), List.mem_of_getElem? (i := 530) (by decide +kernel), List.mem_of_getElem? (i := 531) (by decide +kernel)⟩
theorem lw_p25 : lw_okq (⟨"GroupBitmapsModel", "areFree", "(II)Z"⟩, 11) := ⟨⟨by decide +kernel, by decide +kernel⟩, List.mem_of_getElem? (i := 452) (by decide +kernel), List.mem_of_getElem? (i := 534) (by decide +kernel), List.mem_of_getElem? (i := 535) (by decide +kernel)⟩
theorem lw_p26 : lw_okq (⟨"GroupBitmapsModel", "findRun", "(II)V"⟩, 11) := ⟨⟨by decide +kernel, by decide +kernel⟩, List.mem_of_getElem? (i := 452) (by decide +kernel), List.mem_of_getElem? (i := 538) (by decide +kernel), List.mem_of_getElem? (i := 539) (by decide +kernel)⟩
theorem lw_p27 : lw_okq (⟨"GroupBitmapsModel", "mark", "(IIZ)V"⟩, 11) := ⟨⟨by decide +kernel, by decide +kernel⟩, List.mem_of_getElem? (i := 452) (by decide +kernel), List.mem_of_getElem? (i := 542) (by decide +kernel), List.mem_of_getElem? (i := 543) (by decide +kernel)⟩
theorem lw_p28 : lw_okq (⟨"GroupBitmapsModel", "isFile", "(I)Z"⟩, 11) := ⟨⟨by decide +kernel, by decide +kernel⟩, List.mem_of_getElem? (i := 452) (by decide +kernel), List.mem_of_getElem? (i := 558) (by decide +kernel), List.mem_of_getElem? (i := 559) (by decide +kernel)⟩
theorem lw_p29 : lw_okq (⟨"GroupBitmapsModel", "allFiles", "()I"⟩, 11) := ⟨⟨by decide +kernel, by decide +kernel⟩, List.mem_of_getElem? (i := 452) (by decide +kernel), List.mem_of_getElem? (i := 562) (by decide +kernel), List.mem_of_getElem? (i := 563) (by decide +kernel)⟩
theorem lw_p30 : lw_okq (⟨"GroupBitmapsModel", "freeFiles", "(I)I"⟩, 11) := ⟨⟨by decide +kernel, by decide +kernel⟩, List.mem_of_getElem? (i := 452) (by decide +kernel), List.mem_of_getElem? (i := 566) (by decide +kernel), List.mem_of_getElem? (i := 567) (by decide +kernel)⟩
theorem lw_p31 : lw_okq (⟨"GroupBitmapsModel", "groupOfFolder", "(IZ)I"⟩, 11) := ⟨⟨by decide +kernel, by decide +kernel⟩, List.mem_of_getElem? (i := 452) (by decide +kernel), List.mem_of_getElem? (i := 570) (by decide +kernel), List.mem_of_getElem? (i := 571) (by decide +kernel)⟩
def lw_privs_2 : List (MethodName × Nat) := [(⟨"GroupBitmaps", "freeFiles", "()I"⟩, 5), (⟨"GroupBitmaps", "firstWithRoom", "(LGroupBitmaps$Group;)LGroupBitmaps$Group;"⟩, 5), (⟨"GroupBitmaps", "firstWithFile", "(LGroupBitmaps$Group;)LGroupBitmaps$Group;"⟩, 5), (⟨"GroupBitmaps", "groupForPlain", "(I)LGroupBitmaps$Group;"⟩, 5), (⟨"GroupBitmaps", "tableByte", "(I)I"⟩, 5), (⟨"GroupBitmapsModel", "layOut", "(II)V"⟩, 11), (⟨"GroupBitmapsModel", "allBlocks", "()I"⟩, 11), (⟨"GroupBitmapsModel", "freeBlocks", "(I)I"⟩, 11), (⟨"GroupBitmapsModel", "isBlock", "(I)Z"⟩, 11), (⟨"GroupBitmapsModel", "areFree", "(II)Z"⟩, 11), (⟨"GroupBitmapsModel", "findRun", "(II)V"⟩, 11), (⟨"GroupBitmapsModel", "mark", "(IIZ)V"⟩, 11), (⟨"GroupBitmapsModel", "isFile", "(I)Z"⟩, 11), (⟨"GroupBitmapsModel", "allFiles", "()I"⟩, 11), (⟨"GroupBitmapsModel", "freeFiles", "(I)I"⟩, 11), (⟨"GroupBitmapsModel", "groupOfFolder", "(IZ)I"⟩, 11)]
theorem lw_r2 : ∀ q ∈ lw_privs_2, lw_okq q := List.forall_mem_cons.mpr ⟨lw_p16, List.forall_mem_cons.mpr ⟨lw_p17, List.forall_mem_cons.mpr ⟨lw_p18, List.forall_mem_cons.mpr ⟨lw_p19, List.forall_mem_cons.mpr ⟨lw_p20, List.forall_mem_cons.mpr ⟨lw_p21, List.forall_mem_cons.mpr ⟨lw_p22, List.forall_mem_cons.mpr ⟨lw_p23, List.forall_mem_cons.mpr ⟨lw_p24, List.forall_mem_cons.mpr ⟨lw_p25, List.forall_mem_cons.mpr ⟨lw_p26, List.forall_mem_cons.mpr ⟨lw_p27, List.forall_mem_cons.mpr ⟨lw_p28, List.forall_mem_cons.mpr ⟨lw_p29, List.forall_mem_cons.mpr ⟨lw_p30, List.forall_mem_cons.mpr ⟨lw_p31, fun _ h => absurd h List.not_mem_nil⟩⟩⟩⟩⟩⟩⟩⟩⟩⟩⟩⟩⟩⟩⟩⟩
theorem lw_p32 : lw_okq (⟨"GroupBitmapsModel", "firstFree", "(I)I"⟩, 11) := ⟨⟨by decide +kernel, by decide +kernel⟩, List.mem_of_getElem? (i := 452) (by decide +kernel), List.mem_of_getElem? (i := 574) (by decide +kernel), List.mem_of_getElem? (i := 575) (by decide +kernel)⟩
theorem lw_p33 : lw_okq (⟨"GroupBitmapsModel", "groupOfPlain", "(I)I"⟩, 11) := ⟨⟨by decide +kernel, by decide +kernel⟩, List.mem_of_getElem? (i := 452) (by decide +kernel), List.mem_of_getElem? (i := 578) (by decide +kernel), List.mem_of_getElem? (i := 579) (by decide +kernel)⟩
theorem lw_p34 : lw_okq (⟨"GroupBitmapsModel", "markFile", "(IIZZ)V"⟩, 11) := ⟨⟨by decide +kernel, by decide +kernel⟩, List.mem_of_getElem? (i := 452) (by decide +kernel), List.mem_of_getElem? (i := 582) (by decide +kernel), List.mem_of_getElem? (i := 583) (by decide +kernel)⟩
theorem lw_p35 : lw_okq (⟨"GroupBitmapsModel", "descriptor", "(I)I"⟩, 11) := ⟨⟨by decide +kernel, by decide +kernel⟩, List.mem_of_getElem? (i := 452) (by decide +kernel), List.mem_of_getElem? (i := 602) (by decide +kernel), List.mem_of_getElem? (i := 603) (by decide +kernel)⟩
def lw_privs_3 : List (MethodName × Nat) := [(⟨"GroupBitmapsModel", "firstFree", "(I)I"⟩, 11), (⟨"GroupBitmapsModel", "groupOfPlain", "(I)I"⟩, 11), (⟨"GroupBitmapsModel", "markFile", "(IIZZ)V"⟩, 11), (⟨"GroupBitmapsModel", "descriptor", "(I)I"⟩, 11)]
theorem lw_r3 : ∀ q ∈ lw_privs_3, lw_okq q := List.forall_mem_cons.mpr ⟨lw_p32, List.forall_mem_cons.mpr ⟨lw_p33, List.forall_mem_cons.mpr ⟨lw_p34, List.forall_mem_cons.mpr ⟨lw_p35, fun _ h => absurd h List.not_mem_nil⟩⟩⟩⟩
def lw_privs : List (MethodName × Nat) := lw_privs_1 ++ (lw_privs_2 ++ (lw_privs_3))
def lw_tbl : List Cond := k2_sels lw_privs ++ tables_1
theorem lw_privs_ok : ∀ q ∈ lw_privs, lw_okq q := by
  show ∀ q ∈ lw_privs_1 ++ (lw_privs_2 ++ (lw_privs_3)), lw_okq q
  exact List.forall_mem_append.mpr ⟨lw_r1, List.forall_mem_append.mpr ⟨lw_r2, lw_r3⟩⟩
end
section
def R_GB : String := "GroupBitmaps"
def R_BM : String := "GroupBitmaps$Bitmap"
def R_GR : String := "GroupBitmaps$Group"
def R_MD : String := "GroupBitmapsModel"
def R_LW : String := "GroupBitmapsLaw"
def F_GB : u_T := fun k => match k with
  | 0 => ("GroupBitmaps", "groups", "[LGroupBitmaps$Group;", true)
  | 1 => ("GroupBitmaps", "count", "I", false)
  | 2 => ("GroupBitmaps", "reserved", "I", false)
  | 3 => ("GroupBitmaps", "latelyTaken", "I", false)
  | _ => ("GroupBitmaps", "tableTold", "Z", false)
def t_GB : Nat → FieldType := fun k => match k with
  | 0 => .array (.object "GroupBitmaps$Group")
  | 1 => .int
  | 2 => .int
  | 3 => .int
  | _ => .boolean
theorem n_GB : ∀ a, a < 5 → ∀ b, b < 5 → a ≠ b → (F_GB a).2.1 ≠ (F_GB b).2.1 := by decide +kernel
theorem t_GB_ok : ∀ k, k < 5 → parseFieldDescriptor (F_GB k).2.2.1 = some (t_GB k) := by decide +kernel
def F_GR : u_T := fun k => match k with
  | 0 => ("GroupBitmaps$Group", "first", "I", true)
  | 1 => ("GroupBitmaps$Group", "fixed", "I", true)
  | 2 => ("GroupBitmaps$Group", "records", "I", true)
  | 3 => ("GroupBitmaps$Group", "blocks", "LGroupBitmaps$Bitmap;", true)
  | 4 => ("GroupBitmaps$Group", "files", "LGroupBitmaps$Bitmap;", true)
  | _ => ("GroupBitmaps$Group", "folders", "I", false)
def t_GR : Nat → FieldType := fun k => match k with
  | 0 => .int
  | 1 => .int
  | 2 => .int
  | 3 => .object "GroupBitmaps$Bitmap"
  | 4 => .object "GroupBitmaps$Bitmap"
  | _ => .int
theorem n_GR : ∀ a, a < 6 → ∀ b, b < 6 → a ≠ b → (F_GR a).2.1 ≠ (F_GR b).2.1 := by decide +kernel
theorem t_GR_ok : ∀ k, k < 6 → parseFieldDescriptor (F_GR k).2.2.1 = some (t_GR k) := by decide +kernel
def F_BM : u_T := fun k => match k with
  | 0 => ("GroupBitmaps$Bitmap", "place", "I", true)
  | 1 => ("GroupBitmaps$Bitmap", "bits", "[Z", true)
  | 2 => ("GroupBitmaps$Bitmap", "size", "I", false)
  | 3 => ("GroupBitmaps$Bitmap", "freeCount", "I", false)
  | _ => ("GroupBitmaps$Bitmap", "told", "Z", false)
def t_BM : Nat → FieldType := fun k => match k with
  | 0 => .int
  | 1 => .array .boolean
  | 2 => .int
  | 3 => .int
  | _ => .boolean
theorem n_BM : ∀ a, a < 5 → ∀ b, b < 5 → a ≠ b → (F_BM a).2.1 ≠ (F_BM b).2.1 := by decide +kernel
theorem t_BM_ok : ∀ k, k < 5 → parseFieldDescriptor (F_BM k).2.2.1 = some (t_BM k) := by decide +kernel
def F_MD : u_T := fun k => match k with
  | 0 => ("GroupBitmapsModel", "thrown", "I", false)
  | 1 => ("GroupBitmapsModel", "groups", "I", false)
  | 2 => ("GroupBitmapsModel", "sizes", "[I", true)
  | 3 => ("GroupBitmapsModel", "blocks", "[Z", true)
  | 4 => ("GroupBitmapsModel", "files", "[Z", true)
  | 5 => ("GroupBitmapsModel", "folders", "[I", true)
  | 6 => ("GroupBitmapsModel", "reserved", "I", false)
  | 7 => ("GroupBitmapsModel", "latest", "I", false)
  | 8 => ("GroupBitmapsModel", "told", "[Z", true)
  | 9 => ("GroupBitmapsModel", "runAt", "I", false)
  | _ => ("GroupBitmapsModel", "runSize", "I", false)
def t_MD : Nat → FieldType := fun k => match k with
  | 0 => .int
  | 1 => .int
  | 2 => .array .int
  | 3 => .array .boolean
  | 4 => .array .boolean
  | 5 => .array .int
  | 6 => .int
  | 7 => .int
  | 8 => .array .boolean
  | 9 => .int
  | _ => .int
theorem n_MD : ∀ a, a < 11 → ∀ b, b < 11 → a ≠ b → (F_MD a).2.1 ≠ (F_MD b).2.1 := by decide +kernel
theorem t_MD_ok : ∀ k, k < 11 → parseFieldDescriptor (F_MD k).2.2.1 = some (t_MD k) := by decide +kernel
abbrev classes : List vw_C := [(R_GB, F_GB, 5), (R_GR, F_GR, 6), (R_BM, F_BM, 5), (R_MD, F_MD, 11)]
abbrev b_GB_init : ByteArray := prog_1_method_1_code
def y_GB_init : MethodName := ⟨"GroupBitmaps", "<init>", "()V"⟩
abbrev b_GB_lay : ByteArray := prog_1_method_2_code
def y_GB_lay : MethodName := ⟨"GroupBitmaps", "lay", "(II)I"⟩
abbrev b_GB_reserve : ByteArray := prog_1_method_3_code
def y_GB_reserve : MethodName := ⟨"GroupBitmaps", "reserve", "(I)I"⟩
abbrev b_GB_take : ByteArray := prog_1_method_4_code
def y_GB_take : MethodName := ⟨"GroupBitmaps", "take", "(IIZ)I"⟩
abbrev b_GB_taken : ByteArray := prog_1_method_5_code
def y_GB_taken : MethodName := ⟨"GroupBitmaps", "taken", "()I"⟩
abbrev b_GB_give : ByteArray := prog_1_method_6_code
def y_GB_give : MethodName := ⟨"GroupBitmaps", "give", "(II)I"⟩
abbrev b_GB_takeFile : ByteArray := prog_1_method_7_code
def y_GB_takeFile : MethodName := ⟨"GroupBitmaps", "takeFile", "(IZ)I"⟩
abbrev b_GB_giveFile : ByteArray := prog_1_method_8_code
def y_GB_giveFile : MethodName := ⟨"GroupBitmaps", "giveFile", "(IZ)I"⟩
abbrev b_GB_isTaken : ByteArray := prog_1_method_9_code
def y_GB_isTaken : MethodName := ⟨"GroupBitmaps", "isTaken", "(II)Z"⟩
abbrev b_GB_group : ByteArray := prog_1_method_10_code
def y_GB_group : MethodName := ⟨"GroupBitmaps", "group", "(II)I"⟩
abbrev b_GB_byteOf : ByteArray := prog_1_method_11_code
def y_GB_byteOf : MethodName := ⟨"GroupBitmaps", "byteOf", "(II)I"⟩
abbrev b_GB_isTold : ByteArray := prog_1_method_12_code
def y_GB_isTold : MethodName := ⟨"GroupBitmaps", "isTold", "(I)Z"⟩
abbrev b_GB_settle : ByteArray := prog_1_method_13_code
def y_GB_settle : MethodName := ⟨"GroupBitmaps", "settle", "()I"⟩
abbrev b_GB_layOut : ByteArray := prog_1_method_14_code
def y_GB_layOut : MethodName := ⟨"GroupBitmaps", "layOut", "(II)V"⟩
abbrev b_GB_allBlocks : ByteArray := prog_1_method_15_code
def y_GB_allBlocks : MethodName := ⟨"GroupBitmaps", "allBlocks", "()I"⟩
abbrev b_GB_hasBlock : ByteArray := prog_1_method_16_code
def y_GB_hasBlock : MethodName := ⟨"GroupBitmaps", "hasBlock", "(I)Z"⟩
abbrev b_GB_hasFile : ByteArray := prog_1_method_17_code
def y_GB_hasFile : MethodName := ⟨"GroupBitmaps", "hasFile", "(I)Z"⟩
abbrev b_GB_groupOfBlock : ByteArray := prog_1_method_18_code
def y_GB_groupOfBlock : MethodName := ⟨"GroupBitmaps", "groupOfBlock", "(I)LGroupBitmaps$Group;"⟩
abbrev b_GB_groupOfFile : ByteArray := prog_1_method_19_code
def y_GB_groupOfFile : MethodName := ⟨"GroupBitmaps", "groupOfFile", "(I)LGroupBitmaps$Group;"⟩
abbrev b_GB_groupBehind : ByteArray := prog_1_method_20_code
def y_GB_groupBehind : MethodName := ⟨"GroupBitmaps", "groupBehind", "(LGroupBitmaps$Group;I)LGroupBitmaps$Group;"⟩
abbrev b_GB_freeBlocks : ByteArray := prog_1_method_21_code
def y_GB_freeBlocks : MethodName := ⟨"GroupBitmaps", "freeBlocks", "()I"⟩
abbrev b_GB_freeFiles : ByteArray := prog_1_method_22_code
def y_GB_freeFiles : MethodName := ⟨"GroupBitmaps", "freeFiles", "()I"⟩
abbrev b_GB_takeable : ByteArray := prog_1_method_23_code
def y_GB_takeable : MethodName := ⟨"GroupBitmaps", "takeable", "(Z)I"⟩
abbrev b_GB_takeNear : ByteArray := prog_1_method_24_code
def y_GB_takeNear : MethodName := ⟨"GroupBitmaps", "takeNear", "(II)I"⟩
abbrev b_GB_takeLongestRun : ByteArray := prog_1_method_25_code
def y_GB_takeLongestRun : MethodName := ⟨"GroupBitmaps", "takeLongestRun", "(LGroupBitmaps$Group;)I"⟩
abbrev b_GB_takeRun : ByteArray := prog_1_method_26_code
def y_GB_takeRun : MethodName := ⟨"GroupBitmaps", "takeRun", "(LGroupBitmaps$Group;II)I"⟩
abbrev b_GB_areGivable : ByteArray := prog_1_method_27_code
def y_GB_areGivable : MethodName := ⟨"GroupBitmaps", "areGivable", "(II)Z"⟩
abbrev b_GB_groupForPlain : ByteArray := prog_1_method_28_code
def y_GB_groupForPlain : MethodName := ⟨"GroupBitmaps", "groupForPlain", "(I)LGroupBitmaps$Group;"⟩
abbrev b_GB_groupForFolder : ByteArray := prog_1_method_29_code
def y_GB_groupForFolder : MethodName := ⟨"GroupBitmaps", "groupForFolder", "(I)LGroupBitmaps$Group;"⟩
abbrev b_GB_leastFolders : ByteArray := prog_1_method_30_code
def y_GB_leastFolders : MethodName := ⟨"GroupBitmaps", "leastFolders", "(LGroupBitmaps$Group;)LGroupBitmaps$Group;"⟩
abbrev b_GB_firstWithRoom : ByteArray := prog_1_method_31_code
def y_GB_firstWithRoom : MethodName := ⟨"GroupBitmaps", "firstWithRoom", "(LGroupBitmaps$Group;)LGroupBitmaps$Group;"⟩
abbrev b_GB_firstWithFile : ByteArray := prog_1_method_32_code
def y_GB_firstWithFile : MethodName := ⟨"GroupBitmaps", "firstWithFile", "(LGroupBitmaps$Group;)LGroupBitmaps$Group;"⟩
abbrev b_GB_tableByte : ByteArray := prog_1_method_33_code
def y_GB_tableByte : MethodName := ⟨"GroupBitmaps", "tableByte", "(I)I"⟩
abbrev b_MD_init : ByteArray := prog_5_method_1_code
def y_MD_init : MethodName := ⟨"GroupBitmapsModel", "<init>", "()V"⟩
abbrev b_MD_thrown : ByteArray := prog_5_method_2_code
def y_MD_thrown : MethodName := ⟨"GroupBitmapsModel", "thrown", "()I"⟩
abbrev b_MD_heads : ByteArray := prog_5_method_3_code
def y_MD_heads : MethodName := ⟨"GroupBitmapsModel", "heads", "(I)I"⟩
abbrev b_MD_bitmap : ByteArray := prog_5_method_4_code
def y_MD_bitmap : MethodName := ⟨"GroupBitmapsModel", "bitmap", "(I)I"⟩
abbrev b_MD_fixed : ByteArray := prog_5_method_5_code
def y_MD_fixed : MethodName := ⟨"GroupBitmapsModel", "fixed", "(I)I"⟩
abbrev b_MD_layOut : ByteArray := prog_5_method_6_code
def y_MD_layOut : MethodName := ⟨"GroupBitmapsModel", "layOut", "(II)V"⟩
abbrev b_MD_freeBlocks : ByteArray := prog_5_method_7_code
def y_MD_freeBlocks : MethodName := ⟨"GroupBitmapsModel", "freeBlocks", "(I)I"⟩
abbrev b_MD_freeFiles : ByteArray := prog_5_method_8_code
def y_MD_freeFiles : MethodName := ⟨"GroupBitmapsModel", "freeFiles", "(I)I"⟩
abbrev b_MD_allBlocks : ByteArray := prog_5_method_9_code
def y_MD_allBlocks : MethodName := ⟨"GroupBitmapsModel", "allBlocks", "()I"⟩
abbrev b_MD_allFiles : ByteArray := prog_5_method_10_code
def y_MD_allFiles : MethodName := ⟨"GroupBitmapsModel", "allFiles", "()I"⟩
abbrev b_MD_isBlock : ByteArray := prog_5_method_11_code
def y_MD_isBlock : MethodName := ⟨"GroupBitmapsModel", "isBlock", "(I)Z"⟩
abbrev b_MD_isFile : ByteArray := prog_5_method_12_code
def y_MD_isFile : MethodName := ⟨"GroupBitmapsModel", "isFile", "(I)Z"⟩
abbrev b_MD_lay : ByteArray := prog_5_method_13_code
def y_MD_lay : MethodName := ⟨"GroupBitmapsModel", "lay", "(II)I"⟩
abbrev b_MD_reserve : ByteArray := prog_5_method_14_code
def y_MD_reserve : MethodName := ⟨"GroupBitmapsModel", "reserve", "(I)I"⟩
abbrev b_MD_findRun : ByteArray := prog_5_method_15_code
def y_MD_findRun : MethodName := ⟨"GroupBitmapsModel", "findRun", "(II)V"⟩
abbrev b_MD_areFree : ByteArray := prog_5_method_16_code
def y_MD_areFree : MethodName := ⟨"GroupBitmapsModel", "areFree", "(II)Z"⟩
abbrev b_MD_mark : ByteArray := prog_5_method_17_code
def y_MD_mark : MethodName := ⟨"GroupBitmapsModel", "mark", "(IIZ)V"⟩
abbrev b_MD_take : ByteArray := prog_5_method_18_code
def y_MD_take : MethodName := ⟨"GroupBitmapsModel", "take", "(IIZ)I"⟩
abbrev b_MD_taken : ByteArray := prog_5_method_19_code
def y_MD_taken : MethodName := ⟨"GroupBitmapsModel", "taken", "()I"⟩
abbrev b_MD_give : ByteArray := prog_5_method_20_code
def y_MD_give : MethodName := ⟨"GroupBitmapsModel", "give", "(II)I"⟩
abbrev b_MD_groupOfPlain : ByteArray := prog_5_method_21_code
def y_MD_groupOfPlain : MethodName := ⟨"GroupBitmapsModel", "groupOfPlain", "(I)I"⟩
abbrev b_MD_firstFree : ByteArray := prog_5_method_22_code
def y_MD_firstFree : MethodName := ⟨"GroupBitmapsModel", "firstFree", "(I)I"⟩
abbrev b_MD_groupOfFolder : ByteArray := prog_5_method_23_code
def y_MD_groupOfFolder : MethodName := ⟨"GroupBitmapsModel", "groupOfFolder", "(IZ)I"⟩
abbrev b_MD_markFile : ByteArray := prog_5_method_24_code
def y_MD_markFile : MethodName := ⟨"GroupBitmapsModel", "markFile", "(IIZZ)V"⟩
abbrev b_MD_takeFile : ByteArray := prog_5_method_25_code
def y_MD_takeFile : MethodName := ⟨"GroupBitmapsModel", "takeFile", "(IZ)I"⟩
abbrev b_MD_giveFile : ByteArray := prog_5_method_26_code
def y_MD_giveFile : MethodName := ⟨"GroupBitmapsModel", "giveFile", "(IZ)I"⟩
abbrev b_MD_isTaken : ByteArray := prog_5_method_27_code
def y_MD_isTaken : MethodName := ⟨"GroupBitmapsModel", "isTaken", "(II)Z"⟩
abbrev b_MD_group : ByteArray := prog_5_method_28_code
def y_MD_group : MethodName := ⟨"GroupBitmapsModel", "group", "(II)I"⟩
abbrev b_MD_descriptor : ByteArray := prog_5_method_29_code
def y_MD_descriptor : MethodName := ⟨"GroupBitmapsModel", "descriptor", "(I)I"⟩
abbrev b_MD_byteOf : ByteArray := prog_5_method_30_code
def y_MD_byteOf : MethodName := ⟨"GroupBitmapsModel", "byteOf", "(II)I"⟩
abbrev b_MD_isTold : ByteArray := prog_5_method_31_code
def y_MD_isTold : MethodName := ⟨"GroupBitmapsModel", "isTold", "(I)Z"⟩
abbrev b_MD_settle : ByteArray := prog_5_method_32_code
def y_MD_settle : MethodName := ⟨"GroupBitmapsModel", "settle", "()I"⟩
abbrev b_BM_init : ByteArray := prog_2_method_1_code
def y_BM_init : MethodName := ⟨"GroupBitmaps$Bitmap", "<init>", "(II)V"⟩
abbrev b_BM_layOut : ByteArray := prog_2_method_2_code
def y_BM_layOut : MethodName := ⟨"GroupBitmaps$Bitmap", "layOut", "(II)V"⟩
abbrev b_BM_isSet : ByteArray := prog_2_method_3_code
def y_BM_isSet : MethodName := ⟨"GroupBitmaps$Bitmap", "isSet", "(I)Z"⟩
abbrev b_BM_occupy : ByteArray := prog_2_method_4_code
def y_BM_occupy : MethodName := ⟨"GroupBitmaps$Bitmap", "occupy", "(I)V"⟩
abbrev b_BM_free : ByteArray := prog_2_method_5_code
def y_BM_free : MethodName := ⟨"GroupBitmaps$Bitmap", "free", "(I)V"⟩
abbrev b_BM_byteAt : ByteArray := prog_2_method_6_code
def y_BM_byteAt : MethodName := ⟨"GroupBitmaps$Bitmap", "byteAt", "(I)I"⟩
abbrev b_BM_leastFree : ByteArray := prog_2_method_7_code
def y_BM_leastFree : MethodName := ⟨"GroupBitmaps$Bitmap", "leastFree", "()I"⟩
abbrev b_BM_areFree : ByteArray := prog_2_method_8_code
def y_BM_areFree : MethodName := ⟨"GroupBitmaps$Bitmap", "areFree", "(II)Z"⟩
abbrev b_BM_longestRun : ByteArray := prog_2_method_9_code
def y_BM_longestRun : MethodName := ⟨"GroupBitmaps$Bitmap", "longestRun", "()I"⟩
abbrev b_BM_shortestRun : ByteArray := prog_2_method_10_code
def y_BM_shortestRun : MethodName := ⟨"GroupBitmaps$Bitmap", "shortestRun", "(I)I"⟩
abbrev b_BM_forgetTold : ByteArray := prog_2_method_11_code
def y_BM_forgetTold : MethodName := ⟨"GroupBitmaps$Bitmap", "forgetTold", "()I"⟩
abbrev b_GR_init : ByteArray := prog_3_method_1_code
def y_GR_init : MethodName := ⟨"GroupBitmaps$Group", "<init>", "(I)V"⟩
abbrev b_GR_layOut : ByteArray := prog_3_method_2_code
def y_GR_layOut : MethodName := ⟨"GroupBitmaps$Group", "layOut", "(I)V"⟩
abbrev b_GR_bitmapIn : ByteArray := prog_3_method_3_code
def y_GR_bitmapIn : MethodName := ⟨"GroupBitmaps$Group", "bitmapIn", "(I)LGroupBitmaps$Bitmap;"⟩
abbrev b_GR_hasFileAndBlock : ByteArray := prog_3_method_4_code
def y_GR_hasFileAndBlock : MethodName := ⟨"GroupBitmaps$Group", "hasFileAndBlock", "()Z"⟩
abbrev b_GR_occupyFile : ByteArray := prog_3_method_5_code
def y_GR_occupyFile : MethodName := ⟨"GroupBitmaps$Group", "occupyFile", "(Z)I"⟩
abbrev b_GR_freeFile : ByteArray := prog_3_method_6_code
def y_GR_freeFile : MethodName := ⟨"GroupBitmaps$Group", "freeFile", "(IZ)V"⟩
abbrev b_GR_tableByte : ByteArray := prog_3_method_7_code
def y_GR_tableByte : MethodName := ⟨"GroupBitmaps$Group", "tableByte", "(I)I"⟩
abbrev b_GR_byteOfNumber : ByteArray := prog_3_method_8_code
def y_GR_byteOfNumber : MethodName := ⟨"GroupBitmaps$Group", "byteOfNumber", "(II)I"⟩
abbrev b_LW_lay : ByteArray := method_3_code
def y_LW_lay : MethodName := ⟨"GroupBitmapsLaw", "lay", "(LGroupBitmaps;II[J)I"⟩
abbrev b_LW_reserve : ByteArray := method_4_code
def y_LW_reserve : MethodName := ⟨"GroupBitmapsLaw", "reserve", "(LGroupBitmaps;I[J)I"⟩
abbrev b_LW_take : ByteArray := method_5_code
def y_LW_take : MethodName := ⟨"GroupBitmapsLaw", "take", "(LGroupBitmaps;IIZ[J)I"⟩
abbrev b_LW_give : ByteArray := method_6_code
def y_LW_give : MethodName := ⟨"GroupBitmapsLaw", "give", "(LGroupBitmaps;II[J)I"⟩
abbrev b_LW_takeFile : ByteArray := method_7_code
def y_LW_takeFile : MethodName := ⟨"GroupBitmapsLaw", "takeFile", "(LGroupBitmaps;IZ[J)I"⟩
abbrev b_LW_giveFile : ByteArray := method_8_code
def y_LW_giveFile : MethodName := ⟨"GroupBitmapsLaw", "giveFile", "(LGroupBitmaps;IZ[J)I"⟩
abbrev b_LW_isTaken : ByteArray := method_9_code
def y_LW_isTaken : MethodName := ⟨"GroupBitmapsLaw", "isTaken", "(LGroupBitmaps;II[J)I"⟩
abbrev b_LW_group : ByteArray := method_10_code
def y_LW_group : MethodName := ⟨"GroupBitmapsLaw", "group", "(LGroupBitmaps;II[J)I"⟩
abbrev b_LW_byteOf : ByteArray := method_11_code
def y_LW_byteOf : MethodName := ⟨"GroupBitmapsLaw", "byteOf", "(LGroupBitmaps;II[J)I"⟩
abbrev b_LW_isTold : ByteArray := method_12_code
def y_LW_isTold : MethodName := ⟨"GroupBitmapsLaw", "isTold", "(LGroupBitmaps;I[J)I"⟩
/-- a word that holds on, however the machine has warmed -/
def okw (w : Cond) : Bool := match w with
  | .fieldLinkNest .. => true
  | w => goodWord w
/-- all words of the tables that hold on: every method's words are these -/
def gw : List Cond := lw_tbl.filter okw
theorem gw_mem {w : Cond} (h : w ∈ lw_tbl) (ho : okw w = true) : w ∈ gw := List.mem_filter.mpr ⟨h, ho⟩
theorem gw_t {w : Cond} (i : Nat) (h : tables_1[i]? = some w) (ho : okw w = true) : w ∈ gw := gw_mem (List.mem_append_right _ (List.mem_of_getElem? h)) ho
theorem gw_p {w : Cond} (i : Nat) (h : (k2_sels lw_privs)[i]? = some w) (ho : okw w = true) : w ∈ gw := gw_mem (List.mem_append_left _ (List.mem_of_getElem? h)) ho
theorem gw_move {args a' : Array Value} {s U : State} (h : ∀ w ∈ gw, w.before args s = true) (hW : s.WarmedH U.vm) : ∀ w ∈ gw, w.before a' U = true := by
  intro w hw
  have hb := h w hw
  have ho := (List.mem_filter.mp hw).2
  cases w with
  | fieldLinkNest a i b n d hh => exact va_Nw.use rfl (va_Nw.warmF hW (va_Nw.of rfl hb))
  | _ => exact word_at hW (good_of_word (by exact ho)) hb
theorem gw_hts {args : Array Value} {s : State} (h : ∀ w ∈ lw_tbl, w.before args s = true) : ∀ w ∈ gw, w.before args s = true := fun w hw => h w (List.mem_filter.mp hw).1
end
section
theorem kw_0 : (.initialized "GroupBitmapsLaw" : Cond) ∈ gw := gw_t 0 (by decide +kernel) (by decide +kernel)
theorem kw_1 : (.initialized "GroupBitmaps" : Cond) ∈ gw := gw_t 1 (by decide +kernel) (by decide +kernel)
theorem kw_2 : (.initialized "GroupBitmaps$Group" : Cond) ∈ gw := gw_t 2 (by decide +kernel) (by decide +kernel)
theorem kw_3 : (.initialized "GroupBitmaps$Bitmap" : Cond) ∈ gw := gw_t 3 (by decide +kernel) (by decide +kernel)
theorem kw_4 : (.initialized "GroupBitmapsModel" : Cond) ∈ gw := gw_t 4 (by decide +kernel) (by decide +kernel)
theorem kw_5 : (.initialized "java/lang/Throwable" : Cond) ∈ gw := gw_t 5 (by decide +kernel) (by decide +kernel)
theorem kw_6 : (.initialized "java/lang/Exception" : Cond) ∈ gw := gw_t 6 (by decide +kernel) (by decide +kernel)
theorem kw_7 : (.initialized "java/lang/RuntimeException" : Cond) ∈ gw := gw_t 7 (by decide +kernel) (by decide +kernel)
theorem kw_8 : (.initialized "java/lang/IllegalArgumentException" : Cond) ∈ gw := gw_t 8 (by decide +kernel) (by decide +kernel)
theorem kw_9 : (.initialized "java/lang/Math" : Cond) ∈ gw := gw_t 9 (by decide +kernel) (by decide +kernel)
theorem kw_10 : (.initialized "java/lang/IllegalStateException" : Cond) ∈ gw := gw_t 10 (by decide +kernel) (by decide +kernel)
theorem kw_11 : (.initialized "java/lang/IndexOutOfBoundsException" : Cond) ∈ gw := gw_t 11 (by decide +kernel) (by decide +kernel)
theorem kw_12 : (.classLink "GroupBitmapsLaw" 8 "GroupBitmaps" : Cond) ∈ gw := gw_t 12 (by decide +kernel) (by decide +kernel)
theorem kw_13 : (.instantiable "GroupBitmaps" 5 : Cond) ∈ gw := gw_t 13 (by decide +kernel) (by decide +kernel)
theorem kw_14 : (.methodLink "GroupBitmapsLaw" 51 ⟨"GroupBitmaps", "<init>", "()V"⟩ : Cond) ∈ gw := gw_t 14 (by decide +kernel) (by decide +kernel)
theorem kw_15 : (.instanceMethod ⟨"GroupBitmaps", "<init>", "()V"⟩ : Cond) ∈ gw := gw_t 15 (by decide +kernel) (by decide +kernel)
theorem kw_16 : (.code ⟨"GroupBitmaps", "<init>", "()V"⟩ prog_1_method_1_code 2 none : Cond) ∈ gw := gw_t 16 (by decide +kernel) (by decide +kernel)
theorem kw_17 : (.methodLink "GroupBitmaps" 3 ⟨"java/lang/Object", "<init>", "()V"⟩ : Cond) ∈ gw := gw_t 17 (by decide +kernel) (by decide +kernel)
theorem kw_18 : (.instanceMethod ⟨"java/lang/Object", "<init>", "()V"⟩ : Cond) ∈ gw := gw_t 18 (by decide +kernel) (by decide +kernel)
theorem kw_19 : (.code ⟨"java/lang/Object", "<init>", "()V"⟩ object_method_1_code 1 none : Cond) ∈ gw := gw_t 19 (by decide +kernel) (by decide +kernel)
theorem kw_20 : (.classLink "GroupBitmaps" 9 "GroupBitmaps$Group" : Cond) ∈ gw := gw_t 20 (by decide +kernel) (by decide +kernel)
theorem kw_22 : (.instantiable "GroupBitmaps$Group" 6 : Cond) ∈ gw := gw_t 22 (by decide +kernel) (by decide +kernel)
theorem kw_23 : (.methodLink "GroupBitmaps" 19 ⟨"GroupBitmaps$Group", "<init>", "(I)V"⟩ : Cond) ∈ gw := gw_t 23 (by decide +kernel) (by decide +kernel)
theorem kw_24 : (.instanceMethod ⟨"GroupBitmaps$Group", "<init>", "(I)V"⟩ : Cond) ∈ gw := gw_t 24 (by decide +kernel) (by decide +kernel)
theorem kw_25 : (.code ⟨"GroupBitmaps$Group", "<init>", "(I)V"⟩ prog_3_method_1_code 3 none : Cond) ∈ gw := gw_t 25 (by decide +kernel) (by decide +kernel)
theorem kw_26 : (.methodLink "GroupBitmaps$Group" 3 ⟨"java/lang/Object", "<init>", "()V"⟩ : Cond) ∈ gw := gw_t 26 (by decide +kernel) (by decide +kernel)
theorem kw_27 : (.classLink "GroupBitmaps$Group" 21 "GroupBitmaps$Bitmap" : Cond) ∈ gw := gw_t 27 (by decide +kernel) (by decide +kernel)
theorem kw_28 : (.instantiable "GroupBitmaps$Bitmap" 5 : Cond) ∈ gw := gw_t 28 (by decide +kernel) (by decide +kernel)
theorem kw_29 : (.methodLink "GroupBitmaps$Group" 23 ⟨"GroupBitmaps$Bitmap", "<init>", "(II)V"⟩ : Cond) ∈ gw := gw_t 29 (by decide +kernel) (by decide +kernel)
theorem kw_30 : (.instanceMethod ⟨"GroupBitmaps$Bitmap", "<init>", "(II)V"⟩ : Cond) ∈ gw := gw_t 30 (by decide +kernel) (by decide +kernel)
theorem kw_31 : (.code ⟨"GroupBitmaps$Bitmap", "<init>", "(II)V"⟩ prog_2_method_1_code 3 none : Cond) ∈ gw := gw_t 31 (by decide +kernel) (by decide +kernel)
theorem kw_32 : (.methodLink "GroupBitmaps$Bitmap" 1 ⟨"java/lang/Object", "<init>", "()V"⟩ : Cond) ∈ gw := gw_t 32 (by decide +kernel) (by decide +kernel)
theorem kw_33 : (.fieldLink "GroupBitmaps$Bitmap" 7 "GroupBitmaps$Bitmap" "place" "I" : Cond) ∈ gw := gw_t 33 (by decide +kernel) (by decide +kernel)
theorem kw_34 : (.fieldLinkNest "GroupBitmaps$Group" 39 "GroupBitmaps$Bitmap" "place" "I" "GroupBitmaps" : Cond) ∈ gw := gw_t 34 (by decide +kernel) (by decide +kernel)
theorem kw_35 : (.fieldLink "GroupBitmaps$Bitmap" 13 "GroupBitmaps$Bitmap" "bits" "[Z" : Cond) ∈ gw := gw_t 35 (by decide +kernel) (by decide +kernel)
theorem kw_36 : (.fieldLink "GroupBitmaps$Bitmap" 17 "GroupBitmaps$Bitmap" "size" "I" : Cond) ∈ gw := gw_t 36 (by decide +kernel) (by decide +kernel)
theorem kw_37 : (.fieldLinkNest "GroupBitmaps" 151 "GroupBitmaps$Bitmap" "size" "I" "GroupBitmaps" : Cond) ∈ gw := gw_t 37 (by decide +kernel) (by decide +kernel)
theorem kw_38 : (.fieldLink "GroupBitmaps$Bitmap" 20 "GroupBitmaps$Bitmap" "freeCount" "I" : Cond) ∈ gw := gw_t 38 (by decide +kernel) (by decide +kernel)
theorem kw_39 : (.fieldLinkNest "GroupBitmaps$Group" 42 "GroupBitmaps$Bitmap" "freeCount" "I" "GroupBitmaps" : Cond) ∈ gw := gw_t 39 (by decide +kernel) (by decide +kernel)
theorem kw_40 : (.fieldLinkNest "GroupBitmaps" 154 "GroupBitmaps$Bitmap" "freeCount" "I" "GroupBitmaps" : Cond) ∈ gw := gw_t 40 (by decide +kernel) (by decide +kernel)
theorem kw_41 : (.fieldLink "GroupBitmaps$Bitmap" 23 "GroupBitmaps$Bitmap" "told" "Z" : Cond) ∈ gw := gw_t 41 (by decide +kernel) (by decide +kernel)
theorem kw_42 : (.fieldLinkNest "GroupBitmaps" 180 "GroupBitmaps$Bitmap" "told" "Z" "GroupBitmaps" : Cond) ∈ gw := gw_t 42 (by decide +kernel) (by decide +kernel)
theorem kw_54 : (.arrayClass .boolean : Cond) ∈ gw := gw_t 54 (by decide +kernel) (by decide +kernel)
theorem kw_55 : (.fieldLink "GroupBitmaps$Group" 9 "GroupBitmaps$Group" "first" "I" : Cond) ∈ gw := gw_t 55 (by decide +kernel) (by decide +kernel)
theorem kw_56 : (.fieldLinkNest "GroupBitmaps" 148 "GroupBitmaps$Group" "first" "I" "GroupBitmaps" : Cond) ∈ gw := gw_t 56 (by decide +kernel) (by decide +kernel)
theorem kw_57 : (.fieldLink "GroupBitmaps$Group" 15 "GroupBitmaps$Group" "fixed" "I" : Cond) ∈ gw := gw_t 57 (by decide +kernel) (by decide +kernel)
theorem kw_58 : (.fieldLinkNest "GroupBitmaps" 212 "GroupBitmaps$Group" "fixed" "I" "GroupBitmaps" : Cond) ∈ gw := gw_t 58 (by decide +kernel) (by decide +kernel)
theorem kw_59 : (.fieldLink "GroupBitmaps$Group" 18 "GroupBitmaps$Group" "records" "I" : Cond) ∈ gw := gw_t 59 (by decide +kernel) (by decide +kernel)
theorem kw_60 : (.fieldLink "GroupBitmaps$Group" 26 "GroupBitmaps$Group" "blocks" "LGroupBitmaps$Bitmap;" : Cond) ∈ gw := gw_t 60 (by decide +kernel) (by decide +kernel)
theorem kw_61 : (.fieldLinkNest "GroupBitmaps" 90 "GroupBitmaps$Group" "blocks" "LGroupBitmaps$Bitmap;" "GroupBitmaps" : Cond) ∈ gw := gw_t 61 (by decide +kernel) (by decide +kernel)
theorem kw_62 : (.fieldLink "GroupBitmaps$Group" 30 "GroupBitmaps$Group" "files" "LGroupBitmaps$Bitmap;" : Cond) ∈ gw := gw_t 62 (by decide +kernel) (by decide +kernel)
theorem kw_63 : (.fieldLinkNest "GroupBitmaps" 124 "GroupBitmaps$Group" "files" "LGroupBitmaps$Bitmap;" "GroupBitmaps" : Cond) ∈ gw := gw_t 63 (by decide +kernel) (by decide +kernel)
theorem kw_64 : (.fieldLink "GroupBitmaps$Group" 36 "GroupBitmaps$Group" "folders" "I" : Cond) ∈ gw := gw_t 64 (by decide +kernel) (by decide +kernel)
theorem kw_65 : (.fieldLinkNest "GroupBitmaps" 132 "GroupBitmaps$Group" "folders" "I" "GroupBitmaps" : Cond) ∈ gw := gw_t 65 (by decide +kernel) (by decide +kernel)
theorem kw_79 : (.methodLink "GroupBitmaps" 22 ⟨"GroupBitmaps", "layOut", "(II)V"⟩ : Cond) ∈ gw := gw_t 79 (by decide +kernel) (by decide +kernel)
theorem kw_81 : (.instanceMethod ⟨"GroupBitmaps", "layOut", "(II)V"⟩ : Cond) ∈ gw := gw_t 81 (by decide +kernel) (by decide +kernel)
theorem kw_82 : (.code ⟨"GroupBitmaps", "layOut", "(II)V"⟩ prog_1_method_14_code 4 none : Cond) ∈ gw := gw_t 82 (by decide +kernel) (by decide +kernel)
theorem kw_83 : (.methodLink "GroupBitmaps" 186 ⟨"GroupBitmaps$Group", "layOut", "(I)V"⟩ : Cond) ∈ gw := gw_t 83 (by decide +kernel) (by decide +kernel)
theorem kw_84 : (.instanceMethod ⟨"GroupBitmaps$Group", "layOut", "(I)V"⟩ : Cond) ∈ gw := gw_t 84 (by decide +kernel) (by decide +kernel)
theorem kw_85 : (.selects "GroupBitmaps$Group" ⟨"GroupBitmaps$Group", "layOut", "(I)V"⟩ ⟨"GroupBitmaps$Group", "layOut", "(I)V"⟩ : Cond) ∈ gw := gw_t 85 (by decide +kernel) (by decide +kernel)
theorem kw_86 : (.code ⟨"GroupBitmaps$Group", "layOut", "(I)V"⟩ prog_3_method_2_code 2 none : Cond) ∈ gw := gw_t 86 (by decide +kernel) (by decide +kernel)
theorem kw_87 : (.methodLink "GroupBitmaps$Group" 33 ⟨"GroupBitmaps$Bitmap", "layOut", "(II)V"⟩ : Cond) ∈ gw := gw_t 87 (by decide +kernel) (by decide +kernel)
theorem kw_88 : (.instanceMethod ⟨"GroupBitmaps$Bitmap", "layOut", "(II)V"⟩ : Cond) ∈ gw := gw_t 88 (by decide +kernel) (by decide +kernel)
theorem kw_89 : (.selects "GroupBitmaps$Bitmap" ⟨"GroupBitmaps$Bitmap", "layOut", "(II)V"⟩ ⟨"GroupBitmaps$Bitmap", "layOut", "(II)V"⟩ : Cond) ∈ gw := gw_t 89 (by decide +kernel) (by decide +kernel)
theorem kw_90 : (.code ⟨"GroupBitmaps$Bitmap", "layOut", "(II)V"⟩ prog_2_method_2_code 4 none : Cond) ∈ gw := gw_t 90 (by decide +kernel) (by decide +kernel)
theorem kw_91 : (.fieldLink "GroupBitmaps" 11 "GroupBitmaps" "groups" "[LGroupBitmaps$Group;" : Cond) ∈ gw := gw_t 91 (by decide +kernel) (by decide +kernel)
theorem kw_92 : (.fieldLink "GroupBitmaps" 15 "GroupBitmaps" "count" "I" : Cond) ∈ gw := gw_t 92 (by decide +kernel) (by decide +kernel)
theorem kw_93 : (.fieldLink "GroupBitmaps" 41 "GroupBitmaps" "reserved" "I" : Cond) ∈ gw := gw_t 93 (by decide +kernel) (by decide +kernel)
theorem kw_94 : (.fieldLink "GroupBitmaps" 70 "GroupBitmaps" "latelyTaken" "I" : Cond) ∈ gw := gw_t 94 (by decide +kernel) (by decide +kernel)
theorem kw_95 : (.fieldLink "GroupBitmaps" 99 "GroupBitmaps" "tableTold" "Z" : Cond) ∈ gw := gw_t 95 (by decide +kernel) (by decide +kernel)
theorem kw_107 : (.methodLink "GroupBitmapsLaw" 73 ⟨"GroupBitmaps", "taken", "()I"⟩ : Cond) ∈ gw := gw_t 107 (by decide +kernel) (by decide +kernel)
theorem kw_108 : (.instanceMethod ⟨"GroupBitmaps", "taken", "()I"⟩ : Cond) ∈ gw := gw_t 108 (by decide +kernel) (by decide +kernel)
theorem kw_109 : (.selects "GroupBitmaps" ⟨"GroupBitmaps", "taken", "()I"⟩ ⟨"GroupBitmaps", "taken", "()I"⟩ : Cond) ∈ gw := gw_t 109 (by decide +kernel) (by decide +kernel)
theorem kw_110 : (.code ⟨"GroupBitmaps", "taken", "()I"⟩ prog_1_method_5_code 1 (some .int) : Cond) ∈ gw := gw_t 110 (by decide +kernel) (by decide +kernel)
theorem kw_111 : (.methodLink "GroupBitmapsLaw" 99 ⟨"GroupBitmaps", "settle", "()I"⟩ : Cond) ∈ gw := gw_t 111 (by decide +kernel) (by decide +kernel)
theorem kw_112 : (.instanceMethod ⟨"GroupBitmaps", "settle", "()I"⟩ : Cond) ∈ gw := gw_t 112 (by decide +kernel) (by decide +kernel)
theorem kw_113 : (.selects "GroupBitmaps" ⟨"GroupBitmaps", "settle", "()I"⟩ ⟨"GroupBitmaps", "settle", "()I"⟩ : Cond) ∈ gw := gw_t 113 (by decide +kernel) (by decide +kernel)
theorem kw_114 : (.code ⟨"GroupBitmaps", "settle", "()I"⟩ prog_1_method_13_code 3 (some .int) : Cond) ∈ gw := gw_t 114 (by decide +kernel) (by decide +kernel)
theorem kw_115 : (.methodLink "GroupBitmaps" 183 ⟨"GroupBitmaps$Bitmap", "forgetTold", "()I"⟩ : Cond) ∈ gw := gw_t 115 (by decide +kernel) (by decide +kernel)
theorem kw_116 : (.instanceMethod ⟨"GroupBitmaps$Bitmap", "forgetTold", "()I"⟩ : Cond) ∈ gw := gw_t 116 (by decide +kernel) (by decide +kernel)
theorem kw_117 : (.selects "GroupBitmaps$Bitmap" ⟨"GroupBitmaps$Bitmap", "forgetTold", "()I"⟩ ⟨"GroupBitmaps$Bitmap", "forgetTold", "()I"⟩ : Cond) ∈ gw := gw_t 117 (by decide +kernel) (by decide +kernel)
theorem kw_118 : (.code ⟨"GroupBitmaps$Bitmap", "forgetTold", "()I"⟩ prog_2_method_11_code 2 (some .int) : Cond) ∈ gw := gw_t 118 (by decide +kernel) (by decide +kernel)
theorem kw_119 : (.methodLink "GroupBitmapsLaw" 55 ⟨"GroupBitmapsLaw", "lay", "(LGroupBitmaps;II[J)I"⟩ : Cond) ∈ gw := gw_t 119 (by decide +kernel) (by decide +kernel)
theorem kw_120 : (.static ⟨"GroupBitmapsLaw", "lay", "(LGroupBitmaps;II[J)I"⟩ : Cond) ∈ gw := gw_t 120 (by decide +kernel) (by decide +kernel)
theorem kw_121 : (.codeWith ⟨"GroupBitmapsLaw", "lay", "(LGroupBitmaps;II[J)I"⟩ method_3_code 5 (some .int) [(0, 10, 13, 13)] : Cond) ∈ gw := gw_t 121 (by decide +kernel) (by decide +kernel)
theorem kw_122 : (.classLink "GroupBitmapsLaw" 13 "java/lang/IllegalArgumentException" : Cond) ∈ gw := gw_t 122 (by decide +kernel) (by decide +kernel)
theorem kw_123 : (.methodLink "GroupBitmapsLaw" 7 ⟨"GroupBitmaps", "lay", "(II)I"⟩ : Cond) ∈ gw := gw_t 123 (by decide +kernel) (by decide +kernel)
theorem kw_124 : (.instanceMethod ⟨"GroupBitmaps", "lay", "(II)I"⟩ : Cond) ∈ gw := gw_t 124 (by decide +kernel) (by decide +kernel)
theorem kw_125 : (.selects "GroupBitmaps" ⟨"GroupBitmaps", "lay", "(II)I"⟩ ⟨"GroupBitmaps", "lay", "(II)I"⟩ : Cond) ∈ gw := gw_t 125 (by decide +kernel) (by decide +kernel)
theorem kw_126 : (.code ⟨"GroupBitmaps", "lay", "(II)I"⟩ prog_1_method_2_code 3 (some .int) : Cond) ∈ gw := gw_t 126 (by decide +kernel) (by decide +kernel)
theorem kw_127 : (.classLink "GroupBitmaps" 26 "java/lang/IllegalArgumentException" : Cond) ∈ gw := gw_t 127 (by decide +kernel) (by decide +kernel)
theorem kw_128 : (.instantiable "java/lang/IllegalArgumentException" 6 : Cond) ∈ gw := gw_t 128 (by decide +kernel) (by decide +kernel)
theorem kw_136 : (.selects "java/lang/IllegalArgumentException" ⟨"java/lang/Throwable", "fillInStackTrace", "(I)Ljava/lang/Throwable;"⟩ ⟨"java/lang/Throwable", "fillInStackTrace", "(I)Ljava/lang/Throwable;"⟩ : Cond) ∈ gw := gw_t 136 (by decide +kernel) (by decide +kernel)
theorem kw_137 : (.selects "java/lang/IllegalArgumentException" ⟨"java/lang/Throwable", "fillInStackTrace", "()Ljava/lang/Throwable;"⟩ ⟨"java/lang/Throwable", "fillInStackTrace", "()Ljava/lang/Throwable;"⟩ : Cond) ∈ gw := gw_t 137 (by decide +kernel) (by decide +kernel)
theorem kw_148 : (.fieldLink "java/lang/Throwable" 198 "java/lang/Throwable" "backtrace" "Ljava/lang/Object;" : Cond) ∈ gw := gw_t 148 (by decide +kernel) (by decide +kernel)
theorem kw_150 : (.instanceMethod ⟨"java/lang/Throwable", "<init>", "()V"⟩ : Cond) ∈ gw := gw_t 150 (by decide +kernel) (by decide +kernel)
theorem kw_151 : (.code ⟨"java/lang/Throwable", "<init>", "()V"⟩ prog_13_method_1_code 1 none : Cond) ∈ gw := gw_t 151 (by decide +kernel) (by decide +kernel)
theorem kw_152 : (.methodLink "java/lang/Throwable" 1 ⟨"java/lang/Object", "<init>", "()V"⟩ : Cond) ∈ gw := gw_t 152 (by decide +kernel) (by decide +kernel)
theorem kw_153 : (.fieldLink "java/lang/Throwable" 13 "java/lang/Throwable" "UNASSIGNED_STACK" "[Ljava/lang/StackTraceElement;" : Cond) ∈ gw := gw_t 153 (by decide +kernel) (by decide +kernel)
theorem kw_155 : (.fieldLink "java/lang/Throwable" 20 "java/lang/Throwable" "SUPPRESSED_SENTINEL" "Ljava/util/List;" : Cond) ∈ gw := gw_t 155 (by decide +kernel) (by decide +kernel)
theorem kw_157 : (.methodLink "java/lang/Throwable" 27 ⟨"java/lang/Throwable", "fillInStackTrace", "()Ljava/lang/Throwable;"⟩ : Cond) ∈ gw := gw_t 157 (by decide +kernel) (by decide +kernel)
theorem kw_158 : (.instanceMethod ⟨"java/lang/Throwable", "fillInStackTrace", "()Ljava/lang/Throwable;"⟩ : Cond) ∈ gw := gw_t 158 (by decide +kernel) (by decide +kernel)
theorem kw_160 : (.selects "java/lang/IllegalStateException" ⟨"java/lang/Throwable", "fillInStackTrace", "()Ljava/lang/Throwable;"⟩ ⟨"java/lang/Throwable", "fillInStackTrace", "()Ljava/lang/Throwable;"⟩ : Cond) ∈ gw := gw_t 160 (by decide +kernel) (by decide +kernel)
theorem kw_161 : (.selects "java/lang/IndexOutOfBoundsException" ⟨"java/lang/Throwable", "fillInStackTrace", "()Ljava/lang/Throwable;"⟩ ⟨"java/lang/Throwable", "fillInStackTrace", "()Ljava/lang/Throwable;"⟩ : Cond) ∈ gw := gw_t 161 (by decide +kernel) (by decide +kernel)
theorem kw_163 : (.methodLink "java/lang/Throwable" 202 ⟨"java/lang/Throwable", "fillInStackTrace", "(I)Ljava/lang/Throwable;"⟩ : Cond) ∈ gw := gw_t 163 (by decide +kernel) (by decide +kernel)
theorem kw_165 : (.instanceMethod ⟨"java/lang/Throwable", "fillInStackTrace", "(I)Ljava/lang/Throwable;"⟩ : Cond) ∈ gw := gw_t 165 (by decide +kernel) (by decide +kernel)
theorem kw_166 : (.instantiable "java/lang/Throwable" 6 : Cond) ∈ gw := gw_t 166 (by decide +kernel) (by decide +kernel)
theorem kw_169 : (.methodLink "GroupBitmaps" 30 ⟨"java/lang/IllegalArgumentException", "<init>", "(Ljava/lang/String;)V"⟩ : Cond) ∈ gw := gw_t 169 (by decide +kernel) (by decide +kernel)
theorem kw_170 : (.instanceMethod ⟨"java/lang/IllegalArgumentException", "<init>", "(Ljava/lang/String;)V"⟩ : Cond) ∈ gw := gw_t 170 (by decide +kernel) (by decide +kernel)
theorem kw_171 : (.code ⟨"java/lang/IllegalArgumentException", "<init>", "(Ljava/lang/String;)V"⟩ prog_7_method_2_code 2 none : Cond) ∈ gw := gw_t 171 (by decide +kernel) (by decide +kernel)
theorem kw_172 : (.methodLink "java/lang/IllegalArgumentException" 7 ⟨"java/lang/RuntimeException", "<init>", "(Ljava/lang/String;)V"⟩ : Cond) ∈ gw := gw_t 172 (by decide +kernel) (by decide +kernel)
theorem kw_173 : (.instanceMethod ⟨"java/lang/RuntimeException", "<init>", "(Ljava/lang/String;)V"⟩ : Cond) ∈ gw := gw_t 173 (by decide +kernel) (by decide +kernel)
theorem kw_174 : (.code ⟨"java/lang/RuntimeException", "<init>", "(Ljava/lang/String;)V"⟩ prog_11_method_2_code 2 none : Cond) ∈ gw := gw_t 174 (by decide +kernel) (by decide +kernel)
theorem kw_175 : (.methodLink "java/lang/RuntimeException" 7 ⟨"java/lang/Exception", "<init>", "(Ljava/lang/String;)V"⟩ : Cond) ∈ gw := gw_t 175 (by decide +kernel) (by decide +kernel)
theorem kw_176 : (.instanceMethod ⟨"java/lang/Exception", "<init>", "(Ljava/lang/String;)V"⟩ : Cond) ∈ gw := gw_t 176 (by decide +kernel) (by decide +kernel)
theorem kw_177 : (.code ⟨"java/lang/Exception", "<init>", "(Ljava/lang/String;)V"⟩ prog_6_method_2_code 2 none : Cond) ∈ gw := gw_t 177 (by decide +kernel) (by decide +kernel)
theorem kw_178 : (.methodLink "java/lang/Exception" 7 ⟨"java/lang/Throwable", "<init>", "(Ljava/lang/String;)V"⟩ : Cond) ∈ gw := gw_t 178 (by decide +kernel) (by decide +kernel)
theorem kw_179 : (.instanceMethod ⟨"java/lang/Throwable", "<init>", "(Ljava/lang/String;)V"⟩ : Cond) ∈ gw := gw_t 179 (by decide +kernel) (by decide +kernel)
theorem kw_180 : (.code ⟨"java/lang/Throwable", "<init>", "(Ljava/lang/String;)V"⟩ prog_13_method_2_code 2 none : Cond) ∈ gw := gw_t 180 (by decide +kernel) (by decide +kernel)
theorem kw_181 : (.fieldLink "java/lang/Throwable" 198 "java/lang/Throwable" "backtrace" "Ljava/lang/Object;" : Cond) ∈ gw := gw_t 181 (by decide +kernel) (by decide +kernel)
theorem kw_182 : (.fieldLink "java/lang/Throwable" 31 "java/lang/Throwable" "detailMessage" "Ljava/lang/String;" : Cond) ∈ gw := gw_t 182 (by decide +kernel) (by decide +kernel)
theorem kw_183 : (.fieldLink "java/lang/Throwable" 7 "java/lang/Throwable" "cause" "Ljava/lang/Throwable;" : Cond) ∈ gw := gw_t 183 (by decide +kernel) (by decide +kernel)
theorem kw_184 : (.fieldLink "java/lang/Throwable" 17 "java/lang/Throwable" "stackTrace" "[Ljava/lang/StackTraceElement;" : Cond) ∈ gw := gw_t 184 (by decide +kernel) (by decide +kernel)
theorem kw_185 : (.fieldLink "java/lang/Throwable" 24 "java/lang/Throwable" "suppressedExceptions" "Ljava/util/List;" : Cond) ∈ gw := gw_t 185 (by decide +kernel) (by decide +kernel)
theorem kw_194 : (.arrayClass .byte : Cond) ∈ gw := gw_t 194 (by decide +kernel) (by decide +kernel)
theorem kw_196 : (.methodLink "GroupBitmaps" 35 ⟨"GroupBitmaps", "freeBlocks", "()I"⟩ : Cond) ∈ gw := gw_t 196 (by decide +kernel) (by decide +kernel)
theorem kw_198 : (.instanceMethod ⟨"GroupBitmaps", "freeBlocks", "()I"⟩ : Cond) ∈ gw := gw_t 198 (by decide +kernel) (by decide +kernel)
theorem kw_199 : (.code ⟨"GroupBitmaps", "freeBlocks", "()I"⟩ prog_1_method_21_code 3 (some .int) : Cond) ∈ gw := gw_t 199 (by decide +kernel) (by decide +kernel)
theorem kw_200 : (.methodLink "GroupBitmapsLaw" 65 ⟨"GroupBitmapsLaw", "reserve", "(LGroupBitmaps;I[J)I"⟩ : Cond) ∈ gw := gw_t 200 (by decide +kernel) (by decide +kernel)
theorem kw_201 : (.static ⟨"GroupBitmapsLaw", "reserve", "(LGroupBitmaps;I[J)I"⟩ : Cond) ∈ gw := gw_t 201 (by decide +kernel) (by decide +kernel)
theorem kw_202 : (.codeWith ⟨"GroupBitmapsLaw", "reserve", "(LGroupBitmaps;I[J)I"⟩ method_4_code 4 (some .int) [(0, 9, 12, 13)] : Cond) ∈ gw := gw_t 202 (by decide +kernel) (by decide +kernel)
theorem kw_203 : (.methodLink "GroupBitmapsLaw" 15 ⟨"GroupBitmaps", "reserve", "(I)I"⟩ : Cond) ∈ gw := gw_t 203 (by decide +kernel) (by decide +kernel)
theorem kw_204 : (.instanceMethod ⟨"GroupBitmaps", "reserve", "(I)I"⟩ : Cond) ∈ gw := gw_t 204 (by decide +kernel) (by decide +kernel)
theorem kw_205 : (.selects "GroupBitmaps" ⟨"GroupBitmaps", "reserve", "(I)I"⟩ ⟨"GroupBitmaps", "reserve", "(I)I"⟩ : Cond) ∈ gw := gw_t 205 (by decide +kernel) (by decide +kernel)
theorem kw_206 : (.code ⟨"GroupBitmaps", "reserve", "(I)I"⟩ prog_1_method_3_code 2 (some .int) : Cond) ∈ gw := gw_t 206 (by decide +kernel) (by decide +kernel)
theorem kw_208 : (.methodLink "GroupBitmaps" 44 ⟨"GroupBitmaps", "takeable", "(Z)I"⟩ : Cond) ∈ gw := gw_t 208 (by decide +kernel) (by decide +kernel)
theorem kw_210 : (.instanceMethod ⟨"GroupBitmaps", "takeable", "(Z)I"⟩ : Cond) ∈ gw := gw_t 210 (by decide +kernel) (by decide +kernel)
theorem kw_211 : (.code ⟨"GroupBitmaps", "takeable", "(Z)I"⟩ prog_1_method_23_code 2 (some .int) : Cond) ∈ gw := gw_t 211 (by decide +kernel) (by decide +kernel)
theorem kw_212 : (.methodLink "GroupBitmaps" 188 ⟨"java/lang/Math", "max", "(II)I"⟩ : Cond) ∈ gw := gw_t 212 (by decide +kernel) (by decide +kernel)
theorem kw_213 : (.static ⟨"java/lang/Math", "max", "(II)I"⟩ : Cond) ∈ gw := gw_t 213 (by decide +kernel) (by decide +kernel)
theorem kw_214 : (.code ⟨"java/lang/Math", "max", "(II)I"⟩ prog_10_method_65_code 2 (some .int) : Cond) ∈ gw := gw_t 214 (by decide +kernel) (by decide +kernel)
theorem kw_215 : (.methodLink "GroupBitmapsLaw" 69 ⟨"GroupBitmapsLaw", "take", "(LGroupBitmaps;IIZ[J)I"⟩ : Cond) ∈ gw := gw_t 215 (by decide +kernel) (by decide +kernel)
theorem kw_216 : (.static ⟨"GroupBitmapsLaw", "take", "(LGroupBitmaps;IIZ[J)I"⟩ : Cond) ∈ gw := gw_t 216 (by decide +kernel) (by decide +kernel)
theorem kw_217 : (.codeWith ⟨"GroupBitmapsLaw", "take", "(LGroupBitmaps;IIZ[J)I"⟩ method_5_code 6 (some .int) [(0, 12, 15, 13), (0, 12, 19, 23)] : Cond) ∈ gw := gw_t 217 (by decide +kernel) (by decide +kernel)
theorem kw_218 : (.classLink "GroupBitmapsLaw" 23 "java/lang/IllegalStateException" : Cond) ∈ gw := gw_t 218 (by decide +kernel) (by decide +kernel)
theorem kw_219 : (.methodLink "GroupBitmapsLaw" 19 ⟨"GroupBitmaps", "take", "(IIZ)I"⟩ : Cond) ∈ gw := gw_t 219 (by decide +kernel) (by decide +kernel)
theorem kw_220 : (.instanceMethod ⟨"GroupBitmaps", "take", "(IIZ)I"⟩ : Cond) ∈ gw := gw_t 220 (by decide +kernel) (by decide +kernel)
theorem kw_221 : (.selects "GroupBitmaps" ⟨"GroupBitmaps", "take", "(IIZ)I"⟩ ⟨"GroupBitmaps", "take", "(IIZ)I"⟩ : Cond) ∈ gw := gw_t 221 (by decide +kernel) (by decide +kernel)
theorem kw_222 : (.code ⟨"GroupBitmaps", "take", "(IIZ)I"⟩ prog_1_method_4_code 5 (some .int) : Cond) ∈ gw := gw_t 222 (by decide +kernel) (by decide +kernel)
theorem kw_223 : (.methodLink "GroupBitmaps" 48 ⟨"GroupBitmaps", "hasBlock", "(I)Z"⟩ : Cond) ∈ gw := gw_t 223 (by decide +kernel) (by decide +kernel)
theorem kw_225 : (.instanceMethod ⟨"GroupBitmaps", "hasBlock", "(I)Z"⟩ : Cond) ∈ gw := gw_t 225 (by decide +kernel) (by decide +kernel)
theorem kw_226 : (.code ⟨"GroupBitmaps", "hasBlock", "(I)Z"⟩ prog_1_method_16_code 2 (some .boolean) : Cond) ∈ gw := gw_t 226 (by decide +kernel) (by decide +kernel)
theorem kw_227 : (.methodLink "GroupBitmaps" 75 ⟨"GroupBitmaps", "allBlocks", "()I"⟩ : Cond) ∈ gw := gw_t 227 (by decide +kernel) (by decide +kernel)
theorem kw_229 : (.instanceMethod ⟨"GroupBitmaps", "allBlocks", "()I"⟩ : Cond) ∈ gw := gw_t 229 (by decide +kernel) (by decide +kernel)
theorem kw_230 : (.code ⟨"GroupBitmaps", "allBlocks", "()I"⟩ prog_1_method_15_code 1 (some .int) : Cond) ∈ gw := gw_t 230 (by decide +kernel) (by decide +kernel)
theorem kw_233 : (.classLink "GroupBitmaps" 56 "java/lang/IllegalStateException" : Cond) ∈ gw := gw_t 233 (by decide +kernel) (by decide +kernel)
theorem kw_234 : (.instantiable "java/lang/IllegalStateException" 6 : Cond) ∈ gw := gw_t 234 (by decide +kernel) (by decide +kernel)
theorem kw_236 : (.selects "java/lang/IllegalStateException" ⟨"java/lang/Throwable", "fillInStackTrace", "(I)Ljava/lang/Throwable;"⟩ ⟨"java/lang/Throwable", "fillInStackTrace", "(I)Ljava/lang/Throwable;"⟩ : Cond) ∈ gw := gw_t 236 (by decide +kernel) (by decide +kernel)
theorem kw_243 : (.methodLink "GroupBitmaps" 60 ⟨"java/lang/IllegalStateException", "<init>", "(Ljava/lang/String;)V"⟩ : Cond) ∈ gw := gw_t 243 (by decide +kernel) (by decide +kernel)
theorem kw_244 : (.instanceMethod ⟨"java/lang/IllegalStateException", "<init>", "(Ljava/lang/String;)V"⟩ : Cond) ∈ gw := gw_t 244 (by decide +kernel) (by decide +kernel)
theorem kw_245 : (.code ⟨"java/lang/IllegalStateException", "<init>", "(Ljava/lang/String;)V"⟩ prog_8_method_2_code 2 none : Cond) ∈ gw := gw_t 245 (by decide +kernel) (by decide +kernel)
theorem kw_246 : (.methodLink "java/lang/IllegalStateException" 7 ⟨"java/lang/RuntimeException", "<init>", "(Ljava/lang/String;)V"⟩ : Cond) ∈ gw := gw_t 246 (by decide +kernel) (by decide +kernel)
theorem kw_249 : (.methodLink "GroupBitmaps" 61 ⟨"java/lang/Math", "min", "(II)I"⟩ : Cond) ∈ gw := gw_t 249 (by decide +kernel) (by decide +kernel)
theorem kw_250 : (.static ⟨"java/lang/Math", "min", "(II)I"⟩ : Cond) ∈ gw := gw_t 250 (by decide +kernel) (by decide +kernel)
theorem kw_251 : (.code ⟨"java/lang/Math", "min", "(II)I"⟩ prog_10_method_69_code 2 (some .int) : Cond) ∈ gw := gw_t 251 (by decide +kernel) (by decide +kernel)
theorem kw_252 : (.methodLink "GroupBitmaps" 67 ⟨"GroupBitmaps", "takeNear", "(II)I"⟩ : Cond) ∈ gw := gw_t 252 (by decide +kernel) (by decide +kernel)
theorem kw_254 : (.instanceMethod ⟨"GroupBitmaps", "takeNear", "(II)I"⟩ : Cond) ∈ gw := gw_t 254 (by decide +kernel) (by decide +kernel)
theorem kw_255 : (.code ⟨"GroupBitmaps", "takeNear", "(II)I"⟩ prog_1_method_24_code 8 (some .int) : Cond) ∈ gw := gw_t 255 (by decide +kernel) (by decide +kernel)
theorem kw_256 : (.methodLink "GroupBitmaps" 86 ⟨"GroupBitmaps", "groupOfBlock", "(I)LGroupBitmaps$Group;"⟩ : Cond) ∈ gw := gw_t 256 (by decide +kernel) (by decide +kernel)
theorem kw_258 : (.instanceMethod ⟨"GroupBitmaps", "groupOfBlock", "(I)LGroupBitmaps$Group;"⟩ : Cond) ∈ gw := gw_t 258 (by decide +kernel) (by decide +kernel)
theorem kw_259 : (.code ⟨"GroupBitmaps", "groupOfBlock", "(I)LGroupBitmaps$Group;"⟩ prog_1_method_18_code 2 (some (.object "GroupBitmaps$Group")) : Cond) ∈ gw := gw_t 259 (by decide +kernel) (by decide +kernel)
theorem kw_260 : (.methodLink "GroupBitmaps" 191 ⟨"GroupBitmaps$Bitmap", "areFree", "(II)Z"⟩ : Cond) ∈ gw := gw_t 260 (by decide +kernel) (by decide +kernel)
theorem kw_261 : (.instanceMethod ⟨"GroupBitmaps$Bitmap", "areFree", "(II)Z"⟩ : Cond) ∈ gw := gw_t 261 (by decide +kernel) (by decide +kernel)
theorem kw_262 : (.selects "GroupBitmaps$Bitmap" ⟨"GroupBitmaps$Bitmap", "areFree", "(II)Z"⟩ ⟨"GroupBitmaps$Bitmap", "areFree", "(II)Z"⟩ : Cond) ∈ gw := gw_t 262 (by decide +kernel) (by decide +kernel)
theorem kw_263 : (.code ⟨"GroupBitmaps$Bitmap", "areFree", "(II)Z"⟩ prog_2_method_8_code 4 (some .boolean) : Cond) ∈ gw := gw_t 263 (by decide +kernel) (by decide +kernel)
theorem kw_264 : (.methodLink "GroupBitmaps$Bitmap" 27 ⟨"GroupBitmaps$Bitmap", "isSet", "(I)Z"⟩ : Cond) ∈ gw := gw_t 264 (by decide +kernel) (by decide +kernel)
theorem kw_265 : (.instanceMethod ⟨"GroupBitmaps$Bitmap", "isSet", "(I)Z"⟩ : Cond) ∈ gw := gw_t 265 (by decide +kernel) (by decide +kernel)
theorem kw_266 : (.selects "GroupBitmaps$Bitmap" ⟨"GroupBitmaps$Bitmap", "isSet", "(I)Z"⟩ ⟨"GroupBitmaps$Bitmap", "isSet", "(I)Z"⟩ : Cond) ∈ gw := gw_t 266 (by decide +kernel) (by decide +kernel)
theorem kw_267 : (.code ⟨"GroupBitmaps$Bitmap", "isSet", "(I)Z"⟩ prog_2_method_3_code 2 (some .boolean) : Cond) ∈ gw := gw_t 267 (by decide +kernel) (by decide +kernel)
theorem kw_268 : (.methodLink "GroupBitmaps" 194 ⟨"GroupBitmaps", "takeRun", "(LGroupBitmaps$Group;II)I"⟩ : Cond) ∈ gw := gw_t 268 (by decide +kernel) (by decide +kernel)
theorem kw_270 : (.instanceMethod ⟨"GroupBitmaps", "takeRun", "(LGroupBitmaps$Group;II)I"⟩ : Cond) ∈ gw := gw_t 270 (by decide +kernel) (by decide +kernel)
theorem kw_271 : (.code ⟨"GroupBitmaps", "takeRun", "(LGroupBitmaps$Group;II)I"⟩ prog_1_method_26_code 5 (some .int) : Cond) ∈ gw := gw_t 271 (by decide +kernel) (by decide +kernel)
theorem kw_272 : (.methodLink "GroupBitmaps" 209 ⟨"GroupBitmaps$Bitmap", "occupy", "(I)V"⟩ : Cond) ∈ gw := gw_t 272 (by decide +kernel) (by decide +kernel)
theorem kw_273 : (.instanceMethod ⟨"GroupBitmaps$Bitmap", "occupy", "(I)V"⟩ : Cond) ∈ gw := gw_t 273 (by decide +kernel) (by decide +kernel)
theorem kw_274 : (.selects "GroupBitmaps$Bitmap" ⟨"GroupBitmaps$Bitmap", "occupy", "(I)V"⟩ ⟨"GroupBitmaps$Bitmap", "occupy", "(I)V"⟩ : Cond) ∈ gw := gw_t 274 (by decide +kernel) (by decide +kernel)
theorem kw_275 : (.code ⟨"GroupBitmaps$Bitmap", "occupy", "(I)V"⟩ prog_2_method_4_code 2 none : Cond) ∈ gw := gw_t 275 (by decide +kernel) (by decide +kernel)
theorem kw_276 : (.methodLink "GroupBitmaps" 198 ⟨"GroupBitmaps", "groupBehind", "(LGroupBitmaps$Group;I)LGroupBitmaps$Group;"⟩ : Cond) ∈ gw := gw_t 276 (by decide +kernel) (by decide +kernel)
theorem kw_278 : (.instanceMethod ⟨"GroupBitmaps", "groupBehind", "(LGroupBitmaps$Group;I)LGroupBitmaps$Group;"⟩ : Cond) ∈ gw := gw_t 278 (by decide +kernel) (by decide +kernel)
theorem kw_279 : (.code ⟨"GroupBitmaps", "groupBehind", "(LGroupBitmaps$Group;I)LGroupBitmaps$Group;"⟩ prog_1_method_20_code 3 (some (.object "GroupBitmaps$Group")) : Cond) ∈ gw := gw_t 279 (by decide +kernel) (by decide +kernel)
theorem kw_280 : (.methodLink "GroupBitmaps" 202 ⟨"GroupBitmaps$Bitmap", "shortestRun", "(I)I"⟩ : Cond) ∈ gw := gw_t 280 (by decide +kernel) (by decide +kernel)
theorem kw_281 : (.instanceMethod ⟨"GroupBitmaps$Bitmap", "shortestRun", "(I)I"⟩ : Cond) ∈ gw := gw_t 281 (by decide +kernel) (by decide +kernel)
theorem kw_282 : (.selects "GroupBitmaps$Bitmap" ⟨"GroupBitmaps$Bitmap", "shortestRun", "(I)I"⟩ ⟨"GroupBitmaps$Bitmap", "shortestRun", "(I)I"⟩ : Cond) ∈ gw := gw_t 282 (by decide +kernel) (by decide +kernel)
theorem kw_283 : (.code ⟨"GroupBitmaps$Bitmap", "shortestRun", "(I)I"⟩ prog_2_method_10_code 6 (some .int) : Cond) ∈ gw := gw_t 283 (by decide +kernel) (by decide +kernel)
theorem kw_284 : (.methodLink "GroupBitmaps" 205 ⟨"GroupBitmaps", "takeLongestRun", "(LGroupBitmaps$Group;)I"⟩ : Cond) ∈ gw := gw_t 284 (by decide +kernel) (by decide +kernel)
theorem kw_286 : (.instanceMethod ⟨"GroupBitmaps", "takeLongestRun", "(LGroupBitmaps$Group;)I"⟩ : Cond) ∈ gw := gw_t 286 (by decide +kernel) (by decide +kernel)
theorem kw_287 : (.code ⟨"GroupBitmaps", "takeLongestRun", "(LGroupBitmaps$Group;)I"⟩ prog_1_method_25_code 7 (some .int) : Cond) ∈ gw := gw_t 287 (by decide +kernel) (by decide +kernel)
theorem kw_288 : (.methodLink "GroupBitmaps" 157 ⟨"GroupBitmaps$Bitmap", "longestRun", "()I"⟩ : Cond) ∈ gw := gw_t 288 (by decide +kernel) (by decide +kernel)
theorem kw_289 : (.instanceMethod ⟨"GroupBitmaps$Bitmap", "longestRun", "()I"⟩ : Cond) ∈ gw := gw_t 289 (by decide +kernel) (by decide +kernel)
theorem kw_290 : (.selects "GroupBitmaps$Bitmap" ⟨"GroupBitmaps$Bitmap", "longestRun", "()I"⟩ ⟨"GroupBitmaps$Bitmap", "longestRun", "()I"⟩ : Cond) ∈ gw := gw_t 290 (by decide +kernel) (by decide +kernel)
theorem kw_291 : (.code ⟨"GroupBitmaps$Bitmap", "longestRun", "()I"⟩ prog_2_method_9_code 4 (some .int) : Cond) ∈ gw := gw_t 291 (by decide +kernel) (by decide +kernel)
theorem kw_292 : (.methodLink "GroupBitmaps$Bitmap" 31 ⟨"java/lang/Math", "max", "(II)I"⟩ : Cond) ∈ gw := gw_t 292 (by decide +kernel) (by decide +kernel)
theorem kw_293 : (.methodLink "GroupBitmapsLaw" 77 ⟨"GroupBitmapsLaw", "give", "(LGroupBitmaps;II[J)I"⟩ : Cond) ∈ gw := gw_t 293 (by decide +kernel) (by decide +kernel)
theorem kw_294 : (.static ⟨"GroupBitmapsLaw", "give", "(LGroupBitmaps;II[J)I"⟩ : Cond) ∈ gw := gw_t 294 (by decide +kernel) (by decide +kernel)
theorem kw_295 : (.codeWith ⟨"GroupBitmapsLaw", "give", "(LGroupBitmaps;II[J)I"⟩ method_6_code 5 (some .int) [(0, 10, 13, 13), (0, 10, 17, 23)] : Cond) ∈ gw := gw_t 295 (by decide +kernel) (by decide +kernel)
theorem kw_296 : (.methodLink "GroupBitmapsLaw" 25 ⟨"GroupBitmaps", "give", "(II)I"⟩ : Cond) ∈ gw := gw_t 296 (by decide +kernel) (by decide +kernel)
theorem kw_297 : (.instanceMethod ⟨"GroupBitmaps", "give", "(II)I"⟩ : Cond) ∈ gw := gw_t 297 (by decide +kernel) (by decide +kernel)
theorem kw_298 : (.selects "GroupBitmaps" ⟨"GroupBitmaps", "give", "(II)I"⟩ ⟨"GroupBitmaps", "give", "(II)I"⟩ : Cond) ∈ gw := gw_t 298 (by decide +kernel) (by decide +kernel)
theorem kw_299 : (.code ⟨"GroupBitmaps", "give", "(II)I"⟩ prog_1_method_6_code 4 (some .int) : Cond) ∈ gw := gw_t 299 (by decide +kernel) (by decide +kernel)
theorem kw_302 : (.methodLink "GroupBitmaps" 80 ⟨"GroupBitmaps", "areGivable", "(II)Z"⟩ : Cond) ∈ gw := gw_t 302 (by decide +kernel) (by decide +kernel)
theorem kw_304 : (.instanceMethod ⟨"GroupBitmaps", "areGivable", "(II)Z"⟩ : Cond) ∈ gw := gw_t 304 (by decide +kernel) (by decide +kernel)
theorem kw_305 : (.code ⟨"GroupBitmaps", "areGivable", "(II)Z"⟩ prog_1_method_27_code 6 (some .boolean) : Cond) ∈ gw := gw_t 305 (by decide +kernel) (by decide +kernel)
theorem kw_306 : (.methodLink "GroupBitmaps" 127 ⟨"GroupBitmaps$Bitmap", "isSet", "(I)Z"⟩ : Cond) ∈ gw := gw_t 306 (by decide +kernel) (by decide +kernel)
theorem kw_308 : (.methodLink "GroupBitmaps" 94 ⟨"GroupBitmaps$Bitmap", "free", "(I)V"⟩ : Cond) ∈ gw := gw_t 308 (by decide +kernel) (by decide +kernel)
theorem kw_309 : (.instanceMethod ⟨"GroupBitmaps$Bitmap", "free", "(I)V"⟩ : Cond) ∈ gw := gw_t 309 (by decide +kernel) (by decide +kernel)
theorem kw_310 : (.selects "GroupBitmaps$Bitmap" ⟨"GroupBitmaps$Bitmap", "free", "(I)V"⟩ ⟨"GroupBitmaps$Bitmap", "free", "(I)V"⟩ : Cond) ∈ gw := gw_t 310 (by decide +kernel) (by decide +kernel)
theorem kw_311 : (.code ⟨"GroupBitmaps$Bitmap", "free", "(I)V"⟩ prog_2_method_5_code 2 none : Cond) ∈ gw := gw_t 311 (by decide +kernel) (by decide +kernel)
theorem kw_312 : (.methodLink "GroupBitmapsLaw" 80 ⟨"GroupBitmapsLaw", "takeFile", "(LGroupBitmaps;IZ[J)I"⟩ : Cond) ∈ gw := gw_t 312 (by decide +kernel) (by decide +kernel)
theorem kw_313 : (.static ⟨"GroupBitmapsLaw", "takeFile", "(LGroupBitmaps;IZ[J)I"⟩ : Cond) ∈ gw := gw_t 313 (by decide +kernel) (by decide +kernel)
theorem kw_314 : (.codeWith ⟨"GroupBitmapsLaw", "takeFile", "(LGroupBitmaps;IZ[J)I"⟩ method_7_code 5 (some .int) [(0, 10, 13, 13), (0, 10, 17, 23)] : Cond) ∈ gw := gw_t 314 (by decide +kernel) (by decide +kernel)
theorem kw_315 : (.methodLink "GroupBitmapsLaw" 28 ⟨"GroupBitmaps", "takeFile", "(IZ)I"⟩ : Cond) ∈ gw := gw_t 315 (by decide +kernel) (by decide +kernel)
theorem kw_316 : (.instanceMethod ⟨"GroupBitmaps", "takeFile", "(IZ)I"⟩ : Cond) ∈ gw := gw_t 316 (by decide +kernel) (by decide +kernel)
theorem kw_317 : (.selects "GroupBitmaps" ⟨"GroupBitmaps", "takeFile", "(IZ)I"⟩ ⟨"GroupBitmaps", "takeFile", "(IZ)I"⟩ : Cond) ∈ gw := gw_t 317 (by decide +kernel) (by decide +kernel)
theorem kw_318 : (.code ⟨"GroupBitmaps", "takeFile", "(IZ)I"⟩ prog_1_method_7_code 4 (some .int) : Cond) ∈ gw := gw_t 318 (by decide +kernel) (by decide +kernel)
theorem kw_319 : (.methodLink "GroupBitmaps" 103 ⟨"GroupBitmaps", "hasFile", "(I)Z"⟩ : Cond) ∈ gw := gw_t 319 (by decide +kernel) (by decide +kernel)
theorem kw_321 : (.instanceMethod ⟨"GroupBitmaps", "hasFile", "(I)Z"⟩ : Cond) ∈ gw := gw_t 321 (by decide +kernel) (by decide +kernel)
theorem kw_322 : (.code ⟨"GroupBitmaps", "hasFile", "(I)Z"⟩ prog_1_method_17_code 2 (some .boolean) : Cond) ∈ gw := gw_t 322 (by decide +kernel) (by decide +kernel)
theorem kw_324 : (.methodLink "GroupBitmaps" 108 ⟨"GroupBitmaps", "groupForFolder", "(I)LGroupBitmaps$Group;"⟩ : Cond) ∈ gw := gw_t 324 (by decide +kernel) (by decide +kernel)
theorem kw_326 : (.instanceMethod ⟨"GroupBitmaps", "groupForFolder", "(I)LGroupBitmaps$Group;"⟩ : Cond) ∈ gw := gw_t 326 (by decide +kernel) (by decide +kernel)
theorem kw_327 : (.code ⟨"GroupBitmaps", "groupForFolder", "(I)LGroupBitmaps$Group;"⟩ prog_1_method_29_code 4 (some (.object "GroupBitmaps$Group")) : Cond) ∈ gw := gw_t 327 (by decide +kernel) (by decide +kernel)
theorem kw_328 : (.methodLink "GroupBitmaps" 121 ⟨"GroupBitmaps", "groupOfFile", "(I)LGroupBitmaps$Group;"⟩ : Cond) ∈ gw := gw_t 328 (by decide +kernel) (by decide +kernel)
theorem kw_330 : (.instanceMethod ⟨"GroupBitmaps", "groupOfFile", "(I)LGroupBitmaps$Group;"⟩ : Cond) ∈ gw := gw_t 330 (by decide +kernel) (by decide +kernel)
theorem kw_331 : (.code ⟨"GroupBitmaps", "groupOfFile", "(I)LGroupBitmaps$Group;"⟩ prog_1_method_19_code 2 (some (.object "GroupBitmaps$Group")) : Cond) ∈ gw := gw_t 331 (by decide +kernel) (by decide +kernel)
theorem kw_332 : (.methodLink "GroupBitmaps" 227 ⟨"GroupBitmaps", "leastFolders", "(LGroupBitmaps$Group;)LGroupBitmaps$Group;"⟩ : Cond) ∈ gw := gw_t 332 (by decide +kernel) (by decide +kernel)
theorem kw_334 : (.instanceMethod ⟨"GroupBitmaps", "leastFolders", "(LGroupBitmaps$Group;)LGroupBitmaps$Group;"⟩ : Cond) ∈ gw := gw_t 334 (by decide +kernel) (by decide +kernel)
theorem kw_335 : (.code ⟨"GroupBitmaps", "leastFolders", "(LGroupBitmaps$Group;)LGroupBitmaps$Group;"⟩ prog_1_method_30_code 8 (some (.object "GroupBitmaps$Group")) : Cond) ∈ gw := gw_t 335 (by decide +kernel) (by decide +kernel)
theorem kw_336 : (.methodLink "GroupBitmaps" 141 ⟨"GroupBitmaps", "freeFiles", "()I"⟩ : Cond) ∈ gw := gw_t 336 (by decide +kernel) (by decide +kernel)
theorem kw_338 : (.instanceMethod ⟨"GroupBitmaps", "freeFiles", "()I"⟩ : Cond) ∈ gw := gw_t 338 (by decide +kernel) (by decide +kernel)
theorem kw_339 : (.code ⟨"GroupBitmaps", "freeFiles", "()I"⟩ prog_1_method_22_code 3 (some .int) : Cond) ∈ gw := gw_t 339 (by decide +kernel) (by decide +kernel)
theorem kw_340 : (.methodLink "GroupBitmaps" 230 ⟨"GroupBitmaps", "firstWithRoom", "(LGroupBitmaps$Group;)LGroupBitmaps$Group;"⟩ : Cond) ∈ gw := gw_t 340 (by decide +kernel) (by decide +kernel)
theorem kw_342 : (.instanceMethod ⟨"GroupBitmaps", "firstWithRoom", "(LGroupBitmaps$Group;)LGroupBitmaps$Group;"⟩ : Cond) ∈ gw := gw_t 342 (by decide +kernel) (by decide +kernel)
theorem kw_343 : (.code ⟨"GroupBitmaps", "firstWithRoom", "(LGroupBitmaps$Group;)LGroupBitmaps$Group;"⟩ prog_1_method_31_code 5 (some (.object "GroupBitmaps$Group")) : Cond) ∈ gw := gw_t 343 (by decide +kernel) (by decide +kernel)
theorem kw_344 : (.methodLink "GroupBitmaps" 219 ⟨"GroupBitmaps$Group", "hasFileAndBlock", "()Z"⟩ : Cond) ∈ gw := gw_t 344 (by decide +kernel) (by decide +kernel)
theorem kw_345 : (.instanceMethod ⟨"GroupBitmaps$Group", "hasFileAndBlock", "()Z"⟩ : Cond) ∈ gw := gw_t 345 (by decide +kernel) (by decide +kernel)
theorem kw_346 : (.selects "GroupBitmaps$Group" ⟨"GroupBitmaps$Group", "hasFileAndBlock", "()Z"⟩ ⟨"GroupBitmaps$Group", "hasFileAndBlock", "()Z"⟩ : Cond) ∈ gw := gw_t 346 (by decide +kernel) (by decide +kernel)
theorem kw_347 : (.code ⟨"GroupBitmaps$Group", "hasFileAndBlock", "()Z"⟩ prog_3_method_4_code 1 (some .boolean) : Cond) ∈ gw := gw_t 347 (by decide +kernel) (by decide +kernel)
theorem kw_348 : (.methodLink "GroupBitmaps" 223 ⟨"GroupBitmaps", "firstWithFile", "(LGroupBitmaps$Group;)LGroupBitmaps$Group;"⟩ : Cond) ∈ gw := gw_t 348 (by decide +kernel) (by decide +kernel)
theorem kw_350 : (.instanceMethod ⟨"GroupBitmaps", "firstWithFile", "(LGroupBitmaps$Group;)LGroupBitmaps$Group;"⟩ : Cond) ∈ gw := gw_t 350 (by decide +kernel) (by decide +kernel)
theorem kw_351 : (.code ⟨"GroupBitmaps", "firstWithFile", "(LGroupBitmaps$Group;)LGroupBitmaps$Group;"⟩ prog_1_method_32_code 4 (some (.object "GroupBitmaps$Group")) : Cond) ∈ gw := gw_t 351 (by decide +kernel) (by decide +kernel)
theorem kw_352 : (.methodLink "GroupBitmaps" 111 ⟨"GroupBitmaps", "groupForPlain", "(I)LGroupBitmaps$Group;"⟩ : Cond) ∈ gw := gw_t 352 (by decide +kernel) (by decide +kernel)
theorem kw_354 : (.instanceMethod ⟨"GroupBitmaps", "groupForPlain", "(I)LGroupBitmaps$Group;"⟩ : Cond) ∈ gw := gw_t 354 (by decide +kernel) (by decide +kernel)
theorem kw_355 : (.code ⟨"GroupBitmaps", "groupForPlain", "(I)LGroupBitmaps$Group;"⟩ prog_1_method_28_code 8 (some (.object "GroupBitmaps$Group")) : Cond) ∈ gw := gw_t 355 (by decide +kernel) (by decide +kernel)
theorem kw_356 : (.fieldLink "GroupBitmaps" 215 "GroupBitmaps" "PLAIN_STEPS" "[I" : Cond) ∈ gw := gw_t 356 (by decide +kernel) (by decide +kernel)
theorem kw_359 : (.methodLink "GroupBitmaps" 116 ⟨"GroupBitmaps$Group", "occupyFile", "(Z)I"⟩ : Cond) ∈ gw := gw_t 359 (by decide +kernel) (by decide +kernel)
theorem kw_360 : (.instanceMethod ⟨"GroupBitmaps$Group", "occupyFile", "(Z)I"⟩ : Cond) ∈ gw := gw_t 360 (by decide +kernel) (by decide +kernel)
theorem kw_361 : (.selects "GroupBitmaps$Group" ⟨"GroupBitmaps$Group", "occupyFile", "(Z)I"⟩ ⟨"GroupBitmaps$Group", "occupyFile", "(Z)I"⟩ : Cond) ∈ gw := gw_t 361 (by decide +kernel) (by decide +kernel)
theorem kw_362 : (.code ⟨"GroupBitmaps$Group", "occupyFile", "(Z)I"⟩ prog_3_method_5_code 3 (some .int) : Cond) ∈ gw := gw_t 362 (by decide +kernel) (by decide +kernel)
theorem kw_363 : (.methodLink "GroupBitmaps$Group" 45 ⟨"GroupBitmaps$Bitmap", "leastFree", "()I"⟩ : Cond) ∈ gw := gw_t 363 (by decide +kernel) (by decide +kernel)
theorem kw_364 : (.instanceMethod ⟨"GroupBitmaps$Bitmap", "leastFree", "()I"⟩ : Cond) ∈ gw := gw_t 364 (by decide +kernel) (by decide +kernel)
theorem kw_365 : (.selects "GroupBitmaps$Bitmap" ⟨"GroupBitmaps$Bitmap", "leastFree", "()I"⟩ ⟨"GroupBitmaps$Bitmap", "leastFree", "()I"⟩ : Cond) ∈ gw := gw_t 365 (by decide +kernel) (by decide +kernel)
theorem kw_366 : (.code ⟨"GroupBitmaps$Bitmap", "leastFree", "()I"⟩ prog_2_method_7_code 2 (some .int) : Cond) ∈ gw := gw_t 366 (by decide +kernel) (by decide +kernel)
theorem kw_367 : (.methodLink "GroupBitmaps$Group" 49 ⟨"GroupBitmaps$Bitmap", "occupy", "(I)V"⟩ : Cond) ∈ gw := gw_t 367 (by decide +kernel) (by decide +kernel)
theorem kw_368 : (.methodLink "GroupBitmapsLaw" 84 ⟨"GroupBitmapsLaw", "giveFile", "(LGroupBitmaps;IZ[J)I"⟩ : Cond) ∈ gw := gw_t 368 (by decide +kernel) (by decide +kernel)
theorem kw_369 : (.static ⟨"GroupBitmapsLaw", "giveFile", "(LGroupBitmaps;IZ[J)I"⟩ : Cond) ∈ gw := gw_t 369 (by decide +kernel) (by decide +kernel)
theorem kw_370 : (.codeWith ⟨"GroupBitmapsLaw", "giveFile", "(LGroupBitmaps;IZ[J)I"⟩ method_8_code 5 (some .int) [(0, 10, 13, 13), (0, 10, 17, 23)] : Cond) ∈ gw := gw_t 370 (by decide +kernel) (by decide +kernel)
theorem kw_371 : (.methodLink "GroupBitmapsLaw" 32 ⟨"GroupBitmaps", "giveFile", "(IZ)I"⟩ : Cond) ∈ gw := gw_t 371 (by decide +kernel) (by decide +kernel)
theorem kw_372 : (.instanceMethod ⟨"GroupBitmaps", "giveFile", "(IZ)I"⟩ : Cond) ∈ gw := gw_t 372 (by decide +kernel) (by decide +kernel)
theorem kw_373 : (.selects "GroupBitmaps" ⟨"GroupBitmaps", "giveFile", "(IZ)I"⟩ ⟨"GroupBitmaps", "giveFile", "(IZ)I"⟩ : Cond) ∈ gw := gw_t 373 (by decide +kernel) (by decide +kernel)
theorem kw_374 : (.code ⟨"GroupBitmaps", "giveFile", "(IZ)I"⟩ prog_1_method_8_code 5 (some .int) : Cond) ∈ gw := gw_t 374 (by decide +kernel) (by decide +kernel)
theorem kw_378 : (.methodLink "GroupBitmaps" 137 ⟨"GroupBitmaps$Group", "freeFile", "(IZ)V"⟩ : Cond) ∈ gw := gw_t 378 (by decide +kernel) (by decide +kernel)
theorem kw_379 : (.instanceMethod ⟨"GroupBitmaps$Group", "freeFile", "(IZ)V"⟩ : Cond) ∈ gw := gw_t 379 (by decide +kernel) (by decide +kernel)
theorem kw_380 : (.selects "GroupBitmaps$Group" ⟨"GroupBitmaps$Group", "freeFile", "(IZ)V"⟩ ⟨"GroupBitmaps$Group", "freeFile", "(IZ)V"⟩ : Cond) ∈ gw := gw_t 380 (by decide +kernel) (by decide +kernel)
theorem kw_381 : (.code ⟨"GroupBitmaps$Group", "freeFile", "(IZ)V"⟩ prog_3_method_6_code 3 none : Cond) ∈ gw := gw_t 381 (by decide +kernel) (by decide +kernel)
theorem kw_382 : (.methodLink "GroupBitmaps$Group" 53 ⟨"GroupBitmaps$Bitmap", "free", "(I)V"⟩ : Cond) ∈ gw := gw_t 382 (by decide +kernel) (by decide +kernel)
theorem kw_383 : (.methodLink "GroupBitmapsLaw" 87 ⟨"GroupBitmapsLaw", "isTaken", "(LGroupBitmaps;II[J)I"⟩ : Cond) ∈ gw := gw_t 383 (by decide +kernel) (by decide +kernel)
theorem kw_384 : (.static ⟨"GroupBitmapsLaw", "isTaken", "(LGroupBitmaps;II[J)I"⟩ : Cond) ∈ gw := gw_t 384 (by decide +kernel) (by decide +kernel)
theorem kw_385 : (.codeWith ⟨"GroupBitmapsLaw", "isTaken", "(LGroupBitmaps;II[J)I"⟩ method_9_code 5 (some .int) [(0, 17, 20, 13)] : Cond) ∈ gw := gw_t 385 (by decide +kernel) (by decide +kernel)
theorem kw_386 : (.methodLink "GroupBitmapsLaw" 35 ⟨"GroupBitmaps", "isTaken", "(II)Z"⟩ : Cond) ∈ gw := gw_t 386 (by decide +kernel) (by decide +kernel)
theorem kw_387 : (.instanceMethod ⟨"GroupBitmaps", "isTaken", "(II)Z"⟩ : Cond) ∈ gw := gw_t 387 (by decide +kernel) (by decide +kernel)
theorem kw_388 : (.selects "GroupBitmaps" ⟨"GroupBitmaps", "isTaken", "(II)Z"⟩ ⟨"GroupBitmaps", "isTaken", "(II)Z"⟩ : Cond) ∈ gw := gw_t 388 (by decide +kernel) (by decide +kernel)
theorem kw_389 : (.code ⟨"GroupBitmaps", "isTaken", "(II)Z"⟩ prog_1_method_9_code 3 (some .boolean) : Cond) ∈ gw := gw_t 389 (by decide +kernel) (by decide +kernel)
theorem kw_391 : (.methodLink "GroupBitmapsLaw" 90 ⟨"GroupBitmapsLaw", "group", "(LGroupBitmaps;II[J)I"⟩ : Cond) ∈ gw := gw_t 391 (by decide +kernel) (by decide +kernel)
theorem kw_392 : (.static ⟨"GroupBitmapsLaw", "group", "(LGroupBitmaps;II[J)I"⟩ : Cond) ∈ gw := gw_t 392 (by decide +kernel) (by decide +kernel)
theorem kw_393 : (.codeWith ⟨"GroupBitmapsLaw", "group", "(LGroupBitmaps;II[J)I"⟩ method_10_code 5 (some .int) [(0, 10, 13, 13)] : Cond) ∈ gw := gw_t 393 (by decide +kernel) (by decide +kernel)
theorem kw_394 : (.methodLink "GroupBitmapsLaw" 39 ⟨"GroupBitmaps", "group", "(II)I"⟩ : Cond) ∈ gw := gw_t 394 (by decide +kernel) (by decide +kernel)
theorem kw_395 : (.instanceMethod ⟨"GroupBitmaps", "group", "(II)I"⟩ : Cond) ∈ gw := gw_t 395 (by decide +kernel) (by decide +kernel)
theorem kw_396 : (.selects "GroupBitmaps" ⟨"GroupBitmaps", "group", "(II)I"⟩ ⟨"GroupBitmaps", "group", "(II)I"⟩ : Cond) ∈ gw := gw_t 396 (by decide +kernel) (by decide +kernel)
theorem kw_397 : (.code ⟨"GroupBitmaps", "group", "(II)I"⟩ prog_1_method_10_code 4 (some .int) : Cond) ∈ gw := gw_t 397 (by decide +kernel) (by decide +kernel)
theorem kw_400 : (.methodLink "GroupBitmapsLaw" 93 ⟨"GroupBitmapsLaw", "byteOf", "(LGroupBitmaps;II[J)I"⟩ : Cond) ∈ gw := gw_t 400 (by decide +kernel) (by decide +kernel)
theorem kw_401 : (.static ⟨"GroupBitmapsLaw", "byteOf", "(LGroupBitmaps;II[J)I"⟩ : Cond) ∈ gw := gw_t 401 (by decide +kernel) (by decide +kernel)
theorem kw_402 : (.codeWith ⟨"GroupBitmapsLaw", "byteOf", "(LGroupBitmaps;II[J)I"⟩ method_11_code 5 (some .int) [(0, 10, 13, 45)] : Cond) ∈ gw := gw_t 402 (by decide +kernel) (by decide +kernel)
theorem kw_403 : (.classLink "GroupBitmapsLaw" 45 "java/lang/IndexOutOfBoundsException" : Cond) ∈ gw := gw_t 403 (by decide +kernel) (by decide +kernel)
theorem kw_404 : (.methodLink "GroupBitmapsLaw" 42 ⟨"GroupBitmaps", "byteOf", "(II)I"⟩ : Cond) ∈ gw := gw_t 404 (by decide +kernel) (by decide +kernel)
theorem kw_405 : (.instanceMethod ⟨"GroupBitmaps", "byteOf", "(II)I"⟩ : Cond) ∈ gw := gw_t 405 (by decide +kernel) (by decide +kernel)
theorem kw_406 : (.selects "GroupBitmaps" ⟨"GroupBitmaps", "byteOf", "(II)I"⟩ ⟨"GroupBitmaps", "byteOf", "(II)I"⟩ : Cond) ∈ gw := gw_t 406 (by decide +kernel) (by decide +kernel)
theorem kw_407 : (.code ⟨"GroupBitmaps", "byteOf", "(II)I"⟩ prog_1_method_11_code 4 (some .int) : Cond) ∈ gw := gw_t 407 (by decide +kernel) (by decide +kernel)
theorem kw_408 : (.classLink "GroupBitmaps" 162 "java/lang/IndexOutOfBoundsException" : Cond) ∈ gw := gw_t 408 (by decide +kernel) (by decide +kernel)
theorem kw_409 : (.instantiable "java/lang/IndexOutOfBoundsException" 6 : Cond) ∈ gw := gw_t 409 (by decide +kernel) (by decide +kernel)
theorem kw_411 : (.selects "java/lang/IndexOutOfBoundsException" ⟨"java/lang/Throwable", "fillInStackTrace", "(I)Ljava/lang/Throwable;"⟩ ⟨"java/lang/Throwable", "fillInStackTrace", "(I)Ljava/lang/Throwable;"⟩ : Cond) ∈ gw := gw_t 411 (by decide +kernel) (by decide +kernel)
theorem kw_418 : (.methodLink "GroupBitmaps" 166 ⟨"java/lang/IndexOutOfBoundsException", "<init>", "(Ljava/lang/String;)V"⟩ : Cond) ∈ gw := gw_t 418 (by decide +kernel) (by decide +kernel)
theorem kw_419 : (.instanceMethod ⟨"java/lang/IndexOutOfBoundsException", "<init>", "(Ljava/lang/String;)V"⟩ : Cond) ∈ gw := gw_t 419 (by decide +kernel) (by decide +kernel)
theorem kw_420 : (.code ⟨"java/lang/IndexOutOfBoundsException", "<init>", "(Ljava/lang/String;)V"⟩ prog_9_method_2_code 2 none : Cond) ∈ gw := gw_t 420 (by decide +kernel) (by decide +kernel)
theorem kw_421 : (.methodLink "java/lang/IndexOutOfBoundsException" 7 ⟨"java/lang/RuntimeException", "<init>", "(Ljava/lang/String;)V"⟩ : Cond) ∈ gw := gw_t 421 (by decide +kernel) (by decide +kernel)
theorem kw_424 : (.methodLink "GroupBitmaps" 167 ⟨"GroupBitmaps", "tableByte", "(I)I"⟩ : Cond) ∈ gw := gw_t 424 (by decide +kernel) (by decide +kernel)
theorem kw_426 : (.instanceMethod ⟨"GroupBitmaps", "tableByte", "(I)I"⟩ : Cond) ∈ gw := gw_t 426 (by decide +kernel) (by decide +kernel)
theorem kw_427 : (.code ⟨"GroupBitmaps", "tableByte", "(I)I"⟩ prog_1_method_33_code 3 (some .int) : Cond) ∈ gw := gw_t 427 (by decide +kernel) (by decide +kernel)
theorem kw_428 : (.methodLink "GroupBitmaps" 233 ⟨"GroupBitmaps$Group", "tableByte", "(I)I"⟩ : Cond) ∈ gw := gw_t 428 (by decide +kernel) (by decide +kernel)
theorem kw_429 : (.instanceMethod ⟨"GroupBitmaps$Group", "tableByte", "(I)I"⟩ : Cond) ∈ gw := gw_t 429 (by decide +kernel) (by decide +kernel)
theorem kw_430 : (.selects "GroupBitmaps$Group" ⟨"GroupBitmaps$Group", "tableByte", "(I)I"⟩ ⟨"GroupBitmaps$Group", "tableByte", "(I)I"⟩ : Cond) ∈ gw := gw_t 430 (by decide +kernel) (by decide +kernel)
theorem kw_431 : (.code ⟨"GroupBitmaps$Group", "tableByte", "(I)I"⟩ prog_3_method_7_code 2 (some .int) : Cond) ∈ gw := gw_t 431 (by decide +kernel) (by decide +kernel)
theorem kw_432 : (.methodLink "GroupBitmaps$Group" 56 ⟨"GroupBitmaps$Group", "byteOfNumber", "(II)I"⟩ : Cond) ∈ gw := gw_t 432 (by decide +kernel) (by decide +kernel)
theorem kw_433 : (.static ⟨"GroupBitmaps$Group", "byteOfNumber", "(II)I"⟩ : Cond) ∈ gw := gw_t 433 (by decide +kernel) (by decide +kernel)
theorem kw_434 : (.code ⟨"GroupBitmaps$Group", "byteOfNumber", "(II)I"⟩ prog_3_method_8_code 2 (some .int) : Cond) ∈ gw := gw_t 434 (by decide +kernel) (by decide +kernel)
theorem kw_435 : (.methodLink "GroupBitmaps" 171 ⟨"GroupBitmaps$Group", "bitmapIn", "(I)LGroupBitmaps$Bitmap;"⟩ : Cond) ∈ gw := gw_t 435 (by decide +kernel) (by decide +kernel)
theorem kw_436 : (.instanceMethod ⟨"GroupBitmaps$Group", "bitmapIn", "(I)LGroupBitmaps$Bitmap;"⟩ : Cond) ∈ gw := gw_t 436 (by decide +kernel) (by decide +kernel)
theorem kw_437 : (.selects "GroupBitmaps$Group" ⟨"GroupBitmaps$Group", "bitmapIn", "(I)LGroupBitmaps$Bitmap;"⟩ ⟨"GroupBitmaps$Group", "bitmapIn", "(I)LGroupBitmaps$Bitmap;"⟩ : Cond) ∈ gw := gw_t 437 (by decide +kernel) (by decide +kernel)
theorem kw_438 : (.code ⟨"GroupBitmaps$Group", "bitmapIn", "(I)LGroupBitmaps$Bitmap;"⟩ prog_3_method_3_code 2 (some (.object "GroupBitmaps$Bitmap")) : Cond) ∈ gw := gw_t 438 (by decide +kernel) (by decide +kernel)
theorem kw_439 : (.methodLink "GroupBitmaps" 175 ⟨"GroupBitmaps$Bitmap", "byteAt", "(I)I"⟩ : Cond) ∈ gw := gw_t 439 (by decide +kernel) (by decide +kernel)
theorem kw_440 : (.instanceMethod ⟨"GroupBitmaps$Bitmap", "byteAt", "(I)I"⟩ : Cond) ∈ gw := gw_t 440 (by decide +kernel) (by decide +kernel)
theorem kw_441 : (.selects "GroupBitmaps$Bitmap" ⟨"GroupBitmaps$Bitmap", "byteAt", "(I)I"⟩ ⟨"GroupBitmaps$Bitmap", "byteAt", "(I)I"⟩ : Cond) ∈ gw := gw_t 441 (by decide +kernel) (by decide +kernel)
theorem kw_442 : (.code ⟨"GroupBitmaps$Bitmap", "byteAt", "(I)I"⟩ prog_2_method_6_code 4 (some .int) : Cond) ∈ gw := gw_t 442 (by decide +kernel) (by decide +kernel)
theorem kw_443 : (.methodLink "GroupBitmapsLaw" 96 ⟨"GroupBitmapsLaw", "isTold", "(LGroupBitmaps;I[J)I"⟩ : Cond) ∈ gw := gw_t 443 (by decide +kernel) (by decide +kernel)
theorem kw_444 : (.static ⟨"GroupBitmapsLaw", "isTold", "(LGroupBitmaps;I[J)I"⟩ : Cond) ∈ gw := gw_t 444 (by decide +kernel) (by decide +kernel)
theorem kw_445 : (.codeWith ⟨"GroupBitmapsLaw", "isTold", "(LGroupBitmaps;I[J)I"⟩ method_12_code 4 (some .int) [(0, 16, 19, 45)] : Cond) ∈ gw := gw_t 445 (by decide +kernel) (by decide +kernel)
theorem kw_446 : (.methodLink "GroupBitmapsLaw" 47 ⟨"GroupBitmaps", "isTold", "(I)Z"⟩ : Cond) ∈ gw := gw_t 446 (by decide +kernel) (by decide +kernel)
theorem kw_447 : (.instanceMethod ⟨"GroupBitmaps", "isTold", "(I)Z"⟩ : Cond) ∈ gw := gw_t 447 (by decide +kernel) (by decide +kernel)
theorem kw_448 : (.selects "GroupBitmaps" ⟨"GroupBitmaps", "isTold", "(I)Z"⟩ ⟨"GroupBitmaps", "isTold", "(I)Z"⟩ : Cond) ∈ gw := gw_t 448 (by decide +kernel) (by decide +kernel)
theorem kw_449 : (.code ⟨"GroupBitmaps", "isTold", "(I)Z"⟩ prog_1_method_12_code 3 (some .boolean) : Cond) ∈ gw := gw_t 449 (by decide +kernel) (by decide +kernel)
theorem kw_451 : (.classLink "GroupBitmapsLaw" 52 "GroupBitmapsModel" : Cond) ∈ gw := gw_t 451 (by decide +kernel) (by decide +kernel)
theorem kw_452 : (.instantiable "GroupBitmapsModel" 11 : Cond) ∈ gw := gw_t 452 (by decide +kernel) (by decide +kernel)
theorem kw_453 : (.methodLink "GroupBitmapsLaw" 54 ⟨"GroupBitmapsModel", "<init>", "()V"⟩ : Cond) ∈ gw := gw_t 453 (by decide +kernel) (by decide +kernel)
theorem kw_454 : (.instanceMethod ⟨"GroupBitmapsModel", "<init>", "()V"⟩ : Cond) ∈ gw := gw_t 454 (by decide +kernel) (by decide +kernel)
theorem kw_455 : (.code ⟨"GroupBitmapsModel", "<init>", "()V"⟩ prog_5_method_1_code 1 none : Cond) ∈ gw := gw_t 455 (by decide +kernel) (by decide +kernel)
theorem kw_456 : (.methodLink "GroupBitmapsModel" 1 ⟨"java/lang/Object", "<init>", "()V"⟩ : Cond) ∈ gw := gw_t 456 (by decide +kernel) (by decide +kernel)
theorem kw_457 : (.methodLink "GroupBitmapsModel" 26 ⟨"GroupBitmapsModel", "layOut", "(II)V"⟩ : Cond) ∈ gw := gw_t 457 (by decide +kernel) (by decide +kernel)
theorem kw_459 : (.instanceMethod ⟨"GroupBitmapsModel", "layOut", "(II)V"⟩ : Cond) ∈ gw := gw_t 459 (by decide +kernel) (by decide +kernel)
theorem kw_460 : (.code ⟨"GroupBitmapsModel", "layOut", "(II)V"⟩ prog_5_method_6_code 5 none : Cond) ∈ gw := gw_t 460 (by decide +kernel) (by decide +kernel)
theorem kw_461 : (.methodLink "GroupBitmapsModel" 47 ⟨"GroupBitmapsModel", "bitmap", "(I)I"⟩ : Cond) ∈ gw := gw_t 461 (by decide +kernel) (by decide +kernel)
theorem kw_462 : (.static ⟨"GroupBitmapsModel", "bitmap", "(I)I"⟩ : Cond) ∈ gw := gw_t 462 (by decide +kernel) (by decide +kernel)
theorem kw_463 : (.code ⟨"GroupBitmapsModel", "bitmap", "(I)I"⟩ prog_5_method_4_code 1 (some .int) : Cond) ∈ gw := gw_t 463 (by decide +kernel) (by decide +kernel)
theorem kw_464 : (.methodLink "GroupBitmapsModel" 34 ⟨"GroupBitmapsModel", "heads", "(I)I"⟩ : Cond) ∈ gw := gw_t 464 (by decide +kernel) (by decide +kernel)
theorem kw_465 : (.static ⟨"GroupBitmapsModel", "heads", "(I)I"⟩ : Cond) ∈ gw := gw_t 465 (by decide +kernel) (by decide +kernel)
theorem kw_466 : (.code ⟨"GroupBitmapsModel", "heads", "(I)I"⟩ prog_5_method_3_code 1 (some .int) : Cond) ∈ gw := gw_t 466 (by decide +kernel) (by decide +kernel)
theorem kw_467 : (.methodLink "GroupBitmapsModel" 50 ⟨"GroupBitmapsModel", "fixed", "(I)I"⟩ : Cond) ∈ gw := gw_t 467 (by decide +kernel) (by decide +kernel)
theorem kw_468 : (.static ⟨"GroupBitmapsModel", "fixed", "(I)I"⟩ : Cond) ∈ gw := gw_t 468 (by decide +kernel) (by decide +kernel)
theorem kw_469 : (.code ⟨"GroupBitmapsModel", "fixed", "(I)I"⟩ prog_5_method_5_code 1 (some .int) : Cond) ∈ gw := gw_t 469 (by decide +kernel) (by decide +kernel)
theorem kw_470 : (.fieldLink "GroupBitmapsModel" 30 "GroupBitmapsModel" "thrown" "I" : Cond) ∈ gw := gw_t 470 (by decide +kernel) (by decide +kernel)
theorem kw_471 : (.fieldLink "GroupBitmapsModel" 38 "GroupBitmapsModel" "groups" "I" : Cond) ∈ gw := gw_t 471 (by decide +kernel) (by decide +kernel)
theorem kw_472 : (.fieldLink "GroupBitmapsModel" 7 "GroupBitmapsModel" "sizes" "[I" : Cond) ∈ gw := gw_t 472 (by decide +kernel) (by decide +kernel)
theorem kw_473 : (.fieldLink "GroupBitmapsModel" 13 "GroupBitmapsModel" "blocks" "[Z" : Cond) ∈ gw := gw_t 473 (by decide +kernel) (by decide +kernel)
theorem kw_474 : (.fieldLink "GroupBitmapsModel" 17 "GroupBitmapsModel" "files" "[Z" : Cond) ∈ gw := gw_t 474 (by decide +kernel) (by decide +kernel)
theorem kw_475 : (.fieldLink "GroupBitmapsModel" 20 "GroupBitmapsModel" "folders" "[I" : Cond) ∈ gw := gw_t 475 (by decide +kernel) (by decide +kernel)
theorem kw_476 : (.fieldLink "GroupBitmapsModel" 41 "GroupBitmapsModel" "reserved" "I" : Cond) ∈ gw := gw_t 476 (by decide +kernel) (by decide +kernel)
theorem kw_477 : (.fieldLink "GroupBitmapsModel" 44 "GroupBitmapsModel" "latest" "I" : Cond) ∈ gw := gw_t 477 (by decide +kernel) (by decide +kernel)
theorem kw_478 : (.fieldLink "GroupBitmapsModel" 23 "GroupBitmapsModel" "told" "[Z" : Cond) ∈ gw := gw_t 478 (by decide +kernel) (by decide +kernel)
theorem kw_479 : (.fieldLink "GroupBitmapsModel" 66 "GroupBitmapsModel" "runAt" "I" : Cond) ∈ gw := gw_t 479 (by decide +kernel) (by decide +kernel)
theorem kw_480 : (.fieldLink "GroupBitmapsModel" 63 "GroupBitmapsModel" "runSize" "I" : Cond) ∈ gw := gw_t 480 (by decide +kernel) (by decide +kernel)
theorem kw_504 : (.arrayClass .int : Cond) ∈ gw := gw_t 504 (by decide +kernel) (by decide +kernel)
theorem kw_505 : (.methodLink "GroupBitmapsLaw" 61 ⟨"GroupBitmapsModel", "thrown", "()I"⟩ : Cond) ∈ gw := gw_t 505 (by decide +kernel) (by decide +kernel)
theorem kw_506 : (.instanceMethod ⟨"GroupBitmapsModel", "thrown", "()I"⟩ : Cond) ∈ gw := gw_t 506 (by decide +kernel) (by decide +kernel)
theorem kw_507 : (.selects "GroupBitmapsModel" ⟨"GroupBitmapsModel", "thrown", "()I"⟩ ⟨"GroupBitmapsModel", "thrown", "()I"⟩ : Cond) ∈ gw := gw_t 507 (by decide +kernel) (by decide +kernel)
theorem kw_508 : (.code ⟨"GroupBitmapsModel", "thrown", "()I"⟩ prog_5_method_2_code 1 (some .int) : Cond) ∈ gw := gw_t 508 (by decide +kernel) (by decide +kernel)
theorem kw_509 : (.methodLink "GroupBitmapsLaw" 60 ⟨"GroupBitmapsModel", "lay", "(II)I"⟩ : Cond) ∈ gw := gw_t 509 (by decide +kernel) (by decide +kernel)
theorem kw_510 : (.instanceMethod ⟨"GroupBitmapsModel", "lay", "(II)I"⟩ : Cond) ∈ gw := gw_t 510 (by decide +kernel) (by decide +kernel)
theorem kw_511 : (.selects "GroupBitmapsModel" ⟨"GroupBitmapsModel", "lay", "(II)I"⟩ ⟨"GroupBitmapsModel", "lay", "(II)I"⟩ : Cond) ∈ gw := gw_t 511 (by decide +kernel) (by decide +kernel)
theorem kw_512 : (.code ⟨"GroupBitmapsModel", "lay", "(II)I"⟩ prog_5_method_13_code 3 (some .int) : Cond) ∈ gw := gw_t 512 (by decide +kernel) (by decide +kernel)
theorem kw_513 : (.methodLink "GroupBitmapsModel" 59 ⟨"GroupBitmapsModel", "allBlocks", "()I"⟩ : Cond) ∈ gw := gw_t 513 (by decide +kernel) (by decide +kernel)
theorem kw_515 : (.instanceMethod ⟨"GroupBitmapsModel", "allBlocks", "()I"⟩ : Cond) ∈ gw := gw_t 515 (by decide +kernel) (by decide +kernel)
theorem kw_516 : (.code ⟨"GroupBitmapsModel", "allBlocks", "()I"⟩ prog_5_method_9_code 3 (some .int) : Cond) ∈ gw := gw_t 516 (by decide +kernel) (by decide +kernel)
theorem kw_517 : (.methodLink "GroupBitmapsModel" 53 ⟨"GroupBitmapsModel", "freeBlocks", "(I)I"⟩ : Cond) ∈ gw := gw_t 517 (by decide +kernel) (by decide +kernel)
theorem kw_519 : (.instanceMethod ⟨"GroupBitmapsModel", "freeBlocks", "(I)I"⟩ : Cond) ∈ gw := gw_t 519 (by decide +kernel) (by decide +kernel)
theorem kw_520 : (.code ⟨"GroupBitmapsModel", "freeBlocks", "(I)I"⟩ prog_5_method_7_code 4 (some .int) : Cond) ∈ gw := gw_t 520 (by decide +kernel) (by decide +kernel)
theorem kw_521 : (.methodLink "GroupBitmapsLaw" 68 ⟨"GroupBitmapsModel", "reserve", "(I)I"⟩ : Cond) ∈ gw := gw_t 521 (by decide +kernel) (by decide +kernel)
theorem kw_522 : (.instanceMethod ⟨"GroupBitmapsModel", "reserve", "(I)I"⟩ : Cond) ∈ gw := gw_t 522 (by decide +kernel) (by decide +kernel)
theorem kw_523 : (.selects "GroupBitmapsModel" ⟨"GroupBitmapsModel", "reserve", "(I)I"⟩ ⟨"GroupBitmapsModel", "reserve", "(I)I"⟩ : Cond) ∈ gw := gw_t 523 (by decide +kernel) (by decide +kernel)
theorem kw_524 : (.code ⟨"GroupBitmapsModel", "reserve", "(I)I"⟩ prog_5_method_14_code 3 (some .int) : Cond) ∈ gw := gw_t 524 (by decide +kernel) (by decide +kernel)
theorem kw_525 : (.methodLink "GroupBitmapsLaw" 72 ⟨"GroupBitmapsModel", "take", "(IIZ)I"⟩ : Cond) ∈ gw := gw_t 525 (by decide +kernel) (by decide +kernel)
theorem kw_526 : (.instanceMethod ⟨"GroupBitmapsModel", "take", "(IIZ)I"⟩ : Cond) ∈ gw := gw_t 526 (by decide +kernel) (by decide +kernel)
theorem kw_527 : (.selects "GroupBitmapsModel" ⟨"GroupBitmapsModel", "take", "(IIZ)I"⟩ ⟨"GroupBitmapsModel", "take", "(IIZ)I"⟩ : Cond) ∈ gw := gw_t 527 (by decide +kernel) (by decide +kernel)
theorem kw_528 : (.code ⟨"GroupBitmapsModel", "take", "(IIZ)I"⟩ prog_5_method_18_code 9 (some .int) : Cond) ∈ gw := gw_t 528 (by decide +kernel) (by decide +kernel)
theorem kw_529 : (.methodLink "GroupBitmapsModel" 69 ⟨"GroupBitmapsModel", "isBlock", "(I)Z"⟩ : Cond) ∈ gw := gw_t 529 (by decide +kernel) (by decide +kernel)
theorem kw_531 : (.instanceMethod ⟨"GroupBitmapsModel", "isBlock", "(I)Z"⟩ : Cond) ∈ gw := gw_t 531 (by decide +kernel) (by decide +kernel)
theorem kw_532 : (.code ⟨"GroupBitmapsModel", "isBlock", "(I)Z"⟩ prog_5_method_11_code 2 (some .boolean) : Cond) ∈ gw := gw_t 532 (by decide +kernel) (by decide +kernel)
theorem kw_533 : (.methodLink "GroupBitmapsModel" 73 ⟨"GroupBitmapsModel", "areFree", "(II)Z"⟩ : Cond) ∈ gw := gw_t 533 (by decide +kernel) (by decide +kernel)
theorem kw_535 : (.instanceMethod ⟨"GroupBitmapsModel", "areFree", "(II)Z"⟩ : Cond) ∈ gw := gw_t 535 (by decide +kernel) (by decide +kernel)
theorem kw_536 : (.code ⟨"GroupBitmapsModel", "areFree", "(II)Z"⟩ prog_5_method_16_code 5 (some .boolean) : Cond) ∈ gw := gw_t 536 (by decide +kernel) (by decide +kernel)
theorem kw_537 : (.methodLink "GroupBitmapsModel" 77 ⟨"GroupBitmapsModel", "findRun", "(II)V"⟩ : Cond) ∈ gw := gw_t 537 (by decide +kernel) (by decide +kernel)
theorem kw_539 : (.instanceMethod ⟨"GroupBitmapsModel", "findRun", "(II)V"⟩ : Cond) ∈ gw := gw_t 539 (by decide +kernel) (by decide +kernel)
theorem kw_540 : (.code ⟨"GroupBitmapsModel", "findRun", "(II)V"⟩ prog_5_method_15_code 7 none : Cond) ∈ gw := gw_t 540 (by decide +kernel) (by decide +kernel)
theorem kw_541 : (.methodLink "GroupBitmapsModel" 80 ⟨"GroupBitmapsModel", "mark", "(IIZ)V"⟩ : Cond) ∈ gw := gw_t 541 (by decide +kernel) (by decide +kernel)
theorem kw_543 : (.instanceMethod ⟨"GroupBitmapsModel", "mark", "(IIZ)V"⟩ : Cond) ∈ gw := gw_t 543 (by decide +kernel) (by decide +kernel)
theorem kw_544 : (.code ⟨"GroupBitmapsModel", "mark", "(IIZ)V"⟩ prog_5_method_17_code 5 none : Cond) ∈ gw := gw_t 544 (by decide +kernel) (by decide +kernel)
theorem kw_545 : (.methodLink "GroupBitmapsLaw" 76 ⟨"GroupBitmapsModel", "taken", "()I"⟩ : Cond) ∈ gw := gw_t 545 (by decide +kernel) (by decide +kernel)
theorem kw_546 : (.instanceMethod ⟨"GroupBitmapsModel", "taken", "()I"⟩ : Cond) ∈ gw := gw_t 546 (by decide +kernel) (by decide +kernel)
theorem kw_547 : (.selects "GroupBitmapsModel" ⟨"GroupBitmapsModel", "taken", "()I"⟩ ⟨"GroupBitmapsModel", "taken", "()I"⟩ : Cond) ∈ gw := gw_t 547 (by decide +kernel) (by decide +kernel)
theorem kw_548 : (.code ⟨"GroupBitmapsModel", "taken", "()I"⟩ prog_5_method_19_code 1 (some .int) : Cond) ∈ gw := gw_t 548 (by decide +kernel) (by decide +kernel)
theorem kw_549 : (.methodLink "GroupBitmapsLaw" 79 ⟨"GroupBitmapsModel", "give", "(II)I"⟩ : Cond) ∈ gw := gw_t 549 (by decide +kernel) (by decide +kernel)
theorem kw_550 : (.instanceMethod ⟨"GroupBitmapsModel", "give", "(II)I"⟩ : Cond) ∈ gw := gw_t 550 (by decide +kernel) (by decide +kernel)
theorem kw_551 : (.selects "GroupBitmapsModel" ⟨"GroupBitmapsModel", "give", "(II)I"⟩ ⟨"GroupBitmapsModel", "give", "(II)I"⟩ : Cond) ∈ gw := gw_t 551 (by decide +kernel) (by decide +kernel)
theorem kw_552 : (.code ⟨"GroupBitmapsModel", "give", "(II)I"⟩ prog_5_method_20_code 6 (some .int) : Cond) ∈ gw := gw_t 552 (by decide +kernel) (by decide +kernel)
theorem kw_553 : (.methodLink "GroupBitmapsLaw" 83 ⟨"GroupBitmapsModel", "takeFile", "(IZ)I"⟩ : Cond) ∈ gw := gw_t 553 (by decide +kernel) (by decide +kernel)
theorem kw_554 : (.instanceMethod ⟨"GroupBitmapsModel", "takeFile", "(IZ)I"⟩ : Cond) ∈ gw := gw_t 554 (by decide +kernel) (by decide +kernel)
theorem kw_555 : (.selects "GroupBitmapsModel" ⟨"GroupBitmapsModel", "takeFile", "(IZ)I"⟩ ⟨"GroupBitmapsModel", "takeFile", "(IZ)I"⟩ : Cond) ∈ gw := gw_t 555 (by decide +kernel) (by decide +kernel)
theorem kw_556 : (.code ⟨"GroupBitmapsModel", "takeFile", "(IZ)I"⟩ prog_5_method_25_code 6 (some .int) : Cond) ∈ gw := gw_t 556 (by decide +kernel) (by decide +kernel)
theorem kw_557 : (.methodLink "GroupBitmapsModel" 90 ⟨"GroupBitmapsModel", "isFile", "(I)Z"⟩ : Cond) ∈ gw := gw_t 557 (by decide +kernel) (by decide +kernel)
theorem kw_559 : (.instanceMethod ⟨"GroupBitmapsModel", "isFile", "(I)Z"⟩ : Cond) ∈ gw := gw_t 559 (by decide +kernel) (by decide +kernel)
theorem kw_560 : (.code ⟨"GroupBitmapsModel", "isFile", "(I)Z"⟩ prog_5_method_12_code 2 (some .boolean) : Cond) ∈ gw := gw_t 560 (by decide +kernel) (by decide +kernel)
theorem kw_561 : (.methodLink "GroupBitmapsModel" 87 ⟨"GroupBitmapsModel", "allFiles", "()I"⟩ : Cond) ∈ gw := gw_t 561 (by decide +kernel) (by decide +kernel)
theorem kw_563 : (.instanceMethod ⟨"GroupBitmapsModel", "allFiles", "()I"⟩ : Cond) ∈ gw := gw_t 563 (by decide +kernel) (by decide +kernel)
theorem kw_564 : (.code ⟨"GroupBitmapsModel", "allFiles", "()I"⟩ prog_5_method_10_code 3 (some .int) : Cond) ∈ gw := gw_t 564 (by decide +kernel) (by decide +kernel)
theorem kw_565 : (.methodLink "GroupBitmapsModel" 56 ⟨"GroupBitmapsModel", "freeFiles", "(I)I"⟩ : Cond) ∈ gw := gw_t 565 (by decide +kernel) (by decide +kernel)
theorem kw_567 : (.instanceMethod ⟨"GroupBitmapsModel", "freeFiles", "(I)I"⟩ : Cond) ∈ gw := gw_t 567 (by decide +kernel) (by decide +kernel)
theorem kw_568 : (.code ⟨"GroupBitmapsModel", "freeFiles", "(I)I"⟩ prog_5_method_8_code 4 (some .int) : Cond) ∈ gw := gw_t 568 (by decide +kernel) (by decide +kernel)
theorem kw_569 : (.methodLink "GroupBitmapsModel" 93 ⟨"GroupBitmapsModel", "groupOfFolder", "(IZ)I"⟩ : Cond) ∈ gw := gw_t 569 (by decide +kernel) (by decide +kernel)
theorem kw_571 : (.instanceMethod ⟨"GroupBitmapsModel", "groupOfFolder", "(IZ)I"⟩ : Cond) ∈ gw := gw_t 571 (by decide +kernel) (by decide +kernel)
theorem kw_572 : (.code ⟨"GroupBitmapsModel", "groupOfFolder", "(IZ)I"⟩ prog_5_method_23_code 9 (some .int) : Cond) ∈ gw := gw_t 572 (by decide +kernel) (by decide +kernel)
theorem kw_573 : (.methodLink "GroupBitmapsModel" 84 ⟨"GroupBitmapsModel", "firstFree", "(I)I"⟩ : Cond) ∈ gw := gw_t 573 (by decide +kernel) (by decide +kernel)
theorem kw_575 : (.instanceMethod ⟨"GroupBitmapsModel", "firstFree", "(I)I"⟩ : Cond) ∈ gw := gw_t 575 (by decide +kernel) (by decide +kernel)
theorem kw_576 : (.code ⟨"GroupBitmapsModel", "firstFree", "(I)I"⟩ prog_5_method_22_code 3 (some .int) : Cond) ∈ gw := gw_t 576 (by decide +kernel) (by decide +kernel)
theorem kw_577 : (.methodLink "GroupBitmapsModel" 97 ⟨"GroupBitmapsModel", "groupOfPlain", "(I)I"⟩ : Cond) ∈ gw := gw_t 577 (by decide +kernel) (by decide +kernel)
theorem kw_579 : (.instanceMethod ⟨"GroupBitmapsModel", "groupOfPlain", "(I)I"⟩ : Cond) ∈ gw := gw_t 579 (by decide +kernel) (by decide +kernel)
theorem kw_580 : (.code ⟨"GroupBitmapsModel", "groupOfPlain", "(I)I"⟩ prog_5_method_21_code 4 (some .int) : Cond) ∈ gw := gw_t 580 (by decide +kernel) (by decide +kernel)
theorem kw_581 : (.methodLink "GroupBitmapsModel" 100 ⟨"GroupBitmapsModel", "markFile", "(IIZZ)V"⟩ : Cond) ∈ gw := gw_t 581 (by decide +kernel) (by decide +kernel)
theorem kw_583 : (.instanceMethod ⟨"GroupBitmapsModel", "markFile", "(IIZZ)V"⟩ : Cond) ∈ gw := gw_t 583 (by decide +kernel) (by decide +kernel)
theorem kw_584 : (.code ⟨"GroupBitmapsModel", "markFile", "(IIZZ)V"⟩ prog_5_method_24_code 5 none : Cond) ∈ gw := gw_t 584 (by decide +kernel) (by decide +kernel)
theorem kw_585 : (.methodLink "GroupBitmapsLaw" 86 ⟨"GroupBitmapsModel", "giveFile", "(IZ)I"⟩ : Cond) ∈ gw := gw_t 585 (by decide +kernel) (by decide +kernel)
theorem kw_586 : (.instanceMethod ⟨"GroupBitmapsModel", "giveFile", "(IZ)I"⟩ : Cond) ∈ gw := gw_t 586 (by decide +kernel) (by decide +kernel)
theorem kw_587 : (.selects "GroupBitmapsModel" ⟨"GroupBitmapsModel", "giveFile", "(IZ)I"⟩ ⟨"GroupBitmapsModel", "giveFile", "(IZ)I"⟩ : Cond) ∈ gw := gw_t 587 (by decide +kernel) (by decide +kernel)
theorem kw_588 : (.code ⟨"GroupBitmapsModel", "giveFile", "(IZ)I"⟩ prog_5_method_26_code 4 (some .int) : Cond) ∈ gw := gw_t 588 (by decide +kernel) (by decide +kernel)
theorem kw_589 : (.methodLink "GroupBitmapsLaw" 89 ⟨"GroupBitmapsModel", "isTaken", "(II)Z"⟩ : Cond) ∈ gw := gw_t 589 (by decide +kernel) (by decide +kernel)
theorem kw_590 : (.instanceMethod ⟨"GroupBitmapsModel", "isTaken", "(II)Z"⟩ : Cond) ∈ gw := gw_t 590 (by decide +kernel) (by decide +kernel)
theorem kw_591 : (.selects "GroupBitmapsModel" ⟨"GroupBitmapsModel", "isTaken", "(II)Z"⟩ ⟨"GroupBitmapsModel", "isTaken", "(II)Z"⟩ : Cond) ∈ gw := gw_t 591 (by decide +kernel) (by decide +kernel)
theorem kw_592 : (.code ⟨"GroupBitmapsModel", "isTaken", "(II)Z"⟩ prog_5_method_27_code 3 (some .boolean) : Cond) ∈ gw := gw_t 592 (by decide +kernel) (by decide +kernel)
theorem kw_593 : (.methodLink "GroupBitmapsLaw" 92 ⟨"GroupBitmapsModel", "group", "(II)I"⟩ : Cond) ∈ gw := gw_t 593 (by decide +kernel) (by decide +kernel)
theorem kw_594 : (.instanceMethod ⟨"GroupBitmapsModel", "group", "(II)I"⟩ : Cond) ∈ gw := gw_t 594 (by decide +kernel) (by decide +kernel)
theorem kw_595 : (.selects "GroupBitmapsModel" ⟨"GroupBitmapsModel", "group", "(II)I"⟩ ⟨"GroupBitmapsModel", "group", "(II)I"⟩ : Cond) ∈ gw := gw_t 595 (by decide +kernel) (by decide +kernel)
theorem kw_596 : (.code ⟨"GroupBitmapsModel", "group", "(II)I"⟩ prog_5_method_28_code 3 (some .int) : Cond) ∈ gw := gw_t 596 (by decide +kernel) (by decide +kernel)
theorem kw_597 : (.methodLink "GroupBitmapsLaw" 95 ⟨"GroupBitmapsModel", "byteOf", "(II)I"⟩ : Cond) ∈ gw := gw_t 597 (by decide +kernel) (by decide +kernel)
theorem kw_598 : (.instanceMethod ⟨"GroupBitmapsModel", "byteOf", "(II)I"⟩ : Cond) ∈ gw := gw_t 598 (by decide +kernel) (by decide +kernel)
theorem kw_599 : (.selects "GroupBitmapsModel" ⟨"GroupBitmapsModel", "byteOf", "(II)I"⟩ ⟨"GroupBitmapsModel", "byteOf", "(II)I"⟩ : Cond) ∈ gw := gw_t 599 (by decide +kernel) (by decide +kernel)
theorem kw_600 : (.code ⟨"GroupBitmapsModel", "byteOf", "(II)I"⟩ prog_5_method_30_code 9 (some .int) : Cond) ∈ gw := gw_t 600 (by decide +kernel) (by decide +kernel)
theorem kw_601 : (.methodLink "GroupBitmapsModel" 104 ⟨"GroupBitmapsModel", "descriptor", "(I)I"⟩ : Cond) ∈ gw := gw_t 601 (by decide +kernel) (by decide +kernel)
theorem kw_603 : (.instanceMethod ⟨"GroupBitmapsModel", "descriptor", "(I)I"⟩ : Cond) ∈ gw := gw_t 603 (by decide +kernel) (by decide +kernel)
theorem kw_604 : (.code ⟨"GroupBitmapsModel", "descriptor", "(I)I"⟩ prog_5_method_29_code 6 (some .int) : Cond) ∈ gw := gw_t 604 (by decide +kernel) (by decide +kernel)
theorem kw_605 : (.methodLink "GroupBitmapsLaw" 98 ⟨"GroupBitmapsModel", "isTold", "(I)Z"⟩ : Cond) ∈ gw := gw_t 605 (by decide +kernel) (by decide +kernel)
theorem kw_606 : (.instanceMethod ⟨"GroupBitmapsModel", "isTold", "(I)Z"⟩ : Cond) ∈ gw := gw_t 606 (by decide +kernel) (by decide +kernel)
theorem kw_607 : (.selects "GroupBitmapsModel" ⟨"GroupBitmapsModel", "isTold", "(I)Z"⟩ ⟨"GroupBitmapsModel", "isTold", "(I)Z"⟩ : Cond) ∈ gw := gw_t 607 (by decide +kernel) (by decide +kernel)
theorem kw_608 : (.code ⟨"GroupBitmapsModel", "isTold", "(I)Z"⟩ prog_5_method_31_code 2 (some .boolean) : Cond) ∈ gw := gw_t 608 (by decide +kernel) (by decide +kernel)
theorem kw_609 : (.methodLink "GroupBitmapsLaw" 102 ⟨"GroupBitmapsModel", "settle", "()I"⟩ : Cond) ∈ gw := gw_t 609 (by decide +kernel) (by decide +kernel)
theorem kw_610 : (.instanceMethod ⟨"GroupBitmapsModel", "settle", "()I"⟩ : Cond) ∈ gw := gw_t 610 (by decide +kernel) (by decide +kernel)
theorem kw_611 : (.selects "GroupBitmapsModel" ⟨"GroupBitmapsModel", "settle", "()I"⟩ ⟨"GroupBitmapsModel", "settle", "()I"⟩ : Cond) ∈ gw := gw_t 611 (by decide +kernel) (by decide +kernel)
theorem kw_612 : (.code ⟨"GroupBitmapsModel", "settle", "()I"⟩ prog_5_method_32_code 3 (some .int) : Cond) ∈ gw := gw_t 612 (by decide +kernel) (by decide +kernel)
theorem kw_613 : (.arrayClass .long : Cond) ∈ gw := gw_t 613 (by decide +kernel) (by decide +kernel)
theorem kp_0 : (.selects "GroupBitmaps" ⟨"GroupBitmaps", "layOut", "(II)V"⟩ ⟨"GroupBitmaps", "layOut", "(II)V"⟩ : Cond) ∈ gw := gw_p 0 (by decide +kernel) (by decide +kernel)
theorem kp_1 : (.selects "java/lang/Throwable" ⟨"java/lang/Throwable", "fillInStackTrace", "(I)Ljava/lang/Throwable;"⟩ ⟨"java/lang/Throwable", "fillInStackTrace", "(I)Ljava/lang/Throwable;"⟩ : Cond) ∈ gw := gw_p 1 (by decide +kernel) (by decide +kernel)
theorem kp_2 : (.selects "GroupBitmaps" ⟨"GroupBitmaps", "freeBlocks", "()I"⟩ ⟨"GroupBitmaps", "freeBlocks", "()I"⟩ : Cond) ∈ gw := gw_p 2 (by decide +kernel) (by decide +kernel)
theorem kp_3 : (.selects "GroupBitmaps" ⟨"GroupBitmaps", "takeable", "(Z)I"⟩ ⟨"GroupBitmaps", "takeable", "(Z)I"⟩ : Cond) ∈ gw := gw_p 3 (by decide +kernel) (by decide +kernel)
theorem kp_4 : (.selects "GroupBitmaps" ⟨"GroupBitmaps", "hasBlock", "(I)Z"⟩ ⟨"GroupBitmaps", "hasBlock", "(I)Z"⟩ : Cond) ∈ gw := gw_p 4 (by decide +kernel) (by decide +kernel)
theorem kp_5 : (.selects "GroupBitmaps" ⟨"GroupBitmaps", "allBlocks", "()I"⟩ ⟨"GroupBitmaps", "allBlocks", "()I"⟩ : Cond) ∈ gw := gw_p 5 (by decide +kernel) (by decide +kernel)
theorem kp_6 : (.selects "GroupBitmaps" ⟨"GroupBitmaps", "takeNear", "(II)I"⟩ ⟨"GroupBitmaps", "takeNear", "(II)I"⟩ : Cond) ∈ gw := gw_p 6 (by decide +kernel) (by decide +kernel)
theorem kp_7 : (.selects "GroupBitmaps" ⟨"GroupBitmaps", "groupOfBlock", "(I)LGroupBitmaps$Group;"⟩ ⟨"GroupBitmaps", "groupOfBlock", "(I)LGroupBitmaps$Group;"⟩ : Cond) ∈ gw := gw_p 7 (by decide +kernel) (by decide +kernel)
theorem kp_8 : (.selects "GroupBitmaps" ⟨"GroupBitmaps", "takeRun", "(LGroupBitmaps$Group;II)I"⟩ ⟨"GroupBitmaps", "takeRun", "(LGroupBitmaps$Group;II)I"⟩ : Cond) ∈ gw := gw_p 8 (by decide +kernel) (by decide +kernel)
theorem kp_9 : (.selects "GroupBitmaps" ⟨"GroupBitmaps", "groupBehind", "(LGroupBitmaps$Group;I)LGroupBitmaps$Group;"⟩ ⟨"GroupBitmaps", "groupBehind", "(LGroupBitmaps$Group;I)LGroupBitmaps$Group;"⟩ : Cond) ∈ gw := gw_p 9 (by decide +kernel) (by decide +kernel)
theorem kp_10 : (.selects "GroupBitmaps" ⟨"GroupBitmaps", "takeLongestRun", "(LGroupBitmaps$Group;)I"⟩ ⟨"GroupBitmaps", "takeLongestRun", "(LGroupBitmaps$Group;)I"⟩ : Cond) ∈ gw := gw_p 10 (by decide +kernel) (by decide +kernel)
theorem kp_11 : (.selects "GroupBitmaps" ⟨"GroupBitmaps", "areGivable", "(II)Z"⟩ ⟨"GroupBitmaps", "areGivable", "(II)Z"⟩ : Cond) ∈ gw := gw_p 11 (by decide +kernel) (by decide +kernel)
theorem kp_12 : (.selects "GroupBitmaps" ⟨"GroupBitmaps", "hasFile", "(I)Z"⟩ ⟨"GroupBitmaps", "hasFile", "(I)Z"⟩ : Cond) ∈ gw := gw_p 12 (by decide +kernel) (by decide +kernel)
theorem kp_13 : (.selects "GroupBitmaps" ⟨"GroupBitmaps", "groupForFolder", "(I)LGroupBitmaps$Group;"⟩ ⟨"GroupBitmaps", "groupForFolder", "(I)LGroupBitmaps$Group;"⟩ : Cond) ∈ gw := gw_p 13 (by decide +kernel) (by decide +kernel)
theorem kp_14 : (.selects "GroupBitmaps" ⟨"GroupBitmaps", "groupOfFile", "(I)LGroupBitmaps$Group;"⟩ ⟨"GroupBitmaps", "groupOfFile", "(I)LGroupBitmaps$Group;"⟩ : Cond) ∈ gw := gw_p 14 (by decide +kernel) (by decide +kernel)
theorem kp_15 : (.selects "GroupBitmaps" ⟨"GroupBitmaps", "leastFolders", "(LGroupBitmaps$Group;)LGroupBitmaps$Group;"⟩ ⟨"GroupBitmaps", "leastFolders", "(LGroupBitmaps$Group;)LGroupBitmaps$Group;"⟩ : Cond) ∈ gw := gw_p 15 (by decide +kernel) (by decide +kernel)
theorem kp_16 : (.selects "GroupBitmaps" ⟨"GroupBitmaps", "freeFiles", "()I"⟩ ⟨"GroupBitmaps", "freeFiles", "()I"⟩ : Cond) ∈ gw := gw_p 16 (by decide +kernel) (by decide +kernel)
theorem kp_17 : (.selects "GroupBitmaps" ⟨"GroupBitmaps", "firstWithRoom", "(LGroupBitmaps$Group;)LGroupBitmaps$Group;"⟩ ⟨"GroupBitmaps", "firstWithRoom", "(LGroupBitmaps$Group;)LGroupBitmaps$Group;"⟩ : Cond) ∈ gw := gw_p 17 (by decide +kernel) (by decide +kernel)
theorem kp_18 : (.selects "GroupBitmaps" ⟨"GroupBitmaps", "firstWithFile", "(LGroupBitmaps$Group;)LGroupBitmaps$Group;"⟩ ⟨"GroupBitmaps", "firstWithFile", "(LGroupBitmaps$Group;)LGroupBitmaps$Group;"⟩ : Cond) ∈ gw := gw_p 18 (by decide +kernel) (by decide +kernel)
theorem kp_19 : (.selects "GroupBitmaps" ⟨"GroupBitmaps", "groupForPlain", "(I)LGroupBitmaps$Group;"⟩ ⟨"GroupBitmaps", "groupForPlain", "(I)LGroupBitmaps$Group;"⟩ : Cond) ∈ gw := gw_p 19 (by decide +kernel) (by decide +kernel)
theorem kp_20 : (.selects "GroupBitmaps" ⟨"GroupBitmaps", "tableByte", "(I)I"⟩ ⟨"GroupBitmaps", "tableByte", "(I)I"⟩ : Cond) ∈ gw := gw_p 20 (by decide +kernel) (by decide +kernel)
theorem kp_21 : (.selects "GroupBitmapsModel" ⟨"GroupBitmapsModel", "layOut", "(II)V"⟩ ⟨"GroupBitmapsModel", "layOut", "(II)V"⟩ : Cond) ∈ gw := gw_p 21 (by decide +kernel) (by decide +kernel)
theorem kp_22 : (.selects "GroupBitmapsModel" ⟨"GroupBitmapsModel", "allBlocks", "()I"⟩ ⟨"GroupBitmapsModel", "allBlocks", "()I"⟩ : Cond) ∈ gw := gw_p 22 (by decide +kernel) (by decide +kernel)
theorem kp_23 : (.selects "GroupBitmapsModel" ⟨"GroupBitmapsModel", "freeBlocks", "(I)I"⟩ ⟨"GroupBitmapsModel", "freeBlocks", "(I)I"⟩ : Cond) ∈ gw := gw_p 23 (by decide +kernel) (by decide +kernel)
theorem kp_24 : (.selects "GroupBitmapsModel" ⟨"GroupBitmapsModel", "isBlock", "(I)Z"⟩ ⟨"GroupBitmapsModel", "isBlock", "(I)Z"⟩ : Cond) ∈ gw := gw_p 24 (by decide +kernel) (by decide +kernel)
theorem kp_25 : (.selects "GroupBitmapsModel" ⟨"GroupBitmapsModel", "areFree", "(II)Z"⟩ ⟨"GroupBitmapsModel", "areFree", "(II)Z"⟩ : Cond) ∈ gw := gw_p 25 (by decide +kernel) (by decide +kernel)
theorem kp_26 : (.selects "GroupBitmapsModel" ⟨"GroupBitmapsModel", "findRun", "(II)V"⟩ ⟨"GroupBitmapsModel", "findRun", "(II)V"⟩ : Cond) ∈ gw := gw_p 26 (by decide +kernel) (by decide +kernel)
theorem kp_27 : (.selects "GroupBitmapsModel" ⟨"GroupBitmapsModel", "mark", "(IIZ)V"⟩ ⟨"GroupBitmapsModel", "mark", "(IIZ)V"⟩ : Cond) ∈ gw := gw_p 27 (by decide +kernel) (by decide +kernel)
theorem kp_28 : (.selects "GroupBitmapsModel" ⟨"GroupBitmapsModel", "isFile", "(I)Z"⟩ ⟨"GroupBitmapsModel", "isFile", "(I)Z"⟩ : Cond) ∈ gw := gw_p 28 (by decide +kernel) (by decide +kernel)
theorem kp_29 : (.selects "GroupBitmapsModel" ⟨"GroupBitmapsModel", "allFiles", "()I"⟩ ⟨"GroupBitmapsModel", "allFiles", "()I"⟩ : Cond) ∈ gw := gw_p 29 (by decide +kernel) (by decide +kernel)
theorem kp_30 : (.selects "GroupBitmapsModel" ⟨"GroupBitmapsModel", "freeFiles", "(I)I"⟩ ⟨"GroupBitmapsModel", "freeFiles", "(I)I"⟩ : Cond) ∈ gw := gw_p 30 (by decide +kernel) (by decide +kernel)
theorem kp_31 : (.selects "GroupBitmapsModel" ⟨"GroupBitmapsModel", "groupOfFolder", "(IZ)I"⟩ ⟨"GroupBitmapsModel", "groupOfFolder", "(IZ)I"⟩ : Cond) ∈ gw := gw_p 31 (by decide +kernel) (by decide +kernel)
theorem kp_32 : (.selects "GroupBitmapsModel" ⟨"GroupBitmapsModel", "firstFree", "(I)I"⟩ ⟨"GroupBitmapsModel", "firstFree", "(I)I"⟩ : Cond) ∈ gw := gw_p 32 (by decide +kernel) (by decide +kernel)
theorem kp_33 : (.selects "GroupBitmapsModel" ⟨"GroupBitmapsModel", "groupOfPlain", "(I)I"⟩ ⟨"GroupBitmapsModel", "groupOfPlain", "(I)I"⟩ : Cond) ∈ gw := gw_p 33 (by decide +kernel) (by decide +kernel)
theorem kp_34 : (.selects "GroupBitmapsModel" ⟨"GroupBitmapsModel", "markFile", "(IIZZ)V"⟩ ⟨"GroupBitmapsModel", "markFile", "(IIZZ)V"⟩ : Cond) ∈ gw := gw_p 34 (by decide +kernel) (by decide +kernel)
theorem kp_35 : (.selects "GroupBitmapsModel" ⟨"GroupBitmapsModel", "descriptor", "(I)I"⟩ ⟨"GroupBitmapsModel", "descriptor", "(I)I"⟩ : Cond) ∈ gw := gw_p 35 (by decide +kernel) (by decide +kernel)
theorem ku_GB : ∀ w ∈ u_ws R_GB F_GB 5, w ∈ gw := by decide +kernel
theorem ku_GR : ∀ w ∈ u_ws R_GR F_GR 6, w ∈ gw := by decide +kernel
theorem ku_BM : ∀ w ∈ u_ws R_BM F_BM 5, w ∈ gw := by decide +kernel
theorem ku_MD : ∀ w ∈ u_ws R_MD F_MD 11, w ∈ gw := by decide +kernel
end
section
theorem d_GB_init_0 : decode b_GB_init 0 = .ok (.aload_n 0, 1) := by decide +kernel
theorem d_GB_init_1 : decode b_GB_init 1 = .ok (.invokespecial 3, 3) := by decide +kernel
theorem d_GB_init_4 : decode b_GB_init 4 = .ok (.aload_n 0, 1) := by decide +kernel
theorem d_GB_init_5 : decode b_GB_init 5 = .ok (.iconst 4, 1) := by decide +kernel
theorem d_GB_init_6 : decode b_GB_init 6 = .ok (.anewarray 9, 3) := by decide +kernel
theorem d_GB_init_9 : decode b_GB_init 9 = .ok (.putfield 11, 3) := by decide +kernel
theorem d_GB_init_12 : decode b_GB_init 12 = .ok (.aload_n 0, 1) := by decide +kernel
theorem d_GB_init_13 : decode b_GB_init 13 = .ok (.iconst 4, 1) := by decide +kernel
theorem d_GB_init_14 : decode b_GB_init 14 = .ok (.putfield 15, 3) := by decide +kernel
theorem d_GB_init_17 : decode b_GB_init 17 = .ok (.iconst 0, 1) := by decide +kernel
theorem d_GB_init_18 : decode b_GB_init 18 = .ok (.istore_n 1, 1) := by decide +kernel
theorem d_GB_init_19 : decode b_GB_init 19 = .ok (.iload_n 1, 1) := by decide +kernel
theorem d_GB_init_20 : decode b_GB_init 20 = .ok (.iconst 4, 1) := by decide +kernel
theorem d_GB_init_21 : decode b_GB_init 21 = .ok (.if_icmp .ge 23, 3) := by decide +kernel
theorem d_GB_init_24 : decode b_GB_init 24 = .ok (.aload_n 0, 1) := by decide +kernel
theorem d_GB_init_25 : decode b_GB_init 25 = .ok (.getfield 11, 3) := by decide +kernel
theorem d_GB_init_28 : decode b_GB_init 28 = .ok (.iload_n 1, 1) := by decide +kernel
theorem d_GB_init_29 : decode b_GB_init 29 = .ok (.new 9, 3) := by decide +kernel
theorem d_GB_init_32 : decode b_GB_init 32 = .ok (.dup, 1) := by decide +kernel
theorem d_GB_init_33 : decode b_GB_init 33 = .ok (.iload_n 1, 1) := by decide +kernel
theorem d_GB_init_34 : decode b_GB_init 34 = .ok (.invokespecial 19, 3) := by decide +kernel
theorem d_GB_init_37 : decode b_GB_init 37 = .ok (.aastore, 1) := by decide +kernel
theorem d_GB_init_38 : decode b_GB_init 38 = .ok (.iinc 1 1, 3) := by decide +kernel
theorem d_GB_init_41 : decode b_GB_init 41 = .ok (.goto (-22), 3) := by decide +kernel
theorem d_GB_init_44 : decode b_GB_init 44 = .ok (.aload_n 0, 1) := by decide +kernel
theorem d_GB_init_45 : decode b_GB_init 45 = .ok (.iconst 4, 1) := by decide +kernel
theorem d_GB_init_46 : decode b_GB_init 46 = .ok (.sipush 256, 3) := by decide +kernel
theorem d_GB_init_49 : decode b_GB_init 49 = .ok (.invokevirtual 22, 3) := by decide +kernel
theorem d_GB_init_52 : decode b_GB_init 52 = .ok (.return_, 1) := by decide +kernel
theorem d_GB_lay_0 : decode b_GB_lay 0 = .ok (.iload_n 1, 1) := by decide +kernel
theorem d_GB_lay_1 : decode b_GB_lay 1 = .ok (.iconst 1, 1) := by decide +kernel
theorem d_GB_lay_2 : decode b_GB_lay 2 = .ok (.if_icmp .lt 8, 3) := by decide +kernel
theorem d_GB_lay_5 : decode b_GB_lay 5 = .ok (.iload_n 1, 1) := by decide +kernel
theorem d_GB_lay_6 : decode b_GB_lay 6 = .ok (.iconst 4, 1) := by decide +kernel
theorem d_GB_lay_7 : decode b_GB_lay 7 = .ok (.if_icmp .le 13, 3) := by decide +kernel
theorem d_GB_lay_10 : decode b_GB_lay 10 = .ok (.new 26, 3) := by decide +kernel
theorem d_GB_lay_13 : decode b_GB_lay 13 = .ok (.dup, 1) := by decide +kernel
theorem d_GB_lay_14 : decode b_GB_lay 14 = .ok (.ldc 28, 2) := by decide +kernel
theorem d_GB_lay_16 : decode b_GB_lay 16 = .ok (.invokespecial 30, 3) := by decide +kernel
theorem d_GB_lay_19 : decode b_GB_lay 19 = .ok (.athrow, 1) := by decide +kernel
theorem d_GB_lay_20 : decode b_GB_lay 20 = .ok (.iload_n 2, 1) := by decide +kernel
theorem d_GB_lay_21 : decode b_GB_lay 21 = .ok (.bipush 16, 2) := by decide +kernel
theorem d_GB_lay_23 : decode b_GB_lay 23 = .ok (.if_icmp .lt 10, 3) := by decide +kernel
theorem d_GB_lay_26 : decode b_GB_lay 26 = .ok (.iload_n 2, 1) := by decide +kernel
theorem d_GB_lay_27 : decode b_GB_lay 27 = .ok (.sipush 256, 3) := by decide +kernel
theorem d_GB_lay_30 : decode b_GB_lay 30 = .ok (.if_icmp .le 13, 3) := by decide +kernel
theorem d_GB_lay_33 : decode b_GB_lay 33 = .ok (.new 26, 3) := by decide +kernel
theorem d_GB_lay_36 : decode b_GB_lay 36 = .ok (.dup, 1) := by decide +kernel
theorem d_GB_lay_37 : decode b_GB_lay 37 = .ok (.ldc 33, 2) := by decide +kernel
theorem d_GB_lay_39 : decode b_GB_lay 39 = .ok (.invokespecial 30, 3) := by decide +kernel
theorem d_GB_lay_42 : decode b_GB_lay 42 = .ok (.athrow, 1) := by decide +kernel
theorem d_GB_lay_43 : decode b_GB_lay 43 = .ok (.aload_n 0, 1) := by decide +kernel
theorem d_GB_lay_44 : decode b_GB_lay 44 = .ok (.iload_n 1, 1) := by decide +kernel
theorem d_GB_lay_45 : decode b_GB_lay 45 = .ok (.iload_n 2, 1) := by decide +kernel
theorem d_GB_lay_46 : decode b_GB_lay 46 = .ok (.invokevirtual 22, 3) := by decide +kernel
theorem d_GB_lay_49 : decode b_GB_lay 49 = .ok (.aload_n 0, 1) := by decide +kernel
theorem d_GB_lay_50 : decode b_GB_lay 50 = .ok (.invokevirtual 35, 3) := by decide +kernel
theorem d_GB_lay_53 : decode b_GB_lay 53 = .ok (.ireturn, 1) := by decide +kernel
theorem d_GB_reserve_0 : decode b_GB_reserve 0 = .ok (.iload_n 1, 1) := by decide +kernel
theorem d_GB_reserve_1 : decode b_GB_reserve 1 = .ok (.ifCond .lt 9, 3) := by decide +kernel
theorem d_GB_reserve_4 : decode b_GB_reserve 4 = .ok (.iload_n 1, 1) := by decide +kernel
theorem d_GB_reserve_5 : decode b_GB_reserve 5 = .ok (.bipush 100, 2) := by decide +kernel
theorem d_GB_reserve_7 : decode b_GB_reserve 7 = .ok (.if_icmp .le 13, 3) := by decide +kernel
theorem d_GB_reserve_10 : decode b_GB_reserve 10 = .ok (.new 26, 3) := by decide +kernel
theorem d_GB_reserve_13 : decode b_GB_reserve 13 = .ok (.dup, 1) := by decide +kernel
theorem d_GB_reserve_14 : decode b_GB_reserve 14 = .ok (.ldc 39, 2) := by decide +kernel
theorem d_GB_reserve_16 : decode b_GB_reserve 16 = .ok (.invokespecial 30, 3) := by decide +kernel
theorem d_GB_reserve_19 : decode b_GB_reserve 19 = .ok (.athrow, 1) := by decide +kernel
theorem d_GB_reserve_20 : decode b_GB_reserve 20 = .ok (.aload_n 0, 1) := by decide +kernel
theorem d_GB_reserve_21 : decode b_GB_reserve 21 = .ok (.iload_n 1, 1) := by decide +kernel
theorem d_GB_reserve_22 : decode b_GB_reserve 22 = .ok (.putfield 41, 3) := by decide +kernel
theorem d_GB_reserve_25 : decode b_GB_reserve 25 = .ok (.aload_n 0, 1) := by decide +kernel
theorem d_GB_reserve_26 : decode b_GB_reserve 26 = .ok (.iconst 0, 1) := by decide +kernel
theorem d_GB_reserve_27 : decode b_GB_reserve 27 = .ok (.invokevirtual 44, 3) := by decide +kernel
theorem d_GB_reserve_30 : decode b_GB_reserve 30 = .ok (.ireturn, 1) := by decide +kernel
theorem d_GB_take_0 : decode b_GB_take 0 = .ok (.aload_n 0, 1) := by decide +kernel
theorem d_GB_take_1 : decode b_GB_take 1 = .ok (.iload_n 1, 1) := by decide +kernel
theorem d_GB_take_2 : decode b_GB_take 2 = .ok (.invokevirtual 48, 3) := by decide +kernel
theorem d_GB_take_5 : decode b_GB_take 5 = .ok (.ifCond .ne 13, 3) := by decide +kernel
theorem d_GB_take_8 : decode b_GB_take 8 = .ok (.new 26, 3) := by decide +kernel
theorem d_GB_take_11 : decode b_GB_take 11 = .ok (.dup, 1) := by decide +kernel
theorem d_GB_take_12 : decode b_GB_take 12 = .ok (.ldc 52, 2) := by decide +kernel
theorem d_GB_take_14 : decode b_GB_take 14 = .ok (.invokespecial 30, 3) := by decide +kernel
theorem d_GB_take_17 : decode b_GB_take 17 = .ok (.athrow, 1) := by decide +kernel
theorem d_GB_take_18 : decode b_GB_take 18 = .ok (.iload_n 2, 1) := by decide +kernel
theorem d_GB_take_19 : decode b_GB_take 19 = .ok (.iconst 1, 1) := by decide +kernel
theorem d_GB_take_20 : decode b_GB_take 20 = .ok (.if_icmp .lt 10, 3) := by decide +kernel
theorem d_GB_take_23 : decode b_GB_take 23 = .ok (.iload_n 2, 1) := by decide +kernel
theorem d_GB_take_24 : decode b_GB_take 24 = .ok (.sipush 256, 3) := by decide +kernel
theorem d_GB_take_27 : decode b_GB_take 27 = .ok (.if_icmp .le 13, 3) := by decide +kernel
theorem d_GB_take_30 : decode b_GB_take 30 = .ok (.new 26, 3) := by decide +kernel
theorem d_GB_take_33 : decode b_GB_take 33 = .ok (.dup, 1) := by decide +kernel
theorem d_GB_take_34 : decode b_GB_take 34 = .ok (.ldc 54, 2) := by decide +kernel
theorem d_GB_take_36 : decode b_GB_take 36 = .ok (.invokespecial 30, 3) := by decide +kernel
theorem d_GB_take_39 : decode b_GB_take 39 = .ok (.athrow, 1) := by decide +kernel
theorem d_GB_take_40 : decode b_GB_take 40 = .ok (.aload_n 0, 1) := by decide +kernel
theorem d_GB_take_41 : decode b_GB_take 41 = .ok (.iload_n 3, 1) := by decide +kernel
theorem d_GB_take_42 : decode b_GB_take 42 = .ok (.invokevirtual 44, 3) := by decide +kernel
theorem d_GB_take_45 : decode b_GB_take 45 = .ok (.istore 4, 2) := by decide +kernel
theorem d_GB_take_47 : decode b_GB_take 47 = .ok (.iload 4, 2) := by decide +kernel
theorem d_GB_take_49 : decode b_GB_take 49 = .ok (.iconst 1, 1) := by decide +kernel
theorem d_GB_take_50 : decode b_GB_take 50 = .ok (.if_icmp .ge 13, 3) := by decide +kernel
theorem d_GB_take_53 : decode b_GB_take 53 = .ok (.new 56, 3) := by decide +kernel
theorem d_GB_take_56 : decode b_GB_take 56 = .ok (.dup, 1) := by decide +kernel
theorem d_GB_take_57 : decode b_GB_take 57 = .ok (.ldc 58, 2) := by decide +kernel
theorem d_GB_take_59 : decode b_GB_take 59 = .ok (.invokespecial 60, 3) := by decide +kernel
theorem d_GB_take_62 : decode b_GB_take 62 = .ok (.athrow, 1) := by decide +kernel
theorem d_GB_take_63 : decode b_GB_take 63 = .ok (.aload_n 0, 1) := by decide +kernel
theorem d_GB_take_64 : decode b_GB_take 64 = .ok (.iload_n 1, 1) := by decide +kernel
theorem d_GB_take_65 : decode b_GB_take 65 = .ok (.iload_n 2, 1) := by decide +kernel
theorem d_GB_take_66 : decode b_GB_take 66 = .ok (.iload 4, 2) := by decide +kernel
theorem d_GB_take_68 : decode b_GB_take 68 = .ok (.invokestatic 61, 3) := by decide +kernel
theorem d_GB_take_71 : decode b_GB_take 71 = .ok (.invokevirtual 67, 3) := by decide +kernel
theorem d_GB_take_74 : decode b_GB_take 74 = .ok (.ireturn, 1) := by decide +kernel
theorem d_GB_taken_0 : decode b_GB_taken 0 = .ok (.aload_n 0, 1) := by decide +kernel
theorem d_GB_taken_1 : decode b_GB_taken 1 = .ok (.getfield 70, 3) := by decide +kernel
theorem d_GB_taken_4 : decode b_GB_taken 4 = .ok (.ireturn, 1) := by decide +kernel
theorem d_GB_give_0 : decode b_GB_give 0 = .ok (.iload_n 2, 1) := by decide +kernel
theorem d_GB_give_1 : decode b_GB_give 1 = .ok (.iconst 1, 1) := by decide +kernel
theorem d_GB_give_2 : decode b_GB_give 2 = .ok (.if_icmp .lt 10, 3) := by decide +kernel
theorem d_GB_give_5 : decode b_GB_give 5 = .ok (.iload_n 2, 1) := by decide +kernel
theorem d_GB_give_6 : decode b_GB_give 6 = .ok (.sipush 1024, 3) := by decide +kernel
theorem d_GB_give_9 : decode b_GB_give 9 = .ok (.if_icmp .le 13, 3) := by decide +kernel
theorem d_GB_give_12 : decode b_GB_give 12 = .ok (.new 26, 3) := by decide +kernel
theorem d_GB_give_15 : decode b_GB_give 15 = .ok (.dup, 1) := by decide +kernel
theorem d_GB_give_16 : decode b_GB_give 16 = .ok (.ldc 73, 2) := by decide +kernel
theorem d_GB_give_18 : decode b_GB_give 18 = .ok (.invokespecial 30, 3) := by decide +kernel
theorem d_GB_give_21 : decode b_GB_give 21 = .ok (.athrow, 1) := by decide +kernel
theorem d_GB_give_22 : decode b_GB_give 22 = .ok (.aload_n 0, 1) := by decide +kernel
theorem d_GB_give_23 : decode b_GB_give 23 = .ok (.iload_n 1, 1) := by decide +kernel
theorem d_GB_give_24 : decode b_GB_give 24 = .ok (.invokevirtual 48, 3) := by decide +kernel
theorem d_GB_give_27 : decode b_GB_give 27 = .ok (.ifCond .eq 13, 3) := by decide +kernel
theorem d_GB_give_30 : decode b_GB_give 30 = .ok (.iload_n 2, 1) := by decide +kernel
theorem d_GB_give_31 : decode b_GB_give 31 = .ok (.aload_n 0, 1) := by decide +kernel
theorem d_GB_give_32 : decode b_GB_give 32 = .ok (.invokevirtual 75, 3) := by decide +kernel
theorem d_GB_give_35 : decode b_GB_give 35 = .ok (.iload_n 1, 1) := by decide +kernel
theorem d_GB_give_36 : decode b_GB_give 36 = .ok (.isub, 1) := by decide +kernel
theorem d_GB_give_37 : decode b_GB_give 37 = .ok (.if_icmp .le 13, 3) := by decide +kernel
theorem d_GB_give_40 : decode b_GB_give 40 = .ok (.new 26, 3) := by decide +kernel
theorem d_GB_give_43 : decode b_GB_give 43 = .ok (.dup, 1) := by decide +kernel
theorem d_GB_give_44 : decode b_GB_give 44 = .ok (.ldc 78, 2) := by decide +kernel
theorem d_GB_give_46 : decode b_GB_give 46 = .ok (.invokespecial 30, 3) := by decide +kernel
theorem d_GB_give_49 : decode b_GB_give 49 = .ok (.athrow, 1) := by decide +kernel
theorem d_GB_give_50 : decode b_GB_give 50 = .ok (.aload_n 0, 1) := by decide +kernel
theorem d_GB_give_51 : decode b_GB_give 51 = .ok (.iload_n 1, 1) := by decide +kernel
theorem d_GB_give_52 : decode b_GB_give 52 = .ok (.iload_n 2, 1) := by decide +kernel
theorem d_GB_give_53 : decode b_GB_give 53 = .ok (.invokevirtual 80, 3) := by decide +kernel
theorem d_GB_give_56 : decode b_GB_give 56 = .ok (.ifCond .ne 13, 3) := by decide +kernel
theorem d_GB_give_59 : decode b_GB_give 59 = .ok (.new 56, 3) := by decide +kernel
theorem d_GB_give_62 : decode b_GB_give 62 = .ok (.dup, 1) := by decide +kernel
theorem d_GB_give_63 : decode b_GB_give 63 = .ok (.ldc 84, 2) := by decide +kernel
theorem d_GB_give_65 : decode b_GB_give 65 = .ok (.invokespecial 60, 3) := by decide +kernel
theorem d_GB_give_68 : decode b_GB_give 68 = .ok (.athrow, 1) := by decide +kernel
theorem d_GB_give_69 : decode b_GB_give 69 = .ok (.iload_n 1, 1) := by decide +kernel
theorem d_GB_give_70 : decode b_GB_give 70 = .ok (.istore_n 3, 1) := by decide +kernel
theorem d_GB_give_71 : decode b_GB_give 71 = .ok (.iload_n 3, 1) := by decide +kernel
theorem d_GB_give_72 : decode b_GB_give 72 = .ok (.iload_n 1, 1) := by decide +kernel
theorem d_GB_give_73 : decode b_GB_give 73 = .ok (.iload_n 2, 1) := by decide +kernel
theorem d_GB_give_74 : decode b_GB_give 74 = .ok (.iadd, 1) := by decide +kernel
theorem d_GB_give_75 : decode b_GB_give 75 = .ok (.if_icmp .ge 25, 3) := by decide +kernel
theorem d_GB_give_78 : decode b_GB_give 78 = .ok (.aload_n 0, 1) := by decide +kernel
theorem d_GB_give_79 : decode b_GB_give 79 = .ok (.iload_n 3, 1) := by decide +kernel
theorem d_GB_give_80 : decode b_GB_give 80 = .ok (.invokevirtual 86, 3) := by decide +kernel
theorem d_GB_give_83 : decode b_GB_give 83 = .ok (.getfield 90, 3) := by decide +kernel
theorem d_GB_give_86 : decode b_GB_give 86 = .ok (.iload_n 3, 1) := by decide +kernel
theorem d_GB_give_87 : decode b_GB_give 87 = .ok (.sipush 256, 3) := by decide +kernel
theorem d_GB_give_90 : decode b_GB_give 90 = .ok (.irem, 1) := by decide +kernel
theorem d_GB_give_91 : decode b_GB_give 91 = .ok (.invokevirtual 94, 3) := by decide +kernel
theorem d_GB_give_94 : decode b_GB_give 94 = .ok (.iinc 3 1, 3) := by decide +kernel
theorem d_GB_give_97 : decode b_GB_give 97 = .ok (.goto (-26), 3) := by decide +kernel
theorem d_GB_give_100 : decode b_GB_give 100 = .ok (.aload_n 0, 1) := by decide +kernel
theorem d_GB_give_101 : decode b_GB_give 101 = .ok (.iconst 1, 1) := by decide +kernel
theorem d_GB_give_102 : decode b_GB_give 102 = .ok (.putfield 99, 3) := by decide +kernel
theorem d_GB_give_105 : decode b_GB_give 105 = .ok (.aload_n 0, 1) := by decide +kernel
theorem d_GB_give_106 : decode b_GB_give 106 = .ok (.invokevirtual 35, 3) := by decide +kernel
theorem d_GB_give_109 : decode b_GB_give 109 = .ok (.ireturn, 1) := by decide +kernel
theorem d_GB_takeFile_0 : decode b_GB_takeFile 0 = .ok (.aload_n 0, 1) := by decide +kernel
theorem d_GB_takeFile_1 : decode b_GB_takeFile 1 = .ok (.iload_n 1, 1) := by decide +kernel
theorem d_GB_takeFile_2 : decode b_GB_takeFile 2 = .ok (.invokevirtual 103, 3) := by decide +kernel
theorem d_GB_takeFile_5 : decode b_GB_takeFile 5 = .ok (.ifCond .ne 13, 3) := by decide +kernel
theorem d_GB_takeFile_8 : decode b_GB_takeFile 8 = .ok (.new 26, 3) := by decide +kernel
theorem d_GB_takeFile_11 : decode b_GB_takeFile 11 = .ok (.dup, 1) := by decide +kernel
theorem d_GB_takeFile_12 : decode b_GB_takeFile 12 = .ok (.ldc 106, 2) := by decide +kernel
theorem d_GB_takeFile_14 : decode b_GB_takeFile 14 = .ok (.invokespecial 30, 3) := by decide +kernel
theorem d_GB_takeFile_17 : decode b_GB_takeFile 17 = .ok (.athrow, 1) := by decide +kernel
theorem d_GB_takeFile_18 : decode b_GB_takeFile 18 = .ok (.iload_n 2, 1) := by decide +kernel
theorem d_GB_takeFile_19 : decode b_GB_takeFile 19 = .ok (.ifCond .eq 11, 3) := by decide +kernel
theorem d_GB_takeFile_22 : decode b_GB_takeFile 22 = .ok (.aload_n 0, 1) := by decide +kernel
theorem d_GB_takeFile_23 : decode b_GB_takeFile 23 = .ok (.iload_n 1, 1) := by decide +kernel
theorem d_GB_takeFile_24 : decode b_GB_takeFile 24 = .ok (.invokevirtual 108, 3) := by decide +kernel
theorem d_GB_takeFile_27 : decode b_GB_takeFile 27 = .ok (.goto 8, 3) := by decide +kernel
theorem d_GB_takeFile_30 : decode b_GB_takeFile 30 = .ok (.aload_n 0, 1) := by decide +kernel
theorem d_GB_takeFile_31 : decode b_GB_takeFile 31 = .ok (.iload_n 1, 1) := by decide +kernel
theorem d_GB_takeFile_32 : decode b_GB_takeFile 32 = .ok (.invokevirtual 111, 3) := by decide +kernel
theorem d_GB_takeFile_35 : decode b_GB_takeFile 35 = .ok (.astore_n 3, 1) := by decide +kernel
theorem d_GB_takeFile_36 : decode b_GB_takeFile 36 = .ok (.aload_n 3, 1) := by decide +kernel
theorem d_GB_takeFile_37 : decode b_GB_takeFile 37 = .ok (.ifnonnull 13, 3) := by decide +kernel
theorem d_GB_takeFile_40 : decode b_GB_takeFile 40 = .ok (.new 56, 3) := by decide +kernel
theorem d_GB_takeFile_43 : decode b_GB_takeFile 43 = .ok (.dup, 1) := by decide +kernel
theorem d_GB_takeFile_44 : decode b_GB_takeFile 44 = .ok (.ldc 114, 2) := by decide +kernel
theorem d_GB_takeFile_46 : decode b_GB_takeFile 46 = .ok (.invokespecial 60, 3) := by decide +kernel
theorem d_GB_takeFile_49 : decode b_GB_takeFile 49 = .ok (.athrow, 1) := by decide +kernel
theorem d_GB_takeFile_50 : decode b_GB_takeFile 50 = .ok (.aload_n 0, 1) := by decide +kernel
theorem d_GB_takeFile_51 : decode b_GB_takeFile 51 = .ok (.iconst 1, 1) := by decide +kernel
theorem d_GB_takeFile_52 : decode b_GB_takeFile 52 = .ok (.putfield 99, 3) := by decide +kernel
theorem d_GB_takeFile_55 : decode b_GB_takeFile 55 = .ok (.aload_n 3, 1) := by decide +kernel
theorem d_GB_takeFile_56 : decode b_GB_takeFile 56 = .ok (.iload_n 2, 1) := by decide +kernel
theorem d_GB_takeFile_57 : decode b_GB_takeFile 57 = .ok (.invokevirtual 116, 3) := by decide +kernel
theorem d_GB_takeFile_60 : decode b_GB_takeFile 60 = .ok (.ireturn, 1) := by decide +kernel
theorem d_GB_giveFile_0 : decode b_GB_giveFile 0 = .ok (.aload_n 0, 1) := by decide +kernel
theorem d_GB_giveFile_1 : decode b_GB_giveFile 1 = .ok (.iload_n 1, 1) := by decide +kernel
theorem d_GB_giveFile_2 : decode b_GB_giveFile 2 = .ok (.invokevirtual 103, 3) := by decide +kernel
theorem d_GB_giveFile_5 : decode b_GB_giveFile 5 = .ok (.ifCond .eq 9, 3) := by decide +kernel
theorem d_GB_giveFile_8 : decode b_GB_giveFile 8 = .ok (.iload_n 1, 1) := by decide +kernel
theorem d_GB_giveFile_9 : decode b_GB_giveFile 9 = .ok (.bipush 10, 2) := by decide +kernel
theorem d_GB_giveFile_11 : decode b_GB_giveFile 11 = .ok (.if_icmp .gt 13, 3) := by decide +kernel
theorem d_GB_giveFile_14 : decode b_GB_giveFile 14 = .ok (.new 26, 3) := by decide +kernel
theorem d_GB_giveFile_17 : decode b_GB_giveFile 17 = .ok (.dup, 1) := by decide +kernel
theorem d_GB_giveFile_18 : decode b_GB_giveFile 18 = .ok (.ldc 119, 2) := by decide +kernel
theorem d_GB_giveFile_20 : decode b_GB_giveFile 20 = .ok (.invokespecial 30, 3) := by decide +kernel
theorem d_GB_giveFile_23 : decode b_GB_giveFile 23 = .ok (.athrow, 1) := by decide +kernel
theorem d_GB_giveFile_24 : decode b_GB_giveFile 24 = .ok (.aload_n 0, 1) := by decide +kernel
theorem d_GB_giveFile_25 : decode b_GB_giveFile 25 = .ok (.iload_n 1, 1) := by decide +kernel
theorem d_GB_giveFile_26 : decode b_GB_giveFile 26 = .ok (.invokevirtual 121, 3) := by decide +kernel
theorem d_GB_giveFile_29 : decode b_GB_giveFile 29 = .ok (.astore_n 3, 1) := by decide +kernel
theorem d_GB_giveFile_30 : decode b_GB_giveFile 30 = .ok (.iload_n 1, 1) := by decide +kernel
theorem d_GB_giveFile_31 : decode b_GB_giveFile 31 = .ok (.iconst 1, 1) := by decide +kernel
theorem d_GB_giveFile_32 : decode b_GB_giveFile 32 = .ok (.isub, 1) := by decide +kernel
theorem d_GB_giveFile_33 : decode b_GB_giveFile 33 = .ok (.sipush 128, 3) := by decide +kernel
theorem d_GB_giveFile_36 : decode b_GB_giveFile 36 = .ok (.irem, 1) := by decide +kernel
theorem d_GB_giveFile_37 : decode b_GB_giveFile 37 = .ok (.istore 4, 2) := by decide +kernel
theorem d_GB_giveFile_39 : decode b_GB_giveFile 39 = .ok (.aload_n 3, 1) := by decide +kernel
theorem d_GB_giveFile_40 : decode b_GB_giveFile 40 = .ok (.getfield 124, 3) := by decide +kernel
theorem d_GB_giveFile_43 : decode b_GB_giveFile 43 = .ok (.iload 4, 2) := by decide +kernel
theorem d_GB_giveFile_45 : decode b_GB_giveFile 45 = .ok (.invokevirtual 127, 3) := by decide +kernel
theorem d_GB_giveFile_48 : decode b_GB_giveFile 48 = .ok (.ifCond .ne 13, 3) := by decide +kernel
theorem d_GB_giveFile_51 : decode b_GB_giveFile 51 = .ok (.new 56, 3) := by decide +kernel
theorem d_GB_giveFile_54 : decode b_GB_giveFile 54 = .ok (.dup, 1) := by decide +kernel
theorem d_GB_giveFile_55 : decode b_GB_giveFile 55 = .ok (.ldc 130, 2) := by decide +kernel
theorem d_GB_giveFile_57 : decode b_GB_giveFile 57 = .ok (.invokespecial 60, 3) := by decide +kernel
theorem d_GB_giveFile_60 : decode b_GB_giveFile 60 = .ok (.athrow, 1) := by decide +kernel
theorem d_GB_giveFile_61 : decode b_GB_giveFile 61 = .ok (.iload_n 2, 1) := by decide +kernel
theorem d_GB_giveFile_62 : decode b_GB_giveFile 62 = .ok (.ifCond .eq 21, 3) := by decide +kernel
theorem d_GB_giveFile_65 : decode b_GB_giveFile 65 = .ok (.aload_n 3, 1) := by decide +kernel
theorem d_GB_giveFile_66 : decode b_GB_giveFile 66 = .ok (.getfield 132, 3) := by decide +kernel
theorem d_GB_giveFile_69 : decode b_GB_giveFile 69 = .ok (.iconst 1, 1) := by decide +kernel
theorem d_GB_giveFile_70 : decode b_GB_giveFile 70 = .ok (.if_icmp .ge 13, 3) := by decide +kernel
theorem d_GB_giveFile_73 : decode b_GB_giveFile 73 = .ok (.new 56, 3) := by decide +kernel
theorem d_GB_giveFile_76 : decode b_GB_giveFile 76 = .ok (.dup, 1) := by decide +kernel
theorem d_GB_giveFile_77 : decode b_GB_giveFile 77 = .ok (.ldc 135, 2) := by decide +kernel
theorem d_GB_giveFile_79 : decode b_GB_giveFile 79 = .ok (.invokespecial 60, 3) := by decide +kernel
theorem d_GB_giveFile_82 : decode b_GB_giveFile 82 = .ok (.athrow, 1) := by decide +kernel
theorem d_GB_giveFile_83 : decode b_GB_giveFile 83 = .ok (.aload_n 3, 1) := by decide +kernel
theorem d_GB_giveFile_84 : decode b_GB_giveFile 84 = .ok (.iload 4, 2) := by decide +kernel
theorem d_GB_giveFile_86 : decode b_GB_giveFile 86 = .ok (.iload_n 2, 1) := by decide +kernel
theorem d_GB_giveFile_87 : decode b_GB_giveFile 87 = .ok (.invokevirtual 137, 3) := by decide +kernel
theorem d_GB_giveFile_90 : decode b_GB_giveFile 90 = .ok (.aload_n 0, 1) := by decide +kernel
theorem d_GB_giveFile_91 : decode b_GB_giveFile 91 = .ok (.iconst 1, 1) := by decide +kernel
theorem d_GB_giveFile_92 : decode b_GB_giveFile 92 = .ok (.putfield 99, 3) := by decide +kernel
theorem d_GB_giveFile_95 : decode b_GB_giveFile 95 = .ok (.aload_n 0, 1) := by decide +kernel
theorem d_GB_giveFile_96 : decode b_GB_giveFile 96 = .ok (.invokevirtual 141, 3) := by decide +kernel
theorem d_GB_giveFile_99 : decode b_GB_giveFile 99 = .ok (.ireturn, 1) := by decide +kernel
theorem d_GB_isTaken_0 : decode b_GB_isTaken 0 = .ok (.iload_n 1, 1) := by decide +kernel
theorem d_GB_isTaken_1 : decode b_GB_isTaken 1 = .ok (.ifCond .ne 28, 3) := by decide +kernel
theorem d_GB_isTaken_4 : decode b_GB_isTaken 4 = .ok (.aload_n 0, 1) := by decide +kernel
theorem d_GB_isTaken_5 : decode b_GB_isTaken 5 = .ok (.iload_n 2, 1) := by decide +kernel
theorem d_GB_isTaken_6 : decode b_GB_isTaken 6 = .ok (.invokevirtual 48, 3) := by decide +kernel
theorem d_GB_isTaken_9 : decode b_GB_isTaken 9 = .ok (.ifCond .eq 20, 3) := by decide +kernel
theorem d_GB_isTaken_12 : decode b_GB_isTaken 12 = .ok (.aload_n 0, 1) := by decide +kernel
theorem d_GB_isTaken_13 : decode b_GB_isTaken 13 = .ok (.iload_n 2, 1) := by decide +kernel
theorem d_GB_isTaken_14 : decode b_GB_isTaken 14 = .ok (.invokevirtual 86, 3) := by decide +kernel
theorem d_GB_isTaken_17 : decode b_GB_isTaken 17 = .ok (.getfield 90, 3) := by decide +kernel
theorem d_GB_isTaken_20 : decode b_GB_isTaken 20 = .ok (.iload_n 2, 1) := by decide +kernel
theorem d_GB_isTaken_21 : decode b_GB_isTaken 21 = .ok (.sipush 256, 3) := by decide +kernel
theorem d_GB_isTaken_24 : decode b_GB_isTaken 24 = .ok (.irem, 1) := by decide +kernel
theorem d_GB_isTaken_25 : decode b_GB_isTaken 25 = .ok (.invokevirtual 127, 3) := by decide +kernel
theorem d_GB_isTaken_28 : decode b_GB_isTaken 28 = .ok (.ireturn, 1) := by decide +kernel
theorem d_GB_isTaken_29 : decode b_GB_isTaken 29 = .ok (.iload_n 1, 1) := by decide +kernel
theorem d_GB_isTaken_30 : decode b_GB_isTaken 30 = .ok (.iconst 1, 1) := by decide +kernel
theorem d_GB_isTaken_31 : decode b_GB_isTaken 31 = .ok (.if_icmp .ne 30, 3) := by decide +kernel
theorem d_GB_isTaken_34 : decode b_GB_isTaken 34 = .ok (.aload_n 0, 1) := by decide +kernel
theorem d_GB_isTaken_35 : decode b_GB_isTaken 35 = .ok (.iload_n 2, 1) := by decide +kernel
theorem d_GB_isTaken_36 : decode b_GB_isTaken 36 = .ok (.invokevirtual 103, 3) := by decide +kernel
theorem d_GB_isTaken_39 : decode b_GB_isTaken 39 = .ok (.ifCond .eq 22, 3) := by decide +kernel
theorem d_GB_isTaken_42 : decode b_GB_isTaken 42 = .ok (.aload_n 0, 1) := by decide +kernel
theorem d_GB_isTaken_43 : decode b_GB_isTaken 43 = .ok (.iload_n 2, 1) := by decide +kernel
theorem d_GB_isTaken_44 : decode b_GB_isTaken 44 = .ok (.invokevirtual 121, 3) := by decide +kernel
theorem d_GB_isTaken_47 : decode b_GB_isTaken 47 = .ok (.getfield 124, 3) := by decide +kernel
theorem d_GB_isTaken_50 : decode b_GB_isTaken 50 = .ok (.iload_n 2, 1) := by decide +kernel
theorem d_GB_isTaken_51 : decode b_GB_isTaken 51 = .ok (.iconst 1, 1) := by decide +kernel
theorem d_GB_isTaken_52 : decode b_GB_isTaken 52 = .ok (.isub, 1) := by decide +kernel
theorem d_GB_isTaken_53 : decode b_GB_isTaken 53 = .ok (.sipush 128, 3) := by decide +kernel
theorem d_GB_isTaken_56 : decode b_GB_isTaken 56 = .ok (.irem, 1) := by decide +kernel
theorem d_GB_isTaken_57 : decode b_GB_isTaken 57 = .ok (.invokevirtual 127, 3) := by decide +kernel
theorem d_GB_isTaken_60 : decode b_GB_isTaken 60 = .ok (.ireturn, 1) := by decide +kernel
theorem d_GB_isTaken_61 : decode b_GB_isTaken 61 = .ok (.new 26, 3) := by decide +kernel
theorem d_GB_isTaken_64 : decode b_GB_isTaken 64 = .ok (.dup, 1) := by decide +kernel
theorem d_GB_isTaken_65 : decode b_GB_isTaken 65 = .ok (.ldc 144, 2) := by decide +kernel
theorem d_GB_isTaken_67 : decode b_GB_isTaken 67 = .ok (.invokespecial 30, 3) := by decide +kernel
theorem d_GB_isTaken_70 : decode b_GB_isTaken 70 = .ok (.athrow, 1) := by decide +kernel
theorem d_GB_group_0 : decode b_GB_group 0 = .ok (.iload_n 1, 1) := by decide +kernel
theorem d_GB_group_1 : decode b_GB_group 1 = .ok (.ifCond .lt 11, 3) := by decide +kernel
theorem d_GB_group_4 : decode b_GB_group 4 = .ok (.iload_n 1, 1) := by decide +kernel
theorem d_GB_group_5 : decode b_GB_group 5 = .ok (.aload_n 0, 1) := by decide +kernel
theorem d_GB_group_6 : decode b_GB_group 6 = .ok (.getfield 15, 3) := by decide +kernel
theorem d_GB_group_9 : decode b_GB_group 9 = .ok (.if_icmp .lt 13, 3) := by decide +kernel
theorem d_GB_group_12 : decode b_GB_group 12 = .ok (.new 26, 3) := by decide +kernel
theorem d_GB_group_15 : decode b_GB_group 15 = .ok (.dup, 1) := by decide +kernel
theorem d_GB_group_16 : decode b_GB_group 16 = .ok (.ldc 146, 2) := by decide +kernel
theorem d_GB_group_18 : decode b_GB_group 18 = .ok (.invokespecial 30, 3) := by decide +kernel
theorem d_GB_group_21 : decode b_GB_group 21 = .ok (.athrow, 1) := by decide +kernel
theorem d_GB_group_22 : decode b_GB_group 22 = .ok (.aload_n 0, 1) := by decide +kernel
theorem d_GB_group_23 : decode b_GB_group 23 = .ok (.getfield 11, 3) := by decide +kernel
theorem d_GB_group_26 : decode b_GB_group 26 = .ok (.iload_n 1, 1) := by decide +kernel
theorem d_GB_group_27 : decode b_GB_group 27 = .ok (.aaload, 1) := by decide +kernel
theorem d_GB_group_28 : decode b_GB_group 28 = .ok (.astore_n 3, 1) := by decide +kernel
theorem d_GB_group_29 : decode b_GB_group 29 = .ok (.iload_n 2, 1) := by decide +kernel
theorem d_GB_group_30 : decode b_GB_group 30 = .ok (.tableswitch 80 0 5 #[38, 43, 51, 59, 67, 72], 38) := by decide +kernel
theorem d_GB_group_68 : decode b_GB_group 68 = .ok (.aload_n 3, 1) := by decide +kernel
theorem d_GB_group_69 : decode b_GB_group 69 = .ok (.getfield 148, 3) := by decide +kernel
theorem d_GB_group_72 : decode b_GB_group 72 = .ok (.ireturn, 1) := by decide +kernel
theorem d_GB_group_73 : decode b_GB_group 73 = .ok (.aload_n 3, 1) := by decide +kernel
theorem d_GB_group_74 : decode b_GB_group 74 = .ok (.getfield 90, 3) := by decide +kernel
theorem d_GB_group_77 : decode b_GB_group 77 = .ok (.getfield 151, 3) := by decide +kernel
theorem d_GB_group_80 : decode b_GB_group 80 = .ok (.ireturn, 1) := by decide +kernel
theorem d_GB_group_81 : decode b_GB_group 81 = .ok (.aload_n 3, 1) := by decide +kernel
theorem d_GB_group_82 : decode b_GB_group 82 = .ok (.getfield 90, 3) := by decide +kernel
theorem d_GB_group_85 : decode b_GB_group 85 = .ok (.getfield 154, 3) := by decide +kernel
theorem d_GB_group_88 : decode b_GB_group 88 = .ok (.ireturn, 1) := by decide +kernel
theorem d_GB_group_89 : decode b_GB_group 89 = .ok (.aload_n 3, 1) := by decide +kernel
theorem d_GB_group_90 : decode b_GB_group 90 = .ok (.getfield 124, 3) := by decide +kernel
theorem d_GB_group_93 : decode b_GB_group 93 = .ok (.getfield 154, 3) := by decide +kernel
theorem d_GB_group_96 : decode b_GB_group 96 = .ok (.ireturn, 1) := by decide +kernel
theorem d_GB_group_97 : decode b_GB_group 97 = .ok (.aload_n 3, 1) := by decide +kernel
theorem d_GB_group_98 : decode b_GB_group 98 = .ok (.getfield 132, 3) := by decide +kernel
theorem d_GB_group_101 : decode b_GB_group 101 = .ok (.ireturn, 1) := by decide +kernel
theorem d_GB_group_102 : decode b_GB_group 102 = .ok (.aload_n 3, 1) := by decide +kernel
theorem d_GB_group_103 : decode b_GB_group 103 = .ok (.getfield 90, 3) := by decide +kernel
theorem d_GB_group_106 : decode b_GB_group 106 = .ok (.invokevirtual 157, 3) := by decide +kernel
theorem d_GB_group_109 : decode b_GB_group 109 = .ok (.ireturn, 1) := by decide +kernel
theorem d_GB_group_110 : decode b_GB_group 110 = .ok (.new 26, 3) := by decide +kernel
theorem d_GB_group_113 : decode b_GB_group 113 = .ok (.dup, 1) := by decide +kernel
theorem d_GB_group_114 : decode b_GB_group 114 = .ok (.ldc 160, 2) := by decide +kernel
theorem d_GB_group_116 : decode b_GB_group 116 = .ok (.invokespecial 30, 3) := by decide +kernel
theorem d_GB_group_119 : decode b_GB_group 119 = .ok (.athrow, 1) := by decide +kernel
theorem d_GB_byteOf_0 : decode b_GB_byteOf 0 = .ok (.iload_n 1, 1) := by decide +kernel
theorem d_GB_byteOf_1 : decode b_GB_byteOf 1 = .ok (.ifCond .lt 21, 3) := by decide +kernel
theorem d_GB_byteOf_4 : decode b_GB_byteOf 4 = .ok (.iload_n 1, 1) := by decide +kernel
theorem d_GB_byteOf_5 : decode b_GB_byteOf 5 = .ok (.sipush 1024, 3) := by decide +kernel
theorem d_GB_byteOf_8 : decode b_GB_byteOf 8 = .ok (.if_icmp .ge 14, 3) := by decide +kernel
theorem d_GB_byteOf_11 : decode b_GB_byteOf 11 = .ok (.iload_n 2, 1) := by decide +kernel
theorem d_GB_byteOf_12 : decode b_GB_byteOf 12 = .ok (.ifCond .lt 10, 3) := by decide +kernel
theorem d_GB_byteOf_15 : decode b_GB_byteOf 15 = .ok (.iload_n 2, 1) := by decide +kernel
theorem d_GB_byteOf_16 : decode b_GB_byteOf 16 = .ok (.sipush 4096, 3) := by decide +kernel
theorem d_GB_byteOf_19 : decode b_GB_byteOf 19 = .ok (.if_icmp .lt 13, 3) := by decide +kernel
theorem d_GB_byteOf_22 : decode b_GB_byteOf 22 = .ok (.new 162, 3) := by decide +kernel
theorem d_GB_byteOf_25 : decode b_GB_byteOf 25 = .ok (.dup, 1) := by decide +kernel
theorem d_GB_byteOf_26 : decode b_GB_byteOf 26 = .ok (.ldc 164, 2) := by decide +kernel
theorem d_GB_byteOf_28 : decode b_GB_byteOf 28 = .ok (.invokespecial 166, 3) := by decide +kernel
theorem d_GB_byteOf_31 : decode b_GB_byteOf 31 = .ok (.athrow, 1) := by decide +kernel
theorem d_GB_byteOf_32 : decode b_GB_byteOf 32 = .ok (.iload_n 1, 1) := by decide +kernel
theorem d_GB_byteOf_33 : decode b_GB_byteOf 33 = .ok (.iconst 1, 1) := by decide +kernel
theorem d_GB_byteOf_34 : decode b_GB_byteOf 34 = .ok (.if_icmp .ne 9, 3) := by decide +kernel
theorem d_GB_byteOf_37 : decode b_GB_byteOf 37 = .ok (.aload_n 0, 1) := by decide +kernel
theorem d_GB_byteOf_38 : decode b_GB_byteOf 38 = .ok (.iload_n 2, 1) := by decide +kernel
theorem d_GB_byteOf_39 : decode b_GB_byteOf 39 = .ok (.invokevirtual 167, 3) := by decide +kernel
theorem d_GB_byteOf_42 : decode b_GB_byteOf 42 = .ok (.ireturn, 1) := by decide +kernel
theorem d_GB_byteOf_43 : decode b_GB_byteOf 43 = .ok (.aload_n 0, 1) := by decide +kernel
theorem d_GB_byteOf_44 : decode b_GB_byteOf 44 = .ok (.iload_n 1, 1) := by decide +kernel
theorem d_GB_byteOf_45 : decode b_GB_byteOf 45 = .ok (.invokevirtual 86, 3) := by decide +kernel
theorem d_GB_byteOf_48 : decode b_GB_byteOf 48 = .ok (.iload_n 1, 1) := by decide +kernel
theorem d_GB_byteOf_49 : decode b_GB_byteOf 49 = .ok (.invokevirtual 171, 3) := by decide +kernel
theorem d_GB_byteOf_52 : decode b_GB_byteOf 52 = .ok (.astore_n 3, 1) := by decide +kernel
theorem d_GB_byteOf_53 : decode b_GB_byteOf 53 = .ok (.aload_n 3, 1) := by decide +kernel
theorem d_GB_byteOf_54 : decode b_GB_byteOf 54 = .ok (.ifnonnull 7, 3) := by decide +kernel
theorem d_GB_byteOf_57 : decode b_GB_byteOf 57 = .ok (.iconst 0, 1) := by decide +kernel
theorem d_GB_byteOf_58 : decode b_GB_byteOf 58 = .ok (.goto 8, 3) := by decide +kernel
theorem d_GB_byteOf_61 : decode b_GB_byteOf 61 = .ok (.aload_n 3, 1) := by decide +kernel
theorem d_GB_byteOf_62 : decode b_GB_byteOf 62 = .ok (.iload_n 2, 1) := by decide +kernel
theorem d_GB_byteOf_63 : decode b_GB_byteOf 63 = .ok (.invokevirtual 175, 3) := by decide +kernel
theorem d_GB_byteOf_66 : decode b_GB_byteOf 66 = .ok (.ireturn, 1) := by decide +kernel
theorem d_GB_isTold_0 : decode b_GB_isTold 0 = .ok (.iload_n 1, 1) := by decide +kernel
theorem d_GB_isTold_1 : decode b_GB_isTold 1 = .ok (.ifCond .lt 10, 3) := by decide +kernel
theorem d_GB_isTold_4 : decode b_GB_isTold 4 = .ok (.iload_n 1, 1) := by decide +kernel
theorem d_GB_isTold_5 : decode b_GB_isTold 5 = .ok (.sipush 1024, 3) := by decide +kernel
theorem d_GB_isTold_8 : decode b_GB_isTold 8 = .ok (.if_icmp .lt 13, 3) := by decide +kernel
theorem d_GB_isTold_11 : decode b_GB_isTold 11 = .ok (.new 162, 3) := by decide +kernel
theorem d_GB_isTold_14 : decode b_GB_isTold 14 = .ok (.dup, 1) := by decide +kernel
theorem d_GB_isTold_15 : decode b_GB_isTold 15 = .ok (.ldc 178, 2) := by decide +kernel
theorem d_GB_isTold_17 : decode b_GB_isTold 17 = .ok (.invokespecial 166, 3) := by decide +kernel
theorem d_GB_isTold_20 : decode b_GB_isTold 20 = .ok (.athrow, 1) := by decide +kernel
theorem d_GB_isTold_21 : decode b_GB_isTold 21 = .ok (.iload_n 1, 1) := by decide +kernel
theorem d_GB_isTold_22 : decode b_GB_isTold 22 = .ok (.iconst 1, 1) := by decide +kernel
theorem d_GB_isTold_23 : decode b_GB_isTold 23 = .ok (.if_icmp .ne 8, 3) := by decide +kernel
theorem d_GB_isTold_26 : decode b_GB_isTold 26 = .ok (.aload_n 0, 1) := by decide +kernel
theorem d_GB_isTold_27 : decode b_GB_isTold 27 = .ok (.getfield 99, 3) := by decide +kernel
theorem d_GB_isTold_30 : decode b_GB_isTold 30 = .ok (.ireturn, 1) := by decide +kernel
theorem d_GB_isTold_31 : decode b_GB_isTold 31 = .ok (.aload_n 0, 1) := by decide +kernel
theorem d_GB_isTold_32 : decode b_GB_isTold 32 = .ok (.iload_n 1, 1) := by decide +kernel
theorem d_GB_isTold_33 : decode b_GB_isTold 33 = .ok (.invokevirtual 86, 3) := by decide +kernel
theorem d_GB_isTold_36 : decode b_GB_isTold 36 = .ok (.iload_n 1, 1) := by decide +kernel
theorem d_GB_isTold_37 : decode b_GB_isTold 37 = .ok (.invokevirtual 171, 3) := by decide +kernel
theorem d_GB_isTold_40 : decode b_GB_isTold 40 = .ok (.astore_n 2, 1) := by decide +kernel
theorem d_GB_isTold_41 : decode b_GB_isTold 41 = .ok (.aload_n 2, 1) := by decide +kernel
theorem d_GB_isTold_42 : decode b_GB_isTold 42 = .ok (.ifnull 14, 3) := by decide +kernel
theorem d_GB_isTold_45 : decode b_GB_isTold 45 = .ok (.aload_n 2, 1) := by decide +kernel
theorem d_GB_isTold_46 : decode b_GB_isTold 46 = .ok (.getfield 180, 3) := by decide +kernel
theorem d_GB_isTold_49 : decode b_GB_isTold 49 = .ok (.ifCond .eq 7, 3) := by decide +kernel
theorem d_GB_isTold_52 : decode b_GB_isTold 52 = .ok (.iconst 1, 1) := by decide +kernel
theorem d_GB_isTold_53 : decode b_GB_isTold 53 = .ok (.goto 4, 3) := by decide +kernel
theorem d_GB_isTold_56 : decode b_GB_isTold 56 = .ok (.iconst 0, 1) := by decide +kernel
theorem d_GB_isTold_57 : decode b_GB_isTold 57 = .ok (.ireturn, 1) := by decide +kernel
theorem d_GB_settle_0 : decode b_GB_settle 0 = .ok (.aload_n 0, 1) := by decide +kernel
theorem d_GB_settle_1 : decode b_GB_settle 1 = .ok (.getfield 99, 3) := by decide +kernel
theorem d_GB_settle_4 : decode b_GB_settle 4 = .ok (.ifCond .eq 7, 3) := by decide +kernel
theorem d_GB_settle_7 : decode b_GB_settle 7 = .ok (.iconst 1, 1) := by decide +kernel
theorem d_GB_settle_8 : decode b_GB_settle 8 = .ok (.goto 4, 3) := by decide +kernel
theorem d_GB_settle_11 : decode b_GB_settle 11 = .ok (.iconst 0, 1) := by decide +kernel
theorem d_GB_settle_12 : decode b_GB_settle 12 = .ok (.istore_n 1, 1) := by decide +kernel
theorem d_GB_settle_13 : decode b_GB_settle 13 = .ok (.aload_n 0, 1) := by decide +kernel
theorem d_GB_settle_14 : decode b_GB_settle 14 = .ok (.iconst 0, 1) := by decide +kernel
theorem d_GB_settle_15 : decode b_GB_settle 15 = .ok (.putfield 99, 3) := by decide +kernel
theorem d_GB_settle_18 : decode b_GB_settle 18 = .ok (.iconst 0, 1) := by decide +kernel
theorem d_GB_settle_19 : decode b_GB_settle 19 = .ok (.istore_n 2, 1) := by decide +kernel
theorem d_GB_settle_20 : decode b_GB_settle 20 = .ok (.iload_n 2, 1) := by decide +kernel
theorem d_GB_settle_21 : decode b_GB_settle 21 = .ok (.iconst 4, 1) := by decide +kernel
theorem d_GB_settle_22 : decode b_GB_settle 22 = .ok (.if_icmp .ge 39, 3) := by decide +kernel
theorem d_GB_settle_25 : decode b_GB_settle 25 = .ok (.iload_n 1, 1) := by decide +kernel
theorem d_GB_settle_26 : decode b_GB_settle 26 = .ok (.aload_n 0, 1) := by decide +kernel
theorem d_GB_settle_27 : decode b_GB_settle 27 = .ok (.getfield 11, 3) := by decide +kernel
theorem d_GB_settle_30 : decode b_GB_settle 30 = .ok (.iload_n 2, 1) := by decide +kernel
theorem d_GB_settle_31 : decode b_GB_settle 31 = .ok (.aaload, 1) := by decide +kernel
theorem d_GB_settle_32 : decode b_GB_settle 32 = .ok (.getfield 90, 3) := by decide +kernel
theorem d_GB_settle_35 : decode b_GB_settle 35 = .ok (.invokevirtual 183, 3) := by decide +kernel
theorem d_GB_settle_38 : decode b_GB_settle 38 = .ok (.iadd, 1) := by decide +kernel
theorem d_GB_settle_39 : decode b_GB_settle 39 = .ok (.istore_n 1, 1) := by decide +kernel
theorem d_GB_settle_40 : decode b_GB_settle 40 = .ok (.iload_n 1, 1) := by decide +kernel
theorem d_GB_settle_41 : decode b_GB_settle 41 = .ok (.aload_n 0, 1) := by decide +kernel
theorem d_GB_settle_42 : decode b_GB_settle 42 = .ok (.getfield 11, 3) := by decide +kernel
theorem d_GB_settle_45 : decode b_GB_settle 45 = .ok (.iload_n 2, 1) := by decide +kernel
theorem d_GB_settle_46 : decode b_GB_settle 46 = .ok (.aaload, 1) := by decide +kernel
theorem d_GB_settle_47 : decode b_GB_settle 47 = .ok (.getfield 124, 3) := by decide +kernel
theorem d_GB_settle_50 : decode b_GB_settle 50 = .ok (.invokevirtual 183, 3) := by decide +kernel
theorem d_GB_settle_53 : decode b_GB_settle 53 = .ok (.iadd, 1) := by decide +kernel
theorem d_GB_settle_54 : decode b_GB_settle 54 = .ok (.istore_n 1, 1) := by decide +kernel
theorem d_GB_settle_55 : decode b_GB_settle 55 = .ok (.iinc 2 1, 3) := by decide +kernel
theorem d_GB_settle_58 : decode b_GB_settle 58 = .ok (.goto (-38), 3) := by decide +kernel
theorem d_GB_settle_61 : decode b_GB_settle 61 = .ok (.iload_n 1, 1) := by decide +kernel
theorem d_GB_settle_62 : decode b_GB_settle 62 = .ok (.ireturn, 1) := by decide +kernel
theorem d_GB_layOut_0 : decode b_GB_layOut 0 = .ok (.aload_n 0, 1) := by decide +kernel
theorem d_GB_layOut_1 : decode b_GB_layOut 1 = .ok (.iload_n 1, 1) := by decide +kernel
theorem d_GB_layOut_2 : decode b_GB_layOut 2 = .ok (.putfield 15, 3) := by decide +kernel
theorem d_GB_layOut_5 : decode b_GB_layOut 5 = .ok (.iconst 0, 1) := by decide +kernel
theorem d_GB_layOut_6 : decode b_GB_layOut 6 = .ok (.istore_n 3, 1) := by decide +kernel
theorem d_GB_layOut_7 : decode b_GB_layOut 7 = .ok (.iload_n 3, 1) := by decide +kernel
theorem d_GB_layOut_8 : decode b_GB_layOut 8 = .ok (.aload_n 0, 1) := by decide +kernel
theorem d_GB_layOut_9 : decode b_GB_layOut 9 = .ok (.getfield 15, 3) := by decide +kernel
theorem d_GB_layOut_12 : decode b_GB_layOut 12 = .ok (.if_icmp .ge 35, 3) := by decide +kernel
theorem d_GB_layOut_15 : decode b_GB_layOut 15 = .ok (.aload_n 0, 1) := by decide +kernel
theorem d_GB_layOut_16 : decode b_GB_layOut 16 = .ok (.getfield 11, 3) := by decide +kernel
theorem d_GB_layOut_19 : decode b_GB_layOut 19 = .ok (.iload_n 3, 1) := by decide +kernel
theorem d_GB_layOut_20 : decode b_GB_layOut 20 = .ok (.aaload, 1) := by decide +kernel
theorem d_GB_layOut_21 : decode b_GB_layOut 21 = .ok (.iload_n 3, 1) := by decide +kernel
theorem d_GB_layOut_22 : decode b_GB_layOut 22 = .ok (.aload_n 0, 1) := by decide +kernel
theorem d_GB_layOut_23 : decode b_GB_layOut 23 = .ok (.getfield 15, 3) := by decide +kernel
theorem d_GB_layOut_26 : decode b_GB_layOut 26 = .ok (.iconst 1, 1) := by decide +kernel
theorem d_GB_layOut_27 : decode b_GB_layOut 27 = .ok (.isub, 1) := by decide +kernel
theorem d_GB_layOut_28 : decode b_GB_layOut 28 = .ok (.if_icmp .ne 7, 3) := by decide +kernel
theorem d_GB_layOut_31 : decode b_GB_layOut 31 = .ok (.iload_n 2, 1) := by decide +kernel
theorem d_GB_layOut_32 : decode b_GB_layOut 32 = .ok (.goto 6, 3) := by decide +kernel
theorem d_GB_layOut_35 : decode b_GB_layOut 35 = .ok (.sipush 256, 3) := by decide +kernel
theorem d_GB_layOut_38 : decode b_GB_layOut 38 = .ok (.invokevirtual 186, 3) := by decide +kernel
theorem d_GB_layOut_41 : decode b_GB_layOut 41 = .ok (.iinc 3 1, 3) := by decide +kernel
theorem d_GB_layOut_44 : decode b_GB_layOut 44 = .ok (.goto (-37), 3) := by decide +kernel
theorem d_GB_layOut_47 : decode b_GB_layOut 47 = .ok (.aload_n 0, 1) := by decide +kernel
theorem d_GB_layOut_48 : decode b_GB_layOut 48 = .ok (.iconst 0, 1) := by decide +kernel
theorem d_GB_layOut_49 : decode b_GB_layOut 49 = .ok (.putfield 41, 3) := by decide +kernel
theorem d_GB_layOut_52 : decode b_GB_layOut 52 = .ok (.aload_n 0, 1) := by decide +kernel
theorem d_GB_layOut_53 : decode b_GB_layOut 53 = .ok (.iconst 0, 1) := by decide +kernel
theorem d_GB_layOut_54 : decode b_GB_layOut 54 = .ok (.putfield 70, 3) := by decide +kernel
theorem d_GB_layOut_57 : decode b_GB_layOut 57 = .ok (.aload_n 0, 1) := by decide +kernel
theorem d_GB_layOut_58 : decode b_GB_layOut 58 = .ok (.iconst 1, 1) := by decide +kernel
theorem d_GB_layOut_59 : decode b_GB_layOut 59 = .ok (.putfield 99, 3) := by decide +kernel
theorem d_GB_layOut_62 : decode b_GB_layOut 62 = .ok (.return_, 1) := by decide +kernel
theorem d_GB_allBlocks_0 : decode b_GB_allBlocks 0 = .ok (.aload_n 0, 1) := by decide +kernel
theorem d_GB_allBlocks_1 : decode b_GB_allBlocks 1 = .ok (.getfield 15, 3) := by decide +kernel
theorem d_GB_allBlocks_4 : decode b_GB_allBlocks 4 = .ok (.iconst 1, 1) := by decide +kernel
theorem d_GB_allBlocks_5 : decode b_GB_allBlocks 5 = .ok (.isub, 1) := by decide +kernel
theorem d_GB_allBlocks_6 : decode b_GB_allBlocks 6 = .ok (.sipush 256, 3) := by decide +kernel
theorem d_GB_allBlocks_9 : decode b_GB_allBlocks 9 = .ok (.imul, 1) := by decide +kernel
theorem d_GB_allBlocks_10 : decode b_GB_allBlocks 10 = .ok (.aload_n 0, 1) := by decide +kernel
theorem d_GB_allBlocks_11 : decode b_GB_allBlocks 11 = .ok (.getfield 11, 3) := by decide +kernel
theorem d_GB_allBlocks_14 : decode b_GB_allBlocks 14 = .ok (.aload_n 0, 1) := by decide +kernel
theorem d_GB_allBlocks_15 : decode b_GB_allBlocks 15 = .ok (.getfield 15, 3) := by decide +kernel
theorem d_GB_allBlocks_18 : decode b_GB_allBlocks 18 = .ok (.iconst 1, 1) := by decide +kernel
theorem d_GB_allBlocks_19 : decode b_GB_allBlocks 19 = .ok (.isub, 1) := by decide +kernel
theorem d_GB_allBlocks_20 : decode b_GB_allBlocks 20 = .ok (.aaload, 1) := by decide +kernel
theorem d_GB_allBlocks_21 : decode b_GB_allBlocks 21 = .ok (.getfield 90, 3) := by decide +kernel
theorem d_GB_allBlocks_24 : decode b_GB_allBlocks 24 = .ok (.getfield 151, 3) := by decide +kernel
theorem d_GB_allBlocks_27 : decode b_GB_allBlocks 27 = .ok (.iadd, 1) := by decide +kernel
theorem d_GB_allBlocks_28 : decode b_GB_allBlocks 28 = .ok (.ireturn, 1) := by decide +kernel
theorem d_GB_hasBlock_0 : decode b_GB_hasBlock 0 = .ok (.iload_n 1, 1) := by decide +kernel
theorem d_GB_hasBlock_1 : decode b_GB_hasBlock 1 = .ok (.ifCond .lt 15, 3) := by decide +kernel
theorem d_GB_hasBlock_4 : decode b_GB_hasBlock 4 = .ok (.iload_n 1, 1) := by decide +kernel
theorem d_GB_hasBlock_5 : decode b_GB_hasBlock 5 = .ok (.aload_n 0, 1) := by decide +kernel
theorem d_GB_hasBlock_6 : decode b_GB_hasBlock 6 = .ok (.invokevirtual 75, 3) := by decide +kernel
theorem d_GB_hasBlock_9 : decode b_GB_hasBlock 9 = .ok (.if_icmp .ge 7, 3) := by decide +kernel
theorem d_GB_hasBlock_12 : decode b_GB_hasBlock 12 = .ok (.iconst 1, 1) := by decide +kernel
theorem d_GB_hasBlock_13 : decode b_GB_hasBlock 13 = .ok (.goto 4, 3) := by decide +kernel
theorem d_GB_hasBlock_16 : decode b_GB_hasBlock 16 = .ok (.iconst 0, 1) := by decide +kernel
theorem d_GB_hasBlock_17 : decode b_GB_hasBlock 17 = .ok (.ireturn, 1) := by decide +kernel
theorem d_GB_hasFile_0 : decode b_GB_hasFile 0 = .ok (.iload_n 1, 1) := by decide +kernel
theorem d_GB_hasFile_1 : decode b_GB_hasFile 1 = .ok (.iconst 1, 1) := by decide +kernel
theorem d_GB_hasFile_2 : decode b_GB_hasFile 2 = .ok (.if_icmp .lt 19, 3) := by decide +kernel
theorem d_GB_hasFile_5 : decode b_GB_hasFile 5 = .ok (.iload_n 1, 1) := by decide +kernel
theorem d_GB_hasFile_6 : decode b_GB_hasFile 6 = .ok (.aload_n 0, 1) := by decide +kernel
theorem d_GB_hasFile_7 : decode b_GB_hasFile 7 = .ok (.getfield 15, 3) := by decide +kernel
theorem d_GB_hasFile_10 : decode b_GB_hasFile 10 = .ok (.sipush 128, 3) := by decide +kernel
theorem d_GB_hasFile_13 : decode b_GB_hasFile 13 = .ok (.imul, 1) := by decide +kernel
theorem d_GB_hasFile_14 : decode b_GB_hasFile 14 = .ok (.if_icmp .gt 7, 3) := by decide +kernel
theorem d_GB_hasFile_17 : decode b_GB_hasFile 17 = .ok (.iconst 1, 1) := by decide +kernel
theorem d_GB_hasFile_18 : decode b_GB_hasFile 18 = .ok (.goto 4, 3) := by decide +kernel
theorem d_GB_hasFile_21 : decode b_GB_hasFile 21 = .ok (.iconst 0, 1) := by decide +kernel
theorem d_GB_hasFile_22 : decode b_GB_hasFile 22 = .ok (.ireturn, 1) := by decide +kernel
theorem d_GB_groupOfBlock_0 : decode b_GB_groupOfBlock 0 = .ok (.aload_n 0, 1) := by decide +kernel
theorem d_GB_groupOfBlock_1 : decode b_GB_groupOfBlock 1 = .ok (.getfield 11, 3) := by decide +kernel
theorem d_GB_groupOfBlock_4 : decode b_GB_groupOfBlock 4 = .ok (.iload_n 1, 1) := by decide +kernel
theorem d_GB_groupOfBlock_5 : decode b_GB_groupOfBlock 5 = .ok (.sipush 256, 3) := by decide +kernel
theorem d_GB_groupOfBlock_8 : decode b_GB_groupOfBlock 8 = .ok (.idiv, 1) := by decide +kernel
theorem d_GB_groupOfBlock_9 : decode b_GB_groupOfBlock 9 = .ok (.aaload, 1) := by decide +kernel
theorem d_GB_groupOfBlock_10 : decode b_GB_groupOfBlock 10 = .ok (.areturn, 1) := by decide +kernel
theorem d_GB_groupOfFile_0 : decode b_GB_groupOfFile 0 = .ok (.aload_n 0, 1) := by decide +kernel
theorem d_GB_groupOfFile_1 : decode b_GB_groupOfFile 1 = .ok (.getfield 11, 3) := by decide +kernel
theorem d_GB_groupOfFile_4 : decode b_GB_groupOfFile 4 = .ok (.iload_n 1, 1) := by decide +kernel
theorem d_GB_groupOfFile_5 : decode b_GB_groupOfFile 5 = .ok (.iconst 1, 1) := by decide +kernel
theorem d_GB_groupOfFile_6 : decode b_GB_groupOfFile 6 = .ok (.isub, 1) := by decide +kernel
theorem d_GB_groupOfFile_7 : decode b_GB_groupOfFile 7 = .ok (.sipush 128, 3) := by decide +kernel
theorem d_GB_groupOfFile_10 : decode b_GB_groupOfFile 10 = .ok (.idiv, 1) := by decide +kernel
theorem d_GB_groupOfFile_11 : decode b_GB_groupOfFile 11 = .ok (.aaload, 1) := by decide +kernel
theorem d_GB_groupOfFile_12 : decode b_GB_groupOfFile 12 = .ok (.areturn, 1) := by decide +kernel
theorem d_GB_groupBehind_0 : decode b_GB_groupBehind 0 = .ok (.aload_n 0, 1) := by decide +kernel
theorem d_GB_groupBehind_1 : decode b_GB_groupBehind 1 = .ok (.getfield 11, 3) := by decide +kernel
theorem d_GB_groupBehind_4 : decode b_GB_groupBehind 4 = .ok (.aload_n 1, 1) := by decide +kernel
theorem d_GB_groupBehind_5 : decode b_GB_groupBehind 5 = .ok (.getfield 148, 3) := by decide +kernel
theorem d_GB_groupBehind_8 : decode b_GB_groupBehind 8 = .ok (.sipush 256, 3) := by decide +kernel
theorem d_GB_groupBehind_11 : decode b_GB_groupBehind 11 = .ok (.idiv, 1) := by decide +kernel
theorem d_GB_groupBehind_12 : decode b_GB_groupBehind 12 = .ok (.iload_n 2, 1) := by decide +kernel
theorem d_GB_groupBehind_13 : decode b_GB_groupBehind 13 = .ok (.iadd, 1) := by decide +kernel
theorem d_GB_groupBehind_14 : decode b_GB_groupBehind 14 = .ok (.aload_n 0, 1) := by decide +kernel
theorem d_GB_groupBehind_15 : decode b_GB_groupBehind 15 = .ok (.getfield 15, 3) := by decide +kernel
theorem d_GB_groupBehind_18 : decode b_GB_groupBehind 18 = .ok (.irem, 1) := by decide +kernel
theorem d_GB_groupBehind_19 : decode b_GB_groupBehind 19 = .ok (.aaload, 1) := by decide +kernel
theorem d_GB_groupBehind_20 : decode b_GB_groupBehind 20 = .ok (.areturn, 1) := by decide +kernel
theorem d_GB_freeBlocks_0 : decode b_GB_freeBlocks 0 = .ok (.iconst 0, 1) := by decide +kernel
theorem d_GB_freeBlocks_1 : decode b_GB_freeBlocks 1 = .ok (.istore_n 1, 1) := by decide +kernel
theorem d_GB_freeBlocks_2 : decode b_GB_freeBlocks 2 = .ok (.iconst 0, 1) := by decide +kernel
theorem d_GB_freeBlocks_3 : decode b_GB_freeBlocks 3 = .ok (.istore_n 2, 1) := by decide +kernel
theorem d_GB_freeBlocks_4 : decode b_GB_freeBlocks 4 = .ok (.iload_n 2, 1) := by decide +kernel
theorem d_GB_freeBlocks_5 : decode b_GB_freeBlocks 5 = .ok (.aload_n 0, 1) := by decide +kernel
theorem d_GB_freeBlocks_6 : decode b_GB_freeBlocks 6 = .ok (.getfield 15, 3) := by decide +kernel
theorem d_GB_freeBlocks_9 : decode b_GB_freeBlocks 9 = .ok (.if_icmp .ge 24, 3) := by decide +kernel
theorem d_GB_freeBlocks_12 : decode b_GB_freeBlocks 12 = .ok (.iload_n 1, 1) := by decide +kernel
theorem d_GB_freeBlocks_13 : decode b_GB_freeBlocks 13 = .ok (.aload_n 0, 1) := by decide +kernel
theorem d_GB_freeBlocks_14 : decode b_GB_freeBlocks 14 = .ok (.getfield 11, 3) := by decide +kernel
theorem d_GB_freeBlocks_17 : decode b_GB_freeBlocks 17 = .ok (.iload_n 2, 1) := by decide +kernel
theorem d_GB_freeBlocks_18 : decode b_GB_freeBlocks 18 = .ok (.aaload, 1) := by decide +kernel
theorem d_GB_freeBlocks_19 : decode b_GB_freeBlocks 19 = .ok (.getfield 90, 3) := by decide +kernel
theorem d_GB_freeBlocks_22 : decode b_GB_freeBlocks 22 = .ok (.getfield 154, 3) := by decide +kernel
theorem d_GB_freeBlocks_25 : decode b_GB_freeBlocks 25 = .ok (.iadd, 1) := by decide +kernel
theorem d_GB_freeBlocks_26 : decode b_GB_freeBlocks 26 = .ok (.istore_n 1, 1) := by decide +kernel
theorem d_GB_freeBlocks_27 : decode b_GB_freeBlocks 27 = .ok (.iinc 2 1, 3) := by decide +kernel
theorem d_GB_freeBlocks_30 : decode b_GB_freeBlocks 30 = .ok (.goto (-26), 3) := by decide +kernel
theorem d_GB_freeBlocks_33 : decode b_GB_freeBlocks 33 = .ok (.iload_n 1, 1) := by decide +kernel
theorem d_GB_freeBlocks_34 : decode b_GB_freeBlocks 34 = .ok (.ireturn, 1) := by decide +kernel
theorem d_GB_freeFiles_0 : decode b_GB_freeFiles 0 = .ok (.iconst 0, 1) := by decide +kernel
theorem d_GB_freeFiles_1 : decode b_GB_freeFiles 1 = .ok (.istore_n 1, 1) := by decide +kernel
theorem d_GB_freeFiles_2 : decode b_GB_freeFiles 2 = .ok (.iconst 0, 1) := by decide +kernel
theorem d_GB_freeFiles_3 : decode b_GB_freeFiles 3 = .ok (.istore_n 2, 1) := by decide +kernel
theorem d_GB_freeFiles_4 : decode b_GB_freeFiles 4 = .ok (.iload_n 2, 1) := by decide +kernel
theorem d_GB_freeFiles_5 : decode b_GB_freeFiles 5 = .ok (.aload_n 0, 1) := by decide +kernel
theorem d_GB_freeFiles_6 : decode b_GB_freeFiles 6 = .ok (.getfield 15, 3) := by decide +kernel
theorem d_GB_freeFiles_9 : decode b_GB_freeFiles 9 = .ok (.if_icmp .ge 24, 3) := by decide +kernel
theorem d_GB_freeFiles_12 : decode b_GB_freeFiles 12 = .ok (.iload_n 1, 1) := by decide +kernel
theorem d_GB_freeFiles_13 : decode b_GB_freeFiles 13 = .ok (.aload_n 0, 1) := by decide +kernel
theorem d_GB_freeFiles_14 : decode b_GB_freeFiles 14 = .ok (.getfield 11, 3) := by decide +kernel
theorem d_GB_freeFiles_17 : decode b_GB_freeFiles 17 = .ok (.iload_n 2, 1) := by decide +kernel
theorem d_GB_freeFiles_18 : decode b_GB_freeFiles 18 = .ok (.aaload, 1) := by decide +kernel
theorem d_GB_freeFiles_19 : decode b_GB_freeFiles 19 = .ok (.getfield 124, 3) := by decide +kernel
theorem d_GB_freeFiles_22 : decode b_GB_freeFiles 22 = .ok (.getfield 154, 3) := by decide +kernel
theorem d_GB_freeFiles_25 : decode b_GB_freeFiles 25 = .ok (.iadd, 1) := by decide +kernel
theorem d_GB_freeFiles_26 : decode b_GB_freeFiles 26 = .ok (.istore_n 1, 1) := by decide +kernel
theorem d_GB_freeFiles_27 : decode b_GB_freeFiles 27 = .ok (.iinc 2 1, 3) := by decide +kernel
theorem d_GB_freeFiles_30 : decode b_GB_freeFiles 30 = .ok (.goto (-26), 3) := by decide +kernel
theorem d_GB_freeFiles_33 : decode b_GB_freeFiles 33 = .ok (.iload_n 1, 1) := by decide +kernel
theorem d_GB_freeFiles_34 : decode b_GB_freeFiles 34 = .ok (.ireturn, 1) := by decide +kernel
theorem d_GB_takeable_0 : decode b_GB_takeable 0 = .ok (.iload_n 1, 1) := by decide +kernel
theorem d_GB_takeable_1 : decode b_GB_takeable 1 = .ok (.ifCond .eq 10, 3) := by decide +kernel
theorem d_GB_takeable_4 : decode b_GB_takeable 4 = .ok (.aload_n 0, 1) := by decide +kernel
theorem d_GB_takeable_5 : decode b_GB_takeable 5 = .ok (.invokevirtual 35, 3) := by decide +kernel
theorem d_GB_takeable_8 : decode b_GB_takeable 8 = .ok (.goto 16, 3) := by decide +kernel
theorem d_GB_takeable_11 : decode b_GB_takeable 11 = .ok (.iconst 0, 1) := by decide +kernel
theorem d_GB_takeable_12 : decode b_GB_takeable 12 = .ok (.aload_n 0, 1) := by decide +kernel
theorem d_GB_takeable_13 : decode b_GB_takeable 13 = .ok (.invokevirtual 35, 3) := by decide +kernel
theorem d_GB_takeable_16 : decode b_GB_takeable 16 = .ok (.aload_n 0, 1) := by decide +kernel
theorem d_GB_takeable_17 : decode b_GB_takeable 17 = .ok (.getfield 41, 3) := by decide +kernel
theorem d_GB_takeable_20 : decode b_GB_takeable 20 = .ok (.isub, 1) := by decide +kernel
theorem d_GB_takeable_21 : decode b_GB_takeable 21 = .ok (.invokestatic 188, 3) := by decide +kernel
theorem d_GB_takeable_24 : decode b_GB_takeable 24 = .ok (.ireturn, 1) := by decide +kernel
theorem d_GB_takeNear_0 : decode b_GB_takeNear 0 = .ok (.aload_n 0, 1) := by decide +kernel
theorem d_GB_takeNear_1 : decode b_GB_takeNear 1 = .ok (.iload_n 1, 1) := by decide +kernel
theorem d_GB_takeNear_2 : decode b_GB_takeNear 2 = .ok (.invokevirtual 86, 3) := by decide +kernel
theorem d_GB_takeNear_5 : decode b_GB_takeNear 5 = .ok (.astore_n 3, 1) := by decide +kernel
theorem d_GB_takeNear_6 : decode b_GB_takeNear 6 = .ok (.iload_n 1, 1) := by decide +kernel
theorem d_GB_takeNear_7 : decode b_GB_takeNear 7 = .ok (.sipush 256, 3) := by decide +kernel
theorem d_GB_takeNear_10 : decode b_GB_takeNear 10 = .ok (.irem, 1) := by decide +kernel
theorem d_GB_takeNear_11 : decode b_GB_takeNear 11 = .ok (.istore 4, 2) := by decide +kernel
theorem d_GB_takeNear_13 : decode b_GB_takeNear 13 = .ok (.aload_n 3, 1) := by decide +kernel
theorem d_GB_takeNear_14 : decode b_GB_takeNear 14 = .ok (.getfield 90, 3) := by decide +kernel
theorem d_GB_takeNear_17 : decode b_GB_takeNear 17 = .ok (.iload 4, 2) := by decide +kernel
theorem d_GB_takeNear_19 : decode b_GB_takeNear 19 = .ok (.iload_n 2, 1) := by decide +kernel
theorem d_GB_takeNear_20 : decode b_GB_takeNear 20 = .ok (.invokevirtual 191, 3) := by decide +kernel
theorem d_GB_takeNear_23 : decode b_GB_takeNear 23 = .ok (.ifCond .eq 12, 3) := by decide +kernel
theorem d_GB_takeNear_26 : decode b_GB_takeNear 26 = .ok (.aload_n 0, 1) := by decide +kernel
theorem d_GB_takeNear_27 : decode b_GB_takeNear 27 = .ok (.aload_n 3, 1) := by decide +kernel
theorem d_GB_takeNear_28 : decode b_GB_takeNear 28 = .ok (.iload 4, 2) := by decide +kernel
theorem d_GB_takeNear_30 : decode b_GB_takeNear 30 = .ok (.iload_n 2, 1) := by decide +kernel
theorem d_GB_takeNear_31 : decode b_GB_takeNear 31 = .ok (.invokevirtual 194, 3) := by decide +kernel
theorem d_GB_takeNear_34 : decode b_GB_takeNear 34 = .ok (.ireturn, 1) := by decide +kernel
theorem d_GB_takeNear_35 : decode b_GB_takeNear 35 = .ok (.iconst 0, 1) := by decide +kernel
theorem d_GB_takeNear_36 : decode b_GB_takeNear 36 = .ok (.istore 5, 2) := by decide +kernel
theorem d_GB_takeNear_38 : decode b_GB_takeNear 38 = .ok (.iload 5, 2) := by decide +kernel
theorem d_GB_takeNear_40 : decode b_GB_takeNear 40 = .ok (.aload_n 0, 1) := by decide +kernel
theorem d_GB_takeNear_41 : decode b_GB_takeNear 41 = .ok (.getfield 15, 3) := by decide +kernel
theorem d_GB_takeNear_44 : decode b_GB_takeNear 44 = .ok (.if_icmp .ge 44, 3) := by decide +kernel
theorem d_GB_takeNear_47 : decode b_GB_takeNear 47 = .ok (.aload_n 0, 1) := by decide +kernel
theorem d_GB_takeNear_48 : decode b_GB_takeNear 48 = .ok (.aload_n 3, 1) := by decide +kernel
theorem d_GB_takeNear_49 : decode b_GB_takeNear 49 = .ok (.iload 5, 2) := by decide +kernel
theorem d_GB_takeNear_51 : decode b_GB_takeNear 51 = .ok (.invokevirtual 198, 3) := by decide +kernel
theorem d_GB_takeNear_54 : decode b_GB_takeNear 54 = .ok (.astore 6, 2) := by decide +kernel
theorem d_GB_takeNear_56 : decode b_GB_takeNear 56 = .ok (.aload 6, 2) := by decide +kernel
theorem d_GB_takeNear_58 : decode b_GB_takeNear 58 = .ok (.getfield 90, 3) := by decide +kernel
theorem d_GB_takeNear_61 : decode b_GB_takeNear 61 = .ok (.iload_n 2, 1) := by decide +kernel
theorem d_GB_takeNear_62 : decode b_GB_takeNear 62 = .ok (.invokevirtual 202, 3) := by decide +kernel
theorem d_GB_takeNear_65 : decode b_GB_takeNear 65 = .ok (.istore 7, 2) := by decide +kernel
theorem d_GB_takeNear_67 : decode b_GB_takeNear 67 = .ok (.iload 7, 2) := by decide +kernel
theorem d_GB_takeNear_69 : decode b_GB_takeNear 69 = .ok (.ifCond .lt 13, 3) := by decide +kernel
theorem d_GB_takeNear_72 : decode b_GB_takeNear 72 = .ok (.aload_n 0, 1) := by decide +kernel
theorem d_GB_takeNear_73 : decode b_GB_takeNear 73 = .ok (.aload 6, 2) := by decide +kernel
theorem d_GB_takeNear_75 : decode b_GB_takeNear 75 = .ok (.iload 7, 2) := by decide +kernel
theorem d_GB_takeNear_77 : decode b_GB_takeNear 77 = .ok (.iload_n 2, 1) := by decide +kernel
theorem d_GB_takeNear_78 : decode b_GB_takeNear 78 = .ok (.invokevirtual 194, 3) := by decide +kernel
theorem d_GB_takeNear_81 : decode b_GB_takeNear 81 = .ok (.ireturn, 1) := by decide +kernel
theorem d_GB_takeNear_82 : decode b_GB_takeNear 82 = .ok (.iinc 5 1, 3) := by decide +kernel
theorem d_GB_takeNear_85 : decode b_GB_takeNear 85 = .ok (.goto (-47), 3) := by decide +kernel
theorem d_GB_takeNear_88 : decode b_GB_takeNear 88 = .ok (.aload_n 0, 1) := by decide +kernel
theorem d_GB_takeNear_89 : decode b_GB_takeNear 89 = .ok (.aload_n 3, 1) := by decide +kernel
theorem d_GB_takeNear_90 : decode b_GB_takeNear 90 = .ok (.invokevirtual 205, 3) := by decide +kernel
theorem d_GB_takeNear_93 : decode b_GB_takeNear 93 = .ok (.ireturn, 1) := by decide +kernel
theorem d_GB_takeLongestRun_0 : decode b_GB_takeLongestRun 0 = .ok (.aload_n 1, 1) := by decide +kernel
theorem d_GB_takeLongestRun_1 : decode b_GB_takeLongestRun 1 = .ok (.astore_n 2, 1) := by decide +kernel
theorem d_GB_takeLongestRun_2 : decode b_GB_takeLongestRun 2 = .ok (.aload_n 1, 1) := by decide +kernel
theorem d_GB_takeLongestRun_3 : decode b_GB_takeLongestRun 3 = .ok (.getfield 90, 3) := by decide +kernel
theorem d_GB_takeLongestRun_6 : decode b_GB_takeLongestRun 6 = .ok (.invokevirtual 157, 3) := by decide +kernel
theorem d_GB_takeLongestRun_9 : decode b_GB_takeLongestRun 9 = .ok (.istore_n 3, 1) := by decide +kernel
theorem d_GB_takeLongestRun_10 : decode b_GB_takeLongestRun 10 = .ok (.iconst 1, 1) := by decide +kernel
theorem d_GB_takeLongestRun_11 : decode b_GB_takeLongestRun 11 = .ok (.istore 4, 2) := by decide +kernel
theorem d_GB_takeLongestRun_13 : decode b_GB_takeLongestRun 13 = .ok (.iload 4, 2) := by decide +kernel
theorem d_GB_takeLongestRun_15 : decode b_GB_takeLongestRun 15 = .ok (.aload_n 0, 1) := by decide +kernel
theorem d_GB_takeLongestRun_16 : decode b_GB_takeLongestRun 16 = .ok (.getfield 15, 3) := by decide +kernel
theorem d_GB_takeLongestRun_19 : decode b_GB_takeLongestRun 19 = .ok (.if_icmp .ge 40, 3) := by decide +kernel
theorem d_GB_takeLongestRun_22 : decode b_GB_takeLongestRun 22 = .ok (.aload_n 0, 1) := by decide +kernel
theorem d_GB_takeLongestRun_23 : decode b_GB_takeLongestRun 23 = .ok (.aload_n 1, 1) := by decide +kernel
theorem d_GB_takeLongestRun_24 : decode b_GB_takeLongestRun 24 = .ok (.iload 4, 2) := by decide +kernel
theorem d_GB_takeLongestRun_26 : decode b_GB_takeLongestRun 26 = .ok (.invokevirtual 198, 3) := by decide +kernel
theorem d_GB_takeLongestRun_29 : decode b_GB_takeLongestRun 29 = .ok (.astore 5, 2) := by decide +kernel
theorem d_GB_takeLongestRun_31 : decode b_GB_takeLongestRun 31 = .ok (.aload 5, 2) := by decide +kernel
theorem d_GB_takeLongestRun_33 : decode b_GB_takeLongestRun 33 = .ok (.getfield 90, 3) := by decide +kernel
theorem d_GB_takeLongestRun_36 : decode b_GB_takeLongestRun 36 = .ok (.invokevirtual 157, 3) := by decide +kernel
theorem d_GB_takeLongestRun_39 : decode b_GB_takeLongestRun 39 = .ok (.istore 6, 2) := by decide +kernel
theorem d_GB_takeLongestRun_41 : decode b_GB_takeLongestRun 41 = .ok (.iload 6, 2) := by decide +kernel
theorem d_GB_takeLongestRun_43 : decode b_GB_takeLongestRun 43 = .ok (.iload_n 3, 1) := by decide +kernel
theorem d_GB_takeLongestRun_44 : decode b_GB_takeLongestRun 44 = .ok (.if_icmp .le 9, 3) := by decide +kernel
theorem d_GB_takeLongestRun_47 : decode b_GB_takeLongestRun 47 = .ok (.iload 6, 2) := by decide +kernel
theorem d_GB_takeLongestRun_49 : decode b_GB_takeLongestRun 49 = .ok (.istore_n 3, 1) := by decide +kernel
theorem d_GB_takeLongestRun_50 : decode b_GB_takeLongestRun 50 = .ok (.aload 5, 2) := by decide +kernel
theorem d_GB_takeLongestRun_52 : decode b_GB_takeLongestRun 52 = .ok (.astore_n 2, 1) := by decide +kernel
theorem d_GB_takeLongestRun_53 : decode b_GB_takeLongestRun 53 = .ok (.iinc 4 1, 3) := by decide +kernel
theorem d_GB_takeLongestRun_56 : decode b_GB_takeLongestRun 56 = .ok (.goto (-43), 3) := by decide +kernel
theorem d_GB_takeLongestRun_59 : decode b_GB_takeLongestRun 59 = .ok (.aload_n 0, 1) := by decide +kernel
theorem d_GB_takeLongestRun_60 : decode b_GB_takeLongestRun 60 = .ok (.aload_n 2, 1) := by decide +kernel
theorem d_GB_takeLongestRun_61 : decode b_GB_takeLongestRun 61 = .ok (.aload_n 2, 1) := by decide +kernel
theorem d_GB_takeLongestRun_62 : decode b_GB_takeLongestRun 62 = .ok (.getfield 90, 3) := by decide +kernel
theorem d_GB_takeLongestRun_65 : decode b_GB_takeLongestRun 65 = .ok (.iload_n 3, 1) := by decide +kernel
theorem d_GB_takeLongestRun_66 : decode b_GB_takeLongestRun 66 = .ok (.invokevirtual 202, 3) := by decide +kernel
theorem d_GB_takeLongestRun_69 : decode b_GB_takeLongestRun 69 = .ok (.iload_n 3, 1) := by decide +kernel
theorem d_GB_takeLongestRun_70 : decode b_GB_takeLongestRun 70 = .ok (.invokevirtual 194, 3) := by decide +kernel
theorem d_GB_takeLongestRun_73 : decode b_GB_takeLongestRun 73 = .ok (.ireturn, 1) := by decide +kernel
theorem d_GB_takeRun_0 : decode b_GB_takeRun 0 = .ok (.iload_n 2, 1) := by decide +kernel
theorem d_GB_takeRun_1 : decode b_GB_takeRun 1 = .ok (.istore 4, 2) := by decide +kernel
theorem d_GB_takeRun_3 : decode b_GB_takeRun 3 = .ok (.iload 4, 2) := by decide +kernel
theorem d_GB_takeRun_5 : decode b_GB_takeRun 5 = .ok (.iload_n 2, 1) := by decide +kernel
theorem d_GB_takeRun_6 : decode b_GB_takeRun 6 = .ok (.iload_n 3, 1) := by decide +kernel
theorem d_GB_takeRun_7 : decode b_GB_takeRun 7 = .ok (.iadd, 1) := by decide +kernel
theorem d_GB_takeRun_8 : decode b_GB_takeRun 8 = .ok (.if_icmp .ge 18, 3) := by decide +kernel
theorem d_GB_takeRun_11 : decode b_GB_takeRun 11 = .ok (.aload_n 1, 1) := by decide +kernel
theorem d_GB_takeRun_12 : decode b_GB_takeRun 12 = .ok (.getfield 90, 3) := by decide +kernel
theorem d_GB_takeRun_15 : decode b_GB_takeRun 15 = .ok (.iload 4, 2) := by decide +kernel
theorem d_GB_takeRun_17 : decode b_GB_takeRun 17 = .ok (.invokevirtual 209, 3) := by decide +kernel
theorem d_GB_takeRun_20 : decode b_GB_takeRun 20 = .ok (.iinc 4 1, 3) := by decide +kernel
theorem d_GB_takeRun_23 : decode b_GB_takeRun 23 = .ok (.goto (-20), 3) := by decide +kernel
theorem d_GB_takeRun_26 : decode b_GB_takeRun 26 = .ok (.aload_n 0, 1) := by decide +kernel
theorem d_GB_takeRun_27 : decode b_GB_takeRun 27 = .ok (.iload_n 3, 1) := by decide +kernel
theorem d_GB_takeRun_28 : decode b_GB_takeRun 28 = .ok (.putfield 70, 3) := by decide +kernel
theorem d_GB_takeRun_31 : decode b_GB_takeRun 31 = .ok (.aload_n 0, 1) := by decide +kernel
theorem d_GB_takeRun_32 : decode b_GB_takeRun 32 = .ok (.iconst 1, 1) := by decide +kernel
theorem d_GB_takeRun_33 : decode b_GB_takeRun 33 = .ok (.putfield 99, 3) := by decide +kernel
theorem d_GB_takeRun_36 : decode b_GB_takeRun 36 = .ok (.aload_n 1, 1) := by decide +kernel
theorem d_GB_takeRun_37 : decode b_GB_takeRun 37 = .ok (.getfield 148, 3) := by decide +kernel
theorem d_GB_takeRun_40 : decode b_GB_takeRun 40 = .ok (.iload_n 2, 1) := by decide +kernel
theorem d_GB_takeRun_41 : decode b_GB_takeRun 41 = .ok (.iadd, 1) := by decide +kernel
theorem d_GB_takeRun_42 : decode b_GB_takeRun 42 = .ok (.ireturn, 1) := by decide +kernel
theorem d_GB_areGivable_0 : decode b_GB_areGivable 0 = .ok (.iload_n 1, 1) := by decide +kernel
theorem d_GB_areGivable_1 : decode b_GB_areGivable 1 = .ok (.istore_n 3, 1) := by decide +kernel
theorem d_GB_areGivable_2 : decode b_GB_areGivable 2 = .ok (.iload_n 3, 1) := by decide +kernel
theorem d_GB_areGivable_3 : decode b_GB_areGivable 3 = .ok (.iload_n 1, 1) := by decide +kernel
theorem d_GB_areGivable_4 : decode b_GB_areGivable 4 = .ok (.iload_n 2, 1) := by decide +kernel
theorem d_GB_areGivable_5 : decode b_GB_areGivable 5 = .ok (.iadd, 1) := by decide +kernel
theorem d_GB_areGivable_6 : decode b_GB_areGivable 6 = .ok (.if_icmp .ge 48, 3) := by decide +kernel
theorem d_GB_areGivable_9 : decode b_GB_areGivable 9 = .ok (.aload_n 0, 1) := by decide +kernel
theorem d_GB_areGivable_10 : decode b_GB_areGivable 10 = .ok (.iload_n 3, 1) := by decide +kernel
theorem d_GB_areGivable_11 : decode b_GB_areGivable 11 = .ok (.invokevirtual 86, 3) := by decide +kernel
theorem d_GB_areGivable_14 : decode b_GB_areGivable 14 = .ok (.astore 4, 2) := by decide +kernel
theorem d_GB_areGivable_16 : decode b_GB_areGivable 16 = .ok (.iload_n 3, 1) := by decide +kernel
theorem d_GB_areGivable_17 : decode b_GB_areGivable 17 = .ok (.sipush 256, 3) := by decide +kernel
theorem d_GB_areGivable_20 : decode b_GB_areGivable 20 = .ok (.irem, 1) := by decide +kernel
theorem d_GB_areGivable_21 : decode b_GB_areGivable 21 = .ok (.istore 5, 2) := by decide +kernel
theorem d_GB_areGivable_23 : decode b_GB_areGivable 23 = .ok (.iload 5, 2) := by decide +kernel
theorem d_GB_areGivable_25 : decode b_GB_areGivable 25 = .ok (.aload 4, 2) := by decide +kernel
theorem d_GB_areGivable_27 : decode b_GB_areGivable 27 = .ok (.getfield 212, 3) := by decide +kernel
theorem d_GB_areGivable_30 : decode b_GB_areGivable 30 = .ok (.if_icmp .lt 16, 3) := by decide +kernel
theorem d_GB_areGivable_33 : decode b_GB_areGivable 33 = .ok (.aload 4, 2) := by decide +kernel
theorem d_GB_areGivable_35 : decode b_GB_areGivable 35 = .ok (.getfield 90, 3) := by decide +kernel
theorem d_GB_areGivable_38 : decode b_GB_areGivable 38 = .ok (.iload 5, 2) := by decide +kernel
theorem d_GB_areGivable_40 : decode b_GB_areGivable 40 = .ok (.invokevirtual 127, 3) := by decide +kernel
theorem d_GB_areGivable_43 : decode b_GB_areGivable 43 = .ok (.ifCond .ne 5, 3) := by decide +kernel
theorem d_GB_areGivable_46 : decode b_GB_areGivable 46 = .ok (.iconst 0, 1) := by decide +kernel
theorem d_GB_areGivable_47 : decode b_GB_areGivable 47 = .ok (.ireturn, 1) := by decide +kernel
theorem d_GB_areGivable_48 : decode b_GB_areGivable 48 = .ok (.iinc 3 1, 3) := by decide +kernel
theorem d_GB_areGivable_51 : decode b_GB_areGivable 51 = .ok (.goto (-49), 3) := by decide +kernel
theorem d_GB_areGivable_54 : decode b_GB_areGivable 54 = .ok (.iconst 1, 1) := by decide +kernel
theorem d_GB_areGivable_55 : decode b_GB_areGivable 55 = .ok (.ireturn, 1) := by decide +kernel
theorem d_GB_groupForPlain_0 : decode b_GB_groupForPlain 0 = .ok (.aload_n 0, 1) := by decide +kernel
theorem d_GB_groupForPlain_1 : decode b_GB_groupForPlain 1 = .ok (.iload_n 1, 1) := by decide +kernel
theorem d_GB_groupForPlain_2 : decode b_GB_groupForPlain 2 = .ok (.invokevirtual 121, 3) := by decide +kernel
theorem d_GB_groupForPlain_5 : decode b_GB_groupForPlain 5 = .ok (.astore_n 2, 1) := by decide +kernel
theorem d_GB_groupForPlain_6 : decode b_GB_groupForPlain 6 = .ok (.getstatic 215, 3) := by decide +kernel
theorem d_GB_groupForPlain_9 : decode b_GB_groupForPlain 9 = .ok (.astore_n 3, 1) := by decide +kernel
theorem d_GB_groupForPlain_10 : decode b_GB_groupForPlain 10 = .ok (.aload_n 3, 1) := by decide +kernel
theorem d_GB_groupForPlain_11 : decode b_GB_groupForPlain 11 = .ok (.arraylength, 1) := by decide +kernel
theorem d_GB_groupForPlain_12 : decode b_GB_groupForPlain 12 = .ok (.istore 4, 2) := by decide +kernel
theorem d_GB_groupForPlain_14 : decode b_GB_groupForPlain 14 = .ok (.iconst 0, 1) := by decide +kernel
theorem d_GB_groupForPlain_15 : decode b_GB_groupForPlain 15 = .ok (.istore 5, 2) := by decide +kernel
theorem d_GB_groupForPlain_17 : decode b_GB_groupForPlain 17 = .ok (.iload 5, 2) := by decide +kernel
theorem d_GB_groupForPlain_19 : decode b_GB_groupForPlain 19 = .ok (.iload 4, 2) := by decide +kernel
theorem d_GB_groupForPlain_21 : decode b_GB_groupForPlain 21 = .ok (.if_icmp .ge 35, 3) := by decide +kernel
theorem d_GB_groupForPlain_24 : decode b_GB_groupForPlain 24 = .ok (.aload_n 3, 1) := by decide +kernel
theorem d_GB_groupForPlain_25 : decode b_GB_groupForPlain 25 = .ok (.iload 5, 2) := by decide +kernel
theorem d_GB_groupForPlain_27 : decode b_GB_groupForPlain 27 = .ok (.iaload, 1) := by decide +kernel
theorem d_GB_groupForPlain_28 : decode b_GB_groupForPlain 28 = .ok (.istore 6, 2) := by decide +kernel
theorem d_GB_groupForPlain_30 : decode b_GB_groupForPlain 30 = .ok (.aload_n 0, 1) := by decide +kernel
theorem d_GB_groupForPlain_31 : decode b_GB_groupForPlain 31 = .ok (.aload_n 2, 1) := by decide +kernel
theorem d_GB_groupForPlain_32 : decode b_GB_groupForPlain 32 = .ok (.iload 6, 2) := by decide +kernel
theorem d_GB_groupForPlain_34 : decode b_GB_groupForPlain 34 = .ok (.invokevirtual 198, 3) := by decide +kernel
theorem d_GB_groupForPlain_37 : decode b_GB_groupForPlain 37 = .ok (.astore 7, 2) := by decide +kernel
theorem d_GB_groupForPlain_39 : decode b_GB_groupForPlain 39 = .ok (.aload 7, 2) := by decide +kernel
theorem d_GB_groupForPlain_41 : decode b_GB_groupForPlain 41 = .ok (.invokevirtual 219, 3) := by decide +kernel
theorem d_GB_groupForPlain_44 : decode b_GB_groupForPlain 44 = .ok (.ifCond .eq 6, 3) := by decide +kernel
theorem d_GB_groupForPlain_47 : decode b_GB_groupForPlain 47 = .ok (.aload 7, 2) := by decide +kernel
theorem d_GB_groupForPlain_49 : decode b_GB_groupForPlain 49 = .ok (.areturn, 1) := by decide +kernel
theorem d_GB_groupForPlain_50 : decode b_GB_groupForPlain 50 = .ok (.iinc 5 1, 3) := by decide +kernel
theorem d_GB_groupForPlain_53 : decode b_GB_groupForPlain 53 = .ok (.goto (-36), 3) := by decide +kernel
theorem d_GB_groupForPlain_56 : decode b_GB_groupForPlain 56 = .ok (.aload_n 0, 1) := by decide +kernel
theorem d_GB_groupForPlain_57 : decode b_GB_groupForPlain 57 = .ok (.aload_n 2, 1) := by decide +kernel
theorem d_GB_groupForPlain_58 : decode b_GB_groupForPlain 58 = .ok (.invokevirtual 223, 3) := by decide +kernel
theorem d_GB_groupForPlain_61 : decode b_GB_groupForPlain 61 = .ok (.areturn, 1) := by decide +kernel
theorem d_GB_groupForFolder_0 : decode b_GB_groupForFolder 0 = .ok (.aload_n 0, 1) := by decide +kernel
theorem d_GB_groupForFolder_1 : decode b_GB_groupForFolder 1 = .ok (.iload_n 1, 1) := by decide +kernel
theorem d_GB_groupForFolder_2 : decode b_GB_groupForFolder 2 = .ok (.invokevirtual 121, 3) := by decide +kernel
theorem d_GB_groupForFolder_5 : decode b_GB_groupForFolder 5 = .ok (.astore_n 2, 1) := by decide +kernel
theorem d_GB_groupForFolder_6 : decode b_GB_groupForFolder 6 = .ok (.iload_n 1, 1) := by decide +kernel
theorem d_GB_groupForFolder_7 : decode b_GB_groupForFolder 7 = .ok (.iconst 2, 1) := by decide +kernel
theorem d_GB_groupForFolder_8 : decode b_GB_groupForFolder 8 = .ok (.if_icmp .ne 11, 3) := by decide +kernel
theorem d_GB_groupForFolder_11 : decode b_GB_groupForFolder 11 = .ok (.aload_n 0, 1) := by decide +kernel
theorem d_GB_groupForFolder_12 : decode b_GB_groupForFolder 12 = .ok (.aload_n 2, 1) := by decide +kernel
theorem d_GB_groupForFolder_13 : decode b_GB_groupForFolder 13 = .ok (.invokevirtual 227, 3) := by decide +kernel
theorem d_GB_groupForFolder_16 : decode b_GB_groupForFolder 16 = .ok (.goto 4, 3) := by decide +kernel
theorem d_GB_groupForFolder_19 : decode b_GB_groupForFolder 19 = .ok (.aconst_null, 1) := by decide +kernel
theorem d_GB_groupForFolder_20 : decode b_GB_groupForFolder 20 = .ok (.astore_n 3, 1) := by decide +kernel
theorem d_GB_groupForFolder_21 : decode b_GB_groupForFolder 21 = .ok (.aload_n 3, 1) := by decide +kernel
theorem d_GB_groupForFolder_22 : decode b_GB_groupForFolder 22 = .ok (.ifnonnull 9, 3) := by decide +kernel
theorem d_GB_groupForFolder_25 : decode b_GB_groupForFolder 25 = .ok (.aload_n 0, 1) := by decide +kernel
theorem d_GB_groupForFolder_26 : decode b_GB_groupForFolder 26 = .ok (.aload_n 2, 1) := by decide +kernel
theorem d_GB_groupForFolder_27 : decode b_GB_groupForFolder 27 = .ok (.invokevirtual 230, 3) := by decide +kernel
theorem d_GB_groupForFolder_30 : decode b_GB_groupForFolder 30 = .ok (.astore_n 3, 1) := by decide +kernel
theorem d_GB_groupForFolder_31 : decode b_GB_groupForFolder 31 = .ok (.aload_n 3, 1) := by decide +kernel
theorem d_GB_groupForFolder_32 : decode b_GB_groupForFolder 32 = .ok (.ifnonnull 11, 3) := by decide +kernel
theorem d_GB_groupForFolder_35 : decode b_GB_groupForFolder 35 = .ok (.aload_n 0, 1) := by decide +kernel
theorem d_GB_groupForFolder_36 : decode b_GB_groupForFolder 36 = .ok (.aload_n 2, 1) := by decide +kernel
theorem d_GB_groupForFolder_37 : decode b_GB_groupForFolder 37 = .ok (.invokevirtual 223, 3) := by decide +kernel
theorem d_GB_groupForFolder_40 : decode b_GB_groupForFolder 40 = .ok (.goto 4, 3) := by decide +kernel
theorem d_GB_groupForFolder_43 : decode b_GB_groupForFolder 43 = .ok (.aload_n 3, 1) := by decide +kernel
theorem d_GB_groupForFolder_44 : decode b_GB_groupForFolder 44 = .ok (.areturn, 1) := by decide +kernel
theorem d_GB_leastFolders_0 : decode b_GB_leastFolders 0 = .ok (.iconst 1, 1) := by decide +kernel
theorem d_GB_leastFolders_1 : decode b_GB_leastFolders 1 = .ok (.aload_n 0, 1) := by decide +kernel
theorem d_GB_leastFolders_2 : decode b_GB_leastFolders 2 = .ok (.invokevirtual 141, 3) := by decide +kernel
theorem d_GB_leastFolders_5 : decode b_GB_leastFolders 5 = .ok (.aload_n 0, 1) := by decide +kernel
theorem d_GB_leastFolders_6 : decode b_GB_leastFolders 6 = .ok (.getfield 15, 3) := by decide +kernel
theorem d_GB_leastFolders_9 : decode b_GB_leastFolders 9 = .ok (.idiv, 1) := by decide +kernel
theorem d_GB_leastFolders_10 : decode b_GB_leastFolders 10 = .ok (.invokestatic 188, 3) := by decide +kernel
theorem d_GB_leastFolders_13 : decode b_GB_leastFolders 13 = .ok (.istore_n 2, 1) := by decide +kernel
theorem d_GB_leastFolders_14 : decode b_GB_leastFolders 14 = .ok (.aload_n 0, 1) := by decide +kernel
theorem d_GB_leastFolders_15 : decode b_GB_leastFolders 15 = .ok (.invokevirtual 35, 3) := by decide +kernel
theorem d_GB_leastFolders_18 : decode b_GB_leastFolders 18 = .ok (.aload_n 0, 1) := by decide +kernel
theorem d_GB_leastFolders_19 : decode b_GB_leastFolders 19 = .ok (.getfield 15, 3) := by decide +kernel
theorem d_GB_leastFolders_22 : decode b_GB_leastFolders 22 = .ok (.idiv, 1) := by decide +kernel
theorem d_GB_leastFolders_23 : decode b_GB_leastFolders 23 = .ok (.istore_n 3, 1) := by decide +kernel
theorem d_GB_leastFolders_24 : decode b_GB_leastFolders 24 = .ok (.aconst_null, 1) := by decide +kernel
theorem d_GB_leastFolders_25 : decode b_GB_leastFolders 25 = .ok (.astore 4, 2) := by decide +kernel
theorem d_GB_leastFolders_27 : decode b_GB_leastFolders 27 = .ok (.iconst 0, 1) := by decide +kernel
theorem d_GB_leastFolders_28 : decode b_GB_leastFolders 28 = .ok (.istore 5, 2) := by decide +kernel
theorem d_GB_leastFolders_30 : decode b_GB_leastFolders 30 = .ok (.iload 5, 2) := by decide +kernel
theorem d_GB_leastFolders_32 : decode b_GB_leastFolders 32 = .ok (.aload_n 0, 1) := by decide +kernel
theorem d_GB_leastFolders_33 : decode b_GB_leastFolders 33 = .ok (.getfield 15, 3) := by decide +kernel
theorem d_GB_leastFolders_36 : decode b_GB_leastFolders 36 = .ok (.if_icmp .ge 76, 3) := by decide +kernel
theorem d_GB_leastFolders_39 : decode b_GB_leastFolders 39 = .ok (.aload_n 0, 1) := by decide +kernel
theorem d_GB_leastFolders_40 : decode b_GB_leastFolders 40 = .ok (.aload_n 1, 1) := by decide +kernel
theorem d_GB_leastFolders_41 : decode b_GB_leastFolders 41 = .ok (.iload 5, 2) := by decide +kernel
theorem d_GB_leastFolders_43 : decode b_GB_leastFolders 43 = .ok (.invokevirtual 198, 3) := by decide +kernel
theorem d_GB_leastFolders_46 : decode b_GB_leastFolders 46 = .ok (.astore 6, 2) := by decide +kernel
theorem d_GB_leastFolders_48 : decode b_GB_leastFolders 48 = .ok (.aload 6, 2) := by decide +kernel
theorem d_GB_leastFolders_50 : decode b_GB_leastFolders 50 = .ok (.getfield 124, 3) := by decide +kernel
theorem d_GB_leastFolders_53 : decode b_GB_leastFolders 53 = .ok (.getfield 154, 3) := by decide +kernel
theorem d_GB_leastFolders_56 : decode b_GB_leastFolders 56 = .ok (.iload_n 2, 1) := by decide +kernel
theorem d_GB_leastFolders_57 : decode b_GB_leastFolders 57 = .ok (.if_icmp .lt 19, 3) := by decide +kernel
theorem d_GB_leastFolders_60 : decode b_GB_leastFolders 60 = .ok (.aload 6, 2) := by decide +kernel
theorem d_GB_leastFolders_62 : decode b_GB_leastFolders 62 = .ok (.getfield 90, 3) := by decide +kernel
theorem d_GB_leastFolders_65 : decode b_GB_leastFolders 65 = .ok (.getfield 154, 3) := by decide +kernel
theorem d_GB_leastFolders_68 : decode b_GB_leastFolders 68 = .ok (.iload_n 3, 1) := by decide +kernel
theorem d_GB_leastFolders_69 : decode b_GB_leastFolders 69 = .ok (.if_icmp .lt 7, 3) := by decide +kernel
theorem d_GB_leastFolders_72 : decode b_GB_leastFolders 72 = .ok (.iconst 1, 1) := by decide +kernel
theorem d_GB_leastFolders_73 : decode b_GB_leastFolders 73 = .ok (.goto 4, 3) := by decide +kernel
theorem d_GB_leastFolders_76 : decode b_GB_leastFolders 76 = .ok (.iconst 0, 1) := by decide +kernel
theorem d_GB_leastFolders_77 : decode b_GB_leastFolders 77 = .ok (.istore 7, 2) := by decide +kernel
theorem d_GB_leastFolders_79 : decode b_GB_leastFolders 79 = .ok (.iload 7, 2) := by decide +kernel
theorem d_GB_leastFolders_81 : decode b_GB_leastFolders 81 = .ok (.ifCond .eq 25, 3) := by decide +kernel
theorem d_GB_leastFolders_84 : decode b_GB_leastFolders 84 = .ok (.aload 4, 2) := by decide +kernel
theorem d_GB_leastFolders_86 : decode b_GB_leastFolders 86 = .ok (.ifnull 16, 3) := by decide +kernel
theorem d_GB_leastFolders_89 : decode b_GB_leastFolders 89 = .ok (.aload 6, 2) := by decide +kernel
theorem d_GB_leastFolders_91 : decode b_GB_leastFolders 91 = .ok (.getfield 132, 3) := by decide +kernel
theorem d_GB_leastFolders_94 : decode b_GB_leastFolders 94 = .ok (.aload 4, 2) := by decide +kernel
theorem d_GB_leastFolders_96 : decode b_GB_leastFolders 96 = .ok (.getfield 132, 3) := by decide +kernel
theorem d_GB_leastFolders_99 : decode b_GB_leastFolders 99 = .ok (.if_icmp .ge 7, 3) := by decide +kernel
theorem d_GB_leastFolders_102 : decode b_GB_leastFolders 102 = .ok (.aload 6, 2) := by decide +kernel
theorem d_GB_leastFolders_104 : decode b_GB_leastFolders 104 = .ok (.astore 4, 2) := by decide +kernel
theorem d_GB_leastFolders_106 : decode b_GB_leastFolders 106 = .ok (.iinc 5 1, 3) := by decide +kernel
theorem d_GB_leastFolders_109 : decode b_GB_leastFolders 109 = .ok (.goto (-79), 3) := by decide +kernel
theorem d_GB_leastFolders_112 : decode b_GB_leastFolders 112 = .ok (.aload 4, 2) := by decide +kernel
theorem d_GB_leastFolders_114 : decode b_GB_leastFolders 114 = .ok (.areturn, 1) := by decide +kernel
theorem d_GB_firstWithRoom_0 : decode b_GB_firstWithRoom 0 = .ok (.aload_n 0, 1) := by decide +kernel
theorem d_GB_firstWithRoom_1 : decode b_GB_firstWithRoom 1 = .ok (.invokevirtual 141, 3) := by decide +kernel
theorem d_GB_firstWithRoom_4 : decode b_GB_firstWithRoom 4 = .ok (.aload_n 0, 1) := by decide +kernel
theorem d_GB_firstWithRoom_5 : decode b_GB_firstWithRoom 5 = .ok (.getfield 15, 3) := by decide +kernel
theorem d_GB_firstWithRoom_8 : decode b_GB_firstWithRoom 8 = .ok (.idiv, 1) := by decide +kernel
theorem d_GB_firstWithRoom_9 : decode b_GB_firstWithRoom 9 = .ok (.iconst 2, 1) := by decide +kernel
theorem d_GB_firstWithRoom_10 : decode b_GB_firstWithRoom 10 = .ok (.idiv, 1) := by decide +kernel
theorem d_GB_firstWithRoom_11 : decode b_GB_firstWithRoom 11 = .ok (.istore_n 2, 1) := by decide +kernel
theorem d_GB_firstWithRoom_12 : decode b_GB_firstWithRoom 12 = .ok (.iconst 0, 1) := by decide +kernel
theorem d_GB_firstWithRoom_13 : decode b_GB_firstWithRoom 13 = .ok (.istore_n 3, 1) := by decide +kernel
theorem d_GB_firstWithRoom_14 : decode b_GB_firstWithRoom 14 = .ok (.iload_n 3, 1) := by decide +kernel
theorem d_GB_firstWithRoom_15 : decode b_GB_firstWithRoom 15 = .ok (.aload_n 0, 1) := by decide +kernel
theorem d_GB_firstWithRoom_16 : decode b_GB_firstWithRoom 16 = .ok (.getfield 15, 3) := by decide +kernel
theorem d_GB_firstWithRoom_19 : decode b_GB_firstWithRoom 19 = .ok (.if_icmp .ge 40, 3) := by decide +kernel
theorem d_GB_firstWithRoom_22 : decode b_GB_firstWithRoom 22 = .ok (.aload_n 0, 1) := by decide +kernel
theorem d_GB_firstWithRoom_23 : decode b_GB_firstWithRoom 23 = .ok (.aload_n 1, 1) := by decide +kernel
theorem d_GB_firstWithRoom_24 : decode b_GB_firstWithRoom 24 = .ok (.iload_n 3, 1) := by decide +kernel
theorem d_GB_firstWithRoom_25 : decode b_GB_firstWithRoom 25 = .ok (.invokevirtual 198, 3) := by decide +kernel
theorem d_GB_firstWithRoom_28 : decode b_GB_firstWithRoom 28 = .ok (.astore 4, 2) := by decide +kernel
theorem d_GB_firstWithRoom_30 : decode b_GB_firstWithRoom 30 = .ok (.aload 4, 2) := by decide +kernel
theorem d_GB_firstWithRoom_32 : decode b_GB_firstWithRoom 32 = .ok (.getfield 124, 3) := by decide +kernel
theorem d_GB_firstWithRoom_35 : decode b_GB_firstWithRoom 35 = .ok (.getfield 154, 3) := by decide +kernel
theorem d_GB_firstWithRoom_38 : decode b_GB_firstWithRoom 38 = .ok (.iload_n 2, 1) := by decide +kernel
theorem d_GB_firstWithRoom_39 : decode b_GB_firstWithRoom 39 = .ok (.if_icmp .lt 14, 3) := by decide +kernel
theorem d_GB_firstWithRoom_42 : decode b_GB_firstWithRoom 42 = .ok (.aload 4, 2) := by decide +kernel
theorem d_GB_firstWithRoom_44 : decode b_GB_firstWithRoom 44 = .ok (.invokevirtual 219, 3) := by decide +kernel
theorem d_GB_firstWithRoom_47 : decode b_GB_firstWithRoom 47 = .ok (.ifCond .eq 6, 3) := by decide +kernel
theorem d_GB_firstWithRoom_50 : decode b_GB_firstWithRoom 50 = .ok (.aload 4, 2) := by decide +kernel
theorem d_GB_firstWithRoom_52 : decode b_GB_firstWithRoom 52 = .ok (.areturn, 1) := by decide +kernel
theorem d_GB_firstWithRoom_53 : decode b_GB_firstWithRoom 53 = .ok (.iinc 3 1, 3) := by decide +kernel
theorem d_GB_firstWithRoom_56 : decode b_GB_firstWithRoom 56 = .ok (.goto (-42), 3) := by decide +kernel
theorem d_GB_firstWithRoom_59 : decode b_GB_firstWithRoom 59 = .ok (.aconst_null, 1) := by decide +kernel
theorem d_GB_firstWithRoom_60 : decode b_GB_firstWithRoom 60 = .ok (.areturn, 1) := by decide +kernel
theorem d_GB_firstWithFile_0 : decode b_GB_firstWithFile 0 = .ok (.iconst 0, 1) := by decide +kernel
theorem d_GB_firstWithFile_1 : decode b_GB_firstWithFile 1 = .ok (.istore_n 2, 1) := by decide +kernel
theorem d_GB_firstWithFile_2 : decode b_GB_firstWithFile 2 = .ok (.iload_n 2, 1) := by decide +kernel
theorem d_GB_firstWithFile_3 : decode b_GB_firstWithFile 3 = .ok (.aload_n 0, 1) := by decide +kernel
theorem d_GB_firstWithFile_4 : decode b_GB_firstWithFile 4 = .ok (.getfield 15, 3) := by decide +kernel
theorem d_GB_firstWithFile_7 : decode b_GB_firstWithFile 7 = .ok (.if_icmp .ge 29, 3) := by decide +kernel
theorem d_GB_firstWithFile_10 : decode b_GB_firstWithFile 10 = .ok (.aload_n 0, 1) := by decide +kernel
theorem d_GB_firstWithFile_11 : decode b_GB_firstWithFile 11 = .ok (.aload_n 1, 1) := by decide +kernel
theorem d_GB_firstWithFile_12 : decode b_GB_firstWithFile 12 = .ok (.iload_n 2, 1) := by decide +kernel
theorem d_GB_firstWithFile_13 : decode b_GB_firstWithFile 13 = .ok (.invokevirtual 198, 3) := by decide +kernel
theorem d_GB_firstWithFile_16 : decode b_GB_firstWithFile 16 = .ok (.astore_n 3, 1) := by decide +kernel
theorem d_GB_firstWithFile_17 : decode b_GB_firstWithFile 17 = .ok (.aload_n 3, 1) := by decide +kernel
theorem d_GB_firstWithFile_18 : decode b_GB_firstWithFile 18 = .ok (.getfield 124, 3) := by decide +kernel
theorem d_GB_firstWithFile_21 : decode b_GB_firstWithFile 21 = .ok (.getfield 154, 3) := by decide +kernel
theorem d_GB_firstWithFile_24 : decode b_GB_firstWithFile 24 = .ok (.iconst 1, 1) := by decide +kernel
theorem d_GB_firstWithFile_25 : decode b_GB_firstWithFile 25 = .ok (.if_icmp .lt 5, 3) := by decide +kernel
theorem d_GB_firstWithFile_28 : decode b_GB_firstWithFile 28 = .ok (.aload_n 3, 1) := by decide +kernel
theorem d_GB_firstWithFile_29 : decode b_GB_firstWithFile 29 = .ok (.areturn, 1) := by decide +kernel
theorem d_GB_firstWithFile_30 : decode b_GB_firstWithFile 30 = .ok (.iinc 2 1, 3) := by decide +kernel
theorem d_GB_firstWithFile_33 : decode b_GB_firstWithFile 33 = .ok (.goto (-31), 3) := by decide +kernel
theorem d_GB_firstWithFile_36 : decode b_GB_firstWithFile 36 = .ok (.aconst_null, 1) := by decide +kernel
theorem d_GB_firstWithFile_37 : decode b_GB_firstWithFile 37 = .ok (.areturn, 1) := by decide +kernel
theorem d_GB_tableByte_0 : decode b_GB_tableByte 0 = .ok (.iload_n 1, 1) := by decide +kernel
theorem d_GB_tableByte_1 : decode b_GB_tableByte 1 = .ok (.bipush 32, 2) := by decide +kernel
theorem d_GB_tableByte_3 : decode b_GB_tableByte 3 = .ok (.idiv, 1) := by decide +kernel
theorem d_GB_tableByte_4 : decode b_GB_tableByte 4 = .ok (.istore_n 2, 1) := by decide +kernel
theorem d_GB_tableByte_5 : decode b_GB_tableByte 5 = .ok (.iload_n 2, 1) := by decide +kernel
theorem d_GB_tableByte_6 : decode b_GB_tableByte 6 = .ok (.aload_n 0, 1) := by decide +kernel
theorem d_GB_tableByte_7 : decode b_GB_tableByte 7 = .ok (.getfield 15, 3) := by decide +kernel
theorem d_GB_tableByte_10 : decode b_GB_tableByte 10 = .ok (.if_icmp .ge 19, 3) := by decide +kernel
theorem d_GB_tableByte_13 : decode b_GB_tableByte 13 = .ok (.aload_n 0, 1) := by decide +kernel
theorem d_GB_tableByte_14 : decode b_GB_tableByte 14 = .ok (.getfield 11, 3) := by decide +kernel
theorem d_GB_tableByte_17 : decode b_GB_tableByte 17 = .ok (.iload_n 2, 1) := by decide +kernel
theorem d_GB_tableByte_18 : decode b_GB_tableByte 18 = .ok (.aaload, 1) := by decide +kernel
theorem d_GB_tableByte_19 : decode b_GB_tableByte 19 = .ok (.iload_n 1, 1) := by decide +kernel
theorem d_GB_tableByte_20 : decode b_GB_tableByte 20 = .ok (.bipush 32, 2) := by decide +kernel
theorem d_GB_tableByte_22 : decode b_GB_tableByte 22 = .ok (.irem, 1) := by decide +kernel
theorem d_GB_tableByte_23 : decode b_GB_tableByte 23 = .ok (.invokevirtual 233, 3) := by decide +kernel
theorem d_GB_tableByte_26 : decode b_GB_tableByte 26 = .ok (.goto 4, 3) := by decide +kernel
theorem d_GB_tableByte_29 : decode b_GB_tableByte 29 = .ok (.iconst 0, 1) := by decide +kernel
theorem d_GB_tableByte_30 : decode b_GB_tableByte 30 = .ok (.ireturn, 1) := by decide +kernel
theorem d_BM_init_0 : decode b_BM_init 0 = .ok (.aload_n 0, 1) := by decide +kernel
theorem d_BM_init_1 : decode b_BM_init 1 = .ok (.invokespecial 1, 3) := by decide +kernel
theorem d_BM_init_4 : decode b_BM_init 4 = .ok (.aload_n 0, 1) := by decide +kernel
theorem d_BM_init_5 : decode b_BM_init 5 = .ok (.iload_n 1, 1) := by decide +kernel
theorem d_BM_init_6 : decode b_BM_init 6 = .ok (.putfield 7, 3) := by decide +kernel
theorem d_BM_init_9 : decode b_BM_init 9 = .ok (.aload_n 0, 1) := by decide +kernel
theorem d_BM_init_10 : decode b_BM_init 10 = .ok (.iload_n 2, 1) := by decide +kernel
theorem d_BM_init_11 : decode b_BM_init 11 = .ok (.newarray .boolean, 2) := by decide +kernel
theorem d_BM_init_13 : decode b_BM_init 13 = .ok (.putfield 13, 3) := by decide +kernel
theorem d_BM_init_16 : decode b_BM_init 16 = .ok (.return_, 1) := by decide +kernel
theorem d_BM_layOut_0 : decode b_BM_layOut 0 = .ok (.iconst 0, 1) := by decide +kernel
theorem d_BM_layOut_1 : decode b_BM_layOut 1 = .ok (.istore_n 3, 1) := by decide +kernel
theorem d_BM_layOut_2 : decode b_BM_layOut 2 = .ok (.iload_n 3, 1) := by decide +kernel
theorem d_BM_layOut_3 : decode b_BM_layOut 3 = .ok (.aload_n 0, 1) := by decide +kernel
theorem d_BM_layOut_4 : decode b_BM_layOut 4 = .ok (.getfield 13, 3) := by decide +kernel
theorem d_BM_layOut_7 : decode b_BM_layOut 7 = .ok (.arraylength, 1) := by decide +kernel
theorem d_BM_layOut_8 : decode b_BM_layOut 8 = .ok (.if_icmp .ge 30, 3) := by decide +kernel
theorem d_BM_layOut_11 : decode b_BM_layOut 11 = .ok (.aload_n 0, 1) := by decide +kernel
theorem d_BM_layOut_12 : decode b_BM_layOut 12 = .ok (.getfield 13, 3) := by decide +kernel
theorem d_BM_layOut_15 : decode b_BM_layOut 15 = .ok (.iload_n 3, 1) := by decide +kernel
theorem d_BM_layOut_16 : decode b_BM_layOut 16 = .ok (.iload_n 3, 1) := by decide +kernel
theorem d_BM_layOut_17 : decode b_BM_layOut 17 = .ok (.iload_n 2, 1) := by decide +kernel
theorem d_BM_layOut_18 : decode b_BM_layOut 18 = .ok (.if_icmp .lt 8, 3) := by decide +kernel
theorem d_BM_layOut_21 : decode b_BM_layOut 21 = .ok (.iload_n 3, 1) := by decide +kernel
theorem d_BM_layOut_22 : decode b_BM_layOut 22 = .ok (.iload_n 1, 1) := by decide +kernel
theorem d_BM_layOut_23 : decode b_BM_layOut 23 = .ok (.if_icmp .lt 7, 3) := by decide +kernel
theorem d_BM_layOut_26 : decode b_BM_layOut 26 = .ok (.iconst 1, 1) := by decide +kernel
theorem d_BM_layOut_27 : decode b_BM_layOut 27 = .ok (.goto 4, 3) := by decide +kernel
theorem d_BM_layOut_30 : decode b_BM_layOut 30 = .ok (.iconst 0, 1) := by decide +kernel
theorem d_BM_layOut_31 : decode b_BM_layOut 31 = .ok (.bastore, 1) := by decide +kernel
theorem d_BM_layOut_32 : decode b_BM_layOut 32 = .ok (.iinc 3 1, 3) := by decide +kernel
theorem d_BM_layOut_35 : decode b_BM_layOut 35 = .ok (.goto (-33), 3) := by decide +kernel
theorem d_BM_layOut_38 : decode b_BM_layOut 38 = .ok (.aload_n 0, 1) := by decide +kernel
theorem d_BM_layOut_39 : decode b_BM_layOut 39 = .ok (.iload_n 1, 1) := by decide +kernel
theorem d_BM_layOut_40 : decode b_BM_layOut 40 = .ok (.putfield 17, 3) := by decide +kernel
theorem d_BM_layOut_43 : decode b_BM_layOut 43 = .ok (.aload_n 0, 1) := by decide +kernel
theorem d_BM_layOut_44 : decode b_BM_layOut 44 = .ok (.iload_n 1, 1) := by decide +kernel
theorem d_BM_layOut_45 : decode b_BM_layOut 45 = .ok (.iload_n 2, 1) := by decide +kernel
theorem d_BM_layOut_46 : decode b_BM_layOut 46 = .ok (.isub, 1) := by decide +kernel
theorem d_BM_layOut_47 : decode b_BM_layOut 47 = .ok (.putfield 20, 3) := by decide +kernel
theorem d_BM_layOut_50 : decode b_BM_layOut 50 = .ok (.aload_n 0, 1) := by decide +kernel
theorem d_BM_layOut_51 : decode b_BM_layOut 51 = .ok (.iconst 1, 1) := by decide +kernel
theorem d_BM_layOut_52 : decode b_BM_layOut 52 = .ok (.putfield 23, 3) := by decide +kernel
theorem d_BM_layOut_55 : decode b_BM_layOut 55 = .ok (.return_, 1) := by decide +kernel
theorem d_BM_isSet_0 : decode b_BM_isSet 0 = .ok (.iload_n 1, 1) := by decide +kernel
theorem d_BM_isSet_1 : decode b_BM_isSet 1 = .ok (.ifCond .lt 21, 3) := by decide +kernel
theorem d_BM_isSet_4 : decode b_BM_isSet 4 = .ok (.iload_n 1, 1) := by decide +kernel
theorem d_BM_isSet_5 : decode b_BM_isSet 5 = .ok (.aload_n 0, 1) := by decide +kernel
theorem d_BM_isSet_6 : decode b_BM_isSet 6 = .ok (.getfield 13, 3) := by decide +kernel
theorem d_BM_isSet_9 : decode b_BM_isSet 9 = .ok (.arraylength, 1) := by decide +kernel
theorem d_BM_isSet_10 : decode b_BM_isSet 10 = .ok (.if_icmp .ge 12, 3) := by decide +kernel
theorem d_BM_isSet_13 : decode b_BM_isSet 13 = .ok (.aload_n 0, 1) := by decide +kernel
theorem d_BM_isSet_14 : decode b_BM_isSet 14 = .ok (.getfield 13, 3) := by decide +kernel
theorem d_BM_isSet_17 : decode b_BM_isSet 17 = .ok (.iload_n 1, 1) := by decide +kernel
theorem d_BM_isSet_18 : decode b_BM_isSet 18 = .ok (.baload, 1) := by decide +kernel
theorem d_BM_isSet_19 : decode b_BM_isSet 19 = .ok (.ifCond .eq 7, 3) := by decide +kernel
theorem d_BM_isSet_22 : decode b_BM_isSet 22 = .ok (.iconst 1, 1) := by decide +kernel
theorem d_BM_isSet_23 : decode b_BM_isSet 23 = .ok (.goto 4, 3) := by decide +kernel
theorem d_BM_isSet_26 : decode b_BM_isSet 26 = .ok (.iconst 0, 1) := by decide +kernel
theorem d_BM_isSet_27 : decode b_BM_isSet 27 = .ok (.ireturn, 1) := by decide +kernel
theorem d_BM_occupy_0 : decode b_BM_occupy 0 = .ok (.aload_n 0, 1) := by decide +kernel
theorem d_BM_occupy_1 : decode b_BM_occupy 1 = .ok (.iload_n 1, 1) := by decide +kernel
theorem d_BM_occupy_2 : decode b_BM_occupy 2 = .ok (.invokevirtual 27, 3) := by decide +kernel
theorem d_BM_occupy_5 : decode b_BM_occupy 5 = .ok (.ifCond .ne 25, 3) := by decide +kernel
theorem d_BM_occupy_8 : decode b_BM_occupy 8 = .ok (.aload_n 0, 1) := by decide +kernel
theorem d_BM_occupy_9 : decode b_BM_occupy 9 = .ok (.getfield 13, 3) := by decide +kernel
theorem d_BM_occupy_12 : decode b_BM_occupy 12 = .ok (.iload_n 1, 1) := by decide +kernel
theorem d_BM_occupy_13 : decode b_BM_occupy 13 = .ok (.iconst 1, 1) := by decide +kernel
theorem d_BM_occupy_14 : decode b_BM_occupy 14 = .ok (.bastore, 1) := by decide +kernel
theorem d_BM_occupy_15 : decode b_BM_occupy 15 = .ok (.aload_n 0, 1) := by decide +kernel
theorem d_BM_occupy_16 : decode b_BM_occupy 16 = .ok (.dup, 1) := by decide +kernel
theorem d_BM_occupy_17 : decode b_BM_occupy 17 = .ok (.getfield 20, 3) := by decide +kernel
theorem d_BM_occupy_20 : decode b_BM_occupy 20 = .ok (.iconst 1, 1) := by decide +kernel
theorem d_BM_occupy_21 : decode b_BM_occupy 21 = .ok (.isub, 1) := by decide +kernel
theorem d_BM_occupy_22 : decode b_BM_occupy 22 = .ok (.putfield 20, 3) := by decide +kernel
theorem d_BM_occupy_25 : decode b_BM_occupy 25 = .ok (.aload_n 0, 1) := by decide +kernel
theorem d_BM_occupy_26 : decode b_BM_occupy 26 = .ok (.iconst 1, 1) := by decide +kernel
theorem d_BM_occupy_27 : decode b_BM_occupy 27 = .ok (.putfield 23, 3) := by decide +kernel
theorem d_BM_occupy_30 : decode b_BM_occupy 30 = .ok (.return_, 1) := by decide +kernel
theorem d_BM_free_0 : decode b_BM_free 0 = .ok (.iload_n 1, 1) := by decide +kernel
theorem d_BM_free_1 : decode b_BM_free 1 = .ok (.ifCond .lt 42, 3) := by decide +kernel
theorem d_BM_free_4 : decode b_BM_free 4 = .ok (.iload_n 1, 1) := by decide +kernel
theorem d_BM_free_5 : decode b_BM_free 5 = .ok (.aload_n 0, 1) := by decide +kernel
theorem d_BM_free_6 : decode b_BM_free 6 = .ok (.getfield 17, 3) := by decide +kernel
theorem d_BM_free_9 : decode b_BM_free 9 = .ok (.if_icmp .ge 34, 3) := by decide +kernel
theorem d_BM_free_12 : decode b_BM_free 12 = .ok (.aload_n 0, 1) := by decide +kernel
theorem d_BM_free_13 : decode b_BM_free 13 = .ok (.getfield 13, 3) := by decide +kernel
theorem d_BM_free_16 : decode b_BM_free 16 = .ok (.iload_n 1, 1) := by decide +kernel
theorem d_BM_free_17 : decode b_BM_free 17 = .ok (.baload, 1) := by decide +kernel
theorem d_BM_free_18 : decode b_BM_free 18 = .ok (.ifCond .eq 25, 3) := by decide +kernel
theorem d_BM_free_21 : decode b_BM_free 21 = .ok (.aload_n 0, 1) := by decide +kernel
theorem d_BM_free_22 : decode b_BM_free 22 = .ok (.getfield 13, 3) := by decide +kernel
theorem d_BM_free_25 : decode b_BM_free 25 = .ok (.iload_n 1, 1) := by decide +kernel
theorem d_BM_free_26 : decode b_BM_free 26 = .ok (.iconst 0, 1) := by decide +kernel
theorem d_BM_free_27 : decode b_BM_free 27 = .ok (.bastore, 1) := by decide +kernel
theorem d_BM_free_28 : decode b_BM_free 28 = .ok (.aload_n 0, 1) := by decide +kernel
theorem d_BM_free_29 : decode b_BM_free 29 = .ok (.dup, 1) := by decide +kernel
theorem d_BM_free_30 : decode b_BM_free 30 = .ok (.getfield 20, 3) := by decide +kernel
theorem d_BM_free_33 : decode b_BM_free 33 = .ok (.iconst 1, 1) := by decide +kernel
theorem d_BM_free_34 : decode b_BM_free 34 = .ok (.iadd, 1) := by decide +kernel
theorem d_BM_free_35 : decode b_BM_free 35 = .ok (.putfield 20, 3) := by decide +kernel
theorem d_BM_free_38 : decode b_BM_free 38 = .ok (.aload_n 0, 1) := by decide +kernel
theorem d_BM_free_39 : decode b_BM_free 39 = .ok (.iconst 1, 1) := by decide +kernel
theorem d_BM_free_40 : decode b_BM_free 40 = .ok (.putfield 23, 3) := by decide +kernel
theorem d_BM_free_43 : decode b_BM_free 43 = .ok (.return_, 1) := by decide +kernel
theorem d_BM_byteAt_0 : decode b_BM_byteAt 0 = .ok (.iconst 0, 1) := by decide +kernel
theorem d_BM_byteAt_1 : decode b_BM_byteAt 1 = .ok (.istore_n 2, 1) := by decide +kernel
theorem d_BM_byteAt_2 : decode b_BM_byteAt 2 = .ok (.iconst 0, 1) := by decide +kernel
theorem d_BM_byteAt_3 : decode b_BM_byteAt 3 = .ok (.istore_n 3, 1) := by decide +kernel
theorem d_BM_byteAt_4 : decode b_BM_byteAt 4 = .ok (.iload_n 3, 1) := by decide +kernel
theorem d_BM_byteAt_5 : decode b_BM_byteAt 5 = .ok (.bipush 8, 2) := by decide +kernel
theorem d_BM_byteAt_7 : decode b_BM_byteAt 7 = .ok (.if_icmp .ge 28, 3) := by decide +kernel
theorem d_BM_byteAt_10 : decode b_BM_byteAt 10 = .ok (.aload_n 0, 1) := by decide +kernel
theorem d_BM_byteAt_11 : decode b_BM_byteAt 11 = .ok (.bipush 8, 2) := by decide +kernel
theorem d_BM_byteAt_13 : decode b_BM_byteAt 13 = .ok (.iload_n 1, 1) := by decide +kernel
theorem d_BM_byteAt_14 : decode b_BM_byteAt 14 = .ok (.imul, 1) := by decide +kernel
theorem d_BM_byteAt_15 : decode b_BM_byteAt 15 = .ok (.iload_n 3, 1) := by decide +kernel
theorem d_BM_byteAt_16 : decode b_BM_byteAt 16 = .ok (.iadd, 1) := by decide +kernel
theorem d_BM_byteAt_17 : decode b_BM_byteAt 17 = .ok (.invokevirtual 27, 3) := by decide +kernel
theorem d_BM_byteAt_20 : decode b_BM_byteAt 20 = .ok (.ifCond .eq 9, 3) := by decide +kernel
theorem d_BM_byteAt_23 : decode b_BM_byteAt 23 = .ok (.iload_n 2, 1) := by decide +kernel
theorem d_BM_byteAt_24 : decode b_BM_byteAt 24 = .ok (.iconst 1, 1) := by decide +kernel
theorem d_BM_byteAt_25 : decode b_BM_byteAt 25 = .ok (.iload_n 3, 1) := by decide +kernel
theorem d_BM_byteAt_26 : decode b_BM_byteAt 26 = .ok (.ishl, 1) := by decide +kernel
theorem d_BM_byteAt_27 : decode b_BM_byteAt 27 = .ok (.ior, 1) := by decide +kernel
theorem d_BM_byteAt_28 : decode b_BM_byteAt 28 = .ok (.istore_n 2, 1) := by decide +kernel
theorem d_BM_byteAt_29 : decode b_BM_byteAt 29 = .ok (.iinc 3 1, 3) := by decide +kernel
theorem d_BM_byteAt_32 : decode b_BM_byteAt 32 = .ok (.goto (-28), 3) := by decide +kernel
theorem d_BM_byteAt_35 : decode b_BM_byteAt 35 = .ok (.iload_n 2, 1) := by decide +kernel
theorem d_BM_byteAt_36 : decode b_BM_byteAt 36 = .ok (.ireturn, 1) := by decide +kernel
theorem d_BM_leastFree_0 : decode b_BM_leastFree 0 = .ok (.iconst 0, 1) := by decide +kernel
theorem d_BM_leastFree_1 : decode b_BM_leastFree 1 = .ok (.istore_n 1, 1) := by decide +kernel
theorem d_BM_leastFree_2 : decode b_BM_leastFree 2 = .ok (.iload_n 1, 1) := by decide +kernel
theorem d_BM_leastFree_3 : decode b_BM_leastFree 3 = .ok (.aload_n 0, 1) := by decide +kernel
theorem d_BM_leastFree_4 : decode b_BM_leastFree 4 = .ok (.getfield 17, 3) := by decide +kernel
theorem d_BM_leastFree_7 : decode b_BM_leastFree 7 = .ok (.if_icmp .ge 19, 3) := by decide +kernel
theorem d_BM_leastFree_10 : decode b_BM_leastFree 10 = .ok (.aload_n 0, 1) := by decide +kernel
theorem d_BM_leastFree_11 : decode b_BM_leastFree 11 = .ok (.iload_n 1, 1) := by decide +kernel
theorem d_BM_leastFree_12 : decode b_BM_leastFree 12 = .ok (.invokevirtual 27, 3) := by decide +kernel
theorem d_BM_leastFree_15 : decode b_BM_leastFree 15 = .ok (.ifCond .ne 5, 3) := by decide +kernel
theorem d_BM_leastFree_18 : decode b_BM_leastFree 18 = .ok (.iload_n 1, 1) := by decide +kernel
theorem d_BM_leastFree_19 : decode b_BM_leastFree 19 = .ok (.ireturn, 1) := by decide +kernel
theorem d_BM_leastFree_20 : decode b_BM_leastFree 20 = .ok (.iinc 1 1, 3) := by decide +kernel
theorem d_BM_leastFree_23 : decode b_BM_leastFree 23 = .ok (.goto (-21), 3) := by decide +kernel
theorem d_BM_leastFree_26 : decode b_BM_leastFree 26 = .ok (.iconst (-1), 1) := by decide +kernel
theorem d_BM_leastFree_27 : decode b_BM_leastFree 27 = .ok (.ireturn, 1) := by decide +kernel
theorem d_BM_areFree_0 : decode b_BM_areFree 0 = .ok (.iload_n 1, 1) := by decide +kernel
theorem d_BM_areFree_1 : decode b_BM_areFree 1 = .ok (.istore_n 3, 1) := by decide +kernel
theorem d_BM_areFree_2 : decode b_BM_areFree 2 = .ok (.iload_n 3, 1) := by decide +kernel
theorem d_BM_areFree_3 : decode b_BM_areFree 3 = .ok (.iload_n 1, 1) := by decide +kernel
theorem d_BM_areFree_4 : decode b_BM_areFree 4 = .ok (.iload_n 2, 1) := by decide +kernel
theorem d_BM_areFree_5 : decode b_BM_areFree 5 = .ok (.iadd, 1) := by decide +kernel
theorem d_BM_areFree_6 : decode b_BM_areFree 6 = .ok (.if_icmp .ge 19, 3) := by decide +kernel
theorem d_BM_areFree_9 : decode b_BM_areFree 9 = .ok (.aload_n 0, 1) := by decide +kernel
theorem d_BM_areFree_10 : decode b_BM_areFree 10 = .ok (.iload_n 3, 1) := by decide +kernel
theorem d_BM_areFree_11 : decode b_BM_areFree 11 = .ok (.invokevirtual 27, 3) := by decide +kernel
theorem d_BM_areFree_14 : decode b_BM_areFree 14 = .ok (.ifCond .eq 5, 3) := by decide +kernel
theorem d_BM_areFree_17 : decode b_BM_areFree 17 = .ok (.iconst 0, 1) := by decide +kernel
theorem d_BM_areFree_18 : decode b_BM_areFree 18 = .ok (.ireturn, 1) := by decide +kernel
theorem d_BM_areFree_19 : decode b_BM_areFree 19 = .ok (.iinc 3 1, 3) := by decide +kernel
theorem d_BM_areFree_22 : decode b_BM_areFree 22 = .ok (.goto (-20), 3) := by decide +kernel
theorem d_BM_areFree_25 : decode b_BM_areFree 25 = .ok (.iconst 1, 1) := by decide +kernel
theorem d_BM_areFree_26 : decode b_BM_areFree 26 = .ok (.ireturn, 1) := by decide +kernel
theorem d_BM_longestRun_0 : decode b_BM_longestRun 0 = .ok (.iconst 0, 1) := by decide +kernel
theorem d_BM_longestRun_1 : decode b_BM_longestRun 1 = .ok (.istore_n 1, 1) := by decide +kernel
theorem d_BM_longestRun_2 : decode b_BM_longestRun 2 = .ok (.iconst 0, 1) := by decide +kernel
theorem d_BM_longestRun_3 : decode b_BM_longestRun 3 = .ok (.istore_n 2, 1) := by decide +kernel
theorem d_BM_longestRun_4 : decode b_BM_longestRun 4 = .ok (.iconst 0, 1) := by decide +kernel
theorem d_BM_longestRun_5 : decode b_BM_longestRun 5 = .ok (.istore_n 3, 1) := by decide +kernel
theorem d_BM_longestRun_6 : decode b_BM_longestRun 6 = .ok (.iload_n 3, 1) := by decide +kernel
theorem d_BM_longestRun_7 : decode b_BM_longestRun 7 = .ok (.aload_n 0, 1) := by decide +kernel
theorem d_BM_longestRun_8 : decode b_BM_longestRun 8 = .ok (.getfield 17, 3) := by decide +kernel
theorem d_BM_longestRun_11 : decode b_BM_longestRun 11 = .ok (.if_icmp .ge 31, 3) := by decide +kernel
theorem d_BM_longestRun_14 : decode b_BM_longestRun 14 = .ok (.aload_n 0, 1) := by decide +kernel
theorem d_BM_longestRun_15 : decode b_BM_longestRun 15 = .ok (.iload_n 3, 1) := by decide +kernel
theorem d_BM_longestRun_16 : decode b_BM_longestRun 16 = .ok (.invokevirtual 27, 3) := by decide +kernel
theorem d_BM_longestRun_19 : decode b_BM_longestRun 19 = .ok (.ifCond .eq 7, 3) := by decide +kernel
theorem d_BM_longestRun_22 : decode b_BM_longestRun 22 = .ok (.iconst 0, 1) := by decide +kernel
theorem d_BM_longestRun_23 : decode b_BM_longestRun 23 = .ok (.goto 6, 3) := by decide +kernel
theorem d_BM_longestRun_26 : decode b_BM_longestRun 26 = .ok (.iload_n 2, 1) := by decide +kernel
theorem d_BM_longestRun_27 : decode b_BM_longestRun 27 = .ok (.iconst 1, 1) := by decide +kernel
theorem d_BM_longestRun_28 : decode b_BM_longestRun 28 = .ok (.iadd, 1) := by decide +kernel
theorem d_BM_longestRun_29 : decode b_BM_longestRun 29 = .ok (.istore_n 2, 1) := by decide +kernel
theorem d_BM_longestRun_30 : decode b_BM_longestRun 30 = .ok (.iload_n 1, 1) := by decide +kernel
theorem d_BM_longestRun_31 : decode b_BM_longestRun 31 = .ok (.iload_n 2, 1) := by decide +kernel
theorem d_BM_longestRun_32 : decode b_BM_longestRun 32 = .ok (.invokestatic 31, 3) := by decide +kernel
theorem d_BM_longestRun_35 : decode b_BM_longestRun 35 = .ok (.istore_n 1, 1) := by decide +kernel
theorem d_BM_longestRun_36 : decode b_BM_longestRun 36 = .ok (.iinc 3 1, 3) := by decide +kernel
theorem d_BM_longestRun_39 : decode b_BM_longestRun 39 = .ok (.goto (-33), 3) := by decide +kernel
theorem d_BM_longestRun_42 : decode b_BM_longestRun 42 = .ok (.iload_n 1, 1) := by decide +kernel
theorem d_BM_longestRun_43 : decode b_BM_longestRun 43 = .ok (.ireturn, 1) := by decide +kernel
theorem d_BM_shortestRun_0 : decode b_BM_shortestRun 0 = .ok (.iconst (-1), 1) := by decide +kernel
theorem d_BM_shortestRun_1 : decode b_BM_shortestRun 1 = .ok (.istore_n 2, 1) := by decide +kernel
theorem d_BM_shortestRun_2 : decode b_BM_shortestRun 2 = .ok (.aload_n 0, 1) := by decide +kernel
theorem d_BM_shortestRun_3 : decode b_BM_shortestRun 3 = .ok (.getfield 17, 3) := by decide +kernel
theorem d_BM_shortestRun_6 : decode b_BM_shortestRun 6 = .ok (.iconst 1, 1) := by decide +kernel
theorem d_BM_shortestRun_7 : decode b_BM_shortestRun 7 = .ok (.iadd, 1) := by decide +kernel
theorem d_BM_shortestRun_8 : decode b_BM_shortestRun 8 = .ok (.istore_n 3, 1) := by decide +kernel
theorem d_BM_shortestRun_9 : decode b_BM_shortestRun 9 = .ok (.iconst 0, 1) := by decide +kernel
theorem d_BM_shortestRun_10 : decode b_BM_shortestRun 10 = .ok (.istore 4, 2) := by decide +kernel
theorem d_BM_shortestRun_12 : decode b_BM_shortestRun 12 = .ok (.iconst 0, 1) := by decide +kernel
theorem d_BM_shortestRun_13 : decode b_BM_shortestRun 13 = .ok (.istore 5, 2) := by decide +kernel
theorem d_BM_shortestRun_15 : decode b_BM_shortestRun 15 = .ok (.iload 5, 2) := by decide +kernel
theorem d_BM_shortestRun_17 : decode b_BM_shortestRun 17 = .ok (.aload_n 0, 1) := by decide +kernel
theorem d_BM_shortestRun_18 : decode b_BM_shortestRun 18 = .ok (.getfield 17, 3) := by decide +kernel
theorem d_BM_shortestRun_21 : decode b_BM_shortestRun 21 = .ok (.if_icmp .ge 62, 3) := by decide +kernel
theorem d_BM_shortestRun_24 : decode b_BM_shortestRun 24 = .ok (.aload_n 0, 1) := by decide +kernel
theorem d_BM_shortestRun_25 : decode b_BM_shortestRun 25 = .ok (.iload 5, 2) := by decide +kernel
theorem d_BM_shortestRun_27 : decode b_BM_shortestRun 27 = .ok (.invokevirtual 27, 3) := by decide +kernel
theorem d_BM_shortestRun_30 : decode b_BM_shortestRun 30 = .ok (.ifCond .eq 7, 3) := by decide +kernel
theorem d_BM_shortestRun_33 : decode b_BM_shortestRun 33 = .ok (.iconst 0, 1) := by decide +kernel
theorem d_BM_shortestRun_34 : decode b_BM_shortestRun 34 = .ok (.goto 7, 3) := by decide +kernel
theorem d_BM_shortestRun_37 : decode b_BM_shortestRun 37 = .ok (.iload 4, 2) := by decide +kernel
theorem d_BM_shortestRun_39 : decode b_BM_shortestRun 39 = .ok (.iconst 1, 1) := by decide +kernel
theorem d_BM_shortestRun_40 : decode b_BM_shortestRun 40 = .ok (.iadd, 1) := by decide +kernel
theorem d_BM_shortestRun_41 : decode b_BM_shortestRun 41 = .ok (.istore 4, 2) := by decide +kernel
theorem d_BM_shortestRun_43 : decode b_BM_shortestRun 43 = .ok (.iload 4, 2) := by decide +kernel
theorem d_BM_shortestRun_45 : decode b_BM_shortestRun 45 = .ok (.iload_n 1, 1) := by decide +kernel
theorem d_BM_shortestRun_46 : decode b_BM_shortestRun 46 = .ok (.if_icmp .lt 31, 3) := by decide +kernel
theorem d_BM_shortestRun_49 : decode b_BM_shortestRun 49 = .ok (.iload 4, 2) := by decide +kernel
theorem d_BM_shortestRun_51 : decode b_BM_shortestRun 51 = .ok (.iload_n 3, 1) := by decide +kernel
theorem d_BM_shortestRun_52 : decode b_BM_shortestRun 52 = .ok (.if_icmp .ge 25, 3) := by decide +kernel
theorem d_BM_shortestRun_55 : decode b_BM_shortestRun 55 = .ok (.aload_n 0, 1) := by decide +kernel
theorem d_BM_shortestRun_56 : decode b_BM_shortestRun 56 = .ok (.iload 5, 2) := by decide +kernel
theorem d_BM_shortestRun_58 : decode b_BM_shortestRun 58 = .ok (.iconst 1, 1) := by decide +kernel
theorem d_BM_shortestRun_59 : decode b_BM_shortestRun 59 = .ok (.iadd, 1) := by decide +kernel
theorem d_BM_shortestRun_60 : decode b_BM_shortestRun 60 = .ok (.invokevirtual 27, 3) := by decide +kernel
theorem d_BM_shortestRun_63 : decode b_BM_shortestRun 63 = .ok (.ifCond .eq 14, 3) := by decide +kernel
theorem d_BM_shortestRun_66 : decode b_BM_shortestRun 66 = .ok (.iload 4, 2) := by decide +kernel
theorem d_BM_shortestRun_68 : decode b_BM_shortestRun 68 = .ok (.istore_n 3, 1) := by decide +kernel
theorem d_BM_shortestRun_69 : decode b_BM_shortestRun 69 = .ok (.iload 5, 2) := by decide +kernel
theorem d_BM_shortestRun_71 : decode b_BM_shortestRun 71 = .ok (.iconst 1, 1) := by decide +kernel
theorem d_BM_shortestRun_72 : decode b_BM_shortestRun 72 = .ok (.iadd, 1) := by decide +kernel
theorem d_BM_shortestRun_73 : decode b_BM_shortestRun 73 = .ok (.iload 4, 2) := by decide +kernel
theorem d_BM_shortestRun_75 : decode b_BM_shortestRun 75 = .ok (.isub, 1) := by decide +kernel
theorem d_BM_shortestRun_76 : decode b_BM_shortestRun 76 = .ok (.istore_n 2, 1) := by decide +kernel
theorem d_BM_shortestRun_77 : decode b_BM_shortestRun 77 = .ok (.iinc 5 1, 3) := by decide +kernel
theorem d_BM_shortestRun_80 : decode b_BM_shortestRun 80 = .ok (.goto (-65), 3) := by decide +kernel
theorem d_BM_shortestRun_83 : decode b_BM_shortestRun 83 = .ok (.iload_n 2, 1) := by decide +kernel
theorem d_BM_shortestRun_84 : decode b_BM_shortestRun 84 = .ok (.ireturn, 1) := by decide +kernel
theorem d_BM_forgetTold_0 : decode b_BM_forgetTold 0 = .ok (.aload_n 0, 1) := by decide +kernel
theorem d_BM_forgetTold_1 : decode b_BM_forgetTold 1 = .ok (.getfield 23, 3) := by decide +kernel
theorem d_BM_forgetTold_4 : decode b_BM_forgetTold 4 = .ok (.ifCond .eq 7, 3) := by decide +kernel
theorem d_BM_forgetTold_7 : decode b_BM_forgetTold 7 = .ok (.iconst 1, 1) := by decide +kernel
theorem d_BM_forgetTold_8 : decode b_BM_forgetTold 8 = .ok (.goto 4, 3) := by decide +kernel
theorem d_BM_forgetTold_11 : decode b_BM_forgetTold 11 = .ok (.iconst 0, 1) := by decide +kernel
theorem d_BM_forgetTold_12 : decode b_BM_forgetTold 12 = .ok (.istore_n 1, 1) := by decide +kernel
theorem d_BM_forgetTold_13 : decode b_BM_forgetTold 13 = .ok (.aload_n 0, 1) := by decide +kernel
theorem d_BM_forgetTold_14 : decode b_BM_forgetTold 14 = .ok (.iconst 0, 1) := by decide +kernel
theorem d_BM_forgetTold_15 : decode b_BM_forgetTold 15 = .ok (.putfield 23, 3) := by decide +kernel
theorem d_BM_forgetTold_18 : decode b_BM_forgetTold 18 = .ok (.iload_n 1, 1) := by decide +kernel
theorem d_BM_forgetTold_19 : decode b_BM_forgetTold 19 = .ok (.ireturn, 1) := by decide +kernel
theorem d_GR_init_0 : decode b_GR_init 0 = .ok (.aload_n 0, 1) := by decide +kernel
theorem d_GR_init_1 : decode b_GR_init 1 = .ok (.invokespecial 3, 3) := by decide +kernel
theorem d_GR_init_4 : decode b_GR_init 4 = .ok (.iload_n 1, 1) := by decide +kernel
theorem d_GR_init_5 : decode b_GR_init 5 = .ok (.iconst 2, 1) := by decide +kernel
theorem d_GR_init_6 : decode b_GR_init 6 = .ok (.if_icmp .ne 7, 3) := by decide +kernel
theorem d_GR_init_9 : decode b_GR_init 9 = .ok (.iconst 0, 1) := by decide +kernel
theorem d_GR_init_10 : decode b_GR_init 10 = .ok (.goto 4, 3) := by decide +kernel
theorem d_GR_init_13 : decode b_GR_init 13 = .ok (.iconst 2, 1) := by decide +kernel
theorem d_GR_init_14 : decode b_GR_init 14 = .ok (.istore_n 2, 1) := by decide +kernel
theorem d_GR_init_15 : decode b_GR_init 15 = .ok (.aload_n 0, 1) := by decide +kernel
theorem d_GR_init_16 : decode b_GR_init 16 = .ok (.iload_n 1, 1) := by decide +kernel
theorem d_GR_init_17 : decode b_GR_init 17 = .ok (.sipush 256, 3) := by decide +kernel
theorem d_GR_init_20 : decode b_GR_init 20 = .ok (.imul, 1) := by decide +kernel
theorem d_GR_init_21 : decode b_GR_init 21 = .ok (.putfield 9, 3) := by decide +kernel
theorem d_GR_init_24 : decode b_GR_init 24 = .ok (.aload_n 0, 1) := by decide +kernel
theorem d_GR_init_25 : decode b_GR_init 25 = .ok (.iload_n 2, 1) := by decide +kernel
theorem d_GR_init_26 : decode b_GR_init 26 = .ok (.iconst 2, 1) := by decide +kernel
theorem d_GR_init_27 : decode b_GR_init 27 = .ok (.iadd, 1) := by decide +kernel
theorem d_GR_init_28 : decode b_GR_init 28 = .ok (.bipush 8, 2) := by decide +kernel
theorem d_GR_init_30 : decode b_GR_init 30 = .ok (.iadd, 1) := by decide +kernel
theorem d_GR_init_31 : decode b_GR_init 31 = .ok (.putfield 15, 3) := by decide +kernel
theorem d_GR_init_34 : decode b_GR_init 34 = .ok (.aload_n 0, 1) := by decide +kernel
theorem d_GR_init_35 : decode b_GR_init 35 = .ok (.aload_n 0, 1) := by decide +kernel
theorem d_GR_init_36 : decode b_GR_init 36 = .ok (.getfield 9, 3) := by decide +kernel
theorem d_GR_init_39 : decode b_GR_init 39 = .ok (.iload_n 2, 1) := by decide +kernel
theorem d_GR_init_40 : decode b_GR_init 40 = .ok (.iadd, 1) := by decide +kernel
theorem d_GR_init_41 : decode b_GR_init 41 = .ok (.iconst 2, 1) := by decide +kernel
theorem d_GR_init_42 : decode b_GR_init 42 = .ok (.iadd, 1) := by decide +kernel
theorem d_GR_init_43 : decode b_GR_init 43 = .ok (.putfield 18, 3) := by decide +kernel
theorem d_GR_init_46 : decode b_GR_init 46 = .ok (.aload_n 0, 1) := by decide +kernel
theorem d_GR_init_47 : decode b_GR_init 47 = .ok (.new 21, 3) := by decide +kernel
theorem d_GR_init_50 : decode b_GR_init 50 = .ok (.dup, 1) := by decide +kernel
theorem d_GR_init_51 : decode b_GR_init 51 = .ok (.aload_n 0, 1) := by decide +kernel
theorem d_GR_init_52 : decode b_GR_init 52 = .ok (.getfield 9, 3) := by decide +kernel
theorem d_GR_init_55 : decode b_GR_init 55 = .ok (.iload_n 2, 1) := by decide +kernel
theorem d_GR_init_56 : decode b_GR_init 56 = .ok (.iadd, 1) := by decide +kernel
theorem d_GR_init_57 : decode b_GR_init 57 = .ok (.sipush 256, 3) := by decide +kernel
theorem d_GR_init_60 : decode b_GR_init 60 = .ok (.invokespecial 23, 3) := by decide +kernel
theorem d_GR_init_63 : decode b_GR_init 63 = .ok (.putfield 26, 3) := by decide +kernel
theorem d_GR_init_66 : decode b_GR_init 66 = .ok (.aload_n 0, 1) := by decide +kernel
theorem d_GR_init_67 : decode b_GR_init 67 = .ok (.new 21, 3) := by decide +kernel
theorem d_GR_init_70 : decode b_GR_init 70 = .ok (.dup, 1) := by decide +kernel
theorem d_GR_init_71 : decode b_GR_init 71 = .ok (.aload_n 0, 1) := by decide +kernel
theorem d_GR_init_72 : decode b_GR_init 72 = .ok (.getfield 9, 3) := by decide +kernel
theorem d_GR_init_75 : decode b_GR_init 75 = .ok (.iload_n 2, 1) := by decide +kernel
theorem d_GR_init_76 : decode b_GR_init 76 = .ok (.iadd, 1) := by decide +kernel
theorem d_GR_init_77 : decode b_GR_init 77 = .ok (.iconst 1, 1) := by decide +kernel
theorem d_GR_init_78 : decode b_GR_init 78 = .ok (.iadd, 1) := by decide +kernel
theorem d_GR_init_79 : decode b_GR_init 79 = .ok (.sipush 128, 3) := by decide +kernel
theorem d_GR_init_82 : decode b_GR_init 82 = .ok (.invokespecial 23, 3) := by decide +kernel
theorem d_GR_init_85 : decode b_GR_init 85 = .ok (.putfield 30, 3) := by decide +kernel
theorem d_GR_init_88 : decode b_GR_init 88 = .ok (.return_, 1) := by decide +kernel
theorem d_GR_layOut_0 : decode b_GR_layOut 0 = .ok (.aload_n 0, 1) := by decide +kernel
theorem d_GR_layOut_1 : decode b_GR_layOut 1 = .ok (.getfield 26, 3) := by decide +kernel
theorem d_GR_layOut_4 : decode b_GR_layOut 4 = .ok (.iload_n 1, 1) := by decide +kernel
theorem d_GR_layOut_5 : decode b_GR_layOut 5 = .ok (.aload_n 0, 1) := by decide +kernel
theorem d_GR_layOut_6 : decode b_GR_layOut 6 = .ok (.getfield 15, 3) := by decide +kernel
theorem d_GR_layOut_9 : decode b_GR_layOut 9 = .ok (.invokevirtual 33, 3) := by decide +kernel
theorem d_GR_layOut_12 : decode b_GR_layOut 12 = .ok (.aload_n 0, 1) := by decide +kernel
theorem d_GR_layOut_13 : decode b_GR_layOut 13 = .ok (.getfield 30, 3) := by decide +kernel
theorem d_GR_layOut_16 : decode b_GR_layOut 16 = .ok (.sipush 128, 3) := by decide +kernel
theorem d_GR_layOut_19 : decode b_GR_layOut 19 = .ok (.aload_n 0, 1) := by decide +kernel
theorem d_GR_layOut_20 : decode b_GR_layOut 20 = .ok (.getfield 9, 3) := by decide +kernel
theorem d_GR_layOut_23 : decode b_GR_layOut 23 = .ok (.ifCond .ne 8, 3) := by decide +kernel
theorem d_GR_layOut_26 : decode b_GR_layOut 26 = .ok (.bipush 10, 2) := by decide +kernel
theorem d_GR_layOut_28 : decode b_GR_layOut 28 = .ok (.goto 4, 3) := by decide +kernel
theorem d_GR_layOut_31 : decode b_GR_layOut 31 = .ok (.iconst 0, 1) := by decide +kernel
theorem d_GR_layOut_32 : decode b_GR_layOut 32 = .ok (.invokevirtual 33, 3) := by decide +kernel
theorem d_GR_layOut_35 : decode b_GR_layOut 35 = .ok (.aload_n 0, 1) := by decide +kernel
theorem d_GR_layOut_36 : decode b_GR_layOut 36 = .ok (.iconst 0, 1) := by decide +kernel
theorem d_GR_layOut_37 : decode b_GR_layOut 37 = .ok (.putfield 36, 3) := by decide +kernel
theorem d_GR_layOut_40 : decode b_GR_layOut 40 = .ok (.return_, 1) := by decide +kernel
theorem d_GR_bitmapIn_0 : decode b_GR_bitmapIn 0 = .ok (.iload_n 1, 1) := by decide +kernel
theorem d_GR_bitmapIn_1 : decode b_GR_bitmapIn 1 = .ok (.aload_n 0, 1) := by decide +kernel
theorem d_GR_bitmapIn_2 : decode b_GR_bitmapIn 2 = .ok (.getfield 26, 3) := by decide +kernel
theorem d_GR_bitmapIn_5 : decode b_GR_bitmapIn 5 = .ok (.getfield 39, 3) := by decide +kernel
theorem d_GR_bitmapIn_8 : decode b_GR_bitmapIn 8 = .ok (.if_icmp .ne 8, 3) := by decide +kernel
theorem d_GR_bitmapIn_11 : decode b_GR_bitmapIn 11 = .ok (.aload_n 0, 1) := by decide +kernel
theorem d_GR_bitmapIn_12 : decode b_GR_bitmapIn 12 = .ok (.getfield 26, 3) := by decide +kernel
theorem d_GR_bitmapIn_15 : decode b_GR_bitmapIn 15 = .ok (.areturn, 1) := by decide +kernel
theorem d_GR_bitmapIn_16 : decode b_GR_bitmapIn 16 = .ok (.iload_n 1, 1) := by decide +kernel
theorem d_GR_bitmapIn_17 : decode b_GR_bitmapIn 17 = .ok (.aload_n 0, 1) := by decide +kernel
theorem d_GR_bitmapIn_18 : decode b_GR_bitmapIn 18 = .ok (.getfield 30, 3) := by decide +kernel
theorem d_GR_bitmapIn_21 : decode b_GR_bitmapIn 21 = .ok (.getfield 39, 3) := by decide +kernel
theorem d_GR_bitmapIn_24 : decode b_GR_bitmapIn 24 = .ok (.if_icmp .ne 10, 3) := by decide +kernel
theorem d_GR_bitmapIn_27 : decode b_GR_bitmapIn 27 = .ok (.aload_n 0, 1) := by decide +kernel
theorem d_GR_bitmapIn_28 : decode b_GR_bitmapIn 28 = .ok (.getfield 30, 3) := by decide +kernel
theorem d_GR_bitmapIn_31 : decode b_GR_bitmapIn 31 = .ok (.goto 4, 3) := by decide +kernel
theorem d_GR_bitmapIn_34 : decode b_GR_bitmapIn 34 = .ok (.aconst_null, 1) := by decide +kernel
theorem d_GR_bitmapIn_35 : decode b_GR_bitmapIn 35 = .ok (.areturn, 1) := by decide +kernel
theorem d_GR_hasFileAndBlock_0 : decode b_GR_hasFileAndBlock 0 = .ok (.aload_n 0, 1) := by decide +kernel
theorem d_GR_hasFileAndBlock_1 : decode b_GR_hasFileAndBlock 1 = .ok (.getfield 30, 3) := by decide +kernel
theorem d_GR_hasFileAndBlock_4 : decode b_GR_hasFileAndBlock 4 = .ok (.getfield 42, 3) := by decide +kernel
theorem d_GR_hasFileAndBlock_7 : decode b_GR_hasFileAndBlock 7 = .ok (.iconst 1, 1) := by decide +kernel
theorem d_GR_hasFileAndBlock_8 : decode b_GR_hasFileAndBlock 8 = .ok (.if_icmp .lt 18, 3) := by decide +kernel
theorem d_GR_hasFileAndBlock_11 : decode b_GR_hasFileAndBlock 11 = .ok (.aload_n 0, 1) := by decide +kernel
theorem d_GR_hasFileAndBlock_12 : decode b_GR_hasFileAndBlock 12 = .ok (.getfield 26, 3) := by decide +kernel
theorem d_GR_hasFileAndBlock_15 : decode b_GR_hasFileAndBlock 15 = .ok (.getfield 42, 3) := by decide +kernel
theorem d_GR_hasFileAndBlock_18 : decode b_GR_hasFileAndBlock 18 = .ok (.iconst 1, 1) := by decide +kernel
theorem d_GR_hasFileAndBlock_19 : decode b_GR_hasFileAndBlock 19 = .ok (.if_icmp .lt 7, 3) := by decide +kernel
theorem d_GR_hasFileAndBlock_22 : decode b_GR_hasFileAndBlock 22 = .ok (.iconst 1, 1) := by decide +kernel
theorem d_GR_hasFileAndBlock_23 : decode b_GR_hasFileAndBlock 23 = .ok (.goto 4, 3) := by decide +kernel
theorem d_GR_hasFileAndBlock_26 : decode b_GR_hasFileAndBlock 26 = .ok (.iconst 0, 1) := by decide +kernel
theorem d_GR_hasFileAndBlock_27 : decode b_GR_hasFileAndBlock 27 = .ok (.ireturn, 1) := by decide +kernel
theorem d_GR_occupyFile_0 : decode b_GR_occupyFile 0 = .ok (.aload_n 0, 1) := by decide +kernel
theorem d_GR_occupyFile_1 : decode b_GR_occupyFile 1 = .ok (.getfield 30, 3) := by decide +kernel
theorem d_GR_occupyFile_4 : decode b_GR_occupyFile 4 = .ok (.invokevirtual 45, 3) := by decide +kernel
theorem d_GR_occupyFile_7 : decode b_GR_occupyFile 7 = .ok (.istore_n 2, 1) := by decide +kernel
theorem d_GR_occupyFile_8 : decode b_GR_occupyFile 8 = .ok (.aload_n 0, 1) := by decide +kernel
theorem d_GR_occupyFile_9 : decode b_GR_occupyFile 9 = .ok (.getfield 30, 3) := by decide +kernel
theorem d_GR_occupyFile_12 : decode b_GR_occupyFile 12 = .ok (.iload_n 2, 1) := by decide +kernel
theorem d_GR_occupyFile_13 : decode b_GR_occupyFile 13 = .ok (.invokevirtual 49, 3) := by decide +kernel
theorem d_GR_occupyFile_16 : decode b_GR_occupyFile 16 = .ok (.iload_n 1, 1) := by decide +kernel
theorem d_GR_occupyFile_17 : decode b_GR_occupyFile 17 = .ok (.ifCond .eq 13, 3) := by decide +kernel
theorem d_GR_occupyFile_20 : decode b_GR_occupyFile 20 = .ok (.aload_n 0, 1) := by decide +kernel
theorem d_GR_occupyFile_21 : decode b_GR_occupyFile 21 = .ok (.dup, 1) := by decide +kernel
theorem d_GR_occupyFile_22 : decode b_GR_occupyFile 22 = .ok (.getfield 36, 3) := by decide +kernel
theorem d_GR_occupyFile_25 : decode b_GR_occupyFile 25 = .ok (.iconst 1, 1) := by decide +kernel
theorem d_GR_occupyFile_26 : decode b_GR_occupyFile 26 = .ok (.iadd, 1) := by decide +kernel
theorem d_GR_occupyFile_27 : decode b_GR_occupyFile 27 = .ok (.putfield 36, 3) := by decide +kernel
theorem d_GR_occupyFile_30 : decode b_GR_occupyFile 30 = .ok (.aload_n 0, 1) := by decide +kernel
theorem d_GR_occupyFile_31 : decode b_GR_occupyFile 31 = .ok (.getfield 9, 3) := by decide +kernel
theorem d_GR_occupyFile_34 : decode b_GR_occupyFile 34 = .ok (.sipush 256, 3) := by decide +kernel
theorem d_GR_occupyFile_37 : decode b_GR_occupyFile 37 = .ok (.idiv, 1) := by decide +kernel
theorem d_GR_occupyFile_38 : decode b_GR_occupyFile 38 = .ok (.sipush 128, 3) := by decide +kernel
theorem d_GR_occupyFile_41 : decode b_GR_occupyFile 41 = .ok (.imul, 1) := by decide +kernel
theorem d_GR_occupyFile_42 : decode b_GR_occupyFile 42 = .ok (.iload_n 2, 1) := by decide +kernel
theorem d_GR_occupyFile_43 : decode b_GR_occupyFile 43 = .ok (.iadd, 1) := by decide +kernel
theorem d_GR_occupyFile_44 : decode b_GR_occupyFile 44 = .ok (.iconst 1, 1) := by decide +kernel
theorem d_GR_occupyFile_45 : decode b_GR_occupyFile 45 = .ok (.iadd, 1) := by decide +kernel
theorem d_GR_occupyFile_46 : decode b_GR_occupyFile 46 = .ok (.ireturn, 1) := by decide +kernel
theorem d_GR_freeFile_0 : decode b_GR_freeFile 0 = .ok (.aload_n 0, 1) := by decide +kernel
theorem d_GR_freeFile_1 : decode b_GR_freeFile 1 = .ok (.getfield 30, 3) := by decide +kernel
theorem d_GR_freeFile_4 : decode b_GR_freeFile 4 = .ok (.iload_n 1, 1) := by decide +kernel
theorem d_GR_freeFile_5 : decode b_GR_freeFile 5 = .ok (.invokevirtual 53, 3) := by decide +kernel
theorem d_GR_freeFile_8 : decode b_GR_freeFile 8 = .ok (.iload_n 2, 1) := by decide +kernel
theorem d_GR_freeFile_9 : decode b_GR_freeFile 9 = .ok (.ifCond .eq 13, 3) := by decide +kernel
theorem d_GR_freeFile_12 : decode b_GR_freeFile 12 = .ok (.aload_n 0, 1) := by decide +kernel
theorem d_GR_freeFile_13 : decode b_GR_freeFile 13 = .ok (.dup, 1) := by decide +kernel
theorem d_GR_freeFile_14 : decode b_GR_freeFile 14 = .ok (.getfield 36, 3) := by decide +kernel
theorem d_GR_freeFile_17 : decode b_GR_freeFile 17 = .ok (.iconst 1, 1) := by decide +kernel
theorem d_GR_freeFile_18 : decode b_GR_freeFile 18 = .ok (.isub, 1) := by decide +kernel
theorem d_GR_freeFile_19 : decode b_GR_freeFile 19 = .ok (.putfield 36, 3) := by decide +kernel
theorem d_GR_freeFile_22 : decode b_GR_freeFile 22 = .ok (.return_, 1) := by decide +kernel
theorem d_GR_tableByte_0 : decode b_GR_tableByte 0 = .ok (.iload_n 1, 1) := by decide +kernel
theorem d_GR_tableByte_1 : decode b_GR_tableByte 1 = .ok (.iconst 4, 1) := by decide +kernel
theorem d_GR_tableByte_2 : decode b_GR_tableByte 2 = .ok (.if_icmp .ge 15, 3) := by decide +kernel
theorem d_GR_tableByte_5 : decode b_GR_tableByte 5 = .ok (.aload_n 0, 1) := by decide +kernel
theorem d_GR_tableByte_6 : decode b_GR_tableByte 6 = .ok (.getfield 26, 3) := by decide +kernel
theorem d_GR_tableByte_9 : decode b_GR_tableByte 9 = .ok (.getfield 39, 3) := by decide +kernel
theorem d_GR_tableByte_12 : decode b_GR_tableByte 12 = .ok (.iload_n 1, 1) := by decide +kernel
theorem d_GR_tableByte_13 : decode b_GR_tableByte 13 = .ok (.invokestatic 56, 3) := by decide +kernel
theorem d_GR_tableByte_16 : decode b_GR_tableByte 16 = .ok (.ireturn, 1) := by decide +kernel
theorem d_GR_tableByte_17 : decode b_GR_tableByte 17 = .ok (.iload_n 1, 1) := by decide +kernel
theorem d_GR_tableByte_18 : decode b_GR_tableByte 18 = .ok (.bipush 8, 2) := by decide +kernel
theorem d_GR_tableByte_20 : decode b_GR_tableByte 20 = .ok (.if_icmp .ge 17, 3) := by decide +kernel
theorem d_GR_tableByte_23 : decode b_GR_tableByte 23 = .ok (.aload_n 0, 1) := by decide +kernel
theorem d_GR_tableByte_24 : decode b_GR_tableByte 24 = .ok (.getfield 30, 3) := by decide +kernel
theorem d_GR_tableByte_27 : decode b_GR_tableByte 27 = .ok (.getfield 39, 3) := by decide +kernel
theorem d_GR_tableByte_30 : decode b_GR_tableByte 30 = .ok (.iload_n 1, 1) := by decide +kernel
theorem d_GR_tableByte_31 : decode b_GR_tableByte 31 = .ok (.iconst 4, 1) := by decide +kernel
theorem d_GR_tableByte_32 : decode b_GR_tableByte 32 = .ok (.isub, 1) := by decide +kernel
theorem d_GR_tableByte_33 : decode b_GR_tableByte 33 = .ok (.invokestatic 56, 3) := by decide +kernel
theorem d_GR_tableByte_36 : decode b_GR_tableByte 36 = .ok (.ireturn, 1) := by decide +kernel
theorem d_GR_tableByte_37 : decode b_GR_tableByte 37 = .ok (.iload_n 1, 1) := by decide +kernel
theorem d_GR_tableByte_38 : decode b_GR_tableByte 38 = .ok (.bipush 12, 2) := by decide +kernel
theorem d_GR_tableByte_40 : decode b_GR_tableByte 40 = .ok (.if_icmp .ge 15, 3) := by decide +kernel
theorem d_GR_tableByte_43 : decode b_GR_tableByte 43 = .ok (.aload_n 0, 1) := by decide +kernel
theorem d_GR_tableByte_44 : decode b_GR_tableByte 44 = .ok (.getfield 18, 3) := by decide +kernel
theorem d_GR_tableByte_47 : decode b_GR_tableByte 47 = .ok (.iload_n 1, 1) := by decide +kernel
theorem d_GR_tableByte_48 : decode b_GR_tableByte 48 = .ok (.bipush 8, 2) := by decide +kernel
theorem d_GR_tableByte_50 : decode b_GR_tableByte 50 = .ok (.isub, 1) := by decide +kernel
theorem d_GR_tableByte_51 : decode b_GR_tableByte 51 = .ok (.invokestatic 56, 3) := by decide +kernel
theorem d_GR_tableByte_54 : decode b_GR_tableByte 54 = .ok (.ireturn, 1) := by decide +kernel
theorem d_GR_tableByte_55 : decode b_GR_tableByte 55 = .ok (.iload_n 1, 1) := by decide +kernel
theorem d_GR_tableByte_56 : decode b_GR_tableByte 56 = .ok (.bipush 14, 2) := by decide +kernel
theorem d_GR_tableByte_58 : decode b_GR_tableByte 58 = .ok (.if_icmp .ge 18, 3) := by decide +kernel
theorem d_GR_tableByte_61 : decode b_GR_tableByte 61 = .ok (.aload_n 0, 1) := by decide +kernel
theorem d_GR_tableByte_62 : decode b_GR_tableByte 62 = .ok (.getfield 26, 3) := by decide +kernel
theorem d_GR_tableByte_65 : decode b_GR_tableByte 65 = .ok (.getfield 42, 3) := by decide +kernel
theorem d_GR_tableByte_68 : decode b_GR_tableByte 68 = .ok (.iload_n 1, 1) := by decide +kernel
theorem d_GR_tableByte_69 : decode b_GR_tableByte 69 = .ok (.bipush 12, 2) := by decide +kernel
theorem d_GR_tableByte_71 : decode b_GR_tableByte 71 = .ok (.isub, 1) := by decide +kernel
theorem d_GR_tableByte_72 : decode b_GR_tableByte 72 = .ok (.invokestatic 56, 3) := by decide +kernel
theorem d_GR_tableByte_75 : decode b_GR_tableByte 75 = .ok (.ireturn, 1) := by decide +kernel
theorem d_GR_tableByte_76 : decode b_GR_tableByte 76 = .ok (.iload_n 1, 1) := by decide +kernel
theorem d_GR_tableByte_77 : decode b_GR_tableByte 77 = .ok (.bipush 16, 2) := by decide +kernel
theorem d_GR_tableByte_79 : decode b_GR_tableByte 79 = .ok (.if_icmp .ge 18, 3) := by decide +kernel
theorem d_GR_tableByte_82 : decode b_GR_tableByte 82 = .ok (.aload_n 0, 1) := by decide +kernel
theorem d_GR_tableByte_83 : decode b_GR_tableByte 83 = .ok (.getfield 30, 3) := by decide +kernel
theorem d_GR_tableByte_86 : decode b_GR_tableByte 86 = .ok (.getfield 42, 3) := by decide +kernel
theorem d_GR_tableByte_89 : decode b_GR_tableByte 89 = .ok (.iload_n 1, 1) := by decide +kernel
theorem d_GR_tableByte_90 : decode b_GR_tableByte 90 = .ok (.bipush 14, 2) := by decide +kernel
theorem d_GR_tableByte_92 : decode b_GR_tableByte 92 = .ok (.isub, 1) := by decide +kernel
theorem d_GR_tableByte_93 : decode b_GR_tableByte 93 = .ok (.invokestatic 56, 3) := by decide +kernel
theorem d_GR_tableByte_96 : decode b_GR_tableByte 96 = .ok (.ireturn, 1) := by decide +kernel
theorem d_GR_tableByte_97 : decode b_GR_tableByte 97 = .ok (.iload_n 1, 1) := by decide +kernel
theorem d_GR_tableByte_98 : decode b_GR_tableByte 98 = .ok (.bipush 18, 2) := by decide +kernel
theorem d_GR_tableByte_100 : decode b_GR_tableByte 100 = .ok (.if_icmp .ge 17, 3) := by decide +kernel
theorem d_GR_tableByte_103 : decode b_GR_tableByte 103 = .ok (.aload_n 0, 1) := by decide +kernel
theorem d_GR_tableByte_104 : decode b_GR_tableByte 104 = .ok (.getfield 36, 3) := by decide +kernel
theorem d_GR_tableByte_107 : decode b_GR_tableByte 107 = .ok (.iload_n 1, 1) := by decide +kernel
theorem d_GR_tableByte_108 : decode b_GR_tableByte 108 = .ok (.bipush 16, 2) := by decide +kernel
theorem d_GR_tableByte_110 : decode b_GR_tableByte 110 = .ok (.isub, 1) := by decide +kernel
theorem d_GR_tableByte_111 : decode b_GR_tableByte 111 = .ok (.invokestatic 56, 3) := by decide +kernel
theorem d_GR_tableByte_114 : decode b_GR_tableByte 114 = .ok (.goto 4, 3) := by decide +kernel
theorem d_GR_tableByte_117 : decode b_GR_tableByte 117 = .ok (.iconst 0, 1) := by decide +kernel
theorem d_GR_tableByte_118 : decode b_GR_tableByte 118 = .ok (.ireturn, 1) := by decide +kernel
theorem d_GR_byteOfNumber_0 : decode b_GR_byteOfNumber 0 = .ok (.iload_n 0, 1) := by decide +kernel
theorem d_GR_byteOfNumber_1 : decode b_GR_byteOfNumber 1 = .ok (.bipush 8, 2) := by decide +kernel
theorem d_GR_byteOfNumber_3 : decode b_GR_byteOfNumber 3 = .ok (.iload_n 1, 1) := by decide +kernel
theorem d_GR_byteOfNumber_4 : decode b_GR_byteOfNumber 4 = .ok (.imul, 1) := by decide +kernel
theorem d_GR_byteOfNumber_5 : decode b_GR_byteOfNumber 5 = .ok (.ishr, 1) := by decide +kernel
theorem d_GR_byteOfNumber_6 : decode b_GR_byteOfNumber 6 = .ok (.sipush 255, 3) := by decide +kernel
theorem d_GR_byteOfNumber_9 : decode b_GR_byteOfNumber 9 = .ok (.iand, 1) := by decide +kernel
theorem d_GR_byteOfNumber_10 : decode b_GR_byteOfNumber 10 = .ok (.ireturn, 1) := by decide +kernel
end
section
theorem d_MD_init_0 : decode b_MD_init 0 = .ok (.aload_n 0, 1) := by decide +kernel
theorem d_MD_init_1 : decode b_MD_init 1 = .ok (.invokespecial 1, 3) := by decide +kernel
theorem d_MD_init_4 : decode b_MD_init 4 = .ok (.aload_n 0, 1) := by decide +kernel
theorem d_MD_init_5 : decode b_MD_init 5 = .ok (.iconst 4, 1) := by decide +kernel
theorem d_MD_init_6 : decode b_MD_init 6 = .ok (.newarray .int, 2) := by decide +kernel
theorem d_MD_init_8 : decode b_MD_init 8 = .ok (.putfield 7, 3) := by decide +kernel
theorem d_MD_init_11 : decode b_MD_init 11 = .ok (.aload_n 0, 1) := by decide +kernel
theorem d_MD_init_12 : decode b_MD_init 12 = .ok (.sipush 1024, 3) := by decide +kernel
theorem d_MD_init_15 : decode b_MD_init 15 = .ok (.newarray .boolean, 2) := by decide +kernel
theorem d_MD_init_17 : decode b_MD_init 17 = .ok (.putfield 13, 3) := by decide +kernel
theorem d_MD_init_20 : decode b_MD_init 20 = .ok (.aload_n 0, 1) := by decide +kernel
theorem d_MD_init_21 : decode b_MD_init 21 = .ok (.sipush 512, 3) := by decide +kernel
theorem d_MD_init_24 : decode b_MD_init 24 = .ok (.newarray .boolean, 2) := by decide +kernel
theorem d_MD_init_26 : decode b_MD_init 26 = .ok (.putfield 17, 3) := by decide +kernel
theorem d_MD_init_29 : decode b_MD_init 29 = .ok (.aload_n 0, 1) := by decide +kernel
theorem d_MD_init_30 : decode b_MD_init 30 = .ok (.iconst 4, 1) := by decide +kernel
theorem d_MD_init_31 : decode b_MD_init 31 = .ok (.newarray .int, 2) := by decide +kernel
theorem d_MD_init_33 : decode b_MD_init 33 = .ok (.putfield 20, 3) := by decide +kernel
theorem d_MD_init_36 : decode b_MD_init 36 = .ok (.aload_n 0, 1) := by decide +kernel
theorem d_MD_init_37 : decode b_MD_init 37 = .ok (.sipush 1024, 3) := by decide +kernel
theorem d_MD_init_40 : decode b_MD_init 40 = .ok (.newarray .boolean, 2) := by decide +kernel
theorem d_MD_init_42 : decode b_MD_init 42 = .ok (.putfield 23, 3) := by decide +kernel
theorem d_MD_init_45 : decode b_MD_init 45 = .ok (.aload_n 0, 1) := by decide +kernel
theorem d_MD_init_46 : decode b_MD_init 46 = .ok (.iconst 4, 1) := by decide +kernel
theorem d_MD_init_47 : decode b_MD_init 47 = .ok (.sipush 256, 3) := by decide +kernel
theorem d_MD_init_50 : decode b_MD_init 50 = .ok (.invokevirtual 26, 3) := by decide +kernel
theorem d_MD_init_53 : decode b_MD_init 53 = .ok (.return_, 1) := by decide +kernel
theorem d_MD_thrown_0 : decode b_MD_thrown 0 = .ok (.aload_n 0, 1) := by decide +kernel
theorem d_MD_thrown_1 : decode b_MD_thrown 1 = .ok (.getfield 30, 3) := by decide +kernel
theorem d_MD_thrown_4 : decode b_MD_thrown 4 = .ok (.ireturn, 1) := by decide +kernel
theorem d_MD_heads_0 : decode b_MD_heads 0 = .ok (.iload_n 0, 1) := by decide +kernel
theorem d_MD_heads_1 : decode b_MD_heads 1 = .ok (.iconst 2, 1) := by decide +kernel
theorem d_MD_heads_2 : decode b_MD_heads 2 = .ok (.if_icmp .ne 7, 3) := by decide +kernel
theorem d_MD_heads_5 : decode b_MD_heads 5 = .ok (.iconst 0, 1) := by decide +kernel
theorem d_MD_heads_6 : decode b_MD_heads 6 = .ok (.goto 4, 3) := by decide +kernel
theorem d_MD_heads_9 : decode b_MD_heads 9 = .ok (.iconst 2, 1) := by decide +kernel
theorem d_MD_heads_10 : decode b_MD_heads 10 = .ok (.ireturn, 1) := by decide +kernel
theorem d_MD_bitmap_0 : decode b_MD_bitmap 0 = .ok (.sipush 256, 3) := by decide +kernel
theorem d_MD_bitmap_3 : decode b_MD_bitmap 3 = .ok (.iload_n 0, 1) := by decide +kernel
theorem d_MD_bitmap_4 : decode b_MD_bitmap 4 = .ok (.imul, 1) := by decide +kernel
theorem d_MD_bitmap_5 : decode b_MD_bitmap 5 = .ok (.iload_n 0, 1) := by decide +kernel
theorem d_MD_bitmap_6 : decode b_MD_bitmap 6 = .ok (.invokestatic 34, 3) := by decide +kernel
theorem d_MD_bitmap_9 : decode b_MD_bitmap 9 = .ok (.iadd, 1) := by decide +kernel
theorem d_MD_bitmap_10 : decode b_MD_bitmap 10 = .ok (.ireturn, 1) := by decide +kernel
theorem d_MD_fixed_0 : decode b_MD_fixed 0 = .ok (.iload_n 0, 1) := by decide +kernel
theorem d_MD_fixed_1 : decode b_MD_fixed 1 = .ok (.invokestatic 34, 3) := by decide +kernel
theorem d_MD_fixed_4 : decode b_MD_fixed 4 = .ok (.bipush 10, 2) := by decide +kernel
theorem d_MD_fixed_6 : decode b_MD_fixed 6 = .ok (.iadd, 1) := by decide +kernel
theorem d_MD_fixed_7 : decode b_MD_fixed 7 = .ok (.ireturn, 1) := by decide +kernel
theorem d_MD_layOut_0 : decode b_MD_layOut 0 = .ok (.aload_n 0, 1) := by decide +kernel
theorem d_MD_layOut_1 : decode b_MD_layOut 1 = .ok (.iload_n 1, 1) := by decide +kernel
theorem d_MD_layOut_2 : decode b_MD_layOut 2 = .ok (.putfield 38, 3) := by decide +kernel
theorem d_MD_layOut_5 : decode b_MD_layOut 5 = .ok (.aload_n 0, 1) := by decide +kernel
theorem d_MD_layOut_6 : decode b_MD_layOut 6 = .ok (.iconst 0, 1) := by decide +kernel
theorem d_MD_layOut_7 : decode b_MD_layOut 7 = .ok (.putfield 41, 3) := by decide +kernel
theorem d_MD_layOut_10 : decode b_MD_layOut 10 = .ok (.aload_n 0, 1) := by decide +kernel
theorem d_MD_layOut_11 : decode b_MD_layOut 11 = .ok (.iconst 0, 1) := by decide +kernel
theorem d_MD_layOut_12 : decode b_MD_layOut 12 = .ok (.putfield 44, 3) := by decide +kernel
theorem d_MD_layOut_15 : decode b_MD_layOut 15 = .ok (.aload_n 0, 1) := by decide +kernel
theorem d_MD_layOut_16 : decode b_MD_layOut 16 = .ok (.getfield 23, 3) := by decide +kernel
theorem d_MD_layOut_19 : decode b_MD_layOut 19 = .ok (.iconst 1, 1) := by decide +kernel
theorem d_MD_layOut_20 : decode b_MD_layOut 20 = .ok (.iconst 1, 1) := by decide +kernel
theorem d_MD_layOut_21 : decode b_MD_layOut 21 = .ok (.bastore, 1) := by decide +kernel
theorem d_MD_layOut_22 : decode b_MD_layOut 22 = .ok (.iconst 0, 1) := by decide +kernel
theorem d_MD_layOut_23 : decode b_MD_layOut 23 = .ok (.istore_n 3, 1) := by decide +kernel
theorem d_MD_layOut_24 : decode b_MD_layOut 24 = .ok (.iload_n 3, 1) := by decide +kernel
theorem d_MD_layOut_25 : decode b_MD_layOut 25 = .ok (.aload_n 0, 1) := by decide +kernel
theorem d_MD_layOut_26 : decode b_MD_layOut 26 = .ok (.getfield 38, 3) := by decide +kernel
theorem d_MD_layOut_29 : decode b_MD_layOut 29 = .ok (.if_icmp .ge 151, 3) := by decide +kernel
theorem d_MD_layOut_32 : decode b_MD_layOut 32 = .ok (.aload_n 0, 1) := by decide +kernel
theorem d_MD_layOut_33 : decode b_MD_layOut 33 = .ok (.getfield 7, 3) := by decide +kernel
theorem d_MD_layOut_36 : decode b_MD_layOut 36 = .ok (.iload_n 3, 1) := by decide +kernel
theorem d_MD_layOut_37 : decode b_MD_layOut 37 = .ok (.iload_n 3, 1) := by decide +kernel
theorem d_MD_layOut_38 : decode b_MD_layOut 38 = .ok (.aload_n 0, 1) := by decide +kernel
theorem d_MD_layOut_39 : decode b_MD_layOut 39 = .ok (.getfield 38, 3) := by decide +kernel
theorem d_MD_layOut_42 : decode b_MD_layOut 42 = .ok (.iconst 1, 1) := by decide +kernel
theorem d_MD_layOut_43 : decode b_MD_layOut 43 = .ok (.isub, 1) := by decide +kernel
theorem d_MD_layOut_44 : decode b_MD_layOut 44 = .ok (.if_icmp .ne 7, 3) := by decide +kernel
theorem d_MD_layOut_47 : decode b_MD_layOut 47 = .ok (.iload_n 2, 1) := by decide +kernel
theorem d_MD_layOut_48 : decode b_MD_layOut 48 = .ok (.goto 6, 3) := by decide +kernel
theorem d_MD_layOut_51 : decode b_MD_layOut 51 = .ok (.sipush 256, 3) := by decide +kernel
theorem d_MD_layOut_54 : decode b_MD_layOut 54 = .ok (.iastore, 1) := by decide +kernel
theorem d_MD_layOut_55 : decode b_MD_layOut 55 = .ok (.aload_n 0, 1) := by decide +kernel
theorem d_MD_layOut_56 : decode b_MD_layOut 56 = .ok (.getfield 20, 3) := by decide +kernel
theorem d_MD_layOut_59 : decode b_MD_layOut 59 = .ok (.iload_n 3, 1) := by decide +kernel
theorem d_MD_layOut_60 : decode b_MD_layOut 60 = .ok (.iconst 0, 1) := by decide +kernel
theorem d_MD_layOut_61 : decode b_MD_layOut 61 = .ok (.iastore, 1) := by decide +kernel
theorem d_MD_layOut_62 : decode b_MD_layOut 62 = .ok (.aload_n 0, 1) := by decide +kernel
theorem d_MD_layOut_63 : decode b_MD_layOut 63 = .ok (.getfield 23, 3) := by decide +kernel
theorem d_MD_layOut_66 : decode b_MD_layOut 66 = .ok (.iload_n 3, 1) := by decide +kernel
theorem d_MD_layOut_67 : decode b_MD_layOut 67 = .ok (.invokestatic 47, 3) := by decide +kernel
theorem d_MD_layOut_70 : decode b_MD_layOut 70 = .ok (.iconst 1, 1) := by decide +kernel
theorem d_MD_layOut_71 : decode b_MD_layOut 71 = .ok (.bastore, 1) := by decide +kernel
theorem d_MD_layOut_72 : decode b_MD_layOut 72 = .ok (.aload_n 0, 1) := by decide +kernel
theorem d_MD_layOut_73 : decode b_MD_layOut 73 = .ok (.getfield 23, 3) := by decide +kernel
theorem d_MD_layOut_76 : decode b_MD_layOut 76 = .ok (.iload_n 3, 1) := by decide +kernel
theorem d_MD_layOut_77 : decode b_MD_layOut 77 = .ok (.invokestatic 47, 3) := by decide +kernel
theorem d_MD_layOut_80 : decode b_MD_layOut 80 = .ok (.iconst 1, 1) := by decide +kernel
theorem d_MD_layOut_81 : decode b_MD_layOut 81 = .ok (.iadd, 1) := by decide +kernel
theorem d_MD_layOut_82 : decode b_MD_layOut 82 = .ok (.iconst 1, 1) := by decide +kernel
theorem d_MD_layOut_83 : decode b_MD_layOut 83 = .ok (.bastore, 1) := by decide +kernel
theorem d_MD_layOut_84 : decode b_MD_layOut 84 = .ok (.iconst 0, 1) := by decide +kernel
theorem d_MD_layOut_85 : decode b_MD_layOut 85 = .ok (.istore 4, 2) := by decide +kernel
theorem d_MD_layOut_87 : decode b_MD_layOut 87 = .ok (.iload 4, 2) := by decide +kernel
theorem d_MD_layOut_89 : decode b_MD_layOut 89 = .ok (.sipush 256, 3) := by decide +kernel
theorem d_MD_layOut_92 : decode b_MD_layOut 92 = .ok (.if_icmp .ge 36, 3) := by decide +kernel
theorem d_MD_layOut_95 : decode b_MD_layOut 95 = .ok (.aload_n 0, 1) := by decide +kernel
theorem d_MD_layOut_96 : decode b_MD_layOut 96 = .ok (.getfield 13, 3) := by decide +kernel
theorem d_MD_layOut_99 : decode b_MD_layOut 99 = .ok (.sipush 256, 3) := by decide +kernel
theorem d_MD_layOut_102 : decode b_MD_layOut 102 = .ok (.iload_n 3, 1) := by decide +kernel
theorem d_MD_layOut_103 : decode b_MD_layOut 103 = .ok (.imul, 1) := by decide +kernel
theorem d_MD_layOut_104 : decode b_MD_layOut 104 = .ok (.iload 4, 2) := by decide +kernel
theorem d_MD_layOut_106 : decode b_MD_layOut 106 = .ok (.iadd, 1) := by decide +kernel
theorem d_MD_layOut_107 : decode b_MD_layOut 107 = .ok (.iload 4, 2) := by decide +kernel
theorem d_MD_layOut_109 : decode b_MD_layOut 109 = .ok (.iload_n 3, 1) := by decide +kernel
theorem d_MD_layOut_110 : decode b_MD_layOut 110 = .ok (.invokestatic 50, 3) := by decide +kernel
theorem d_MD_layOut_113 : decode b_MD_layOut 113 = .ok (.if_icmp .ge 7, 3) := by decide +kernel
theorem d_MD_layOut_116 : decode b_MD_layOut 116 = .ok (.iconst 1, 1) := by decide +kernel
theorem d_MD_layOut_117 : decode b_MD_layOut 117 = .ok (.goto 4, 3) := by decide +kernel
theorem d_MD_layOut_120 : decode b_MD_layOut 120 = .ok (.iconst 0, 1) := by decide +kernel
theorem d_MD_layOut_121 : decode b_MD_layOut 121 = .ok (.bastore, 1) := by decide +kernel
theorem d_MD_layOut_122 : decode b_MD_layOut 122 = .ok (.iinc 4 1, 3) := by decide +kernel
theorem d_MD_layOut_125 : decode b_MD_layOut 125 = .ok (.goto (-38), 3) := by decide +kernel
theorem d_MD_layOut_128 : decode b_MD_layOut 128 = .ok (.iconst 0, 1) := by decide +kernel
theorem d_MD_layOut_129 : decode b_MD_layOut 129 = .ok (.istore 4, 2) := by decide +kernel
theorem d_MD_layOut_131 : decode b_MD_layOut 131 = .ok (.iload 4, 2) := by decide +kernel
theorem d_MD_layOut_133 : decode b_MD_layOut 133 = .ok (.sipush 128, 3) := by decide +kernel
theorem d_MD_layOut_136 : decode b_MD_layOut 136 = .ok (.if_icmp .ge 38, 3) := by decide +kernel
theorem d_MD_layOut_139 : decode b_MD_layOut 139 = .ok (.aload_n 0, 1) := by decide +kernel
theorem d_MD_layOut_140 : decode b_MD_layOut 140 = .ok (.getfield 17, 3) := by decide +kernel
theorem d_MD_layOut_143 : decode b_MD_layOut 143 = .ok (.sipush 128, 3) := by decide +kernel
theorem d_MD_layOut_146 : decode b_MD_layOut 146 = .ok (.iload_n 3, 1) := by decide +kernel
theorem d_MD_layOut_147 : decode b_MD_layOut 147 = .ok (.imul, 1) := by decide +kernel
theorem d_MD_layOut_148 : decode b_MD_layOut 148 = .ok (.iload 4, 2) := by decide +kernel
theorem d_MD_layOut_150 : decode b_MD_layOut 150 = .ok (.iadd, 1) := by decide +kernel
theorem d_MD_layOut_151 : decode b_MD_layOut 151 = .ok (.iload_n 3, 1) := by decide +kernel
theorem d_MD_layOut_152 : decode b_MD_layOut 152 = .ok (.ifCond .ne 14, 3) := by decide +kernel
theorem d_MD_layOut_155 : decode b_MD_layOut 155 = .ok (.iload 4, 2) := by decide +kernel
theorem d_MD_layOut_157 : decode b_MD_layOut 157 = .ok (.bipush 10, 2) := by decide +kernel
theorem d_MD_layOut_159 : decode b_MD_layOut 159 = .ok (.if_icmp .ge 7, 3) := by decide +kernel
theorem d_MD_layOut_162 : decode b_MD_layOut 162 = .ok (.iconst 1, 1) := by decide +kernel
theorem d_MD_layOut_163 : decode b_MD_layOut 163 = .ok (.goto 4, 3) := by decide +kernel
theorem d_MD_layOut_166 : decode b_MD_layOut 166 = .ok (.iconst 0, 1) := by decide +kernel
theorem d_MD_layOut_167 : decode b_MD_layOut 167 = .ok (.bastore, 1) := by decide +kernel
theorem d_MD_layOut_168 : decode b_MD_layOut 168 = .ok (.iinc 4 1, 3) := by decide +kernel
theorem d_MD_layOut_171 : decode b_MD_layOut 171 = .ok (.goto (-40), 3) := by decide +kernel
theorem d_MD_layOut_174 : decode b_MD_layOut 174 = .ok (.iinc 3 1, 3) := by decide +kernel
theorem d_MD_layOut_177 : decode b_MD_layOut 177 = .ok (.goto (-153), 3) := by decide +kernel
theorem d_MD_layOut_180 : decode b_MD_layOut 180 = .ok (.return_, 1) := by decide +kernel
theorem d_MD_freeBlocks_0 : decode b_MD_freeBlocks 0 = .ok (.iconst 0, 1) := by decide +kernel
theorem d_MD_freeBlocks_1 : decode b_MD_freeBlocks 1 = .ok (.istore_n 2, 1) := by decide +kernel
theorem d_MD_freeBlocks_2 : decode b_MD_freeBlocks 2 = .ok (.iconst 0, 1) := by decide +kernel
theorem d_MD_freeBlocks_3 : decode b_MD_freeBlocks 3 = .ok (.istore_n 3, 1) := by decide +kernel
theorem d_MD_freeBlocks_4 : decode b_MD_freeBlocks 4 = .ok (.iload_n 3, 1) := by decide +kernel
theorem d_MD_freeBlocks_5 : decode b_MD_freeBlocks 5 = .ok (.aload_n 0, 1) := by decide +kernel
theorem d_MD_freeBlocks_6 : decode b_MD_freeBlocks 6 = .ok (.getfield 7, 3) := by decide +kernel
theorem d_MD_freeBlocks_9 : decode b_MD_freeBlocks 9 = .ok (.iload_n 1, 1) := by decide +kernel
theorem d_MD_freeBlocks_10 : decode b_MD_freeBlocks 10 = .ok (.iaload, 1) := by decide +kernel
theorem d_MD_freeBlocks_11 : decode b_MD_freeBlocks 11 = .ok (.if_icmp .ge 32, 3) := by decide +kernel
theorem d_MD_freeBlocks_14 : decode b_MD_freeBlocks 14 = .ok (.aload_n 0, 1) := by decide +kernel
theorem d_MD_freeBlocks_15 : decode b_MD_freeBlocks 15 = .ok (.getfield 13, 3) := by decide +kernel
theorem d_MD_freeBlocks_18 : decode b_MD_freeBlocks 18 = .ok (.sipush 256, 3) := by decide +kernel
theorem d_MD_freeBlocks_21 : decode b_MD_freeBlocks 21 = .ok (.iload_n 1, 1) := by decide +kernel
theorem d_MD_freeBlocks_22 : decode b_MD_freeBlocks 22 = .ok (.imul, 1) := by decide +kernel
theorem d_MD_freeBlocks_23 : decode b_MD_freeBlocks 23 = .ok (.iload_n 3, 1) := by decide +kernel
theorem d_MD_freeBlocks_24 : decode b_MD_freeBlocks 24 = .ok (.iadd, 1) := by decide +kernel
theorem d_MD_freeBlocks_25 : decode b_MD_freeBlocks 25 = .ok (.baload, 1) := by decide +kernel
theorem d_MD_freeBlocks_26 : decode b_MD_freeBlocks 26 = .ok (.ifCond .eq 7, 3) := by decide +kernel
theorem d_MD_freeBlocks_29 : decode b_MD_freeBlocks 29 = .ok (.iload_n 2, 1) := by decide +kernel
theorem d_MD_freeBlocks_30 : decode b_MD_freeBlocks 30 = .ok (.goto 6, 3) := by decide +kernel
theorem d_MD_freeBlocks_33 : decode b_MD_freeBlocks 33 = .ok (.iload_n 2, 1) := by decide +kernel
theorem d_MD_freeBlocks_34 : decode b_MD_freeBlocks 34 = .ok (.iconst 1, 1) := by decide +kernel
theorem d_MD_freeBlocks_35 : decode b_MD_freeBlocks 35 = .ok (.iadd, 1) := by decide +kernel
theorem d_MD_freeBlocks_36 : decode b_MD_freeBlocks 36 = .ok (.istore_n 2, 1) := by decide +kernel
theorem d_MD_freeBlocks_37 : decode b_MD_freeBlocks 37 = .ok (.iinc 3 1, 3) := by decide +kernel
theorem d_MD_freeBlocks_40 : decode b_MD_freeBlocks 40 = .ok (.goto (-36), 3) := by decide +kernel
theorem d_MD_freeBlocks_43 : decode b_MD_freeBlocks 43 = .ok (.iload_n 2, 1) := by decide +kernel
theorem d_MD_freeBlocks_44 : decode b_MD_freeBlocks 44 = .ok (.ireturn, 1) := by decide +kernel
theorem d_MD_freeFiles_0 : decode b_MD_freeFiles 0 = .ok (.iconst 0, 1) := by decide +kernel
theorem d_MD_freeFiles_1 : decode b_MD_freeFiles 1 = .ok (.istore_n 2, 1) := by decide +kernel
theorem d_MD_freeFiles_2 : decode b_MD_freeFiles 2 = .ok (.iconst 0, 1) := by decide +kernel
theorem d_MD_freeFiles_3 : decode b_MD_freeFiles 3 = .ok (.istore_n 3, 1) := by decide +kernel
theorem d_MD_freeFiles_4 : decode b_MD_freeFiles 4 = .ok (.iload_n 3, 1) := by decide +kernel
theorem d_MD_freeFiles_5 : decode b_MD_freeFiles 5 = .ok (.sipush 128, 3) := by decide +kernel
theorem d_MD_freeFiles_8 : decode b_MD_freeFiles 8 = .ok (.if_icmp .ge 32, 3) := by decide +kernel
theorem d_MD_freeFiles_11 : decode b_MD_freeFiles 11 = .ok (.aload_n 0, 1) := by decide +kernel
theorem d_MD_freeFiles_12 : decode b_MD_freeFiles 12 = .ok (.getfield 17, 3) := by decide +kernel
theorem d_MD_freeFiles_15 : decode b_MD_freeFiles 15 = .ok (.sipush 128, 3) := by decide +kernel
theorem d_MD_freeFiles_18 : decode b_MD_freeFiles 18 = .ok (.iload_n 1, 1) := by decide +kernel
theorem d_MD_freeFiles_19 : decode b_MD_freeFiles 19 = .ok (.imul, 1) := by decide +kernel
theorem d_MD_freeFiles_20 : decode b_MD_freeFiles 20 = .ok (.iload_n 3, 1) := by decide +kernel
theorem d_MD_freeFiles_21 : decode b_MD_freeFiles 21 = .ok (.iadd, 1) := by decide +kernel
theorem d_MD_freeFiles_22 : decode b_MD_freeFiles 22 = .ok (.baload, 1) := by decide +kernel
theorem d_MD_freeFiles_23 : decode b_MD_freeFiles 23 = .ok (.ifCond .eq 7, 3) := by decide +kernel
theorem d_MD_freeFiles_26 : decode b_MD_freeFiles 26 = .ok (.iload_n 2, 1) := by decide +kernel
theorem d_MD_freeFiles_27 : decode b_MD_freeFiles 27 = .ok (.goto 6, 3) := by decide +kernel
theorem d_MD_freeFiles_30 : decode b_MD_freeFiles 30 = .ok (.iload_n 2, 1) := by decide +kernel
theorem d_MD_freeFiles_31 : decode b_MD_freeFiles 31 = .ok (.iconst 1, 1) := by decide +kernel
theorem d_MD_freeFiles_32 : decode b_MD_freeFiles 32 = .ok (.iadd, 1) := by decide +kernel
theorem d_MD_freeFiles_33 : decode b_MD_freeFiles 33 = .ok (.istore_n 2, 1) := by decide +kernel
theorem d_MD_freeFiles_34 : decode b_MD_freeFiles 34 = .ok (.iinc 3 1, 3) := by decide +kernel
theorem d_MD_freeFiles_37 : decode b_MD_freeFiles 37 = .ok (.goto (-33), 3) := by decide +kernel
theorem d_MD_freeFiles_40 : decode b_MD_freeFiles 40 = .ok (.iload_n 2, 1) := by decide +kernel
theorem d_MD_freeFiles_41 : decode b_MD_freeFiles 41 = .ok (.ireturn, 1) := by decide +kernel
theorem d_MD_allBlocks_0 : decode b_MD_allBlocks 0 = .ok (.iconst 0, 1) := by decide +kernel
theorem d_MD_allBlocks_1 : decode b_MD_allBlocks 1 = .ok (.istore_n 1, 1) := by decide +kernel
theorem d_MD_allBlocks_2 : decode b_MD_allBlocks 2 = .ok (.iconst 0, 1) := by decide +kernel
theorem d_MD_allBlocks_3 : decode b_MD_allBlocks 3 = .ok (.istore_n 2, 1) := by decide +kernel
theorem d_MD_allBlocks_4 : decode b_MD_allBlocks 4 = .ok (.iload_n 2, 1) := by decide +kernel
theorem d_MD_allBlocks_5 : decode b_MD_allBlocks 5 = .ok (.aload_n 0, 1) := by decide +kernel
theorem d_MD_allBlocks_6 : decode b_MD_allBlocks 6 = .ok (.getfield 38, 3) := by decide +kernel
theorem d_MD_allBlocks_9 : decode b_MD_allBlocks 9 = .ok (.if_icmp .ge 17, 3) := by decide +kernel
theorem d_MD_allBlocks_12 : decode b_MD_allBlocks 12 = .ok (.iload_n 1, 1) := by decide +kernel
theorem d_MD_allBlocks_13 : decode b_MD_allBlocks 13 = .ok (.aload_n 0, 1) := by decide +kernel
theorem d_MD_allBlocks_14 : decode b_MD_allBlocks 14 = .ok (.iload_n 2, 1) := by decide +kernel
theorem d_MD_allBlocks_15 : decode b_MD_allBlocks 15 = .ok (.invokevirtual 53, 3) := by decide +kernel
theorem d_MD_allBlocks_18 : decode b_MD_allBlocks 18 = .ok (.iadd, 1) := by decide +kernel
theorem d_MD_allBlocks_19 : decode b_MD_allBlocks 19 = .ok (.istore_n 1, 1) := by decide +kernel
theorem d_MD_allBlocks_20 : decode b_MD_allBlocks 20 = .ok (.iinc 2 1, 3) := by decide +kernel
theorem d_MD_allBlocks_23 : decode b_MD_allBlocks 23 = .ok (.goto (-19), 3) := by decide +kernel
theorem d_MD_allBlocks_26 : decode b_MD_allBlocks 26 = .ok (.iload_n 1, 1) := by decide +kernel
theorem d_MD_allBlocks_27 : decode b_MD_allBlocks 27 = .ok (.ireturn, 1) := by decide +kernel
theorem d_MD_allFiles_0 : decode b_MD_allFiles 0 = .ok (.iconst 0, 1) := by decide +kernel
theorem d_MD_allFiles_1 : decode b_MD_allFiles 1 = .ok (.istore_n 1, 1) := by decide +kernel
theorem d_MD_allFiles_2 : decode b_MD_allFiles 2 = .ok (.iconst 0, 1) := by decide +kernel
theorem d_MD_allFiles_3 : decode b_MD_allFiles 3 = .ok (.istore_n 2, 1) := by decide +kernel
theorem d_MD_allFiles_4 : decode b_MD_allFiles 4 = .ok (.iload_n 2, 1) := by decide +kernel
theorem d_MD_allFiles_5 : decode b_MD_allFiles 5 = .ok (.aload_n 0, 1) := by decide +kernel
theorem d_MD_allFiles_6 : decode b_MD_allFiles 6 = .ok (.getfield 38, 3) := by decide +kernel
theorem d_MD_allFiles_9 : decode b_MD_allFiles 9 = .ok (.if_icmp .ge 17, 3) := by decide +kernel
theorem d_MD_allFiles_12 : decode b_MD_allFiles 12 = .ok (.iload_n 1, 1) := by decide +kernel
theorem d_MD_allFiles_13 : decode b_MD_allFiles 13 = .ok (.aload_n 0, 1) := by decide +kernel
theorem d_MD_allFiles_14 : decode b_MD_allFiles 14 = .ok (.iload_n 2, 1) := by decide +kernel
theorem d_MD_allFiles_15 : decode b_MD_allFiles 15 = .ok (.invokevirtual 56, 3) := by decide +kernel
theorem d_MD_allFiles_18 : decode b_MD_allFiles 18 = .ok (.iadd, 1) := by decide +kernel
theorem d_MD_allFiles_19 : decode b_MD_allFiles 19 = .ok (.istore_n 1, 1) := by decide +kernel
theorem d_MD_allFiles_20 : decode b_MD_allFiles 20 = .ok (.iinc 2 1, 3) := by decide +kernel
theorem d_MD_allFiles_23 : decode b_MD_allFiles 23 = .ok (.goto (-19), 3) := by decide +kernel
theorem d_MD_allFiles_26 : decode b_MD_allFiles 26 = .ok (.iload_n 1, 1) := by decide +kernel
theorem d_MD_allFiles_27 : decode b_MD_allFiles 27 = .ok (.ireturn, 1) := by decide +kernel
theorem d_MD_isBlock_0 : decode b_MD_isBlock 0 = .ok (.iload_n 1, 1) := by decide +kernel
theorem d_MD_isBlock_1 : decode b_MD_isBlock 1 = .ok (.ifCond .lt 37, 3) := by decide +kernel
theorem d_MD_isBlock_4 : decode b_MD_isBlock 4 = .ok (.iload_n 1, 1) := by decide +kernel
theorem d_MD_isBlock_5 : decode b_MD_isBlock 5 = .ok (.sipush 256, 3) := by decide +kernel
theorem d_MD_isBlock_8 : decode b_MD_isBlock 8 = .ok (.aload_n 0, 1) := by decide +kernel
theorem d_MD_isBlock_9 : decode b_MD_isBlock 9 = .ok (.getfield 38, 3) := by decide +kernel
theorem d_MD_isBlock_12 : decode b_MD_isBlock 12 = .ok (.imul, 1) := by decide +kernel
theorem d_MD_isBlock_13 : decode b_MD_isBlock 13 = .ok (.if_icmp .ge 25, 3) := by decide +kernel
theorem d_MD_isBlock_16 : decode b_MD_isBlock 16 = .ok (.iload_n 1, 1) := by decide +kernel
theorem d_MD_isBlock_17 : decode b_MD_isBlock 17 = .ok (.sipush 256, 3) := by decide +kernel
theorem d_MD_isBlock_20 : decode b_MD_isBlock 20 = .ok (.irem, 1) := by decide +kernel
theorem d_MD_isBlock_21 : decode b_MD_isBlock 21 = .ok (.aload_n 0, 1) := by decide +kernel
theorem d_MD_isBlock_22 : decode b_MD_isBlock 22 = .ok (.getfield 7, 3) := by decide +kernel
theorem d_MD_isBlock_25 : decode b_MD_isBlock 25 = .ok (.iload_n 1, 1) := by decide +kernel
theorem d_MD_isBlock_26 : decode b_MD_isBlock 26 = .ok (.sipush 256, 3) := by decide +kernel
theorem d_MD_isBlock_29 : decode b_MD_isBlock 29 = .ok (.idiv, 1) := by decide +kernel
theorem d_MD_isBlock_30 : decode b_MD_isBlock 30 = .ok (.iaload, 1) := by decide +kernel
theorem d_MD_isBlock_31 : decode b_MD_isBlock 31 = .ok (.if_icmp .ge 7, 3) := by decide +kernel
theorem d_MD_isBlock_34 : decode b_MD_isBlock 34 = .ok (.iconst 1, 1) := by decide +kernel
theorem d_MD_isBlock_35 : decode b_MD_isBlock 35 = .ok (.goto 4, 3) := by decide +kernel
theorem d_MD_isBlock_38 : decode b_MD_isBlock 38 = .ok (.iconst 0, 1) := by decide +kernel
theorem d_MD_isBlock_39 : decode b_MD_isBlock 39 = .ok (.ireturn, 1) := by decide +kernel
theorem d_MD_isFile_0 : decode b_MD_isFile 0 = .ok (.iload_n 1, 1) := by decide +kernel
theorem d_MD_isFile_1 : decode b_MD_isFile 1 = .ok (.iconst 1, 1) := by decide +kernel
theorem d_MD_isFile_2 : decode b_MD_isFile 2 = .ok (.if_icmp .lt 19, 3) := by decide +kernel
theorem d_MD_isFile_5 : decode b_MD_isFile 5 = .ok (.iload_n 1, 1) := by decide +kernel
theorem d_MD_isFile_6 : decode b_MD_isFile 6 = .ok (.sipush 128, 3) := by decide +kernel
theorem d_MD_isFile_9 : decode b_MD_isFile 9 = .ok (.aload_n 0, 1) := by decide +kernel
theorem d_MD_isFile_10 : decode b_MD_isFile 10 = .ok (.getfield 38, 3) := by decide +kernel
theorem d_MD_isFile_13 : decode b_MD_isFile 13 = .ok (.imul, 1) := by decide +kernel
theorem d_MD_isFile_14 : decode b_MD_isFile 14 = .ok (.if_icmp .gt 7, 3) := by decide +kernel
theorem d_MD_isFile_17 : decode b_MD_isFile 17 = .ok (.iconst 1, 1) := by decide +kernel
theorem d_MD_isFile_18 : decode b_MD_isFile 18 = .ok (.goto 4, 3) := by decide +kernel
theorem d_MD_isFile_21 : decode b_MD_isFile 21 = .ok (.iconst 0, 1) := by decide +kernel
theorem d_MD_isFile_22 : decode b_MD_isFile 22 = .ok (.ireturn, 1) := by decide +kernel
theorem d_MD_lay_0 : decode b_MD_lay 0 = .ok (.aload_n 0, 1) := by decide +kernel
theorem d_MD_lay_1 : decode b_MD_lay 1 = .ok (.iload_n 1, 1) := by decide +kernel
theorem d_MD_lay_2 : decode b_MD_lay 2 = .ok (.iconst 1, 1) := by decide +kernel
theorem d_MD_lay_3 : decode b_MD_lay 3 = .ok (.if_icmp .lt 21, 3) := by decide +kernel
theorem d_MD_lay_6 : decode b_MD_lay 6 = .ok (.iload_n 1, 1) := by decide +kernel
theorem d_MD_lay_7 : decode b_MD_lay 7 = .ok (.iconst 4, 1) := by decide +kernel
theorem d_MD_lay_8 : decode b_MD_lay 8 = .ok (.if_icmp .gt 16, 3) := by decide +kernel
theorem d_MD_lay_11 : decode b_MD_lay 11 = .ok (.iload_n 2, 1) := by decide +kernel
theorem d_MD_lay_12 : decode b_MD_lay 12 = .ok (.bipush 16, 2) := by decide +kernel
theorem d_MD_lay_14 : decode b_MD_lay 14 = .ok (.if_icmp .lt 10, 3) := by decide +kernel
theorem d_MD_lay_17 : decode b_MD_lay 17 = .ok (.iload_n 2, 1) := by decide +kernel
theorem d_MD_lay_18 : decode b_MD_lay 18 = .ok (.sipush 256, 3) := by decide +kernel
theorem d_MD_lay_21 : decode b_MD_lay 21 = .ok (.if_icmp .le 7, 3) := by decide +kernel
theorem d_MD_lay_24 : decode b_MD_lay 24 = .ok (.iconst 1, 1) := by decide +kernel
theorem d_MD_lay_25 : decode b_MD_lay 25 = .ok (.goto 4, 3) := by decide +kernel
theorem d_MD_lay_28 : decode b_MD_lay 28 = .ok (.iconst 0, 1) := by decide +kernel
theorem d_MD_lay_29 : decode b_MD_lay 29 = .ok (.putfield 30, 3) := by decide +kernel
theorem d_MD_lay_32 : decode b_MD_lay 32 = .ok (.aload_n 0, 1) := by decide +kernel
theorem d_MD_lay_33 : decode b_MD_lay 33 = .ok (.getfield 30, 3) := by decide +kernel
theorem d_MD_lay_36 : decode b_MD_lay 36 = .ok (.ifCond .le 5, 3) := by decide +kernel
theorem d_MD_lay_39 : decode b_MD_lay 39 = .ok (.iconst 0, 1) := by decide +kernel
theorem d_MD_lay_40 : decode b_MD_lay 40 = .ok (.ireturn, 1) := by decide +kernel
theorem d_MD_lay_41 : decode b_MD_lay 41 = .ok (.aload_n 0, 1) := by decide +kernel
theorem d_MD_lay_42 : decode b_MD_lay 42 = .ok (.iload_n 1, 1) := by decide +kernel
theorem d_MD_lay_43 : decode b_MD_lay 43 = .ok (.iload_n 2, 1) := by decide +kernel
theorem d_MD_lay_44 : decode b_MD_lay 44 = .ok (.invokevirtual 26, 3) := by decide +kernel
theorem d_MD_lay_47 : decode b_MD_lay 47 = .ok (.aload_n 0, 1) := by decide +kernel
theorem d_MD_lay_48 : decode b_MD_lay 48 = .ok (.invokevirtual 59, 3) := by decide +kernel
theorem d_MD_lay_51 : decode b_MD_lay 51 = .ok (.ireturn, 1) := by decide +kernel
theorem d_MD_reserve_0 : decode b_MD_reserve 0 = .ok (.aload_n 0, 1) := by decide +kernel
theorem d_MD_reserve_1 : decode b_MD_reserve 1 = .ok (.iload_n 1, 1) := by decide +kernel
theorem d_MD_reserve_2 : decode b_MD_reserve 2 = .ok (.ifCond .lt 9, 3) := by decide +kernel
theorem d_MD_reserve_5 : decode b_MD_reserve 5 = .ok (.iload_n 1, 1) := by decide +kernel
theorem d_MD_reserve_6 : decode b_MD_reserve 6 = .ok (.bipush 100, 2) := by decide +kernel
theorem d_MD_reserve_8 : decode b_MD_reserve 8 = .ok (.if_icmp .le 7, 3) := by decide +kernel
theorem d_MD_reserve_11 : decode b_MD_reserve 11 = .ok (.iconst 1, 1) := by decide +kernel
theorem d_MD_reserve_12 : decode b_MD_reserve 12 = .ok (.goto 4, 3) := by decide +kernel
theorem d_MD_reserve_15 : decode b_MD_reserve 15 = .ok (.iconst 0, 1) := by decide +kernel
theorem d_MD_reserve_16 : decode b_MD_reserve 16 = .ok (.putfield 30, 3) := by decide +kernel
theorem d_MD_reserve_19 : decode b_MD_reserve 19 = .ok (.aload_n 0, 1) := by decide +kernel
theorem d_MD_reserve_20 : decode b_MD_reserve 20 = .ok (.getfield 30, 3) := by decide +kernel
theorem d_MD_reserve_23 : decode b_MD_reserve 23 = .ok (.ifCond .le 5, 3) := by decide +kernel
theorem d_MD_reserve_26 : decode b_MD_reserve 26 = .ok (.iconst 0, 1) := by decide +kernel
theorem d_MD_reserve_27 : decode b_MD_reserve 27 = .ok (.ireturn, 1) := by decide +kernel
theorem d_MD_reserve_28 : decode b_MD_reserve 28 = .ok (.aload_n 0, 1) := by decide +kernel
theorem d_MD_reserve_29 : decode b_MD_reserve 29 = .ok (.iload_n 1, 1) := by decide +kernel
theorem d_MD_reserve_30 : decode b_MD_reserve 30 = .ok (.putfield 41, 3) := by decide +kernel
theorem d_MD_reserve_33 : decode b_MD_reserve 33 = .ok (.aload_n 0, 1) := by decide +kernel
theorem d_MD_reserve_34 : decode b_MD_reserve 34 = .ok (.invokevirtual 59, 3) := by decide +kernel
theorem d_MD_reserve_37 : decode b_MD_reserve 37 = .ok (.iload_n 1, 1) := by decide +kernel
theorem d_MD_reserve_38 : decode b_MD_reserve 38 = .ok (.isub, 1) := by decide +kernel
theorem d_MD_reserve_39 : decode b_MD_reserve 39 = .ok (.istore_n 2, 1) := by decide +kernel
theorem d_MD_reserve_40 : decode b_MD_reserve 40 = .ok (.iload_n 2, 1) := by decide +kernel
theorem d_MD_reserve_41 : decode b_MD_reserve 41 = .ok (.ifCond .ge 7, 3) := by decide +kernel
theorem d_MD_reserve_44 : decode b_MD_reserve 44 = .ok (.iconst 0, 1) := by decide +kernel
theorem d_MD_reserve_45 : decode b_MD_reserve 45 = .ok (.goto 4, 3) := by decide +kernel
theorem d_MD_reserve_48 : decode b_MD_reserve 48 = .ok (.iload_n 2, 1) := by decide +kernel
theorem d_MD_reserve_49 : decode b_MD_reserve 49 = .ok (.ireturn, 1) := by decide +kernel
theorem d_MD_findRun_0 : decode b_MD_findRun 0 = .ok (.aload_n 0, 1) := by decide +kernel
theorem d_MD_findRun_1 : decode b_MD_findRun 1 = .ok (.iconst 0, 1) := by decide +kernel
theorem d_MD_findRun_2 : decode b_MD_findRun 2 = .ok (.putfield 63, 3) := by decide +kernel
theorem d_MD_findRun_5 : decode b_MD_findRun 5 = .ok (.iconst 0, 1) := by decide +kernel
theorem d_MD_findRun_6 : decode b_MD_findRun 6 = .ok (.istore_n 3, 1) := by decide +kernel
theorem d_MD_findRun_7 : decode b_MD_findRun 7 = .ok (.iload_n 3, 1) := by decide +kernel
theorem d_MD_findRun_8 : decode b_MD_findRun 8 = .ok (.aload_n 0, 1) := by decide +kernel
theorem d_MD_findRun_9 : decode b_MD_findRun 9 = .ok (.getfield 7, 3) := by decide +kernel
theorem d_MD_findRun_12 : decode b_MD_findRun 12 = .ok (.iload_n 1, 1) := by decide +kernel
theorem d_MD_findRun_13 : decode b_MD_findRun 13 = .ok (.iaload, 1) := by decide +kernel
theorem d_MD_findRun_14 : decode b_MD_findRun 14 = .ok (.if_icmp .ge 130, 3) := by decide +kernel
theorem d_MD_findRun_17 : decode b_MD_findRun 17 = .ok (.iload_n 3, 1) := by decide +kernel
theorem d_MD_findRun_18 : decode b_MD_findRun 18 = .ok (.istore 4, 2) := by decide +kernel
theorem d_MD_findRun_20 : decode b_MD_findRun 20 = .ok (.iload 4, 2) := by decide +kernel
theorem d_MD_findRun_22 : decode b_MD_findRun 22 = .ok (.aload_n 0, 1) := by decide +kernel
theorem d_MD_findRun_23 : decode b_MD_findRun 23 = .ok (.getfield 7, 3) := by decide +kernel
theorem d_MD_findRun_26 : decode b_MD_findRun 26 = .ok (.iload_n 1, 1) := by decide +kernel
theorem d_MD_findRun_27 : decode b_MD_findRun 27 = .ok (.iaload, 1) := by decide +kernel
theorem d_MD_findRun_28 : decode b_MD_findRun 28 = .ok (.if_icmp .ge 25, 3) := by decide +kernel
theorem d_MD_findRun_31 : decode b_MD_findRun 31 = .ok (.aload_n 0, 1) := by decide +kernel
theorem d_MD_findRun_32 : decode b_MD_findRun 32 = .ok (.getfield 13, 3) := by decide +kernel
theorem d_MD_findRun_35 : decode b_MD_findRun 35 = .ok (.sipush 256, 3) := by decide +kernel
theorem d_MD_findRun_38 : decode b_MD_findRun 38 = .ok (.iload_n 1, 1) := by decide +kernel
theorem d_MD_findRun_39 : decode b_MD_findRun 39 = .ok (.imul, 1) := by decide +kernel
theorem d_MD_findRun_40 : decode b_MD_findRun 40 = .ok (.iload 4, 2) := by decide +kernel
theorem d_MD_findRun_42 : decode b_MD_findRun 42 = .ok (.iadd, 1) := by decide +kernel
theorem d_MD_findRun_43 : decode b_MD_findRun 43 = .ok (.baload, 1) := by decide +kernel
theorem d_MD_findRun_44 : decode b_MD_findRun 44 = .ok (.ifCond .ne 9, 3) := by decide +kernel
theorem d_MD_findRun_47 : decode b_MD_findRun 47 = .ok (.iinc 4 1, 3) := by decide +kernel
theorem d_MD_findRun_50 : decode b_MD_findRun 50 = .ok (.goto (-30), 3) := by decide +kernel
theorem d_MD_findRun_53 : decode b_MD_findRun 53 = .ok (.iload 4, 2) := by decide +kernel
theorem d_MD_findRun_55 : decode b_MD_findRun 55 = .ok (.iload_n 3, 1) := by decide +kernel
theorem d_MD_findRun_56 : decode b_MD_findRun 56 = .ok (.isub, 1) := by decide +kernel
theorem d_MD_findRun_57 : decode b_MD_findRun 57 = .ok (.istore 5, 2) := by decide +kernel
theorem d_MD_findRun_59 : decode b_MD_findRun 59 = .ok (.iload_n 2, 1) := by decide +kernel
theorem d_MD_findRun_60 : decode b_MD_findRun 60 = .ok (.ifCond .ne 20, 3) := by decide +kernel
theorem d_MD_findRun_63 : decode b_MD_findRun 63 = .ok (.iload 5, 2) := by decide +kernel
theorem d_MD_findRun_65 : decode b_MD_findRun 65 = .ok (.aload_n 0, 1) := by decide +kernel
theorem d_MD_findRun_66 : decode b_MD_findRun 66 = .ok (.getfield 63, 3) := by decide +kernel
theorem d_MD_findRun_69 : decode b_MD_findRun 69 = .ok (.if_icmp .le 7, 3) := by decide +kernel
theorem d_MD_findRun_72 : decode b_MD_findRun 72 = .ok (.iconst 1, 1) := by decide +kernel
theorem d_MD_findRun_73 : decode b_MD_findRun 73 = .ok (.goto 34, 3) := by decide +kernel
theorem d_MD_findRun_76 : decode b_MD_findRun 76 = .ok (.iconst 0, 1) := by decide +kernel
theorem d_MD_findRun_77 : decode b_MD_findRun 77 = .ok (.goto 30, 3) := by decide +kernel
theorem d_MD_findRun_80 : decode b_MD_findRun 80 = .ok (.iload 5, 2) := by decide +kernel
theorem d_MD_findRun_82 : decode b_MD_findRun 82 = .ok (.iload_n 2, 1) := by decide +kernel
theorem d_MD_findRun_83 : decode b_MD_findRun 83 = .ok (.if_icmp .lt 23, 3) := by decide +kernel
theorem d_MD_findRun_86 : decode b_MD_findRun 86 = .ok (.aload_n 0, 1) := by decide +kernel
theorem d_MD_findRun_87 : decode b_MD_findRun 87 = .ok (.getfield 63, 3) := by decide +kernel
theorem d_MD_findRun_90 : decode b_MD_findRun 90 = .ok (.ifCond .eq 12, 3) := by decide +kernel
theorem d_MD_findRun_93 : decode b_MD_findRun 93 = .ok (.iload 5, 2) := by decide +kernel
theorem d_MD_findRun_95 : decode b_MD_findRun 95 = .ok (.aload_n 0, 1) := by decide +kernel
theorem d_MD_findRun_96 : decode b_MD_findRun 96 = .ok (.getfield 63, 3) := by decide +kernel
theorem d_MD_findRun_99 : decode b_MD_findRun 99 = .ok (.if_icmp .ge 7, 3) := by decide +kernel
theorem d_MD_findRun_102 : decode b_MD_findRun 102 = .ok (.iconst 1, 1) := by decide +kernel
theorem d_MD_findRun_103 : decode b_MD_findRun 103 = .ok (.goto 4, 3) := by decide +kernel
theorem d_MD_findRun_106 : decode b_MD_findRun 106 = .ok (.iconst 0, 1) := by decide +kernel
theorem d_MD_findRun_107 : decode b_MD_findRun 107 = .ok (.istore 6, 2) := by decide +kernel
theorem d_MD_findRun_109 : decode b_MD_findRun 109 = .ok (.iload 5, 2) := by decide +kernel
theorem d_MD_findRun_111 : decode b_MD_findRun 111 = .ok (.ifCond .le 25, 3) := by decide +kernel
theorem d_MD_findRun_114 : decode b_MD_findRun 114 = .ok (.iload 6, 2) := by decide +kernel
theorem d_MD_findRun_116 : decode b_MD_findRun 116 = .ok (.ifCond .eq 20, 3) := by decide +kernel
theorem d_MD_findRun_119 : decode b_MD_findRun 119 = .ok (.aload_n 0, 1) := by decide +kernel
theorem d_MD_findRun_120 : decode b_MD_findRun 120 = .ok (.sipush 256, 3) := by decide +kernel
theorem d_MD_findRun_123 : decode b_MD_findRun 123 = .ok (.iload_n 1, 1) := by decide +kernel
theorem d_MD_findRun_124 : decode b_MD_findRun 124 = .ok (.imul, 1) := by decide +kernel
theorem d_MD_findRun_125 : decode b_MD_findRun 125 = .ok (.iload_n 3, 1) := by decide +kernel
theorem d_MD_findRun_126 : decode b_MD_findRun 126 = .ok (.iadd, 1) := by decide +kernel
theorem d_MD_findRun_127 : decode b_MD_findRun 127 = .ok (.putfield 66, 3) := by decide +kernel
theorem d_MD_findRun_130 : decode b_MD_findRun 130 = .ok (.aload_n 0, 1) := by decide +kernel
theorem d_MD_findRun_131 : decode b_MD_findRun 131 = .ok (.iload 5, 2) := by decide +kernel
theorem d_MD_findRun_133 : decode b_MD_findRun 133 = .ok (.putfield 63, 3) := by decide +kernel
theorem d_MD_findRun_136 : decode b_MD_findRun 136 = .ok (.iload 4, 2) := by decide +kernel
theorem d_MD_findRun_138 : decode b_MD_findRun 138 = .ok (.iconst 1, 1) := by decide +kernel
theorem d_MD_findRun_139 : decode b_MD_findRun 139 = .ok (.iadd, 1) := by decide +kernel
theorem d_MD_findRun_140 : decode b_MD_findRun 140 = .ok (.istore_n 3, 1) := by decide +kernel
theorem d_MD_findRun_141 : decode b_MD_findRun 141 = .ok (.goto (-134), 3) := by decide +kernel
theorem d_MD_findRun_144 : decode b_MD_findRun 144 = .ok (.return_, 1) := by decide +kernel
theorem d_MD_areFree_0 : decode b_MD_areFree 0 = .ok (.iconst 1, 1) := by decide +kernel
theorem d_MD_areFree_1 : decode b_MD_areFree 1 = .ok (.istore_n 3, 1) := by decide +kernel
theorem d_MD_areFree_2 : decode b_MD_areFree 2 = .ok (.iload_n 1, 1) := by decide +kernel
theorem d_MD_areFree_3 : decode b_MD_areFree 3 = .ok (.istore 4, 2) := by decide +kernel
theorem d_MD_areFree_5 : decode b_MD_areFree 5 = .ok (.iload 4, 2) := by decide +kernel
theorem d_MD_areFree_7 : decode b_MD_areFree 7 = .ok (.iload_n 1, 1) := by decide +kernel
theorem d_MD_areFree_8 : decode b_MD_areFree 8 = .ok (.iload_n 2, 1) := by decide +kernel
theorem d_MD_areFree_9 : decode b_MD_areFree 9 = .ok (.iadd, 1) := by decide +kernel
theorem d_MD_areFree_10 : decode b_MD_areFree 10 = .ok (.if_icmp .ge 52, 3) := by decide +kernel
theorem d_MD_areFree_13 : decode b_MD_areFree 13 = .ok (.iload_n 3, 1) := by decide +kernel
theorem d_MD_areFree_14 : decode b_MD_areFree 14 = .ok (.ifCond .eq 40, 3) := by decide +kernel
theorem d_MD_areFree_17 : decode b_MD_areFree 17 = .ok (.aload_n 0, 1) := by decide +kernel
theorem d_MD_areFree_18 : decode b_MD_areFree 18 = .ok (.iload 4, 2) := by decide +kernel
theorem d_MD_areFree_20 : decode b_MD_areFree 20 = .ok (.invokevirtual 69, 3) := by decide +kernel
theorem d_MD_areFree_23 : decode b_MD_areFree 23 = .ok (.ifCond .eq 31, 3) := by decide +kernel
theorem d_MD_areFree_26 : decode b_MD_areFree 26 = .ok (.iload 4, 2) := by decide +kernel
theorem d_MD_areFree_28 : decode b_MD_areFree 28 = .ok (.sipush 256, 3) := by decide +kernel
theorem d_MD_areFree_31 : decode b_MD_areFree 31 = .ok (.idiv, 1) := by decide +kernel
theorem d_MD_areFree_32 : decode b_MD_areFree 32 = .ok (.iload_n 1, 1) := by decide +kernel
theorem d_MD_areFree_33 : decode b_MD_areFree 33 = .ok (.sipush 256, 3) := by decide +kernel
theorem d_MD_areFree_36 : decode b_MD_areFree 36 = .ok (.idiv, 1) := by decide +kernel
theorem d_MD_areFree_37 : decode b_MD_areFree 37 = .ok (.if_icmp .ne 17, 3) := by decide +kernel
theorem d_MD_areFree_40 : decode b_MD_areFree 40 = .ok (.aload_n 0, 1) := by decide +kernel
theorem d_MD_areFree_41 : decode b_MD_areFree 41 = .ok (.getfield 13, 3) := by decide +kernel
theorem d_MD_areFree_44 : decode b_MD_areFree 44 = .ok (.iload 4, 2) := by decide +kernel
theorem d_MD_areFree_46 : decode b_MD_areFree 46 = .ok (.baload, 1) := by decide +kernel
theorem d_MD_areFree_47 : decode b_MD_areFree 47 = .ok (.ifCond .ne 7, 3) := by decide +kernel
theorem d_MD_areFree_50 : decode b_MD_areFree 50 = .ok (.iconst 1, 1) := by decide +kernel
theorem d_MD_areFree_51 : decode b_MD_areFree 51 = .ok (.goto 4, 3) := by decide +kernel
theorem d_MD_areFree_54 : decode b_MD_areFree 54 = .ok (.iconst 0, 1) := by decide +kernel
theorem d_MD_areFree_55 : decode b_MD_areFree 55 = .ok (.istore_n 3, 1) := by decide +kernel
theorem d_MD_areFree_56 : decode b_MD_areFree 56 = .ok (.iinc 4 1, 3) := by decide +kernel
theorem d_MD_areFree_59 : decode b_MD_areFree 59 = .ok (.goto (-54), 3) := by decide +kernel
theorem d_MD_areFree_62 : decode b_MD_areFree 62 = .ok (.iload_n 3, 1) := by decide +kernel
theorem d_MD_areFree_63 : decode b_MD_areFree 63 = .ok (.ireturn, 1) := by decide +kernel
theorem d_MD_mark_0 : decode b_MD_mark 0 = .ok (.aload_n 0, 1) := by decide +kernel
theorem d_MD_mark_1 : decode b_MD_mark 1 = .ok (.getfield 23, 3) := by decide +kernel
theorem d_MD_mark_4 : decode b_MD_mark 4 = .ok (.iconst 1, 1) := by decide +kernel
theorem d_MD_mark_5 : decode b_MD_mark 5 = .ok (.iconst 1, 1) := by decide +kernel
theorem d_MD_mark_6 : decode b_MD_mark 6 = .ok (.bastore, 1) := by decide +kernel
theorem d_MD_mark_7 : decode b_MD_mark 7 = .ok (.iload_n 1, 1) := by decide +kernel
theorem d_MD_mark_8 : decode b_MD_mark 8 = .ok (.istore 4, 2) := by decide +kernel
theorem d_MD_mark_10 : decode b_MD_mark 10 = .ok (.iload 4, 2) := by decide +kernel
theorem d_MD_mark_12 : decode b_MD_mark 12 = .ok (.iload_n 1, 1) := by decide +kernel
theorem d_MD_mark_13 : decode b_MD_mark 13 = .ok (.iload_n 2, 1) := by decide +kernel
theorem d_MD_mark_14 : decode b_MD_mark 14 = .ok (.iadd, 1) := by decide +kernel
theorem d_MD_mark_15 : decode b_MD_mark 15 = .ok (.if_icmp .ge 32, 3) := by decide +kernel
theorem d_MD_mark_18 : decode b_MD_mark 18 = .ok (.aload_n 0, 1) := by decide +kernel
theorem d_MD_mark_19 : decode b_MD_mark 19 = .ok (.getfield 13, 3) := by decide +kernel
theorem d_MD_mark_22 : decode b_MD_mark 22 = .ok (.iload 4, 2) := by decide +kernel
theorem d_MD_mark_24 : decode b_MD_mark 24 = .ok (.iload_n 3, 1) := by decide +kernel
theorem d_MD_mark_25 : decode b_MD_mark 25 = .ok (.bastore, 1) := by decide +kernel
theorem d_MD_mark_26 : decode b_MD_mark 26 = .ok (.aload_n 0, 1) := by decide +kernel
theorem d_MD_mark_27 : decode b_MD_mark 27 = .ok (.getfield 23, 3) := by decide +kernel
theorem d_MD_mark_30 : decode b_MD_mark 30 = .ok (.iload 4, 2) := by decide +kernel
theorem d_MD_mark_32 : decode b_MD_mark 32 = .ok (.sipush 256, 3) := by decide +kernel
theorem d_MD_mark_35 : decode b_MD_mark 35 = .ok (.idiv, 1) := by decide +kernel
theorem d_MD_mark_36 : decode b_MD_mark 36 = .ok (.invokestatic 47, 3) := by decide +kernel
theorem d_MD_mark_39 : decode b_MD_mark 39 = .ok (.iconst 1, 1) := by decide +kernel
theorem d_MD_mark_40 : decode b_MD_mark 40 = .ok (.bastore, 1) := by decide +kernel
theorem d_MD_mark_41 : decode b_MD_mark 41 = .ok (.iinc 4 1, 3) := by decide +kernel
theorem d_MD_mark_44 : decode b_MD_mark 44 = .ok (.goto (-34), 3) := by decide +kernel
theorem d_MD_mark_47 : decode b_MD_mark 47 = .ok (.return_, 1) := by decide +kernel
theorem d_MD_take_0 : decode b_MD_take 0 = .ok (.aload_n 0, 1) := by decide +kernel
theorem d_MD_take_1 : decode b_MD_take 1 = .ok (.aload_n 0, 1) := by decide +kernel
theorem d_MD_take_2 : decode b_MD_take 2 = .ok (.iload_n 1, 1) := by decide +kernel
theorem d_MD_take_3 : decode b_MD_take 3 = .ok (.invokevirtual 69, 3) := by decide +kernel
theorem d_MD_take_6 : decode b_MD_take 6 = .ok (.ifCond .eq 15, 3) := by decide +kernel
theorem d_MD_take_9 : decode b_MD_take 9 = .ok (.iload_n 2, 1) := by decide +kernel
theorem d_MD_take_10 : decode b_MD_take 10 = .ok (.iconst 1, 1) := by decide +kernel
theorem d_MD_take_11 : decode b_MD_take 11 = .ok (.if_icmp .lt 10, 3) := by decide +kernel
theorem d_MD_take_14 : decode b_MD_take 14 = .ok (.iload_n 2, 1) := by decide +kernel
theorem d_MD_take_15 : decode b_MD_take 15 = .ok (.sipush 256, 3) := by decide +kernel
theorem d_MD_take_18 : decode b_MD_take 18 = .ok (.if_icmp .le 7, 3) := by decide +kernel
theorem d_MD_take_21 : decode b_MD_take 21 = .ok (.iconst 1, 1) := by decide +kernel
theorem d_MD_take_22 : decode b_MD_take 22 = .ok (.goto 4, 3) := by decide +kernel
theorem d_MD_take_25 : decode b_MD_take 25 = .ok (.iconst 0, 1) := by decide +kernel
theorem d_MD_take_26 : decode b_MD_take 26 = .ok (.putfield 30, 3) := by decide +kernel
theorem d_MD_take_29 : decode b_MD_take 29 = .ok (.aload_n 0, 1) := by decide +kernel
theorem d_MD_take_30 : decode b_MD_take 30 = .ok (.getfield 30, 3) := by decide +kernel
theorem d_MD_take_33 : decode b_MD_take 33 = .ok (.ifCond .le 5, 3) := by decide +kernel
theorem d_MD_take_36 : decode b_MD_take 36 = .ok (.iconst 0, 1) := by decide +kernel
theorem d_MD_take_37 : decode b_MD_take 37 = .ok (.ireturn, 1) := by decide +kernel
theorem d_MD_take_38 : decode b_MD_take 38 = .ok (.aload_n 0, 1) := by decide +kernel
theorem d_MD_take_39 : decode b_MD_take 39 = .ok (.invokevirtual 59, 3) := by decide +kernel
theorem d_MD_take_42 : decode b_MD_take 42 = .ok (.iload_n 3, 1) := by decide +kernel
theorem d_MD_take_43 : decode b_MD_take 43 = .ok (.ifCond .eq 7, 3) := by decide +kernel
theorem d_MD_take_46 : decode b_MD_take 46 = .ok (.iconst 0, 1) := by decide +kernel
theorem d_MD_take_47 : decode b_MD_take 47 = .ok (.goto 7, 3) := by decide +kernel
theorem d_MD_take_50 : decode b_MD_take 50 = .ok (.aload_n 0, 1) := by decide +kernel
theorem d_MD_take_51 : decode b_MD_take 51 = .ok (.getfield 41, 3) := by decide +kernel
theorem d_MD_take_54 : decode b_MD_take 54 = .ok (.isub, 1) := by decide +kernel
theorem d_MD_take_55 : decode b_MD_take 55 = .ok (.istore 4, 2) := by decide +kernel
theorem d_MD_take_57 : decode b_MD_take 57 = .ok (.aload_n 0, 1) := by decide +kernel
theorem d_MD_take_58 : decode b_MD_take 58 = .ok (.iload 4, 2) := by decide +kernel
theorem d_MD_take_60 : decode b_MD_take 60 = .ok (.iconst 1, 1) := by decide +kernel
theorem d_MD_take_61 : decode b_MD_take 61 = .ok (.if_icmp .ge 7, 3) := by decide +kernel
theorem d_MD_take_64 : decode b_MD_take 64 = .ok (.iconst 2, 1) := by decide +kernel
theorem d_MD_take_65 : decode b_MD_take 65 = .ok (.goto 4, 3) := by decide +kernel
theorem d_MD_take_68 : decode b_MD_take 68 = .ok (.iconst 0, 1) := by decide +kernel
theorem d_MD_take_69 : decode b_MD_take 69 = .ok (.putfield 30, 3) := by decide +kernel
theorem d_MD_take_72 : decode b_MD_take 72 = .ok (.aload_n 0, 1) := by decide +kernel
theorem d_MD_take_73 : decode b_MD_take 73 = .ok (.getfield 30, 3) := by decide +kernel
theorem d_MD_take_76 : decode b_MD_take 76 = .ok (.ifCond .le 5, 3) := by decide +kernel
theorem d_MD_take_79 : decode b_MD_take 79 = .ok (.iconst 0, 1) := by decide +kernel
theorem d_MD_take_80 : decode b_MD_take 80 = .ok (.ireturn, 1) := by decide +kernel
theorem d_MD_take_81 : decode b_MD_take 81 = .ok (.iload_n 2, 1) := by decide +kernel
theorem d_MD_take_82 : decode b_MD_take 82 = .ok (.iload 4, 2) := by decide +kernel
theorem d_MD_take_84 : decode b_MD_take 84 = .ok (.if_icmp .ge 7, 3) := by decide +kernel
theorem d_MD_take_87 : decode b_MD_take 87 = .ok (.iload_n 2, 1) := by decide +kernel
theorem d_MD_take_88 : decode b_MD_take 88 = .ok (.goto 5, 3) := by decide +kernel
theorem d_MD_take_91 : decode b_MD_take 91 = .ok (.iload 4, 2) := by decide +kernel
theorem d_MD_take_93 : decode b_MD_take 93 = .ok (.istore 5, 2) := by decide +kernel
theorem d_MD_take_95 : decode b_MD_take 95 = .ok (.aload_n 0, 1) := by decide +kernel
theorem d_MD_take_96 : decode b_MD_take 96 = .ok (.iload_n 1, 1) := by decide +kernel
theorem d_MD_take_97 : decode b_MD_take 97 = .ok (.iload 5, 2) := by decide +kernel
theorem d_MD_take_99 : decode b_MD_take 99 = .ok (.invokevirtual 73, 3) := by decide +kernel
theorem d_MD_take_102 : decode b_MD_take 102 = .ok (.ifCond .eq 7, 3) := by decide +kernel
theorem d_MD_take_105 : decode b_MD_take 105 = .ok (.iload_n 1, 1) := by decide +kernel
theorem d_MD_take_106 : decode b_MD_take 106 = .ok (.goto 4, 3) := by decide +kernel
theorem d_MD_take_109 : decode b_MD_take 109 = .ok (.iconst (-1), 1) := by decide +kernel
theorem d_MD_take_110 : decode b_MD_take 110 = .ok (.istore 6, 2) := by decide +kernel
theorem d_MD_take_112 : decode b_MD_take 112 = .ok (.iconst 0, 1) := by decide +kernel
theorem d_MD_take_113 : decode b_MD_take 113 = .ok (.istore 7, 2) := by decide +kernel
theorem d_MD_take_115 : decode b_MD_take 115 = .ok (.iload 7, 2) := by decide +kernel
theorem d_MD_take_117 : decode b_MD_take 117 = .ok (.aload_n 0, 1) := by decide +kernel
theorem d_MD_take_118 : decode b_MD_take 118 = .ok (.getfield 38, 3) := by decide +kernel
theorem d_MD_take_121 : decode b_MD_take 121 = .ok (.if_icmp .ge 50, 3) := by decide +kernel
theorem d_MD_take_124 : decode b_MD_take 124 = .ok (.iload 6, 2) := by decide +kernel
theorem d_MD_take_126 : decode b_MD_take 126 = .ok (.ifCond .ge 45, 3) := by decide +kernel
theorem d_MD_take_129 : decode b_MD_take 129 = .ok (.aload_n 0, 1) := by decide +kernel
theorem d_MD_take_130 : decode b_MD_take 130 = .ok (.iload_n 1, 1) := by decide +kernel
theorem d_MD_take_131 : decode b_MD_take 131 = .ok (.sipush 256, 3) := by decide +kernel
theorem d_MD_take_134 : decode b_MD_take 134 = .ok (.idiv, 1) := by decide +kernel
theorem d_MD_take_135 : decode b_MD_take 135 = .ok (.iload 7, 2) := by decide +kernel
theorem d_MD_take_137 : decode b_MD_take 137 = .ok (.iadd, 1) := by decide +kernel
theorem d_MD_take_138 : decode b_MD_take 138 = .ok (.aload_n 0, 1) := by decide +kernel
theorem d_MD_take_139 : decode b_MD_take 139 = .ok (.getfield 38, 3) := by decide +kernel
theorem d_MD_take_142 : decode b_MD_take 142 = .ok (.irem, 1) := by decide +kernel
theorem d_MD_take_143 : decode b_MD_take 143 = .ok (.iload 5, 2) := by decide +kernel
theorem d_MD_take_145 : decode b_MD_take 145 = .ok (.invokevirtual 77, 3) := by decide +kernel
theorem d_MD_take_148 : decode b_MD_take 148 = .ok (.aload_n 0, 1) := by decide +kernel
theorem d_MD_take_149 : decode b_MD_take 149 = .ok (.getfield 63, 3) := by decide +kernel
theorem d_MD_take_152 : decode b_MD_take 152 = .ok (.ifCond .le 10, 3) := by decide +kernel
theorem d_MD_take_155 : decode b_MD_take 155 = .ok (.aload_n 0, 1) := by decide +kernel
theorem d_MD_take_156 : decode b_MD_take 156 = .ok (.getfield 66, 3) := by decide +kernel
theorem d_MD_take_159 : decode b_MD_take 159 = .ok (.goto 4, 3) := by decide +kernel
theorem d_MD_take_162 : decode b_MD_take 162 = .ok (.iconst (-1), 1) := by decide +kernel
theorem d_MD_take_163 : decode b_MD_take 163 = .ok (.istore 6, 2) := by decide +kernel
theorem d_MD_take_165 : decode b_MD_take 165 = .ok (.iinc 7 1, 3) := by decide +kernel
theorem d_MD_take_168 : decode b_MD_take 168 = .ok (.goto (-53), 3) := by decide +kernel
theorem d_MD_take_171 : decode b_MD_take 171 = .ok (.iload 6, 2) := by decide +kernel
theorem d_MD_take_173 : decode b_MD_take 173 = .ok (.ifCond .ge 86, 3) := by decide +kernel
theorem d_MD_take_176 : decode b_MD_take 176 = .ok (.iconst 0, 1) := by decide +kernel
theorem d_MD_take_177 : decode b_MD_take 177 = .ok (.istore 7, 2) := by decide +kernel
theorem d_MD_take_179 : decode b_MD_take 179 = .ok (.iconst 0, 1) := by decide +kernel
theorem d_MD_take_180 : decode b_MD_take 180 = .ok (.istore 8, 2) := by decide +kernel
theorem d_MD_take_182 : decode b_MD_take 182 = .ok (.iload 8, 2) := by decide +kernel
theorem d_MD_take_184 : decode b_MD_take 184 = .ok (.aload_n 0, 1) := by decide +kernel
theorem d_MD_take_185 : decode b_MD_take 185 = .ok (.getfield 38, 3) := by decide +kernel
theorem d_MD_take_188 : decode b_MD_take 188 = .ok (.if_icmp .ge 67, 3) := by decide +kernel
theorem d_MD_take_191 : decode b_MD_take 191 = .ok (.aload_n 0, 1) := by decide +kernel
theorem d_MD_take_192 : decode b_MD_take 192 = .ok (.iload_n 1, 1) := by decide +kernel
theorem d_MD_take_193 : decode b_MD_take 193 = .ok (.sipush 256, 3) := by decide +kernel
theorem d_MD_take_196 : decode b_MD_take 196 = .ok (.idiv, 1) := by decide +kernel
theorem d_MD_take_197 : decode b_MD_take 197 = .ok (.iload 8, 2) := by decide +kernel
theorem d_MD_take_199 : decode b_MD_take 199 = .ok (.iadd, 1) := by decide +kernel
theorem d_MD_take_200 : decode b_MD_take 200 = .ok (.aload_n 0, 1) := by decide +kernel
theorem d_MD_take_201 : decode b_MD_take 201 = .ok (.getfield 38, 3) := by decide +kernel
theorem d_MD_take_204 : decode b_MD_take 204 = .ok (.irem, 1) := by decide +kernel
theorem d_MD_take_205 : decode b_MD_take 205 = .ok (.iconst 0, 1) := by decide +kernel
theorem d_MD_take_206 : decode b_MD_take 206 = .ok (.invokevirtual 77, 3) := by decide +kernel
theorem d_MD_take_209 : decode b_MD_take 209 = .ok (.aload_n 0, 1) := by decide +kernel
theorem d_MD_take_210 : decode b_MD_take 210 = .ok (.getfield 63, 3) := by decide +kernel
theorem d_MD_take_213 : decode b_MD_take 213 = .ok (.iload 7, 2) := by decide +kernel
theorem d_MD_take_215 : decode b_MD_take 215 = .ok (.if_icmp .le 10, 3) := by decide +kernel
theorem d_MD_take_218 : decode b_MD_take 218 = .ok (.aload_n 0, 1) := by decide +kernel
theorem d_MD_take_219 : decode b_MD_take 219 = .ok (.getfield 66, 3) := by decide +kernel
theorem d_MD_take_222 : decode b_MD_take 222 = .ok (.goto 5, 3) := by decide +kernel
theorem d_MD_take_225 : decode b_MD_take 225 = .ok (.iload 6, 2) := by decide +kernel
theorem d_MD_take_227 : decode b_MD_take 227 = .ok (.istore 6, 2) := by decide +kernel
theorem d_MD_take_229 : decode b_MD_take 229 = .ok (.aload_n 0, 1) := by decide +kernel
theorem d_MD_take_230 : decode b_MD_take 230 = .ok (.getfield 63, 3) := by decide +kernel
theorem d_MD_take_233 : decode b_MD_take 233 = .ok (.iload 7, 2) := by decide +kernel
theorem d_MD_take_235 : decode b_MD_take 235 = .ok (.if_icmp .le 10, 3) := by decide +kernel
theorem d_MD_take_238 : decode b_MD_take 238 = .ok (.aload_n 0, 1) := by decide +kernel
theorem d_MD_take_239 : decode b_MD_take 239 = .ok (.getfield 63, 3) := by decide +kernel
theorem d_MD_take_242 : decode b_MD_take 242 = .ok (.goto 5, 3) := by decide +kernel
theorem d_MD_take_245 : decode b_MD_take 245 = .ok (.iload 7, 2) := by decide +kernel
theorem d_MD_take_247 : decode b_MD_take 247 = .ok (.istore 7, 2) := by decide +kernel
theorem d_MD_take_249 : decode b_MD_take 249 = .ok (.iinc 8 1, 3) := by decide +kernel
theorem d_MD_take_252 : decode b_MD_take 252 = .ok (.goto (-70), 3) := by decide +kernel
theorem d_MD_take_255 : decode b_MD_take 255 = .ok (.iload 7, 2) := by decide +kernel
theorem d_MD_take_257 : decode b_MD_take 257 = .ok (.istore 5, 2) := by decide +kernel
theorem d_MD_take_259 : decode b_MD_take 259 = .ok (.aload_n 0, 1) := by decide +kernel
theorem d_MD_take_260 : decode b_MD_take 260 = .ok (.iload 6, 2) := by decide +kernel
theorem d_MD_take_262 : decode b_MD_take 262 = .ok (.iload 5, 2) := by decide +kernel
theorem d_MD_take_264 : decode b_MD_take 264 = .ok (.iconst 1, 1) := by decide +kernel
theorem d_MD_take_265 : decode b_MD_take 265 = .ok (.invokevirtual 80, 3) := by decide +kernel
theorem d_MD_take_268 : decode b_MD_take 268 = .ok (.aload_n 0, 1) := by decide +kernel
theorem d_MD_take_269 : decode b_MD_take 269 = .ok (.iload 5, 2) := by decide +kernel
theorem d_MD_take_271 : decode b_MD_take 271 = .ok (.putfield 44, 3) := by decide +kernel
theorem d_MD_take_274 : decode b_MD_take 274 = .ok (.iload 6, 2) := by decide +kernel
theorem d_MD_take_276 : decode b_MD_take 276 = .ok (.ireturn, 1) := by decide +kernel
theorem d_MD_taken_0 : decode b_MD_taken 0 = .ok (.aload_n 0, 1) := by decide +kernel
theorem d_MD_taken_1 : decode b_MD_taken 1 = .ok (.iconst 0, 1) := by decide +kernel
theorem d_MD_taken_2 : decode b_MD_taken 2 = .ok (.putfield 30, 3) := by decide +kernel
theorem d_MD_taken_5 : decode b_MD_taken 5 = .ok (.aload_n 0, 1) := by decide +kernel
theorem d_MD_taken_6 : decode b_MD_taken 6 = .ok (.getfield 44, 3) := by decide +kernel
theorem d_MD_taken_9 : decode b_MD_taken 9 = .ok (.ireturn, 1) := by decide +kernel
theorem d_MD_give_0 : decode b_MD_give 0 = .ok (.iload_n 2, 1) := by decide +kernel
theorem d_MD_give_1 : decode b_MD_give 1 = .ok (.iconst 1, 1) := by decide +kernel
theorem d_MD_give_2 : decode b_MD_give 2 = .ok (.if_icmp .lt 14, 3) := by decide +kernel
theorem d_MD_give_5 : decode b_MD_give 5 = .ok (.iload_n 2, 1) := by decide +kernel
theorem d_MD_give_6 : decode b_MD_give 6 = .ok (.sipush 1024, 3) := by decide +kernel
theorem d_MD_give_9 : decode b_MD_give 9 = .ok (.if_icmp .gt 7, 3) := by decide +kernel
theorem d_MD_give_12 : decode b_MD_give 12 = .ok (.iconst 1, 1) := by decide +kernel
theorem d_MD_give_13 : decode b_MD_give 13 = .ok (.goto 4, 3) := by decide +kernel
theorem d_MD_give_16 : decode b_MD_give 16 = .ok (.iconst 0, 1) := by decide +kernel
theorem d_MD_give_17 : decode b_MD_give 17 = .ok (.istore_n 3, 1) := by decide +kernel
theorem d_MD_give_18 : decode b_MD_give 18 = .ok (.iconst 0, 1) := by decide +kernel
theorem d_MD_give_19 : decode b_MD_give 19 = .ok (.istore 4, 2) := by decide +kernel
theorem d_MD_give_21 : decode b_MD_give 21 = .ok (.iload 4, 2) := by decide +kernel
theorem d_MD_give_23 : decode b_MD_give 23 = .ok (.iload_n 2, 1) := by decide +kernel
theorem d_MD_give_24 : decode b_MD_give 24 = .ok (.if_icmp .ge 41, 3) := by decide +kernel
theorem d_MD_give_27 : decode b_MD_give 27 = .ok (.iload_n 3, 1) := by decide +kernel
theorem d_MD_give_28 : decode b_MD_give 28 = .ok (.ifCond .eq 37, 3) := by decide +kernel
theorem d_MD_give_31 : decode b_MD_give 31 = .ok (.iload_n 1, 1) := by decide +kernel
theorem d_MD_give_32 : decode b_MD_give 32 = .ok (.ifCond .lt 25, 3) := by decide +kernel
theorem d_MD_give_35 : decode b_MD_give 35 = .ok (.iload_n 1, 1) := by decide +kernel
theorem d_MD_give_36 : decode b_MD_give 36 = .ok (.sipush 1024, 3) := by decide +kernel
theorem d_MD_give_39 : decode b_MD_give 39 = .ok (.if_icmp .ge 18, 3) := by decide +kernel
theorem d_MD_give_42 : decode b_MD_give 42 = .ok (.aload_n 0, 1) := by decide +kernel
theorem d_MD_give_43 : decode b_MD_give 43 = .ok (.iload_n 1, 1) := by decide +kernel
theorem d_MD_give_44 : decode b_MD_give 44 = .ok (.iload 4, 2) := by decide +kernel
theorem d_MD_give_46 : decode b_MD_give 46 = .ok (.iadd, 1) := by decide +kernel
theorem d_MD_give_47 : decode b_MD_give 47 = .ok (.invokevirtual 69, 3) := by decide +kernel
theorem d_MD_give_50 : decode b_MD_give 50 = .ok (.ifCond .eq 7, 3) := by decide +kernel
theorem d_MD_give_53 : decode b_MD_give 53 = .ok (.iconst 1, 1) := by decide +kernel
theorem d_MD_give_54 : decode b_MD_give 54 = .ok (.goto 4, 3) := by decide +kernel
theorem d_MD_give_57 : decode b_MD_give 57 = .ok (.iconst 0, 1) := by decide +kernel
theorem d_MD_give_58 : decode b_MD_give 58 = .ok (.istore_n 3, 1) := by decide +kernel
theorem d_MD_give_59 : decode b_MD_give 59 = .ok (.iinc 4 1, 3) := by decide +kernel
theorem d_MD_give_62 : decode b_MD_give 62 = .ok (.goto (-41), 3) := by decide +kernel
theorem d_MD_give_65 : decode b_MD_give 65 = .ok (.aload_n 0, 1) := by decide +kernel
theorem d_MD_give_66 : decode b_MD_give 66 = .ok (.iload_n 3, 1) := by decide +kernel
theorem d_MD_give_67 : decode b_MD_give 67 = .ok (.ifCond .eq 7, 3) := by decide +kernel
theorem d_MD_give_70 : decode b_MD_give 70 = .ok (.iconst 0, 1) := by decide +kernel
theorem d_MD_give_71 : decode b_MD_give 71 = .ok (.goto 4, 3) := by decide +kernel
theorem d_MD_give_74 : decode b_MD_give 74 = .ok (.iconst 1, 1) := by decide +kernel
theorem d_MD_give_75 : decode b_MD_give 75 = .ok (.putfield 30, 3) := by decide +kernel
theorem d_MD_give_78 : decode b_MD_give 78 = .ok (.iconst 0, 1) := by decide +kernel
theorem d_MD_give_79 : decode b_MD_give 79 = .ok (.istore 4, 2) := by decide +kernel
theorem d_MD_give_81 : decode b_MD_give 81 = .ok (.iload 4, 2) := by decide +kernel
theorem d_MD_give_83 : decode b_MD_give 83 = .ok (.iload_n 2, 1) := by decide +kernel
theorem d_MD_give_84 : decode b_MD_give 84 = .ok (.if_icmp .ge 59, 3) := by decide +kernel
theorem d_MD_give_87 : decode b_MD_give 87 = .ok (.iload_n 3, 1) := by decide +kernel
theorem d_MD_give_88 : decode b_MD_give 88 = .ok (.ifCond .eq 55, 3) := by decide +kernel
theorem d_MD_give_91 : decode b_MD_give 91 = .ok (.iload_n 1, 1) := by decide +kernel
theorem d_MD_give_92 : decode b_MD_give 92 = .ok (.iload 4, 2) := by decide +kernel
theorem d_MD_give_94 : decode b_MD_give 94 = .ok (.iadd, 1) := by decide +kernel
theorem d_MD_give_95 : decode b_MD_give 95 = .ok (.istore 5, 2) := by decide +kernel
theorem d_MD_give_97 : decode b_MD_give 97 = .ok (.aload_n 0, 1) := by decide +kernel
theorem d_MD_give_98 : decode b_MD_give 98 = .ok (.aload_n 0, 1) := by decide +kernel
theorem d_MD_give_99 : decode b_MD_give 99 = .ok (.getfield 13, 3) := by decide +kernel
theorem d_MD_give_102 : decode b_MD_give 102 = .ok (.iload 5, 2) := by decide +kernel
theorem d_MD_give_104 : decode b_MD_give 104 = .ok (.baload, 1) := by decide +kernel
theorem d_MD_give_105 : decode b_MD_give 105 = .ok (.ifCond .eq 21, 3) := by decide +kernel
theorem d_MD_give_108 : decode b_MD_give 108 = .ok (.iload 5, 2) := by decide +kernel
theorem d_MD_give_110 : decode b_MD_give 110 = .ok (.sipush 256, 3) := by decide +kernel
theorem d_MD_give_113 : decode b_MD_give 113 = .ok (.irem, 1) := by decide +kernel
theorem d_MD_give_114 : decode b_MD_give 114 = .ok (.iload 5, 2) := by decide +kernel
theorem d_MD_give_116 : decode b_MD_give 116 = .ok (.sipush 256, 3) := by decide +kernel
theorem d_MD_give_119 : decode b_MD_give 119 = .ok (.idiv, 1) := by decide +kernel
theorem d_MD_give_120 : decode b_MD_give 120 = .ok (.invokestatic 50, 3) := by decide +kernel
theorem d_MD_give_123 : decode b_MD_give 123 = .ok (.if_icmp .ge 7, 3) := by decide +kernel
theorem d_MD_give_126 : decode b_MD_give 126 = .ok (.iconst 2, 1) := by decide +kernel
theorem d_MD_give_127 : decode b_MD_give 127 = .ok (.goto 7, 3) := by decide +kernel
theorem d_MD_give_130 : decode b_MD_give 130 = .ok (.aload_n 0, 1) := by decide +kernel
theorem d_MD_give_131 : decode b_MD_give 131 = .ok (.getfield 30, 3) := by decide +kernel
theorem d_MD_give_134 : decode b_MD_give 134 = .ok (.putfield 30, 3) := by decide +kernel
theorem d_MD_give_137 : decode b_MD_give 137 = .ok (.iinc 4 1, 3) := by decide +kernel
theorem d_MD_give_140 : decode b_MD_give 140 = .ok (.goto (-59), 3) := by decide +kernel
theorem d_MD_give_143 : decode b_MD_give 143 = .ok (.aload_n 0, 1) := by decide +kernel
theorem d_MD_give_144 : decode b_MD_give 144 = .ok (.getfield 30, 3) := by decide +kernel
theorem d_MD_give_147 : decode b_MD_give 147 = .ok (.ifCond .le 5, 3) := by decide +kernel
theorem d_MD_give_150 : decode b_MD_give 150 = .ok (.iconst 0, 1) := by decide +kernel
theorem d_MD_give_151 : decode b_MD_give 151 = .ok (.ireturn, 1) := by decide +kernel
theorem d_MD_give_152 : decode b_MD_give 152 = .ok (.aload_n 0, 1) := by decide +kernel
theorem d_MD_give_153 : decode b_MD_give 153 = .ok (.iload_n 1, 1) := by decide +kernel
theorem d_MD_give_154 : decode b_MD_give 154 = .ok (.iload_n 2, 1) := by decide +kernel
theorem d_MD_give_155 : decode b_MD_give 155 = .ok (.iconst 0, 1) := by decide +kernel
theorem d_MD_give_156 : decode b_MD_give 156 = .ok (.invokevirtual 80, 3) := by decide +kernel
theorem d_MD_give_159 : decode b_MD_give 159 = .ok (.aload_n 0, 1) := by decide +kernel
theorem d_MD_give_160 : decode b_MD_give 160 = .ok (.invokevirtual 59, 3) := by decide +kernel
theorem d_MD_give_163 : decode b_MD_give 163 = .ok (.ireturn, 1) := by decide +kernel
theorem d_MD_groupOfPlain_0 : decode b_MD_groupOfPlain 0 = .ok (.aload_n 0, 1) := by decide +kernel
theorem d_MD_groupOfPlain_1 : decode b_MD_groupOfPlain 1 = .ok (.iload_n 1, 1) := by decide +kernel
theorem d_MD_groupOfPlain_2 : decode b_MD_groupOfPlain 2 = .ok (.invokevirtual 56, 3) := by decide +kernel
theorem d_MD_groupOfPlain_5 : decode b_MD_groupOfPlain 5 = .ok (.ifCond .le 13, 3) := by decide +kernel
theorem d_MD_groupOfPlain_8 : decode b_MD_groupOfPlain 8 = .ok (.aload_n 0, 1) := by decide +kernel
theorem d_MD_groupOfPlain_9 : decode b_MD_groupOfPlain 9 = .ok (.iload_n 1, 1) := by decide +kernel
theorem d_MD_groupOfPlain_10 : decode b_MD_groupOfPlain 10 = .ok (.invokevirtual 53, 3) := by decide +kernel
theorem d_MD_groupOfPlain_13 : decode b_MD_groupOfPlain 13 = .ok (.ifCond .le 5, 3) := by decide +kernel
theorem d_MD_groupOfPlain_16 : decode b_MD_groupOfPlain 16 = .ok (.iload_n 1, 1) := by decide +kernel
theorem d_MD_groupOfPlain_17 : decode b_MD_groupOfPlain 17 = .ok (.ireturn, 1) := by decide +kernel
theorem d_MD_groupOfPlain_18 : decode b_MD_groupOfPlain 18 = .ok (.iconst 1, 1) := by decide +kernel
theorem d_MD_groupOfPlain_19 : decode b_MD_groupOfPlain 19 = .ok (.istore_n 2, 1) := by decide +kernel
theorem d_MD_groupOfPlain_20 : decode b_MD_groupOfPlain 20 = .ok (.iload_n 2, 1) := by decide +kernel
theorem d_MD_groupOfPlain_21 : decode b_MD_groupOfPlain 21 = .ok (.bipush 8, 2) := by decide +kernel
theorem d_MD_groupOfPlain_23 : decode b_MD_groupOfPlain 23 = .ok (.if_icmp .ge 39, 3) := by decide +kernel
theorem d_MD_groupOfPlain_26 : decode b_MD_groupOfPlain 26 = .ok (.iload_n 1, 1) := by decide +kernel
theorem d_MD_groupOfPlain_27 : decode b_MD_groupOfPlain 27 = .ok (.iload_n 2, 1) := by decide +kernel
theorem d_MD_groupOfPlain_28 : decode b_MD_groupOfPlain 28 = .ok (.iadd, 1) := by decide +kernel
theorem d_MD_groupOfPlain_29 : decode b_MD_groupOfPlain 29 = .ok (.aload_n 0, 1) := by decide +kernel
theorem d_MD_groupOfPlain_30 : decode b_MD_groupOfPlain 30 = .ok (.getfield 38, 3) := by decide +kernel
theorem d_MD_groupOfPlain_33 : decode b_MD_groupOfPlain 33 = .ok (.irem, 1) := by decide +kernel
theorem d_MD_groupOfPlain_34 : decode b_MD_groupOfPlain 34 = .ok (.istore_n 3, 1) := by decide +kernel
theorem d_MD_groupOfPlain_35 : decode b_MD_groupOfPlain 35 = .ok (.aload_n 0, 1) := by decide +kernel
theorem d_MD_groupOfPlain_36 : decode b_MD_groupOfPlain 36 = .ok (.iload_n 3, 1) := by decide +kernel
theorem d_MD_groupOfPlain_37 : decode b_MD_groupOfPlain 37 = .ok (.invokevirtual 56, 3) := by decide +kernel
theorem d_MD_groupOfPlain_40 : decode b_MD_groupOfPlain 40 = .ok (.ifCond .le 13, 3) := by decide +kernel
theorem d_MD_groupOfPlain_43 : decode b_MD_groupOfPlain 43 = .ok (.aload_n 0, 1) := by decide +kernel
theorem d_MD_groupOfPlain_44 : decode b_MD_groupOfPlain 44 = .ok (.iload_n 3, 1) := by decide +kernel
theorem d_MD_groupOfPlain_45 : decode b_MD_groupOfPlain 45 = .ok (.invokevirtual 53, 3) := by decide +kernel
theorem d_MD_groupOfPlain_48 : decode b_MD_groupOfPlain 48 = .ok (.ifCond .le 5, 3) := by decide +kernel
theorem d_MD_groupOfPlain_51 : decode b_MD_groupOfPlain 51 = .ok (.iload_n 3, 1) := by decide +kernel
theorem d_MD_groupOfPlain_52 : decode b_MD_groupOfPlain 52 = .ok (.ireturn, 1) := by decide +kernel
theorem d_MD_groupOfPlain_53 : decode b_MD_groupOfPlain 53 = .ok (.iconst 2, 1) := by decide +kernel
theorem d_MD_groupOfPlain_54 : decode b_MD_groupOfPlain 54 = .ok (.iload_n 2, 1) := by decide +kernel
theorem d_MD_groupOfPlain_55 : decode b_MD_groupOfPlain 55 = .ok (.imul, 1) := by decide +kernel
theorem d_MD_groupOfPlain_56 : decode b_MD_groupOfPlain 56 = .ok (.iconst 1, 1) := by decide +kernel
theorem d_MD_groupOfPlain_57 : decode b_MD_groupOfPlain 57 = .ok (.iadd, 1) := by decide +kernel
theorem d_MD_groupOfPlain_58 : decode b_MD_groupOfPlain 58 = .ok (.istore_n 2, 1) := by decide +kernel
theorem d_MD_groupOfPlain_59 : decode b_MD_groupOfPlain 59 = .ok (.goto (-39), 3) := by decide +kernel
theorem d_MD_groupOfPlain_62 : decode b_MD_groupOfPlain 62 = .ok (.aload_n 0, 1) := by decide +kernel
theorem d_MD_groupOfPlain_63 : decode b_MD_groupOfPlain 63 = .ok (.iload_n 1, 1) := by decide +kernel
theorem d_MD_groupOfPlain_64 : decode b_MD_groupOfPlain 64 = .ok (.invokevirtual 84, 3) := by decide +kernel
theorem d_MD_groupOfPlain_67 : decode b_MD_groupOfPlain 67 = .ok (.ireturn, 1) := by decide +kernel
theorem d_MD_firstFree_0 : decode b_MD_firstFree 0 = .ok (.iconst 0, 1) := by decide +kernel
theorem d_MD_firstFree_1 : decode b_MD_firstFree 1 = .ok (.istore_n 2, 1) := by decide +kernel
theorem d_MD_firstFree_2 : decode b_MD_firstFree 2 = .ok (.iload_n 2, 1) := by decide +kernel
theorem d_MD_firstFree_3 : decode b_MD_firstFree 3 = .ok (.aload_n 0, 1) := by decide +kernel
theorem d_MD_firstFree_4 : decode b_MD_firstFree 4 = .ok (.getfield 38, 3) := by decide +kernel
theorem d_MD_firstFree_7 : decode b_MD_firstFree 7 = .ok (.if_icmp .ge 33, 3) := by decide +kernel
theorem d_MD_firstFree_10 : decode b_MD_firstFree 10 = .ok (.aload_n 0, 1) := by decide +kernel
theorem d_MD_firstFree_11 : decode b_MD_firstFree 11 = .ok (.iload_n 1, 1) := by decide +kernel
theorem d_MD_firstFree_12 : decode b_MD_firstFree 12 = .ok (.iload_n 2, 1) := by decide +kernel
theorem d_MD_firstFree_13 : decode b_MD_firstFree 13 = .ok (.iadd, 1) := by decide +kernel
theorem d_MD_firstFree_14 : decode b_MD_firstFree 14 = .ok (.aload_n 0, 1) := by decide +kernel
theorem d_MD_firstFree_15 : decode b_MD_firstFree 15 = .ok (.getfield 38, 3) := by decide +kernel
theorem d_MD_firstFree_18 : decode b_MD_firstFree 18 = .ok (.irem, 1) := by decide +kernel
theorem d_MD_firstFree_19 : decode b_MD_firstFree 19 = .ok (.invokevirtual 56, 3) := by decide +kernel
theorem d_MD_firstFree_22 : decode b_MD_firstFree 22 = .ok (.ifCond .le 12, 3) := by decide +kernel
theorem d_MD_firstFree_25 : decode b_MD_firstFree 25 = .ok (.iload_n 1, 1) := by decide +kernel
theorem d_MD_firstFree_26 : decode b_MD_firstFree 26 = .ok (.iload_n 2, 1) := by decide +kernel
theorem d_MD_firstFree_27 : decode b_MD_firstFree 27 = .ok (.iadd, 1) := by decide +kernel
theorem d_MD_firstFree_28 : decode b_MD_firstFree 28 = .ok (.aload_n 0, 1) := by decide +kernel
theorem d_MD_firstFree_29 : decode b_MD_firstFree 29 = .ok (.getfield 38, 3) := by decide +kernel
theorem d_MD_firstFree_32 : decode b_MD_firstFree 32 = .ok (.irem, 1) := by decide +kernel
theorem d_MD_firstFree_33 : decode b_MD_firstFree 33 = .ok (.ireturn, 1) := by decide +kernel
theorem d_MD_firstFree_34 : decode b_MD_firstFree 34 = .ok (.iinc 2 1, 3) := by decide +kernel
theorem d_MD_firstFree_37 : decode b_MD_firstFree 37 = .ok (.goto (-35), 3) := by decide +kernel
theorem d_MD_firstFree_40 : decode b_MD_firstFree 40 = .ok (.iconst (-1), 1) := by decide +kernel
theorem d_MD_firstFree_41 : decode b_MD_firstFree 41 = .ok (.ireturn, 1) := by decide +kernel
theorem d_MD_groupOfFolder_0 : decode b_MD_groupOfFolder 0 = .ok (.aload_n 0, 1) := by decide +kernel
theorem d_MD_groupOfFolder_1 : decode b_MD_groupOfFolder 1 = .ok (.invokevirtual 87, 3) := by decide +kernel
theorem d_MD_groupOfFolder_4 : decode b_MD_groupOfFolder 4 = .ok (.aload_n 0, 1) := by decide +kernel
theorem d_MD_groupOfFolder_5 : decode b_MD_groupOfFolder 5 = .ok (.getfield 38, 3) := by decide +kernel
theorem d_MD_groupOfFolder_8 : decode b_MD_groupOfFolder 8 = .ok (.idiv, 1) := by decide +kernel
theorem d_MD_groupOfFolder_9 : decode b_MD_groupOfFolder 9 = .ok (.istore_n 3, 1) := by decide +kernel
theorem d_MD_groupOfFolder_10 : decode b_MD_groupOfFolder 10 = .ok (.aload_n 0, 1) := by decide +kernel
theorem d_MD_groupOfFolder_11 : decode b_MD_groupOfFolder 11 = .ok (.invokevirtual 59, 3) := by decide +kernel
theorem d_MD_groupOfFolder_14 : decode b_MD_groupOfFolder 14 = .ok (.aload_n 0, 1) := by decide +kernel
theorem d_MD_groupOfFolder_15 : decode b_MD_groupOfFolder 15 = .ok (.getfield 38, 3) := by decide +kernel
theorem d_MD_groupOfFolder_18 : decode b_MD_groupOfFolder 18 = .ok (.idiv, 1) := by decide +kernel
theorem d_MD_groupOfFolder_19 : decode b_MD_groupOfFolder 19 = .ok (.istore 4, 2) := by decide +kernel
theorem d_MD_groupOfFolder_21 : decode b_MD_groupOfFolder 21 = .ok (.iconst (-1), 1) := by decide +kernel
theorem d_MD_groupOfFolder_22 : decode b_MD_groupOfFolder 22 = .ok (.istore 5, 2) := by decide +kernel
theorem d_MD_groupOfFolder_24 : decode b_MD_groupOfFolder 24 = .ok (.iconst 0, 1) := by decide +kernel
theorem d_MD_groupOfFolder_25 : decode b_MD_groupOfFolder 25 = .ok (.istore 6, 2) := by decide +kernel
theorem d_MD_groupOfFolder_27 : decode b_MD_groupOfFolder 27 = .ok (.iload 6, 2) := by decide +kernel
theorem d_MD_groupOfFolder_29 : decode b_MD_groupOfFolder 29 = .ok (.aload_n 0, 1) := by decide +kernel
theorem d_MD_groupOfFolder_30 : decode b_MD_groupOfFolder 30 = .ok (.getfield 38, 3) := by decide +kernel
theorem d_MD_groupOfFolder_33 : decode b_MD_groupOfFolder 33 = .ok (.if_icmp .ge 97, 3) := by decide +kernel
theorem d_MD_groupOfFolder_36 : decode b_MD_groupOfFolder 36 = .ok (.iload_n 2, 1) := by decide +kernel
theorem d_MD_groupOfFolder_37 : decode b_MD_groupOfFolder 37 = .ok (.ifCond .eq 93, 3) := by decide +kernel
theorem d_MD_groupOfFolder_40 : decode b_MD_groupOfFolder 40 = .ok (.iload_n 1, 1) := by decide +kernel
theorem d_MD_groupOfFolder_41 : decode b_MD_groupOfFolder 41 = .ok (.iload 6, 2) := by decide +kernel
theorem d_MD_groupOfFolder_43 : decode b_MD_groupOfFolder 43 = .ok (.iadd, 1) := by decide +kernel
theorem d_MD_groupOfFolder_44 : decode b_MD_groupOfFolder 44 = .ok (.aload_n 0, 1) := by decide +kernel
theorem d_MD_groupOfFolder_45 : decode b_MD_groupOfFolder 45 = .ok (.getfield 38, 3) := by decide +kernel
theorem d_MD_groupOfFolder_48 : decode b_MD_groupOfFolder 48 = .ok (.irem, 1) := by decide +kernel
theorem d_MD_groupOfFolder_49 : decode b_MD_groupOfFolder 49 = .ok (.istore 7, 2) := by decide +kernel
theorem d_MD_groupOfFolder_51 : decode b_MD_groupOfFolder 51 = .ok (.aload_n 0, 1) := by decide +kernel
theorem d_MD_groupOfFolder_52 : decode b_MD_groupOfFolder 52 = .ok (.iload 7, 2) := by decide +kernel
theorem d_MD_groupOfFolder_54 : decode b_MD_groupOfFolder 54 = .ok (.invokevirtual 56, 3) := by decide +kernel
theorem d_MD_groupOfFolder_57 : decode b_MD_groupOfFolder 57 = .ok (.iload_n 3, 1) := by decide +kernel
theorem d_MD_groupOfFolder_58 : decode b_MD_groupOfFolder 58 = .ok (.if_icmp .lt 27, 3) := by decide +kernel
theorem d_MD_groupOfFolder_61 : decode b_MD_groupOfFolder 61 = .ok (.aload_n 0, 1) := by decide +kernel
theorem d_MD_groupOfFolder_62 : decode b_MD_groupOfFolder 62 = .ok (.iload 7, 2) := by decide +kernel
theorem d_MD_groupOfFolder_64 : decode b_MD_groupOfFolder 64 = .ok (.invokevirtual 53, 3) := by decide +kernel
theorem d_MD_groupOfFolder_67 : decode b_MD_groupOfFolder 67 = .ok (.iload 4, 2) := by decide +kernel
theorem d_MD_groupOfFolder_69 : decode b_MD_groupOfFolder 69 = .ok (.if_icmp .lt 16, 3) := by decide +kernel
theorem d_MD_groupOfFolder_72 : decode b_MD_groupOfFolder 72 = .ok (.aload_n 0, 1) := by decide +kernel
theorem d_MD_groupOfFolder_73 : decode b_MD_groupOfFolder 73 = .ok (.iload 7, 2) := by decide +kernel
theorem d_MD_groupOfFolder_75 : decode b_MD_groupOfFolder 75 = .ok (.invokevirtual 56, 3) := by decide +kernel
theorem d_MD_groupOfFolder_78 : decode b_MD_groupOfFolder 78 = .ok (.ifCond .le 7, 3) := by decide +kernel
theorem d_MD_groupOfFolder_81 : decode b_MD_groupOfFolder 81 = .ok (.iconst 1, 1) := by decide +kernel
theorem d_MD_groupOfFolder_82 : decode b_MD_groupOfFolder 82 = .ok (.goto 4, 3) := by decide +kernel
theorem d_MD_groupOfFolder_85 : decode b_MD_groupOfFolder 85 = .ok (.iconst 0, 1) := by decide +kernel
theorem d_MD_groupOfFolder_86 : decode b_MD_groupOfFolder 86 = .ok (.istore 8, 2) := by decide +kernel
theorem d_MD_groupOfFolder_88 : decode b_MD_groupOfFolder 88 = .ok (.iload 8, 2) := by decide +kernel
theorem d_MD_groupOfFolder_90 : decode b_MD_groupOfFolder 90 = .ok (.ifCond .eq 30, 3) := by decide +kernel
theorem d_MD_groupOfFolder_93 : decode b_MD_groupOfFolder 93 = .ok (.iload 5, 2) := by decide +kernel
theorem d_MD_groupOfFolder_95 : decode b_MD_groupOfFolder 95 = .ok (.ifCond .lt 20, 3) := by decide +kernel
theorem d_MD_groupOfFolder_98 : decode b_MD_groupOfFolder 98 = .ok (.aload_n 0, 1) := by decide +kernel
theorem d_MD_groupOfFolder_99 : decode b_MD_groupOfFolder 99 = .ok (.getfield 20, 3) := by decide +kernel
theorem d_MD_groupOfFolder_102 : decode b_MD_groupOfFolder 102 = .ok (.iload 7, 2) := by decide +kernel
theorem d_MD_groupOfFolder_104 : decode b_MD_groupOfFolder 104 = .ok (.iaload, 1) := by decide +kernel
theorem d_MD_groupOfFolder_105 : decode b_MD_groupOfFolder 105 = .ok (.aload_n 0, 1) := by decide +kernel
theorem d_MD_groupOfFolder_106 : decode b_MD_groupOfFolder 106 = .ok (.getfield 20, 3) := by decide +kernel
theorem d_MD_groupOfFolder_109 : decode b_MD_groupOfFolder 109 = .ok (.iload 5, 2) := by decide +kernel
theorem d_MD_groupOfFolder_111 : decode b_MD_groupOfFolder 111 = .ok (.iaload, 1) := by decide +kernel
theorem d_MD_groupOfFolder_112 : decode b_MD_groupOfFolder 112 = .ok (.if_icmp .ge 8, 3) := by decide +kernel
theorem d_MD_groupOfFolder_115 : decode b_MD_groupOfFolder 115 = .ok (.iload 7, 2) := by decide +kernel
theorem d_MD_groupOfFolder_117 : decode b_MD_groupOfFolder 117 = .ok (.goto 5, 3) := by decide +kernel
theorem d_MD_groupOfFolder_120 : decode b_MD_groupOfFolder 120 = .ok (.iload 5, 2) := by decide +kernel
theorem d_MD_groupOfFolder_122 : decode b_MD_groupOfFolder 122 = .ok (.istore 5, 2) := by decide +kernel
theorem d_MD_groupOfFolder_124 : decode b_MD_groupOfFolder 124 = .ok (.iinc 6 1, 3) := by decide +kernel
theorem d_MD_groupOfFolder_127 : decode b_MD_groupOfFolder 127 = .ok (.goto (-100), 3) := by decide +kernel
theorem d_MD_groupOfFolder_130 : decode b_MD_groupOfFolder 130 = .ok (.iconst 0, 1) := by decide +kernel
theorem d_MD_groupOfFolder_131 : decode b_MD_groupOfFolder 131 = .ok (.istore 6, 2) := by decide +kernel
theorem d_MD_groupOfFolder_133 : decode b_MD_groupOfFolder 133 = .ok (.iload 6, 2) := by decide +kernel
theorem d_MD_groupOfFolder_135 : decode b_MD_groupOfFolder 135 = .ok (.aload_n 0, 1) := by decide +kernel
theorem d_MD_groupOfFolder_136 : decode b_MD_groupOfFolder 136 = .ok (.getfield 38, 3) := by decide +kernel
theorem d_MD_groupOfFolder_139 : decode b_MD_groupOfFolder 139 = .ok (.if_icmp .ge 76, 3) := by decide +kernel
theorem d_MD_groupOfFolder_142 : decode b_MD_groupOfFolder 142 = .ok (.iload 5, 2) := by decide +kernel
theorem d_MD_groupOfFolder_144 : decode b_MD_groupOfFolder 144 = .ok (.ifCond .ge 71, 3) := by decide +kernel
theorem d_MD_groupOfFolder_147 : decode b_MD_groupOfFolder 147 = .ok (.iload_n 1, 1) := by decide +kernel
theorem d_MD_groupOfFolder_148 : decode b_MD_groupOfFolder 148 = .ok (.iload 6, 2) := by decide +kernel
theorem d_MD_groupOfFolder_150 : decode b_MD_groupOfFolder 150 = .ok (.iadd, 1) := by decide +kernel
theorem d_MD_groupOfFolder_151 : decode b_MD_groupOfFolder 151 = .ok (.aload_n 0, 1) := by decide +kernel
theorem d_MD_groupOfFolder_152 : decode b_MD_groupOfFolder 152 = .ok (.getfield 38, 3) := by decide +kernel
theorem d_MD_groupOfFolder_155 : decode b_MD_groupOfFolder 155 = .ok (.irem, 1) := by decide +kernel
theorem d_MD_groupOfFolder_156 : decode b_MD_groupOfFolder 156 = .ok (.istore 7, 2) := by decide +kernel
theorem d_MD_groupOfFolder_158 : decode b_MD_groupOfFolder 158 = .ok (.aload_n 0, 1) := by decide +kernel
theorem d_MD_groupOfFolder_159 : decode b_MD_groupOfFolder 159 = .ok (.iload 7, 2) := by decide +kernel
theorem d_MD_groupOfFolder_161 : decode b_MD_groupOfFolder 161 = .ok (.invokevirtual 56, 3) := by decide +kernel
theorem d_MD_groupOfFolder_164 : decode b_MD_groupOfFolder 164 = .ok (.iload_n 3, 1) := by decide +kernel
theorem d_MD_groupOfFolder_165 : decode b_MD_groupOfFolder 165 = .ok (.iconst 2, 1) := by decide +kernel
theorem d_MD_groupOfFolder_166 : decode b_MD_groupOfFolder 166 = .ok (.idiv, 1) := by decide +kernel
theorem d_MD_groupOfFolder_167 : decode b_MD_groupOfFolder 167 = .ok (.if_icmp .lt 25, 3) := by decide +kernel
theorem d_MD_groupOfFolder_170 : decode b_MD_groupOfFolder 170 = .ok (.aload_n 0, 1) := by decide +kernel
theorem d_MD_groupOfFolder_171 : decode b_MD_groupOfFolder 171 = .ok (.iload 7, 2) := by decide +kernel
theorem d_MD_groupOfFolder_173 : decode b_MD_groupOfFolder 173 = .ok (.invokevirtual 56, 3) := by decide +kernel
theorem d_MD_groupOfFolder_176 : decode b_MD_groupOfFolder 176 = .ok (.ifCond .le 16, 3) := by decide +kernel
theorem d_MD_groupOfFolder_179 : decode b_MD_groupOfFolder 179 = .ok (.aload_n 0, 1) := by decide +kernel
theorem d_MD_groupOfFolder_180 : decode b_MD_groupOfFolder 180 = .ok (.iload 7, 2) := by decide +kernel
theorem d_MD_groupOfFolder_182 : decode b_MD_groupOfFolder 182 = .ok (.invokevirtual 53, 3) := by decide +kernel
theorem d_MD_groupOfFolder_185 : decode b_MD_groupOfFolder 185 = .ok (.ifCond .le 7, 3) := by decide +kernel
theorem d_MD_groupOfFolder_188 : decode b_MD_groupOfFolder 188 = .ok (.iconst 1, 1) := by decide +kernel
theorem d_MD_groupOfFolder_189 : decode b_MD_groupOfFolder 189 = .ok (.goto 4, 3) := by decide +kernel
theorem d_MD_groupOfFolder_192 : decode b_MD_groupOfFolder 192 = .ok (.iconst 0, 1) := by decide +kernel
theorem d_MD_groupOfFolder_193 : decode b_MD_groupOfFolder 193 = .ok (.istore 8, 2) := by decide +kernel
theorem d_MD_groupOfFolder_195 : decode b_MD_groupOfFolder 195 = .ok (.iload 8, 2) := by decide +kernel
theorem d_MD_groupOfFolder_197 : decode b_MD_groupOfFolder 197 = .ok (.ifCond .eq 8, 3) := by decide +kernel
theorem d_MD_groupOfFolder_200 : decode b_MD_groupOfFolder 200 = .ok (.iload 7, 2) := by decide +kernel
theorem d_MD_groupOfFolder_202 : decode b_MD_groupOfFolder 202 = .ok (.goto 5, 3) := by decide +kernel
theorem d_MD_groupOfFolder_205 : decode b_MD_groupOfFolder 205 = .ok (.iload 5, 2) := by decide +kernel
theorem d_MD_groupOfFolder_207 : decode b_MD_groupOfFolder 207 = .ok (.istore 5, 2) := by decide +kernel
theorem d_MD_groupOfFolder_209 : decode b_MD_groupOfFolder 209 = .ok (.iinc 6 1, 3) := by decide +kernel
theorem d_MD_groupOfFolder_212 : decode b_MD_groupOfFolder 212 = .ok (.goto (-79), 3) := by decide +kernel
theorem d_MD_groupOfFolder_215 : decode b_MD_groupOfFolder 215 = .ok (.iload 5, 2) := by decide +kernel
theorem d_MD_groupOfFolder_217 : decode b_MD_groupOfFolder 217 = .ok (.ifCond .ge 11, 3) := by decide +kernel
theorem d_MD_groupOfFolder_220 : decode b_MD_groupOfFolder 220 = .ok (.aload_n 0, 1) := by decide +kernel
theorem d_MD_groupOfFolder_221 : decode b_MD_groupOfFolder 221 = .ok (.iload_n 1, 1) := by decide +kernel
theorem d_MD_groupOfFolder_222 : decode b_MD_groupOfFolder 222 = .ok (.invokevirtual 84, 3) := by decide +kernel
theorem d_MD_groupOfFolder_225 : decode b_MD_groupOfFolder 225 = .ok (.goto 5, 3) := by decide +kernel
theorem d_MD_groupOfFolder_228 : decode b_MD_groupOfFolder 228 = .ok (.iload 5, 2) := by decide +kernel
theorem d_MD_groupOfFolder_230 : decode b_MD_groupOfFolder 230 = .ok (.ireturn, 1) := by decide +kernel
theorem d_MD_markFile_0 : decode b_MD_markFile 0 = .ok (.aload_n 0, 1) := by decide +kernel
theorem d_MD_markFile_1 : decode b_MD_markFile 1 = .ok (.getfield 17, 3) := by decide +kernel
theorem d_MD_markFile_4 : decode b_MD_markFile 4 = .ok (.sipush 128, 3) := by decide +kernel
theorem d_MD_markFile_7 : decode b_MD_markFile 7 = .ok (.iload_n 1, 1) := by decide +kernel
theorem d_MD_markFile_8 : decode b_MD_markFile 8 = .ok (.imul, 1) := by decide +kernel
theorem d_MD_markFile_9 : decode b_MD_markFile 9 = .ok (.iload_n 2, 1) := by decide +kernel
theorem d_MD_markFile_10 : decode b_MD_markFile 10 = .ok (.iadd, 1) := by decide +kernel
theorem d_MD_markFile_11 : decode b_MD_markFile 11 = .ok (.iload_n 3, 1) := by decide +kernel
theorem d_MD_markFile_12 : decode b_MD_markFile 12 = .ok (.bastore, 1) := by decide +kernel
theorem d_MD_markFile_13 : decode b_MD_markFile 13 = .ok (.aload_n 0, 1) := by decide +kernel
theorem d_MD_markFile_14 : decode b_MD_markFile 14 = .ok (.getfield 20, 3) := by decide +kernel
theorem d_MD_markFile_17 : decode b_MD_markFile 17 = .ok (.iload_n 1, 1) := by decide +kernel
theorem d_MD_markFile_18 : decode b_MD_markFile 18 = .ok (.iload 4, 2) := by decide +kernel
theorem d_MD_markFile_20 : decode b_MD_markFile 20 = .ok (.ifCond .ne 12, 3) := by decide +kernel
theorem d_MD_markFile_23 : decode b_MD_markFile 23 = .ok (.aload_n 0, 1) := by decide +kernel
theorem d_MD_markFile_24 : decode b_MD_markFile 24 = .ok (.getfield 20, 3) := by decide +kernel
theorem d_MD_markFile_27 : decode b_MD_markFile 27 = .ok (.iload_n 1, 1) := by decide +kernel
theorem d_MD_markFile_28 : decode b_MD_markFile 28 = .ok (.iaload, 1) := by decide +kernel
theorem d_MD_markFile_29 : decode b_MD_markFile 29 = .ok (.goto 26, 3) := by decide +kernel
theorem d_MD_markFile_32 : decode b_MD_markFile 32 = .ok (.iload_n 3, 1) := by decide +kernel
theorem d_MD_markFile_33 : decode b_MD_markFile 33 = .ok (.ifCond .eq 14, 3) := by decide +kernel
theorem d_MD_markFile_36 : decode b_MD_markFile 36 = .ok (.aload_n 0, 1) := by decide +kernel
theorem d_MD_markFile_37 : decode b_MD_markFile 37 = .ok (.getfield 20, 3) := by decide +kernel
theorem d_MD_markFile_40 : decode b_MD_markFile 40 = .ok (.iload_n 1, 1) := by decide +kernel
theorem d_MD_markFile_41 : decode b_MD_markFile 41 = .ok (.iaload, 1) := by decide +kernel
theorem d_MD_markFile_42 : decode b_MD_markFile 42 = .ok (.iconst 1, 1) := by decide +kernel
theorem d_MD_markFile_43 : decode b_MD_markFile 43 = .ok (.iadd, 1) := by decide +kernel
theorem d_MD_markFile_44 : decode b_MD_markFile 44 = .ok (.goto 11, 3) := by decide +kernel
theorem d_MD_markFile_47 : decode b_MD_markFile 47 = .ok (.aload_n 0, 1) := by decide +kernel
theorem d_MD_markFile_48 : decode b_MD_markFile 48 = .ok (.getfield 20, 3) := by decide +kernel
theorem d_MD_markFile_51 : decode b_MD_markFile 51 = .ok (.iload_n 1, 1) := by decide +kernel
theorem d_MD_markFile_52 : decode b_MD_markFile 52 = .ok (.iaload, 1) := by decide +kernel
theorem d_MD_markFile_53 : decode b_MD_markFile 53 = .ok (.iconst 1, 1) := by decide +kernel
theorem d_MD_markFile_54 : decode b_MD_markFile 54 = .ok (.isub, 1) := by decide +kernel
theorem d_MD_markFile_55 : decode b_MD_markFile 55 = .ok (.iastore, 1) := by decide +kernel
theorem d_MD_markFile_56 : decode b_MD_markFile 56 = .ok (.aload_n 0, 1) := by decide +kernel
theorem d_MD_markFile_57 : decode b_MD_markFile 57 = .ok (.getfield 23, 3) := by decide +kernel
theorem d_MD_markFile_60 : decode b_MD_markFile 60 = .ok (.iconst 1, 1) := by decide +kernel
theorem d_MD_markFile_61 : decode b_MD_markFile 61 = .ok (.iconst 1, 1) := by decide +kernel
theorem d_MD_markFile_62 : decode b_MD_markFile 62 = .ok (.bastore, 1) := by decide +kernel
theorem d_MD_markFile_63 : decode b_MD_markFile 63 = .ok (.aload_n 0, 1) := by decide +kernel
theorem d_MD_markFile_64 : decode b_MD_markFile 64 = .ok (.getfield 23, 3) := by decide +kernel
theorem d_MD_markFile_67 : decode b_MD_markFile 67 = .ok (.iload_n 1, 1) := by decide +kernel
theorem d_MD_markFile_68 : decode b_MD_markFile 68 = .ok (.invokestatic 47, 3) := by decide +kernel
theorem d_MD_markFile_71 : decode b_MD_markFile 71 = .ok (.iconst 1, 1) := by decide +kernel
theorem d_MD_markFile_72 : decode b_MD_markFile 72 = .ok (.iadd, 1) := by decide +kernel
theorem d_MD_markFile_73 : decode b_MD_markFile 73 = .ok (.iconst 1, 1) := by decide +kernel
theorem d_MD_markFile_74 : decode b_MD_markFile 74 = .ok (.bastore, 1) := by decide +kernel
theorem d_MD_markFile_75 : decode b_MD_markFile 75 = .ok (.return_, 1) := by decide +kernel
theorem d_MD_takeFile_0 : decode b_MD_takeFile 0 = .ok (.aload_n 0, 1) := by decide +kernel
theorem d_MD_takeFile_1 : decode b_MD_takeFile 1 = .ok (.aload_n 0, 1) := by decide +kernel
theorem d_MD_takeFile_2 : decode b_MD_takeFile 2 = .ok (.iload_n 1, 1) := by decide +kernel
theorem d_MD_takeFile_3 : decode b_MD_takeFile 3 = .ok (.invokevirtual 90, 3) := by decide +kernel
theorem d_MD_takeFile_6 : decode b_MD_takeFile 6 = .ok (.ifCond .ne 7, 3) := by decide +kernel
theorem d_MD_takeFile_9 : decode b_MD_takeFile 9 = .ok (.iconst 1, 1) := by decide +kernel
theorem d_MD_takeFile_10 : decode b_MD_takeFile 10 = .ok (.goto 15, 3) := by decide +kernel
theorem d_MD_takeFile_13 : decode b_MD_takeFile 13 = .ok (.aload_n 0, 1) := by decide +kernel
theorem d_MD_takeFile_14 : decode b_MD_takeFile 14 = .ok (.invokevirtual 87, 3) := by decide +kernel
theorem d_MD_takeFile_17 : decode b_MD_takeFile 17 = .ok (.ifCond .ne 7, 3) := by decide +kernel
theorem d_MD_takeFile_20 : decode b_MD_takeFile 20 = .ok (.iconst 2, 1) := by decide +kernel
theorem d_MD_takeFile_21 : decode b_MD_takeFile 21 = .ok (.goto 4, 3) := by decide +kernel
theorem d_MD_takeFile_24 : decode b_MD_takeFile 24 = .ok (.iconst 0, 1) := by decide +kernel
theorem d_MD_takeFile_25 : decode b_MD_takeFile 25 = .ok (.putfield 30, 3) := by decide +kernel
theorem d_MD_takeFile_28 : decode b_MD_takeFile 28 = .ok (.aload_n 0, 1) := by decide +kernel
theorem d_MD_takeFile_29 : decode b_MD_takeFile 29 = .ok (.getfield 30, 3) := by decide +kernel
theorem d_MD_takeFile_32 : decode b_MD_takeFile 32 = .ok (.ifCond .le 5, 3) := by decide +kernel
theorem d_MD_takeFile_35 : decode b_MD_takeFile 35 = .ok (.iconst 0, 1) := by decide +kernel
theorem d_MD_takeFile_36 : decode b_MD_takeFile 36 = .ok (.ireturn, 1) := by decide +kernel
theorem d_MD_takeFile_37 : decode b_MD_takeFile 37 = .ok (.iload_n 1, 1) := by decide +kernel
theorem d_MD_takeFile_38 : decode b_MD_takeFile 38 = .ok (.iconst 1, 1) := by decide +kernel
theorem d_MD_takeFile_39 : decode b_MD_takeFile 39 = .ok (.isub, 1) := by decide +kernel
theorem d_MD_takeFile_40 : decode b_MD_takeFile 40 = .ok (.sipush 128, 3) := by decide +kernel
theorem d_MD_takeFile_43 : decode b_MD_takeFile 43 = .ok (.idiv, 1) := by decide +kernel
theorem d_MD_takeFile_44 : decode b_MD_takeFile 44 = .ok (.istore_n 3, 1) := by decide +kernel
theorem d_MD_takeFile_45 : decode b_MD_takeFile 45 = .ok (.iload_n 2, 1) := by decide +kernel
theorem d_MD_takeFile_46 : decode b_MD_takeFile 46 = .ok (.ifCond .eq 21, 3) := by decide +kernel
theorem d_MD_takeFile_49 : decode b_MD_takeFile 49 = .ok (.aload_n 0, 1) := by decide +kernel
theorem d_MD_takeFile_50 : decode b_MD_takeFile 50 = .ok (.iload_n 3, 1) := by decide +kernel
theorem d_MD_takeFile_51 : decode b_MD_takeFile 51 = .ok (.iload_n 1, 1) := by decide +kernel
theorem d_MD_takeFile_52 : decode b_MD_takeFile 52 = .ok (.iconst 2, 1) := by decide +kernel
theorem d_MD_takeFile_53 : decode b_MD_takeFile 53 = .ok (.if_icmp .ne 7, 3) := by decide +kernel
theorem d_MD_takeFile_56 : decode b_MD_takeFile 56 = .ok (.iconst 1, 1) := by decide +kernel
theorem d_MD_takeFile_57 : decode b_MD_takeFile 57 = .ok (.goto 4, 3) := by decide +kernel
theorem d_MD_takeFile_60 : decode b_MD_takeFile 60 = .ok (.iconst 0, 1) := by decide +kernel
theorem d_MD_takeFile_61 : decode b_MD_takeFile 61 = .ok (.invokevirtual 93, 3) := by decide +kernel
theorem d_MD_takeFile_64 : decode b_MD_takeFile 64 = .ok (.goto 8, 3) := by decide +kernel
theorem d_MD_takeFile_67 : decode b_MD_takeFile 67 = .ok (.aload_n 0, 1) := by decide +kernel
theorem d_MD_takeFile_68 : decode b_MD_takeFile 68 = .ok (.iload_n 3, 1) := by decide +kernel
theorem d_MD_takeFile_69 : decode b_MD_takeFile 69 = .ok (.invokevirtual 97, 3) := by decide +kernel
theorem d_MD_takeFile_72 : decode b_MD_takeFile 72 = .ok (.istore 4, 2) := by decide +kernel
theorem d_MD_takeFile_74 : decode b_MD_takeFile 74 = .ok (.iconst 0, 1) := by decide +kernel
theorem d_MD_takeFile_75 : decode b_MD_takeFile 75 = .ok (.istore 5, 2) := by decide +kernel
theorem d_MD_takeFile_77 : decode b_MD_takeFile 77 = .ok (.aload_n 0, 1) := by decide +kernel
theorem d_MD_takeFile_78 : decode b_MD_takeFile 78 = .ok (.getfield 17, 3) := by decide +kernel
theorem d_MD_takeFile_81 : decode b_MD_takeFile 81 = .ok (.sipush 128, 3) := by decide +kernel
theorem d_MD_takeFile_84 : decode b_MD_takeFile 84 = .ok (.iload 4, 2) := by decide +kernel
theorem d_MD_takeFile_86 : decode b_MD_takeFile 86 = .ok (.imul, 1) := by decide +kernel
theorem d_MD_takeFile_87 : decode b_MD_takeFile 87 = .ok (.iload 5, 2) := by decide +kernel
theorem d_MD_takeFile_89 : decode b_MD_takeFile 89 = .ok (.iadd, 1) := by decide +kernel
theorem d_MD_takeFile_90 : decode b_MD_takeFile 90 = .ok (.baload, 1) := by decide +kernel
theorem d_MD_takeFile_91 : decode b_MD_takeFile 91 = .ok (.ifCond .eq 9, 3) := by decide +kernel
theorem d_MD_takeFile_94 : decode b_MD_takeFile 94 = .ok (.iinc 5 1, 3) := by decide +kernel
theorem d_MD_takeFile_97 : decode b_MD_takeFile 97 = .ok (.goto (-20), 3) := by decide +kernel
theorem d_MD_takeFile_100 : decode b_MD_takeFile 100 = .ok (.aload_n 0, 1) := by decide +kernel
theorem d_MD_takeFile_101 : decode b_MD_takeFile 101 = .ok (.iload 4, 2) := by decide +kernel
theorem d_MD_takeFile_103 : decode b_MD_takeFile 103 = .ok (.iload 5, 2) := by decide +kernel
theorem d_MD_takeFile_105 : decode b_MD_takeFile 105 = .ok (.iconst 1, 1) := by decide +kernel
theorem d_MD_takeFile_106 : decode b_MD_takeFile 106 = .ok (.iload_n 2, 1) := by decide +kernel
theorem d_MD_takeFile_107 : decode b_MD_takeFile 107 = .ok (.invokevirtual 100, 3) := by decide +kernel
theorem d_MD_takeFile_110 : decode b_MD_takeFile 110 = .ok (.sipush 128, 3) := by decide +kernel
theorem d_MD_takeFile_113 : decode b_MD_takeFile 113 = .ok (.iload 4, 2) := by decide +kernel
theorem d_MD_takeFile_115 : decode b_MD_takeFile 115 = .ok (.imul, 1) := by decide +kernel
theorem d_MD_takeFile_116 : decode b_MD_takeFile 116 = .ok (.iload 5, 2) := by decide +kernel
theorem d_MD_takeFile_118 : decode b_MD_takeFile 118 = .ok (.iadd, 1) := by decide +kernel
theorem d_MD_takeFile_119 : decode b_MD_takeFile 119 = .ok (.iconst 1, 1) := by decide +kernel
theorem d_MD_takeFile_120 : decode b_MD_takeFile 120 = .ok (.iadd, 1) := by decide +kernel
theorem d_MD_takeFile_121 : decode b_MD_takeFile 121 = .ok (.ireturn, 1) := by decide +kernel
theorem d_MD_giveFile_0 : decode b_MD_giveFile 0 = .ok (.aload_n 0, 1) := by decide +kernel
theorem d_MD_giveFile_1 : decode b_MD_giveFile 1 = .ok (.aload_n 0, 1) := by decide +kernel
theorem d_MD_giveFile_2 : decode b_MD_giveFile 2 = .ok (.iload_n 1, 1) := by decide +kernel
theorem d_MD_giveFile_3 : decode b_MD_giveFile 3 = .ok (.invokevirtual 90, 3) := by decide +kernel
theorem d_MD_giveFile_6 : decode b_MD_giveFile 6 = .ok (.ifCond .eq 9, 3) := by decide +kernel
theorem d_MD_giveFile_9 : decode b_MD_giveFile 9 = .ok (.iload_n 1, 1) := by decide +kernel
theorem d_MD_giveFile_10 : decode b_MD_giveFile 10 = .ok (.bipush 11, 2) := by decide +kernel
theorem d_MD_giveFile_12 : decode b_MD_giveFile 12 = .ok (.if_icmp .ge 7, 3) := by decide +kernel
theorem d_MD_giveFile_15 : decode b_MD_giveFile 15 = .ok (.iconst 1, 1) := by decide +kernel
theorem d_MD_giveFile_16 : decode b_MD_giveFile 16 = .ok (.goto 4, 3) := by decide +kernel
theorem d_MD_giveFile_19 : decode b_MD_giveFile 19 = .ok (.iconst 0, 1) := by decide +kernel
theorem d_MD_giveFile_20 : decode b_MD_giveFile 20 = .ok (.putfield 30, 3) := by decide +kernel
theorem d_MD_giveFile_23 : decode b_MD_giveFile 23 = .ok (.aload_n 0, 1) := by decide +kernel
theorem d_MD_giveFile_24 : decode b_MD_giveFile 24 = .ok (.getfield 30, 3) := by decide +kernel
theorem d_MD_giveFile_27 : decode b_MD_giveFile 27 = .ok (.ifCond .le 5, 3) := by decide +kernel
theorem d_MD_giveFile_30 : decode b_MD_giveFile 30 = .ok (.iconst 0, 1) := by decide +kernel
theorem d_MD_giveFile_31 : decode b_MD_giveFile 31 = .ok (.ireturn, 1) := by decide +kernel
theorem d_MD_giveFile_32 : decode b_MD_giveFile 32 = .ok (.iload_n 1, 1) := by decide +kernel
theorem d_MD_giveFile_33 : decode b_MD_giveFile 33 = .ok (.iconst 1, 1) := by decide +kernel
theorem d_MD_giveFile_34 : decode b_MD_giveFile 34 = .ok (.isub, 1) := by decide +kernel
theorem d_MD_giveFile_35 : decode b_MD_giveFile 35 = .ok (.sipush 128, 3) := by decide +kernel
theorem d_MD_giveFile_38 : decode b_MD_giveFile 38 = .ok (.idiv, 1) := by decide +kernel
theorem d_MD_giveFile_39 : decode b_MD_giveFile 39 = .ok (.istore_n 3, 1) := by decide +kernel
theorem d_MD_giveFile_40 : decode b_MD_giveFile 40 = .ok (.aload_n 0, 1) := by decide +kernel
theorem d_MD_giveFile_41 : decode b_MD_giveFile 41 = .ok (.aload_n 0, 1) := by decide +kernel
theorem d_MD_giveFile_42 : decode b_MD_giveFile 42 = .ok (.getfield 17, 3) := by decide +kernel
theorem d_MD_giveFile_45 : decode b_MD_giveFile 45 = .ok (.iload_n 1, 1) := by decide +kernel
theorem d_MD_giveFile_46 : decode b_MD_giveFile 46 = .ok (.iconst 1, 1) := by decide +kernel
theorem d_MD_giveFile_47 : decode b_MD_giveFile 47 = .ok (.isub, 1) := by decide +kernel
theorem d_MD_giveFile_48 : decode b_MD_giveFile 48 = .ok (.baload, 1) := by decide +kernel
theorem d_MD_giveFile_49 : decode b_MD_giveFile 49 = .ok (.ifCond .eq 16, 3) := by decide +kernel
theorem d_MD_giveFile_52 : decode b_MD_giveFile 52 = .ok (.iload_n 2, 1) := by decide +kernel
theorem d_MD_giveFile_53 : decode b_MD_giveFile 53 = .ok (.ifCond .eq 16, 3) := by decide +kernel
theorem d_MD_giveFile_56 : decode b_MD_giveFile 56 = .ok (.aload_n 0, 1) := by decide +kernel
theorem d_MD_giveFile_57 : decode b_MD_giveFile 57 = .ok (.getfield 20, 3) := by decide +kernel
theorem d_MD_giveFile_60 : decode b_MD_giveFile 60 = .ok (.iload_n 3, 1) := by decide +kernel
theorem d_MD_giveFile_61 : decode b_MD_giveFile 61 = .ok (.iaload, 1) := by decide +kernel
theorem d_MD_giveFile_62 : decode b_MD_giveFile 62 = .ok (.ifCond .ne 7, 3) := by decide +kernel
theorem d_MD_giveFile_65 : decode b_MD_giveFile 65 = .ok (.iconst 2, 1) := by decide +kernel
theorem d_MD_giveFile_66 : decode b_MD_giveFile 66 = .ok (.goto 4, 3) := by decide +kernel
theorem d_MD_giveFile_69 : decode b_MD_giveFile 69 = .ok (.iconst 0, 1) := by decide +kernel
theorem d_MD_giveFile_70 : decode b_MD_giveFile 70 = .ok (.putfield 30, 3) := by decide +kernel
theorem d_MD_giveFile_73 : decode b_MD_giveFile 73 = .ok (.aload_n 0, 1) := by decide +kernel
theorem d_MD_giveFile_74 : decode b_MD_giveFile 74 = .ok (.getfield 30, 3) := by decide +kernel
theorem d_MD_giveFile_77 : decode b_MD_giveFile 77 = .ok (.ifCond .le 5, 3) := by decide +kernel
theorem d_MD_giveFile_80 : decode b_MD_giveFile 80 = .ok (.iconst 0, 1) := by decide +kernel
theorem d_MD_giveFile_81 : decode b_MD_giveFile 81 = .ok (.ireturn, 1) := by decide +kernel
theorem d_MD_giveFile_82 : decode b_MD_giveFile 82 = .ok (.aload_n 0, 1) := by decide +kernel
theorem d_MD_giveFile_83 : decode b_MD_giveFile 83 = .ok (.iload_n 3, 1) := by decide +kernel
theorem d_MD_giveFile_84 : decode b_MD_giveFile 84 = .ok (.iload_n 1, 1) := by decide +kernel
theorem d_MD_giveFile_85 : decode b_MD_giveFile 85 = .ok (.iconst 1, 1) := by decide +kernel
theorem d_MD_giveFile_86 : decode b_MD_giveFile 86 = .ok (.isub, 1) := by decide +kernel
theorem d_MD_giveFile_87 : decode b_MD_giveFile 87 = .ok (.sipush 128, 3) := by decide +kernel
theorem d_MD_giveFile_90 : decode b_MD_giveFile 90 = .ok (.irem, 1) := by decide +kernel
theorem d_MD_giveFile_91 : decode b_MD_giveFile 91 = .ok (.iconst 0, 1) := by decide +kernel
theorem d_MD_giveFile_92 : decode b_MD_giveFile 92 = .ok (.iload_n 2, 1) := by decide +kernel
theorem d_MD_giveFile_93 : decode b_MD_giveFile 93 = .ok (.invokevirtual 100, 3) := by decide +kernel
theorem d_MD_giveFile_96 : decode b_MD_giveFile 96 = .ok (.aload_n 0, 1) := by decide +kernel
theorem d_MD_giveFile_97 : decode b_MD_giveFile 97 = .ok (.invokevirtual 87, 3) := by decide +kernel
theorem d_MD_giveFile_100 : decode b_MD_giveFile 100 = .ok (.ireturn, 1) := by decide +kernel
theorem d_MD_isTaken_0 : decode b_MD_isTaken 0 = .ok (.aload_n 0, 1) := by decide +kernel
theorem d_MD_isTaken_1 : decode b_MD_isTaken 1 = .ok (.iload_n 1, 1) := by decide +kernel
theorem d_MD_isTaken_2 : decode b_MD_isTaken 2 = .ok (.ifCond .ne 11, 3) := by decide +kernel
theorem d_MD_isTaken_5 : decode b_MD_isTaken 5 = .ok (.aload_n 0, 1) := by decide +kernel
theorem d_MD_isTaken_6 : decode b_MD_isTaken 6 = .ok (.iload_n 2, 1) := by decide +kernel
theorem d_MD_isTaken_7 : decode b_MD_isTaken 7 = .ok (.invokevirtual 69, 3) := by decide +kernel
theorem d_MD_isTaken_10 : decode b_MD_isTaken 10 = .ok (.ifCond .ne 16, 3) := by decide +kernel
theorem d_MD_isTaken_13 : decode b_MD_isTaken 13 = .ok (.iload_n 1, 1) := by decide +kernel
theorem d_MD_isTaken_14 : decode b_MD_isTaken 14 = .ok (.iconst 1, 1) := by decide +kernel
theorem d_MD_isTaken_15 : decode b_MD_isTaken 15 = .ok (.if_icmp .ne 15, 3) := by decide +kernel
theorem d_MD_isTaken_18 : decode b_MD_isTaken 18 = .ok (.aload_n 0, 1) := by decide +kernel
theorem d_MD_isTaken_19 : decode b_MD_isTaken 19 = .ok (.iload_n 2, 1) := by decide +kernel
theorem d_MD_isTaken_20 : decode b_MD_isTaken 20 = .ok (.invokevirtual 90, 3) := by decide +kernel
theorem d_MD_isTaken_23 : decode b_MD_isTaken 23 = .ok (.ifCond .eq 7, 3) := by decide +kernel
theorem d_MD_isTaken_26 : decode b_MD_isTaken 26 = .ok (.iconst 0, 1) := by decide +kernel
theorem d_MD_isTaken_27 : decode b_MD_isTaken 27 = .ok (.goto 4, 3) := by decide +kernel
theorem d_MD_isTaken_30 : decode b_MD_isTaken 30 = .ok (.iconst 1, 1) := by decide +kernel
theorem d_MD_isTaken_31 : decode b_MD_isTaken 31 = .ok (.putfield 30, 3) := by decide +kernel
theorem d_MD_isTaken_34 : decode b_MD_isTaken 34 = .ok (.aload_n 0, 1) := by decide +kernel
theorem d_MD_isTaken_35 : decode b_MD_isTaken 35 = .ok (.getfield 30, 3) := by decide +kernel
theorem d_MD_isTaken_38 : decode b_MD_isTaken 38 = .ok (.ifCond .ne 34, 3) := by decide +kernel
theorem d_MD_isTaken_41 : decode b_MD_isTaken 41 = .ok (.iload_n 1, 1) := by decide +kernel
theorem d_MD_isTaken_42 : decode b_MD_isTaken 42 = .ok (.ifCond .ne 15, 3) := by decide +kernel
theorem d_MD_isTaken_45 : decode b_MD_isTaken 45 = .ok (.aload_n 0, 1) := by decide +kernel
theorem d_MD_isTaken_46 : decode b_MD_isTaken 46 = .ok (.getfield 13, 3) := by decide +kernel
theorem d_MD_isTaken_49 : decode b_MD_isTaken 49 = .ok (.iload_n 2, 1) := by decide +kernel
theorem d_MD_isTaken_50 : decode b_MD_isTaken 50 = .ok (.baload, 1) := by decide +kernel
theorem d_MD_isTaken_51 : decode b_MD_isTaken 51 = .ok (.ifCond .eq 21, 3) := by decide +kernel
theorem d_MD_isTaken_54 : decode b_MD_isTaken 54 = .ok (.goto 14, 3) := by decide +kernel
theorem d_MD_isTaken_57 : decode b_MD_isTaken 57 = .ok (.aload_n 0, 1) := by decide +kernel
theorem d_MD_isTaken_58 : decode b_MD_isTaken 58 = .ok (.getfield 17, 3) := by decide +kernel
theorem d_MD_isTaken_61 : decode b_MD_isTaken 61 = .ok (.iload_n 2, 1) := by decide +kernel
theorem d_MD_isTaken_62 : decode b_MD_isTaken 62 = .ok (.iconst 1, 1) := by decide +kernel
theorem d_MD_isTaken_63 : decode b_MD_isTaken 63 = .ok (.isub, 1) := by decide +kernel
theorem d_MD_isTaken_64 : decode b_MD_isTaken 64 = .ok (.baload, 1) := by decide +kernel
theorem d_MD_isTaken_65 : decode b_MD_isTaken 65 = .ok (.ifCond .eq 7, 3) := by decide +kernel
theorem d_MD_isTaken_68 : decode b_MD_isTaken 68 = .ok (.iconst 1, 1) := by decide +kernel
theorem d_MD_isTaken_69 : decode b_MD_isTaken 69 = .ok (.goto 4, 3) := by decide +kernel
theorem d_MD_isTaken_72 : decode b_MD_isTaken 72 = .ok (.iconst 0, 1) := by decide +kernel
theorem d_MD_isTaken_73 : decode b_MD_isTaken 73 = .ok (.ireturn, 1) := by decide +kernel
theorem d_MD_group_0 : decode b_MD_group 0 = .ok (.aload_n 0, 1) := by decide +kernel
theorem d_MD_group_1 : decode b_MD_group 1 = .ok (.iload_n 1, 1) := by decide +kernel
theorem d_MD_group_2 : decode b_MD_group 2 = .ok (.ifCond .lt 20, 3) := by decide +kernel
theorem d_MD_group_5 : decode b_MD_group 5 = .ok (.iload_n 1, 1) := by decide +kernel
theorem d_MD_group_6 : decode b_MD_group 6 = .ok (.aload_n 0, 1) := by decide +kernel
theorem d_MD_group_7 : decode b_MD_group 7 = .ok (.getfield 38, 3) := by decide +kernel
theorem d_MD_group_10 : decode b_MD_group 10 = .ok (.if_icmp .ge 12, 3) := by decide +kernel
theorem d_MD_group_13 : decode b_MD_group 13 = .ok (.iload_n 2, 1) := by decide +kernel
theorem d_MD_group_14 : decode b_MD_group 14 = .ok (.ifCond .lt 8, 3) := by decide +kernel
theorem d_MD_group_17 : decode b_MD_group 17 = .ok (.iload_n 2, 1) := by decide +kernel
theorem d_MD_group_18 : decode b_MD_group 18 = .ok (.iconst 5, 1) := by decide +kernel
theorem d_MD_group_19 : decode b_MD_group 19 = .ok (.if_icmp .le 7, 3) := by decide +kernel
theorem d_MD_group_22 : decode b_MD_group 22 = .ok (.iconst 1, 1) := by decide +kernel
theorem d_MD_group_23 : decode b_MD_group 23 = .ok (.goto 4, 3) := by decide +kernel
theorem d_MD_group_26 : decode b_MD_group 26 = .ok (.iconst 0, 1) := by decide +kernel
theorem d_MD_group_27 : decode b_MD_group 27 = .ok (.putfield 30, 3) := by decide +kernel
theorem d_MD_group_30 : decode b_MD_group 30 = .ok (.aload_n 0, 1) := by decide +kernel
theorem d_MD_group_31 : decode b_MD_group 31 = .ok (.getfield 30, 3) := by decide +kernel
theorem d_MD_group_34 : decode b_MD_group 34 = .ok (.ifCond .le 5, 3) := by decide +kernel
theorem d_MD_group_37 : decode b_MD_group 37 = .ok (.iconst 0, 1) := by decide +kernel
theorem d_MD_group_38 : decode b_MD_group 38 = .ok (.ireturn, 1) := by decide +kernel
theorem d_MD_group_39 : decode b_MD_group 39 = .ok (.iload_n 2, 1) := by decide +kernel
theorem d_MD_group_40 : decode b_MD_group 40 = .ok (.tableswitch 68 0 4 #[36, 42, 49, 55, 61], 36) := by decide +kernel
theorem d_MD_group_76 : decode b_MD_group 76 = .ok (.sipush 256, 3) := by decide +kernel
theorem d_MD_group_79 : decode b_MD_group 79 = .ok (.iload_n 1, 1) := by decide +kernel
theorem d_MD_group_80 : decode b_MD_group 80 = .ok (.imul, 1) := by decide +kernel
theorem d_MD_group_81 : decode b_MD_group 81 = .ok (.ireturn, 1) := by decide +kernel
theorem d_MD_group_82 : decode b_MD_group 82 = .ok (.aload_n 0, 1) := by decide +kernel
theorem d_MD_group_83 : decode b_MD_group 83 = .ok (.getfield 7, 3) := by decide +kernel
theorem d_MD_group_86 : decode b_MD_group 86 = .ok (.iload_n 1, 1) := by decide +kernel
theorem d_MD_group_87 : decode b_MD_group 87 = .ok (.iaload, 1) := by decide +kernel
theorem d_MD_group_88 : decode b_MD_group 88 = .ok (.ireturn, 1) := by decide +kernel
theorem d_MD_group_89 : decode b_MD_group 89 = .ok (.aload_n 0, 1) := by decide +kernel
theorem d_MD_group_90 : decode b_MD_group 90 = .ok (.iload_n 1, 1) := by decide +kernel
theorem d_MD_group_91 : decode b_MD_group 91 = .ok (.invokevirtual 53, 3) := by decide +kernel
theorem d_MD_group_94 : decode b_MD_group 94 = .ok (.ireturn, 1) := by decide +kernel
theorem d_MD_group_95 : decode b_MD_group 95 = .ok (.aload_n 0, 1) := by decide +kernel
theorem d_MD_group_96 : decode b_MD_group 96 = .ok (.iload_n 1, 1) := by decide +kernel
theorem d_MD_group_97 : decode b_MD_group 97 = .ok (.invokevirtual 56, 3) := by decide +kernel
theorem d_MD_group_100 : decode b_MD_group 100 = .ok (.ireturn, 1) := by decide +kernel
theorem d_MD_group_101 : decode b_MD_group 101 = .ok (.aload_n 0, 1) := by decide +kernel
theorem d_MD_group_102 : decode b_MD_group 102 = .ok (.getfield 20, 3) := by decide +kernel
theorem d_MD_group_105 : decode b_MD_group 105 = .ok (.iload_n 1, 1) := by decide +kernel
theorem d_MD_group_106 : decode b_MD_group 106 = .ok (.iaload, 1) := by decide +kernel
theorem d_MD_group_107 : decode b_MD_group 107 = .ok (.ireturn, 1) := by decide +kernel
theorem d_MD_group_108 : decode b_MD_group 108 = .ok (.aload_n 0, 1) := by decide +kernel
theorem d_MD_group_109 : decode b_MD_group 109 = .ok (.iload_n 1, 1) := by decide +kernel
theorem d_MD_group_110 : decode b_MD_group 110 = .ok (.iconst 0, 1) := by decide +kernel
theorem d_MD_group_111 : decode b_MD_group 111 = .ok (.invokevirtual 77, 3) := by decide +kernel
theorem d_MD_group_114 : decode b_MD_group 114 = .ok (.aload_n 0, 1) := by decide +kernel
theorem d_MD_group_115 : decode b_MD_group 115 = .ok (.getfield 63, 3) := by decide +kernel
theorem d_MD_group_118 : decode b_MD_group 118 = .ok (.ireturn, 1) := by decide +kernel
theorem d_MD_descriptor_0 : decode b_MD_descriptor 0 = .ok (.iload_n 1, 1) := by decide +kernel
theorem d_MD_descriptor_1 : decode b_MD_descriptor 1 = .ok (.bipush 32, 2) := by decide +kernel
theorem d_MD_descriptor_3 : decode b_MD_descriptor 3 = .ok (.idiv, 1) := by decide +kernel
theorem d_MD_descriptor_4 : decode b_MD_descriptor 4 = .ok (.istore_n 2, 1) := by decide +kernel
theorem d_MD_descriptor_5 : decode b_MD_descriptor 5 = .ok (.iload_n 2, 1) := by decide +kernel
theorem d_MD_descriptor_6 : decode b_MD_descriptor 6 = .ok (.aload_n 0, 1) := by decide +kernel
theorem d_MD_descriptor_7 : decode b_MD_descriptor 7 = .ok (.getfield 38, 3) := by decide +kernel
theorem d_MD_descriptor_10 : decode b_MD_descriptor 10 = .ok (.if_icmp .lt 5, 3) := by decide +kernel
theorem d_MD_descriptor_13 : decode b_MD_descriptor 13 = .ok (.iconst 0, 1) := by decide +kernel
theorem d_MD_descriptor_14 : decode b_MD_descriptor 14 = .ok (.ireturn, 1) := by decide +kernel
theorem d_MD_descriptor_15 : decode b_MD_descriptor 15 = .ok (.iload_n 1, 1) := by decide +kernel
theorem d_MD_descriptor_16 : decode b_MD_descriptor 16 = .ok (.bipush 32, 2) := by decide +kernel
theorem d_MD_descriptor_18 : decode b_MD_descriptor 18 = .ok (.irem, 1) := by decide +kernel
theorem d_MD_descriptor_19 : decode b_MD_descriptor 19 = .ok (.istore_n 3, 1) := by decide +kernel
theorem d_MD_descriptor_20 : decode b_MD_descriptor 20 = .ok (.iconst 0, 1) := by decide +kernel
theorem d_MD_descriptor_21 : decode b_MD_descriptor 21 = .ok (.istore 4, 2) := by decide +kernel
theorem d_MD_descriptor_23 : decode b_MD_descriptor 23 = .ok (.iload_n 3, 1) := by decide +kernel
theorem d_MD_descriptor_24 : decode b_MD_descriptor 24 = .ok (.bipush 12, 2) := by decide +kernel
theorem d_MD_descriptor_26 : decode b_MD_descriptor 26 = .ok (.if_icmp .ge 9, 3) := by decide +kernel
theorem d_MD_descriptor_29 : decode b_MD_descriptor 29 = .ok (.iload_n 3, 1) := by decide +kernel
theorem d_MD_descriptor_30 : decode b_MD_descriptor 30 = .ok (.iconst 4, 1) := by decide +kernel
theorem d_MD_descriptor_31 : decode b_MD_descriptor 31 = .ok (.irem, 1) := by decide +kernel
theorem d_MD_descriptor_32 : decode b_MD_descriptor 32 = .ok (.goto 6, 3) := by decide +kernel
theorem d_MD_descriptor_35 : decode b_MD_descriptor 35 = .ok (.iload_n 3, 1) := by decide +kernel
theorem d_MD_descriptor_36 : decode b_MD_descriptor 36 = .ok (.iconst 2, 1) := by decide +kernel
theorem d_MD_descriptor_37 : decode b_MD_descriptor 37 = .ok (.irem, 1) := by decide +kernel
theorem d_MD_descriptor_38 : decode b_MD_descriptor 38 = .ok (.istore 5, 2) := by decide +kernel
theorem d_MD_descriptor_40 : decode b_MD_descriptor 40 = .ok (.iload_n 3, 1) := by decide +kernel
theorem d_MD_descriptor_41 : decode b_MD_descriptor 41 = .ok (.bipush 12, 2) := by decide +kernel
theorem d_MD_descriptor_43 : decode b_MD_descriptor 43 = .ok (.if_icmp .ge 41, 3) := by decide +kernel
theorem d_MD_descriptor_46 : decode b_MD_descriptor 46 = .ok (.iload_n 3, 1) := by decide +kernel
theorem d_MD_descriptor_47 : decode b_MD_descriptor 47 = .ok (.iconst 4, 1) := by decide +kernel
theorem d_MD_descriptor_48 : decode b_MD_descriptor 48 = .ok (.if_icmp .ge 10, 3) := by decide +kernel
theorem d_MD_descriptor_51 : decode b_MD_descriptor 51 = .ok (.iload_n 2, 1) := by decide +kernel
theorem d_MD_descriptor_52 : decode b_MD_descriptor 52 = .ok (.invokestatic 47, 3) := by decide +kernel
theorem d_MD_descriptor_55 : decode b_MD_descriptor 55 = .ok (.goto 24, 3) := by decide +kernel
theorem d_MD_descriptor_58 : decode b_MD_descriptor 58 = .ok (.iload_n 3, 1) := by decide +kernel
theorem d_MD_descriptor_59 : decode b_MD_descriptor 59 = .ok (.bipush 8, 2) := by decide +kernel
theorem d_MD_descriptor_61 : decode b_MD_descriptor 61 = .ok (.if_icmp .ge 12, 3) := by decide +kernel
theorem d_MD_descriptor_64 : decode b_MD_descriptor 64 = .ok (.iload_n 2, 1) := by decide +kernel
theorem d_MD_descriptor_65 : decode b_MD_descriptor 65 = .ok (.invokestatic 47, 3) := by decide +kernel
theorem d_MD_descriptor_68 : decode b_MD_descriptor 68 = .ok (.iconst 1, 1) := by decide +kernel
theorem d_MD_descriptor_69 : decode b_MD_descriptor 69 = .ok (.iadd, 1) := by decide +kernel
theorem d_MD_descriptor_70 : decode b_MD_descriptor 70 = .ok (.goto 9, 3) := by decide +kernel
theorem d_MD_descriptor_73 : decode b_MD_descriptor 73 = .ok (.iload_n 2, 1) := by decide +kernel
theorem d_MD_descriptor_74 : decode b_MD_descriptor 74 = .ok (.invokestatic 47, 3) := by decide +kernel
theorem d_MD_descriptor_77 : decode b_MD_descriptor 77 = .ok (.iconst 2, 1) := by decide +kernel
theorem d_MD_descriptor_78 : decode b_MD_descriptor 78 = .ok (.iadd, 1) := by decide +kernel
theorem d_MD_descriptor_79 : decode b_MD_descriptor 79 = .ok (.istore 4, 2) := by decide +kernel
theorem d_MD_descriptor_81 : decode b_MD_descriptor 81 = .ok (.goto 45, 3) := by decide +kernel
theorem d_MD_descriptor_84 : decode b_MD_descriptor 84 = .ok (.iload_n 3, 1) := by decide +kernel
theorem d_MD_descriptor_85 : decode b_MD_descriptor 85 = .ok (.bipush 18, 2) := by decide +kernel
theorem d_MD_descriptor_87 : decode b_MD_descriptor 87 = .ok (.if_icmp .ge 39, 3) := by decide +kernel
theorem d_MD_descriptor_90 : decode b_MD_descriptor 90 = .ok (.iload_n 3, 1) := by decide +kernel
theorem d_MD_descriptor_91 : decode b_MD_descriptor 91 = .ok (.bipush 14, 2) := by decide +kernel
theorem d_MD_descriptor_93 : decode b_MD_descriptor 93 = .ok (.if_icmp .ge 11, 3) := by decide +kernel
theorem d_MD_descriptor_96 : decode b_MD_descriptor 96 = .ok (.aload_n 0, 1) := by decide +kernel
theorem d_MD_descriptor_97 : decode b_MD_descriptor 97 = .ok (.iload_n 2, 1) := by decide +kernel
theorem d_MD_descriptor_98 : decode b_MD_descriptor 98 = .ok (.invokevirtual 53, 3) := by decide +kernel
theorem d_MD_descriptor_101 : decode b_MD_descriptor 101 = .ok (.goto 23, 3) := by decide +kernel
theorem d_MD_descriptor_104 : decode b_MD_descriptor 104 = .ok (.iload_n 3, 1) := by decide +kernel
theorem d_MD_descriptor_105 : decode b_MD_descriptor 105 = .ok (.bipush 16, 2) := by decide +kernel
theorem d_MD_descriptor_107 : decode b_MD_descriptor 107 = .ok (.if_icmp .ge 11, 3) := by decide +kernel
theorem d_MD_descriptor_110 : decode b_MD_descriptor 110 = .ok (.aload_n 0, 1) := by decide +kernel
theorem d_MD_descriptor_111 : decode b_MD_descriptor 111 = .ok (.iload_n 2, 1) := by decide +kernel
theorem d_MD_descriptor_112 : decode b_MD_descriptor 112 = .ok (.invokevirtual 56, 3) := by decide +kernel
theorem d_MD_descriptor_115 : decode b_MD_descriptor 115 = .ok (.goto 9, 3) := by decide +kernel
theorem d_MD_descriptor_118 : decode b_MD_descriptor 118 = .ok (.aload_n 0, 1) := by decide +kernel
theorem d_MD_descriptor_119 : decode b_MD_descriptor 119 = .ok (.getfield 20, 3) := by decide +kernel
theorem d_MD_descriptor_122 : decode b_MD_descriptor 122 = .ok (.iload_n 2, 1) := by decide +kernel
theorem d_MD_descriptor_123 : decode b_MD_descriptor 123 = .ok (.iaload, 1) := by decide +kernel
theorem d_MD_descriptor_124 : decode b_MD_descriptor 124 = .ok (.istore 4, 2) := by decide +kernel
theorem d_MD_descriptor_126 : decode b_MD_descriptor 126 = .ok (.iload 4, 2) := by decide +kernel
theorem d_MD_descriptor_128 : decode b_MD_descriptor 128 = .ok (.bipush 8, 2) := by decide +kernel
theorem d_MD_descriptor_130 : decode b_MD_descriptor 130 = .ok (.iload 5, 2) := by decide +kernel
theorem d_MD_descriptor_132 : decode b_MD_descriptor 132 = .ok (.imul, 1) := by decide +kernel
theorem d_MD_descriptor_133 : decode b_MD_descriptor 133 = .ok (.ishr, 1) := by decide +kernel
theorem d_MD_descriptor_134 : decode b_MD_descriptor 134 = .ok (.sipush 255, 3) := by decide +kernel
theorem d_MD_descriptor_137 : decode b_MD_descriptor 137 = .ok (.iand, 1) := by decide +kernel
theorem d_MD_descriptor_138 : decode b_MD_descriptor 138 = .ok (.ireturn, 1) := by decide +kernel
theorem d_MD_byteOf_0 : decode b_MD_byteOf 0 = .ok (.aload_n 0, 1) := by decide +kernel
theorem d_MD_byteOf_1 : decode b_MD_byteOf 1 = .ok (.iload_n 1, 1) := by decide +kernel
theorem d_MD_byteOf_2 : decode b_MD_byteOf 2 = .ok (.ifCond .lt 21, 3) := by decide +kernel
theorem d_MD_byteOf_5 : decode b_MD_byteOf 5 = .ok (.iload_n 1, 1) := by decide +kernel
theorem d_MD_byteOf_6 : decode b_MD_byteOf 6 = .ok (.sipush 1023, 3) := by decide +kernel
theorem d_MD_byteOf_9 : decode b_MD_byteOf 9 = .ok (.if_icmp .gt 14, 3) := by decide +kernel
theorem d_MD_byteOf_12 : decode b_MD_byteOf 12 = .ok (.iload_n 2, 1) := by decide +kernel
theorem d_MD_byteOf_13 : decode b_MD_byteOf 13 = .ok (.ifCond .lt 10, 3) := by decide +kernel
theorem d_MD_byteOf_16 : decode b_MD_byteOf 16 = .ok (.iload_n 2, 1) := by decide +kernel
theorem d_MD_byteOf_17 : decode b_MD_byteOf 17 = .ok (.sipush 4095, 3) := by decide +kernel
theorem d_MD_byteOf_20 : decode b_MD_byteOf 20 = .ok (.if_icmp .le 7, 3) := by decide +kernel
theorem d_MD_byteOf_23 : decode b_MD_byteOf 23 = .ok (.iconst 1, 1) := by decide +kernel
theorem d_MD_byteOf_24 : decode b_MD_byteOf 24 = .ok (.goto 4, 3) := by decide +kernel
theorem d_MD_byteOf_27 : decode b_MD_byteOf 27 = .ok (.iconst 0, 1) := by decide +kernel
theorem d_MD_byteOf_28 : decode b_MD_byteOf 28 = .ok (.putfield 30, 3) := by decide +kernel
theorem d_MD_byteOf_31 : decode b_MD_byteOf 31 = .ok (.aload_n 0, 1) := by decide +kernel
theorem d_MD_byteOf_32 : decode b_MD_byteOf 32 = .ok (.getfield 30, 3) := by decide +kernel
theorem d_MD_byteOf_35 : decode b_MD_byteOf 35 = .ok (.ifCond .le 5, 3) := by decide +kernel
theorem d_MD_byteOf_38 : decode b_MD_byteOf 38 = .ok (.iconst 0, 1) := by decide +kernel
theorem d_MD_byteOf_39 : decode b_MD_byteOf 39 = .ok (.ireturn, 1) := by decide +kernel
theorem d_MD_byteOf_40 : decode b_MD_byteOf 40 = .ok (.iload_n 1, 1) := by decide +kernel
theorem d_MD_byteOf_41 : decode b_MD_byteOf 41 = .ok (.iconst 1, 1) := by decide +kernel
theorem d_MD_byteOf_42 : decode b_MD_byteOf 42 = .ok (.if_icmp .ne 9, 3) := by decide +kernel
theorem d_MD_byteOf_45 : decode b_MD_byteOf 45 = .ok (.aload_n 0, 1) := by decide +kernel
theorem d_MD_byteOf_46 : decode b_MD_byteOf 46 = .ok (.iload_n 2, 1) := by decide +kernel
theorem d_MD_byteOf_47 : decode b_MD_byteOf 47 = .ok (.invokevirtual 104, 3) := by decide +kernel
theorem d_MD_byteOf_50 : decode b_MD_byteOf 50 = .ok (.ireturn, 1) := by decide +kernel
theorem d_MD_byteOf_51 : decode b_MD_byteOf 51 = .ok (.iload_n 1, 1) := by decide +kernel
theorem d_MD_byteOf_52 : decode b_MD_byteOf 52 = .ok (.sipush 256, 3) := by decide +kernel
theorem d_MD_byteOf_55 : decode b_MD_byteOf 55 = .ok (.idiv, 1) := by decide +kernel
theorem d_MD_byteOf_56 : decode b_MD_byteOf 56 = .ok (.istore_n 3, 1) := by decide +kernel
theorem d_MD_byteOf_57 : decode b_MD_byteOf 57 = .ok (.iload_n 1, 1) := by decide +kernel
theorem d_MD_byteOf_58 : decode b_MD_byteOf 58 = .ok (.iload_n 3, 1) := by decide +kernel
theorem d_MD_byteOf_59 : decode b_MD_byteOf 59 = .ok (.invokestatic 47, 3) := by decide +kernel
theorem d_MD_byteOf_62 : decode b_MD_byteOf 62 = .ok (.if_icmp .ne 7, 3) := by decide +kernel
theorem d_MD_byteOf_65 : decode b_MD_byteOf 65 = .ok (.iconst 1, 1) := by decide +kernel
theorem d_MD_byteOf_66 : decode b_MD_byteOf 66 = .ok (.goto 4, 3) := by decide +kernel
theorem d_MD_byteOf_69 : decode b_MD_byteOf 69 = .ok (.iconst 0, 1) := by decide +kernel
theorem d_MD_byteOf_70 : decode b_MD_byteOf 70 = .ok (.istore 4, 2) := by decide +kernel
theorem d_MD_byteOf_72 : decode b_MD_byteOf 72 = .ok (.iload 4, 2) := by decide +kernel
theorem d_MD_byteOf_74 : decode b_MD_byteOf 74 = .ok (.ifCond .ne 15, 3) := by decide +kernel
theorem d_MD_byteOf_77 : decode b_MD_byteOf 77 = .ok (.iload_n 1, 1) := by decide +kernel
theorem d_MD_byteOf_78 : decode b_MD_byteOf 78 = .ok (.iload_n 3, 1) := by decide +kernel
theorem d_MD_byteOf_79 : decode b_MD_byteOf 79 = .ok (.invokestatic 47, 3) := by decide +kernel
theorem d_MD_byteOf_82 : decode b_MD_byteOf 82 = .ok (.iconst 1, 1) := by decide +kernel
theorem d_MD_byteOf_83 : decode b_MD_byteOf 83 = .ok (.iadd, 1) := by decide +kernel
theorem d_MD_byteOf_84 : decode b_MD_byteOf 84 = .ok (.if_icmp .eq 5, 3) := by decide +kernel
theorem d_MD_byteOf_87 : decode b_MD_byteOf 87 = .ok (.iconst 0, 1) := by decide +kernel
theorem d_MD_byteOf_88 : decode b_MD_byteOf 88 = .ok (.ireturn, 1) := by decide +kernel
theorem d_MD_byteOf_89 : decode b_MD_byteOf 89 = .ok (.iconst 0, 1) := by decide +kernel
theorem d_MD_byteOf_90 : decode b_MD_byteOf 90 = .ok (.istore 5, 2) := by decide +kernel
theorem d_MD_byteOf_92 : decode b_MD_byteOf 92 = .ok (.iconst 0, 1) := by decide +kernel
theorem d_MD_byteOf_93 : decode b_MD_byteOf 93 = .ok (.istore 6, 2) := by decide +kernel
theorem d_MD_byteOf_95 : decode b_MD_byteOf 95 = .ok (.iload 6, 2) := by decide +kernel
theorem d_MD_byteOf_97 : decode b_MD_byteOf 97 = .ok (.bipush 8, 2) := by decide +kernel
theorem d_MD_byteOf_99 : decode b_MD_byteOf 99 = .ok (.if_icmp .ge 108, 3) := by decide +kernel
theorem d_MD_byteOf_102 : decode b_MD_byteOf 102 = .ok (.bipush 8, 2) := by decide +kernel
theorem d_MD_byteOf_104 : decode b_MD_byteOf 104 = .ok (.iload_n 2, 1) := by decide +kernel
theorem d_MD_byteOf_105 : decode b_MD_byteOf 105 = .ok (.imul, 1) := by decide +kernel
theorem d_MD_byteOf_106 : decode b_MD_byteOf 106 = .ok (.iload 6, 2) := by decide +kernel
theorem d_MD_byteOf_108 : decode b_MD_byteOf 108 = .ok (.iadd, 1) := by decide +kernel
theorem d_MD_byteOf_109 : decode b_MD_byteOf 109 = .ok (.istore 7, 2) := by decide +kernel
theorem d_MD_byteOf_111 : decode b_MD_byteOf 111 = .ok (.iload 4, 2) := by decide +kernel
theorem d_MD_byteOf_113 : decode b_MD_byteOf 113 = .ok (.ifCond .eq 38, 3) := by decide +kernel
theorem d_MD_byteOf_116 : decode b_MD_byteOf 116 = .ok (.iload 7, 2) := by decide +kernel
theorem d_MD_byteOf_118 : decode b_MD_byteOf 118 = .ok (.aload_n 0, 1) := by decide +kernel
theorem d_MD_byteOf_119 : decode b_MD_byteOf 119 = .ok (.getfield 7, 3) := by decide +kernel
theorem d_MD_byteOf_122 : decode b_MD_byteOf 122 = .ok (.iload_n 3, 1) := by decide +kernel
theorem d_MD_byteOf_123 : decode b_MD_byteOf 123 = .ok (.iaload, 1) := by decide +kernel
theorem d_MD_byteOf_124 : decode b_MD_byteOf 124 = .ok (.if_icmp .ge 19, 3) := by decide +kernel
theorem d_MD_byteOf_127 : decode b_MD_byteOf 127 = .ok (.aload_n 0, 1) := by decide +kernel
theorem d_MD_byteOf_128 : decode b_MD_byteOf 128 = .ok (.getfield 13, 3) := by decide +kernel
theorem d_MD_byteOf_131 : decode b_MD_byteOf 131 = .ok (.sipush 256, 3) := by decide +kernel
theorem d_MD_byteOf_134 : decode b_MD_byteOf 134 = .ok (.iload_n 3, 1) := by decide +kernel
theorem d_MD_byteOf_135 : decode b_MD_byteOf 135 = .ok (.imul, 1) := by decide +kernel
theorem d_MD_byteOf_136 : decode b_MD_byteOf 136 = .ok (.iload 7, 2) := by decide +kernel
theorem d_MD_byteOf_138 : decode b_MD_byteOf 138 = .ok (.iadd, 1) := by decide +kernel
theorem d_MD_byteOf_139 : decode b_MD_byteOf 139 = .ok (.baload, 1) := by decide +kernel
theorem d_MD_byteOf_140 : decode b_MD_byteOf 140 = .ok (.ifCond .eq 7, 3) := by decide +kernel
theorem d_MD_byteOf_143 : decode b_MD_byteOf 143 = .ok (.iconst 1, 1) := by decide +kernel
theorem d_MD_byteOf_144 : decode b_MD_byteOf 144 = .ok (.goto 36, 3) := by decide +kernel
theorem d_MD_byteOf_147 : decode b_MD_byteOf 147 = .ok (.iconst 0, 1) := by decide +kernel
theorem d_MD_byteOf_148 : decode b_MD_byteOf 148 = .ok (.goto 32, 3) := by decide +kernel
theorem d_MD_byteOf_151 : decode b_MD_byteOf 151 = .ok (.iload 7, 2) := by decide +kernel
theorem d_MD_byteOf_153 : decode b_MD_byteOf 153 = .ok (.sipush 128, 3) := by decide +kernel
theorem d_MD_byteOf_156 : decode b_MD_byteOf 156 = .ok (.if_icmp .ge 19, 3) := by decide +kernel
theorem d_MD_byteOf_159 : decode b_MD_byteOf 159 = .ok (.aload_n 0, 1) := by decide +kernel
theorem d_MD_byteOf_160 : decode b_MD_byteOf 160 = .ok (.getfield 17, 3) := by decide +kernel
theorem d_MD_byteOf_163 : decode b_MD_byteOf 163 = .ok (.sipush 128, 3) := by decide +kernel
theorem d_MD_byteOf_166 : decode b_MD_byteOf 166 = .ok (.iload_n 3, 1) := by decide +kernel
theorem d_MD_byteOf_167 : decode b_MD_byteOf 167 = .ok (.imul, 1) := by decide +kernel
theorem d_MD_byteOf_168 : decode b_MD_byteOf 168 = .ok (.iload 7, 2) := by decide +kernel
theorem d_MD_byteOf_170 : decode b_MD_byteOf 170 = .ok (.iadd, 1) := by decide +kernel
theorem d_MD_byteOf_171 : decode b_MD_byteOf 171 = .ok (.baload, 1) := by decide +kernel
theorem d_MD_byteOf_172 : decode b_MD_byteOf 172 = .ok (.ifCond .eq 7, 3) := by decide +kernel
theorem d_MD_byteOf_175 : decode b_MD_byteOf 175 = .ok (.iconst 1, 1) := by decide +kernel
theorem d_MD_byteOf_176 : decode b_MD_byteOf 176 = .ok (.goto 4, 3) := by decide +kernel
theorem d_MD_byteOf_179 : decode b_MD_byteOf 179 = .ok (.iconst 0, 1) := by decide +kernel
theorem d_MD_byteOf_180 : decode b_MD_byteOf 180 = .ok (.istore 8, 2) := by decide +kernel
theorem d_MD_byteOf_182 : decode b_MD_byteOf 182 = .ok (.iload 8, 2) := by decide +kernel
theorem d_MD_byteOf_184 : decode b_MD_byteOf 184 = .ok (.ifCond .eq 13, 3) := by decide +kernel
theorem d_MD_byteOf_187 : decode b_MD_byteOf 187 = .ok (.iload 5, 2) := by decide +kernel
theorem d_MD_byteOf_189 : decode b_MD_byteOf 189 = .ok (.iconst 1, 1) := by decide +kernel
theorem d_MD_byteOf_190 : decode b_MD_byteOf 190 = .ok (.iload 6, 2) := by decide +kernel
theorem d_MD_byteOf_192 : decode b_MD_byteOf 192 = .ok (.ishl, 1) := by decide +kernel
theorem d_MD_byteOf_193 : decode b_MD_byteOf 193 = .ok (.iadd, 1) := by decide +kernel
theorem d_MD_byteOf_194 : decode b_MD_byteOf 194 = .ok (.goto 5, 3) := by decide +kernel
theorem d_MD_byteOf_197 : decode b_MD_byteOf 197 = .ok (.iload 5, 2) := by decide +kernel
theorem d_MD_byteOf_199 : decode b_MD_byteOf 199 = .ok (.istore 5, 2) := by decide +kernel
theorem d_MD_byteOf_201 : decode b_MD_byteOf 201 = .ok (.iinc 6 1, 3) := by decide +kernel
theorem d_MD_byteOf_204 : decode b_MD_byteOf 204 = .ok (.goto (-109), 3) := by decide +kernel
theorem d_MD_byteOf_207 : decode b_MD_byteOf 207 = .ok (.iload 5, 2) := by decide +kernel
theorem d_MD_byteOf_209 : decode b_MD_byteOf 209 = .ok (.ireturn, 1) := by decide +kernel
theorem d_MD_isTold_0 : decode b_MD_isTold 0 = .ok (.aload_n 0, 1) := by decide +kernel
theorem d_MD_isTold_1 : decode b_MD_isTold 1 = .ok (.iload_n 1, 1) := by decide +kernel
theorem d_MD_isTold_2 : decode b_MD_isTold 2 = .ok (.ifCond .lt 10, 3) := by decide +kernel
theorem d_MD_isTold_5 : decode b_MD_isTold 5 = .ok (.iload_n 1, 1) := by decide +kernel
theorem d_MD_isTold_6 : decode b_MD_isTold 6 = .ok (.sipush 1023, 3) := by decide +kernel
theorem d_MD_isTold_9 : decode b_MD_isTold 9 = .ok (.if_icmp .le 7, 3) := by decide +kernel
theorem d_MD_isTold_12 : decode b_MD_isTold 12 = .ok (.iconst 1, 1) := by decide +kernel
theorem d_MD_isTold_13 : decode b_MD_isTold 13 = .ok (.goto 4, 3) := by decide +kernel
theorem d_MD_isTold_16 : decode b_MD_isTold 16 = .ok (.iconst 0, 1) := by decide +kernel
theorem d_MD_isTold_17 : decode b_MD_isTold 17 = .ok (.putfield 30, 3) := by decide +kernel
theorem d_MD_isTold_20 : decode b_MD_isTold 20 = .ok (.aload_n 0, 1) := by decide +kernel
theorem d_MD_isTold_21 : decode b_MD_isTold 21 = .ok (.getfield 30, 3) := by decide +kernel
theorem d_MD_isTold_24 : decode b_MD_isTold 24 = .ok (.ifCond .ne 16, 3) := by decide +kernel
theorem d_MD_isTold_27 : decode b_MD_isTold 27 = .ok (.aload_n 0, 1) := by decide +kernel
theorem d_MD_isTold_28 : decode b_MD_isTold 28 = .ok (.getfield 23, 3) := by decide +kernel
theorem d_MD_isTold_31 : decode b_MD_isTold 31 = .ok (.iload_n 1, 1) := by decide +kernel
theorem d_MD_isTold_32 : decode b_MD_isTold 32 = .ok (.baload, 1) := by decide +kernel
theorem d_MD_isTold_33 : decode b_MD_isTold 33 = .ok (.ifCond .eq 7, 3) := by decide +kernel
theorem d_MD_isTold_36 : decode b_MD_isTold 36 = .ok (.iconst 1, 1) := by decide +kernel
theorem d_MD_isTold_37 : decode b_MD_isTold 37 = .ok (.goto 4, 3) := by decide +kernel
theorem d_MD_isTold_40 : decode b_MD_isTold 40 = .ok (.iconst 0, 1) := by decide +kernel
theorem d_MD_isTold_41 : decode b_MD_isTold 41 = .ok (.ireturn, 1) := by decide +kernel
theorem d_MD_settle_0 : decode b_MD_settle 0 = .ok (.aload_n 0, 1) := by decide +kernel
theorem d_MD_settle_1 : decode b_MD_settle 1 = .ok (.iconst 0, 1) := by decide +kernel
theorem d_MD_settle_2 : decode b_MD_settle 2 = .ok (.putfield 30, 3) := by decide +kernel
theorem d_MD_settle_5 : decode b_MD_settle 5 = .ok (.iconst 0, 1) := by decide +kernel
theorem d_MD_settle_6 : decode b_MD_settle 6 = .ok (.istore_n 1, 1) := by decide +kernel
theorem d_MD_settle_7 : decode b_MD_settle 7 = .ok (.iconst 0, 1) := by decide +kernel
theorem d_MD_settle_8 : decode b_MD_settle 8 = .ok (.istore_n 2, 1) := by decide +kernel
theorem d_MD_settle_9 : decode b_MD_settle 9 = .ok (.iload_n 2, 1) := by decide +kernel
theorem d_MD_settle_10 : decode b_MD_settle 10 = .ok (.sipush 1024, 3) := by decide +kernel
theorem d_MD_settle_13 : decode b_MD_settle 13 = .ok (.if_icmp .ge 33, 3) := by decide +kernel
theorem d_MD_settle_16 : decode b_MD_settle 16 = .ok (.aload_n 0, 1) := by decide +kernel
theorem d_MD_settle_17 : decode b_MD_settle 17 = .ok (.getfield 23, 3) := by decide +kernel
theorem d_MD_settle_20 : decode b_MD_settle 20 = .ok (.iload_n 2, 1) := by decide +kernel
theorem d_MD_settle_21 : decode b_MD_settle 21 = .ok (.baload, 1) := by decide +kernel
theorem d_MD_settle_22 : decode b_MD_settle 22 = .ok (.ifCond .eq 9, 3) := by decide +kernel
theorem d_MD_settle_25 : decode b_MD_settle 25 = .ok (.iload_n 1, 1) := by decide +kernel
theorem d_MD_settle_26 : decode b_MD_settle 26 = .ok (.iconst 1, 1) := by decide +kernel
theorem d_MD_settle_27 : decode b_MD_settle 27 = .ok (.iadd, 1) := by decide +kernel
theorem d_MD_settle_28 : decode b_MD_settle 28 = .ok (.goto 4, 3) := by decide +kernel
theorem d_MD_settle_31 : decode b_MD_settle 31 = .ok (.iload_n 1, 1) := by decide +kernel
theorem d_MD_settle_32 : decode b_MD_settle 32 = .ok (.istore_n 1, 1) := by decide +kernel
theorem d_MD_settle_33 : decode b_MD_settle 33 = .ok (.aload_n 0, 1) := by decide +kernel
theorem d_MD_settle_34 : decode b_MD_settle 34 = .ok (.getfield 23, 3) := by decide +kernel
theorem d_MD_settle_37 : decode b_MD_settle 37 = .ok (.iload_n 2, 1) := by decide +kernel
theorem d_MD_settle_38 : decode b_MD_settle 38 = .ok (.iconst 0, 1) := by decide +kernel
theorem d_MD_settle_39 : decode b_MD_settle 39 = .ok (.bastore, 1) := by decide +kernel
theorem d_MD_settle_40 : decode b_MD_settle 40 = .ok (.iinc 2 1, 3) := by decide +kernel
theorem d_MD_settle_43 : decode b_MD_settle 43 = .ok (.goto (-34), 3) := by decide +kernel
theorem d_MD_settle_46 : decode b_MD_settle 46 = .ok (.iload_n 1, 1) := by decide +kernel
theorem d_MD_settle_47 : decode b_MD_settle 47 = .ok (.ireturn, 1) := by decide +kernel
end
section
theorem d_LW_lay_0 : decode b_LW_lay 0 = .ok (.aload_n 3, 1) := by decide +kernel
theorem d_LW_lay_1 : decode b_LW_lay 1 = .ok (.iconst 0, 1) := by decide +kernel
theorem d_LW_lay_2 : decode b_LW_lay 2 = .ok (.aload_n 0, 1) := by decide +kernel
theorem d_LW_lay_3 : decode b_LW_lay 3 = .ok (.iload_n 1, 1) := by decide +kernel
theorem d_LW_lay_4 : decode b_LW_lay 4 = .ok (.iload_n 2, 1) := by decide +kernel
theorem d_LW_lay_5 : decode b_LW_lay 5 = .ok (.invokevirtual 7, 3) := by decide +kernel
theorem d_LW_lay_8 : decode b_LW_lay 8 = .ok (.i2l, 1) := by decide +kernel
theorem d_LW_lay_9 : decode b_LW_lay 9 = .ok (.lastore, 1) := by decide +kernel
theorem d_LW_lay_10 : decode b_LW_lay 10 = .ok (.goto 7, 3) := by decide +kernel
theorem d_LW_lay_13 : decode b_LW_lay 13 = .ok (.astore 4, 2) := by decide +kernel
theorem d_LW_lay_15 : decode b_LW_lay 15 = .ok (.iconst 1, 1) := by decide +kernel
theorem d_LW_lay_16 : decode b_LW_lay 16 = .ok (.ireturn, 1) := by decide +kernel
theorem d_LW_lay_17 : decode b_LW_lay 17 = .ok (.iconst 0, 1) := by decide +kernel
theorem d_LW_lay_18 : decode b_LW_lay 18 = .ok (.ireturn, 1) := by decide +kernel
theorem d_LW_reserve_0 : decode b_LW_reserve 0 = .ok (.aload_n 2, 1) := by decide +kernel
theorem d_LW_reserve_1 : decode b_LW_reserve 1 = .ok (.iconst 0, 1) := by decide +kernel
theorem d_LW_reserve_2 : decode b_LW_reserve 2 = .ok (.aload_n 0, 1) := by decide +kernel
theorem d_LW_reserve_3 : decode b_LW_reserve 3 = .ok (.iload_n 1, 1) := by decide +kernel
theorem d_LW_reserve_4 : decode b_LW_reserve 4 = .ok (.invokevirtual 15, 3) := by decide +kernel
theorem d_LW_reserve_7 : decode b_LW_reserve 7 = .ok (.i2l, 1) := by decide +kernel
theorem d_LW_reserve_8 : decode b_LW_reserve 8 = .ok (.lastore, 1) := by decide +kernel
theorem d_LW_reserve_9 : decode b_LW_reserve 9 = .ok (.goto 6, 3) := by decide +kernel
theorem d_LW_reserve_12 : decode b_LW_reserve 12 = .ok (.astore_n 3, 1) := by decide +kernel
theorem d_LW_reserve_13 : decode b_LW_reserve 13 = .ok (.iconst 1, 1) := by decide +kernel
theorem d_LW_reserve_14 : decode b_LW_reserve 14 = .ok (.ireturn, 1) := by decide +kernel
theorem d_LW_reserve_15 : decode b_LW_reserve 15 = .ok (.iconst 0, 1) := by decide +kernel
theorem d_LW_reserve_16 : decode b_LW_reserve 16 = .ok (.ireturn, 1) := by decide +kernel
theorem d_LW_take_0 : decode b_LW_take 0 = .ok (.aload 4, 2) := by decide +kernel
theorem d_LW_take_2 : decode b_LW_take 2 = .ok (.iconst 0, 1) := by decide +kernel
theorem d_LW_take_3 : decode b_LW_take 3 = .ok (.aload_n 0, 1) := by decide +kernel
theorem d_LW_take_4 : decode b_LW_take 4 = .ok (.iload_n 1, 1) := by decide +kernel
theorem d_LW_take_5 : decode b_LW_take 5 = .ok (.iload_n 2, 1) := by decide +kernel
theorem d_LW_take_6 : decode b_LW_take 6 = .ok (.iload_n 3, 1) := by decide +kernel
theorem d_LW_take_7 : decode b_LW_take 7 = .ok (.invokevirtual 19, 3) := by decide +kernel
theorem d_LW_take_10 : decode b_LW_take 10 = .ok (.i2l, 1) := by decide +kernel
theorem d_LW_take_11 : decode b_LW_take 11 = .ok (.lastore, 1) := by decide +kernel
theorem d_LW_take_12 : decode b_LW_take 12 = .ok (.goto 11, 3) := by decide +kernel
theorem d_LW_take_15 : decode b_LW_take 15 = .ok (.astore 5, 2) := by decide +kernel
theorem d_LW_take_17 : decode b_LW_take 17 = .ok (.iconst 1, 1) := by decide +kernel
theorem d_LW_take_18 : decode b_LW_take 18 = .ok (.ireturn, 1) := by decide +kernel
theorem d_LW_take_19 : decode b_LW_take 19 = .ok (.astore 5, 2) := by decide +kernel
theorem d_LW_take_21 : decode b_LW_take 21 = .ok (.iconst 2, 1) := by decide +kernel
theorem d_LW_take_22 : decode b_LW_take 22 = .ok (.ireturn, 1) := by decide +kernel
theorem d_LW_take_23 : decode b_LW_take 23 = .ok (.iconst 0, 1) := by decide +kernel
theorem d_LW_take_24 : decode b_LW_take 24 = .ok (.ireturn, 1) := by decide +kernel
theorem d_LW_give_0 : decode b_LW_give 0 = .ok (.aload_n 3, 1) := by decide +kernel
theorem d_LW_give_1 : decode b_LW_give 1 = .ok (.iconst 0, 1) := by decide +kernel
theorem d_LW_give_2 : decode b_LW_give 2 = .ok (.aload_n 0, 1) := by decide +kernel
theorem d_LW_give_3 : decode b_LW_give 3 = .ok (.iload_n 1, 1) := by decide +kernel
theorem d_LW_give_4 : decode b_LW_give 4 = .ok (.iload_n 2, 1) := by decide +kernel
theorem d_LW_give_5 : decode b_LW_give 5 = .ok (.invokevirtual 25, 3) := by decide +kernel
theorem d_LW_give_8 : decode b_LW_give 8 = .ok (.i2l, 1) := by decide +kernel
theorem d_LW_give_9 : decode b_LW_give 9 = .ok (.lastore, 1) := by decide +kernel
theorem d_LW_give_10 : decode b_LW_give 10 = .ok (.goto 11, 3) := by decide +kernel
theorem d_LW_give_13 : decode b_LW_give 13 = .ok (.astore 4, 2) := by decide +kernel
theorem d_LW_give_15 : decode b_LW_give 15 = .ok (.iconst 1, 1) := by decide +kernel
theorem d_LW_give_16 : decode b_LW_give 16 = .ok (.ireturn, 1) := by decide +kernel
theorem d_LW_give_17 : decode b_LW_give 17 = .ok (.astore 4, 2) := by decide +kernel
theorem d_LW_give_19 : decode b_LW_give 19 = .ok (.iconst 2, 1) := by decide +kernel
theorem d_LW_give_20 : decode b_LW_give 20 = .ok (.ireturn, 1) := by decide +kernel
theorem d_LW_give_21 : decode b_LW_give 21 = .ok (.iconst 0, 1) := by decide +kernel
theorem d_LW_give_22 : decode b_LW_give 22 = .ok (.ireturn, 1) := by decide +kernel
theorem d_LW_takeFile_0 : decode b_LW_takeFile 0 = .ok (.aload_n 3, 1) := by decide +kernel
theorem d_LW_takeFile_1 : decode b_LW_takeFile 1 = .ok (.iconst 0, 1) := by decide +kernel
theorem d_LW_takeFile_2 : decode b_LW_takeFile 2 = .ok (.aload_n 0, 1) := by decide +kernel
theorem d_LW_takeFile_3 : decode b_LW_takeFile 3 = .ok (.iload_n 1, 1) := by decide +kernel
theorem d_LW_takeFile_4 : decode b_LW_takeFile 4 = .ok (.iload_n 2, 1) := by decide +kernel
theorem d_LW_takeFile_5 : decode b_LW_takeFile 5 = .ok (.invokevirtual 28, 3) := by decide +kernel
theorem d_LW_takeFile_8 : decode b_LW_takeFile 8 = .ok (.i2l, 1) := by decide +kernel
theorem d_LW_takeFile_9 : decode b_LW_takeFile 9 = .ok (.lastore, 1) := by decide +kernel
theorem d_LW_takeFile_10 : decode b_LW_takeFile 10 = .ok (.goto 11, 3) := by decide +kernel
theorem d_LW_takeFile_13 : decode b_LW_takeFile 13 = .ok (.astore 4, 2) := by decide +kernel
theorem d_LW_takeFile_15 : decode b_LW_takeFile 15 = .ok (.iconst 1, 1) := by decide +kernel
theorem d_LW_takeFile_16 : decode b_LW_takeFile 16 = .ok (.ireturn, 1) := by decide +kernel
theorem d_LW_takeFile_17 : decode b_LW_takeFile 17 = .ok (.astore 4, 2) := by decide +kernel
theorem d_LW_takeFile_19 : decode b_LW_takeFile 19 = .ok (.iconst 2, 1) := by decide +kernel
theorem d_LW_takeFile_20 : decode b_LW_takeFile 20 = .ok (.ireturn, 1) := by decide +kernel
theorem d_LW_takeFile_21 : decode b_LW_takeFile 21 = .ok (.iconst 0, 1) := by decide +kernel
theorem d_LW_takeFile_22 : decode b_LW_takeFile 22 = .ok (.ireturn, 1) := by decide +kernel
theorem d_LW_giveFile_0 : decode b_LW_giveFile 0 = .ok (.aload_n 3, 1) := by decide +kernel
theorem d_LW_giveFile_1 : decode b_LW_giveFile 1 = .ok (.iconst 0, 1) := by decide +kernel
theorem d_LW_giveFile_2 : decode b_LW_giveFile 2 = .ok (.aload_n 0, 1) := by decide +kernel
theorem d_LW_giveFile_3 : decode b_LW_giveFile 3 = .ok (.iload_n 1, 1) := by decide +kernel
theorem d_LW_giveFile_4 : decode b_LW_giveFile 4 = .ok (.iload_n 2, 1) := by decide +kernel
theorem d_LW_giveFile_5 : decode b_LW_giveFile 5 = .ok (.invokevirtual 32, 3) := by decide +kernel
theorem d_LW_giveFile_8 : decode b_LW_giveFile 8 = .ok (.i2l, 1) := by decide +kernel
theorem d_LW_giveFile_9 : decode b_LW_giveFile 9 = .ok (.lastore, 1) := by decide +kernel
theorem d_LW_giveFile_10 : decode b_LW_giveFile 10 = .ok (.goto 11, 3) := by decide +kernel
theorem d_LW_giveFile_13 : decode b_LW_giveFile 13 = .ok (.astore 4, 2) := by decide +kernel
theorem d_LW_giveFile_15 : decode b_LW_giveFile 15 = .ok (.iconst 1, 1) := by decide +kernel
theorem d_LW_giveFile_16 : decode b_LW_giveFile 16 = .ok (.ireturn, 1) := by decide +kernel
theorem d_LW_giveFile_17 : decode b_LW_giveFile 17 = .ok (.astore 4, 2) := by decide +kernel
theorem d_LW_giveFile_19 : decode b_LW_giveFile 19 = .ok (.iconst 2, 1) := by decide +kernel
theorem d_LW_giveFile_20 : decode b_LW_giveFile 20 = .ok (.ireturn, 1) := by decide +kernel
theorem d_LW_giveFile_21 : decode b_LW_giveFile 21 = .ok (.iconst 0, 1) := by decide +kernel
theorem d_LW_giveFile_22 : decode b_LW_giveFile 22 = .ok (.ireturn, 1) := by decide +kernel
theorem d_LW_isTaken_0 : decode b_LW_isTaken 0 = .ok (.aload_n 3, 1) := by decide +kernel
theorem d_LW_isTaken_1 : decode b_LW_isTaken 1 = .ok (.iconst 0, 1) := by decide +kernel
theorem d_LW_isTaken_2 : decode b_LW_isTaken 2 = .ok (.aload_n 0, 1) := by decide +kernel
theorem d_LW_isTaken_3 : decode b_LW_isTaken 3 = .ok (.iload_n 1, 1) := by decide +kernel
theorem d_LW_isTaken_4 : decode b_LW_isTaken 4 = .ok (.iload_n 2, 1) := by decide +kernel
theorem d_LW_isTaken_5 : decode b_LW_isTaken 5 = .ok (.invokevirtual 35, 3) := by decide +kernel
theorem d_LW_isTaken_8 : decode b_LW_isTaken 8 = .ok (.ifCond .eq 7, 3) := by decide +kernel
theorem d_LW_isTaken_11 : decode b_LW_isTaken 11 = .ok (.lconst 1, 1) := by decide +kernel
theorem d_LW_isTaken_12 : decode b_LW_isTaken 12 = .ok (.goto 4, 3) := by decide +kernel
theorem d_LW_isTaken_15 : decode b_LW_isTaken 15 = .ok (.lconst 0, 1) := by decide +kernel
theorem d_LW_isTaken_16 : decode b_LW_isTaken 16 = .ok (.lastore, 1) := by decide +kernel
theorem d_LW_isTaken_17 : decode b_LW_isTaken 17 = .ok (.goto 7, 3) := by decide +kernel
theorem d_LW_isTaken_20 : decode b_LW_isTaken 20 = .ok (.astore 4, 2) := by decide +kernel
theorem d_LW_isTaken_22 : decode b_LW_isTaken 22 = .ok (.iconst 1, 1) := by decide +kernel
theorem d_LW_isTaken_23 : decode b_LW_isTaken 23 = .ok (.ireturn, 1) := by decide +kernel
theorem d_LW_isTaken_24 : decode b_LW_isTaken 24 = .ok (.iconst 0, 1) := by decide +kernel
theorem d_LW_isTaken_25 : decode b_LW_isTaken 25 = .ok (.ireturn, 1) := by decide +kernel
theorem d_LW_group_0 : decode b_LW_group 0 = .ok (.aload_n 3, 1) := by decide +kernel
theorem d_LW_group_1 : decode b_LW_group 1 = .ok (.iconst 0, 1) := by decide +kernel
theorem d_LW_group_2 : decode b_LW_group 2 = .ok (.aload_n 0, 1) := by decide +kernel
theorem d_LW_group_3 : decode b_LW_group 3 = .ok (.iload_n 1, 1) := by decide +kernel
theorem d_LW_group_4 : decode b_LW_group 4 = .ok (.iload_n 2, 1) := by decide +kernel
theorem d_LW_group_5 : decode b_LW_group 5 = .ok (.invokevirtual 39, 3) := by decide +kernel
theorem d_LW_group_8 : decode b_LW_group 8 = .ok (.i2l, 1) := by decide +kernel
theorem d_LW_group_9 : decode b_LW_group 9 = .ok (.lastore, 1) := by decide +kernel
theorem d_LW_group_10 : decode b_LW_group 10 = .ok (.goto 7, 3) := by decide +kernel
theorem d_LW_group_13 : decode b_LW_group 13 = .ok (.astore 4, 2) := by decide +kernel
theorem d_LW_group_15 : decode b_LW_group 15 = .ok (.iconst 1, 1) := by decide +kernel
theorem d_LW_group_16 : decode b_LW_group 16 = .ok (.ireturn, 1) := by decide +kernel
theorem d_LW_group_17 : decode b_LW_group 17 = .ok (.iconst 0, 1) := by decide +kernel
theorem d_LW_group_18 : decode b_LW_group 18 = .ok (.ireturn, 1) := by decide +kernel
theorem d_LW_byteOf_0 : decode b_LW_byteOf 0 = .ok (.aload_n 3, 1) := by decide +kernel
theorem d_LW_byteOf_1 : decode b_LW_byteOf 1 = .ok (.iconst 0, 1) := by decide +kernel
theorem d_LW_byteOf_2 : decode b_LW_byteOf 2 = .ok (.aload_n 0, 1) := by decide +kernel
theorem d_LW_byteOf_3 : decode b_LW_byteOf 3 = .ok (.iload_n 1, 1) := by decide +kernel
theorem d_LW_byteOf_4 : decode b_LW_byteOf 4 = .ok (.iload_n 2, 1) := by decide +kernel
theorem d_LW_byteOf_5 : decode b_LW_byteOf 5 = .ok (.invokevirtual 42, 3) := by decide +kernel
theorem d_LW_byteOf_8 : decode b_LW_byteOf 8 = .ok (.i2l, 1) := by decide +kernel
theorem d_LW_byteOf_9 : decode b_LW_byteOf 9 = .ok (.lastore, 1) := by decide +kernel
theorem d_LW_byteOf_10 : decode b_LW_byteOf 10 = .ok (.goto 7, 3) := by decide +kernel
theorem d_LW_byteOf_13 : decode b_LW_byteOf 13 = .ok (.astore 4, 2) := by decide +kernel
theorem d_LW_byteOf_15 : decode b_LW_byteOf 15 = .ok (.iconst 1, 1) := by decide +kernel
theorem d_LW_byteOf_16 : decode b_LW_byteOf 16 = .ok (.ireturn, 1) := by decide +kernel
theorem d_LW_byteOf_17 : decode b_LW_byteOf 17 = .ok (.iconst 0, 1) := by decide +kernel
theorem d_LW_byteOf_18 : decode b_LW_byteOf 18 = .ok (.ireturn, 1) := by decide +kernel
theorem d_LW_isTold_0 : decode b_LW_isTold 0 = .ok (.aload_n 2, 1) := by decide +kernel
theorem d_LW_isTold_1 : decode b_LW_isTold 1 = .ok (.iconst 0, 1) := by decide +kernel
theorem d_LW_isTold_2 : decode b_LW_isTold 2 = .ok (.aload_n 0, 1) := by decide +kernel
theorem d_LW_isTold_3 : decode b_LW_isTold 3 = .ok (.iload_n 1, 1) := by decide +kernel
theorem d_LW_isTold_4 : decode b_LW_isTold 4 = .ok (.invokevirtual 47, 3) := by decide +kernel
theorem d_LW_isTold_7 : decode b_LW_isTold 7 = .ok (.ifCond .eq 7, 3) := by decide +kernel
theorem d_LW_isTold_10 : decode b_LW_isTold 10 = .ok (.lconst 1, 1) := by decide +kernel
theorem d_LW_isTold_11 : decode b_LW_isTold 11 = .ok (.goto 4, 3) := by decide +kernel
theorem d_LW_isTold_14 : decode b_LW_isTold 14 = .ok (.lconst 0, 1) := by decide +kernel
theorem d_LW_isTold_15 : decode b_LW_isTold 15 = .ok (.lastore, 1) := by decide +kernel
theorem d_LW_isTold_16 : decode b_LW_isTold 16 = .ok (.goto 6, 3) := by decide +kernel
theorem d_LW_isTold_19 : decode b_LW_isTold 19 = .ok (.astore_n 3, 1) := by decide +kernel
theorem d_LW_isTold_20 : decode b_LW_isTold 20 = .ok (.iconst 1, 1) := by decide +kernel
theorem d_LW_isTold_21 : decode b_LW_isTold 21 = .ok (.ireturn, 1) := by decide +kernel
theorem d_LW_isTold_22 : decode b_LW_isTold 22 = .ok (.iconst 0, 1) := by decide +kernel
theorem d_LW_isTold_23 : decode b_LW_isTold 23 = .ok (.ireturn, 1) := by decide +kernel
theorem d_LW_law_0 : decode code 0 = .ok (.new 8, 3) := by decide +kernel
theorem d_LW_law_3 : decode code 3 = .ok (.dup, 1) := by decide +kernel
theorem d_LW_law_4 : decode code 4 = .ok (.invokespecial 51, 3) := by decide +kernel
theorem d_LW_law_7 : decode code 7 = .ok (.astore_n 1, 1) := by decide +kernel
theorem d_LW_law_8 : decode code 8 = .ok (.new 52, 3) := by decide +kernel
theorem d_LW_law_11 : decode code 11 = .ok (.dup, 1) := by decide +kernel
theorem d_LW_law_12 : decode code 12 = .ok (.invokespecial 54, 3) := by decide +kernel
theorem d_LW_law_15 : decode code 15 = .ok (.astore_n 2, 1) := by decide +kernel
theorem d_LW_law_16 : decode code 16 = .ok (.iconst 1, 1) := by decide +kernel
theorem d_LW_law_17 : decode code 17 = .ok (.newarray .long, 2) := by decide +kernel
theorem d_LW_law_19 : decode code 19 = .ok (.astore_n 3, 1) := by decide +kernel
theorem d_LW_law_20 : decode code 20 = .ok (.iconst 0, 1) := by decide +kernel
theorem d_LW_law_21 : decode code 21 = .ok (.istore 4, 2) := by decide +kernel
theorem d_LW_law_23 : decode code 23 = .ok (.iload 4, 2) := by decide +kernel
theorem d_LW_law_25 : decode code 25 = .ok (.aload_n 0, 1) := by decide +kernel
theorem d_LW_law_26 : decode code 26 = .ok (.arraylength, 1) := by decide +kernel
theorem d_LW_law_27 : decode code 27 = .ok (.iconst 4, 1) := by decide +kernel
theorem d_LW_law_28 : decode code 28 = .ok (.isub, 1) := by decide +kernel
theorem d_LW_law_29 : decode code 29 = .ok (.if_icmp .gt 833, 3) := by decide +kernel
theorem d_LW_law_32 : decode code 32 = .ok (.aload_n 0, 1) := by decide +kernel
theorem d_LW_law_33 : decode code 33 = .ok (.iload 4, 2) := by decide +kernel
theorem d_LW_law_35 : decode code 35 = .ok (.iaload, 1) := by decide +kernel
theorem d_LW_law_36 : decode code 36 = .ok (.bipush 15, 2) := by decide +kernel
theorem d_LW_law_38 : decode code 38 = .ok (.iand, 1) := by decide +kernel
theorem d_LW_law_39 : decode code 39 = .ok (.tableswitch 817 0 11 #[61, 129, 185, 281, 294, 362, 446, 530, 605, 673, 741, 804], 61) := by decide +kernel
theorem d_LW_law_100 : decode code 100 = .ok (.aload_n 1, 1) := by decide +kernel
theorem d_LW_law_101 : decode code 101 = .ok (.aload_n 0, 1) := by decide +kernel
theorem d_LW_law_102 : decode code 102 = .ok (.iload 4, 2) := by decide +kernel
theorem d_LW_law_104 : decode code 104 = .ok (.iconst 1, 1) := by decide +kernel
theorem d_LW_law_105 : decode code 105 = .ok (.iadd, 1) := by decide +kernel
theorem d_LW_law_106 : decode code 106 = .ok (.iaload, 1) := by decide +kernel
theorem d_LW_law_107 : decode code 107 = .ok (.aload_n 0, 1) := by decide +kernel
theorem d_LW_law_108 : decode code 108 = .ok (.iload 4, 2) := by decide +kernel
theorem d_LW_law_110 : decode code 110 = .ok (.iconst 2, 1) := by decide +kernel
theorem d_LW_law_111 : decode code 111 = .ok (.iadd, 1) := by decide +kernel
theorem d_LW_law_112 : decode code 112 = .ok (.iaload, 1) := by decide +kernel
theorem d_LW_law_113 : decode code 113 = .ok (.aload_n 3, 1) := by decide +kernel
theorem d_LW_law_114 : decode code 114 = .ok (.invokestatic 55, 3) := by decide +kernel
theorem d_LW_law_117 : decode code 117 = .ok (.istore 5, 2) := by decide +kernel
theorem d_LW_law_119 : decode code 119 = .ok (.aload_n 2, 1) := by decide +kernel
theorem d_LW_law_120 : decode code 120 = .ok (.aload_n 0, 1) := by decide +kernel
theorem d_LW_law_121 : decode code 121 = .ok (.iload 4, 2) := by decide +kernel
theorem d_LW_law_123 : decode code 123 = .ok (.iconst 1, 1) := by decide +kernel
theorem d_LW_law_124 : decode code 124 = .ok (.iadd, 1) := by decide +kernel
theorem d_LW_law_125 : decode code 125 = .ok (.iaload, 1) := by decide +kernel
theorem d_LW_law_126 : decode code 126 = .ok (.aload_n 0, 1) := by decide +kernel
theorem d_LW_law_127 : decode code 127 = .ok (.iload 4, 2) := by decide +kernel
theorem d_LW_law_129 : decode code 129 = .ok (.iconst 2, 1) := by decide +kernel
theorem d_LW_law_130 : decode code 130 = .ok (.iadd, 1) := by decide +kernel
theorem d_LW_law_131 : decode code 131 = .ok (.iaload, 1) := by decide +kernel
theorem d_LW_law_132 : decode code 132 = .ok (.invokevirtual 60, 3) := by decide +kernel
theorem d_LW_law_135 : decode code 135 = .ok (.istore 6, 2) := by decide +kernel
theorem d_LW_law_137 : decode code 137 = .ok (.aload_n 2, 1) := by decide +kernel
theorem d_LW_law_138 : decode code 138 = .ok (.invokevirtual 61, 3) := by decide +kernel
theorem d_LW_law_141 : decode code 141 = .ok (.iload 5, 2) := by decide +kernel
theorem d_LW_law_143 : decode code 143 = .ok (.if_icmp .eq 5, 3) := by decide +kernel
theorem d_LW_law_146 : decode code 146 = .ok (.iconst 0, 1) := by decide +kernel
theorem d_LW_law_147 : decode code 147 = .ok (.ireturn, 1) := by decide +kernel
theorem d_LW_law_148 : decode code 148 = .ok (.iload 5, 2) := by decide +kernel
theorem d_LW_law_150 : decode code 150 = .ok (.ifCond .ne 15, 3) := by decide +kernel
theorem d_LW_law_153 : decode code 153 = .ok (.aload_n 3, 1) := by decide +kernel
theorem d_LW_law_154 : decode code 154 = .ok (.iconst 0, 1) := by decide +kernel
theorem d_LW_law_155 : decode code 155 = .ok (.laload, 1) := by decide +kernel
theorem d_LW_law_156 : decode code 156 = .ok (.iload 6, 2) := by decide +kernel
theorem d_LW_law_158 : decode code 158 = .ok (.i2l, 1) := by decide +kernel
theorem d_LW_law_159 : decode code 159 = .ok (.lcmp, 1) := by decide +kernel
theorem d_LW_law_160 : decode code 160 = .ok (.ifCond .eq 5, 3) := by decide +kernel
theorem d_LW_law_163 : decode code 163 = .ok (.iconst 0, 1) := by decide +kernel
theorem d_LW_law_164 : decode code 164 = .ok (.ireturn, 1) := by decide +kernel
theorem d_LW_law_165 : decode code 165 = .ok (.goto 691, 3) := by decide +kernel
theorem d_LW_law_168 : decode code 168 = .ok (.aload_n 1, 1) := by decide +kernel
theorem d_LW_law_169 : decode code 169 = .ok (.aload_n 0, 1) := by decide +kernel
theorem d_LW_law_170 : decode code 170 = .ok (.iload 4, 2) := by decide +kernel
theorem d_LW_law_172 : decode code 172 = .ok (.iconst 1, 1) := by decide +kernel
theorem d_LW_law_173 : decode code 173 = .ok (.iadd, 1) := by decide +kernel
theorem d_LW_law_174 : decode code 174 = .ok (.iaload, 1) := by decide +kernel
theorem d_LW_law_175 : decode code 175 = .ok (.aload_n 3, 1) := by decide +kernel
theorem d_LW_law_176 : decode code 176 = .ok (.invokestatic 65, 3) := by decide +kernel
theorem d_LW_law_179 : decode code 179 = .ok (.istore 5, 2) := by decide +kernel
theorem d_LW_law_181 : decode code 181 = .ok (.aload_n 2, 1) := by decide +kernel
theorem d_LW_law_182 : decode code 182 = .ok (.aload_n 0, 1) := by decide +kernel
theorem d_LW_law_183 : decode code 183 = .ok (.iload 4, 2) := by decide +kernel
theorem d_LW_law_185 : decode code 185 = .ok (.iconst 1, 1) := by decide +kernel
theorem d_LW_law_186 : decode code 186 = .ok (.iadd, 1) := by decide +kernel
theorem d_LW_law_187 : decode code 187 = .ok (.iaload, 1) := by decide +kernel
theorem d_LW_law_188 : decode code 188 = .ok (.invokevirtual 68, 3) := by decide +kernel
theorem d_LW_law_191 : decode code 191 = .ok (.istore 6, 2) := by decide +kernel
theorem d_LW_law_193 : decode code 193 = .ok (.aload_n 2, 1) := by decide +kernel
theorem d_LW_law_194 : decode code 194 = .ok (.invokevirtual 61, 3) := by decide +kernel
theorem d_LW_law_197 : decode code 197 = .ok (.iload 5, 2) := by decide +kernel
theorem d_LW_law_199 : decode code 199 = .ok (.if_icmp .eq 5, 3) := by decide +kernel
theorem d_LW_law_202 : decode code 202 = .ok (.iconst 0, 1) := by decide +kernel
theorem d_LW_law_203 : decode code 203 = .ok (.ireturn, 1) := by decide +kernel
theorem d_LW_law_204 : decode code 204 = .ok (.iload 5, 2) := by decide +kernel
theorem d_LW_law_206 : decode code 206 = .ok (.ifCond .ne 15, 3) := by decide +kernel
theorem d_LW_law_209 : decode code 209 = .ok (.aload_n 3, 1) := by decide +kernel
theorem d_LW_law_210 : decode code 210 = .ok (.iconst 0, 1) := by decide +kernel
theorem d_LW_law_211 : decode code 211 = .ok (.laload, 1) := by decide +kernel
theorem d_LW_law_212 : decode code 212 = .ok (.iload 6, 2) := by decide +kernel
theorem d_LW_law_214 : decode code 214 = .ok (.i2l, 1) := by decide +kernel
theorem d_LW_law_215 : decode code 215 = .ok (.lcmp, 1) := by decide +kernel
theorem d_LW_law_216 : decode code 216 = .ok (.ifCond .eq 5, 3) := by decide +kernel
theorem d_LW_law_219 : decode code 219 = .ok (.iconst 0, 1) := by decide +kernel
theorem d_LW_law_220 : decode code 220 = .ok (.ireturn, 1) := by decide +kernel
theorem d_LW_law_221 : decode code 221 = .ok (.goto 635, 3) := by decide +kernel
theorem d_LW_law_224 : decode code 224 = .ok (.aload_n 1, 1) := by decide +kernel
theorem d_LW_law_225 : decode code 225 = .ok (.aload_n 0, 1) := by decide +kernel
theorem d_LW_law_226 : decode code 226 = .ok (.iload 4, 2) := by decide +kernel
theorem d_LW_law_228 : decode code 228 = .ok (.iconst 1, 1) := by decide +kernel
theorem d_LW_law_229 : decode code 229 = .ok (.iadd, 1) := by decide +kernel
theorem d_LW_law_230 : decode code 230 = .ok (.iaload, 1) := by decide +kernel
theorem d_LW_law_231 : decode code 231 = .ok (.aload_n 0, 1) := by decide +kernel
theorem d_LW_law_232 : decode code 232 = .ok (.iload 4, 2) := by decide +kernel
theorem d_LW_law_234 : decode code 234 = .ok (.iconst 2, 1) := by decide +kernel
theorem d_LW_law_235 : decode code 235 = .ok (.iadd, 1) := by decide +kernel
theorem d_LW_law_236 : decode code 236 = .ok (.iaload, 1) := by decide +kernel
theorem d_LW_law_237 : decode code 237 = .ok (.aload_n 0, 1) := by decide +kernel
theorem d_LW_law_238 : decode code 238 = .ok (.iload 4, 2) := by decide +kernel
theorem d_LW_law_240 : decode code 240 = .ok (.iconst 3, 1) := by decide +kernel
theorem d_LW_law_241 : decode code 241 = .ok (.iadd, 1) := by decide +kernel
theorem d_LW_law_242 : decode code 242 = .ok (.iaload, 1) := by decide +kernel
theorem d_LW_law_243 : decode code 243 = .ok (.ifCond .eq 7, 3) := by decide +kernel
theorem d_LW_law_246 : decode code 246 = .ok (.iconst 1, 1) := by decide +kernel
theorem d_LW_law_247 : decode code 247 = .ok (.goto 4, 3) := by decide +kernel
theorem d_LW_law_250 : decode code 250 = .ok (.iconst 0, 1) := by decide +kernel
theorem d_LW_law_251 : decode code 251 = .ok (.aload_n 3, 1) := by decide +kernel
theorem d_LW_law_252 : decode code 252 = .ok (.invokestatic 69, 3) := by decide +kernel
theorem d_LW_law_255 : decode code 255 = .ok (.istore 5, 2) := by decide +kernel
theorem d_LW_law_257 : decode code 257 = .ok (.aload_n 2, 1) := by decide +kernel
theorem d_LW_law_258 : decode code 258 = .ok (.aload_n 0, 1) := by decide +kernel
theorem d_LW_law_259 : decode code 259 = .ok (.iload 4, 2) := by decide +kernel
theorem d_LW_law_261 : decode code 261 = .ok (.iconst 1, 1) := by decide +kernel
theorem d_LW_law_262 : decode code 262 = .ok (.iadd, 1) := by decide +kernel
theorem d_LW_law_263 : decode code 263 = .ok (.iaload, 1) := by decide +kernel
theorem d_LW_law_264 : decode code 264 = .ok (.aload_n 0, 1) := by decide +kernel
theorem d_LW_law_265 : decode code 265 = .ok (.iload 4, 2) := by decide +kernel
theorem d_LW_law_267 : decode code 267 = .ok (.iconst 2, 1) := by decide +kernel
theorem d_LW_law_268 : decode code 268 = .ok (.iadd, 1) := by decide +kernel
theorem d_LW_law_269 : decode code 269 = .ok (.iaload, 1) := by decide +kernel
theorem d_LW_law_270 : decode code 270 = .ok (.aload_n 0, 1) := by decide +kernel
theorem d_LW_law_271 : decode code 271 = .ok (.iload 4, 2) := by decide +kernel
theorem d_LW_law_273 : decode code 273 = .ok (.iconst 3, 1) := by decide +kernel
theorem d_LW_law_274 : decode code 274 = .ok (.iadd, 1) := by decide +kernel
theorem d_LW_law_275 : decode code 275 = .ok (.iaload, 1) := by decide +kernel
theorem d_LW_law_276 : decode code 276 = .ok (.ifCond .eq 7, 3) := by decide +kernel
theorem d_LW_law_279 : decode code 279 = .ok (.iconst 1, 1) := by decide +kernel
theorem d_LW_law_280 : decode code 280 = .ok (.goto 4, 3) := by decide +kernel
theorem d_LW_law_283 : decode code 283 = .ok (.iconst 0, 1) := by decide +kernel
theorem d_LW_law_284 : decode code 284 = .ok (.invokevirtual 72, 3) := by decide +kernel
theorem d_LW_law_287 : decode code 287 = .ok (.istore 6, 2) := by decide +kernel
theorem d_LW_law_289 : decode code 289 = .ok (.aload_n 2, 1) := by decide +kernel
theorem d_LW_law_290 : decode code 290 = .ok (.invokevirtual 61, 3) := by decide +kernel
theorem d_LW_law_293 : decode code 293 = .ok (.iload 5, 2) := by decide +kernel
theorem d_LW_law_295 : decode code 295 = .ok (.if_icmp .eq 5, 3) := by decide +kernel
theorem d_LW_law_298 : decode code 298 = .ok (.iconst 0, 1) := by decide +kernel
theorem d_LW_law_299 : decode code 299 = .ok (.ireturn, 1) := by decide +kernel
theorem d_LW_law_300 : decode code 300 = .ok (.iload 5, 2) := by decide +kernel
theorem d_LW_law_302 : decode code 302 = .ok (.ifCond .ne 15, 3) := by decide +kernel
theorem d_LW_law_305 : decode code 305 = .ok (.aload_n 3, 1) := by decide +kernel
theorem d_LW_law_306 : decode code 306 = .ok (.iconst 0, 1) := by decide +kernel
theorem d_LW_law_307 : decode code 307 = .ok (.laload, 1) := by decide +kernel
theorem d_LW_law_308 : decode code 308 = .ok (.iload 6, 2) := by decide +kernel
theorem d_LW_law_310 : decode code 310 = .ok (.i2l, 1) := by decide +kernel
theorem d_LW_law_311 : decode code 311 = .ok (.lcmp, 1) := by decide +kernel
theorem d_LW_law_312 : decode code 312 = .ok (.ifCond .eq 5, 3) := by decide +kernel
theorem d_LW_law_315 : decode code 315 = .ok (.iconst 0, 1) := by decide +kernel
theorem d_LW_law_316 : decode code 316 = .ok (.ireturn, 1) := by decide +kernel
theorem d_LW_law_317 : decode code 317 = .ok (.goto 539, 3) := by decide +kernel
theorem d_LW_law_320 : decode code 320 = .ok (.aload_n 1, 1) := by decide +kernel
theorem d_LW_law_321 : decode code 321 = .ok (.invokevirtual 73, 3) := by decide +kernel
theorem d_LW_law_324 : decode code 324 = .ok (.aload_n 2, 1) := by decide +kernel
theorem d_LW_law_325 : decode code 325 = .ok (.invokevirtual 76, 3) := by decide +kernel
theorem d_LW_law_328 : decode code 328 = .ok (.if_icmp .eq 528, 3) := by decide +kernel
theorem d_LW_law_331 : decode code 331 = .ok (.iconst 0, 1) := by decide +kernel
theorem d_LW_law_332 : decode code 332 = .ok (.ireturn, 1) := by decide +kernel
theorem d_LW_law_333 : decode code 333 = .ok (.aload_n 1, 1) := by decide +kernel
theorem d_LW_law_334 : decode code 334 = .ok (.aload_n 0, 1) := by decide +kernel
theorem d_LW_law_335 : decode code 335 = .ok (.iload 4, 2) := by decide +kernel
theorem d_LW_law_337 : decode code 337 = .ok (.iconst 1, 1) := by decide +kernel
theorem d_LW_law_338 : decode code 338 = .ok (.iadd, 1) := by decide +kernel
theorem d_LW_law_339 : decode code 339 = .ok (.iaload, 1) := by decide +kernel
theorem d_LW_law_340 : decode code 340 = .ok (.aload_n 0, 1) := by decide +kernel
theorem d_LW_law_341 : decode code 341 = .ok (.iload 4, 2) := by decide +kernel
theorem d_LW_law_343 : decode code 343 = .ok (.iconst 2, 1) := by decide +kernel
theorem d_LW_law_344 : decode code 344 = .ok (.iadd, 1) := by decide +kernel
theorem d_LW_law_345 : decode code 345 = .ok (.iaload, 1) := by decide +kernel
theorem d_LW_law_346 : decode code 346 = .ok (.aload_n 3, 1) := by decide +kernel
theorem d_LW_law_347 : decode code 347 = .ok (.invokestatic 77, 3) := by decide +kernel
theorem d_LW_law_350 : decode code 350 = .ok (.istore 5, 2) := by decide +kernel
theorem d_LW_law_352 : decode code 352 = .ok (.aload_n 2, 1) := by decide +kernel
theorem d_LW_law_353 : decode code 353 = .ok (.aload_n 0, 1) := by decide +kernel
theorem d_LW_law_354 : decode code 354 = .ok (.iload 4, 2) := by decide +kernel
theorem d_LW_law_356 : decode code 356 = .ok (.iconst 1, 1) := by decide +kernel
theorem d_LW_law_357 : decode code 357 = .ok (.iadd, 1) := by decide +kernel
theorem d_LW_law_358 : decode code 358 = .ok (.iaload, 1) := by decide +kernel
theorem d_LW_law_359 : decode code 359 = .ok (.aload_n 0, 1) := by decide +kernel
theorem d_LW_law_360 : decode code 360 = .ok (.iload 4, 2) := by decide +kernel
theorem d_LW_law_362 : decode code 362 = .ok (.iconst 2, 1) := by decide +kernel
theorem d_LW_law_363 : decode code 363 = .ok (.iadd, 1) := by decide +kernel
theorem d_LW_law_364 : decode code 364 = .ok (.iaload, 1) := by decide +kernel
theorem d_LW_law_365 : decode code 365 = .ok (.invokevirtual 79, 3) := by decide +kernel
theorem d_LW_law_368 : decode code 368 = .ok (.istore 6, 2) := by decide +kernel
theorem d_LW_law_370 : decode code 370 = .ok (.aload_n 2, 1) := by decide +kernel
theorem d_LW_law_371 : decode code 371 = .ok (.invokevirtual 61, 3) := by decide +kernel
theorem d_LW_law_374 : decode code 374 = .ok (.iload 5, 2) := by decide +kernel
theorem d_LW_law_376 : decode code 376 = .ok (.if_icmp .eq 5, 3) := by decide +kernel
theorem d_LW_law_379 : decode code 379 = .ok (.iconst 0, 1) := by decide +kernel
theorem d_LW_law_380 : decode code 380 = .ok (.ireturn, 1) := by decide +kernel
theorem d_LW_law_381 : decode code 381 = .ok (.iload 5, 2) := by decide +kernel
theorem d_LW_law_383 : decode code 383 = .ok (.ifCond .ne 15, 3) := by decide +kernel
theorem d_LW_law_386 : decode code 386 = .ok (.aload_n 3, 1) := by decide +kernel
theorem d_LW_law_387 : decode code 387 = .ok (.iconst 0, 1) := by decide +kernel
theorem d_LW_law_388 : decode code 388 = .ok (.laload, 1) := by decide +kernel
theorem d_LW_law_389 : decode code 389 = .ok (.iload 6, 2) := by decide +kernel
theorem d_LW_law_391 : decode code 391 = .ok (.i2l, 1) := by decide +kernel
theorem d_LW_law_392 : decode code 392 = .ok (.lcmp, 1) := by decide +kernel
theorem d_LW_law_393 : decode code 393 = .ok (.ifCond .eq 5, 3) := by decide +kernel
theorem d_LW_law_396 : decode code 396 = .ok (.iconst 0, 1) := by decide +kernel
theorem d_LW_law_397 : decode code 397 = .ok (.ireturn, 1) := by decide +kernel
theorem d_LW_law_398 : decode code 398 = .ok (.goto 458, 3) := by decide +kernel
theorem d_LW_law_401 : decode code 401 = .ok (.aload_n 1, 1) := by decide +kernel
theorem d_LW_law_402 : decode code 402 = .ok (.aload_n 0, 1) := by decide +kernel
theorem d_LW_law_403 : decode code 403 = .ok (.iload 4, 2) := by decide +kernel
theorem d_LW_law_405 : decode code 405 = .ok (.iconst 1, 1) := by decide +kernel
theorem d_LW_law_406 : decode code 406 = .ok (.iadd, 1) := by decide +kernel
theorem d_LW_law_407 : decode code 407 = .ok (.iaload, 1) := by decide +kernel
theorem d_LW_law_408 : decode code 408 = .ok (.aload_n 0, 1) := by decide +kernel
theorem d_LW_law_409 : decode code 409 = .ok (.iload 4, 2) := by decide +kernel
theorem d_LW_law_411 : decode code 411 = .ok (.iconst 2, 1) := by decide +kernel
theorem d_LW_law_412 : decode code 412 = .ok (.iadd, 1) := by decide +kernel
theorem d_LW_law_413 : decode code 413 = .ok (.iaload, 1) := by decide +kernel
theorem d_LW_law_414 : decode code 414 = .ok (.ifCond .eq 7, 3) := by decide +kernel
theorem d_LW_law_417 : decode code 417 = .ok (.iconst 1, 1) := by decide +kernel
theorem d_LW_law_418 : decode code 418 = .ok (.goto 4, 3) := by decide +kernel
theorem d_LW_law_421 : decode code 421 = .ok (.iconst 0, 1) := by decide +kernel
theorem d_LW_law_422 : decode code 422 = .ok (.aload_n 3, 1) := by decide +kernel
theorem d_LW_law_423 : decode code 423 = .ok (.invokestatic 80, 3) := by decide +kernel
theorem d_LW_law_426 : decode code 426 = .ok (.istore 5, 2) := by decide +kernel
theorem d_LW_law_428 : decode code 428 = .ok (.aload_n 2, 1) := by decide +kernel
theorem d_LW_law_429 : decode code 429 = .ok (.aload_n 0, 1) := by decide +kernel
theorem d_LW_law_430 : decode code 430 = .ok (.iload 4, 2) := by decide +kernel
theorem d_LW_law_432 : decode code 432 = .ok (.iconst 1, 1) := by decide +kernel
theorem d_LW_law_433 : decode code 433 = .ok (.iadd, 1) := by decide +kernel
theorem d_LW_law_434 : decode code 434 = .ok (.iaload, 1) := by decide +kernel
theorem d_LW_law_435 : decode code 435 = .ok (.aload_n 0, 1) := by decide +kernel
theorem d_LW_law_436 : decode code 436 = .ok (.iload 4, 2) := by decide +kernel
theorem d_LW_law_438 : decode code 438 = .ok (.iconst 2, 1) := by decide +kernel
theorem d_LW_law_439 : decode code 439 = .ok (.iadd, 1) := by decide +kernel
theorem d_LW_law_440 : decode code 440 = .ok (.iaload, 1) := by decide +kernel
theorem d_LW_law_441 : decode code 441 = .ok (.ifCond .eq 7, 3) := by decide +kernel
theorem d_LW_law_444 : decode code 444 = .ok (.iconst 1, 1) := by decide +kernel
theorem d_LW_law_445 : decode code 445 = .ok (.goto 4, 3) := by decide +kernel
theorem d_LW_law_448 : decode code 448 = .ok (.iconst 0, 1) := by decide +kernel
theorem d_LW_law_449 : decode code 449 = .ok (.invokevirtual 83, 3) := by decide +kernel
theorem d_LW_law_452 : decode code 452 = .ok (.istore 6, 2) := by decide +kernel
theorem d_LW_law_454 : decode code 454 = .ok (.aload_n 2, 1) := by decide +kernel
theorem d_LW_law_455 : decode code 455 = .ok (.invokevirtual 61, 3) := by decide +kernel
theorem d_LW_law_458 : decode code 458 = .ok (.iload 5, 2) := by decide +kernel
theorem d_LW_law_460 : decode code 460 = .ok (.if_icmp .eq 5, 3) := by decide +kernel
theorem d_LW_law_463 : decode code 463 = .ok (.iconst 0, 1) := by decide +kernel
theorem d_LW_law_464 : decode code 464 = .ok (.ireturn, 1) := by decide +kernel
theorem d_LW_law_465 : decode code 465 = .ok (.iload 5, 2) := by decide +kernel
theorem d_LW_law_467 : decode code 467 = .ok (.ifCond .ne 15, 3) := by decide +kernel
theorem d_LW_law_470 : decode code 470 = .ok (.aload_n 3, 1) := by decide +kernel
theorem d_LW_law_471 : decode code 471 = .ok (.iconst 0, 1) := by decide +kernel
theorem d_LW_law_472 : decode code 472 = .ok (.laload, 1) := by decide +kernel
theorem d_LW_law_473 : decode code 473 = .ok (.iload 6, 2) := by decide +kernel
theorem d_LW_law_475 : decode code 475 = .ok (.i2l, 1) := by decide +kernel
theorem d_LW_law_476 : decode code 476 = .ok (.lcmp, 1) := by decide +kernel
theorem d_LW_law_477 : decode code 477 = .ok (.ifCond .eq 5, 3) := by decide +kernel
theorem d_LW_law_480 : decode code 480 = .ok (.iconst 0, 1) := by decide +kernel
theorem d_LW_law_481 : decode code 481 = .ok (.ireturn, 1) := by decide +kernel
theorem d_LW_law_482 : decode code 482 = .ok (.goto 374, 3) := by decide +kernel
theorem d_LW_law_485 : decode code 485 = .ok (.aload_n 1, 1) := by decide +kernel
theorem d_LW_law_486 : decode code 486 = .ok (.aload_n 0, 1) := by decide +kernel
theorem d_LW_law_487 : decode code 487 = .ok (.iload 4, 2) := by decide +kernel
theorem d_LW_law_489 : decode code 489 = .ok (.iconst 1, 1) := by decide +kernel
theorem d_LW_law_490 : decode code 490 = .ok (.iadd, 1) := by decide +kernel
theorem d_LW_law_491 : decode code 491 = .ok (.iaload, 1) := by decide +kernel
theorem d_LW_law_492 : decode code 492 = .ok (.aload_n 0, 1) := by decide +kernel
theorem d_LW_law_493 : decode code 493 = .ok (.iload 4, 2) := by decide +kernel
theorem d_LW_law_495 : decode code 495 = .ok (.iconst 2, 1) := by decide +kernel
theorem d_LW_law_496 : decode code 496 = .ok (.iadd, 1) := by decide +kernel
theorem d_LW_law_497 : decode code 497 = .ok (.iaload, 1) := by decide +kernel
theorem d_LW_law_498 : decode code 498 = .ok (.ifCond .eq 7, 3) := by decide +kernel
theorem d_LW_law_501 : decode code 501 = .ok (.iconst 1, 1) := by decide +kernel
theorem d_LW_law_502 : decode code 502 = .ok (.goto 4, 3) := by decide +kernel
theorem d_LW_law_505 : decode code 505 = .ok (.iconst 0, 1) := by decide +kernel
theorem d_LW_law_506 : decode code 506 = .ok (.aload_n 3, 1) := by decide +kernel
theorem d_LW_law_507 : decode code 507 = .ok (.invokestatic 84, 3) := by decide +kernel
theorem d_LW_law_510 : decode code 510 = .ok (.istore 5, 2) := by decide +kernel
theorem d_LW_law_512 : decode code 512 = .ok (.aload_n 2, 1) := by decide +kernel
theorem d_LW_law_513 : decode code 513 = .ok (.aload_n 0, 1) := by decide +kernel
theorem d_LW_law_514 : decode code 514 = .ok (.iload 4, 2) := by decide +kernel
theorem d_LW_law_516 : decode code 516 = .ok (.iconst 1, 1) := by decide +kernel
theorem d_LW_law_517 : decode code 517 = .ok (.iadd, 1) := by decide +kernel
theorem d_LW_law_518 : decode code 518 = .ok (.iaload, 1) := by decide +kernel
theorem d_LW_law_519 : decode code 519 = .ok (.aload_n 0, 1) := by decide +kernel
theorem d_LW_law_520 : decode code 520 = .ok (.iload 4, 2) := by decide +kernel
theorem d_LW_law_522 : decode code 522 = .ok (.iconst 2, 1) := by decide +kernel
theorem d_LW_law_523 : decode code 523 = .ok (.iadd, 1) := by decide +kernel
theorem d_LW_law_524 : decode code 524 = .ok (.iaload, 1) := by decide +kernel
theorem d_LW_law_525 : decode code 525 = .ok (.ifCond .eq 7, 3) := by decide +kernel
theorem d_LW_law_528 : decode code 528 = .ok (.iconst 1, 1) := by decide +kernel
theorem d_LW_law_529 : decode code 529 = .ok (.goto 4, 3) := by decide +kernel
theorem d_LW_law_532 : decode code 532 = .ok (.iconst 0, 1) := by decide +kernel
theorem d_LW_law_533 : decode code 533 = .ok (.invokevirtual 86, 3) := by decide +kernel
theorem d_LW_law_536 : decode code 536 = .ok (.istore 6, 2) := by decide +kernel
theorem d_LW_law_538 : decode code 538 = .ok (.aload_n 2, 1) := by decide +kernel
theorem d_LW_law_539 : decode code 539 = .ok (.invokevirtual 61, 3) := by decide +kernel
theorem d_LW_law_542 : decode code 542 = .ok (.iload 5, 2) := by decide +kernel
theorem d_LW_law_544 : decode code 544 = .ok (.if_icmp .eq 5, 3) := by decide +kernel
theorem d_LW_law_547 : decode code 547 = .ok (.iconst 0, 1) := by decide +kernel
theorem d_LW_law_548 : decode code 548 = .ok (.ireturn, 1) := by decide +kernel
theorem d_LW_law_549 : decode code 549 = .ok (.iload 5, 2) := by decide +kernel
theorem d_LW_law_551 : decode code 551 = .ok (.ifCond .ne 15, 3) := by decide +kernel
theorem d_LW_law_554 : decode code 554 = .ok (.aload_n 3, 1) := by decide +kernel
theorem d_LW_law_555 : decode code 555 = .ok (.iconst 0, 1) := by decide +kernel
theorem d_LW_law_556 : decode code 556 = .ok (.laload, 1) := by decide +kernel
theorem d_LW_law_557 : decode code 557 = .ok (.iload 6, 2) := by decide +kernel
theorem d_LW_law_559 : decode code 559 = .ok (.i2l, 1) := by decide +kernel
theorem d_LW_law_560 : decode code 560 = .ok (.lcmp, 1) := by decide +kernel
theorem d_LW_law_561 : decode code 561 = .ok (.ifCond .eq 5, 3) := by decide +kernel
theorem d_LW_law_564 : decode code 564 = .ok (.iconst 0, 1) := by decide +kernel
theorem d_LW_law_565 : decode code 565 = .ok (.ireturn, 1) := by decide +kernel
theorem d_LW_law_566 : decode code 566 = .ok (.goto 290, 3) := by decide +kernel
theorem d_LW_law_569 : decode code 569 = .ok (.aload_n 1, 1) := by decide +kernel
theorem d_LW_law_570 : decode code 570 = .ok (.aload_n 0, 1) := by decide +kernel
theorem d_LW_law_571 : decode code 571 = .ok (.iload 4, 2) := by decide +kernel
theorem d_LW_law_573 : decode code 573 = .ok (.iconst 1, 1) := by decide +kernel
theorem d_LW_law_574 : decode code 574 = .ok (.iadd, 1) := by decide +kernel
theorem d_LW_law_575 : decode code 575 = .ok (.iaload, 1) := by decide +kernel
theorem d_LW_law_576 : decode code 576 = .ok (.aload_n 0, 1) := by decide +kernel
theorem d_LW_law_577 : decode code 577 = .ok (.iload 4, 2) := by decide +kernel
theorem d_LW_law_579 : decode code 579 = .ok (.iconst 2, 1) := by decide +kernel
theorem d_LW_law_580 : decode code 580 = .ok (.iadd, 1) := by decide +kernel
theorem d_LW_law_581 : decode code 581 = .ok (.iaload, 1) := by decide +kernel
theorem d_LW_law_582 : decode code 582 = .ok (.aload_n 3, 1) := by decide +kernel
theorem d_LW_law_583 : decode code 583 = .ok (.invokestatic 87, 3) := by decide +kernel
theorem d_LW_law_586 : decode code 586 = .ok (.istore 5, 2) := by decide +kernel
theorem d_LW_law_588 : decode code 588 = .ok (.aload_n 2, 1) := by decide +kernel
theorem d_LW_law_589 : decode code 589 = .ok (.aload_n 0, 1) := by decide +kernel
theorem d_LW_law_590 : decode code 590 = .ok (.iload 4, 2) := by decide +kernel
theorem d_LW_law_592 : decode code 592 = .ok (.iconst 1, 1) := by decide +kernel
theorem d_LW_law_593 : decode code 593 = .ok (.iadd, 1) := by decide +kernel
theorem d_LW_law_594 : decode code 594 = .ok (.iaload, 1) := by decide +kernel
theorem d_LW_law_595 : decode code 595 = .ok (.aload_n 0, 1) := by decide +kernel
theorem d_LW_law_596 : decode code 596 = .ok (.iload 4, 2) := by decide +kernel
theorem d_LW_law_598 : decode code 598 = .ok (.iconst 2, 1) := by decide +kernel
theorem d_LW_law_599 : decode code 599 = .ok (.iadd, 1) := by decide +kernel
theorem d_LW_law_600 : decode code 600 = .ok (.iaload, 1) := by decide +kernel
theorem d_LW_law_601 : decode code 601 = .ok (.invokevirtual 89, 3) := by decide +kernel
theorem d_LW_law_604 : decode code 604 = .ok (.istore 6, 2) := by decide +kernel
theorem d_LW_law_606 : decode code 606 = .ok (.aload_n 2, 1) := by decide +kernel
theorem d_LW_law_607 : decode code 607 = .ok (.invokevirtual 61, 3) := by decide +kernel
theorem d_LW_law_610 : decode code 610 = .ok (.iload 5, 2) := by decide +kernel
theorem d_LW_law_612 : decode code 612 = .ok (.if_icmp .eq 5, 3) := by decide +kernel
theorem d_LW_law_615 : decode code 615 = .ok (.iconst 0, 1) := by decide +kernel
theorem d_LW_law_616 : decode code 616 = .ok (.ireturn, 1) := by decide +kernel
theorem d_LW_law_617 : decode code 617 = .ok (.iload 5, 2) := by decide +kernel
theorem d_LW_law_619 : decode code 619 = .ok (.ifCond .ne 22, 3) := by decide +kernel
theorem d_LW_law_622 : decode code 622 = .ok (.aload_n 3, 1) := by decide +kernel
theorem d_LW_law_623 : decode code 623 = .ok (.iconst 0, 1) := by decide +kernel
theorem d_LW_law_624 : decode code 624 = .ok (.laload, 1) := by decide +kernel
theorem d_LW_law_625 : decode code 625 = .ok (.iload 6, 2) := by decide +kernel
theorem d_LW_law_627 : decode code 627 = .ok (.ifCond .eq 7, 3) := by decide +kernel
theorem d_LW_law_630 : decode code 630 = .ok (.lconst 1, 1) := by decide +kernel
theorem d_LW_law_631 : decode code 631 = .ok (.goto 4, 3) := by decide +kernel
theorem d_LW_law_634 : decode code 634 = .ok (.lconst 0, 1) := by decide +kernel
theorem d_LW_law_635 : decode code 635 = .ok (.lcmp, 1) := by decide +kernel
theorem d_LW_law_636 : decode code 636 = .ok (.ifCond .eq 5, 3) := by decide +kernel
theorem d_LW_law_639 : decode code 639 = .ok (.iconst 0, 1) := by decide +kernel
theorem d_LW_law_640 : decode code 640 = .ok (.ireturn, 1) := by decide +kernel
theorem d_LW_law_641 : decode code 641 = .ok (.goto 215, 3) := by decide +kernel
theorem d_LW_law_644 : decode code 644 = .ok (.aload_n 1, 1) := by decide +kernel
theorem d_LW_law_645 : decode code 645 = .ok (.aload_n 0, 1) := by decide +kernel
theorem d_LW_law_646 : decode code 646 = .ok (.iload 4, 2) := by decide +kernel
theorem d_LW_law_648 : decode code 648 = .ok (.iconst 1, 1) := by decide +kernel
theorem d_LW_law_649 : decode code 649 = .ok (.iadd, 1) := by decide +kernel
theorem d_LW_law_650 : decode code 650 = .ok (.iaload, 1) := by decide +kernel
theorem d_LW_law_651 : decode code 651 = .ok (.aload_n 0, 1) := by decide +kernel
theorem d_LW_law_652 : decode code 652 = .ok (.iload 4, 2) := by decide +kernel
theorem d_LW_law_654 : decode code 654 = .ok (.iconst 2, 1) := by decide +kernel
theorem d_LW_law_655 : decode code 655 = .ok (.iadd, 1) := by decide +kernel
theorem d_LW_law_656 : decode code 656 = .ok (.iaload, 1) := by decide +kernel
theorem d_LW_law_657 : decode code 657 = .ok (.aload_n 3, 1) := by decide +kernel
theorem d_LW_law_658 : decode code 658 = .ok (.invokestatic 90, 3) := by decide +kernel
theorem d_LW_law_661 : decode code 661 = .ok (.istore 5, 2) := by decide +kernel
theorem d_LW_law_663 : decode code 663 = .ok (.aload_n 2, 1) := by decide +kernel
theorem d_LW_law_664 : decode code 664 = .ok (.aload_n 0, 1) := by decide +kernel
theorem d_LW_law_665 : decode code 665 = .ok (.iload 4, 2) := by decide +kernel
theorem d_LW_law_667 : decode code 667 = .ok (.iconst 1, 1) := by decide +kernel
theorem d_LW_law_668 : decode code 668 = .ok (.iadd, 1) := by decide +kernel
theorem d_LW_law_669 : decode code 669 = .ok (.iaload, 1) := by decide +kernel
theorem d_LW_law_670 : decode code 670 = .ok (.aload_n 0, 1) := by decide +kernel
theorem d_LW_law_671 : decode code 671 = .ok (.iload 4, 2) := by decide +kernel
theorem d_LW_law_673 : decode code 673 = .ok (.iconst 2, 1) := by decide +kernel
theorem d_LW_law_674 : decode code 674 = .ok (.iadd, 1) := by decide +kernel
theorem d_LW_law_675 : decode code 675 = .ok (.iaload, 1) := by decide +kernel
theorem d_LW_law_676 : decode code 676 = .ok (.invokevirtual 92, 3) := by decide +kernel
theorem d_LW_law_679 : decode code 679 = .ok (.istore 6, 2) := by decide +kernel
theorem d_LW_law_681 : decode code 681 = .ok (.aload_n 2, 1) := by decide +kernel
theorem d_LW_law_682 : decode code 682 = .ok (.invokevirtual 61, 3) := by decide +kernel
theorem d_LW_law_685 : decode code 685 = .ok (.iload 5, 2) := by decide +kernel
theorem d_LW_law_687 : decode code 687 = .ok (.if_icmp .eq 5, 3) := by decide +kernel
theorem d_LW_law_690 : decode code 690 = .ok (.iconst 0, 1) := by decide +kernel
theorem d_LW_law_691 : decode code 691 = .ok (.ireturn, 1) := by decide +kernel
theorem d_LW_law_692 : decode code 692 = .ok (.iload 5, 2) := by decide +kernel
theorem d_LW_law_694 : decode code 694 = .ok (.ifCond .ne 15, 3) := by decide +kernel
theorem d_LW_law_697 : decode code 697 = .ok (.aload_n 3, 1) := by decide +kernel
theorem d_LW_law_698 : decode code 698 = .ok (.iconst 0, 1) := by decide +kernel
theorem d_LW_law_699 : decode code 699 = .ok (.laload, 1) := by decide +kernel
theorem d_LW_law_700 : decode code 700 = .ok (.iload 6, 2) := by decide +kernel
theorem d_LW_law_702 : decode code 702 = .ok (.i2l, 1) := by decide +kernel
theorem d_LW_law_703 : decode code 703 = .ok (.lcmp, 1) := by decide +kernel
theorem d_LW_law_704 : decode code 704 = .ok (.ifCond .eq 5, 3) := by decide +kernel
theorem d_LW_law_707 : decode code 707 = .ok (.iconst 0, 1) := by decide +kernel
theorem d_LW_law_708 : decode code 708 = .ok (.ireturn, 1) := by decide +kernel
theorem d_LW_law_709 : decode code 709 = .ok (.goto 147, 3) := by decide +kernel
theorem d_LW_law_712 : decode code 712 = .ok (.aload_n 1, 1) := by decide +kernel
theorem d_LW_law_713 : decode code 713 = .ok (.aload_n 0, 1) := by decide +kernel
theorem d_LW_law_714 : decode code 714 = .ok (.iload 4, 2) := by decide +kernel
theorem d_LW_law_716 : decode code 716 = .ok (.iconst 1, 1) := by decide +kernel
theorem d_LW_law_717 : decode code 717 = .ok (.iadd, 1) := by decide +kernel
theorem d_LW_law_718 : decode code 718 = .ok (.iaload, 1) := by decide +kernel
theorem d_LW_law_719 : decode code 719 = .ok (.aload_n 0, 1) := by decide +kernel
theorem d_LW_law_720 : decode code 720 = .ok (.iload 4, 2) := by decide +kernel
theorem d_LW_law_722 : decode code 722 = .ok (.iconst 2, 1) := by decide +kernel
theorem d_LW_law_723 : decode code 723 = .ok (.iadd, 1) := by decide +kernel
theorem d_LW_law_724 : decode code 724 = .ok (.iaload, 1) := by decide +kernel
theorem d_LW_law_725 : decode code 725 = .ok (.aload_n 3, 1) := by decide +kernel
theorem d_LW_law_726 : decode code 726 = .ok (.invokestatic 93, 3) := by decide +kernel
theorem d_LW_law_729 : decode code 729 = .ok (.istore 5, 2) := by decide +kernel
theorem d_LW_law_731 : decode code 731 = .ok (.aload_n 2, 1) := by decide +kernel
theorem d_LW_law_732 : decode code 732 = .ok (.aload_n 0, 1) := by decide +kernel
theorem d_LW_law_733 : decode code 733 = .ok (.iload 4, 2) := by decide +kernel
theorem d_LW_law_735 : decode code 735 = .ok (.iconst 1, 1) := by decide +kernel
theorem d_LW_law_736 : decode code 736 = .ok (.iadd, 1) := by decide +kernel
theorem d_LW_law_737 : decode code 737 = .ok (.iaload, 1) := by decide +kernel
theorem d_LW_law_738 : decode code 738 = .ok (.aload_n 0, 1) := by decide +kernel
theorem d_LW_law_739 : decode code 739 = .ok (.iload 4, 2) := by decide +kernel
theorem d_LW_law_741 : decode code 741 = .ok (.iconst 2, 1) := by decide +kernel
theorem d_LW_law_742 : decode code 742 = .ok (.iadd, 1) := by decide +kernel
theorem d_LW_law_743 : decode code 743 = .ok (.iaload, 1) := by decide +kernel
theorem d_LW_law_744 : decode code 744 = .ok (.invokevirtual 95, 3) := by decide +kernel
theorem d_LW_law_747 : decode code 747 = .ok (.istore 6, 2) := by decide +kernel
theorem d_LW_law_749 : decode code 749 = .ok (.aload_n 2, 1) := by decide +kernel
theorem d_LW_law_750 : decode code 750 = .ok (.invokevirtual 61, 3) := by decide +kernel
theorem d_LW_law_753 : decode code 753 = .ok (.iload 5, 2) := by decide +kernel
theorem d_LW_law_755 : decode code 755 = .ok (.if_icmp .eq 5, 3) := by decide +kernel
theorem d_LW_law_758 : decode code 758 = .ok (.iconst 0, 1) := by decide +kernel
theorem d_LW_law_759 : decode code 759 = .ok (.ireturn, 1) := by decide +kernel
theorem d_LW_law_760 : decode code 760 = .ok (.iload 5, 2) := by decide +kernel
theorem d_LW_law_762 : decode code 762 = .ok (.ifCond .ne 15, 3) := by decide +kernel
theorem d_LW_law_765 : decode code 765 = .ok (.aload_n 3, 1) := by decide +kernel
theorem d_LW_law_766 : decode code 766 = .ok (.iconst 0, 1) := by decide +kernel
theorem d_LW_law_767 : decode code 767 = .ok (.laload, 1) := by decide +kernel
theorem d_LW_law_768 : decode code 768 = .ok (.iload 6, 2) := by decide +kernel
theorem d_LW_law_770 : decode code 770 = .ok (.i2l, 1) := by decide +kernel
theorem d_LW_law_771 : decode code 771 = .ok (.lcmp, 1) := by decide +kernel
theorem d_LW_law_772 : decode code 772 = .ok (.ifCond .eq 5, 3) := by decide +kernel
theorem d_LW_law_775 : decode code 775 = .ok (.iconst 0, 1) := by decide +kernel
theorem d_LW_law_776 : decode code 776 = .ok (.ireturn, 1) := by decide +kernel
theorem d_LW_law_777 : decode code 777 = .ok (.goto 79, 3) := by decide +kernel
theorem d_LW_law_780 : decode code 780 = .ok (.aload_n 1, 1) := by decide +kernel
theorem d_LW_law_781 : decode code 781 = .ok (.aload_n 0, 1) := by decide +kernel
theorem d_LW_law_782 : decode code 782 = .ok (.iload 4, 2) := by decide +kernel
theorem d_LW_law_784 : decode code 784 = .ok (.iconst 1, 1) := by decide +kernel
theorem d_LW_law_785 : decode code 785 = .ok (.iadd, 1) := by decide +kernel
theorem d_LW_law_786 : decode code 786 = .ok (.iaload, 1) := by decide +kernel
theorem d_LW_law_787 : decode code 787 = .ok (.aload_n 3, 1) := by decide +kernel
theorem d_LW_law_788 : decode code 788 = .ok (.invokestatic 96, 3) := by decide +kernel
theorem d_LW_law_791 : decode code 791 = .ok (.istore 5, 2) := by decide +kernel
theorem d_LW_law_793 : decode code 793 = .ok (.aload_n 2, 1) := by decide +kernel
theorem d_LW_law_794 : decode code 794 = .ok (.aload_n 0, 1) := by decide +kernel
theorem d_LW_law_795 : decode code 795 = .ok (.iload 4, 2) := by decide +kernel
theorem d_LW_law_797 : decode code 797 = .ok (.iconst 1, 1) := by decide +kernel
theorem d_LW_law_798 : decode code 798 = .ok (.iadd, 1) := by decide +kernel
theorem d_LW_law_799 : decode code 799 = .ok (.iaload, 1) := by decide +kernel
theorem d_LW_law_800 : decode code 800 = .ok (.invokevirtual 98, 3) := by decide +kernel
theorem d_LW_law_803 : decode code 803 = .ok (.istore 6, 2) := by decide +kernel
theorem d_LW_law_805 : decode code 805 = .ok (.aload_n 2, 1) := by decide +kernel
theorem d_LW_law_806 : decode code 806 = .ok (.invokevirtual 61, 3) := by decide +kernel
theorem d_LW_law_809 : decode code 809 = .ok (.iload 5, 2) := by decide +kernel
theorem d_LW_law_811 : decode code 811 = .ok (.if_icmp .eq 5, 3) := by decide +kernel
theorem d_LW_law_814 : decode code 814 = .ok (.iconst 0, 1) := by decide +kernel
theorem d_LW_law_815 : decode code 815 = .ok (.ireturn, 1) := by decide +kernel
theorem d_LW_law_816 : decode code 816 = .ok (.iload 5, 2) := by decide +kernel
theorem d_LW_law_818 : decode code 818 = .ok (.ifCond .ne 22, 3) := by decide +kernel
theorem d_LW_law_821 : decode code 821 = .ok (.aload_n 3, 1) := by decide +kernel
theorem d_LW_law_822 : decode code 822 = .ok (.iconst 0, 1) := by decide +kernel
theorem d_LW_law_823 : decode code 823 = .ok (.laload, 1) := by decide +kernel
theorem d_LW_law_824 : decode code 824 = .ok (.iload 6, 2) := by decide +kernel
theorem d_LW_law_826 : decode code 826 = .ok (.ifCond .eq 7, 3) := by decide +kernel
theorem d_LW_law_829 : decode code 829 = .ok (.lconst 1, 1) := by decide +kernel
theorem d_LW_law_830 : decode code 830 = .ok (.goto 4, 3) := by decide +kernel
theorem d_LW_law_833 : decode code 833 = .ok (.lconst 0, 1) := by decide +kernel
theorem d_LW_law_834 : decode code 834 = .ok (.lcmp, 1) := by decide +kernel
theorem d_LW_law_835 : decode code 835 = .ok (.ifCond .eq 5, 3) := by decide +kernel
theorem d_LW_law_838 : decode code 838 = .ok (.iconst 0, 1) := by decide +kernel
theorem d_LW_law_839 : decode code 839 = .ok (.ireturn, 1) := by decide +kernel
theorem d_LW_law_840 : decode code 840 = .ok (.goto 16, 3) := by decide +kernel
theorem d_LW_law_843 : decode code 843 = .ok (.aload_n 1, 1) := by decide +kernel
theorem d_LW_law_844 : decode code 844 = .ok (.invokevirtual 99, 3) := by decide +kernel
theorem d_LW_law_847 : decode code 847 = .ok (.aload_n 2, 1) := by decide +kernel
theorem d_LW_law_848 : decode code 848 = .ok (.invokevirtual 102, 3) := by decide +kernel
theorem d_LW_law_851 : decode code 851 = .ok (.if_icmp .eq 5, 3) := by decide +kernel
theorem d_LW_law_854 : decode code 854 = .ok (.iconst 0, 1) := by decide +kernel
theorem d_LW_law_855 : decode code 855 = .ok (.ireturn, 1) := by decide +kernel
theorem d_LW_law_856 : decode code 856 = .ok (.iinc 4 4, 3) := by decide +kernel
theorem d_LW_law_859 : decode code 859 = .ok (.goto (-836), 3) := by decide +kernel
theorem d_LW_law_862 : decode code 862 = .ok (.iconst 1, 1) := by decide +kernel
theorem d_LW_law_863 : decode code 863 = .ok (.ireturn, 1) := by decide +kernel
end
section
/-! ===== rows over naturals: nI n on the stack ===== -/
def bI (b : Bool) : Int32 := if b = true then 1 else 0
theorem bI_t : bI true = 1 := rfl
theorem bI_f : bI false = 0 := rfl
theorem bI_n (b : Bool) : narrow .boolean (.int (bI b)) = .int (bI b) := by cases b <;> decide
theorem bI_fit (b : Bool) : fits .boolean (.int (bI b)) = true := by cases b <;> decide
theorem bI_eq0 {b : Bool} : bI b = 0 ↔ b = false := by cases b <;> decide
theorem bI_inj {a b : Bool} : bI a = bI b ↔ a = b := by cases a <;> cases b <;> decide
section NROWS
variable {p : Program} {l : Launch} {e : Env} {R : Room} {s : State} {m : MethodId} {args : Array Value} {below : List Frame} {meth : Method} {c : Code} {H : Heap} {locs : List Loc} {cells slots : Nat} {Q : State → Prop}
variable {cc : ByteArray} {pc : Nat} {ls : Array Slot} {rest : List Value}
theorem r_iadd (hx : p.tables.exec = Jvm.exec) (hb : c.code = cc) {a b : Nat} (d : decode cc pc = .ok (.iadd, 1)) (k : W p l e R s m args below meth c H locs cells slots Q (F0 m (pc + 1) ls (.int (nI (a + b)) :: rest))) : W p l e R s m args below meth c H locs cells slots Q (F0 m pc ls (.int (nI b) :: .int (nI a) :: rest)) := lv_iadd hx hb d (by rw [nI_add]; exact k)
theorem r_isub (hx : p.tables.exec = Jvm.exec) (hb : c.code = cc) {a b : Nat} (h : b ≤ a) (d : decode cc pc = .ok (.isub, 1)) (k : W p l e R s m args below meth c H locs cells slots Q (F0 m (pc + 1) ls (.int (nI (a - b)) :: rest))) : W p l e R s m args below meth c H locs cells slots Q (F0 m pc ls (.int (nI b) :: .int (nI a) :: rest)) := lv_isub hx hb d (by rw [pk_sub h]; exact k)
theorem r_imul (hx : p.tables.exec = Jvm.exec) (hb : c.code = cc) {a b : Nat} (d : decode cc pc = .ok (.imul, 1)) (k : W p l e R s m args below meth c H locs cells slots Q (F0 m (pc + 1) ls (.int (nI (a * b)) :: rest))) : W p l e R s m args below meth c H locs cells slots Q (F0 m pc ls (.int (nI b) :: .int (nI a) :: rest)) := lv_imul hx hb d (by rw [pk_mul]; exact k)
theorem r_idiv (hx : p.tables.exec = Jvm.exec) (hb : c.code = cc) {a b : Nat} (ha : a < 2 ^ 31) (h0 : 0 < b) (hb2 : b < 2 ^ 31) (d : decode cc pc = .ok (.idiv, 1)) (k : W p l e R s m args below meth c H locs cells slots Q (F0 m (pc + 1) ls (.int (nI (a / b)) :: rest))) : W p l e R s m args below meth c H locs cells slots Q (F0 m pc ls (.int (nI b) :: .int (nI a) :: rest)) := lv_idiv hx hb d (nI_ne0 h0 hb2) (by rw [pk_div ha h0 hb2]; exact k)
theorem r_irem (hx : p.tables.exec = Jvm.exec) (hb : c.code = cc) {a b : Nat} (ha : a < 2 ^ 31) (h0 : 0 < b) (hb2 : b < 2 ^ 31) (d : decode cc pc = .ok (.irem, 1)) (k : W p l e R s m args below meth c H locs cells slots Q (F0 m (pc + 1) ls (.int (nI (a % b)) :: rest))) : W p l e R s m args below meth c H locs cells slots Q (F0 m pc ls (.int (nI b) :: .int (nI a) :: rest)) := lv_irem hx hb d (nI_ne0 h0 hb2) (by rw [pk_rem ha h0 hb2]; exact k)
theorem r_lt (hx : p.tables.exec = Jvm.exec) (hb : c.code = cc) {a b : Nat} {off : Int} {tgt : Nat} (d : decode cc pc = .ok (.if_icmp .lt off, 3)) (ht : (pc : Int) + off = (tgt : Int)) (ha : a < 2 ^ 31) (hb2 : b < 2 ^ 31) (k1 : a < b → W p l e R s m args below meth c H locs cells slots Q (F0 m tgt ls rest)) (k2 : b ≤ a → W p l e R s m args below meth c H locs cells slots Q (F0 m (pc + 3) ls rest)) : W p l e R s m args below meth c H locs cells slots Q (F0 m pc ls (.int (nI b) :: .int (nI a) :: rest)) := lv_icmp_lt hx hb d ht (fun h => k1 ((nI_ltI ha hb2).mp h)) (fun h => k2 (Nat.le_of_not_lt (fun q => h ((nI_ltI ha hb2).mpr q))))
theorem r_ge (hx : p.tables.exec = Jvm.exec) (hb : c.code = cc) {a b : Nat} {off : Int} {tgt : Nat} (d : decode cc pc = .ok (.if_icmp .ge off, 3)) (ht : (pc : Int) + off = (tgt : Int)) (ha : a < 2 ^ 31) (hb2 : b < 2 ^ 31) (k1 : b ≤ a → W p l e R s m args below meth c H locs cells slots Q (F0 m tgt ls rest)) (k2 : a < b → W p l e R s m args below meth c H locs cells slots Q (F0 m (pc + 3) ls rest)) : W p l e R s m args below meth c H locs cells slots Q (F0 m pc ls (.int (nI b) :: .int (nI a) :: rest)) := lv_icmp_ge hx hb d ht (fun h => k1 ((nI_leI hb2 ha).mp h)) (fun h => k2 (Nat.lt_of_not_le (fun q => h ((nI_leI hb2 ha).mpr q))))
theorem r_gt (hx : p.tables.exec = Jvm.exec) (hb : c.code = cc) {a b : Nat} {off : Int} {tgt : Nat} (d : decode cc pc = .ok (.if_icmp .gt off, 3)) (ht : (pc : Int) + off = (tgt : Int)) (ha : a < 2 ^ 31) (hb2 : b < 2 ^ 31) (k1 : b < a → W p l e R s m args below meth c H locs cells slots Q (F0 m tgt ls rest)) (k2 : a ≤ b → W p l e R s m args below meth c H locs cells slots Q (F0 m (pc + 3) ls rest)) : W p l e R s m args below meth c H locs cells slots Q (F0 m pc ls (.int (nI b) :: .int (nI a) :: rest)) := lv_icmp_gt hx hb d ht (fun h => k1 ((nI_ltI hb2 ha).mp h)) (fun h => k2 (Nat.le_of_not_lt (fun q => h ((nI_ltI hb2 ha).mpr q))))
theorem r_le (hx : p.tables.exec = Jvm.exec) (hb : c.code = cc) {a b : Nat} {off : Int} {tgt : Nat} (d : decode cc pc = .ok (.if_icmp .le off, 3)) (ht : (pc : Int) + off = (tgt : Int)) (ha : a < 2 ^ 31) (hb2 : b < 2 ^ 31) (k1 : a ≤ b → W p l e R s m args below meth c H locs cells slots Q (F0 m tgt ls rest)) (k2 : b < a → W p l e R s m args below meth c H locs cells slots Q (F0 m (pc + 3) ls rest)) : W p l e R s m args below meth c H locs cells slots Q (F0 m pc ls (.int (nI b) :: .int (nI a) :: rest)) := lv_icmp_le hx hb d ht (fun h => k1 ((nI_leI ha hb2).mp h)) (fun h => k2 (Nat.lt_of_not_le (fun q => h ((nI_leI ha hb2).mpr q))))
theorem r_eq (hx : p.tables.exec = Jvm.exec) (hb : c.code = cc) {a b : Nat} {off : Int} {tgt : Nat} (d : decode cc pc = .ok (.if_icmp .eq off, 3)) (ht : (pc : Int) + off = (tgt : Int)) (ha : a < 2 ^ 31) (hb2 : b < 2 ^ 31) (k1 : a = b → W p l e R s m args below meth c H locs cells slots Q (F0 m tgt ls rest)) (k2 : ¬ a = b → W p l e R s m args below meth c H locs cells slots Q (F0 m (pc + 3) ls rest)) : W p l e R s m args below meth c H locs cells slots Q (F0 m pc ls (.int (nI b) :: .int (nI a) :: rest)) := lv_icmp_eq hx hb d ht (fun h => k1 ((nI_eq ha hb2).mp h)) (fun h => k2 (fun q => h ((nI_eq ha hb2).mpr q)))
theorem r_ne (hx : p.tables.exec = Jvm.exec) (hb : c.code = cc) {a b : Nat} {off : Int} {tgt : Nat} (d : decode cc pc = .ok (.if_icmp .ne off, 3)) (ht : (pc : Int) + off = (tgt : Int)) (ha : a < 2 ^ 31) (hb2 : b < 2 ^ 31) (k1 : ¬ a = b → W p l e R s m args below meth c H locs cells slots Q (F0 m tgt ls rest)) (k2 : a = b → W p l e R s m args below meth c H locs cells slots Q (F0 m (pc + 3) ls rest)) : W p l e R s m args below meth c H locs cells slots Q (F0 m pc ls (.int (nI b) :: .int (nI a) :: rest)) := lv_icmp_ne hx hb d ht (fun h => k1 (fun q => h ((nI_eq ha hb2).mpr q))) (fun h => k2 (by first | exact (nI_eq ha hb2).mp h | exact (nI_eq ha hb2).mp (Classical.not_not.mp h)))
theorem r_bz (hx : p.tables.exec = Jvm.exec) (hb : c.code = cc) {b : Bool} {off : Int} {tgt : Nat} (d : decode cc pc = .ok (.ifCond .eq off, 3)) (ht : (pc : Int) + off = (tgt : Int)) (k1 : b = false → W p l e R s m args below meth c H locs cells slots Q (F0 m tgt ls rest)) (k2 : b = true → W p l e R s m args below meth c H locs cells slots Q (F0 m (pc + 3) ls rest)) : W p l e R s m args below meth c H locs cells slots Q (F0 m pc ls (.int (bI b) :: rest)) := lv_if_eq hx hb d ht (fun h => k1 (bI_eq0.mp h)) (fun h => k2 (by cases b with | true => rfl | false => exact absurd rfl h))
theorem r_bnz (hx : p.tables.exec = Jvm.exec) (hb : c.code = cc) {b : Bool} {off : Int} {tgt : Nat} (d : decode cc pc = .ok (.ifCond .ne off, 3)) (ht : (pc : Int) + off = (tgt : Int)) (k1 : b = true → W p l e R s m args below meth c H locs cells slots Q (F0 m tgt ls rest)) (k2 : b = false → W p l e R s m args below meth c H locs cells slots Q (F0 m (pc + 3) ls rest)) : W p l e R s m args below meth c H locs cells slots Q (F0 m pc ls (.int (bI b) :: rest)) := lv_if_ne hx hb d ht (fun h => k1 (by cases b with | true => rfl | false => exact absurd rfl h)) (fun h => k2 (by first | exact bI_eq0.mp h | exact bI_eq0.mp (Classical.not_not.mp h)))
theorem r_zlt (hx : p.tables.exec = Jvm.exec) (hb : c.code = cc) {a : Nat} {off : Int} (d : decode cc pc = .ok (.ifCond .lt off, 3)) {tgt : Nat} (ht : (pc : Int) + off = (tgt : Int)) (ha : a < 2 ^ 31) (k2 : W p l e R s m args below meth c H locs cells slots Q (F0 m (pc + 3) ls rest)) : W p l e R s m args below meth c H locs cells slots Q (F0 m pc ls (.int (nI a) :: rest)) := lv_if_lt hx hb d ht (fun h => absurd h (nI_pos ha)) (fun _ => k2)
theorem r_zle (hx : p.tables.exec = Jvm.exec) (hb : c.code = cc) {a : Nat} {off : Int} (d : decode cc pc = .ok (.ifCond .le off, 3)) {tgt : Nat} (ht : (pc : Int) + off = (tgt : Int)) (ha : a < 2 ^ 31) (k1 : a = 0 → W p l e R s m args below meth c H locs cells slots Q (F0 m tgt ls rest)) (k2 : 0 < a → W p l e R s m args below meth c H locs cells slots Q (F0 m (pc + 3) ls rest)) : W p l e R s m args below meth c H locs cells slots Q (F0 m pc ls (.int (nI a) :: rest)) := lv_if_le hx hb d ht (fun h => k1 (by rcases Nat.eq_zero_or_pos a with q | q; exact q; exact absurd h (nI_nle q ha))) (fun h => k2 (by rcases Nat.eq_zero_or_pos a with q | q; exact absurd (by rw [q, nI_0]; exact Int32.le_refl _) h; exact q))
theorem r_zge (hx : p.tables.exec = Jvm.exec) (hb : c.code = cc) {a : Nat} {off : Int} (d : decode cc pc = .ok (.ifCond .ge off, 3)) {tgt : Nat} (ht : (pc : Int) + off = (tgt : Int)) (ha : a < 2 ^ 31) (k1 : W p l e R s m args below meth c H locs cells slots Q (F0 m tgt ls rest)) : W p l e R s m args below meth c H locs cells slots Q (F0 m pc ls (.int (nI a) :: rest)) := lv_if_ge hx hb d ht (fun _ => k1) (fun h => absurd (nI_pos' ha) h)
theorem r_zeq (hx : p.tables.exec = Jvm.exec) (hb : c.code = cc) {a : Nat} {off : Int} (d : decode cc pc = .ok (.ifCond .eq off, 3)) {tgt : Nat} (ht : (pc : Int) + off = (tgt : Int)) (ha : a < 2 ^ 31) (k1 : a = 0 → W p l e R s m args below meth c H locs cells slots Q (F0 m tgt ls rest)) (k2 : 0 < a → W p l e R s m args below meth c H locs cells slots Q (F0 m (pc + 3) ls rest)) : W p l e R s m args below meth c H locs cells slots Q (F0 m pc ls (.int (nI a) :: rest)) := lv_if_eq hx hb d ht (fun h => k1 ((nI_eq ha (by omega)).mp (h.trans nI_0.symm))) (fun h => k2 (Nat.pos_of_ne_zero (fun q => h (by rw [q, nI_0]))))
theorem r_zne (hx : p.tables.exec = Jvm.exec) (hb : c.code = cc) {a : Nat} {off : Int} (d : decode cc pc = .ok (.ifCond .ne off, 3)) {tgt : Nat} (ht : (pc : Int) + off = (tgt : Int)) (ha : a < 2 ^ 31) (k1 : 0 < a → W p l e R s m args below meth c H locs cells slots Q (F0 m tgt ls rest)) (k2 : a = 0 → W p l e R s m args below meth c H locs cells slots Q (F0 m (pc + 3) ls rest)) : W p l e R s m args below meth c H locs cells slots Q (F0 m pc ls (.int (nI a) :: rest)) := lv_if_ne hx hb d ht (fun h => k1 (Nat.pos_of_ne_zero (fun q => h (by rw [q, nI_0])))) (fun h => k2 (by first | exact (nI_eq ha (by omega)).mp (h.trans nI_0.symm) | exact (nI_eq ha (by omega)).mp ((Classical.not_not.mp h).trans nI_0.symm)))
end NROWS
/-! ===== a method's world and contract: from the cells ws to the cells ws', with the answer o; nothing is made ===== -/
def gI (D : va_G) (A : Nat → Prop) (H0 : Heap) (ws : va_W) (H : Heap) (locs : List Loc) : Prop := va_P D classes ws H ∧ va_D A ws ∧ va_S A H0 H locs
def gQ (D : va_G) (below : List Frame) (args : Array Value) (s : State) (A : Nat → Prop) (ws' : va_W) (o : Option Value) : State → Prop :=
  MQ below (fun _ st oc t => (oc = .returned o ∧ va_P D classes ws' t.heap ∧ va_D A ws') ∧ va_F A st t) args s 0 0 A
def gMet (l : Launch) (D : va_G) (tys : List (ClassId × FieldType)) (y : MethodName) (b : ByteArray) (n : Nat) (ret : Option FieldType) (rm : Room) (ws : va_W) (as : List Value) (ws' : va_W) (o : Option Value) : Prop :=
  ∀ sz : Nat, Met l y (.code y b n ret :: gw) rm (va_Pc as (fun U => U.heap.size = sz ∧ va_P D classes ws U.heap ∧ va_K D classes tys U ∧ va_D (fun _ => True) ws))
    (fun _ st oc t => (oc = .returned o ∧ va_P D classes ws' t.heap ∧ va_D (va_A ws sz) ws') ∧ va_F (va_A ws sz) st t) 0 0 (va_A ws sz)
/-- what holds all along a body -/
def gC (p : Program) (s : State) (m : MethodId) (meth : Method) (c : Code) (args : Array Value) (D : va_G) (tys : List (ClassId × FieldType)) (own : String) (b : ByteArray) (n : Nat) (ret : Option FieldType) : Prop :=
  p.tables.exec = Jvm.exec ∧ c.code = b ∧ meth.sig.returnType = ret ∧ meth.locks = false ∧ s.vm.findClass own = some m.cls ∧ c.maxLocals = n ∧ (∀ w ∈ gw, w.before args s = true) ∧ va_K D classes tys s
theorem gMet_of {l : Launch} {D : va_G} {tys : List (ClassId × FieldType)} {y : MethodName} {b : ByteArray} {n : Nat} {ret : Option FieldType} {rm : Room} {ws : va_W} {as : List Value} {ws' : va_W} {o : Option Value} (hy : plainName y.cls = true) (hn : (lg_sl as).length ≤ n)
    (body : ∀ (p : Program) (e : Env) (s : State) (m : MethodId) (below : List Frame) (meth : Method) (c : Code) (A : Nat → Prop) (ls : Array Slot), gC p s m meth c as.toArray D tys y.cls b n ret → (∀ q : Nat, s.heap.size ≤ q → A q) → gI D A s.heap ws s.heap [] → lv_has ls n (lv_args 0 as) →
      W p l e rm s m as.toArray below meth c s.heap [] 0 0 (gQ D below as.toArray s A ws' o) (F0 m 0 ls [])) : gMet l D tys y b n ret rm ws as ws' o := by
  intro sz
  refine Met.ofW (cc := b) (maxL := n) (ret := ret) hy rfl ?_
  intro p e s m args below meth c s₁ B hml hv
  obtain ⟨rfl, hsz, hP, hK, hD0⟩ := hv
  subst hsz
  have hts := atoms_spec (ws := .code y b n ret :: gw) B.pre
  have hl := lv_entry as (n := n) hn
  rw [lg_entry_eq]
  generalize (lg_sl as ++ List.replicate (n - (lg_sl as).length) Slot.unset).toArray = ls at hl ⊢
  exact body p e s m below meth c (va_A ws s.heap.size) ls ⟨B.exec, B.bytes, B.returns, B.notSynchronized, findClass_of_methodNamed B.named, hml, fun w h => hts w (List.mem_cons_of_mem _ h), hK⟩ (fun q h => Or.inr h) ⟨hP, hD0.self, va_S.rf⟩ hl
section GROWS
variable {p : Program} {l : Launch} {e : Env} {R : Room} {s : State} {m : MethodId} {args : Array Value} {below : List Frame} {meth : Method} {c : Code} {H : Heap} {locs : List Loc} {cells slots : Nat} {Q : State → Prop}
variable {cc : ByteArray} {pc : Nat} {ls : Array Slot} {rest : List Value} {D : va_G} {A : Nat → Prop} {tys : List (ClassId × FieldType)} {ws ws' : va_W} {H0 : Heap}
theorem g_free (hI : gI D A H0 ws H locs) (hA : ∀ q : Nat, H0.size ≤ q → A q) : ∀ q : Nat, va_A ws H.size q → A q := by
  intro q hq
  rcases hq with ⟨k, e, hk⟩ | hq
  · exact hI.2.1.2 k _ hk
  · exact hA q (Nat.le_trans hI.2.2.1 hq)
theorem g_ri {o : Option Value} {v : Int32} (hx : p.tables.exec = Jvm.exec) (hb : c.code = cc) (hr : meth.sig.returnType = some .int) (hlocks : meth.locks = false) (hI : gI D A s.heap ws' H locs) (ho : o = some (.int v)) (d : decode cc pc = .ok (.ireturn, 1)) : W p l e R s m args below meth c H locs 0 0 (gQ D below args s A ws' o) (F0 m pc ls [.int v]) := by
  subst ho
  exact W.iret hx hb hr (fun t ht hW => ⟨⟨rfl, by rw [ht]; exact hI.1, hI.2.1⟩, hI.2.2.F ht⟩) hI.2.2.2.2 d
theorem g_rz {o : Option Value} {v : Bool} (hx : p.tables.exec = Jvm.exec) (hb : c.code = cc) (hr : meth.sig.returnType = some .boolean) (hlocks : meth.locks = false) (hI : gI D A s.heap ws' H locs) (ho : o = some (.int (bI v))) (d : decode cc pc = .ok (.ireturn, 1)) : W p l e R s m args below meth c H locs 0 0 (gQ D below args s A ws' o) (F0 m pc ls [.int (bI v)]) := by
  subst ho
  exact W.zret hx hb hr (bI_n v) (fun t ht hW => ⟨⟨rfl, by rw [ht]; exact hI.1, hI.2.1⟩, hI.2.2.F ht⟩) hI.2.2.2.2 d
theorem g_rv {o : Option Value} (hx : p.tables.exec = Jvm.exec) (hb : c.code = cc) (hr : meth.sig.returnType = none) (hlocks : meth.locks = false) (hI : gI D A s.heap ws' H locs) (ho : o = none) (d : decode cc pc = .ok (.return_, 1)) : W p l e R s m args below meth c H locs 0 0 (gQ D below args s A ws' o) (F0 m pc ls []) := by
  subst ho
  exact W.vret hx hb hr (fun t ht hW => ⟨⟨rfl, by rw [ht]; exact hI.1, hI.2.1⟩, hI.2.2.F ht⟩) hI.2.2.2.2 d
theorem g_get {own C : String} {T : u_T} {N ci index a : Nat} {fs : List Value} {v : Value} (hx : p.tables.exec = Jvm.exec) (hb : c.code = cc) (hg : ∀ w ∈ gw, w.before args s = true) (hu : ∀ w ∈ u_ws C T N, w ∈ gw) (hown : s.vm.findClass own = some m.cls) (hK : va_K D classes tys s) (hI : gI D A H0 ws H locs) (q0 : Nat) (he : ws[q0]? = some (a, .inr (ci, fs))) (hc : classes[ci]? = some (C, T, N)) (k : Nat) (hk : k < N) (hl : Cond.fieldLink own index (T k).1 (T k).2.1 (T k).2.2.1 ∈ gw) (hv : fs[k]? = some v) (d : decode cc pc = .ok (.getfield index, 3))
    (kk : W p l e R s m args below meth c H locs cells slots Q (F0 m (pc + 3) ls (v :: rest))) : W p l e R s m args below meth c H locs cells slots Q (F0 m pc ls (.ref a :: rest)) :=
  va_get hx hb hg hu hown hK hI.1 q0 he hc k hk (hg _ hl) (fun _ h => h) hv d kk
theorem g_getN {own C host : String} {T : u_T} {N ci index a : Nat} {fs : List Value} {v : Value} (hx : p.tables.exec = Jvm.exec) (hb : c.code = cc) (hg : ∀ w ∈ gw, w.before args s = true) (hu : ∀ w ∈ u_ws C T N, w ∈ gw) (hown : s.vm.findClass own = some m.cls) (hK : va_K D classes tys s) (hI : gI D A H0 ws H locs) (q0 : Nat) (he : ws[q0]? = some (a, .inr (ci, fs))) (hc : classes[ci]? = some (C, T, N)) (k : Nat) (hk : k < N) (hl : Cond.fieldLinkNest own index (T k).1 (T k).2.1 (T k).2.2.1 host ∈ gw) (hv : fs[k]? = some v) (d : decode cc pc = .ok (.getfield index, 3))
    (kk : W p l e R s m args below meth c H locs cells slots Q (F0 m (pc + 3) ls (v :: rest))) : W p l e R s m args below meth c H locs cells slots Q (F0 m pc ls (.ref a :: rest)) :=
  va_getN hx hb hg hu hown hK hI.1 q0 he hc k hk (hg _ hl) (fun _ h => h) hv d kk
theorem g_put {own C : String} {T : u_T} {N ci index a : Nat} {fs : List Value} {v : Value} {ty : FieldType} (hx : p.tables.exec = Jvm.exec) (hb : c.code = cc) (hg : ∀ w ∈ gw, w.before args s = true) (hu : ∀ w ∈ u_ws C T N, w ∈ gw) (ty0 : Nat → FieldType) (hty : ∀ k, k < N → parseFieldDescriptor (T k).2.2.1 = some (ty0 k)) (hnm : ∀ a, a < N → ∀ b, b < N → a ≠ b → (T a).2.1 ≠ (T b).2.1) (hown : s.vm.findClass own = some m.cls) (hK : va_K D classes tys s) (hI : gI D A H0 ws H locs) (q0 : Nat) (he : ws[q0]? = some (a, .inr (ci, fs))) (hc : classes[ci]? = some (C, T, N)) (k : Nat) (hk : k < N) (hl : Cond.fieldLink own index (T k).1 (T k).2.1 (T k).2.2.1 ∈ gw) (hfin : (T k).2.2.2 = false) (hd : ty0 k = ty) (hn : narrow ty v = v) (hfit : fits ty v = true) (hlen : k < fs.length) (hw : ws.set q0 (a, .inr (ci, fs.set k v)) = ws') (d : decode cc pc = .ok (.putfield index, 3))
    (kk : ∀ (H : Heap) (locs : List Loc), gI D A H0 ws' H locs → W p l e R s m args below meth c H locs cells slots Q (F0 m (pc + 3) ls rest)) : W p l e R s m args below meth c H locs cells slots Q (F0 m pc ls (v :: .ref a :: rest)) := by
  subst hw
  exact va_put hx hb hg hu ty0 hty hnm hown hK hI.1 hI.2.1 hI.2.2 q0 he hc k hk (hg _ hl) (fun _ h => h) hfin (by rw [hty k hk, hd]) hn hfit hlen d (fun H1 l1 h1 h2 h3 => kk H1 l1 ⟨h1, h2, h3⟩)
end GROWS
end
section
section GCALLS
variable {p : Program} {l : Launch} {e : Env} {R : Room} {s : State} {m : MethodId} {args : Array Value} {below : List Frame} {meth : Method} {c : Code} {H : Heap} {locs : List Loc} {cells slots : Nat} {Q : State → Prop}
variable {cc : ByteArray} {pc : Nat} {ls : Array Slot} {rest : List Value} {D : va_G} {A : Nat → Prop} {tys : List (ClassId × FieldType)} {ws ws' : va_W} {H0 : Heap}
theorem g_ra {o : Option Value} {v : Value} {rn : String} (hx : p.tables.exec = Jvm.exec) (hb : c.code = cc) (hr : meth.sig.returnType = some (.object rn)) (hlocks : meth.locks = false) (hv : v = .null ∨ ∃ a, v = .ref a) (hI : gI D A s.heap ws' H locs) (ho : o = some v) (d : decode cc pc = .ok (.areturn, 1)) : W p l e R s m args below meth c H locs 0 0 (gQ D below args s A ws' o) (F0 m pc ls [v]) := by
  subst ho
  exact W.aret hx hb hr (Or.inl ⟨_, rfl⟩) hv (fun t ht hW => ⟨⟨rfl, by rw [ht]; exact hI.1, hI.2.1⟩, hI.2.2.F ht⟩) hI.2.2.2.2 d
theorem g_zald {cA : ClassId} {n a : Nat} {B : Nat → Bool} {i : Nat} (hx : p.tables.exec = Jvm.exec) (hb : c.code = cc) (hK : va_K D classes tys s) (hI : gI D A H0 ws H locs) (q0 t0 : Nat) (he : ws[q0]? = some (a, .inl (cA, n, .inl (fun k => bI (B k))))) (ht : tys[t0]? = some (cA, .boolean)) (hi : i < n) (hn : n < 2 ^ 31) (d : decode cc pc = .ok (.baload, 1))
    (kk : W p l e R s m args below meth c H locs cells slots Q (F0 m (pc + 1) ls (.int (bI (B i)) :: rest))) : W p l e R s m args below meth c H locs cells slots Q (F0 m pc ls (.int (nI i) :: .ref a :: rest)) :=
  va_zald hx hb hK hI.1 q0 t0 he ht (vp_in_nI hi hn) d (by rw [nI_clamp (Nat.lt_trans hi hn)]; exact kk)
theorem g_updZ {B : Nat → Bool} {i : Nat} {b : Bool} (h : i < 2 ^ 31) : upd (fun k => bI (B k)) (nI i).toNatClampNeg (vp_nar .boolean (bI b)) = fun k => bI (if k = i then b else B k) := by
  funext k
  rw [nI_clamp h]
  unfold upd
  have hv : vp_nar .boolean (bI b) = bI b := by cases b <;> decide
  rw [hv]
  split <;> rfl
theorem g_zast {cA : ClassId} {n a : Nat} {B : Nat → Bool} {i : Nat} {b : Bool} (hx : p.tables.exec = Jvm.exec) (hb : c.code = cc) (hK : va_K D classes tys s) (hI : gI D A H0 ws H locs) (q0 t0 : Nat) (he : ws[q0]? = some (a, .inl (cA, n, .inl (fun k => bI (B k))))) (ht : tys[t0]? = some (cA, .boolean)) (hi : i < n) (hn : n < 2 ^ 31) (hw : ws.set q0 (a, .inl (cA, n, .inl (fun k => bI (if k = i then b else B k)))) = ws') (d : decode cc pc = .ok (.bastore, 1))
    (kk : ∀ (H : Heap) (locs : List Loc), gI D A H0 ws' H locs → W p l e R s m args below meth c H locs cells slots Q (F0 m (pc + 1) ls rest)) : W p l e R s m args below meth c H locs cells slots Q (F0 m pc ls (.int (bI b) :: .int (nI i) :: .ref a :: rest)) := by
  subst hw
  refine va_zast hx hb hK hI.1 hI.2.1 hI.2.2 q0 t0 he ht (vp_in_nI hi hn) d (fun H1 l1 h1 h2 h3 => ?_)
  rw [g_updZ (Nat.lt_trans hi hn)] at h1 h2
  exact kk H1 l1 ⟨h1, h2, h3⟩
theorem g_iald {cA : ClassId} {n a : Nat} {F : Nat → Nat} {i : Nat} (hx : p.tables.exec = Jvm.exec) (hb : c.code = cc) (hK : va_K D classes tys s) (hI : gI D A H0 ws H locs) (q0 t0 : Nat) (he : ws[q0]? = some (a, .inl (cA, n, .inl (fun k => nI (F k))))) (ht : tys[t0]? = some (cA, .int)) (hi : i < n) (hn : n < 2 ^ 31) (d : decode cc pc = .ok (.iaload, 1))
    (kk : W p l e R s m args below meth c H locs cells slots Q (F0 m (pc + 1) ls (.int (nI (F i)) :: rest))) : W p l e R s m args below meth c H locs cells slots Q (F0 m pc ls (.int (nI i) :: .ref a :: rest)) :=
  va_iald hx hb hK hI.1 q0 t0 he ht (vp_in_nI hi hn) d (by rw [nI_clamp (Nat.lt_trans hi hn)]; exact kk)
theorem g_updI {F : Nat → Nat} {i v : Nat} (h : i < 2 ^ 31) : upd (fun k => nI (F k)) (nI i).toNatClampNeg (nI v) = fun k => nI (if k = i then v else F k) := by
  funext k
  rw [nI_clamp h]
  unfold upd
  split <;> rfl
theorem g_iast {cA : ClassId} {n a : Nat} {F : Nat → Nat} {i v : Nat} (hx : p.tables.exec = Jvm.exec) (hb : c.code = cc) (hK : va_K D classes tys s) (hI : gI D A H0 ws H locs) (q0 t0 : Nat) (he : ws[q0]? = some (a, .inl (cA, n, .inl (fun k => nI (F k))))) (ht : tys[t0]? = some (cA, .int)) (hi : i < n) (hn : n < 2 ^ 31) (hw : ws.set q0 (a, .inl (cA, n, .inl (fun k => nI (if k = i then v else F k)))) = ws') (d : decode cc pc = .ok (.iastore, 1))
    (kk : ∀ (H : Heap) (locs : List Loc), gI D A H0 ws' H locs → W p l e R s m args below meth c H locs cells slots Q (F0 m (pc + 1) ls rest)) : W p l e R s m args below meth c H locs cells slots Q (F0 m pc ls (.int (nI v) :: .int (nI i) :: .ref a :: rest)) := by
  subst hw
  refine va_iast hx hb hK hI.1 hI.2.1 hI.2.2 q0 t0 he ht (vp_in_nI hi hn) d (fun H1 l1 h1 h2 h3 => ?_)
  rw [g_updI (Nat.lt_trans hi hn)] at h1 h2
  exact kk H1 l1 ⟨h1, h2, h3⟩
theorem g_aldq {cA : ClassId} {C : String} {n a r : Nat} {f : Nat → Option Nat} {i : Nat} (hx : p.tables.exec = Jvm.exec) (hb : c.code = cc) (hK : va_K D classes tys s) (hI : gI D A H0 ws H locs) (q0 t0 : Nat) (he : ws[q0]? = some (a, .inl (cA, n, .inr (.inr (.inr (.inr f)))))) (ht : tys[t0]? = some (cA, .object C)) (hi : i < n) (hn : n < 2 ^ 31) (hf : f i = some r) (d : decode cc pc = .ok (.aaload, 1))
    (kk : W p l e R s m args below meth c H locs cells slots Q (F0 m (pc + 1) ls (.ref r :: rest))) : W p l e R s m args below meth c H locs cells slots Q (F0 m pc ls (.int (nI i) :: .ref a :: rest)) :=
  va_aldq hx hb hK hI.1 q0 t0 he ht (vp_in_nI hi hn) d (by rw [nI_clamp (Nat.lt_trans hi hn), hf]; exact kk)
theorem g_alen {cA : ClassId} {x : vp_A} {a : Nat} {ty : FieldType} (hx : p.tables.exec = Jvm.exec) (hb : c.code = cc) (hK : va_K D classes tys s) (hI : gI D A H0 ws H locs) (q0 t0 : Nat) (he : ws[q0]? = some (a, .inl (cA, x))) (ht : tys[t0]? = some (cA, ty)) (d : decode cc pc = .ok (.arraylength, 1))
    (kk : W p l e R s m args below meth c H locs cells slots Q (F0 m (pc + 1) ls (.int (nI x.1) :: rest))) : W p l e R s m args below meth c H locs cells slots Q (F0 m pc ls (.ref a :: rest)) :=
  va_alen hx hb hK hI.1 q0 t0 he ht rfl d kk
theorem g_blind {as : List Value} {sz : Nat} : FrameBlind (va_Pc as (fun U => U.heap.size = sz ∧ va_P D classes ws U.heap ∧ va_K D classes tys U ∧ va_D (fun _ => True) ws)) := fun a U g mk q => by
  obtain ⟨q0, q1, qP, qK, qD⟩ := q
  exact ⟨q0, q1, qP, va_K.moved (u := U) (U := U.calling g mk a) (Vm.Alike.refl U.vm) qK, qD⟩
/-- the callee's words of a call -/
theorem g_cb {own : String} {idx n k : Nat} {y : MethodName} {b : ByteArray} {ret : Option FieldType} {rm : Room} (hg : ∀ w ∈ gw, w.before args s = true) (w1 : Cond.methodLink own idx y ∈ gw) (w4 : Cond.initialized y.cls ∈ gw) (w5 : Cond.code y b n ret ∈ gw)
    (hd : y.cls ≠ "java/lang/invoke/MethodHandle" ∧ y.cls ≠ "java/lang/invoke/VarHandle" ∧ (parseMethodDescriptor y.desc).map (fun d => d.parameters.length) = some k) (hR : rm.frames + 1 ≤ R.frames ∧ 8 + (n + 11) + rm.locals ≤ R.locals) {mc ms : Nat} (hrc : rm.cells = mc) (hrs : rm.slots = ms) : CallB R s args own idx y b n ret (.code y b n ret :: gw) rm mc ms k := by
  refine ⟨hrc, hrs, hR.1, hR.2, ?_, List.mem_cons_self, hg _ w5, hg _ w4, ⟨hd.1, hd.2.1⟩, fun sig h => ?_, hg _ w1⟩
  · intro w hw a' U hW
    rcases List.mem_cons.mp hw with h | h
    · rw [h]; exact gw_move hg hW _ w5
    · exact gw_move hg hW _ h
  · have h2 := hd.2.2
    rw [h] at h2
    exact (Option.some.inj h2).symm
theorem g_callV {own C : String} {T : u_T} {N idx n k a q0 ci nL : Nat} {fs : List Value} {y : MethodName} {b : ByteArray} {ret : Option FieldType} {rm : Room} {As : List Value} {o : Option Value} (hM : gMet l D tys y b n ret rm ws (.ref a :: As) ws' o)
    (hx : p.tables.exec = Jvm.exec) (hb : c.code = cc) (hml : c.maxLocals = nL) (hown : s.vm.findClass own = some m.cls) (hg : ∀ w ∈ gw, w.before args s = true) (hK : va_K D classes tys s) (hI : gI D A H0 ws H locs) (hA : ∀ q : Nat, H0.size ≤ q → A q)
    (w1 : Cond.methodLink own idx y ∈ gw) (w2 : Cond.instanceMethod y ∈ gw) (w3 : Cond.selects C y y ∈ gw) (w4 : Cond.initialized y.cls ∈ gw) (w5 : Cond.code y b n ret ∈ gw)
    (hd : y.cls ≠ "java/lang/invoke/MethodHandle" ∧ y.cls ≠ "java/lang/invoke/VarHandle" ∧ (parseMethodDescriptor y.desc).map (fun d => d.parameters.length) = some k) (hR : rm.frames + 1 ≤ R.frames ∧ 8 + (n + 11) + rm.locals ≤ R.locals) (hrc : rm.cells = 0) (hrs : rm.slots = 0)
    (he : ws[q0]? = some (a, .inr (ci, fs))) (hc : classes[ci]? = some (C, T, N)) (hn : As.length = k) (hls : ls.size = nL) (hst : (rest.map fun v => v.category).sum ≤ 8) (hcs : cells ≤ R.cells ∧ slots ≤ R.slots) (d : decode cc pc = .ok (.invokevirtual idx, 3))
    {st0 st1 : List Value} (hst0 : st0 = As.reverse ++ .ref a :: rest) (hst1 : o.toList ++ rest = st1)
    (kk : ∀ (H : Heap) (locs : List Loc), gI D A H0 ws' H locs → W p l e R s m args below meth c H locs cells slots Q (F0 m (pc + 3) ls st1)) : W p l e R s m args below meth c H locs cells slots Q (F0 m pc ls st0) := by
  subst hst0; subst hst1
  intro T9 hT X
  have hF := g_free hI hA
  have hr := va_runV (g := F0 m pc ls (As.reverse ++ .ref a :: rest)) (As := As) (rest := rest) (b := a) (C := C) (locs := locs) (cells := cells) (slots := slots) (meth := meth) (below := below) (e := e) (nL := nL) ⟨hx, hb, hml, hown, hg⟩ (hM H.size) ⟨g_cb hg w1 w4 w5 hd hR hrc hrs, hg _ w2, hg _ w3⟩ ⟨g_blind, va_recv hK hI.1 hc he, fun U hU hW => ⟨rfl, by rw [hU], by rw [hU]; exact hI.1, va_K.moved hW.alike hK, hI.2.1.weaken (fun _ _ _ _ => trivial)⟩⟩ rfl hn hls rfl (lv_room hst) d ⟨hcs.1, hcs.2⟩
  obtain ⟨v, st₀, t, T', L, h0, X', hL, e1, e2, ⟨⟨hv, hP', hD'⟩, hz, hk⟩, st⟩ := hr T9 hT X
  cases hv
  rw [h0] at hz hk
  have hS := hI.2.2
  obtain ⟨t2, a1, b1⟩ := kk T'.heap (locs ++ L) ⟨by rw [e1]; exact hP', hD'.weaken (fun _ _ _ h => hF _ h), Nat.le_trans hS.1 (by rw [e1]; exact hz), fun q h1 h2 => by rw [e1, hk q (Nat.lt_of_lt_of_le h1 hS.1) (fun z => h2 (hF q z))]; exact hS.2.1 q h1 h2, fun q hq => by
      rcases List.mem_append.mp hq with h | h
      · exact hS.2.2 q h
      · exact hF _ (hL q h)⟩ T' rfl X'
  exact ⟨t2, st t2 a1, b1⟩
theorem g_callS {own : String} {idx n k nL : Nat} {y : MethodName} {b : ByteArray} {ret : Option FieldType} {rm : Room} {As : List Value} {o : Option Value} (hM : gMet l D tys y b n ret rm ws As ws' o)
    (hx : p.tables.exec = Jvm.exec) (hb : c.code = cc) (hml : c.maxLocals = nL) (hown : s.vm.findClass own = some m.cls) (hg : ∀ w ∈ gw, w.before args s = true) (hK : va_K D classes tys s) (hI : gI D A H0 ws H locs) (hA : ∀ q : Nat, H0.size ≤ q → A q)
    (w1 : Cond.methodLink own idx y ∈ gw) (w2 : Cond.static y ∈ gw) (w4 : Cond.initialized y.cls ∈ gw) (w5 : Cond.code y b n ret ∈ gw)
    (hd : y.cls ≠ "java/lang/invoke/MethodHandle" ∧ y.cls ≠ "java/lang/invoke/VarHandle" ∧ (parseMethodDescriptor y.desc).map (fun d => d.parameters.length) = some k) (hR : rm.frames + 1 ≤ R.frames ∧ 8 + (n + 11) + rm.locals ≤ R.locals) (hrc : rm.cells = 0) (hrs : rm.slots = 0)
    (hn : As.length = k) (hls : ls.size = nL) (hst : (rest.map fun v => v.category).sum ≤ 8) (hcs : cells ≤ R.cells ∧ slots ≤ R.slots) (d : decode cc pc = .ok (.invokestatic idx, 3))
    {st0 st1 : List Value} (hst0 : st0 = As.reverse ++ rest) (hst1 : o.toList ++ rest = st1)
    (kk : ∀ (H : Heap) (locs : List Loc), gI D A H0 ws' H locs → W p l e R s m args below meth c H locs cells slots Q (F0 m (pc + 3) ls st1)) : W p l e R s m args below meth c H locs cells slots Q (F0 m pc ls st0) := by
  subst hst0; subst hst1
  intro T9 hT X
  have hF := g_free hI hA
  have hr := va_runS (g := F0 m pc ls (As.reverse ++ rest)) (As := As) (rest := rest) (locs := locs) (cells := cells) (slots := slots) (meth := meth) (below := below) (e := e) (nL := nL) ⟨hx, hb, hml, hown, hg⟩ (hM H.size) ⟨g_cb hg w1 w4 w5 hd hR hrc hrs, hg _ w2⟩ ⟨g_blind, fun U hU hW => ⟨rfl, by rw [hU], by rw [hU]; exact hI.1, va_K.moved hW.alike hK, hI.2.1.weaken (fun _ _ _ _ => trivial)⟩⟩ rfl hn hls rfl (lv_room hst) d ⟨hcs.1, hcs.2⟩
  obtain ⟨v, st₀, t, T', L, h0, X', hL, e1, e2, ⟨⟨hv, hP', hD'⟩, hz, hk⟩, st⟩ := hr T9 hT X
  cases hv
  rw [h0] at hz hk
  have hS := hI.2.2
  obtain ⟨t2, a1, b1⟩ := kk T'.heap (locs ++ L) ⟨by rw [e1]; exact hP', hD'.weaken (fun _ _ _ h => hF _ h), Nat.le_trans hS.1 (by rw [e1]; exact hz), fun q h1 h2 => by rw [e1, hk q (Nat.lt_of_lt_of_le h1 hS.1) (fun z => h2 (hF q z))]; exact hS.2.1 q h1 h2, fun q hq => by
      rcases List.mem_append.mp hq with h | h
      · exact hS.2.2 q h
      · exact hF _ (hL q h)⟩ T' rfl X'
  exact ⟨t2, st t2 a1, b1⟩
end GCALLS
section GMATH
variable {p : Program} {l : Launch} {e : Env} {R : Room} {s : State} {m : MethodId} {args : Array Value} {below : List Frame} {meth : Method} {c : Code} {H : Heap} {locs : List Loc} {cells slots : Nat} {Q : State → Prop}
variable {cc : ByteArray} {pc : Nat} {ls : Array Slot} {rest : List Value}
theorem r_max {own : String} {index nL a b : Nat} (hx : p.tables.exec = Jvm.exec) (hb : c.code = cc) (hml : c.maxLocals = nL) (hls : ls.size = nL) (hown : s.vm.findClass own = some m.cls) (hg : ∀ w ∈ gw, w.before args s = true) (w1 : Cond.methodLink own index Lib.Math.max.name ∈ gw) (w2 : Cond.static Lib.Math.max.name ∈ gw) (w3 : Cond.initialized "java/lang/Math" ∈ gw) (w4 : Cond.code Lib.Math.max.name Lib.Math.max.code 2 (some .int) ∈ gw) (h1 : 1 ≤ R.frames) (h2 : (rest.map fun v => v.category).sum + 13 ≤ R.locals) (h3 : cells ≤ R.cells) (h4 : slots ≤ R.slots) (ha : a < 2 ^ 31) (hb2 : b < 2 ^ 31) (d : decode cc pc = .ok (.invokestatic index, 3))
    (kk : W p l e R s m args below meth c H locs cells slots Q (F0 m (pc + 3) ls (.int (nI (Nat.max a b)) :: rest))) : W p l e R s m args below meth c H locs cells slots Q (F0 m pc ls (.int (nI b) :: .int (nI a) :: rest)) := by
  refine va_mmax hx hb (hml.trans hls.symm) hown (hg _ w1) (hg _ w2) (hg _ w3) (hg _ w4) h1 h2 h3 h4 d ?_
  have : (if nI a < nI b then nI b else nI a) = nI (Nat.max a b) := by
    by_cases h : a < b
    · rw [if_pos ((nI_ltI ha hb2).mpr h), show Nat.max a b = b from Nat.max_eq_right (Nat.le_of_lt h)]
    · rw [if_neg (fun q => h ((nI_ltI ha hb2).mp q)), show Nat.max a b = a from Nat.max_eq_left (Nat.le_of_not_lt h)]
  rw [this]
  exact kk
theorem r_min {own : String} {index nL a b : Nat} (hx : p.tables.exec = Jvm.exec) (hb : c.code = cc) (hml : c.maxLocals = nL) (hls : ls.size = nL) (hown : s.vm.findClass own = some m.cls) (hg : ∀ w ∈ gw, w.before args s = true) (w1 : Cond.methodLink own index Lib.Math.min.name ∈ gw) (w2 : Cond.static Lib.Math.min.name ∈ gw) (w3 : Cond.initialized "java/lang/Math" ∈ gw) (w4 : Cond.code Lib.Math.min.name Lib.Math.min.code 2 (some .int) ∈ gw) (h1 : 1 ≤ R.frames) (h2 : (rest.map fun v => v.category).sum + 13 ≤ R.locals) (h3 : cells ≤ R.cells) (h4 : slots ≤ R.slots) (ha : a < 2 ^ 31) (hb2 : b < 2 ^ 31) (d : decode cc pc = .ok (.invokestatic index, 3))
    (kk : W p l e R s m args below meth c H locs cells slots Q (F0 m (pc + 3) ls (.int (nI (Nat.min a b)) :: rest))) : W p l e R s m args below meth c H locs cells slots Q (F0 m pc ls (.int (nI b) :: .int (nI a) :: rest)) := by
  refine va_mmin hx hb (hml.trans hls.symm) hown (hg _ w1) (hg _ w2) (hg _ w3) (hg _ w4) h1 h2 h3 h4 d ?_
  have : (if nI b < nI a then nI b else nI a) = nI (Nat.min a b) := by
    by_cases h : b < a
    · rw [if_pos ((nI_ltI hb2 ha).mpr h), show Nat.min a b = b from Nat.min_eq_right (Nat.le_of_lt h)]
    · rw [if_neg (fun q => h ((nI_ltI hb2 ha).mp q)), show Nat.min a b = a from Nat.min_eq_left (Nat.le_of_not_lt h)]
  rw [this]
  exact kk
end GMATH
end
section
/-! ===== the class's state: how many groups, reserved, lately taken, block 1 told; folders of a group; of a bitmap (2 g: blocks of group g, 2 g + 1: its files) size, free, told, bits ===== -/
abbrev gS : Type := Nat × Nat × Nat × Bool × (Nat → Nat) × (Nat → Nat) × (Nat → Nat) × (Nat → Bool) × (Nat → Nat → Bool)
def sCnt (σ : gS) : Nat := σ.1
def sRsv (σ : gS) : Nat := σ.2.1
def sLat (σ : gS) : Nat := σ.2.2.1
def sTT (σ : gS) : Bool := σ.2.2.2.1
def sFd (σ : gS) : Nat → Nat := σ.2.2.2.2.1
def sSz (σ : gS) : Nat → Nat := σ.2.2.2.2.2.1
def sFr (σ : gS) : Nat → Nat := σ.2.2.2.2.2.2.1
def sTd (σ : gS) : Nat → Bool := σ.2.2.2.2.2.2.2.1
def sBt (σ : gS) : Nat → Nat → Bool := σ.2.2.2.2.2.2.2.2
def uCnt (σ : gS) (v : Nat) : gS := (v, sRsv σ, sLat σ, sTT σ, sFd σ, sSz σ, sFr σ, sTd σ, sBt σ)
def uRsv (σ : gS) (v : Nat) : gS := (sCnt σ, v, sLat σ, sTT σ, sFd σ, sSz σ, sFr σ, sTd σ, sBt σ)
def uLat (σ : gS) (v : Nat) : gS := (sCnt σ, sRsv σ, v, sTT σ, sFd σ, sSz σ, sFr σ, sTd σ, sBt σ)
def uTT (σ : gS) (v : Bool) : gS := (sCnt σ, sRsv σ, sLat σ, v, sFd σ, sSz σ, sFr σ, sTd σ, sBt σ)
def uFd (σ : gS) (g v : Nat) : gS := (sCnt σ, sRsv σ, sLat σ, sTT σ, va_up (sFd σ) g v, sSz σ, sFr σ, sTd σ, sBt σ)
def uSz (σ : gS) (j v : Nat) : gS := (sCnt σ, sRsv σ, sLat σ, sTT σ, sFd σ, va_up (sSz σ) j v, sFr σ, sTd σ, sBt σ)
def uFr (σ : gS) (j v : Nat) : gS := (sCnt σ, sRsv σ, sLat σ, sTT σ, sFd σ, sSz σ, va_up (sFr σ) j v, sTd σ, sBt σ)
def uTd (σ : gS) (j : Nat) (v : Bool) : gS := (sCnt σ, sRsv σ, sLat σ, sTT σ, sFd σ, sSz σ, sFr σ, va_up (sTd σ) j v, sBt σ)
def uBt (σ : gS) (j : Nat) (f : Nat → Bool) : gS := (sCnt σ, sRsv σ, sLat σ, sTT σ, sFd σ, sSz σ, sFr σ, sTd σ, va_up (sBt σ) j f)
def gHd (g : Nat) : Nat := if g = 2 then 0 else 2
def gLen (j : Nat) : Nat := if j % 2 = 0 then 256 else 128
def gPl (j : Nat) : Nat := 256 * (j / 2) + gHd (j / 2) + j % 2
abbrev cGB (ad : Nat → Nat) (σ : gS) : Nat × va_E := (ad 0, .inr (0, [.ref (ad 1), .int (nI (sCnt σ)), .int (nI (sRsv σ)), .int (nI (sLat σ)), .int (bI (sTT σ))]))
abbrev cGA (ad : Nat → Nat) (cG : ClassId) : Nat × va_E := (ad 1, .inl (cG, 4, .inr (.inr (.inr (.inr (fun k => some (ad (2 + k))))))))
abbrev cGR (ad : Nat → Nat) (σ : gS) (g : Nat) : Nat × va_E := (ad (2 + g), .inr (1, [.int (nI (256 * g)), .int (nI (gHd g + 10)), .int (nI (256 * g + gHd g + 2)), .ref (ad (6 + 2 * g)), .ref (ad (6 + (2 * g + 1))), .int (nI (sFd σ g))]))
abbrev cBM (ad : Nat → Nat) (σ : gS) (j : Nat) : Nat × va_E := (ad (6 + j), .inr (2, [.int (nI (gPl j)), .ref (ad (14 + j)), .int (nI (sSz σ j)), .int (nI (sFr σ j)), .int (bI (sTd σ j))]))
abbrev cBA (ad : Nat → Nat) (cZ : ClassId) (σ : gS) (j : Nat) : Nat × va_E := (ad (14 + j), .inl (cZ, gLen j, .inl (fun k => bI (sBt σ j k))))
def wd (ad : Nat → Nat) (cG cZ : ClassId) (σ : gS) : va_W := [cGB ad σ, cGA ad cG, cGR ad σ 0, cGR ad σ 1, cGR ad σ 2, cGR ad σ 3, cBM ad σ 0, cBM ad σ 1, cBM ad σ 2, cBM ad σ 3, cBM ad σ 4, cBM ad σ 5, cBM ad σ 6, cBM ad σ 7, cBA ad cZ σ 0, cBA ad cZ σ 1, cBA ad cZ σ 2, cBA ad cZ σ 3, cBA ad cZ σ 4, cBA ad cZ σ 5, cBA ad cZ σ 6, cBA ad cZ σ 7]
abbrev gT (cG cZ cI cJ : ClassId) : List (ClassId × FieldType) := [(cG, .object "GroupBitmaps$Group"), (cZ, .boolean), (cI, .int), (cJ, .long)]
theorem lt4 {g : Nat} (h : g < 4) : g = 0 ∨ g = 1 ∨ g = 2 ∨ g = 3 := by omega
theorem lt8 {g : Nat} (h : g < 8) : g = 0 ∨ g = 1 ∨ g = 2 ∨ g = 3 ∨ g = 4 ∨ g = 5 ∨ g = 6 ∨ g = 7 := by omega
theorem gHd_le (g : Nat) : gHd g ≤ 2 := by unfold gHd; split <;> omega
theorem gLen_le (j : Nat) : gLen j ≤ 256 := by unfold gLen; split <;> omega
theorem gLen_lt (j : Nat) : gLen j < 2 ^ 31 := by unfold gLen; split <;> omega
theorem gPl_lt {j : Nat} (h : j < 8) : gPl j < 1024 := by have := gHd_le (j / 2); unfold gPl; omega
section WD
variable {ad : Nat → Nat} {cG cZ : ClassId} {σ : gS}
theorem wd_GB : (wd ad cG cZ σ)[0]? = some (cGB ad σ) := rfl
theorem wd_GA : (wd ad cG cZ σ)[1]? = some (cGA ad cG) := rfl
theorem wd_GR {g : Nat} (h : g < 4) : (wd ad cG cZ σ)[2 + g]? = some (cGR ad σ g) := by rcases lt4 h with rfl | rfl | rfl | rfl <;> rfl
theorem wd_BM {j : Nat} (h : j < 8) : (wd ad cG cZ σ)[6 + j]? = some (cBM ad σ j) := by rcases lt8 h with rfl | rfl | rfl | rfl | rfl | rfl | rfl | rfl <;> rfl
theorem wd_BA {j : Nat} (h : j < 8) : (wd ad cG cZ σ)[14 + j]? = some (cBA ad cZ σ j) := by rcases lt8 h with rfl | rfl | rfl | rfl | rfl | rfl | rfl | rfl <;> rfl
theorem wd_uCnt {v : Nat} : (wd ad cG cZ σ).set 0 (ad 0, .inr (0, [.ref (ad 1), .int (nI v), .int (nI (sRsv σ)), .int (nI (sLat σ)), .int (bI (sTT σ))])) = wd ad cG cZ (uCnt σ v) := rfl
theorem wd_uRsv {v : Nat} : (wd ad cG cZ σ).set 0 (ad 0, .inr (0, [.ref (ad 1), .int (nI (sCnt σ)), .int (nI v), .int (nI (sLat σ)), .int (bI (sTT σ))])) = wd ad cG cZ (uRsv σ v) := rfl
theorem wd_uLat {v : Nat} : (wd ad cG cZ σ).set 0 (ad 0, .inr (0, [.ref (ad 1), .int (nI (sCnt σ)), .int (nI (sRsv σ)), .int (nI v), .int (bI (sTT σ))])) = wd ad cG cZ (uLat σ v) := rfl
theorem wd_uTT {v : Bool} : (wd ad cG cZ σ).set 0 (ad 0, .inr (0, [.ref (ad 1), .int (nI (sCnt σ)), .int (nI (sRsv σ)), .int (nI (sLat σ)), .int (bI v)])) = wd ad cG cZ (uTT σ v) := rfl
theorem wd_uFd {g v : Nat} (h : g < 4) : (wd ad cG cZ σ).set (2 + g) (ad (2 + g), .inr (1, [.int (nI (256 * g)), .int (nI (gHd g + 10)), .int (nI (256 * g + gHd g + 2)), .ref (ad (6 + 2 * g)), .ref (ad (6 + (2 * g + 1))), .int (nI v)])) = wd ad cG cZ (uFd σ g v) := by rcases lt4 h with rfl | rfl | rfl | rfl <;> rfl
theorem wd_uSz {j v : Nat} (h : j < 8) : (wd ad cG cZ σ).set (6 + j) (ad (6 + j), .inr (2, [.int (nI (gPl j)), .ref (ad (14 + j)), .int (nI v), .int (nI (sFr σ j)), .int (bI (sTd σ j))])) = wd ad cG cZ (uSz σ j v) := by rcases lt8 h with rfl | rfl | rfl | rfl | rfl | rfl | rfl | rfl <;> rfl
theorem wd_uFr {j v : Nat} (h : j < 8) : (wd ad cG cZ σ).set (6 + j) (ad (6 + j), .inr (2, [.int (nI (gPl j)), .ref (ad (14 + j)), .int (nI (sSz σ j)), .int (nI v), .int (bI (sTd σ j))])) = wd ad cG cZ (uFr σ j v) := by rcases lt8 h with rfl | rfl | rfl | rfl | rfl | rfl | rfl | rfl <;> rfl
theorem wd_uTd {j : Nat} {v : Bool} (h : j < 8) : (wd ad cG cZ σ).set (6 + j) (ad (6 + j), .inr (2, [.int (nI (gPl j)), .ref (ad (14 + j)), .int (nI (sSz σ j)), .int (nI (sFr σ j)), .int (bI v)])) = wd ad cG cZ (uTd σ j v) := by rcases lt8 h with rfl | rfl | rfl | rfl | rfl | rfl | rfl | rfl <;> rfl
theorem wd_uBt {j : Nat} {f : Nat → Bool} (h : j < 8) : (wd ad cG cZ σ).set (14 + j) (ad (14 + j), .inl (cZ, gLen j, .inl (fun k => bI (f k)))) = wd ad cG cZ (uBt σ j f) := by rcases lt8 h with rfl | rfl | rfl | rfl | rfl | rfl | rfl | rfl <;> rfl
end WD
end
section
theorem ky_GB_init : y_GB_init.cls ≠ "java/lang/invoke/MethodHandle" ∧ y_GB_init.cls ≠ "java/lang/invoke/VarHandle" ∧ (parseMethodDescriptor y_GB_init.desc).map (fun d => d.parameters.length) = some 0 := by decide +kernel
theorem ky_GB_lay : y_GB_lay.cls ≠ "java/lang/invoke/MethodHandle" ∧ y_GB_lay.cls ≠ "java/lang/invoke/VarHandle" ∧ (parseMethodDescriptor y_GB_lay.desc).map (fun d => d.parameters.length) = some 2 := by decide +kernel
theorem ky_GB_reserve : y_GB_reserve.cls ≠ "java/lang/invoke/MethodHandle" ∧ y_GB_reserve.cls ≠ "java/lang/invoke/VarHandle" ∧ (parseMethodDescriptor y_GB_reserve.desc).map (fun d => d.parameters.length) = some 1 := by decide +kernel
theorem ky_GB_take : y_GB_take.cls ≠ "java/lang/invoke/MethodHandle" ∧ y_GB_take.cls ≠ "java/lang/invoke/VarHandle" ∧ (parseMethodDescriptor y_GB_take.desc).map (fun d => d.parameters.length) = some 3 := by decide +kernel
theorem ky_GB_taken : y_GB_taken.cls ≠ "java/lang/invoke/MethodHandle" ∧ y_GB_taken.cls ≠ "java/lang/invoke/VarHandle" ∧ (parseMethodDescriptor y_GB_taken.desc).map (fun d => d.parameters.length) = some 0 := by decide +kernel
theorem ky_GB_give : y_GB_give.cls ≠ "java/lang/invoke/MethodHandle" ∧ y_GB_give.cls ≠ "java/lang/invoke/VarHandle" ∧ (parseMethodDescriptor y_GB_give.desc).map (fun d => d.parameters.length) = some 2 := by decide +kernel
theorem ky_GB_takeFile : y_GB_takeFile.cls ≠ "java/lang/invoke/MethodHandle" ∧ y_GB_takeFile.cls ≠ "java/lang/invoke/VarHandle" ∧ (parseMethodDescriptor y_GB_takeFile.desc).map (fun d => d.parameters.length) = some 2 := by decide +kernel
theorem ky_GB_giveFile : y_GB_giveFile.cls ≠ "java/lang/invoke/MethodHandle" ∧ y_GB_giveFile.cls ≠ "java/lang/invoke/VarHandle" ∧ (parseMethodDescriptor y_GB_giveFile.desc).map (fun d => d.parameters.length) = some 2 := by decide +kernel
theorem ky_GB_isTaken : y_GB_isTaken.cls ≠ "java/lang/invoke/MethodHandle" ∧ y_GB_isTaken.cls ≠ "java/lang/invoke/VarHandle" ∧ (parseMethodDescriptor y_GB_isTaken.desc).map (fun d => d.parameters.length) = some 2 := by decide +kernel
theorem ky_GB_group : y_GB_group.cls ≠ "java/lang/invoke/MethodHandle" ∧ y_GB_group.cls ≠ "java/lang/invoke/VarHandle" ∧ (parseMethodDescriptor y_GB_group.desc).map (fun d => d.parameters.length) = some 2 := by decide +kernel
theorem ky_GB_byteOf : y_GB_byteOf.cls ≠ "java/lang/invoke/MethodHandle" ∧ y_GB_byteOf.cls ≠ "java/lang/invoke/VarHandle" ∧ (parseMethodDescriptor y_GB_byteOf.desc).map (fun d => d.parameters.length) = some 2 := by decide +kernel
theorem ky_GB_isTold : y_GB_isTold.cls ≠ "java/lang/invoke/MethodHandle" ∧ y_GB_isTold.cls ≠ "java/lang/invoke/VarHandle" ∧ (parseMethodDescriptor y_GB_isTold.desc).map (fun d => d.parameters.length) = some 1 := by decide +kernel
theorem ky_GB_settle : y_GB_settle.cls ≠ "java/lang/invoke/MethodHandle" ∧ y_GB_settle.cls ≠ "java/lang/invoke/VarHandle" ∧ (parseMethodDescriptor y_GB_settle.desc).map (fun d => d.parameters.length) = some 0 := by decide +kernel
theorem ky_GB_layOut : y_GB_layOut.cls ≠ "java/lang/invoke/MethodHandle" ∧ y_GB_layOut.cls ≠ "java/lang/invoke/VarHandle" ∧ (parseMethodDescriptor y_GB_layOut.desc).map (fun d => d.parameters.length) = some 2 := by decide +kernel
theorem ky_GB_allBlocks : y_GB_allBlocks.cls ≠ "java/lang/invoke/MethodHandle" ∧ y_GB_allBlocks.cls ≠ "java/lang/invoke/VarHandle" ∧ (parseMethodDescriptor y_GB_allBlocks.desc).map (fun d => d.parameters.length) = some 0 := by decide +kernel
theorem ky_GB_hasBlock : y_GB_hasBlock.cls ≠ "java/lang/invoke/MethodHandle" ∧ y_GB_hasBlock.cls ≠ "java/lang/invoke/VarHandle" ∧ (parseMethodDescriptor y_GB_hasBlock.desc).map (fun d => d.parameters.length) = some 1 := by decide +kernel
theorem ky_GB_hasFile : y_GB_hasFile.cls ≠ "java/lang/invoke/MethodHandle" ∧ y_GB_hasFile.cls ≠ "java/lang/invoke/VarHandle" ∧ (parseMethodDescriptor y_GB_hasFile.desc).map (fun d => d.parameters.length) = some 1 := by decide +kernel
theorem ky_GB_groupOfBlock : y_GB_groupOfBlock.cls ≠ "java/lang/invoke/MethodHandle" ∧ y_GB_groupOfBlock.cls ≠ "java/lang/invoke/VarHandle" ∧ (parseMethodDescriptor y_GB_groupOfBlock.desc).map (fun d => d.parameters.length) = some 1 := by decide +kernel
theorem ky_GB_groupOfFile : y_GB_groupOfFile.cls ≠ "java/lang/invoke/MethodHandle" ∧ y_GB_groupOfFile.cls ≠ "java/lang/invoke/VarHandle" ∧ (parseMethodDescriptor y_GB_groupOfFile.desc).map (fun d => d.parameters.length) = some 1 := by decide +kernel
theorem ky_GB_groupBehind : y_GB_groupBehind.cls ≠ "java/lang/invoke/MethodHandle" ∧ y_GB_groupBehind.cls ≠ "java/lang/invoke/VarHandle" ∧ (parseMethodDescriptor y_GB_groupBehind.desc).map (fun d => d.parameters.length) = some 2 := by decide +kernel
theorem ky_GB_freeBlocks : y_GB_freeBlocks.cls ≠ "java/lang/invoke/MethodHandle" ∧ y_GB_freeBlocks.cls ≠ "java/lang/invoke/VarHandle" ∧ (parseMethodDescriptor y_GB_freeBlocks.desc).map (fun d => d.parameters.length) = some 0 := by decide +kernel
theorem ky_GB_freeFiles : y_GB_freeFiles.cls ≠ "java/lang/invoke/MethodHandle" ∧ y_GB_freeFiles.cls ≠ "java/lang/invoke/VarHandle" ∧ (parseMethodDescriptor y_GB_freeFiles.desc).map (fun d => d.parameters.length) = some 0 := by decide +kernel
theorem ky_GB_takeable : y_GB_takeable.cls ≠ "java/lang/invoke/MethodHandle" ∧ y_GB_takeable.cls ≠ "java/lang/invoke/VarHandle" ∧ (parseMethodDescriptor y_GB_takeable.desc).map (fun d => d.parameters.length) = some 1 := by decide +kernel
theorem ky_GB_takeNear : y_GB_takeNear.cls ≠ "java/lang/invoke/MethodHandle" ∧ y_GB_takeNear.cls ≠ "java/lang/invoke/VarHandle" ∧ (parseMethodDescriptor y_GB_takeNear.desc).map (fun d => d.parameters.length) = some 2 := by decide +kernel
theorem ky_GB_takeLongestRun : y_GB_takeLongestRun.cls ≠ "java/lang/invoke/MethodHandle" ∧ y_GB_takeLongestRun.cls ≠ "java/lang/invoke/VarHandle" ∧ (parseMethodDescriptor y_GB_takeLongestRun.desc).map (fun d => d.parameters.length) = some 1 := by decide +kernel
theorem ky_GB_takeRun : y_GB_takeRun.cls ≠ "java/lang/invoke/MethodHandle" ∧ y_GB_takeRun.cls ≠ "java/lang/invoke/VarHandle" ∧ (parseMethodDescriptor y_GB_takeRun.desc).map (fun d => d.parameters.length) = some 3 := by decide +kernel
theorem ky_GB_areGivable : y_GB_areGivable.cls ≠ "java/lang/invoke/MethodHandle" ∧ y_GB_areGivable.cls ≠ "java/lang/invoke/VarHandle" ∧ (parseMethodDescriptor y_GB_areGivable.desc).map (fun d => d.parameters.length) = some 2 := by decide +kernel
theorem ky_GB_groupForPlain : y_GB_groupForPlain.cls ≠ "java/lang/invoke/MethodHandle" ∧ y_GB_groupForPlain.cls ≠ "java/lang/invoke/VarHandle" ∧ (parseMethodDescriptor y_GB_groupForPlain.desc).map (fun d => d.parameters.length) = some 1 := by decide +kernel
theorem ky_GB_groupForFolder : y_GB_groupForFolder.cls ≠ "java/lang/invoke/MethodHandle" ∧ y_GB_groupForFolder.cls ≠ "java/lang/invoke/VarHandle" ∧ (parseMethodDescriptor y_GB_groupForFolder.desc).map (fun d => d.parameters.length) = some 1 := by decide +kernel
theorem ky_GB_leastFolders : y_GB_leastFolders.cls ≠ "java/lang/invoke/MethodHandle" ∧ y_GB_leastFolders.cls ≠ "java/lang/invoke/VarHandle" ∧ (parseMethodDescriptor y_GB_leastFolders.desc).map (fun d => d.parameters.length) = some 1 := by decide +kernel
theorem ky_GB_firstWithRoom : y_GB_firstWithRoom.cls ≠ "java/lang/invoke/MethodHandle" ∧ y_GB_firstWithRoom.cls ≠ "java/lang/invoke/VarHandle" ∧ (parseMethodDescriptor y_GB_firstWithRoom.desc).map (fun d => d.parameters.length) = some 1 := by decide +kernel
theorem ky_GB_firstWithFile : y_GB_firstWithFile.cls ≠ "java/lang/invoke/MethodHandle" ∧ y_GB_firstWithFile.cls ≠ "java/lang/invoke/VarHandle" ∧ (parseMethodDescriptor y_GB_firstWithFile.desc).map (fun d => d.parameters.length) = some 1 := by decide +kernel
theorem ky_GB_tableByte : y_GB_tableByte.cls ≠ "java/lang/invoke/MethodHandle" ∧ y_GB_tableByte.cls ≠ "java/lang/invoke/VarHandle" ∧ (parseMethodDescriptor y_GB_tableByte.desc).map (fun d => d.parameters.length) = some 1 := by decide +kernel
theorem ky_MD_init : y_MD_init.cls ≠ "java/lang/invoke/MethodHandle" ∧ y_MD_init.cls ≠ "java/lang/invoke/VarHandle" ∧ (parseMethodDescriptor y_MD_init.desc).map (fun d => d.parameters.length) = some 0 := by decide +kernel
theorem ky_MD_thrown : y_MD_thrown.cls ≠ "java/lang/invoke/MethodHandle" ∧ y_MD_thrown.cls ≠ "java/lang/invoke/VarHandle" ∧ (parseMethodDescriptor y_MD_thrown.desc).map (fun d => d.parameters.length) = some 0 := by decide +kernel
theorem ky_MD_heads : y_MD_heads.cls ≠ "java/lang/invoke/MethodHandle" ∧ y_MD_heads.cls ≠ "java/lang/invoke/VarHandle" ∧ (parseMethodDescriptor y_MD_heads.desc).map (fun d => d.parameters.length) = some 1 := by decide +kernel
theorem ky_MD_bitmap : y_MD_bitmap.cls ≠ "java/lang/invoke/MethodHandle" ∧ y_MD_bitmap.cls ≠ "java/lang/invoke/VarHandle" ∧ (parseMethodDescriptor y_MD_bitmap.desc).map (fun d => d.parameters.length) = some 1 := by decide +kernel
theorem ky_MD_fixed : y_MD_fixed.cls ≠ "java/lang/invoke/MethodHandle" ∧ y_MD_fixed.cls ≠ "java/lang/invoke/VarHandle" ∧ (parseMethodDescriptor y_MD_fixed.desc).map (fun d => d.parameters.length) = some 1 := by decide +kernel
theorem ky_MD_layOut : y_MD_layOut.cls ≠ "java/lang/invoke/MethodHandle" ∧ y_MD_layOut.cls ≠ "java/lang/invoke/VarHandle" ∧ (parseMethodDescriptor y_MD_layOut.desc).map (fun d => d.parameters.length) = some 2 := by decide +kernel
theorem ky_MD_freeBlocks : y_MD_freeBlocks.cls ≠ "java/lang/invoke/MethodHandle" ∧ y_MD_freeBlocks.cls ≠ "java/lang/invoke/VarHandle" ∧ (parseMethodDescriptor y_MD_freeBlocks.desc).map (fun d => d.parameters.length) = some 1 := by decide +kernel
theorem ky_MD_freeFiles : y_MD_freeFiles.cls ≠ "java/lang/invoke/MethodHandle" ∧ y_MD_freeFiles.cls ≠ "java/lang/invoke/VarHandle" ∧ (parseMethodDescriptor y_MD_freeFiles.desc).map (fun d => d.parameters.length) = some 1 := by decide +kernel
theorem ky_MD_allBlocks : y_MD_allBlocks.cls ≠ "java/lang/invoke/MethodHandle" ∧ y_MD_allBlocks.cls ≠ "java/lang/invoke/VarHandle" ∧ (parseMethodDescriptor y_MD_allBlocks.desc).map (fun d => d.parameters.length) = some 0 := by decide +kernel
theorem ky_MD_allFiles : y_MD_allFiles.cls ≠ "java/lang/invoke/MethodHandle" ∧ y_MD_allFiles.cls ≠ "java/lang/invoke/VarHandle" ∧ (parseMethodDescriptor y_MD_allFiles.desc).map (fun d => d.parameters.length) = some 0 := by decide +kernel
theorem ky_MD_isBlock : y_MD_isBlock.cls ≠ "java/lang/invoke/MethodHandle" ∧ y_MD_isBlock.cls ≠ "java/lang/invoke/VarHandle" ∧ (parseMethodDescriptor y_MD_isBlock.desc).map (fun d => d.parameters.length) = some 1 := by decide +kernel
theorem ky_MD_isFile : y_MD_isFile.cls ≠ "java/lang/invoke/MethodHandle" ∧ y_MD_isFile.cls ≠ "java/lang/invoke/VarHandle" ∧ (parseMethodDescriptor y_MD_isFile.desc).map (fun d => d.parameters.length) = some 1 := by decide +kernel
theorem ky_MD_lay : y_MD_lay.cls ≠ "java/lang/invoke/MethodHandle" ∧ y_MD_lay.cls ≠ "java/lang/invoke/VarHandle" ∧ (parseMethodDescriptor y_MD_lay.desc).map (fun d => d.parameters.length) = some 2 := by decide +kernel
theorem ky_MD_reserve : y_MD_reserve.cls ≠ "java/lang/invoke/MethodHandle" ∧ y_MD_reserve.cls ≠ "java/lang/invoke/VarHandle" ∧ (parseMethodDescriptor y_MD_reserve.desc).map (fun d => d.parameters.length) = some 1 := by decide +kernel
theorem ky_MD_findRun : y_MD_findRun.cls ≠ "java/lang/invoke/MethodHandle" ∧ y_MD_findRun.cls ≠ "java/lang/invoke/VarHandle" ∧ (parseMethodDescriptor y_MD_findRun.desc).map (fun d => d.parameters.length) = some 2 := by decide +kernel
theorem ky_MD_areFree : y_MD_areFree.cls ≠ "java/lang/invoke/MethodHandle" ∧ y_MD_areFree.cls ≠ "java/lang/invoke/VarHandle" ∧ (parseMethodDescriptor y_MD_areFree.desc).map (fun d => d.parameters.length) = some 2 := by decide +kernel
theorem ky_MD_mark : y_MD_mark.cls ≠ "java/lang/invoke/MethodHandle" ∧ y_MD_mark.cls ≠ "java/lang/invoke/VarHandle" ∧ (parseMethodDescriptor y_MD_mark.desc).map (fun d => d.parameters.length) = some 3 := by decide +kernel
theorem ky_MD_take : y_MD_take.cls ≠ "java/lang/invoke/MethodHandle" ∧ y_MD_take.cls ≠ "java/lang/invoke/VarHandle" ∧ (parseMethodDescriptor y_MD_take.desc).map (fun d => d.parameters.length) = some 3 := by decide +kernel
theorem ky_MD_taken : y_MD_taken.cls ≠ "java/lang/invoke/MethodHandle" ∧ y_MD_taken.cls ≠ "java/lang/invoke/VarHandle" ∧ (parseMethodDescriptor y_MD_taken.desc).map (fun d => d.parameters.length) = some 0 := by decide +kernel
theorem ky_MD_give : y_MD_give.cls ≠ "java/lang/invoke/MethodHandle" ∧ y_MD_give.cls ≠ "java/lang/invoke/VarHandle" ∧ (parseMethodDescriptor y_MD_give.desc).map (fun d => d.parameters.length) = some 2 := by decide +kernel
theorem ky_MD_groupOfPlain : y_MD_groupOfPlain.cls ≠ "java/lang/invoke/MethodHandle" ∧ y_MD_groupOfPlain.cls ≠ "java/lang/invoke/VarHandle" ∧ (parseMethodDescriptor y_MD_groupOfPlain.desc).map (fun d => d.parameters.length) = some 1 := by decide +kernel
theorem ky_MD_firstFree : y_MD_firstFree.cls ≠ "java/lang/invoke/MethodHandle" ∧ y_MD_firstFree.cls ≠ "java/lang/invoke/VarHandle" ∧ (parseMethodDescriptor y_MD_firstFree.desc).map (fun d => d.parameters.length) = some 1 := by decide +kernel
theorem ky_MD_groupOfFolder : y_MD_groupOfFolder.cls ≠ "java/lang/invoke/MethodHandle" ∧ y_MD_groupOfFolder.cls ≠ "java/lang/invoke/VarHandle" ∧ (parseMethodDescriptor y_MD_groupOfFolder.desc).map (fun d => d.parameters.length) = some 2 := by decide +kernel
theorem ky_MD_markFile : y_MD_markFile.cls ≠ "java/lang/invoke/MethodHandle" ∧ y_MD_markFile.cls ≠ "java/lang/invoke/VarHandle" ∧ (parseMethodDescriptor y_MD_markFile.desc).map (fun d => d.parameters.length) = some 4 := by decide +kernel
theorem ky_MD_takeFile : y_MD_takeFile.cls ≠ "java/lang/invoke/MethodHandle" ∧ y_MD_takeFile.cls ≠ "java/lang/invoke/VarHandle" ∧ (parseMethodDescriptor y_MD_takeFile.desc).map (fun d => d.parameters.length) = some 2 := by decide +kernel
theorem ky_MD_giveFile : y_MD_giveFile.cls ≠ "java/lang/invoke/MethodHandle" ∧ y_MD_giveFile.cls ≠ "java/lang/invoke/VarHandle" ∧ (parseMethodDescriptor y_MD_giveFile.desc).map (fun d => d.parameters.length) = some 2 := by decide +kernel
theorem ky_MD_isTaken : y_MD_isTaken.cls ≠ "java/lang/invoke/MethodHandle" ∧ y_MD_isTaken.cls ≠ "java/lang/invoke/VarHandle" ∧ (parseMethodDescriptor y_MD_isTaken.desc).map (fun d => d.parameters.length) = some 2 := by decide +kernel
theorem ky_MD_group : y_MD_group.cls ≠ "java/lang/invoke/MethodHandle" ∧ y_MD_group.cls ≠ "java/lang/invoke/VarHandle" ∧ (parseMethodDescriptor y_MD_group.desc).map (fun d => d.parameters.length) = some 2 := by decide +kernel
theorem ky_MD_descriptor : y_MD_descriptor.cls ≠ "java/lang/invoke/MethodHandle" ∧ y_MD_descriptor.cls ≠ "java/lang/invoke/VarHandle" ∧ (parseMethodDescriptor y_MD_descriptor.desc).map (fun d => d.parameters.length) = some 1 := by decide +kernel
theorem ky_MD_byteOf : y_MD_byteOf.cls ≠ "java/lang/invoke/MethodHandle" ∧ y_MD_byteOf.cls ≠ "java/lang/invoke/VarHandle" ∧ (parseMethodDescriptor y_MD_byteOf.desc).map (fun d => d.parameters.length) = some 2 := by decide +kernel
theorem ky_MD_isTold : y_MD_isTold.cls ≠ "java/lang/invoke/MethodHandle" ∧ y_MD_isTold.cls ≠ "java/lang/invoke/VarHandle" ∧ (parseMethodDescriptor y_MD_isTold.desc).map (fun d => d.parameters.length) = some 1 := by decide +kernel
theorem ky_MD_settle : y_MD_settle.cls ≠ "java/lang/invoke/MethodHandle" ∧ y_MD_settle.cls ≠ "java/lang/invoke/VarHandle" ∧ (parseMethodDescriptor y_MD_settle.desc).map (fun d => d.parameters.length) = some 0 := by decide +kernel
theorem ky_BM_init : y_BM_init.cls ≠ "java/lang/invoke/MethodHandle" ∧ y_BM_init.cls ≠ "java/lang/invoke/VarHandle" ∧ (parseMethodDescriptor y_BM_init.desc).map (fun d => d.parameters.length) = some 2 := by decide +kernel
theorem ky_BM_layOut : y_BM_layOut.cls ≠ "java/lang/invoke/MethodHandle" ∧ y_BM_layOut.cls ≠ "java/lang/invoke/VarHandle" ∧ (parseMethodDescriptor y_BM_layOut.desc).map (fun d => d.parameters.length) = some 2 := by decide +kernel
theorem ky_BM_isSet : y_BM_isSet.cls ≠ "java/lang/invoke/MethodHandle" ∧ y_BM_isSet.cls ≠ "java/lang/invoke/VarHandle" ∧ (parseMethodDescriptor y_BM_isSet.desc).map (fun d => d.parameters.length) = some 1 := by decide +kernel
theorem ky_BM_occupy : y_BM_occupy.cls ≠ "java/lang/invoke/MethodHandle" ∧ y_BM_occupy.cls ≠ "java/lang/invoke/VarHandle" ∧ (parseMethodDescriptor y_BM_occupy.desc).map (fun d => d.parameters.length) = some 1 := by decide +kernel
theorem ky_BM_free : y_BM_free.cls ≠ "java/lang/invoke/MethodHandle" ∧ y_BM_free.cls ≠ "java/lang/invoke/VarHandle" ∧ (parseMethodDescriptor y_BM_free.desc).map (fun d => d.parameters.length) = some 1 := by decide +kernel
theorem ky_BM_byteAt : y_BM_byteAt.cls ≠ "java/lang/invoke/MethodHandle" ∧ y_BM_byteAt.cls ≠ "java/lang/invoke/VarHandle" ∧ (parseMethodDescriptor y_BM_byteAt.desc).map (fun d => d.parameters.length) = some 1 := by decide +kernel
theorem ky_BM_leastFree : y_BM_leastFree.cls ≠ "java/lang/invoke/MethodHandle" ∧ y_BM_leastFree.cls ≠ "java/lang/invoke/VarHandle" ∧ (parseMethodDescriptor y_BM_leastFree.desc).map (fun d => d.parameters.length) = some 0 := by decide +kernel
theorem ky_BM_areFree : y_BM_areFree.cls ≠ "java/lang/invoke/MethodHandle" ∧ y_BM_areFree.cls ≠ "java/lang/invoke/VarHandle" ∧ (parseMethodDescriptor y_BM_areFree.desc).map (fun d => d.parameters.length) = some 2 := by decide +kernel
theorem ky_BM_longestRun : y_BM_longestRun.cls ≠ "java/lang/invoke/MethodHandle" ∧ y_BM_longestRun.cls ≠ "java/lang/invoke/VarHandle" ∧ (parseMethodDescriptor y_BM_longestRun.desc).map (fun d => d.parameters.length) = some 0 := by decide +kernel
theorem ky_BM_shortestRun : y_BM_shortestRun.cls ≠ "java/lang/invoke/MethodHandle" ∧ y_BM_shortestRun.cls ≠ "java/lang/invoke/VarHandle" ∧ (parseMethodDescriptor y_BM_shortestRun.desc).map (fun d => d.parameters.length) = some 1 := by decide +kernel
theorem ky_BM_forgetTold : y_BM_forgetTold.cls ≠ "java/lang/invoke/MethodHandle" ∧ y_BM_forgetTold.cls ≠ "java/lang/invoke/VarHandle" ∧ (parseMethodDescriptor y_BM_forgetTold.desc).map (fun d => d.parameters.length) = some 0 := by decide +kernel
theorem ky_GR_init : y_GR_init.cls ≠ "java/lang/invoke/MethodHandle" ∧ y_GR_init.cls ≠ "java/lang/invoke/VarHandle" ∧ (parseMethodDescriptor y_GR_init.desc).map (fun d => d.parameters.length) = some 1 := by decide +kernel
theorem ky_GR_layOut : y_GR_layOut.cls ≠ "java/lang/invoke/MethodHandle" ∧ y_GR_layOut.cls ≠ "java/lang/invoke/VarHandle" ∧ (parseMethodDescriptor y_GR_layOut.desc).map (fun d => d.parameters.length) = some 1 := by decide +kernel
theorem ky_GR_bitmapIn : y_GR_bitmapIn.cls ≠ "java/lang/invoke/MethodHandle" ∧ y_GR_bitmapIn.cls ≠ "java/lang/invoke/VarHandle" ∧ (parseMethodDescriptor y_GR_bitmapIn.desc).map (fun d => d.parameters.length) = some 1 := by decide +kernel
theorem ky_GR_hasFileAndBlock : y_GR_hasFileAndBlock.cls ≠ "java/lang/invoke/MethodHandle" ∧ y_GR_hasFileAndBlock.cls ≠ "java/lang/invoke/VarHandle" ∧ (parseMethodDescriptor y_GR_hasFileAndBlock.desc).map (fun d => d.parameters.length) = some 0 := by decide +kernel
theorem ky_GR_occupyFile : y_GR_occupyFile.cls ≠ "java/lang/invoke/MethodHandle" ∧ y_GR_occupyFile.cls ≠ "java/lang/invoke/VarHandle" ∧ (parseMethodDescriptor y_GR_occupyFile.desc).map (fun d => d.parameters.length) = some 1 := by decide +kernel
theorem ky_GR_freeFile : y_GR_freeFile.cls ≠ "java/lang/invoke/MethodHandle" ∧ y_GR_freeFile.cls ≠ "java/lang/invoke/VarHandle" ∧ (parseMethodDescriptor y_GR_freeFile.desc).map (fun d => d.parameters.length) = some 2 := by decide +kernel
theorem ky_GR_tableByte : y_GR_tableByte.cls ≠ "java/lang/invoke/MethodHandle" ∧ y_GR_tableByte.cls ≠ "java/lang/invoke/VarHandle" ∧ (parseMethodDescriptor y_GR_tableByte.desc).map (fun d => d.parameters.length) = some 1 := by decide +kernel
theorem ky_GR_byteOfNumber : y_GR_byteOfNumber.cls ≠ "java/lang/invoke/MethodHandle" ∧ y_GR_byteOfNumber.cls ≠ "java/lang/invoke/VarHandle" ∧ (parseMethodDescriptor y_GR_byteOfNumber.desc).map (fun d => d.parameters.length) = some 2 := by decide +kernel
theorem ky_LW_lay : y_LW_lay.cls ≠ "java/lang/invoke/MethodHandle" ∧ y_LW_lay.cls ≠ "java/lang/invoke/VarHandle" ∧ (parseMethodDescriptor y_LW_lay.desc).map (fun d => d.parameters.length) = some 4 := by decide +kernel
theorem ky_LW_reserve : y_LW_reserve.cls ≠ "java/lang/invoke/MethodHandle" ∧ y_LW_reserve.cls ≠ "java/lang/invoke/VarHandle" ∧ (parseMethodDescriptor y_LW_reserve.desc).map (fun d => d.parameters.length) = some 3 := by decide +kernel
theorem ky_LW_take : y_LW_take.cls ≠ "java/lang/invoke/MethodHandle" ∧ y_LW_take.cls ≠ "java/lang/invoke/VarHandle" ∧ (parseMethodDescriptor y_LW_take.desc).map (fun d => d.parameters.length) = some 5 := by decide +kernel
theorem ky_LW_give : y_LW_give.cls ≠ "java/lang/invoke/MethodHandle" ∧ y_LW_give.cls ≠ "java/lang/invoke/VarHandle" ∧ (parseMethodDescriptor y_LW_give.desc).map (fun d => d.parameters.length) = some 4 := by decide +kernel
theorem ky_LW_takeFile : y_LW_takeFile.cls ≠ "java/lang/invoke/MethodHandle" ∧ y_LW_takeFile.cls ≠ "java/lang/invoke/VarHandle" ∧ (parseMethodDescriptor y_LW_takeFile.desc).map (fun d => d.parameters.length) = some 4 := by decide +kernel
theorem ky_LW_giveFile : y_LW_giveFile.cls ≠ "java/lang/invoke/MethodHandle" ∧ y_LW_giveFile.cls ≠ "java/lang/invoke/VarHandle" ∧ (parseMethodDescriptor y_LW_giveFile.desc).map (fun d => d.parameters.length) = some 4 := by decide +kernel
theorem ky_LW_isTaken : y_LW_isTaken.cls ≠ "java/lang/invoke/MethodHandle" ∧ y_LW_isTaken.cls ≠ "java/lang/invoke/VarHandle" ∧ (parseMethodDescriptor y_LW_isTaken.desc).map (fun d => d.parameters.length) = some 4 := by decide +kernel
theorem ky_LW_group : y_LW_group.cls ≠ "java/lang/invoke/MethodHandle" ∧ y_LW_group.cls ≠ "java/lang/invoke/VarHandle" ∧ (parseMethodDescriptor y_LW_group.desc).map (fun d => d.parameters.length) = some 4 := by decide +kernel
theorem ky_LW_byteOf : y_LW_byteOf.cls ≠ "java/lang/invoke/MethodHandle" ∧ y_LW_byteOf.cls ≠ "java/lang/invoke/VarHandle" ∧ (parseMethodDescriptor y_LW_byteOf.desc).map (fun d => d.parameters.length) = some 4 := by decide +kernel
theorem ky_LW_isTold : y_LW_isTold.cls ≠ "java/lang/invoke/MethodHandle" ∧ y_LW_isTold.cls ≠ "java/lang/invoke/VarHandle" ∧ (parseMethodDescriptor y_LW_isTold.desc).map (fun d => d.parameters.length) = some 3 := by decide +kernel
end
section
theorem q_Cnt_Cnt (σ : gS) (v : Nat) : sCnt (uCnt σ v) = v := rfl
theorem q_Cnt_Rsv (σ : gS) (v : Nat) : sCnt (uRsv σ v) = sCnt σ := rfl
theorem q_Cnt_Lat (σ : gS) (v : Nat) : sCnt (uLat σ v) = sCnt σ := rfl
theorem q_Cnt_TT (σ : gS) (v : Bool) : sCnt (uTT σ v) = sCnt σ := rfl
theorem q_Cnt_Fd (σ : gS) (g v : Nat) : sCnt (uFd σ g v) = sCnt σ := rfl
theorem q_Cnt_Sz (σ : gS) (j v : Nat) : sCnt (uSz σ j v) = sCnt σ := rfl
theorem q_Cnt_Fr (σ : gS) (j v : Nat) : sCnt (uFr σ j v) = sCnt σ := rfl
theorem q_Cnt_Td (σ : gS) (j : Nat) (v : Bool) : sCnt (uTd σ j v) = sCnt σ := rfl
theorem q_Cnt_Bt (σ : gS) (j : Nat) (v : Nat → Bool) : sCnt (uBt σ j v) = sCnt σ := rfl
theorem q_Rsv_Cnt (σ : gS) (v : Nat) : sRsv (uCnt σ v) = sRsv σ := rfl
theorem q_Rsv_Rsv (σ : gS) (v : Nat) : sRsv (uRsv σ v) = v := rfl
theorem q_Rsv_Lat (σ : gS) (v : Nat) : sRsv (uLat σ v) = sRsv σ := rfl
theorem q_Rsv_TT (σ : gS) (v : Bool) : sRsv (uTT σ v) = sRsv σ := rfl
theorem q_Rsv_Fd (σ : gS) (g v : Nat) : sRsv (uFd σ g v) = sRsv σ := rfl
theorem q_Rsv_Sz (σ : gS) (j v : Nat) : sRsv (uSz σ j v) = sRsv σ := rfl
theorem q_Rsv_Fr (σ : gS) (j v : Nat) : sRsv (uFr σ j v) = sRsv σ := rfl
theorem q_Rsv_Td (σ : gS) (j : Nat) (v : Bool) : sRsv (uTd σ j v) = sRsv σ := rfl
theorem q_Rsv_Bt (σ : gS) (j : Nat) (v : Nat → Bool) : sRsv (uBt σ j v) = sRsv σ := rfl
theorem q_Lat_Cnt (σ : gS) (v : Nat) : sLat (uCnt σ v) = sLat σ := rfl
theorem q_Lat_Rsv (σ : gS) (v : Nat) : sLat (uRsv σ v) = sLat σ := rfl
theorem q_Lat_Lat (σ : gS) (v : Nat) : sLat (uLat σ v) = v := rfl
theorem q_Lat_TT (σ : gS) (v : Bool) : sLat (uTT σ v) = sLat σ := rfl
theorem q_Lat_Fd (σ : gS) (g v : Nat) : sLat (uFd σ g v) = sLat σ := rfl
theorem q_Lat_Sz (σ : gS) (j v : Nat) : sLat (uSz σ j v) = sLat σ := rfl
theorem q_Lat_Fr (σ : gS) (j v : Nat) : sLat (uFr σ j v) = sLat σ := rfl
theorem q_Lat_Td (σ : gS) (j : Nat) (v : Bool) : sLat (uTd σ j v) = sLat σ := rfl
theorem q_Lat_Bt (σ : gS) (j : Nat) (v : Nat → Bool) : sLat (uBt σ j v) = sLat σ := rfl
theorem q_TT_Cnt (σ : gS) (v : Nat) : sTT (uCnt σ v) = sTT σ := rfl
theorem q_TT_Rsv (σ : gS) (v : Nat) : sTT (uRsv σ v) = sTT σ := rfl
theorem q_TT_Lat (σ : gS) (v : Nat) : sTT (uLat σ v) = sTT σ := rfl
theorem q_TT_TT (σ : gS) (v : Bool) : sTT (uTT σ v) = v := rfl
theorem q_TT_Fd (σ : gS) (g v : Nat) : sTT (uFd σ g v) = sTT σ := rfl
theorem q_TT_Sz (σ : gS) (j v : Nat) : sTT (uSz σ j v) = sTT σ := rfl
theorem q_TT_Fr (σ : gS) (j v : Nat) : sTT (uFr σ j v) = sTT σ := rfl
theorem q_TT_Td (σ : gS) (j : Nat) (v : Bool) : sTT (uTd σ j v) = sTT σ := rfl
theorem q_TT_Bt (σ : gS) (j : Nat) (v : Nat → Bool) : sTT (uBt σ j v) = sTT σ := rfl
theorem q_Fd_Cnt (σ : gS) (v : Nat) : sFd (uCnt σ v) = sFd σ := rfl
theorem q_Fd_Rsv (σ : gS) (v : Nat) : sFd (uRsv σ v) = sFd σ := rfl
theorem q_Fd_Lat (σ : gS) (v : Nat) : sFd (uLat σ v) = sFd σ := rfl
theorem q_Fd_TT (σ : gS) (v : Bool) : sFd (uTT σ v) = sFd σ := rfl
theorem q_Fd_Fd (σ : gS) (g v : Nat) : sFd (uFd σ g v) = va_up (sFd σ) g v := rfl
theorem q_Fd_Sz (σ : gS) (j v : Nat) : sFd (uSz σ j v) = sFd σ := rfl
theorem q_Fd_Fr (σ : gS) (j v : Nat) : sFd (uFr σ j v) = sFd σ := rfl
theorem q_Fd_Td (σ : gS) (j : Nat) (v : Bool) : sFd (uTd σ j v) = sFd σ := rfl
theorem q_Fd_Bt (σ : gS) (j : Nat) (v : Nat → Bool) : sFd (uBt σ j v) = sFd σ := rfl
theorem q_Sz_Cnt (σ : gS) (v : Nat) : sSz (uCnt σ v) = sSz σ := rfl
theorem q_Sz_Rsv (σ : gS) (v : Nat) : sSz (uRsv σ v) = sSz σ := rfl
theorem q_Sz_Lat (σ : gS) (v : Nat) : sSz (uLat σ v) = sSz σ := rfl
theorem q_Sz_TT (σ : gS) (v : Bool) : sSz (uTT σ v) = sSz σ := rfl
theorem q_Sz_Fd (σ : gS) (g v : Nat) : sSz (uFd σ g v) = sSz σ := rfl
theorem q_Sz_Sz (σ : gS) (j v : Nat) : sSz (uSz σ j v) = va_up (sSz σ) j v := rfl
theorem q_Sz_Fr (σ : gS) (j v : Nat) : sSz (uFr σ j v) = sSz σ := rfl
theorem q_Sz_Td (σ : gS) (j : Nat) (v : Bool) : sSz (uTd σ j v) = sSz σ := rfl
theorem q_Sz_Bt (σ : gS) (j : Nat) (v : Nat → Bool) : sSz (uBt σ j v) = sSz σ := rfl
theorem q_Fr_Cnt (σ : gS) (v : Nat) : sFr (uCnt σ v) = sFr σ := rfl
theorem q_Fr_Rsv (σ : gS) (v : Nat) : sFr (uRsv σ v) = sFr σ := rfl
theorem q_Fr_Lat (σ : gS) (v : Nat) : sFr (uLat σ v) = sFr σ := rfl
theorem q_Fr_TT (σ : gS) (v : Bool) : sFr (uTT σ v) = sFr σ := rfl
theorem q_Fr_Fd (σ : gS) (g v : Nat) : sFr (uFd σ g v) = sFr σ := rfl
theorem q_Fr_Sz (σ : gS) (j v : Nat) : sFr (uSz σ j v) = sFr σ := rfl
theorem q_Fr_Fr (σ : gS) (j v : Nat) : sFr (uFr σ j v) = va_up (sFr σ) j v := rfl
theorem q_Fr_Td (σ : gS) (j : Nat) (v : Bool) : sFr (uTd σ j v) = sFr σ := rfl
theorem q_Fr_Bt (σ : gS) (j : Nat) (v : Nat → Bool) : sFr (uBt σ j v) = sFr σ := rfl
theorem q_Td_Cnt (σ : gS) (v : Nat) : sTd (uCnt σ v) = sTd σ := rfl
theorem q_Td_Rsv (σ : gS) (v : Nat) : sTd (uRsv σ v) = sTd σ := rfl
theorem q_Td_Lat (σ : gS) (v : Nat) : sTd (uLat σ v) = sTd σ := rfl
theorem q_Td_TT (σ : gS) (v : Bool) : sTd (uTT σ v) = sTd σ := rfl
theorem q_Td_Fd (σ : gS) (g v : Nat) : sTd (uFd σ g v) = sTd σ := rfl
theorem q_Td_Sz (σ : gS) (j v : Nat) : sTd (uSz σ j v) = sTd σ := rfl
theorem q_Td_Fr (σ : gS) (j v : Nat) : sTd (uFr σ j v) = sTd σ := rfl
theorem q_Td_Td (σ : gS) (j : Nat) (v : Bool) : sTd (uTd σ j v) = va_up (sTd σ) j v := rfl
theorem q_Td_Bt (σ : gS) (j : Nat) (v : Nat → Bool) : sTd (uBt σ j v) = sTd σ := rfl
theorem q_Bt_Cnt (σ : gS) (v : Nat) : sBt (uCnt σ v) = sBt σ := rfl
theorem q_Bt_Rsv (σ : gS) (v : Nat) : sBt (uRsv σ v) = sBt σ := rfl
theorem q_Bt_Lat (σ : gS) (v : Nat) : sBt (uLat σ v) = sBt σ := rfl
theorem q_Bt_TT (σ : gS) (v : Bool) : sBt (uTT σ v) = sBt σ := rfl
theorem q_Bt_Fd (σ : gS) (g v : Nat) : sBt (uFd σ g v) = sBt σ := rfl
theorem q_Bt_Sz (σ : gS) (j v : Nat) : sBt (uSz σ j v) = sBt σ := rfl
theorem q_Bt_Fr (σ : gS) (j v : Nat) : sBt (uFr σ j v) = sBt σ := rfl
theorem q_Bt_Td (σ : gS) (j : Nat) (v : Bool) : sBt (uTd σ j v) = sBt σ := rfl
theorem q_Bt_Bt (σ : gS) (j : Nat) (v : Nat → Bool) : sBt (uBt σ j v) = va_up (sBt σ) j v := rfl
end
section
/-! ===== what the methods of a bitmap answer and do, in numbers ===== -/
def sSet (σ : gS) (j k : Nat) : Bool := decide (gLen j ≤ k) || sBt σ j k
theorem sSet_ge {σ : gS} {j k : Nat} (h : gLen j ≤ k) : sSet σ j k = true := by simp [sSet, h]
theorem sSet_lt {σ : gS} {j k : Nat} (h : k < gLen j) : sSet σ j k = sBt σ j k := by simp [sSet, Nat.not_le.mpr h]
theorem va_up_id {α : Type} (f : Nat → α) (j : Nat) : va_up f j (f j) = f := by
  funext i; unfold va_up; split
  · rename_i h; rw [h]
  · rfl
theorem uBt_uBt (σ : gS) (j : Nat) (f g : Nat → Bool) : uBt (uBt σ j f) j g = uBt σ j g := by
  show (_, _, _, _, _, _, _, _, va_up (va_up (sBt σ) j f) j g) = _
  rw [bx_uu]; rfl
theorem uBt_id (σ : gS) (j : Nat) : uBt σ j (sBt σ j) = σ := by
  show (_, _, _, _, _, _, _, _, va_up (sBt σ) j (sBt σ j)) = _
  rw [va_up_id]; rfl
theorem va_up_at {α : Type} (f : Nat → α) (j : Nat) (v : α) : va_up f j v j = v := by simp [va_up]
theorem sBt_uBt (σ : gS) (j : Nat) (f : Nat → Bool) : sBt (uBt σ j f) j = f := va_up_at _ _ _
/-- one bit -/
def setb (B : Nat → Bool) (k : Nat) (v : Bool) : Nat → Bool := fun i => if i = k then v else B i
def sOcc (σ : gS) (j k : Nat) : gS := if sSet σ j k = true then σ else uTd (uFr (uBt σ j (setb (sBt σ j) k true)) j (sFr σ j - 1)) j true
theorem sOcc_t {σ : gS} {j k : Nat} (h : sSet σ j k = true) : sOcc σ j k = σ := if_pos h
theorem sOcc_f {σ : gS} {j k : Nat} (h : sSet σ j k = false) : sOcc σ j k = uTd (uFr (uBt σ j (setb (sBt σ j) k true)) j (sFr σ j - 1)) j true := if_neg (by rw [h]; decide)
def sFre (σ : gS) (j k : Nat) : gS := if k < sSz σ j ∧ sBt σ j k = true then uTd (uFr (uBt σ j (setb (sBt σ j) k false)) j (sFr σ j + 1)) j true else σ
theorem sFre_t {σ : gS} {j k : Nat} (h : k < sSz σ j) (h2 : sBt σ j k = true) : sFre σ j k = uTd (uFr (uBt σ j (setb (sBt σ j) k false)) j (sFr σ j + 1)) j true := if_pos ⟨h, h2⟩
theorem sFre_f1 {σ : gS} {j k : Nat} (h : sSz σ j ≤ k) : sFre σ j k = σ := if_neg (fun q => absurd q.1 (Nat.not_lt.mpr h))
theorem sFre_f2 {σ : gS} {j k : Nat} (h : sBt σ j k = false) : sFre σ j k = σ := if_neg (fun q => by rw [h] at q; exact absurd q.2 (by decide))
def lyv (f a k : Nat) : Bool := decide (k < f) || decide (a ≤ k)
def lyf (B : Nat → Bool) (f a n : Nat) : Nat → Bool := fun i => if i < n then lyv f a i else B i
theorem lyf_0 (B : Nat → Bool) (f a : Nat) : lyf B f a 0 = B := by funext i; simp [lyf]
theorem lyf_succ (B : Nat → Bool) (f a n : Nat) {v : Bool} (hv : v = lyv f a n) : (fun i => if i = n then v else lyf B f a n i) = lyf B f a (n + 1) := by
  funext i
  unfold lyf
  by_cases h : i = n
  · subst h; rw [if_pos rfl, if_pos (Nat.lt_succ_self _)]; exact hv
  · rw [if_neg h]
    by_cases h2 : i < n
    · rw [if_pos h2, if_pos (by omega)]
    · rw [if_neg h2, if_neg (by omega)]
def sLay (σ : gS) (j a f : Nat) : gS := uTd (uFr (uSz (uBt σ j (lyf (sBt σ j) f a (gLen j))) j a) j (a - f)) j true
def sBy (σ : gS) (j i : Nat) : Nat → Nat
  | 0 => 0
  | k + 1 => sBy σ j i k + if sSet σ j (8 * i + k) = true then 2 ^ k else 0
/-- the first number below n that is free -/
def sLf (σ : gS) (j : Nat) : Nat → Option Nat
  | 0 => none
  | k + 1 => match sLf σ j k with
    | some q => some q
    | none => if sSet σ j k = true then none else some k
def oI (o : Option Nat) : Int32 := match o with
  | none => -1
  | some k => nI k
/-- are the n from a on free -/
def sAf (σ : gS) (j a : Nat) : Nat → Bool
  | 0 => true
  | k + 1 => sAf σ j a k && !sSet σ j (a + k)
/-- the run that ends here, one further -/
def sLen (c : Bool) (q : Nat) : Nat := if c = true then 0 else q + 1
theorem sLen_t (q : Nat) : sLen true q = 0 := rfl
theorem sLen_f (q : Nat) : sLen false q = q + 1 := rfl
theorem sLen_le (c : Bool) (q : Nat) : sLen c q ≤ q + 1 := by cases c <;> simp [sLen]
/-- the longest run below k, and that which ends at k -/
def sLr (σ : gS) (j : Nat) : Nat → Nat × Nat
  | 0 => (0, 0)
  | k + 1 => (Nat.max (sLr σ j k).1 (sLen (sSet σ j k) (sLr σ j k).2), sLen (sSet σ j k) (sLr σ j k).2)
def sSrN (n k : Nat) (q : Option Nat × Nat × Nat) (len : Nat) (e : Bool) : Option Nat × Nat × Nat :=
  if n ≤ len ∧ len < q.2.1 ∧ e = true then (some (k + 1 - len), len, len) else (q.1, q.2.1, len)
/-- where the first of the shortest runs of n or more begins, that length, and that of the run which ends at k -/
def sSr (σ : gS) (j n : Nat) : Nat → Option Nat × Nat × Nat
  | 0 => (none, sSz σ j + 1, 0)
  | k + 1 => sSrN n k (sSr σ j n k) (sLen (sSet σ j k) (sSr σ j n k).2.2) (sSet σ j (k + 1))
theorem sLr_le (σ : gS) (j k : Nat) : (sLr σ j k).1 ≤ k ∧ (sLr σ j k).2 ≤ k := by
  induction k with
  | zero => exact ⟨Nat.le_refl _, Nat.le_refl _⟩
  | succ k ih =>
    have h1 := ih.1
    have h2 := ih.2
    have h3 := sLen_le (sSet σ j k) (sLr σ j k).2
    constructor
    · show Nat.max (sLr σ j k).1 (sLen (sSet σ j k) (sLr σ j k).2) ≤ k + 1
      exact Nat.max_le.mpr ⟨by omega, by omega⟩
    · show sLen (sSet σ j k) (sLr σ j k).2 ≤ k + 1
      omega
theorem sSr_le (σ : gS) (j n k : Nat) : (sSr σ j n k).2.1 ≤ sSz σ j + 1 + k ∧ (sSr σ j n k).2.2 ≤ k := by
  induction k with
  | zero => exact ⟨Nat.le_refl _, Nat.le_refl _⟩
  | succ k ih =>
    have h1 := ih.1
    have h2 := ih.2
    have h3 := sLen_le (sSet σ j k) (sSr σ j n k).2.2
    show (sSrN n k (sSr σ j n k) (sLen (sSet σ j k) (sSr σ j n k).2.2) (sSet σ j (k + 1))).2.1 ≤ _ ∧ (sSrN n k (sSr σ j n k) (sLen (sSet σ j k) (sSr σ j n k).2.2) (sSet σ j (k + 1))).2.2 ≤ _
    unfold sSrN
    split
    · exact ⟨by show sLen _ _ ≤ _; omega, by show sLen _ _ ≤ _; omega⟩
    · exact ⟨by show (sSr σ j n k).2.1 ≤ _; omega, by show sLen _ _ ≤ _; omega⟩
theorem lay_step {ad : Nat → Nat} {cG cZ : ClassId} {σ : gS} {j f a k : Nat} {v : Bool} (hj : j < 8) (hv : v = lyv f a k) : (wd ad cG cZ (uBt σ j (lyf (sBt σ j) f a k))).set (14 + j) (ad (14 + j), .inl (cZ, gLen j, .inl (fun i => bI (if i = k then v else sBt (uBt σ j (lyf (sBt σ j) f a k)) j i)))) = wd ad cG cZ (uBt σ j (lyf (sBt σ j) f a (k + 1))) := by
  rw [sBt_uBt, wd_uBt (f := fun i => if i = k then v else lyf (sBt σ j) f a k i) hj, uBt_uBt, lyf_succ _ _ _ _ hv]
end
section
set_option maxHeartbeats 4000000 in
set_option maxRecDepth 100000 in
/-- isSet(k) -/
theorem c_BM_isSet {l : Launch} {D : va_G} {cG cZ cI cJ : ClassId} {ad : Nat → Nat} (σ : gS) (j : Nat) (hj : j < 8) (k : Nat) (hk : k < 2 ^ 31) : gMet l D (gT cG cZ cI cJ) y_BM_isSet b_BM_isSet 2 (some .boolean) ({ frames := 0, cells := 0, slots := 0, locals := 0 }) (wd ad cG cZ σ) [.ref (ad (6 + j)), .int (nI k)] (wd ad cG cZ σ) (some (.int (bI (sSet σ j k)))) := by
  refine gMet_of (by decide) (Nat.le_of_ble_eq_true rfl) ?_
  intro p e s m below meth c A ls hC hA hI hl
  obtain ⟨hx, hb, hr, hlk, hown, hml, hg, hK⟩ := hC
  have hown : s.vm.findClass "GroupBitmaps$Bitmap" = some m.cls := hown
  have hl : lv_has ls 2 [(0, .ref (ad (6 + j))), (1, .int (nI k))] := hl
  refine lv_iload_n hx hb d_BM_isSet_0 rfl (lv_at hl 1 rfl) ?_
  refine r_zlt (a := k) (tgt := 22) hx hb d_BM_isSet_1 (by decide) (hk) ?_
  refine lv_iload_n hx hb d_BM_isSet_4 rfl (lv_at hl 1 rfl) ?_
  refine lv_aload_n hx hb d_BM_isSet_5 rfl (lv_at hl 0 rfl) ?_
  refine g_get (own := "GroupBitmaps$Bitmap") (C := R_BM) (T := F_BM) (N := 5) (ci := 2) (v := .ref (ad (14 + j))) hx hb hg ku_BM hown hK hI (6 + j) (wd_BM hj) rfl 1 (by decide) kw_35 rfl d_BM_isSet_6 ?_
  refine g_alen hx hb hK hI (14 + j) 1 (wd_BA hj) rfl d_BM_isSet_9 ?_
  refine r_ge (a := k) (b := gLen j) (tgt := 22) hx hb d_BM_isSet_10 (by decide) (hk) (gLen_lt _) (fun h => ?_) (fun h => ?_)
  · refine lv_iconst (v := bI true) hx hb d_BM_isSet_22 (by decide) ?_
    refine lv_goto (tgt := 27) hx hb d_BM_isSet_23 (by decide) ?_
    exact g_rz hx hb hr hlk hI (by rw [sSet_ge h]) d_BM_isSet_27
  · refine lv_aload_n hx hb d_BM_isSet_13 rfl (lv_at hl 0 rfl) ?_
    refine g_get (own := "GroupBitmaps$Bitmap") (C := R_BM) (T := F_BM) (N := 5) (ci := 2) (v := .ref (ad (14 + j))) hx hb hg ku_BM hown hK hI (6 + j) (wd_BM hj) rfl 1 (by decide) kw_35 rfl d_BM_isSet_14 ?_
    refine lv_iload_n hx hb d_BM_isSet_17 rfl (lv_at hl 1 rfl) ?_
    refine g_zald (B := (sBt σ j)) (i := k) hx hb hK hI (14 + j) 1 (wd_BA hj) rfl (h) (gLen_lt _) d_BM_isSet_18 ?_
    refine r_bz (b := (sBt σ j) k) (tgt := 26) hx hb d_BM_isSet_19 (by decide) (fun h2 => ?_) (fun h2 => ?_)
    · refine lv_iconst (v := bI false) hx hb d_BM_isSet_26 (by decide) ?_
      exact g_rz hx hb hr hlk hI (by rw [sSet_lt h, h2]) d_BM_isSet_27
    · refine lv_iconst (v := bI true) hx hb d_BM_isSet_22 (by decide) ?_
      refine lv_goto (tgt := 27) hx hb d_BM_isSet_23 (by decide) ?_
      exact g_rz hx hb hr hlk hI (by rw [sSet_lt h, h2]) d_BM_isSet_27
set_option maxHeartbeats 4000000 in
set_option maxRecDepth 100000 in
/-- occupy(k) -/
theorem c_BM_occupy {l : Launch} {D : va_G} {cG cZ cI cJ : ClassId} {ad : Nat → Nat} (σ : gS) (j : Nat) (hj : j < 8) (k : Nat) (hk : k < 2 ^ 31) (hf : sSet σ j k = false → 0 < sFr σ j) : gMet l D (gT cG cZ cI cJ) y_BM_occupy b_BM_occupy 2 none ({ frames := 1, cells := 0, slots := 0, locals := 21 }) (wd ad cG cZ σ) [.ref (ad (6 + j)), .int (nI k)] (wd ad cG cZ (sOcc σ j k)) (none) := by
  refine gMet_of (by decide) (Nat.le_of_ble_eq_true rfl) ?_
  intro p e s m below meth c A ls hC hA hI hl
  obtain ⟨hx, hb, hr, hlk, hown, hml, hg, hK⟩ := hC
  have hown : s.vm.findClass "GroupBitmaps$Bitmap" = some m.cls := hown
  have hl : lv_has ls 2 [(0, .ref (ad (6 + j))), (1, .int (nI k))] := hl
  refine lv_aload_n hx hb d_BM_occupy_0 rfl (lv_at hl 0 rfl) ?_
  refine lv_iload_n hx hb d_BM_occupy_1 rfl (lv_at hl 1 rfl) ?_
  refine g_callV (own := "GroupBitmaps$Bitmap") (C := "GroupBitmaps$Bitmap") (T := F_BM) (N := 5) (k := 1) (q0 := 6 + j) (ci := 2) (a := ad (6 + j)) (As := [.int (nI k)]) (rest := []) (c_BM_isSet σ j hj k hk) hx hb hml hown hg hK hI hA kw_264 kw_265 kw_266 kw_3 kw_267 ky_BM_isSet ⟨Nat.le_of_ble_eq_true rfl, Nat.le_of_ble_eq_true rfl⟩ rfl rfl (wd_BM hj) rfl rfl hl.1 (Nat.le_of_ble_eq_true rfl) ⟨Nat.zero_le _, Nat.zero_le _⟩ d_BM_occupy_2 rfl rfl (fun H locs hI => ?_)
  refine r_bnz (b := sSet σ j k) (tgt := 30) hx hb d_BM_occupy_5 (by decide) (fun h => ?_) (fun h => ?_)
  · rw [sOcc_t h]
    exact g_rv hx hb hr hlk hI (rfl) d_BM_occupy_30
  · rw [sOcc_f h]
    have hkl : k < gLen j := Nat.lt_of_not_le (fun q => by rw [sSet_ge q] at h; exact absurd h (by decide))
    have hf : 0 < sFr (uBt σ j (setb (sBt σ j) k true)) j := hf h
    refine lv_aload_n hx hb d_BM_occupy_8 rfl (lv_at hl 0 rfl) ?_
    refine g_get (own := "GroupBitmaps$Bitmap") (C := R_BM) (T := F_BM) (N := 5) (ci := 2) (v := .ref (ad (14 + j))) hx hb hg ku_BM hown hK hI (6 + j) (wd_BM hj) rfl 1 (by decide) kw_35 rfl d_BM_occupy_9 ?_
    refine lv_iload_n hx hb d_BM_occupy_12 rfl (lv_at hl 1 rfl) ?_
    refine lv_iconst (v := bI true) hx hb d_BM_occupy_13 (by decide) ?_
    refine g_zast (ws' := (wd ad cG cZ (uBt σ j (setb (sBt σ j) k true)))) (B := (sBt σ j)) (i := k) (b := true) hx hb hK hI (14 + j) 1 (wd_BA hj) rfl (hkl) (gLen_lt _) (wd_uBt (f := setb (sBt σ j) k true) hj) d_BM_occupy_14 (fun H locs hI => ?_)
    refine lv_aload_n hx hb d_BM_occupy_15 rfl (lv_at hl 0 rfl) ?_
    refine lv_dup hx hb d_BM_occupy_16 rfl ?_
    refine g_get (own := "GroupBitmaps$Bitmap") (C := R_BM) (T := F_BM) (N := 5) (ci := 2) (v := .int (nI (sFr (uBt σ j (setb (sBt σ j) k true)) j))) hx hb hg ku_BM hown hK hI (6 + j) (wd_BM hj) rfl 3 (by decide) kw_38 rfl d_BM_occupy_17 ?_
    refine lv_iconst (v := nI 1) hx hb d_BM_occupy_20 (by decide) ?_
    refine r_isub (a := sFr (uBt σ j (setb (sBt σ j) k true)) j) (b := 1) hx hb (by omega) d_BM_occupy_21 ?_
    refine g_put (ws' := (wd ad cG cZ (uFr (uBt σ j (setb (sBt σ j) k true)) j (sFr σ j - 1)))) (own := "GroupBitmaps$Bitmap") (C := R_BM) (T := F_BM) (N := 5) (ci := 2) (v := .int (nI ((sFr (uBt σ j (setb (sBt σ j) k true)) j) - 1))) hx hb hg ku_BM t_BM t_BM_ok n_BM hown hK hI (6 + j) (wd_BM hj) rfl 3 (by decide) kw_38 rfl rfl (rfl) (rfl) (Nat.le_of_ble_eq_true rfl) (wd_uFr hj) d_BM_occupy_22 (fun H locs hI => ?_)
    refine lv_aload_n hx hb d_BM_occupy_25 rfl (lv_at hl 0 rfl) ?_
    refine lv_iconst (v := bI true) hx hb d_BM_occupy_26 (by decide) ?_
    refine g_put (ws' := (wd ad cG cZ (uTd (uFr (uBt σ j (setb (sBt σ j) k true)) j (sFr σ j - 1)) j true))) (own := "GroupBitmaps$Bitmap") (C := R_BM) (T := F_BM) (N := 5) (ci := 2) (v := .int (bI true)) hx hb hg ku_BM t_BM t_BM_ok n_BM hown hK hI (6 + j) (wd_BM hj) rfl 4 (by decide) kw_41 rfl rfl (bI_n _) (bI_fit _) (Nat.le_of_ble_eq_true rfl) (wd_uTd hj) d_BM_occupy_27 (fun H locs hI => ?_)
    exact g_rv hx hb hr hlk hI (rfl) d_BM_occupy_30
set_option maxHeartbeats 4000000 in
set_option maxRecDepth 100000 in
/-- free(k) -/
theorem c_BM_free {l : Launch} {D : va_G} {cG cZ cI cJ : ClassId} {ad : Nat → Nat} (σ : gS) (j : Nat) (hj : j < 8) (k : Nat) (hk : k < 2 ^ 31) (hz : sSz σ j ≤ gLen j) : gMet l D (gT cG cZ cI cJ) y_BM_free b_BM_free 2 none ({ frames := 0, cells := 0, slots := 0, locals := 0 }) (wd ad cG cZ σ) [.ref (ad (6 + j)), .int (nI k)] (wd ad cG cZ (sFre σ j k)) (none) := by
  refine gMet_of (by decide) (Nat.le_of_ble_eq_true rfl) ?_
  intro p e s m below meth c A ls hC hA hI hl
  obtain ⟨hx, hb, hr, hlk, hown, hml, hg, hK⟩ := hC
  have hown : s.vm.findClass "GroupBitmaps$Bitmap" = some m.cls := hown
  have hl : lv_has ls 2 [(0, .ref (ad (6 + j))), (1, .int (nI k))] := hl
  have hz2 := gLen_le j
  refine lv_iload_n hx hb d_BM_free_0 rfl (lv_at hl 1 rfl) ?_
  refine r_zlt (a := k) (tgt := 43) hx hb d_BM_free_1 (by decide) (hk) ?_
  refine lv_iload_n hx hb d_BM_free_4 rfl (lv_at hl 1 rfl) ?_
  refine lv_aload_n hx hb d_BM_free_5 rfl (lv_at hl 0 rfl) ?_
  refine g_get (own := "GroupBitmaps$Bitmap") (C := R_BM) (T := F_BM) (N := 5) (ci := 2) (v := .int (nI (sSz σ j))) hx hb hg ku_BM hown hK hI (6 + j) (wd_BM hj) rfl 2 (by decide) kw_36 rfl d_BM_free_6 ?_
  refine r_ge (a := k) (b := sSz σ j) (tgt := 43) hx hb d_BM_free_9 (by decide) (by omega) (by omega) (fun h => ?_) (fun h => ?_)
  · rw [sFre_f1 h]
    exact g_rv hx hb hr hlk hI (rfl) d_BM_free_43
  · refine lv_aload_n hx hb d_BM_free_12 rfl (lv_at hl 0 rfl) ?_
    refine g_get (own := "GroupBitmaps$Bitmap") (C := R_BM) (T := F_BM) (N := 5) (ci := 2) (v := .ref (ad (14 + j))) hx hb hg ku_BM hown hK hI (6 + j) (wd_BM hj) rfl 1 (by decide) kw_35 rfl d_BM_free_13 ?_
    refine lv_iload_n hx hb d_BM_free_16 rfl (lv_at hl 1 rfl) ?_
    refine g_zald (B := (sBt σ j)) (i := k) hx hb hK hI (14 + j) 1 (wd_BA hj) rfl (by omega) (gLen_lt _) d_BM_free_17 ?_
    refine r_bz (b := (sBt σ j) k) (tgt := 43) hx hb d_BM_free_18 (by decide) (fun h2 => ?_) (fun h2 => ?_)
    · rw [sFre_f2 h2]
      exact g_rv hx hb hr hlk hI (rfl) d_BM_free_43
    · rw [sFre_t h h2]
      refine lv_aload_n hx hb d_BM_free_21 rfl (lv_at hl 0 rfl) ?_
      refine g_get (own := "GroupBitmaps$Bitmap") (C := R_BM) (T := F_BM) (N := 5) (ci := 2) (v := .ref (ad (14 + j))) hx hb hg ku_BM hown hK hI (6 + j) (wd_BM hj) rfl 1 (by decide) kw_35 rfl d_BM_free_22 ?_
      refine lv_iload_n hx hb d_BM_free_25 rfl (lv_at hl 1 rfl) ?_
      refine lv_iconst (v := bI false) hx hb d_BM_free_26 (by decide) ?_
      refine g_zast (ws' := (wd ad cG cZ (uBt σ j (setb (sBt σ j) k false)))) (B := (sBt σ j)) (i := k) (b := false) hx hb hK hI (14 + j) 1 (wd_BA hj) rfl (by omega) (gLen_lt _) (wd_uBt (f := setb (sBt σ j) k false) hj) d_BM_free_27 (fun H locs hI => ?_)
      refine lv_aload_n hx hb d_BM_free_28 rfl (lv_at hl 0 rfl) ?_
      refine lv_dup hx hb d_BM_free_29 rfl ?_
      refine g_get (own := "GroupBitmaps$Bitmap") (C := R_BM) (T := F_BM) (N := 5) (ci := 2) (v := .int (nI (sFr (uBt σ j (setb (sBt σ j) k false)) j))) hx hb hg ku_BM hown hK hI (6 + j) (wd_BM hj) rfl 3 (by decide) kw_38 rfl d_BM_free_30 ?_
      refine lv_iconst (v := nI 1) hx hb d_BM_free_33 (by decide) ?_
      refine r_iadd (a := sFr (uBt σ j (setb (sBt σ j) k false)) j) (b := 1) hx hb d_BM_free_34 ?_
      refine g_put (ws' := (wd ad cG cZ (uFr (uBt σ j (setb (sBt σ j) k false)) j (sFr σ j + 1)))) (own := "GroupBitmaps$Bitmap") (C := R_BM) (T := F_BM) (N := 5) (ci := 2) (v := .int (nI ((sFr (uBt σ j (setb (sBt σ j) k false)) j) + 1))) hx hb hg ku_BM t_BM t_BM_ok n_BM hown hK hI (6 + j) (wd_BM hj) rfl 3 (by decide) kw_38 rfl rfl (rfl) (rfl) (Nat.le_of_ble_eq_true rfl) (wd_uFr hj) d_BM_free_35 (fun H locs hI => ?_)
      refine lv_aload_n hx hb d_BM_free_38 rfl (lv_at hl 0 rfl) ?_
      refine lv_iconst (v := bI true) hx hb d_BM_free_39 (by decide) ?_
      refine g_put (ws' := (wd ad cG cZ (uTd (uFr (uBt σ j (setb (sBt σ j) k false)) j (sFr σ j + 1)) j true))) (own := "GroupBitmaps$Bitmap") (C := R_BM) (T := F_BM) (N := 5) (ci := 2) (v := .int (bI true)) hx hb hg ku_BM t_BM t_BM_ok n_BM hown hK hI (6 + j) (wd_BM hj) rfl 4 (by decide) kw_41 rfl rfl (bI_n _) (bI_fit _) (Nat.le_of_ble_eq_true rfl) (wd_uTd hj) d_BM_free_40 (fun H locs hI => ?_)
      exact g_rv hx hb hr hlk hI (rfl) d_BM_free_43
set_option maxHeartbeats 4000000 in
set_option maxRecDepth 100000 in
/-- layOut(a, f) -/
theorem c_BM_layOut {l : Launch} {D : va_G} {cG cZ cI cJ : ClassId} {ad : Nat → Nat} (σ : gS) (j : Nat) (hj : j < 8) (a f : Nat) (ha : a < 2 ^ 31) (hfa : f ≤ a) : gMet l D (gT cG cZ cI cJ) y_BM_layOut b_BM_layOut 4 none ({ frames := 0, cells := 0, slots := 0, locals := 0 }) (wd ad cG cZ σ) [.ref (ad (6 + j)), .int (nI a), .int (nI f)] (wd ad cG cZ (sLay σ j a f)) (none) := by
  refine gMet_of (by decide) (Nat.le_of_ble_eq_true rfl) ?_
  intro p e s m below meth c A ls hC hA hI hl
  obtain ⟨hx, hb, hr, hlk, hown, hml, hg, hK⟩ := hC
  have hown : s.vm.findClass "GroupBitmaps$Bitmap" = some m.cls := hown
  have hl : lv_has ls 4 [(0, .ref (ad (6 + j))), (1, .int (nI a)), (2, .int (nI f))] := hl
  have hz2 := gLen_le j
  refine lv_iconst (v := nI 0) hx hb d_BM_layOut_0 (by decide) ?_
  refine lv_istore_n (lv' := [(3, .int (nI 0)), (0, .ref (ad (6 + j))), (1, .int (nI a)), (2, .int (nI f))]) hx hb d_BM_layOut_1 rfl hl (by decide) rfl (fun ls hl => ?_)
  have loop : ∀ (fuel : Nat) (k : Nat), gLen j + 1 ≤ fuel + k → (k ≤ gLen j) → ∀ (H : Heap) (locs : List Loc) (ls : Array Slot), gI D A s.heap (wd ad cG cZ (uBt σ j (lyf (sBt σ j) f a k))) H locs → lv_has ls 4 [(0, .ref (ad (6 + j))), (1, .int (nI a)), (2, .int (nI f)), (3, .int (nI k))] → W p l e ({ frames := 0, cells := 0, slots := 0, locals := 0 }) s m ([.ref (ad (6 + j)), .int (nI a), .int (nI f)] : List Value).toArray below meth c H locs 0 0 (gQ D below ([.ref (ad (6 + j)), .int (nI a), .int (nI f)] : List Value).toArray s A (wd ad cG cZ (sLay σ j a f)) (none)) (F0 m 2 ls []) := by
    intro fuel
    induction fuel with
    | zero => intro k hfu hk; exact absurd hfu (by omega)
    | succ fuel ih =>
      intro k hfu hk H locs ls hI hl
      refine lv_iload_n hx hb d_BM_layOut_2 rfl (lv_at hl 3 rfl) ?_
      refine lv_aload_n hx hb d_BM_layOut_3 rfl (lv_at hl 0 rfl) ?_
      refine g_get (own := "GroupBitmaps$Bitmap") (C := R_BM) (T := F_BM) (N := 5) (ci := 2) (v := .ref (ad (14 + j))) hx hb hg ku_BM hown hK hI (6 + j) (wd_BM hj) rfl 1 (by decide) kw_35 rfl d_BM_layOut_4 ?_
      refine g_alen hx hb hK hI (14 + j) 1 (wd_BA hj) rfl d_BM_layOut_7 ?_
      refine r_ge (a := k) (b := gLen j) (tgt := 38) hx hb d_BM_layOut_8 (by decide) (by omega) (gLen_lt _) (fun h => ?_) (fun h => ?_)
      · obtain rfl : k = gLen j := by omega
        refine lv_aload_n hx hb d_BM_layOut_38 rfl (lv_at hl 0 rfl) ?_
        refine lv_iload_n hx hb d_BM_layOut_39 rfl (lv_at hl 1 rfl) ?_
        refine g_put (ws' := (wd ad cG cZ (uSz (uBt σ j (lyf (sBt σ j) f a (gLen j))) j a))) (own := "GroupBitmaps$Bitmap") (C := R_BM) (T := F_BM) (N := 5) (ci := 2) (v := .int (nI a)) hx hb hg ku_BM t_BM t_BM_ok n_BM hown hK hI (6 + j) (wd_BM hj) rfl 2 (by decide) kw_36 rfl rfl (rfl) (rfl) (Nat.le_of_ble_eq_true rfl) (wd_uSz hj) d_BM_layOut_40 (fun H locs hI => ?_)
        refine lv_aload_n hx hb d_BM_layOut_43 rfl (lv_at hl 0 rfl) ?_
        refine lv_iload_n hx hb d_BM_layOut_44 rfl (lv_at hl 1 rfl) ?_
        refine lv_iload_n hx hb d_BM_layOut_45 rfl (lv_at hl 2 rfl) ?_
        refine r_isub (a := a) (b := f) hx hb (by omega) d_BM_layOut_46 ?_
        refine g_put (ws' := (wd ad cG cZ (uFr (uSz (uBt σ j (lyf (sBt σ j) f a (gLen j))) j a) j (a - f)))) (own := "GroupBitmaps$Bitmap") (C := R_BM) (T := F_BM) (N := 5) (ci := 2) (v := .int (nI (a - f))) hx hb hg ku_BM t_BM t_BM_ok n_BM hown hK hI (6 + j) (wd_BM hj) rfl 3 (by decide) kw_38 rfl rfl (rfl) (rfl) (Nat.le_of_ble_eq_true rfl) (wd_uFr hj) d_BM_layOut_47 (fun H locs hI => ?_)
        refine lv_aload_n hx hb d_BM_layOut_50 rfl (lv_at hl 0 rfl) ?_
        refine lv_iconst (v := bI true) hx hb d_BM_layOut_51 (by decide) ?_
        refine g_put (ws' := (wd ad cG cZ (uTd (uFr (uSz (uBt σ j (lyf (sBt σ j) f a (gLen j))) j a) j (a - f)) j true))) (own := "GroupBitmaps$Bitmap") (C := R_BM) (T := F_BM) (N := 5) (ci := 2) (v := .int (bI true)) hx hb hg ku_BM t_BM t_BM_ok n_BM hown hK hI (6 + j) (wd_BM hj) rfl 4 (by decide) kw_41 rfl rfl (bI_n _) (bI_fit _) (Nat.le_of_ble_eq_true rfl) (wd_uTd hj) d_BM_layOut_52 (fun H locs hI => ?_)
        exact g_rv hx hb hr hlk hI (rfl) d_BM_layOut_55
      · refine lv_aload_n hx hb d_BM_layOut_11 rfl (lv_at hl 0 rfl) ?_
        refine g_get (own := "GroupBitmaps$Bitmap") (C := R_BM) (T := F_BM) (N := 5) (ci := 2) (v := .ref (ad (14 + j))) hx hb hg ku_BM hown hK hI (6 + j) (wd_BM hj) rfl 1 (by decide) kw_35 rfl d_BM_layOut_12 ?_
        refine lv_iload_n hx hb d_BM_layOut_15 rfl (lv_at hl 3 rfl) ?_
        refine lv_iload_n hx hb d_BM_layOut_16 rfl (lv_at hl 3 rfl) ?_
        refine lv_iload_n hx hb d_BM_layOut_17 rfl (lv_at hl 2 rfl) ?_
        refine r_lt (a := k) (b := f) (tgt := 26) hx hb d_BM_layOut_18 (by decide) (by omega) (by omega) (fun h2 => ?_) (fun h2 => ?_)
        · refine lv_iconst (v := bI true) hx hb d_BM_layOut_26 (by decide) ?_
          refine lv_goto (tgt := 31) hx hb d_BM_layOut_27 (by decide) ?_
          refine g_zast (ws' := (wd ad cG cZ (uBt σ j (lyf (sBt σ j) f a (k + 1))))) (B := (sBt (uBt σ j (lyf (sBt σ j) f a k)) j)) (i := k) (b := true) hx hb hK hI (14 + j) 1 (wd_BA hj) rfl (by omega) (gLen_lt _) (lay_step hj (by simp [lyv]; omega)) d_BM_layOut_31 (fun H locs hI => ?_)
          refine lv_iinc (v := nI (k + 1)) (lv' := [(3, .int (nI (k + 1))), (0, .ref (ad (6 + j))), (1, .int (nI a)), (2, .int (nI f))]) hx hb d_BM_layOut_32 hl (k := 3) rfl (nI_1 _) (by decide) rfl (fun ls hl => ?_)
          refine lv_goto (tgt := 2) hx hb d_BM_layOut_35 (by decide) ?_
          exact ih (k + 1) (by omega) (by omega) _ _ _ hI (lv_sub hl [1, 2, 3, 0] rfl)
        · refine lv_iload_n hx hb d_BM_layOut_21 rfl (lv_at hl 3 rfl) ?_
          refine lv_iload_n hx hb d_BM_layOut_22 rfl (lv_at hl 1 rfl) ?_
          refine r_lt (a := k) (b := a) (tgt := 30) hx hb d_BM_layOut_23 (by decide) (by omega) (by omega) (fun h3 => ?_) (fun h3 => ?_)
          · refine lv_iconst (v := bI false) hx hb d_BM_layOut_30 (by decide) ?_
            refine g_zast (ws' := (wd ad cG cZ (uBt σ j (lyf (sBt σ j) f a (k + 1))))) (B := (sBt (uBt σ j (lyf (sBt σ j) f a k)) j)) (i := k) (b := false) hx hb hK hI (14 + j) 1 (wd_BA hj) rfl (by omega) (gLen_lt _) (lay_step hj (by simp [lyv]; omega)) d_BM_layOut_31 (fun H locs hI => ?_)
            refine lv_iinc (v := nI (k + 1)) (lv' := [(3, .int (nI (k + 1))), (0, .ref (ad (6 + j))), (1, .int (nI a)), (2, .int (nI f))]) hx hb d_BM_layOut_32 hl (k := 3) rfl (nI_1 _) (by decide) rfl (fun ls hl => ?_)
            refine lv_goto (tgt := 2) hx hb d_BM_layOut_35 (by decide) ?_
            exact ih (k + 1) (by omega) (by omega) _ _ _ hI (lv_sub hl [1, 2, 3, 0] rfl)
          · refine lv_iconst (v := bI true) hx hb d_BM_layOut_26 (by decide) ?_
            refine lv_goto (tgt := 31) hx hb d_BM_layOut_27 (by decide) ?_
            refine g_zast (ws' := (wd ad cG cZ (uBt σ j (lyf (sBt σ j) f a (k + 1))))) (B := (sBt (uBt σ j (lyf (sBt σ j) f a k)) j)) (i := k) (b := true) hx hb hK hI (14 + j) 1 (wd_BA hj) rfl (by omega) (gLen_lt _) (lay_step hj (by simp [lyv]; omega)) d_BM_layOut_31 (fun H locs hI => ?_)
            refine lv_iinc (v := nI (k + 1)) (lv' := [(3, .int (nI (k + 1))), (0, .ref (ad (6 + j))), (1, .int (nI a)), (2, .int (nI f))]) hx hb d_BM_layOut_32 hl (k := 3) rfl (nI_1 _) (by decide) rfl (fun ls hl => ?_)
            refine lv_goto (tgt := 2) hx hb d_BM_layOut_35 (by decide) ?_
            exact ih (k + 1) (by omega) (by omega) _ _ _ hI (lv_sub hl [1, 2, 3, 0] rfl)
  exact loop (gLen j + 1) 0 (by omega) (Nat.zero_le _) _ _ _ (by rw [lyf_0, uBt_id]; exact hI) (lv_sub hl [1, 2, 3, 0] rfl)
set_option maxHeartbeats 4000000 in
set_option maxRecDepth 100000 in
/-- forgetTold() -/
theorem c_BM_forgetTold {l : Launch} {D : va_G} {cG cZ cI cJ : ClassId} {ad : Nat → Nat} (σ : gS) (j : Nat) (hj : j < 8)  : gMet l D (gT cG cZ cI cJ) y_BM_forgetTold b_BM_forgetTold 2 (some .int) ({ frames := 0, cells := 0, slots := 0, locals := 0 }) (wd ad cG cZ σ) [.ref (ad (6 + j))] (wd ad cG cZ (uTd σ j false)) (some (.int (nI (if sTd σ j = true then 1 else 0)))) := by
  refine gMet_of (by decide) (Nat.le_of_ble_eq_true rfl) ?_
  intro p e s m below meth c A ls hC hA hI hl
  obtain ⟨hx, hb, hr, hlk, hown, hml, hg, hK⟩ := hC
  have hown : s.vm.findClass "GroupBitmaps$Bitmap" = some m.cls := hown
  have hl : lv_has ls 2 [(0, .ref (ad (6 + j)))] := hl
  refine lv_aload_n hx hb d_BM_forgetTold_0 rfl (lv_at hl 0 rfl) ?_
  refine g_get (own := "GroupBitmaps$Bitmap") (C := R_BM) (T := F_BM) (N := 5) (ci := 2) (v := .int (bI (sTd σ j))) hx hb hg ku_BM hown hK hI (6 + j) (wd_BM hj) rfl 4 (by decide) kw_41 rfl d_BM_forgetTold_1 ?_
  refine r_bz (b := sTd σ j) (tgt := 11) hx hb d_BM_forgetTold_4 (by decide) (fun h => ?_) (fun h => ?_)
  · refine lv_iconst (v := nI 0) hx hb d_BM_forgetTold_11 (by decide) ?_
    refine lv_istore_n (lv' := [(1, .int (nI 0)), (0, .ref (ad (6 + j)))]) hx hb d_BM_forgetTold_12 rfl hl (by decide) rfl (fun ls hl => ?_)
    refine lv_aload_n hx hb d_BM_forgetTold_13 rfl (lv_at hl 1 rfl) ?_
    refine lv_iconst (v := bI false) hx hb d_BM_forgetTold_14 (by decide) ?_
    refine g_put (ws' := (wd ad cG cZ (uTd σ j false))) (own := "GroupBitmaps$Bitmap") (C := R_BM) (T := F_BM) (N := 5) (ci := 2) (v := .int (bI false)) hx hb hg ku_BM t_BM t_BM_ok n_BM hown hK hI (6 + j) (wd_BM hj) rfl 4 (by decide) kw_41 rfl rfl (bI_n _) (bI_fit _) (Nat.le_of_ble_eq_true rfl) (wd_uTd hj) d_BM_forgetTold_15 (fun H locs hI => ?_)
    refine lv_iload_n hx hb d_BM_forgetTold_18 rfl (lv_at hl 0 rfl) ?_
    exact g_ri hx hb hr hlk hI (by rw [h]; rfl) d_BM_forgetTold_19
  · refine lv_iconst (v := nI 1) hx hb d_BM_forgetTold_7 (by decide) ?_
    refine lv_goto (tgt := 12) hx hb d_BM_forgetTold_8 (by decide) ?_
    refine lv_istore_n (lv' := [(1, .int (nI 1)), (0, .ref (ad (6 + j)))]) hx hb d_BM_forgetTold_12 rfl hl (by decide) rfl (fun ls hl => ?_)
    refine lv_aload_n hx hb d_BM_forgetTold_13 rfl (lv_at hl 1 rfl) ?_
    refine lv_iconst (v := bI false) hx hb d_BM_forgetTold_14 (by decide) ?_
    refine g_put (ws' := (wd ad cG cZ (uTd σ j false))) (own := "GroupBitmaps$Bitmap") (C := R_BM) (T := F_BM) (N := 5) (ci := 2) (v := .int (bI false)) hx hb hg ku_BM t_BM t_BM_ok n_BM hown hK hI (6 + j) (wd_BM hj) rfl 4 (by decide) kw_41 rfl rfl (bI_n _) (bI_fit _) (Nat.le_of_ble_eq_true rfl) (wd_uTd hj) d_BM_forgetTold_15 (fun H locs hI => ?_)
    refine lv_iload_n hx hb d_BM_forgetTold_18 rfl (lv_at hl 0 rfl) ?_
    exact g_ri hx hb hr hlk hI (by rw [h]; rfl) d_BM_forgetTold_19
end
section
theorem byo : ∀ k, k < 8 → ∀ a, a < 2 ^ k → nI a ||| (nI 1 <<< (nI k &&& 31)) = nI (a + 2 ^ k) := by decide +kernel
theorem sBy_lt (σ : gS) (j i k : Nat) : sBy σ j i k < 2 ^ k := by
  induction k with
  | zero => exact Nat.one_pos
  | succ k ih =>
    have h2 : (2 : Nat) ^ (k + 1) = 2 ^ k + 2 ^ k := by rw [Nat.pow_succ]; omega
    generalize hq : (2 : Nat) ^ k = q at h2 ih
    cases hc : sSet σ j (8 * i + k) with
    | true =>
      have e1 : sBy σ j i (k + 1) = sBy σ j i k + 2 ^ k := by simp [sBy, hc]
      rw [e1, h2, hq]
      omega
    | false =>
      have e1 : sBy σ j i (k + 1) = sBy σ j i k := by simp [sBy, hc]
      rw [e1, h2]
      omega
theorem sLf_some {σ : gS} {j k n : Nat} (h : sLf σ j k = none) (hs : sSet σ j k = false) (hk : k < n) : sLf σ j n = some k := by
  obtain ⟨t, rfl⟩ : ∃ t, n = k + 1 + t := ⟨n - (k + 1), by omega⟩
  clear hk
  induction t with
  | zero => simp [sLf, h, hs]
  | succ t ih =>
    show (match sLf σ j (k + 1 + t) with | some q => some q | none => _) = _
    rw [ih]
theorem sLf_step {σ : gS} {j k : Nat} (h : sLf σ j k = none) (hs : sSet σ j k = true) : sLf σ j (k + 1) = none := by
  simp [sLf, h, hs]
theorem sAf_false {σ : gS} {j a t n : Nat} (hs : sSet σ j (a + t) = true) (hk : t < n) : sAf σ j a n = false := by
  obtain ⟨u, rfl⟩ : ∃ u, n = t + 1 + u := ⟨n - (t + 1), by omega⟩
  clear hk
  induction u with
  | zero => simp [sAf, hs]
  | succ u ih =>
    show (sAf σ j a (t + 1 + u) && _) = false
    rw [ih]; rfl
theorem sAf_step {σ : gS} {j a t : Nat} (h : sAf σ j a t = true) (hs : sSet σ j (a + t) = false) : sAf σ j a (t + 1) = true := by
  simp [sAf, h, hs]
theorem sLr_t {σ : gS} {j k : Nat} (h : sSet σ j k = true) : sLr σ j (k + 1) = (Nat.max (sLr σ j k).1 0, 0) := by simp [sLr, h, sLen]
theorem sLr_f {σ : gS} {j k : Nat} (h : sSet σ j k = false) : sLr σ j (k + 1) = (Nat.max (sLr σ j k).1 ((sLr σ j k).2 + 1), (sLr σ j k).2 + 1) := by simp [sLr, h, sLen]
theorem sSr_s {σ : gS} {j n k len : Nat} (hl : sLen (sSet σ j k) (sSr σ j n k).2.2 = len) : sSr σ j n (k + 1) = sSrN n k (sSr σ j n k) len (sSet σ j (k + 1)) := by rw [← hl]; rfl
theorem sSrN_1 {n k len : Nat} {q : Option Nat × Nat × Nat} {e : Bool} (h : len < n) : sSrN n k q len e = (q.1, q.2.1, len) := if_neg (fun z => absurd z.1 (Nat.not_le.mpr h))
theorem sSrN_2 {n k len : Nat} {q : Option Nat × Nat × Nat} {e : Bool} (h : q.2.1 ≤ len) : sSrN n k q len e = (q.1, q.2.1, len) := if_neg (fun z => absurd z.2.1 (Nat.not_lt.mpr h))
theorem sSrN_3 {n k len : Nat} {q : Option Nat × Nat × Nat} {e : Bool} (h : e = false) : sSrN n k q len e = (q.1, q.2.1, len) := if_neg (fun z => by rw [h] at z; exact absurd z.2.2 (by decide))
theorem sSrN_4 {n k len : Nat} {q : Option Nat × Nat × Nat} {e : Bool} (h1 : n ≤ len) (h2 : len < q.2.1) (h : e = true) : sSrN n k q len e = (some (k + 1 - len), len, len) := if_pos ⟨h1, h2, h⟩
end
section
set_option maxHeartbeats 4000000 in
set_option maxRecDepth 100000 in
/-- byteAt(i) -/
theorem c_BM_byteAt {l : Launch} {D : va_G} {cG cZ cI cJ : ClassId} {ad : Nat → Nat} (σ : gS) (j : Nat) (hj : j < 8) (i : Nat) (hi : i < 4096) : gMet l D (gT cG cZ cI cJ) y_BM_byteAt b_BM_byteAt 4 (some .int) ({ frames := 1, cells := 0, slots := 0, locals := 21 }) (wd ad cG cZ σ) [.ref (ad (6 + j)), .int (nI i)] (wd ad cG cZ σ) (some (.int (nI (sBy σ j i 8)))) := by
  refine gMet_of (by decide) (Nat.le_of_ble_eq_true rfl) ?_
  intro p e s m below meth c A ls hC hA hI hl
  obtain ⟨hx, hb, hr, hlk, hown, hml, hg, hK⟩ := hC
  have hown : s.vm.findClass "GroupBitmaps$Bitmap" = some m.cls := hown
  have hl : lv_has ls 4 [(0, .ref (ad (6 + j))), (1, .int (nI i))] := hl
  have hz2 := gLen_le j
  refine lv_iconst (v := nI 0) hx hb d_BM_byteAt_0 (by decide) ?_
  refine lv_istore_n (lv' := [(2, .int (nI 0)), (0, .ref (ad (6 + j))), (1, .int (nI i))]) hx hb d_BM_byteAt_1 rfl hl (by decide) rfl (fun ls hl => ?_)
  refine lv_iconst (v := nI 0) hx hb d_BM_byteAt_2 (by decide) ?_
  refine lv_istore_n (lv' := [(3, .int (nI 0)), (2, .int (nI 0)), (0, .ref (ad (6 + j))), (1, .int (nI i))]) hx hb d_BM_byteAt_3 rfl hl (by decide) rfl (fun ls hl => ?_)
  have loop : ∀ (fuel : Nat) (k : Nat), 9 ≤ fuel + k → (k ≤ 8) → ∀ (H : Heap) (locs : List Loc) (ls : Array Slot), gI D A s.heap (wd ad cG cZ σ) H locs → lv_has ls 4 [(0, .ref (ad (6 + j))), (1, .int (nI i)), (2, .int (nI (sBy σ j i k))), (3, .int (nI k))] → W p l e ({ frames := 1, cells := 0, slots := 0, locals := 21 }) s m ([.ref (ad (6 + j)), .int (nI i)] : List Value).toArray below meth c H locs 0 0 (gQ D below ([.ref (ad (6 + j)), .int (nI i)] : List Value).toArray s A (wd ad cG cZ σ) (some (.int (nI (sBy σ j i 8))))) (F0 m 4 ls []) := by
    intro fuel
    induction fuel with
    | zero => intro k hfu hk; exact absurd hfu (by omega)
    | succ fuel ih =>
      intro k hfu hk H locs ls hI hl
      refine lv_iload_n hx hb d_BM_byteAt_4 rfl (lv_at hl 3 rfl) ?_
      refine lv_bipush (v := nI 8) hx hb d_BM_byteAt_5 (by decide) ?_
      refine r_ge (a := k) (b := 8) (tgt := 35) hx hb d_BM_byteAt_7 (by decide) (by omega) (by omega) (fun h => ?_) (fun h => ?_)
      · obtain rfl : k = 8 := by omega
        refine lv_iload_n hx hb d_BM_byteAt_35 rfl (lv_at hl 2 rfl) ?_
        exact g_ri hx hb hr hlk hI (rfl) d_BM_byteAt_36
      · refine lv_aload_n hx hb d_BM_byteAt_10 rfl (lv_at hl 0 rfl) ?_
        refine lv_bipush (v := nI 8) hx hb d_BM_byteAt_11 (by decide) ?_
        refine lv_iload_n hx hb d_BM_byteAt_13 rfl (lv_at hl 1 rfl) ?_
        refine r_imul (a := 8) (b := i) hx hb d_BM_byteAt_14 ?_
        refine lv_iload_n hx hb d_BM_byteAt_15 rfl (lv_at hl 3 rfl) ?_
        refine r_iadd (a := 8 * i) (b := k) hx hb d_BM_byteAt_16 ?_
        refine g_callV (own := "GroupBitmaps$Bitmap") (C := "GroupBitmaps$Bitmap") (T := F_BM) (N := 5) (k := 1) (q0 := 6 + j) (ci := 2) (a := ad (6 + j)) (As := [.int (nI ((8 * i) + k))]) (rest := []) (c_BM_isSet σ j hj (8 * i + k) (by omega)) hx hb hml hown hg hK hI hA kw_264 kw_265 kw_266 kw_3 kw_267 ky_BM_isSet ⟨Nat.le_of_ble_eq_true rfl, Nat.le_of_ble_eq_true rfl⟩ rfl rfl (wd_BM hj) rfl rfl hl.1 (Nat.le_of_ble_eq_true rfl) ⟨Nat.zero_le _, Nat.zero_le _⟩ d_BM_byteAt_17 rfl rfl (fun H locs hI => ?_)
        refine r_bz (b := sSet σ j (8 * i + k)) (tgt := 29) hx hb d_BM_byteAt_20 (by decide) (fun h2 => ?_) (fun h2 => ?_)
        · have e1 : sBy σ j i (k + 1) = sBy σ j i k := by simp [sBy, h2]
          refine lv_iinc (v := nI (k + 1)) (lv' := [(3, .int (nI (k + 1))), (0, .ref (ad (6 + j))), (1, .int (nI i)), (2, .int (nI (sBy σ j i k)))]) hx hb d_BM_byteAt_29 hl (k := 3) rfl (nI_1 _) (by decide) rfl (fun ls hl => ?_)
          refine lv_goto (tgt := 4) hx hb d_BM_byteAt_32 (by decide) ?_
          exact ih (k + 1) (by omega) (by omega) _ _ _ hI (by rw [e1]; exact lv_sub hl [1, 2, 3, 0] rfl)
        · have e1 : sBy σ j i (k + 1) = sBy σ j i k + 2 ^ k := by simp [sBy, h2]
          refine lv_iload_n hx hb d_BM_byteAt_23 rfl (lv_at hl 2 rfl) ?_
          refine lv_iconst (v := nI 1) hx hb d_BM_byteAt_24 (by decide) ?_
          refine lv_iload_n hx hb d_BM_byteAt_25 rfl (lv_at hl 3 rfl) ?_
          refine lv_ishl hx hb d_BM_byteAt_26 ?_
          refine lv_ior hx hb d_BM_byteAt_27 ?_
          rw [byo k (by omega) _ (sBy_lt σ j i k)]
          refine lv_istore_n (lv' := [(2, .int (nI (sBy σ j i k + 2 ^ k))), (0, .ref (ad (6 + j))), (1, .int (nI i)), (3, .int (nI k))]) hx hb d_BM_byteAt_28 rfl hl (by decide) rfl (fun ls hl => ?_)
          refine lv_iinc (v := nI (k + 1)) (lv' := [(3, .int (nI (k + 1))), (2, .int (nI (sBy σ j i k + 2 ^ k))), (0, .ref (ad (6 + j))), (1, .int (nI i))]) hx hb d_BM_byteAt_29 hl (k := 3) rfl (nI_1 _) (by decide) rfl (fun ls hl => ?_)
          refine lv_goto (tgt := 4) hx hb d_BM_byteAt_32 (by decide) ?_
          exact ih (k + 1) (by omega) (by omega) _ _ _ hI (by rw [e1]; exact lv_sub hl [2, 3, 1, 0] rfl)
  exact loop 9 0 (by omega) (by omega) _ _ _ hI (lv_sub hl [2, 3, 1, 0] rfl)
set_option maxHeartbeats 4000000 in
set_option maxRecDepth 100000 in
/-- leastFree() -/
theorem c_BM_leastFree {l : Launch} {D : va_G} {cG cZ cI cJ : ClassId} {ad : Nat → Nat} (σ : gS) (j : Nat) (hj : j < 8) (hz : sSz σ j ≤ gLen j) : gMet l D (gT cG cZ cI cJ) y_BM_leastFree b_BM_leastFree 2 (some .int) ({ frames := 1, cells := 0, slots := 0, locals := 21 }) (wd ad cG cZ σ) [.ref (ad (6 + j))] (wd ad cG cZ σ) (some (.int (oI (sLf σ j (sSz σ j))))) := by
  refine gMet_of (by decide) (Nat.le_of_ble_eq_true rfl) ?_
  intro p e s m below meth c A ls hC hA hI hl
  obtain ⟨hx, hb, hr, hlk, hown, hml, hg, hK⟩ := hC
  have hown : s.vm.findClass "GroupBitmaps$Bitmap" = some m.cls := hown
  have hl : lv_has ls 2 [(0, .ref (ad (6 + j)))] := hl
  have hz2 := gLen_le j
  refine lv_iconst (v := nI 0) hx hb d_BM_leastFree_0 (by decide) ?_
  refine lv_istore_n (lv' := [(1, .int (nI 0)), (0, .ref (ad (6 + j)))]) hx hb d_BM_leastFree_1 rfl hl (by decide) rfl (fun ls hl => ?_)
  have loop : ∀ (fuel : Nat) (k : Nat), sSz σ j + 1 ≤ fuel + k → (k ≤ sSz σ j) → (sLf σ j k = none) → ∀ (H : Heap) (locs : List Loc) (ls : Array Slot), gI D A s.heap (wd ad cG cZ σ) H locs → lv_has ls 2 [(0, .ref (ad (6 + j))), (1, .int (nI k))] → W p l e ({ frames := 1, cells := 0, slots := 0, locals := 21 }) s m ([.ref (ad (6 + j))] : List Value).toArray below meth c H locs 0 0 (gQ D below ([.ref (ad (6 + j))] : List Value).toArray s A (wd ad cG cZ σ) (some (.int (oI (sLf σ j (sSz σ j)))))) (F0 m 2 ls []) := by
    intro fuel
    induction fuel with
    | zero => intro k hfu hk hn; exact absurd hfu (by omega)
    | succ fuel ih =>
      intro k hfu hk hn H locs ls hI hl
      refine lv_iload_n hx hb d_BM_leastFree_2 rfl (lv_at hl 1 rfl) ?_
      refine lv_aload_n hx hb d_BM_leastFree_3 rfl (lv_at hl 0 rfl) ?_
      refine g_get (own := "GroupBitmaps$Bitmap") (C := R_BM) (T := F_BM) (N := 5) (ci := 2) (v := .int (nI (sSz σ j))) hx hb hg ku_BM hown hK hI (6 + j) (wd_BM hj) rfl 2 (by decide) kw_36 rfl d_BM_leastFree_4 ?_
      refine r_ge (a := k) (b := sSz σ j) (tgt := 26) hx hb d_BM_leastFree_7 (by decide) (by omega) (by omega) (fun h => ?_) (fun h => ?_)
      · obtain rfl : k = sSz σ j := by omega
        refine lv_iconst (v := (-1)) hx hb d_BM_leastFree_26 (by decide) ?_
        exact g_ri hx hb hr hlk hI (by rw [hn]; rfl) d_BM_leastFree_27
      · refine lv_aload_n hx hb d_BM_leastFree_10 rfl (lv_at hl 0 rfl) ?_
        refine lv_iload_n hx hb d_BM_leastFree_11 rfl (lv_at hl 1 rfl) ?_
        refine g_callV (own := "GroupBitmaps$Bitmap") (C := "GroupBitmaps$Bitmap") (T := F_BM) (N := 5) (k := 1) (q0 := 6 + j) (ci := 2) (a := ad (6 + j)) (As := [.int (nI k)]) (rest := []) (c_BM_isSet σ j hj k (by omega)) hx hb hml hown hg hK hI hA kw_264 kw_265 kw_266 kw_3 kw_267 ky_BM_isSet ⟨Nat.le_of_ble_eq_true rfl, Nat.le_of_ble_eq_true rfl⟩ rfl rfl (wd_BM hj) rfl rfl hl.1 (Nat.le_of_ble_eq_true rfl) ⟨Nat.zero_le _, Nat.zero_le _⟩ d_BM_leastFree_12 rfl rfl (fun H locs hI => ?_)
        refine r_bnz (b := sSet σ j k) (tgt := 20) hx hb d_BM_leastFree_15 (by decide) (fun h2 => ?_) (fun h2 => ?_)
        · refine lv_iinc (v := nI (k + 1)) (lv' := [(1, .int (nI (k + 1))), (0, .ref (ad (6 + j)))]) hx hb d_BM_leastFree_20 hl (k := 1) rfl (nI_1 _) (by decide) rfl (fun ls hl => ?_)
          refine lv_goto (tgt := 2) hx hb d_BM_leastFree_23 (by decide) ?_
          exact ih (k + 1) (by omega) (by omega) (sLf_step hn h2) _ _ _ hI (lv_sub hl [1, 0] rfl)
        · refine lv_iload_n hx hb d_BM_leastFree_18 rfl (lv_at hl 1 rfl) ?_
          exact g_ri hx hb hr hlk hI (by rw [sLf_some hn h2 h]; rfl) d_BM_leastFree_19
  exact loop (sSz σ j + 1) 0 (by omega) (Nat.zero_le _) rfl _ _ _ hI (lv_sub hl [1, 0] rfl)
set_option maxHeartbeats 4000000 in
set_option maxRecDepth 100000 in
/-- areFree(a, q) -/
theorem c_BM_areFree {l : Launch} {D : va_G} {cG cZ cI cJ : ClassId} {ad : Nat → Nat} (σ : gS) (j : Nat) (hj : j < 8) (a q : Nat) (ha : a < 65536) (hq : q < 65536) : gMet l D (gT cG cZ cI cJ) y_BM_areFree b_BM_areFree 4 (some .boolean) ({ frames := 1, cells := 0, slots := 0, locals := 21 }) (wd ad cG cZ σ) [.ref (ad (6 + j)), .int (nI a), .int (nI q)] (wd ad cG cZ σ) (some (.int (bI (sAf σ j a q)))) := by
  refine gMet_of (by decide) (Nat.le_of_ble_eq_true rfl) ?_
  intro p e s m below meth c A ls hC hA hI hl
  obtain ⟨hx, hb, hr, hlk, hown, hml, hg, hK⟩ := hC
  have hown : s.vm.findClass "GroupBitmaps$Bitmap" = some m.cls := hown
  have hl : lv_has ls 4 [(0, .ref (ad (6 + j))), (1, .int (nI a)), (2, .int (nI q))] := hl
  have hz2 := gLen_le j
  refine lv_iload_n hx hb d_BM_areFree_0 rfl (lv_at hl 1 rfl) ?_
  refine lv_istore_n (lv' := [(3, .int (nI a)), (0, .ref (ad (6 + j))), (1, .int (nI a)), (2, .int (nI q))]) hx hb d_BM_areFree_1 rfl hl (by decide) rfl (fun ls hl => ?_)
  have loop : ∀ (fuel : Nat) (t : Nat), q + 1 ≤ fuel + t → (t ≤ q) → (sAf σ j a t = true) → ∀ (H : Heap) (locs : List Loc) (ls : Array Slot), gI D A s.heap (wd ad cG cZ σ) H locs → lv_has ls 4 [(0, .ref (ad (6 + j))), (1, .int (nI a)), (2, .int (nI q)), (3, .int (nI (a + t)))] → W p l e ({ frames := 1, cells := 0, slots := 0, locals := 21 }) s m ([.ref (ad (6 + j)), .int (nI a), .int (nI q)] : List Value).toArray below meth c H locs 0 0 (gQ D below ([.ref (ad (6 + j)), .int (nI a), .int (nI q)] : List Value).toArray s A (wd ad cG cZ σ) (some (.int (bI (sAf σ j a q))))) (F0 m 2 ls []) := by
    intro fuel
    induction fuel with
    | zero => intro t hfu ht hn; exact absurd hfu (by omega)
    | succ fuel ih =>
      intro t hfu ht hn H locs ls hI hl
      refine lv_iload_n hx hb d_BM_areFree_2 rfl (lv_at hl 3 rfl) ?_
      refine lv_iload_n hx hb d_BM_areFree_3 rfl (lv_at hl 1 rfl) ?_
      refine lv_iload_n hx hb d_BM_areFree_4 rfl (lv_at hl 2 rfl) ?_
      refine r_iadd (a := a) (b := q) hx hb d_BM_areFree_5 ?_
      refine r_ge (a := a + t) (b := a + q) (tgt := 25) hx hb d_BM_areFree_6 (by decide) (by omega) (by omega) (fun h => ?_) (fun h => ?_)
      · obtain rfl : t = q := by omega
        refine lv_iconst (v := bI true) hx hb d_BM_areFree_25 (by decide) ?_
        exact g_rz hx hb hr hlk hI (by rw [hn]) d_BM_areFree_26
      · refine lv_aload_n hx hb d_BM_areFree_9 rfl (lv_at hl 0 rfl) ?_
        refine lv_iload_n hx hb d_BM_areFree_10 rfl (lv_at hl 3 rfl) ?_
        refine g_callV (own := "GroupBitmaps$Bitmap") (C := "GroupBitmaps$Bitmap") (T := F_BM) (N := 5) (k := 1) (q0 := 6 + j) (ci := 2) (a := ad (6 + j)) (As := [.int (nI (a + t))]) (rest := []) (c_BM_isSet σ j hj (a + t) (by omega)) hx hb hml hown hg hK hI hA kw_264 kw_265 kw_266 kw_3 kw_267 ky_BM_isSet ⟨Nat.le_of_ble_eq_true rfl, Nat.le_of_ble_eq_true rfl⟩ rfl rfl (wd_BM hj) rfl rfl hl.1 (Nat.le_of_ble_eq_true rfl) ⟨Nat.zero_le _, Nat.zero_le _⟩ d_BM_areFree_11 rfl rfl (fun H locs hI => ?_)
        refine r_bz (b := sSet σ j (a + t)) (tgt := 19) hx hb d_BM_areFree_14 (by decide) (fun h2 => ?_) (fun h2 => ?_)
        · refine lv_iinc (v := nI ((a + t) + 1)) (lv' := [(3, .int (nI ((a + t) + 1))), (0, .ref (ad (6 + j))), (1, .int (nI a)), (2, .int (nI q))]) hx hb d_BM_areFree_19 hl (k := 3) rfl (nI_1 _) (by decide) rfl (fun ls hl => ?_)
          refine lv_goto (tgt := 2) hx hb d_BM_areFree_22 (by decide) ?_
          exact ih (t + 1) (by omega) (by omega) (sAf_step hn h2) _ _ _ hI (lv_sub hl [1, 2, 3, 0] rfl)
        · refine lv_iconst (v := bI false) hx hb d_BM_areFree_17 (by decide) ?_
          exact g_rz hx hb hr hlk hI (by rw [sAf_false h2 (by omega)]) d_BM_areFree_18
  exact loop (q + 1) 0 (by omega) (Nat.zero_le _) rfl _ _ _ hI (lv_sub hl [1, 2, 3, 0] rfl)
set_option maxHeartbeats 4000000 in
set_option maxRecDepth 100000 in
/-- longestRun() -/
theorem c_BM_longestRun {l : Launch} {D : va_G} {cG cZ cI cJ : ClassId} {ad : Nat → Nat} (σ : gS) (j : Nat) (hj : j < 8) (hz : sSz σ j ≤ gLen j) : gMet l D (gT cG cZ cI cJ) y_BM_longestRun b_BM_longestRun 4 (some .int) ({ frames := 1, cells := 0, slots := 0, locals := 21 }) (wd ad cG cZ σ) [.ref (ad (6 + j))] (wd ad cG cZ σ) (some (.int (nI (sLr σ j (sSz σ j)).1))) := by
  refine gMet_of (by decide) (Nat.le_of_ble_eq_true rfl) ?_
  intro p e s m below meth c A ls hC hA hI hl
  obtain ⟨hx, hb, hr, hlk, hown, hml, hg, hK⟩ := hC
  have hown : s.vm.findClass "GroupBitmaps$Bitmap" = some m.cls := hown
  have hl : lv_has ls 4 [(0, .ref (ad (6 + j)))] := hl
  have hz2 := gLen_le j
  refine lv_iconst (v := nI 0) hx hb d_BM_longestRun_0 (by decide) ?_
  refine lv_istore_n (lv' := [(1, .int (nI 0)), (0, .ref (ad (6 + j)))]) hx hb d_BM_longestRun_1 rfl hl (by decide) rfl (fun ls hl => ?_)
  refine lv_iconst (v := nI 0) hx hb d_BM_longestRun_2 (by decide) ?_
  refine lv_istore_n (lv' := [(2, .int (nI 0)), (1, .int (nI 0)), (0, .ref (ad (6 + j)))]) hx hb d_BM_longestRun_3 rfl hl (by decide) rfl (fun ls hl => ?_)
  refine lv_iconst (v := nI 0) hx hb d_BM_longestRun_4 (by decide) ?_
  refine lv_istore_n (lv' := [(3, .int (nI 0)), (2, .int (nI 0)), (1, .int (nI 0)), (0, .ref (ad (6 + j)))]) hx hb d_BM_longestRun_5 rfl hl (by decide) rfl (fun ls hl => ?_)
  have loop : ∀ (fuel : Nat) (k : Nat), sSz σ j + 1 ≤ fuel + k → (k ≤ sSz σ j) → ∀ (H : Heap) (locs : List Loc) (ls : Array Slot), gI D A s.heap (wd ad cG cZ σ) H locs → lv_has ls 4 [(0, .ref (ad (6 + j))), (1, .int (nI ((sLr σ j k).1))), (2, .int (nI ((sLr σ j k).2))), (3, .int (nI k))] → W p l e ({ frames := 1, cells := 0, slots := 0, locals := 21 }) s m ([.ref (ad (6 + j))] : List Value).toArray below meth c H locs 0 0 (gQ D below ([.ref (ad (6 + j))] : List Value).toArray s A (wd ad cG cZ σ) (some (.int (nI (sLr σ j (sSz σ j)).1)))) (F0 m 6 ls []) := by
    intro fuel
    induction fuel with
    | zero => intro k hfu hk; exact absurd hfu (by omega)
    | succ fuel ih =>
      intro k hfu hk H locs ls hI hl
      have hle := sLr_le σ j k
      refine lv_iload_n hx hb d_BM_longestRun_6 rfl (lv_at hl 3 rfl) ?_
      refine lv_aload_n hx hb d_BM_longestRun_7 rfl (lv_at hl 0 rfl) ?_
      refine g_get (own := "GroupBitmaps$Bitmap") (C := R_BM) (T := F_BM) (N := 5) (ci := 2) (v := .int (nI (sSz σ j))) hx hb hg ku_BM hown hK hI (6 + j) (wd_BM hj) rfl 2 (by decide) kw_36 rfl d_BM_longestRun_8 ?_
      refine r_ge (a := k) (b := sSz σ j) (tgt := 42) hx hb d_BM_longestRun_11 (by decide) (by omega) (by omega) (fun h => ?_) (fun h => ?_)
      · obtain rfl : k = sSz σ j := by omega
        refine lv_iload_n hx hb d_BM_longestRun_42 rfl (lv_at hl 1 rfl) ?_
        exact g_ri hx hb hr hlk hI (rfl) d_BM_longestRun_43
      · refine lv_aload_n hx hb d_BM_longestRun_14 rfl (lv_at hl 0 rfl) ?_
        refine lv_iload_n hx hb d_BM_longestRun_15 rfl (lv_at hl 3 rfl) ?_
        refine g_callV (own := "GroupBitmaps$Bitmap") (C := "GroupBitmaps$Bitmap") (T := F_BM) (N := 5) (k := 1) (q0 := 6 + j) (ci := 2) (a := ad (6 + j)) (As := [.int (nI k)]) (rest := []) (c_BM_isSet σ j hj k (by omega)) hx hb hml hown hg hK hI hA kw_264 kw_265 kw_266 kw_3 kw_267 ky_BM_isSet ⟨Nat.le_of_ble_eq_true rfl, Nat.le_of_ble_eq_true rfl⟩ rfl rfl (wd_BM hj) rfl rfl hl.1 (Nat.le_of_ble_eq_true rfl) ⟨Nat.zero_le _, Nat.zero_le _⟩ d_BM_longestRun_16 rfl rfl (fun H locs hI => ?_)
        refine r_bz (b := sSet σ j k) (tgt := 26) hx hb d_BM_longestRun_19 (by decide) (fun h2 => ?_) (fun h2 => ?_)
        · have e1 := sLr_f h2
          refine lv_iload_n hx hb d_BM_longestRun_26 rfl (lv_at hl 2 rfl) ?_
          refine lv_iconst (v := nI 1) hx hb d_BM_longestRun_27 (by decide) ?_
          refine r_iadd (a := (sLr σ j k).2) (b := 1) hx hb d_BM_longestRun_28 ?_
          refine lv_istore_n (lv' := [(2, .int (nI (((sLr σ j k).2) + 1))), (0, .ref (ad (6 + j))), (1, .int (nI ((sLr σ j k).1))), (3, .int (nI k))]) hx hb d_BM_longestRun_29 rfl hl (by decide) rfl (fun ls hl => ?_)
          refine lv_iload_n hx hb d_BM_longestRun_30 rfl (lv_at hl 2 rfl) ?_
          refine lv_iload_n hx hb d_BM_longestRun_31 rfl (lv_at hl 0 rfl) ?_
          refine r_max (a := (sLr σ j k).1) (b := ((sLr σ j k).2) + 1) (own := "GroupBitmaps$Bitmap") hx hb hml hl.1 hown hg kw_292 kw_213 kw_9 kw_214 (Nat.le_of_ble_eq_true rfl) (Nat.le_of_ble_eq_true rfl) (Nat.zero_le _) (Nat.zero_le _) (by omega) (by omega) d_BM_longestRun_32 ?_
          refine lv_istore_n (lv' := [(1, .int (nI (Nat.max ((sLr σ j k).1) (((sLr σ j k).2) + 1)))), (2, .int (nI (((sLr σ j k).2) + 1))), (0, .ref (ad (6 + j))), (3, .int (nI k))]) hx hb d_BM_longestRun_35 rfl hl (by decide) rfl (fun ls hl => ?_)
          refine lv_iinc (v := nI (k + 1)) (lv' := [(3, .int (nI (k + 1))), (1, .int (nI (Nat.max ((sLr σ j k).1) (((sLr σ j k).2) + 1)))), (2, .int (nI (((sLr σ j k).2) + 1))), (0, .ref (ad (6 + j)))]) hx hb d_BM_longestRun_36 hl (k := 3) rfl (nI_1 _) (by decide) rfl (fun ls hl => ?_)
          refine lv_goto (tgt := 6) hx hb d_BM_longestRun_39 (by decide) ?_
          exact ih (k + 1) (by omega) (by omega) _ _ _ hI (by rw [e1]; exact lv_sub hl [3, 1, 2, 0] rfl)
        · have e1 := sLr_t h2
          refine lv_iconst (v := nI 0) hx hb d_BM_longestRun_22 (by decide) ?_
          refine lv_goto (tgt := 29) hx hb d_BM_longestRun_23 (by decide) ?_
          refine lv_istore_n (lv' := [(2, .int (nI 0)), (0, .ref (ad (6 + j))), (1, .int (nI ((sLr σ j k).1))), (3, .int (nI k))]) hx hb d_BM_longestRun_29 rfl hl (by decide) rfl (fun ls hl => ?_)
          refine lv_iload_n hx hb d_BM_longestRun_30 rfl (lv_at hl 2 rfl) ?_
          refine lv_iload_n hx hb d_BM_longestRun_31 rfl (lv_at hl 0 rfl) ?_
          refine r_max (a := (sLr σ j k).1) (b := 0) (own := "GroupBitmaps$Bitmap") hx hb hml hl.1 hown hg kw_292 kw_213 kw_9 kw_214 (Nat.le_of_ble_eq_true rfl) (Nat.le_of_ble_eq_true rfl) (Nat.zero_le _) (Nat.zero_le _) (by omega) (by omega) d_BM_longestRun_32 ?_
          refine lv_istore_n (lv' := [(1, .int (nI (Nat.max ((sLr σ j k).1) 0))), (2, .int (nI 0)), (0, .ref (ad (6 + j))), (3, .int (nI k))]) hx hb d_BM_longestRun_35 rfl hl (by decide) rfl (fun ls hl => ?_)
          refine lv_iinc (v := nI (k + 1)) (lv' := [(3, .int (nI (k + 1))), (1, .int (nI (Nat.max ((sLr σ j k).1) 0))), (2, .int (nI 0)), (0, .ref (ad (6 + j)))]) hx hb d_BM_longestRun_36 hl (k := 3) rfl (nI_1 _) (by decide) rfl (fun ls hl => ?_)
          refine lv_goto (tgt := 6) hx hb d_BM_longestRun_39 (by decide) ?_
          exact ih (k + 1) (by omega) (by omega) _ _ _ hI (by rw [e1]; exact lv_sub hl [3, 1, 2, 0] rfl)
  exact loop (sSz σ j + 1) 0 (by omega) (Nat.zero_le _) _ _ _ hI (lv_sub hl [3, 2, 1, 0] rfl)
set_option maxHeartbeats 4000000 in
set_option maxRecDepth 100000 in
/-- shortestRun(q) -/
theorem c_BM_shortestRun {l : Launch} {D : va_G} {cG cZ cI cJ : ClassId} {ad : Nat → Nat} (σ : gS) (j : Nat) (hj : j < 8) (q : Nat) (hq : q < 65536) (hz : sSz σ j ≤ gLen j) : gMet l D (gT cG cZ cI cJ) y_BM_shortestRun b_BM_shortestRun 6 (some .int) ({ frames := 1, cells := 0, slots := 0, locals := 21 }) (wd ad cG cZ σ) [.ref (ad (6 + j)), .int (nI q)] (wd ad cG cZ σ) (some (.int (oI (sSr σ j q (sSz σ j)).1))) := by
  refine gMet_of (by decide) (Nat.le_of_ble_eq_true rfl) ?_
  intro p e s m below meth c A ls hC hA hI hl
  obtain ⟨hx, hb, hr, hlk, hown, hml, hg, hK⟩ := hC
  have hown : s.vm.findClass "GroupBitmaps$Bitmap" = some m.cls := hown
  have hl : lv_has ls 6 [(0, .ref (ad (6 + j))), (1, .int (nI q))] := hl
  have hz2 := gLen_le j
  refine lv_iconst (v := (-1)) hx hb d_BM_shortestRun_0 (by decide) ?_
  refine lv_istore_n (lv' := [(2, .int ((-1))), (0, .ref (ad (6 + j))), (1, .int (nI q))]) hx hb d_BM_shortestRun_1 rfl hl (by decide) rfl (fun ls hl => ?_)
  refine lv_aload_n hx hb d_BM_shortestRun_2 rfl (lv_at hl 1 rfl) ?_
  refine g_get (own := "GroupBitmaps$Bitmap") (C := R_BM) (T := F_BM) (N := 5) (ci := 2) (v := .int (nI (sSz σ j))) hx hb hg ku_BM hown hK hI (6 + j) (wd_BM hj) rfl 2 (by decide) kw_36 rfl d_BM_shortestRun_3 ?_
  refine lv_iconst (v := nI 1) hx hb d_BM_shortestRun_6 (by decide) ?_
  refine r_iadd (a := sSz σ j) (b := 1) hx hb d_BM_shortestRun_7 ?_
  refine lv_istore_n (lv' := [(3, .int (nI ((sSz σ j) + 1))), (2, .int ((-1))), (0, .ref (ad (6 + j))), (1, .int (nI q))]) hx hb d_BM_shortestRun_8 rfl hl (by decide) rfl (fun ls hl => ?_)
  refine lv_iconst (v := nI 0) hx hb d_BM_shortestRun_9 (by decide) ?_
  refine lv_istore (lv' := [(4, .int (nI 0)), (3, .int (nI ((sSz σ j) + 1))), (2, .int ((-1))), (0, .ref (ad (6 + j))), (1, .int (nI q))]) hx hb d_BM_shortestRun_10 hl (by decide) rfl (fun ls hl => ?_)
  refine lv_iconst (v := nI 0) hx hb d_BM_shortestRun_12 (by decide) ?_
  refine lv_istore (lv' := [(5, .int (nI 0)), (4, .int (nI 0)), (3, .int (nI ((sSz σ j) + 1))), (2, .int ((-1))), (0, .ref (ad (6 + j))), (1, .int (nI q))]) hx hb d_BM_shortestRun_13 hl (by decide) rfl (fun ls hl => ?_)
  have loop : ∀ (fuel : Nat) (k : Nat), sSz σ j + 1 ≤ fuel + k → (k ≤ sSz σ j) → ∀ (H : Heap) (locs : List Loc) (ls : Array Slot), gI D A s.heap (wd ad cG cZ σ) H locs → lv_has ls 6 [(0, .ref (ad (6 + j))), (1, .int (nI q)), (2, .int (oI (sSr σ j q k).1)), (3, .int (nI ((sSr σ j q k).2.1))), (4, .int (nI ((sSr σ j q k).2.2))), (5, .int (nI k))] → W p l e ({ frames := 1, cells := 0, slots := 0, locals := 21 }) s m ([.ref (ad (6 + j)), .int (nI q)] : List Value).toArray below meth c H locs 0 0 (gQ D below ([.ref (ad (6 + j)), .int (nI q)] : List Value).toArray s A (wd ad cG cZ σ) (some (.int (oI (sSr σ j q (sSz σ j)).1)))) (F0 m 15 ls []) := by
    intro fuel
    induction fuel with
    | zero => intro k hfu hk; exact absurd hfu (by omega)
    | succ fuel ih =>
      intro k hfu hk H locs ls hI hl
      have hle := sSr_le σ j q k
      refine lv_iload hx hb d_BM_shortestRun_15 (lv_at hl 5 rfl) ?_
      refine lv_aload_n hx hb d_BM_shortestRun_17 rfl (lv_at hl 0 rfl) ?_
      refine g_get (own := "GroupBitmaps$Bitmap") (C := R_BM) (T := F_BM) (N := 5) (ci := 2) (v := .int (nI (sSz σ j))) hx hb hg ku_BM hown hK hI (6 + j) (wd_BM hj) rfl 2 (by decide) kw_36 rfl d_BM_shortestRun_18 ?_
      refine r_ge (a := k) (b := sSz σ j) (tgt := 83) hx hb d_BM_shortestRun_21 (by decide) (by omega) (by omega) (fun h => ?_) (fun h => ?_)
      · obtain rfl : k = sSz σ j := by omega
        refine lv_iload_n hx hb d_BM_shortestRun_83 rfl (lv_at hl 2 rfl) ?_
        exact g_ri hx hb hr hlk hI (rfl) d_BM_shortestRun_84
      · refine lv_aload_n hx hb d_BM_shortestRun_24 rfl (lv_at hl 0 rfl) ?_
        refine lv_iload hx hb d_BM_shortestRun_25 (lv_at hl 5 rfl) ?_
        refine g_callV (own := "GroupBitmaps$Bitmap") (C := "GroupBitmaps$Bitmap") (T := F_BM) (N := 5) (k := 1) (q0 := 6 + j) (ci := 2) (a := ad (6 + j)) (As := [.int (nI k)]) (rest := []) (c_BM_isSet σ j hj k (by omega)) hx hb hml hown hg hK hI hA kw_264 kw_265 kw_266 kw_3 kw_267 ky_BM_isSet ⟨Nat.le_of_ble_eq_true rfl, Nat.le_of_ble_eq_true rfl⟩ rfl rfl (wd_BM hj) rfl rfl hl.1 (Nat.le_of_ble_eq_true rfl) ⟨Nat.zero_le _, Nat.zero_le _⟩ d_BM_shortestRun_27 rfl rfl (fun H locs hI => ?_)
        refine r_bz (b := sSet σ j k) (tgt := 37) hx hb d_BM_shortestRun_30 (by decide) (fun h2 => ?_) (fun h2 => ?_)
        · have e0 := sSr_s (n := q) (show sLen (sSet σ j k) (sSr σ j q k).2.2 = (sSr σ j q k).2.2 + 1 by rw [h2]; rfl)
          refine lv_iload hx hb d_BM_shortestRun_37 (lv_at hl 4 rfl) ?_
          refine lv_iconst (v := nI 1) hx hb d_BM_shortestRun_39 (by decide) ?_
          refine r_iadd (a := (sSr σ j q k).2.2) (b := 1) hx hb d_BM_shortestRun_40 ?_
          refine lv_istore (lv' := [(4, .int (nI (((sSr σ j q k).2.2) + 1))), (0, .ref (ad (6 + j))), (1, .int (nI q)), (2, .int (oI (sSr σ j q k).1)), (3, .int (nI ((sSr σ j q k).2.1))), (5, .int (nI k))]) hx hb d_BM_shortestRun_41 hl (by decide) rfl (fun ls hl => ?_)
          refine lv_iload hx hb d_BM_shortestRun_43 (lv_at hl 0 rfl) ?_
          refine lv_iload_n hx hb d_BM_shortestRun_45 rfl (lv_at hl 2 rfl) ?_
          refine r_lt (a := ((sSr σ j q k).2.2) + 1) (b := q) (tgt := 77) hx hb d_BM_shortestRun_46 (by decide) (by omega) (by omega) (fun h3 => ?_) (fun h3 => ?_)
          · have e1 := e0.trans (sSrN_1 h3)
            refine lv_iinc (v := nI (k + 1)) (lv' := [(5, .int (nI (k + 1))), (4, .int (nI (((sSr σ j q k).2.2) + 1))), (0, .ref (ad (6 + j))), (1, .int (nI q)), (2, .int (oI (sSr σ j q k).1)), (3, .int (nI ((sSr σ j q k).2.1)))]) hx hb d_BM_shortestRun_77 hl (k := 5) rfl (nI_1 _) (by decide) rfl (fun ls hl => ?_)
            refine lv_goto (tgt := 15) hx hb d_BM_shortestRun_80 (by decide) ?_
            exact ih (k + 1) (by omega) (by omega) _ _ _ hI (by rw [e1]; exact lv_sub hl [2, 3, 4, 5, 1, 0] rfl)
          · refine lv_iload hx hb d_BM_shortestRun_49 (lv_at hl 0 rfl) ?_
            refine lv_iload_n hx hb d_BM_shortestRun_51 rfl (lv_at hl 4 rfl) ?_
            refine r_ge (a := ((sSr σ j q k).2.2) + 1) (b := (sSr σ j q k).2.1) (tgt := 77) hx hb d_BM_shortestRun_52 (by decide) (by omega) (by omega) (fun h4 => ?_) (fun h4 => ?_)
            · have e1 := e0.trans (sSrN_2 h4)
              refine lv_iinc (v := nI (k + 1)) (lv' := [(5, .int (nI (k + 1))), (4, .int (nI (((sSr σ j q k).2.2) + 1))), (0, .ref (ad (6 + j))), (1, .int (nI q)), (2, .int (oI (sSr σ j q k).1)), (3, .int (nI ((sSr σ j q k).2.1)))]) hx hb d_BM_shortestRun_77 hl (k := 5) rfl (nI_1 _) (by decide) rfl (fun ls hl => ?_)
              refine lv_goto (tgt := 15) hx hb d_BM_shortestRun_80 (by decide) ?_
              exact ih (k + 1) (by omega) (by omega) _ _ _ hI (by rw [e1]; exact lv_sub hl [2, 3, 4, 5, 1, 0] rfl)
            · refine lv_aload_n hx hb d_BM_shortestRun_55 rfl (lv_at hl 1 rfl) ?_
              refine lv_iload hx hb d_BM_shortestRun_56 (lv_at hl 5 rfl) ?_
              refine lv_iconst (v := nI 1) hx hb d_BM_shortestRun_58 (by decide) ?_
              refine r_iadd (a := k) (b := 1) hx hb d_BM_shortestRun_59 ?_
              refine g_callV (own := "GroupBitmaps$Bitmap") (C := "GroupBitmaps$Bitmap") (T := F_BM) (N := 5) (k := 1) (q0 := 6 + j) (ci := 2) (a := ad (6 + j)) (As := [.int (nI (k + 1))]) (rest := []) (c_BM_isSet σ j hj (k + 1) (by omega)) hx hb hml hown hg hK hI hA kw_264 kw_265 kw_266 kw_3 kw_267 ky_BM_isSet ⟨Nat.le_of_ble_eq_true rfl, Nat.le_of_ble_eq_true rfl⟩ rfl rfl (wd_BM hj) rfl rfl hl.1 (Nat.le_of_ble_eq_true rfl) ⟨Nat.zero_le _, Nat.zero_le _⟩ d_BM_shortestRun_60 rfl rfl (fun H locs hI => ?_)
              refine r_bz (b := sSet σ j (k + 1)) (tgt := 77) hx hb d_BM_shortestRun_63 (by decide) (fun h5 => ?_) (fun h5 => ?_)
              · have e1 := e0.trans (sSrN_3 h5)
                refine lv_iinc (v := nI (k + 1)) (lv' := [(5, .int (nI (k + 1))), (4, .int (nI (((sSr σ j q k).2.2) + 1))), (0, .ref (ad (6 + j))), (1, .int (nI q)), (2, .int (oI (sSr σ j q k).1)), (3, .int (nI ((sSr σ j q k).2.1)))]) hx hb d_BM_shortestRun_77 hl (k := 5) rfl (nI_1 _) (by decide) rfl (fun ls hl => ?_)
                refine lv_goto (tgt := 15) hx hb d_BM_shortestRun_80 (by decide) ?_
                exact ih (k + 1) (by omega) (by omega) _ _ _ hI (by rw [e1]; exact lv_sub hl [2, 3, 4, 5, 1, 0] rfl)
              · have e1 := e0.trans (sSrN_4 h3 h4 h5)
                refine lv_iload hx hb d_BM_shortestRun_66 (lv_at hl 0 rfl) ?_
                refine lv_istore_n (lv' := [(3, .int (nI (((sSr σ j q k).2.2) + 1))), (4, .int (nI (((sSr σ j q k).2.2) + 1))), (0, .ref (ad (6 + j))), (1, .int (nI q)), (2, .int (oI (sSr σ j q k).1)), (5, .int (nI k))]) hx hb d_BM_shortestRun_68 rfl hl (by decide) rfl (fun ls hl => ?_)
                refine lv_iload hx hb d_BM_shortestRun_69 (lv_at hl 5 rfl) ?_
                refine lv_iconst (v := nI 1) hx hb d_BM_shortestRun_71 (by decide) ?_
                refine r_iadd (a := k) (b := 1) hx hb d_BM_shortestRun_72 ?_
                refine lv_iload hx hb d_BM_shortestRun_73 (lv_at hl 1 rfl) ?_
                refine r_isub (a := k + 1) (b := ((sSr σ j q k).2.2) + 1) hx hb (by omega) d_BM_shortestRun_75 ?_
                refine lv_istore_n (lv' := [(2, .int (nI ((k + 1) - (((sSr σ j q k).2.2) + 1)))), (3, .int (nI (((sSr σ j q k).2.2) + 1))), (4, .int (nI (((sSr σ j q k).2.2) + 1))), (0, .ref (ad (6 + j))), (1, .int (nI q)), (5, .int (nI k))]) hx hb d_BM_shortestRun_76 rfl hl (by decide) rfl (fun ls hl => ?_)
                refine lv_iinc (v := nI (k + 1)) (lv' := [(5, .int (nI (k + 1))), (2, .int (nI ((k + 1) - (((sSr σ j q k).2.2) + 1)))), (3, .int (nI (((sSr σ j q k).2.2) + 1))), (4, .int (nI (((sSr σ j q k).2.2) + 1))), (0, .ref (ad (6 + j))), (1, .int (nI q))]) hx hb d_BM_shortestRun_77 hl (k := 5) rfl (nI_1 _) (by decide) rfl (fun ls hl => ?_)
                refine lv_goto (tgt := 15) hx hb d_BM_shortestRun_80 (by decide) ?_
                exact ih (k + 1) (by omega) (by omega) _ _ _ hI (by rw [e1]; exact lv_sub hl [4, 5, 1, 2, 3, 0] rfl)
        · have e0 := sSr_s (n := q) (show sLen (sSet σ j k) (sSr σ j q k).2.2 = 0 by rw [h2]; rfl)
          refine lv_iconst (v := nI 0) hx hb d_BM_shortestRun_33 (by decide) ?_
          refine lv_goto (tgt := 41) hx hb d_BM_shortestRun_34 (by decide) ?_
          refine lv_istore (lv' := [(4, .int (nI 0)), (0, .ref (ad (6 + j))), (1, .int (nI q)), (2, .int (oI (sSr σ j q k).1)), (3, .int (nI ((sSr σ j q k).2.1))), (5, .int (nI k))]) hx hb d_BM_shortestRun_41 hl (by decide) rfl (fun ls hl => ?_)
          refine lv_iload hx hb d_BM_shortestRun_43 (lv_at hl 0 rfl) ?_
          refine lv_iload_n hx hb d_BM_shortestRun_45 rfl (lv_at hl 2 rfl) ?_
          refine r_lt (a := 0) (b := q) (tgt := 77) hx hb d_BM_shortestRun_46 (by decide) (by omega) (by omega) (fun h3 => ?_) (fun h3 => ?_)
          · have e1 := e0.trans (sSrN_1 h3)
            refine lv_iinc (v := nI (k + 1)) (lv' := [(5, .int (nI (k + 1))), (4, .int (nI 0)), (0, .ref (ad (6 + j))), (1, .int (nI q)), (2, .int (oI (sSr σ j q k).1)), (3, .int (nI ((sSr σ j q k).2.1)))]) hx hb d_BM_shortestRun_77 hl (k := 5) rfl (nI_1 _) (by decide) rfl (fun ls hl => ?_)
            refine lv_goto (tgt := 15) hx hb d_BM_shortestRun_80 (by decide) ?_
            exact ih (k + 1) (by omega) (by omega) _ _ _ hI (by rw [e1]; exact lv_sub hl [2, 3, 4, 5, 1, 0] rfl)
          · refine lv_iload hx hb d_BM_shortestRun_49 (lv_at hl 0 rfl) ?_
            refine lv_iload_n hx hb d_BM_shortestRun_51 rfl (lv_at hl 4 rfl) ?_
            refine r_ge (a := 0) (b := (sSr σ j q k).2.1) (tgt := 77) hx hb d_BM_shortestRun_52 (by decide) (by omega) (by omega) (fun h4 => ?_) (fun h4 => ?_)
            · have e1 := e0.trans (sSrN_2 h4)
              refine lv_iinc (v := nI (k + 1)) (lv' := [(5, .int (nI (k + 1))), (4, .int (nI 0)), (0, .ref (ad (6 + j))), (1, .int (nI q)), (2, .int (oI (sSr σ j q k).1)), (3, .int (nI ((sSr σ j q k).2.1)))]) hx hb d_BM_shortestRun_77 hl (k := 5) rfl (nI_1 _) (by decide) rfl (fun ls hl => ?_)
              refine lv_goto (tgt := 15) hx hb d_BM_shortestRun_80 (by decide) ?_
              exact ih (k + 1) (by omega) (by omega) _ _ _ hI (by rw [e1]; exact lv_sub hl [2, 3, 4, 5, 1, 0] rfl)
            · refine lv_aload_n hx hb d_BM_shortestRun_55 rfl (lv_at hl 1 rfl) ?_
              refine lv_iload hx hb d_BM_shortestRun_56 (lv_at hl 5 rfl) ?_
              refine lv_iconst (v := nI 1) hx hb d_BM_shortestRun_58 (by decide) ?_
              refine r_iadd (a := k) (b := 1) hx hb d_BM_shortestRun_59 ?_
              refine g_callV (own := "GroupBitmaps$Bitmap") (C := "GroupBitmaps$Bitmap") (T := F_BM) (N := 5) (k := 1) (q0 := 6 + j) (ci := 2) (a := ad (6 + j)) (As := [.int (nI (k + 1))]) (rest := []) (c_BM_isSet σ j hj (k + 1) (by omega)) hx hb hml hown hg hK hI hA kw_264 kw_265 kw_266 kw_3 kw_267 ky_BM_isSet ⟨Nat.le_of_ble_eq_true rfl, Nat.le_of_ble_eq_true rfl⟩ rfl rfl (wd_BM hj) rfl rfl hl.1 (Nat.le_of_ble_eq_true rfl) ⟨Nat.zero_le _, Nat.zero_le _⟩ d_BM_shortestRun_60 rfl rfl (fun H locs hI => ?_)
              refine r_bz (b := sSet σ j (k + 1)) (tgt := 77) hx hb d_BM_shortestRun_63 (by decide) (fun h5 => ?_) (fun h5 => ?_)
              · have e1 := e0.trans (sSrN_3 h5)
                refine lv_iinc (v := nI (k + 1)) (lv' := [(5, .int (nI (k + 1))), (4, .int (nI 0)), (0, .ref (ad (6 + j))), (1, .int (nI q)), (2, .int (oI (sSr σ j q k).1)), (3, .int (nI ((sSr σ j q k).2.1)))]) hx hb d_BM_shortestRun_77 hl (k := 5) rfl (nI_1 _) (by decide) rfl (fun ls hl => ?_)
                refine lv_goto (tgt := 15) hx hb d_BM_shortestRun_80 (by decide) ?_
                exact ih (k + 1) (by omega) (by omega) _ _ _ hI (by rw [e1]; exact lv_sub hl [2, 3, 4, 5, 1, 0] rfl)
              · have e1 := e0.trans (sSrN_4 h3 h4 h5)
                refine lv_iload hx hb d_BM_shortestRun_66 (lv_at hl 0 rfl) ?_
                refine lv_istore_n (lv' := [(3, .int (nI 0)), (4, .int (nI 0)), (0, .ref (ad (6 + j))), (1, .int (nI q)), (2, .int (oI (sSr σ j q k).1)), (5, .int (nI k))]) hx hb d_BM_shortestRun_68 rfl hl (by decide) rfl (fun ls hl => ?_)
                refine lv_iload hx hb d_BM_shortestRun_69 (lv_at hl 5 rfl) ?_
                refine lv_iconst (v := nI 1) hx hb d_BM_shortestRun_71 (by decide) ?_
                refine r_iadd (a := k) (b := 1) hx hb d_BM_shortestRun_72 ?_
                refine lv_iload hx hb d_BM_shortestRun_73 (lv_at hl 1 rfl) ?_
                refine r_isub (a := k + 1) (b := 0) hx hb (by omega) d_BM_shortestRun_75 ?_
                refine lv_istore_n (lv' := [(2, .int (nI ((k + 1) - 0))), (3, .int (nI 0)), (4, .int (nI 0)), (0, .ref (ad (6 + j))), (1, .int (nI q)), (5, .int (nI k))]) hx hb d_BM_shortestRun_76 rfl hl (by decide) rfl (fun ls hl => ?_)
                refine lv_iinc (v := nI (k + 1)) (lv' := [(5, .int (nI (k + 1))), (2, .int (nI ((k + 1) - 0))), (3, .int (nI 0)), (4, .int (nI 0)), (0, .ref (ad (6 + j))), (1, .int (nI q))]) hx hb d_BM_shortestRun_77 hl (k := 5) rfl (nI_1 _) (by decide) rfl (fun ls hl => ?_)
                refine lv_goto (tgt := 15) hx hb d_BM_shortestRun_80 (by decide) ?_
                exact ih (k + 1) (by omega) (by omega) _ _ _ hI (by rw [e1]; exact lv_sub hl [4, 5, 1, 2, 3, 0] rfl)
  exact loop (sSz σ j + 1) 0 (by omega) (Nat.zero_le _) _ _ _ hI (lv_sub hl [4, 5, 3, 2, 1, 0] rfl)
end
section
/-! ===== bounds that the walks need; what the methods of a group do ===== -/
def sB (σ : gS) : Prop := 1 ≤ sCnt σ ∧ sCnt σ ≤ 4 ∧ sRsv σ ≤ 100 ∧ (∀ j, j < 8 → sSz σ j ≤ gLen j ∧ sFr σ j ≤ 256) ∧ (∀ g, g < 4 → sFd σ g < 65536)
def gFf (g : Nat) : Nat := if g = 0 then 10 else 0
def sGLay (σ : gS) (g a : Nat) : gS := uFd (sLay (sLay σ (2 * g) a (gHd g + 10)) (2 * g + 1) 128 (gFf g)) g 0
def bmR (ad : Nat → Nat) (g q : Nat) : Value := if q = gPl (2 * g) then .ref (ad (6 + (2 * g))) else if q = gPl (2 * g + 1) then .ref (ad (6 + (2 * g + 1))) else .null
def sHas (σ : gS) (g : Nat) : Bool := decide (1 ≤ sFr σ (2 * g + 1)) && decide (1 ≤ sFr σ (2 * g))
theorem sHas_1 {σ : gS} {g : Nat} (h : sFr σ (2 * g + 1) < 1) : sHas σ g = false := by simp [sHas, Nat.not_le.mpr h]
theorem sHas_2 {σ : gS} {g : Nat} (h : sFr σ (2 * g) < 1) : sHas σ g = false := by simp [sHas, Nat.not_le.mpr h]
theorem sHas_3 {σ : gS} {g : Nat} (h1 : 1 ≤ sFr σ (2 * g + 1)) (h2 : 1 ≤ sFr σ (2 * g)) : sHas σ g = true := by simp [sHas, h1, h2]
def sFol (σ : gS) (g : Nat) (fo : Bool) (v : Nat) : gS := if fo = true then uFd σ g v else σ
def sOccF (σ : gS) (g k : Nat) (fo : Bool) : gS := sFol (sOcc σ (2 * g + 1) k) g fo (sFd σ g + 1)
def sFreF (σ : gS) (g k : Nat) (fo : Bool) : gS := sFol (sFre σ (2 * g + 1) k) g fo (sFd σ g - 1)
theorem sFd_sOcc (σ : gS) (j k : Nat) : sFd (sOcc σ j k) = sFd σ := by unfold sOcc; split <;> rfl
theorem sFd_sFre (σ : gS) (j k : Nat) : sFd (sFre σ j k) = sFd σ := by unfold sFre; split <;> rfl
def byN (x k : Nat) : Nat := x / 2 ^ (8 * k) % 256
theorem byN_sh : ∀ k, k < 4 → ((nI (8 * k) &&& 31).toBitVec.smod 32).toNat = 8 * k := by decide +kernel
theorem byN_eq {x k : Nat} (hx : x < 2 ^ 31) (hk : k < 4) : (nI x >>> (nI (8 * k) &&& 31)) &&& nI 255 = nI (byN x k) := by
  rw [pk_shrN hx _ (8 * k) (byN_sh k hk)]
  exact pk_andN (Nat.lt_of_le_of_lt (Nat.div_le_self _ _) (by omega)) 8 (by decide)
def gTb (σ : gS) (g t : Nat) : Nat := if t < 4 then byN (gPl (2 * g)) t else if t < 8 then byN (gPl (2 * g + 1)) (t - 4) else if t < 12 then byN (256 * g + gHd g + 2) (t - 8) else if t < 14 then byN (sFr σ (2 * g)) (t - 12) else if t < 16 then byN (sFr σ (2 * g + 1)) (t - 14) else if t < 18 then byN (sFd σ g) (t - 16) else 0
/-- the class's own sums -/
def sFB (σ : gS) : Nat → Nat
  | 0 => 0
  | g + 1 => sFB σ g + sFr σ (2 * g)
def sFF (σ : gS) : Nat → Nat
  | 0 => 0
  | g + 1 => sFF σ g + sFr σ (2 * g + 1)
theorem sFB_le {σ : gS} (h : sB σ) (g : Nat) (hg : g ≤ 4) : sFB σ g ≤ 256 * g := by
  induction g with
  | zero => exact Nat.le_refl _
  | succ g ih =>
    have h1 := ih (by omega)
    have h2 := (h.2.2.2.1 (2 * g) (by omega)).2
    show sFB σ g + sFr σ (2 * g) ≤ _
    omega
theorem sFF_le {σ : gS} (h : sB σ) (g : Nat) (hg : g ≤ 4) : sFF σ g ≤ 256 * g := by
  induction g with
  | zero => exact Nat.le_refl _
  | succ g ih =>
    have h1 := ih (by omega)
    have h2 := (h.2.2.2.1 (2 * g + 1) (by omega)).2
    show sFF σ g + sFr σ (2 * g + 1) ≤ _
    omega
def sAll (σ : gS) : Nat := (sCnt σ - 1) * 256 + sSz σ (2 * (sCnt σ - 1))
theorem sAll_le {σ : gS} (h : sB σ) : sAll σ ≤ 1024 := by
  have h1 := h.1
  have h2 := h.2.1
  have h3 := (h.2.2.2.1 (2 * (sCnt σ - 1)) (by omega)).1
  have h4 := gLen_le (2 * (sCnt σ - 1))
  unfold sAll
  omega
def sGLays (σ : gS) (c last : Nat) : Nat → gS
  | 0 => σ
  | g + 1 => sGLay (sGLays σ c last g) g (if g = c - 1 then last else 256)
theorem sCnt_sLay (σ : gS) (j a f : Nat) : sCnt (sLay σ j a f) = sCnt σ := by rw [sLay, q_Cnt_Td, q_Cnt_Fr, q_Cnt_Sz, q_Cnt_Bt]
theorem sCnt_sGLay (σ : gS) (g a : Nat) : sCnt (sGLay σ g a) = sCnt σ := by rw [sGLay, q_Cnt_Fd, sCnt_sLay, sCnt_sLay]
theorem sCnt_sGLays (σ : gS) (c last g : Nat) : sCnt (sGLays σ c last g) = sCnt σ := by
  induction g with
  | zero => rfl
  | succ g ih => rw [sGLays, sCnt_sGLay, ih]
def sLayAll (σ : gS) (c last : Nat) : gS := uTT (uLat (uRsv (sGLays (uCnt σ c) c last c) 0) 0) true
def sMay (σ : gS) (al : Bool) : Nat := if al = true then sFB σ (sCnt σ) else sFB σ (sCnt σ) - sRsv σ
theorem max0_sub {a b : Nat} (ha : a < 2 ^ 30) (hb : b < 2 ^ 30) : (if nI 0 < nI a - nI b then nI a - nI b else nI 0) = nI (a - b) := by
  by_cases h : b < a
  · have e : nI a - nI b = nI (a - b) := pk_sub (Nat.le_of_lt h)
    rw [e, if_pos ((nI_ltI (by omega) (by omega)).mpr (by omega))]
  · rcases Nat.lt_or_ge a b with q | q
    · have := pk_sneg hb q
      rw [if_neg (fun z => ?_), show a - b = 0 by omega]
      rw [nI_0] at z
      exact absurd (Int32.lt_trans z this) (by decide)
    · obtain rfl : a = b := by omega
      have e : nI a - nI a = nI 0 := by rw [pk_sub (Nat.le_refl _), Nat.sub_self]
      rw [e, Nat.sub_self]
      split <;> rfl
end
section
set_option maxHeartbeats 4000000 in
set_option maxRecDepth 100000 in
theorem c_GR_layOut {l : Launch} {D : va_G} {cG cZ cI cJ : ClassId} {ad : Nat → Nat} (σ : gS) (g : Nat) (hg4 : g < 4) (a : Nat) (ha : a < 65536) (ha2 : gHd g + 10 ≤ a) : gMet l D (gT cG cZ cI cJ) y_GR_layOut b_GR_layOut 2 none ({ frames := 1, cells := 0, slots := 0, locals := 23 }) (wd ad cG cZ σ) [.ref (ad (2 + g)), .int (nI a)] (wd ad cG cZ (sGLay σ g a)) (none) := by
  refine gMet_of (by decide) (Nat.le_of_ble_eq_true rfl) ?_
  intro p e s m below meth c A ls hC hA hI hl
  obtain ⟨hx, hb, hr, hlk, hown, hml, hg, hK⟩ := hC
  have hown : s.vm.findClass "GroupBitmaps$Group" = some m.cls := hown
  have hl : lv_has ls 2 [(0, .ref (ad (2 + g))), (1, .int (nI a))] := hl
  have h2g : 2 * g < 8 := by omega
  have h2h : 2 * g + 1 < 8 := by omega
  have hhd := gHd_le g
  refine lv_aload_n hx hb d_GR_layOut_0 rfl (lv_at hl 0 rfl) ?_
  refine g_get (own := "GroupBitmaps$Group") (C := R_GR) (T := F_GR) (N := 6) (ci := 1) (v := .ref (ad (6 + (2 * g)))) hx hb hg ku_GR hown hK hI (2 + g) (wd_GR hg4) rfl 3 (by decide) kw_60 rfl d_GR_layOut_1 ?_
  refine lv_iload_n hx hb d_GR_layOut_4 rfl (lv_at hl 1 rfl) ?_
  refine lv_aload_n hx hb d_GR_layOut_5 rfl (lv_at hl 0 rfl) ?_
  refine g_get (own := "GroupBitmaps$Group") (C := R_GR) (T := F_GR) (N := 6) (ci := 1) (v := .int (nI (gHd g + 10))) hx hb hg ku_GR hown hK hI (2 + g) (wd_GR hg4) rfl 1 (by decide) kw_57 rfl d_GR_layOut_6 ?_
  refine g_callV (own := "GroupBitmaps$Group") (C := "GroupBitmaps$Bitmap") (T := F_BM) (N := 5) (k := 2) (q0 := 6 + (2 * g)) (ci := 2) (a := ad (6 + (2 * g))) (As := [.int (nI a), .int (nI (gHd g + 10))]) (rest := []) (c_BM_layOut σ (2 * g) h2g a (gHd g + 10) (by omega) ha2) hx hb hml hown hg hK hI hA kw_87 kw_88 kw_89 kw_3 kw_90 ky_BM_layOut ⟨Nat.le_of_ble_eq_true rfl, Nat.le_of_ble_eq_true rfl⟩ rfl rfl (wd_BM h2g) rfl rfl hl.1 (Nat.le_of_ble_eq_true rfl) ⟨Nat.zero_le _, Nat.zero_le _⟩ d_GR_layOut_9 rfl rfl (fun H locs hI => ?_)
  refine lv_aload_n hx hb d_GR_layOut_12 rfl (lv_at hl 0 rfl) ?_
  refine g_get (own := "GroupBitmaps$Group") (C := R_GR) (T := F_GR) (N := 6) (ci := 1) (v := .ref (ad (6 + (2 * g + 1)))) hx hb hg ku_GR hown hK hI (2 + g) (wd_GR hg4) rfl 4 (by decide) kw_62 rfl d_GR_layOut_13 ?_
  refine lv_sipush (v := nI 128) hx hb d_GR_layOut_16 (by decide) ?_
  refine lv_aload_n hx hb d_GR_layOut_19 rfl (lv_at hl 0 rfl) ?_
  refine g_get (own := "GroupBitmaps$Group") (C := R_GR) (T := F_GR) (N := 6) (ci := 1) (v := .int (nI (256 * g))) hx hb hg ku_GR hown hK hI (2 + g) (wd_GR hg4) rfl 0 (by decide) kw_55 rfl d_GR_layOut_20 ?_
  refine r_zne (a := 256 * g) (tgt := 31) hx hb d_GR_layOut_23 (by decide) (by omega) (fun h => ?_) (fun h => ?_)
  · have hff : gFf g = 0 := by simp [gFf]; omega
    have hs : sGLay σ g a = uFd (sLay (sLay σ (2 * g) a (gHd g + 10)) (2 * g + 1) 128 0) g 0 := by unfold sGLay; rw [hff]
    rw [hs]
    refine lv_iconst (v := nI 0) hx hb d_GR_layOut_31 (by decide) ?_
    refine g_callV (own := "GroupBitmaps$Group") (C := "GroupBitmaps$Bitmap") (T := F_BM) (N := 5) (k := 2) (q0 := 6 + (2 * g + 1)) (ci := 2) (a := ad (6 + (2 * g + 1))) (As := [.int (nI 128), .int (nI 0)]) (rest := []) (c_BM_layOut (sLay σ (2 * g) a (gHd g + 10)) (2 * g + 1) h2h 128 0 (by omega) (by omega)) hx hb hml hown hg hK hI hA kw_87 kw_88 kw_89 kw_3 kw_90 ky_BM_layOut ⟨Nat.le_of_ble_eq_true rfl, Nat.le_of_ble_eq_true rfl⟩ rfl rfl (wd_BM h2h) rfl rfl hl.1 (Nat.le_of_ble_eq_true rfl) ⟨Nat.zero_le _, Nat.zero_le _⟩ d_GR_layOut_32 rfl rfl (fun H locs hI => ?_)
    refine lv_aload_n hx hb d_GR_layOut_35 rfl (lv_at hl 0 rfl) ?_
    refine lv_iconst (v := nI 0) hx hb d_GR_layOut_36 (by decide) ?_
    refine g_put (ws' := (wd ad cG cZ (uFd (sLay (sLay σ (2 * g) a (gHd g + 10)) (2 * g + 1) 128 0) g 0))) (own := "GroupBitmaps$Group") (C := R_GR) (T := F_GR) (N := 6) (ci := 1) (v := .int (nI 0)) hx hb hg ku_GR t_GR t_GR_ok n_GR hown hK hI (2 + g) (wd_GR hg4) rfl 5 (by decide) kw_64 rfl rfl (rfl) (rfl) (Nat.le_of_ble_eq_true rfl) (wd_uFd hg4) d_GR_layOut_37 (fun H locs hI => ?_)
    exact g_rv hx hb hr hlk hI (rfl) d_GR_layOut_40
  · have hff : gFf g = 10 := by simp [gFf]; omega
    have hs : sGLay σ g a = uFd (sLay (sLay σ (2 * g) a (gHd g + 10)) (2 * g + 1) 128 10) g 0 := by unfold sGLay; rw [hff]
    rw [hs]
    refine lv_bipush (v := nI 10) hx hb d_GR_layOut_26 (by decide) ?_
    refine lv_goto (tgt := 32) hx hb d_GR_layOut_28 (by decide) ?_
    refine g_callV (own := "GroupBitmaps$Group") (C := "GroupBitmaps$Bitmap") (T := F_BM) (N := 5) (k := 2) (q0 := 6 + (2 * g + 1)) (ci := 2) (a := ad (6 + (2 * g + 1))) (As := [.int (nI 128), .int (nI 10)]) (rest := []) (c_BM_layOut (sLay σ (2 * g) a (gHd g + 10)) (2 * g + 1) h2h 128 10 (by omega) (by omega)) hx hb hml hown hg hK hI hA kw_87 kw_88 kw_89 kw_3 kw_90 ky_BM_layOut ⟨Nat.le_of_ble_eq_true rfl, Nat.le_of_ble_eq_true rfl⟩ rfl rfl (wd_BM h2h) rfl rfl hl.1 (Nat.le_of_ble_eq_true rfl) ⟨Nat.zero_le _, Nat.zero_le _⟩ d_GR_layOut_32 rfl rfl (fun H locs hI => ?_)
    refine lv_aload_n hx hb d_GR_layOut_35 rfl (lv_at hl 0 rfl) ?_
    refine lv_iconst (v := nI 0) hx hb d_GR_layOut_36 (by decide) ?_
    refine g_put (ws' := (wd ad cG cZ (uFd (sLay (sLay σ (2 * g) a (gHd g + 10)) (2 * g + 1) 128 10) g 0))) (own := "GroupBitmaps$Group") (C := R_GR) (T := F_GR) (N := 6) (ci := 1) (v := .int (nI 0)) hx hb hg ku_GR t_GR t_GR_ok n_GR hown hK hI (2 + g) (wd_GR hg4) rfl 5 (by decide) kw_64 rfl rfl (rfl) (rfl) (Nat.le_of_ble_eq_true rfl) (wd_uFd hg4) d_GR_layOut_37 (fun H locs hI => ?_)
    exact g_rv hx hb hr hlk hI (rfl) d_GR_layOut_40
set_option maxHeartbeats 4000000 in
set_option maxRecDepth 100000 in
theorem c_GR_bitmapIn {l : Launch} {D : va_G} {cG cZ cI cJ : ClassId} {ad : Nat → Nat} (σ : gS) (g : Nat) (hg4 : g < 4) (q : Nat) (hq : q < 65536) : gMet l D (gT cG cZ cI cJ) y_GR_bitmapIn b_GR_bitmapIn 2 (some (.object "GroupBitmaps$Bitmap")) ({ frames := 0, cells := 0, slots := 0, locals := 0 }) (wd ad cG cZ σ) [.ref (ad (2 + g)), .int (nI q)] (wd ad cG cZ σ) (some (bmR ad g q)) := by
  refine gMet_of (by decide) (Nat.le_of_ble_eq_true rfl) ?_
  intro p e s m below meth c A ls hC hA hI hl
  obtain ⟨hx, hb, hr, hlk, hown, hml, hg, hK⟩ := hC
  have hown : s.vm.findClass "GroupBitmaps$Group" = some m.cls := hown
  have hl : lv_has ls 2 [(0, .ref (ad (2 + g))), (1, .int (nI q))] := hl
  have h2g : 2 * g < 8 := by omega
  have h2h : 2 * g + 1 < 8 := by omega
  have hp1 := gPl_lt h2g
  have hp2 := gPl_lt h2h
  refine lv_iload_n hx hb d_GR_bitmapIn_0 rfl (lv_at hl 1 rfl) ?_
  refine lv_aload_n hx hb d_GR_bitmapIn_1 rfl (lv_at hl 0 rfl) ?_
  refine g_get (own := "GroupBitmaps$Group") (C := R_GR) (T := F_GR) (N := 6) (ci := 1) (v := .ref (ad (6 + (2 * g)))) hx hb hg ku_GR hown hK hI (2 + g) (wd_GR hg4) rfl 3 (by decide) kw_60 rfl d_GR_bitmapIn_2 ?_
  refine g_getN (own := "GroupBitmaps$Group") (C := R_BM) (T := F_BM) (N := 5) (ci := 2) (v := .int (nI (gPl (2 * g)))) hx hb hg ku_BM hown hK hI (6 + (2 * g)) (wd_BM h2g) rfl 0 (by decide) kw_34 rfl d_GR_bitmapIn_5 ?_
  refine r_ne (a := q) (b := gPl (2 * g)) (tgt := 16) hx hb d_GR_bitmapIn_8 (by decide) (by omega) (by omega) (fun h => ?_) (fun h => ?_)
  · refine lv_iload_n hx hb d_GR_bitmapIn_16 rfl (lv_at hl 1 rfl) ?_
    refine lv_aload_n hx hb d_GR_bitmapIn_17 rfl (lv_at hl 0 rfl) ?_
    refine g_get (own := "GroupBitmaps$Group") (C := R_GR) (T := F_GR) (N := 6) (ci := 1) (v := .ref (ad (6 + (2 * g + 1)))) hx hb hg ku_GR hown hK hI (2 + g) (wd_GR hg4) rfl 4 (by decide) kw_62 rfl d_GR_bitmapIn_18 ?_
    refine g_getN (own := "GroupBitmaps$Group") (C := R_BM) (T := F_BM) (N := 5) (ci := 2) (v := .int (nI (gPl (2 * g + 1)))) hx hb hg ku_BM hown hK hI (6 + (2 * g + 1)) (wd_BM h2h) rfl 0 (by decide) kw_34 rfl d_GR_bitmapIn_21 ?_
    refine r_ne (a := q) (b := gPl (2 * g + 1)) (tgt := 34) hx hb d_GR_bitmapIn_24 (by decide) (by omega) (by omega) (fun h2 => ?_) (fun h2 => ?_)
    · refine lv_null hx hb d_GR_bitmapIn_34 ?_
      exact g_ra hx hb hr hlk (Or.inl rfl) hI (by rw [bmR, if_neg h, if_neg h2]) d_GR_bitmapIn_35
    · refine lv_aload_n hx hb d_GR_bitmapIn_27 rfl (lv_at hl 0 rfl) ?_
      refine g_get (own := "GroupBitmaps$Group") (C := R_GR) (T := F_GR) (N := 6) (ci := 1) (v := .ref (ad (6 + (2 * g + 1)))) hx hb hg ku_GR hown hK hI (2 + g) (wd_GR hg4) rfl 4 (by decide) kw_62 rfl d_GR_bitmapIn_28 ?_
      refine lv_goto (tgt := 35) hx hb d_GR_bitmapIn_31 (by decide) ?_
      exact g_ra hx hb hr hlk (Or.inr ⟨_, rfl⟩) hI (by rw [bmR, if_neg h, if_pos h2]) d_GR_bitmapIn_35
  · refine lv_aload_n hx hb d_GR_bitmapIn_11 rfl (lv_at hl 0 rfl) ?_
    refine g_get (own := "GroupBitmaps$Group") (C := R_GR) (T := F_GR) (N := 6) (ci := 1) (v := .ref (ad (6 + (2 * g)))) hx hb hg ku_GR hown hK hI (2 + g) (wd_GR hg4) rfl 3 (by decide) kw_60 rfl d_GR_bitmapIn_12 ?_
    exact g_ra hx hb hr hlk (Or.inr ⟨_, rfl⟩) hI (by rw [bmR, if_pos h]) d_GR_bitmapIn_15
set_option maxHeartbeats 4000000 in
set_option maxRecDepth 100000 in
theorem c_GR_hasFileAndBlock {l : Launch} {D : va_G} {cG cZ cI cJ : ClassId} {ad : Nat → Nat} (σ : gS) (g : Nat) (hg4 : g < 4) (hσ : sB σ) : gMet l D (gT cG cZ cI cJ) y_GR_hasFileAndBlock b_GR_hasFileAndBlock 1 (some .boolean) ({ frames := 0, cells := 0, slots := 0, locals := 0 }) (wd ad cG cZ σ) [.ref (ad (2 + g))] (wd ad cG cZ σ) (some (.int (bI (sHas σ g)))) := by
  refine gMet_of (by decide) (Nat.le_of_ble_eq_true rfl) ?_
  intro p e s m below meth c A ls hC hA hI hl
  obtain ⟨hx, hb, hr, hlk, hown, hml, hg, hK⟩ := hC
  have hown : s.vm.findClass "GroupBitmaps$Group" = some m.cls := hown
  have hl : lv_has ls 1 [(0, .ref (ad (2 + g)))] := hl
  have h2g : 2 * g < 8 := by omega
  have h2h : 2 * g + 1 < 8 := by omega
  have hb1 := (hσ.2.2.2.1 (2 * g) h2g).2
  have hb2 := (hσ.2.2.2.1 (2 * g + 1) h2h).2
  refine lv_aload_n hx hb d_GR_hasFileAndBlock_0 rfl (lv_at hl 0 rfl) ?_
  refine g_get (own := "GroupBitmaps$Group") (C := R_GR) (T := F_GR) (N := 6) (ci := 1) (v := .ref (ad (6 + (2 * g + 1)))) hx hb hg ku_GR hown hK hI (2 + g) (wd_GR hg4) rfl 4 (by decide) kw_62 rfl d_GR_hasFileAndBlock_1 ?_
  refine g_getN (own := "GroupBitmaps$Group") (C := R_BM) (T := F_BM) (N := 5) (ci := 2) (v := .int (nI (sFr σ (2 * g + 1)))) hx hb hg ku_BM hown hK hI (6 + (2 * g + 1)) (wd_BM h2h) rfl 3 (by decide) kw_39 rfl d_GR_hasFileAndBlock_4 ?_
  refine lv_iconst (v := nI 1) hx hb d_GR_hasFileAndBlock_7 (by decide) ?_
  refine r_lt (a := sFr σ (2 * g + 1)) (b := 1) (tgt := 26) hx hb d_GR_hasFileAndBlock_8 (by decide) (by omega) (by omega) (fun h => ?_) (fun h => ?_)
  · refine lv_iconst (v := bI false) hx hb d_GR_hasFileAndBlock_26 (by decide) ?_
    exact g_rz hx hb hr hlk hI (by rw [sHas_1 h]) d_GR_hasFileAndBlock_27
  · refine lv_aload_n hx hb d_GR_hasFileAndBlock_11 rfl (lv_at hl 0 rfl) ?_
    refine g_get (own := "GroupBitmaps$Group") (C := R_GR) (T := F_GR) (N := 6) (ci := 1) (v := .ref (ad (6 + (2 * g)))) hx hb hg ku_GR hown hK hI (2 + g) (wd_GR hg4) rfl 3 (by decide) kw_60 rfl d_GR_hasFileAndBlock_12 ?_
    refine g_getN (own := "GroupBitmaps$Group") (C := R_BM) (T := F_BM) (N := 5) (ci := 2) (v := .int (nI (sFr σ (2 * g)))) hx hb hg ku_BM hown hK hI (6 + (2 * g)) (wd_BM h2g) rfl 3 (by decide) kw_39 rfl d_GR_hasFileAndBlock_15 ?_
    refine lv_iconst (v := nI 1) hx hb d_GR_hasFileAndBlock_18 (by decide) ?_
    refine r_lt (a := sFr σ (2 * g)) (b := 1) (tgt := 26) hx hb d_GR_hasFileAndBlock_19 (by decide) (by omega) (by omega) (fun h2 => ?_) (fun h2 => ?_)
    · refine lv_iconst (v := bI false) hx hb d_GR_hasFileAndBlock_26 (by decide) ?_
      exact g_rz hx hb hr hlk hI (by rw [sHas_2 h2]) d_GR_hasFileAndBlock_27
    · refine lv_iconst (v := bI true) hx hb d_GR_hasFileAndBlock_22 (by decide) ?_
      refine lv_goto (tgt := 27) hx hb d_GR_hasFileAndBlock_23 (by decide) ?_
      exact g_rz hx hb hr hlk hI (by rw [sHas_3 h h2]) d_GR_hasFileAndBlock_27
set_option maxHeartbeats 4000000 in
set_option maxRecDepth 100000 in
theorem c_GR_occupyFile {l : Launch} {D : va_G} {cG cZ cI cJ : ClassId} {ad : Nat → Nat} (σ : gS) (g : Nat) (hg4 : g < 4) (hσ : sB σ) (k : Nat) (fo : Bool) (hk : sLf σ (2 * g + 1) (sSz σ (2 * g + 1)) = some k) (hk2 : k < 128) (hfr : 0 < sFr σ (2 * g + 1)) : gMet l D (gT cG cZ cI cJ) y_GR_occupyFile b_GR_occupyFile 3 (some .int) ({ frames := 2, cells := 0, slots := 0, locals := 42 }) (wd ad cG cZ σ) [.ref (ad (2 + g)), .int (bI fo)] (wd ad cG cZ (sOccF σ g k fo)) (some (.int (nI (128 * g + k + 1)))) := by
  refine gMet_of (by decide) (Nat.le_of_ble_eq_true rfl) ?_
  intro p e s m below meth c A ls hC hA hI hl
  obtain ⟨hx, hb, hr, hlk, hown, hml, hg, hK⟩ := hC
  have hown : s.vm.findClass "GroupBitmaps$Group" = some m.cls := hown
  have hl : lv_has ls 3 [(0, .ref (ad (2 + g))), (1, .int (bI fo))] := hl
  have h2g : 2 * g < 8 := by omega
  have h2h : 2 * g + 1 < 8 := by omega
  have hz := (hσ.2.2.2.1 (2 * g + 1) h2h).1
  have hfd := hσ.2.2.2.2 g hg4
  refine lv_aload_n hx hb d_GR_occupyFile_0 rfl (lv_at hl 0 rfl) ?_
  refine g_get (own := "GroupBitmaps$Group") (C := R_GR) (T := F_GR) (N := 6) (ci := 1) (v := .ref (ad (6 + (2 * g + 1)))) hx hb hg ku_GR hown hK hI (2 + g) (wd_GR hg4) rfl 4 (by decide) kw_62 rfl d_GR_occupyFile_1 ?_
  refine g_callV (own := "GroupBitmaps$Group") (C := "GroupBitmaps$Bitmap") (T := F_BM) (N := 5) (k := 0) (q0 := 6 + (2 * g + 1)) (ci := 2) (a := ad (6 + (2 * g + 1))) (As := []) (rest := []) (c_BM_leastFree σ (2 * g + 1) h2h hz) hx hb hml hown hg hK hI hA kw_363 kw_364 kw_365 kw_3 kw_366 ky_BM_leastFree ⟨Nat.le_of_ble_eq_true rfl, Nat.le_of_ble_eq_true rfl⟩ rfl rfl (wd_BM h2h) rfl rfl hl.1 (Nat.le_of_ble_eq_true rfl) ⟨Nat.zero_le _, Nat.zero_le _⟩ d_GR_occupyFile_4 rfl rfl (fun H locs hI => ?_)
  rw [hk]
  show W _ _ _ _ _ _ _ _ _ _ _ _ _ _ _ (F0 m _ ls [.int (nI k)])
  refine lv_istore_n (lv' := [(2, .int (nI k)), (0, .ref (ad (2 + g))), (1, .int (bI fo))]) hx hb d_GR_occupyFile_7 rfl hl (by decide) rfl (fun ls hl => ?_)
  refine lv_aload_n hx hb d_GR_occupyFile_8 rfl (lv_at hl 1 rfl) ?_
  refine g_get (own := "GroupBitmaps$Group") (C := R_GR) (T := F_GR) (N := 6) (ci := 1) (v := .ref (ad (6 + (2 * g + 1)))) hx hb hg ku_GR hown hK hI (2 + g) (wd_GR hg4) rfl 4 (by decide) kw_62 rfl d_GR_occupyFile_9 ?_
  refine lv_iload_n hx hb d_GR_occupyFile_12 rfl (lv_at hl 0 rfl) ?_
  refine g_callV (own := "GroupBitmaps$Group") (C := "GroupBitmaps$Bitmap") (T := F_BM) (N := 5) (k := 1) (q0 := 6 + (2 * g + 1)) (ci := 2) (a := ad (6 + (2 * g + 1))) (As := [.int (nI k)]) (rest := []) (c_BM_occupy σ (2 * g + 1) h2h k (by omega) (fun _ => hfr)) hx hb hml hown hg hK hI hA kw_367 kw_273 kw_274 kw_3 kw_275 ky_BM_occupy ⟨Nat.le_of_ble_eq_true rfl, Nat.le_of_ble_eq_true rfl⟩ rfl rfl (wd_BM h2h) rfl rfl hl.1 (Nat.le_of_ble_eq_true rfl) ⟨Nat.zero_le _, Nat.zero_le _⟩ d_GR_occupyFile_13 rfl rfl (fun H locs hI => ?_)
  have hfd2 : sFd (sOcc σ (2 * g + 1) k) g = sFd σ g := by rw [sFd_sOcc]
  refine lv_iload_n hx hb d_GR_occupyFile_16 rfl (lv_at hl 2 rfl) ?_
  refine r_bz (b := fo) (tgt := 30) hx hb d_GR_occupyFile_17 (by decide) (fun h => ?_) (fun h => ?_)
  · have hs : sOccF σ g k fo = sOcc σ (2 * g + 1) k := by rw [h]; rfl
    rw [hs]
    refine lv_aload_n hx hb d_GR_occupyFile_30 rfl (lv_at hl 1 rfl) ?_
    refine g_get (own := "GroupBitmaps$Group") (C := R_GR) (T := F_GR) (N := 6) (ci := 1) (v := .int (nI (256 * g))) hx hb hg ku_GR hown hK hI (2 + g) (wd_GR hg4) rfl 0 (by decide) kw_55 rfl d_GR_occupyFile_31 ?_
    refine lv_sipush (v := nI 256) hx hb d_GR_occupyFile_34 (by decide) ?_
    refine r_idiv (a := 256 * g) (b := 256) hx hb (by omega) (by omega) (by omega) d_GR_occupyFile_37 ?_
    refine lv_sipush (v := nI 128) hx hb d_GR_occupyFile_38 (by decide) ?_
    refine r_imul (a := (256 * g) / 256) (b := 128) hx hb d_GR_occupyFile_41 ?_
    refine lv_iload_n hx hb d_GR_occupyFile_42 rfl (lv_at hl 0 rfl) ?_
    refine r_iadd (a := ((256 * g) / 256) * 128) (b := k) hx hb d_GR_occupyFile_43 ?_
    refine lv_iconst (v := nI 1) hx hb d_GR_occupyFile_44 (by decide) ?_
    refine r_iadd (a := (((256 * g) / 256) * 128) + k) (b := 1) hx hb d_GR_occupyFile_45 ?_
    exact g_ri hx hb hr hlk hI (by rw [show 256 * g / 256 * 128 + k + 1 = 128 * g + k + 1 by omega]) d_GR_occupyFile_46
  · have hs : sOccF σ g k fo = uFd (sOcc σ (2 * g + 1) k) g (sFd σ g + 1) := by rw [h]; rfl
    rw [hs]
    refine lv_aload_n hx hb d_GR_occupyFile_20 rfl (lv_at hl 1 rfl) ?_
    refine lv_dup hx hb d_GR_occupyFile_21 rfl ?_
    refine g_get (own := "GroupBitmaps$Group") (C := R_GR) (T := F_GR) (N := 6) (ci := 1) (v := .int (nI (sFd (sOcc σ (2 * g + 1) k) g))) hx hb hg ku_GR hown hK hI (2 + g) (wd_GR hg4) rfl 5 (by decide) kw_64 rfl d_GR_occupyFile_22 ?_
    refine lv_iconst (v := nI 1) hx hb d_GR_occupyFile_25 (by decide) ?_
    refine r_iadd (a := sFd (sOcc σ (2 * g + 1) k) g) (b := 1) hx hb d_GR_occupyFile_26 ?_
    rw [hfd2]
    refine g_put (ws' := (wd ad cG cZ (uFd (sOcc σ (2 * g + 1) k) g (sFd σ g + 1)))) (own := "GroupBitmaps$Group") (C := R_GR) (T := F_GR) (N := 6) (ci := 1) (v := .int (nI (sFd σ g + 1))) hx hb hg ku_GR t_GR t_GR_ok n_GR hown hK hI (2 + g) (wd_GR hg4) rfl 5 (by decide) kw_64 rfl rfl (rfl) (rfl) (Nat.le_of_ble_eq_true rfl) (wd_uFd hg4) d_GR_occupyFile_27 (fun H locs hI => ?_)
    refine lv_aload_n hx hb d_GR_occupyFile_30 rfl (lv_at hl 1 rfl) ?_
    refine g_get (own := "GroupBitmaps$Group") (C := R_GR) (T := F_GR) (N := 6) (ci := 1) (v := .int (nI (256 * g))) hx hb hg ku_GR hown hK hI (2 + g) (wd_GR hg4) rfl 0 (by decide) kw_55 rfl d_GR_occupyFile_31 ?_
    refine lv_sipush (v := nI 256) hx hb d_GR_occupyFile_34 (by decide) ?_
    refine r_idiv (a := 256 * g) (b := 256) hx hb (by omega) (by omega) (by omega) d_GR_occupyFile_37 ?_
    refine lv_sipush (v := nI 128) hx hb d_GR_occupyFile_38 (by decide) ?_
    refine r_imul (a := (256 * g) / 256) (b := 128) hx hb d_GR_occupyFile_41 ?_
    refine lv_iload_n hx hb d_GR_occupyFile_42 rfl (lv_at hl 0 rfl) ?_
    refine r_iadd (a := ((256 * g) / 256) * 128) (b := k) hx hb d_GR_occupyFile_43 ?_
    refine lv_iconst (v := nI 1) hx hb d_GR_occupyFile_44 (by decide) ?_
    refine r_iadd (a := (((256 * g) / 256) * 128) + k) (b := 1) hx hb d_GR_occupyFile_45 ?_
    exact g_ri hx hb hr hlk hI (by rw [show 256 * g / 256 * 128 + k + 1 = 128 * g + k + 1 by omega]) d_GR_occupyFile_46
set_option maxHeartbeats 4000000 in
set_option maxRecDepth 100000 in
theorem c_GR_freeFile {l : Launch} {D : va_G} {cG cZ cI cJ : ClassId} {ad : Nat → Nat} (σ : gS) (g : Nat) (hg4 : g < 4) (hσ : sB σ) (k : Nat) (hk : k < 65536) (fo : Bool) (hfo : fo = true → 1 ≤ sFd σ g) : gMet l D (gT cG cZ cI cJ) y_GR_freeFile b_GR_freeFile 3 none ({ frames := 1, cells := 0, slots := 0, locals := 21 }) (wd ad cG cZ σ) [.ref (ad (2 + g)), .int (nI k), .int (bI fo)] (wd ad cG cZ (sFreF σ g k fo)) (none) := by
  refine gMet_of (by decide) (Nat.le_of_ble_eq_true rfl) ?_
  intro p e s m below meth c A ls hC hA hI hl
  obtain ⟨hx, hb, hr, hlk, hown, hml, hg, hK⟩ := hC
  have hown : s.vm.findClass "GroupBitmaps$Group" = some m.cls := hown
  have hl : lv_has ls 3 [(0, .ref (ad (2 + g))), (1, .int (nI k)), (2, .int (bI fo))] := hl
  have h2g : 2 * g < 8 := by omega
  have h2h : 2 * g + 1 < 8 := by omega
  have hz := (hσ.2.2.2.1 (2 * g + 1) h2h).1
  have hfd := hσ.2.2.2.2 g hg4
  refine lv_aload_n hx hb d_GR_freeFile_0 rfl (lv_at hl 0 rfl) ?_
  refine g_get (own := "GroupBitmaps$Group") (C := R_GR) (T := F_GR) (N := 6) (ci := 1) (v := .ref (ad (6 + (2 * g + 1)))) hx hb hg ku_GR hown hK hI (2 + g) (wd_GR hg4) rfl 4 (by decide) kw_62 rfl d_GR_freeFile_1 ?_
  refine lv_iload_n hx hb d_GR_freeFile_4 rfl (lv_at hl 1 rfl) ?_
  refine g_callV (own := "GroupBitmaps$Group") (C := "GroupBitmaps$Bitmap") (T := F_BM) (N := 5) (k := 1) (q0 := 6 + (2 * g + 1)) (ci := 2) (a := ad (6 + (2 * g + 1))) (As := [.int (nI k)]) (rest := []) (c_BM_free σ (2 * g + 1) h2h k (by omega) hz) hx hb hml hown hg hK hI hA kw_382 kw_309 kw_310 kw_3 kw_311 ky_BM_free ⟨Nat.le_of_ble_eq_true rfl, Nat.le_of_ble_eq_true rfl⟩ rfl rfl (wd_BM h2h) rfl rfl hl.1 (Nat.le_of_ble_eq_true rfl) ⟨Nat.zero_le _, Nat.zero_le _⟩ d_GR_freeFile_5 rfl rfl (fun H locs hI => ?_)
  have hfd2 : sFd (sFre σ (2 * g + 1) k) g = sFd σ g := by rw [sFd_sFre]
  refine lv_iload_n hx hb d_GR_freeFile_8 rfl (lv_at hl 2 rfl) ?_
  refine r_bz (b := fo) (tgt := 22) hx hb d_GR_freeFile_9 (by decide) (fun h => ?_) (fun h => ?_)
  · have hs : sFreF σ g k fo = sFre σ (2 * g + 1) k := by rw [h]; rfl
    rw [hs]
    exact g_rv hx hb hr hlk hI (rfl) d_GR_freeFile_22
  · have hs : sFreF σ g k fo = uFd (sFre σ (2 * g + 1) k) g (sFd σ g - 1) := by rw [h]; rfl
    rw [hs]
    have hfo := hfo h
    refine lv_aload_n hx hb d_GR_freeFile_12 rfl (lv_at hl 0 rfl) ?_
    refine lv_dup hx hb d_GR_freeFile_13 rfl ?_
    refine g_get (own := "GroupBitmaps$Group") (C := R_GR) (T := F_GR) (N := 6) (ci := 1) (v := .int (nI (sFd (sFre σ (2 * g + 1) k) g))) hx hb hg ku_GR hown hK hI (2 + g) (wd_GR hg4) rfl 5 (by decide) kw_64 rfl d_GR_freeFile_14 ?_
    refine lv_iconst (v := nI 1) hx hb d_GR_freeFile_17 (by decide) ?_
    refine r_isub (a := sFd (sFre σ (2 * g + 1) k) g) (b := 1) hx hb (by omega) d_GR_freeFile_18 ?_
    rw [hfd2]
    refine g_put (ws' := (wd ad cG cZ (uFd (sFre σ (2 * g + 1) k) g (sFd σ g - 1)))) (own := "GroupBitmaps$Group") (C := R_GR) (T := F_GR) (N := 6) (ci := 1) (v := .int (nI (sFd σ g - 1))) hx hb hg ku_GR t_GR t_GR_ok n_GR hown hK hI (2 + g) (wd_GR hg4) rfl 5 (by decide) kw_64 rfl rfl (rfl) (rfl) (Nat.le_of_ble_eq_true rfl) (wd_uFd hg4) d_GR_freeFile_19 (fun H locs hI => ?_)
    exact g_rv hx hb hr hlk hI (rfl) d_GR_freeFile_22
set_option maxHeartbeats 4000000 in
set_option maxRecDepth 100000 in
theorem c_GR_byteOfNumber {l : Launch} {D : va_G} {cG cZ cI cJ : ClassId} {ad : Nat → Nat} (σ : gS) (x k : Nat) (hx0 : x < 2 ^ 31) (hk : k < 4) : gMet l D (gT cG cZ cI cJ) y_GR_byteOfNumber b_GR_byteOfNumber 2 (some .int) ({ frames := 0, cells := 0, slots := 0, locals := 0 }) (wd ad cG cZ σ) [.int (nI x), .int (nI k)] (wd ad cG cZ σ) (some (.int (nI (byN x k)))) := by
  refine gMet_of (by decide) (Nat.le_of_ble_eq_true rfl) ?_
  intro p e s m below meth c A ls hC hA hI hl
  obtain ⟨hx, hb, hr, hlk, hown, hml, hg, hK⟩ := hC
  have hown : s.vm.findClass "GroupBitmaps$Group" = some m.cls := hown
  have hl : lv_has ls 2 [(0, .int (nI x)), (1, .int (nI k))] := hl
  refine lv_iload_n hx hb d_GR_byteOfNumber_0 rfl (lv_at hl 0 rfl) ?_
  refine lv_bipush (v := nI 8) hx hb d_GR_byteOfNumber_1 (by decide) ?_
  refine lv_iload_n hx hb d_GR_byteOfNumber_3 rfl (lv_at hl 1 rfl) ?_
  refine r_imul (a := 8) (b := k) hx hb d_GR_byteOfNumber_4 ?_
  refine lv_ishr hx hb d_GR_byteOfNumber_5 ?_
  refine lv_sipush (v := nI 255) hx hb d_GR_byteOfNumber_6 (by decide) ?_
  refine lv_iand hx hb d_GR_byteOfNumber_9 ?_
  rw [byN_eq hx0 hk]
  exact g_ri hx hb hr hlk hI (rfl) d_GR_byteOfNumber_10
set_option maxHeartbeats 4000000 in
set_option maxRecDepth 100000 in
theorem c_GR_tableByte {l : Launch} {D : va_G} {cG cZ cI cJ : ClassId} {ad : Nat → Nat} (σ : gS) (g : Nat) (hg4 : g < 4) (hσ : sB σ) (t : Nat) (ht : t < 32) : gMet l D (gT cG cZ cI cJ) y_GR_tableByte b_GR_tableByte 2 (some .int) ({ frames := 1, cells := 0, slots := 0, locals := 21 }) (wd ad cG cZ σ) [.ref (ad (2 + g)), .int (nI t)] (wd ad cG cZ σ) (some (.int (nI (gTb σ g t)))) := by
  refine gMet_of (by decide) (Nat.le_of_ble_eq_true rfl) ?_
  intro p e s m below meth c A ls hC hA hI hl
  obtain ⟨hx, hb, hr, hlk, hown, hml, hg, hK⟩ := hC
  have hown : s.vm.findClass "GroupBitmaps$Group" = some m.cls := hown
  have hl : lv_has ls 2 [(0, .ref (ad (2 + g))), (1, .int (nI t))] := hl
  have h2g : 2 * g < 8 := by omega
  have h2h : 2 * g + 1 < 8 := by omega
  have hp1 := gPl_lt h2g
  have hp2 := gPl_lt h2h
  have hhd := gHd_le g
  have hb1 := (hσ.2.2.2.1 (2 * g) h2g).2
  have hb2 := (hσ.2.2.2.1 (2 * g + 1) h2h).2
  have hfd := hσ.2.2.2.2 g hg4
  refine lv_iload_n hx hb d_GR_tableByte_0 rfl (lv_at hl 1 rfl) ?_
  refine lv_iconst (v := nI 4) hx hb d_GR_tableByte_1 (by decide) ?_
  refine r_ge (a := t) (b := 4) (tgt := 17) hx hb d_GR_tableByte_2 (by decide) (by omega) (by omega) (fun h0 => ?_) (fun h0 => ?_)
  · refine lv_iload_n hx hb d_GR_tableByte_17 rfl (lv_at hl 1 rfl) ?_
    refine lv_bipush (v := nI 8) hx hb d_GR_tableByte_18 (by decide) ?_
    refine r_ge (a := t) (b := 8) (tgt := 37) hx hb d_GR_tableByte_20 (by decide) (by omega) (by omega) (fun h1 => ?_) (fun h1 => ?_)
    · refine lv_iload_n hx hb d_GR_tableByte_37 rfl (lv_at hl 1 rfl) ?_
      refine lv_bipush (v := nI 12) hx hb d_GR_tableByte_38 (by decide) ?_
      refine r_ge (a := t) (b := 12) (tgt := 55) hx hb d_GR_tableByte_40 (by decide) (by omega) (by omega) (fun h2 => ?_) (fun h2 => ?_)
      · refine lv_iload_n hx hb d_GR_tableByte_55 rfl (lv_at hl 1 rfl) ?_
        refine lv_bipush (v := nI 14) hx hb d_GR_tableByte_56 (by decide) ?_
        refine r_ge (a := t) (b := 14) (tgt := 76) hx hb d_GR_tableByte_58 (by decide) (by omega) (by omega) (fun h3 => ?_) (fun h3 => ?_)
        · refine lv_iload_n hx hb d_GR_tableByte_76 rfl (lv_at hl 1 rfl) ?_
          refine lv_bipush (v := nI 16) hx hb d_GR_tableByte_77 (by decide) ?_
          refine r_ge (a := t) (b := 16) (tgt := 97) hx hb d_GR_tableByte_79 (by decide) (by omega) (by omega) (fun h4 => ?_) (fun h4 => ?_)
          · refine lv_iload_n hx hb d_GR_tableByte_97 rfl (lv_at hl 1 rfl) ?_
            refine lv_bipush (v := nI 18) hx hb d_GR_tableByte_98 (by decide) ?_
            refine r_ge (a := t) (b := 18) (tgt := 117) hx hb d_GR_tableByte_100 (by decide) (by omega) (by omega) (fun h5 => ?_) (fun h5 => ?_)
            · refine lv_iconst (v := nI 0) hx hb d_GR_tableByte_117 (by decide) ?_
              exact g_ri hx hb hr hlk hI (by rw [gTb, if_neg (Nat.not_lt.mpr h0), if_neg (Nat.not_lt.mpr h1), if_neg (Nat.not_lt.mpr h2), if_neg (Nat.not_lt.mpr h3), if_neg (Nat.not_lt.mpr h4), if_neg (Nat.not_lt.mpr h5)]) d_GR_tableByte_118
            · refine lv_aload_n hx hb d_GR_tableByte_103 rfl (lv_at hl 0 rfl) ?_
              refine g_get (own := "GroupBitmaps$Group") (C := R_GR) (T := F_GR) (N := 6) (ci := 1) (v := .int (nI (sFd σ g))) hx hb hg ku_GR hown hK hI (2 + g) (wd_GR hg4) rfl 5 (by decide) kw_64 rfl d_GR_tableByte_104 ?_
              refine lv_iload_n hx hb d_GR_tableByte_107 rfl (lv_at hl 1 rfl) ?_
              refine lv_bipush (v := nI 16) hx hb d_GR_tableByte_108 (by decide) ?_
              refine r_isub (a := t) (b := 16) hx hb (by omega) d_GR_tableByte_110 ?_
              refine g_callS (own := "GroupBitmaps$Group") (k := 2) (As := [.int (nI (sFd σ g)), .int (nI (t - 16))]) (rest := []) (c_GR_byteOfNumber σ (sFd σ g) (t - 16) (by omega) (by omega)) hx hb hml hown hg hK hI hA kw_432 kw_433 kw_2 kw_434 ky_GR_byteOfNumber ⟨Nat.le_of_ble_eq_true rfl, Nat.le_of_ble_eq_true rfl⟩ rfl rfl rfl hl.1 (Nat.le_of_ble_eq_true rfl) ⟨Nat.zero_le _, Nat.zero_le _⟩ d_GR_tableByte_111 rfl rfl (fun H locs hI => ?_)
              refine lv_goto (tgt := 118) hx hb d_GR_tableByte_114 (by decide) ?_
              exact g_ri hx hb hr hlk hI (by rw [gTb, if_neg (Nat.not_lt.mpr h0), if_neg (Nat.not_lt.mpr h1), if_neg (Nat.not_lt.mpr h2), if_neg (Nat.not_lt.mpr h3), if_neg (Nat.not_lt.mpr h4), if_pos h5]) d_GR_tableByte_118
          · refine lv_aload_n hx hb d_GR_tableByte_82 rfl (lv_at hl 0 rfl) ?_
            refine g_get (own := "GroupBitmaps$Group") (C := R_GR) (T := F_GR) (N := 6) (ci := 1) (v := .ref (ad (6 + (2 * g + 1)))) hx hb hg ku_GR hown hK hI (2 + g) (wd_GR hg4) rfl 4 (by decide) kw_62 rfl d_GR_tableByte_83 ?_
            refine g_getN (own := "GroupBitmaps$Group") (C := R_BM) (T := F_BM) (N := 5) (ci := 2) (v := .int (nI (sFr σ (2 * g + 1)))) hx hb hg ku_BM hown hK hI (6 + (2 * g + 1)) (wd_BM h2h) rfl 3 (by decide) kw_39 rfl d_GR_tableByte_86 ?_
            refine lv_iload_n hx hb d_GR_tableByte_89 rfl (lv_at hl 1 rfl) ?_
            refine lv_bipush (v := nI 14) hx hb d_GR_tableByte_90 (by decide) ?_
            refine r_isub (a := t) (b := 14) hx hb (by omega) d_GR_tableByte_92 ?_
            refine g_callS (own := "GroupBitmaps$Group") (k := 2) (As := [.int (nI (sFr σ (2 * g + 1))), .int (nI (t - 14))]) (rest := []) (c_GR_byteOfNumber σ (sFr σ (2 * g + 1)) (t - 14) (by omega) (by omega)) hx hb hml hown hg hK hI hA kw_432 kw_433 kw_2 kw_434 ky_GR_byteOfNumber ⟨Nat.le_of_ble_eq_true rfl, Nat.le_of_ble_eq_true rfl⟩ rfl rfl rfl hl.1 (Nat.le_of_ble_eq_true rfl) ⟨Nat.zero_le _, Nat.zero_le _⟩ d_GR_tableByte_93 rfl rfl (fun H locs hI => ?_)
            exact g_ri hx hb hr hlk hI (by rw [gTb, if_neg (Nat.not_lt.mpr h0), if_neg (Nat.not_lt.mpr h1), if_neg (Nat.not_lt.mpr h2), if_neg (Nat.not_lt.mpr h3), if_pos h4]) d_GR_tableByte_96
        · refine lv_aload_n hx hb d_GR_tableByte_61 rfl (lv_at hl 0 rfl) ?_
          refine g_get (own := "GroupBitmaps$Group") (C := R_GR) (T := F_GR) (N := 6) (ci := 1) (v := .ref (ad (6 + (2 * g)))) hx hb hg ku_GR hown hK hI (2 + g) (wd_GR hg4) rfl 3 (by decide) kw_60 rfl d_GR_tableByte_62 ?_
          refine g_getN (own := "GroupBitmaps$Group") (C := R_BM) (T := F_BM) (N := 5) (ci := 2) (v := .int (nI (sFr σ (2 * g)))) hx hb hg ku_BM hown hK hI (6 + (2 * g)) (wd_BM h2g) rfl 3 (by decide) kw_39 rfl d_GR_tableByte_65 ?_
          refine lv_iload_n hx hb d_GR_tableByte_68 rfl (lv_at hl 1 rfl) ?_
          refine lv_bipush (v := nI 12) hx hb d_GR_tableByte_69 (by decide) ?_
          refine r_isub (a := t) (b := 12) hx hb (by omega) d_GR_tableByte_71 ?_
          refine g_callS (own := "GroupBitmaps$Group") (k := 2) (As := [.int (nI (sFr σ (2 * g))), .int (nI (t - 12))]) (rest := []) (c_GR_byteOfNumber σ (sFr σ (2 * g)) (t - 12) (by omega) (by omega)) hx hb hml hown hg hK hI hA kw_432 kw_433 kw_2 kw_434 ky_GR_byteOfNumber ⟨Nat.le_of_ble_eq_true rfl, Nat.le_of_ble_eq_true rfl⟩ rfl rfl rfl hl.1 (Nat.le_of_ble_eq_true rfl) ⟨Nat.zero_le _, Nat.zero_le _⟩ d_GR_tableByte_72 rfl rfl (fun H locs hI => ?_)
          exact g_ri hx hb hr hlk hI (by rw [gTb, if_neg (Nat.not_lt.mpr h0), if_neg (Nat.not_lt.mpr h1), if_neg (Nat.not_lt.mpr h2), if_pos h3]) d_GR_tableByte_75
      · refine lv_aload_n hx hb d_GR_tableByte_43 rfl (lv_at hl 0 rfl) ?_
        refine g_get (own := "GroupBitmaps$Group") (C := R_GR) (T := F_GR) (N := 6) (ci := 1) (v := .int (nI (256 * g + gHd g + 2))) hx hb hg ku_GR hown hK hI (2 + g) (wd_GR hg4) rfl 2 (by decide) kw_59 rfl d_GR_tableByte_44 ?_
        refine lv_iload_n hx hb d_GR_tableByte_47 rfl (lv_at hl 1 rfl) ?_
        refine lv_bipush (v := nI 8) hx hb d_GR_tableByte_48 (by decide) ?_
        refine r_isub (a := t) (b := 8) hx hb (by omega) d_GR_tableByte_50 ?_
        refine g_callS (own := "GroupBitmaps$Group") (k := 2) (As := [.int (nI (256 * g + gHd g + 2)), .int (nI (t - 8))]) (rest := []) (c_GR_byteOfNumber σ (256 * g + gHd g + 2) (t - 8) (by omega) (by omega)) hx hb hml hown hg hK hI hA kw_432 kw_433 kw_2 kw_434 ky_GR_byteOfNumber ⟨Nat.le_of_ble_eq_true rfl, Nat.le_of_ble_eq_true rfl⟩ rfl rfl rfl hl.1 (Nat.le_of_ble_eq_true rfl) ⟨Nat.zero_le _, Nat.zero_le _⟩ d_GR_tableByte_51 rfl rfl (fun H locs hI => ?_)
        exact g_ri hx hb hr hlk hI (by rw [gTb, if_neg (Nat.not_lt.mpr h0), if_neg (Nat.not_lt.mpr h1), if_pos h2]) d_GR_tableByte_54
    · refine lv_aload_n hx hb d_GR_tableByte_23 rfl (lv_at hl 0 rfl) ?_
      refine g_get (own := "GroupBitmaps$Group") (C := R_GR) (T := F_GR) (N := 6) (ci := 1) (v := .ref (ad (6 + (2 * g + 1)))) hx hb hg ku_GR hown hK hI (2 + g) (wd_GR hg4) rfl 4 (by decide) kw_62 rfl d_GR_tableByte_24 ?_
      refine g_getN (own := "GroupBitmaps$Group") (C := R_BM) (T := F_BM) (N := 5) (ci := 2) (v := .int (nI (gPl (2 * g + 1)))) hx hb hg ku_BM hown hK hI (6 + (2 * g + 1)) (wd_BM h2h) rfl 0 (by decide) kw_34 rfl d_GR_tableByte_27 ?_
      refine lv_iload_n hx hb d_GR_tableByte_30 rfl (lv_at hl 1 rfl) ?_
      refine lv_iconst (v := nI 4) hx hb d_GR_tableByte_31 (by decide) ?_
      refine r_isub (a := t) (b := 4) hx hb (by omega) d_GR_tableByte_32 ?_
      refine g_callS (own := "GroupBitmaps$Group") (k := 2) (As := [.int (nI (gPl (2 * g + 1))), .int (nI (t - 4))]) (rest := []) (c_GR_byteOfNumber σ (gPl (2 * g + 1)) (t - 4) (by omega) (by omega)) hx hb hml hown hg hK hI hA kw_432 kw_433 kw_2 kw_434 ky_GR_byteOfNumber ⟨Nat.le_of_ble_eq_true rfl, Nat.le_of_ble_eq_true rfl⟩ rfl rfl rfl hl.1 (Nat.le_of_ble_eq_true rfl) ⟨Nat.zero_le _, Nat.zero_le _⟩ d_GR_tableByte_33 rfl rfl (fun H locs hI => ?_)
      exact g_ri hx hb hr hlk hI (by rw [gTb, if_neg (Nat.not_lt.mpr h0), if_pos h1]) d_GR_tableByte_36
  · refine lv_aload_n hx hb d_GR_tableByte_5 rfl (lv_at hl 0 rfl) ?_
    refine g_get (own := "GroupBitmaps$Group") (C := R_GR) (T := F_GR) (N := 6) (ci := 1) (v := .ref (ad (6 + (2 * g)))) hx hb hg ku_GR hown hK hI (2 + g) (wd_GR hg4) rfl 3 (by decide) kw_60 rfl d_GR_tableByte_6 ?_
    refine g_getN (own := "GroupBitmaps$Group") (C := R_BM) (T := F_BM) (N := 5) (ci := 2) (v := .int (nI (gPl (2 * g)))) hx hb hg ku_BM hown hK hI (6 + (2 * g)) (wd_BM h2g) rfl 0 (by decide) kw_34 rfl d_GR_tableByte_9 ?_
    refine lv_iload_n hx hb d_GR_tableByte_12 rfl (lv_at hl 1 rfl) ?_
    refine g_callS (own := "GroupBitmaps$Group") (k := 2) (As := [.int (nI (gPl (2 * g))), .int (nI t)]) (rest := []) (c_GR_byteOfNumber σ (gPl (2 * g)) (t) (by omega) (by omega)) hx hb hml hown hg hK hI hA kw_432 kw_433 kw_2 kw_434 ky_GR_byteOfNumber ⟨Nat.le_of_ble_eq_true rfl, Nat.le_of_ble_eq_true rfl⟩ rfl rfl rfl hl.1 (Nat.le_of_ble_eq_true rfl) ⟨Nat.zero_le _, Nat.zero_le _⟩ d_GR_tableByte_13 rfl rfl (fun H locs hI => ?_)
    exact g_ri hx hb hr hlk hI (by rw [gTb, if_pos h0]) d_GR_tableByte_16
end
section
/-! ===== what the private methods of the class answer and do ===== -/
def sHasB (σ : gS) (x : Int32) : Bool := decide (0 ≤ x.toInt) && decide (x.toInt < (sAll σ : Int))
theorem sHasB_neg {σ : gS} {x : Int32} (h : x < 0) : sHasB σ x = false := by
  have h1 : x.toInt < 0 := Int32.lt_iff_toInt_lt.mp h
  have h2 : ¬ 0 ≤ x.toInt := by omega
  simp [sHasB, h2]
theorem sHasB_ge {σ : gS} {x : Int32} (hσ : sB σ) (h : nI (sAll σ) ≤ x) : sHasB σ x = false := by
  have h1 := Int32.le_iff_toInt_le.mp h
  have h3 := sAll_le hσ
  rw [nI_toInt (by omega)] at h1
  have h2 : ¬ x.toInt < (sAll σ : Int) := by omega
  simp [sHasB, h2]
theorem sHasB_t {σ : gS} {x : Int32} (hσ : sB σ) (h : ¬ x < 0) (h2 : ¬ nI (sAll σ) ≤ x) : sHasB σ x = true := by
  have h1 : ¬ x.toInt < 0 := fun q => h (Int32.lt_iff_toInt_lt.mpr q)
  have h3 := sAll_le hσ
  have h4 : ¬ (sAll σ : Int) ≤ x.toInt := fun q => h2 (Int32.le_iff_toInt_le.mpr (by rw [nI_toInt (by omega)]; exact q))
  have h5 : 0 ≤ x.toInt := by omega
  have h6 : x.toInt < (sAll σ : Int) := by omega
  simp [sHasB, h5, h6]
def sHasF (σ : gS) (x : Int32) : Bool := decide (1 ≤ x.toInt) && decide (x.toInt ≤ (sCnt σ * 128 : Nat))
theorem sHasF_lo {σ : gS} {x : Int32} (h : x < nI 1) : sHasF σ x = false := by
  have h1 := Int32.lt_iff_toInt_lt.mp h
  rw [nI_toInt (by omega)] at h1
  have h2 : ¬ 1 ≤ x.toInt := by omega
  simp [sHasF, h2]
theorem sHasF_hi {σ : gS} {x : Int32} (hσ : sB σ) (h : nI (sCnt σ * 128) < x) : sHasF σ x = false := by
  have h1 := Int32.lt_iff_toInt_lt.mp h
  have h3 := hσ.2.1
  rw [nI_toInt (by omega)] at h1
  have h2 : ¬ x.toInt ≤ (sCnt σ * 128 : Nat) := by omega
  unfold sHasF
  rw [decide_eq_false h2, Bool.and_false]
theorem sHasF_t {σ : gS} {x : Int32} (hσ : sB σ) (h : ¬ x < nI 1) (h2 : ¬ nI (sCnt σ * 128) < x) : sHasF σ x = true := by
  have h3 := hσ.2.1
  have h1 : ¬ x.toInt < 1 := fun q => h (Int32.lt_iff_toInt_lt.mpr (by rw [nI_toInt (by omega)]; exact q))
  have h4 : ¬ ((sCnt σ * 128 : Nat) : Int) < x.toInt := fun q => h2 (Int32.lt_iff_toInt_lt.mpr (by rw [nI_toInt (by omega)]; exact q))
  have h5 : 1 ≤ x.toInt := by omega
  have h6 : x.toInt ≤ (sCnt σ * 128 : Nat) := by omega
  unfold sHasF
  rw [decide_eq_true h5, decide_eq_true h6]
  rfl
/-- q numbers of bitmap j taken, from a on -/
def sOccs (σ : gS) (j a : Nat) : Nat → gS
  | 0 => σ
  | t + 1 => sOcc (sOccs σ j a t) j (a + t)
def sRun (σ : gS) (g a q : Nat) : gS := uTT (uLat (sOccs σ (2 * g) a q) q) true
/-- what makes taking them safe: where one is free, it is counted -/
def sSafe (σ : gS) (j a q : Nat) : Prop := ∀ t, t < q → sSet (sOccs σ j a t) j (a + t) = false → 0 < sFr (sOccs σ j a t) j
def sLen5 (σ : gS) (g : Nat) : Nat := (sLr σ (2 * g) (sSz σ (2 * g))).1
def sNx (σ : gS) (g k : Nat) : Nat := (g + k) % sCnt σ
theorem sNx_lt {σ : gS} (hσ : sB σ) (g k : Nat) : sNx σ g k < 4 := Nat.lt_of_lt_of_le (Nat.mod_lt _ hσ.1) hσ.2.1
def sBestN (q : Nat × Nat) (nx len : Nat) : Nat × Nat := if q.2 < len then (nx, len) else q
def sBest (σ : gS) (g : Nat) : Nat → Nat × Nat
  | 0 => (g, sLen5 σ g)
  | k + 1 => sBestN (sBest σ g k) (sNx σ g (k + 1)) (sLen5 σ (sNx σ g (k + 1)))
theorem sLen5_le {σ : gS} (hσ : sB σ) {g : Nat} (hg : g < 4) : sLen5 σ g ≤ 256 := by
  have h1 := (sLr_le σ (2 * g) (sSz σ (2 * g))).1
  have h2 := (hσ.2.2.2.1 (2 * g) (by omega)).1
  have h3 := gLen_le (2 * g)
  unfold sLen5
  omega
theorem sBest_le {σ : gS} (hσ : sB σ) {g : Nat} (hg : g < 4) (k : Nat) : (sBest σ g k).1 < 4 ∧ (sBest σ g k).2 ≤ 256 := by
  induction k with
  | zero => exact ⟨hg, sLen5_le hσ hg⟩
  | succ k ih =>
    have h1 := sNx_lt hσ g (k + 1)
    have h2 := sLen5_le hσ h1
    show (sBestN _ _ _).1 < 4 ∧ (sBestN _ _ _).2 ≤ 256
    unfold sBestN
    split
    · exact ⟨h1, h2⟩
    · exact ih
/-- the first group, from g on, with a run of q or more, and where that begins -/
def sFind (σ : gS) (g q : Nat) : Nat → Option (Nat × Nat)
  | 0 => none
  | k + 1 => match sFind σ g q k with
    | some z => some z
    | none => match (sSr σ (2 * sNx σ g k) q (sSz σ (2 * sNx σ g k))).1 with
      | some a => some (sNx σ g k, a)
      | none => none
theorem sFind_some {σ : gS} {g q k n a : Nat} (h : sFind σ g q k = none) (hs : (sSr σ (2 * sNx σ g k) q (sSz σ (2 * sNx σ g k))).1 = some a) (hk : k < n) : sFind σ g q n = some (sNx σ g k, a) := by
  obtain ⟨t, rfl⟩ : ∃ t, n = k + 1 + t := ⟨n - (k + 1), by omega⟩
  clear hk
  induction t with
  | zero => simp [sFind, h, hs]
  | succ t ih =>
    show (match sFind σ g q (k + 1 + t) with | some z => some z | none => _) = _
    rw [ih]
theorem sFind_step {σ : gS} {g q k : Nat} (h : sFind σ g q k = none) (hs : (sSr σ (2 * sNx σ g k) q (sSz σ (2 * sNx σ g k))).1 = none) : sFind σ g q (k + 1) = none := by
  simp [sFind, h, hs]
/-- the group, the first number and how many: what take() takes near to the goal -/
def sPick (σ : gS) (goal q : Nat) : Nat × Nat × Nat :=
  if sAf σ (2 * (goal / 256)) (goal % 256) q = true then (goal / 256, goal % 256, q)
  else match sFind σ (goal / 256) q (sCnt σ) with
    | some z => (z.1, z.2, q)
    | none =>
      let bb := sBest σ (goal / 256) (sCnt σ - 1)
      (bb.1, ((sSr σ (2 * bb.1) bb.2 (sSz σ (2 * bb.1))).1).getD 0, bb.2)
/-- fixed, or free: may not be given -/
def sGv1 (σ : gS) (q : Nat) : Bool := decide (gHd (q / 256) + 10 ≤ q % 256) && sSet σ (2 * (q / 256)) (q % 256)
def sGv (σ : gS) (a : Nat) : Nat → Bool
  | 0 => true
  | k + 1 => sGv σ a k && sGv1 σ (a + k)
theorem sGv_false {σ : gS} {a t n : Nat} (hs : sGv1 σ (a + t) = false) (hk : t < n) : sGv σ a n = false := by
  obtain ⟨u, rfl⟩ : ∃ u, n = t + 1 + u := ⟨n - (t + 1), by omega⟩
  clear hk
  induction u with
  | zero => simp [sGv, hs]
  | succ u ih =>
    show (sGv σ a (t + 1 + u) && _) = false
    rw [ih]; rfl
theorem sGv_step {σ : gS} {a t : Nat} (h : sGv σ a t = true) (hs : sGv1 σ (a + t) = true) : sGv σ a (t + 1) = true := by simp [sGv, h, hs]
/-- the first group, from g on, with a property -/
def sFst (σ : gS) (g : Nat) (P : Nat → Bool) : Nat → Option Nat
  | 0 => none
  | k + 1 => match sFst σ g P k with
    | some z => some z
    | none => if P (sNx σ g k) = true then some (sNx σ g k) else none
theorem sFst_some {σ : gS} {g k n : Nat} {P : Nat → Bool} (h : sFst σ g P k = none) (hs : P (sNx σ g k) = true) (hk : k < n) : sFst σ g P n = some (sNx σ g k) := by
  obtain ⟨t, rfl⟩ : ∃ t, n = k + 1 + t := ⟨n - (k + 1), by omega⟩
  clear hk
  induction t with
  | zero => simp [sFst, h, hs]
  | succ t ih =>
    show (match sFst σ g P (k + 1 + t) with | some z => some z | none => _) = _
    rw [ih]
theorem sFst_step {σ : gS} {g k : Nat} {P : Nat → Bool} (h : sFst σ g P k = none) (hs : P (sNx σ g k) = false) : sFst σ g P (k + 1) = none := by simp [sFst, h, hs]
theorem sFst_lt {σ : gS} (hσ : sB σ) {g : Nat} {P : Nat → Bool} {n z : Nat} (h : sFst σ g P n = some z) : z < 4 := by
  induction n with
  | zero => cases h
  | succ n ih =>
    unfold sFst at h
    cases hq : sFst σ g P n with
    | some y => rw [hq] at h; cases h; exact ih hq
    | none =>
      rw [hq] at h
      dsimp only at h
      split at h
      · cases h; exact sNx_lt hσ g n
      · cases h
def gR (ad : Nat → Nat) (o : Option Nat) : Value := match o with
  | none => .null
  | some g => .ref (ad (2 + g))
def pFile (σ : gS) (g : Nat) : Bool := decide (1 ≤ sFr σ (2 * g + 1))
def pRoom (σ : gS) (g : Nat) : Bool := decide (sFF σ (sCnt σ) / sCnt σ / 2 ≤ sFr σ (2 * g + 1)) && sHas σ g
def pLeast (σ : gS) (g : Nat) : Bool := decide (Nat.max 1 (sFF σ (sCnt σ) / sCnt σ) ≤ sFr σ (2 * g + 1)) && decide (sFB σ (sCnt σ) / sCnt σ ≤ sFr σ (2 * g))
/-- of those that fit the one with the fewest folders, the first of several -/
def sLeastN (σ : gS) (o : Option Nat) (x : Nat) : Option Nat := if pLeast σ x = true then (match o with | none => some x | some y => if sFd σ x < sFd σ y then some x else some y) else o
def sLeast (σ : gS) (g : Nat) : Nat → Option Nat
  | 0 => none
  | k + 1 => sLeastN σ (sLeast σ g k) (sNx σ g k)
theorem sLeast_lt {σ : gS} (hσ : sB σ) {g : Nat} {n z : Nat} (h : sLeast σ g n = some z) : z < 4 := by
  induction n generalizing z with
  | zero => cases h
  | succ n ih =>
    have h1 := sNx_lt hσ g n
    have h : sLeastN σ (sLeast σ g n) (sNx σ g n) = some z := h
    unfold sLeastN at h
    split at h
    · cases hq : sLeast σ g n with
      | none => rw [hq] at h; cases h; exact h1
      | some y =>
        rw [hq] at h
        dsimp only at h
        split at h
        · cases h; exact h1
        · cases h; exact ih hq
    · exact ih h
def sFolder (σ : gS) (f : Nat) : Option Nat :=
  match (if f = 2 then sLeast σ ((f - 1) / 128) (sCnt σ) else none) with
  | some z => some z
  | none => match sFst σ ((f - 1) / 128) (pRoom σ) (sCnt σ) with
    | some z => some z
    | none => sFst σ ((f - 1) / 128) (pFile σ) (sCnt σ)
def sStl (σ : gS) : Nat → gS
  | 0 => uTT σ false
  | g + 1 => uTd (uTd (sStl σ g) (2 * g) false) (2 * g + 1) false
def b1 (b : Bool) : Nat := if b = true then 1 else 0
def sSc (σ : gS) : Nat → Nat
  | 0 => b1 (sTT σ)
  | g + 1 => sSc σ g + b1 (sTd (sStl σ g) (2 * g)) + b1 (sTd (uTd (sStl σ g) (2 * g) false) (2 * g + 1))
theorem b1_le (b : Bool) : b1 b ≤ 1 := by cases b <;> decide
theorem sSc_le (σ : gS) (g : Nat) : sSc σ g ≤ 2 * g + 1 := by
  induction g with
  | zero => exact b1_le _
  | succ g ih =>
    have h1 := b1_le (sTd (sStl σ g) (2 * g))
    have h2 := b1_le (sTd (uTd (sStl σ g) (2 * g) false) (2 * g + 1))
    show sSc σ g + b1 _ + b1 _ ≤ _
    omega
def sTb (σ : gS) (t : Nat) : Nat := if t / 32 < sCnt σ then gTb σ (t / 32) (t % 32) else 0
end
section
set_option maxHeartbeats 4000000 in
set_option maxRecDepth 100000 in
theorem c_GB_allBlocks {l : Launch} {D : va_G} {cG cZ cI cJ : ClassId} {ad : Nat → Nat} (σ : gS) (hσ : sB σ)  : gMet l D (gT cG cZ cI cJ) y_GB_allBlocks b_GB_allBlocks 1 (some .int) ({ frames := 0, cells := 0, slots := 0, locals := 0 }) (wd ad cG cZ σ) [.ref (ad 0)] (wd ad cG cZ σ) (some (.int (nI (sAll σ)))) := by
  refine gMet_of (by decide) (Nat.le_of_ble_eq_true rfl) ?_
  intro p e s m below meth c A ls hC hA hI hl
  obtain ⟨hx, hb, hr, hlk, hown, hml, hg, hK⟩ := hC
  have hown : s.vm.findClass "GroupBitmaps" = some m.cls := hown
  have hl : lv_has ls 1 [(0, .ref (ad 0))] := hl
  have hc1 := hσ.1
  have hc2 := hσ.2.1
  refine lv_aload_n hx hb d_GB_allBlocks_0 rfl (lv_at hl 0 rfl) ?_
  refine g_get (own := "GroupBitmaps") (C := R_GB) (T := F_GB) (N := 5) (ci := 0) (v := .int (nI (sCnt σ))) hx hb hg ku_GB hown hK hI (0) (wd_GB) rfl 1 (by decide) kw_92 rfl d_GB_allBlocks_1 ?_
  refine lv_iconst (v := nI 1) hx hb d_GB_allBlocks_4 (by decide) ?_
  refine r_isub (a := sCnt σ) (b := 1) hx hb (by omega) d_GB_allBlocks_5 ?_
  refine lv_sipush (v := nI 256) hx hb d_GB_allBlocks_6 (by decide) ?_
  refine r_imul (a := (sCnt σ) - 1) (b := 256) hx hb d_GB_allBlocks_9 ?_
  refine lv_aload_n hx hb d_GB_allBlocks_10 rfl (lv_at hl 0 rfl) ?_
  refine g_get (own := "GroupBitmaps") (C := R_GB) (T := F_GB) (N := 5) (ci := 0) (v := .ref (ad 1)) hx hb hg ku_GB hown hK hI (0) (wd_GB) rfl 0 (by decide) kw_91 rfl d_GB_allBlocks_11 ?_
  refine lv_aload_n hx hb d_GB_allBlocks_14 rfl (lv_at hl 0 rfl) ?_
  refine g_get (own := "GroupBitmaps") (C := R_GB) (T := F_GB) (N := 5) (ci := 0) (v := .int (nI (sCnt σ))) hx hb hg ku_GB hown hK hI (0) (wd_GB) rfl 1 (by decide) kw_92 rfl d_GB_allBlocks_15 ?_
  refine lv_iconst (v := nI 1) hx hb d_GB_allBlocks_18 (by decide) ?_
  refine r_isub (a := sCnt σ) (b := 1) hx hb (by omega) d_GB_allBlocks_19 ?_
  refine g_aldq (r := ad (2 + ((sCnt σ) - 1))) (i := (sCnt σ) - 1) hx hb hK hI (1) 0 (wd_GA) rfl (by omega) (by decide) rfl d_GB_allBlocks_20 ?_
  have hq0 := show sCnt σ - 1 < 4 by omega
  have hr0 : 2 * (sCnt σ - 1) < 8 := by omega
  have hs0 : 2 * (sCnt σ - 1) + 1 < 8 := by omega
  refine g_getN (own := "GroupBitmaps") (C := R_GR) (T := F_GR) (N := 6) (ci := 1) (v := .ref (ad (6 + (2 * (sCnt σ - 1))))) hx hb hg ku_GR hown hK hI (2 + (sCnt σ - 1)) (wd_GR hq0) rfl 3 (by decide) kw_61 rfl d_GB_allBlocks_21 ?_
  refine g_getN (own := "GroupBitmaps") (C := R_BM) (T := F_BM) (N := 5) (ci := 2) (v := .int (nI (sSz σ (2 * (sCnt σ - 1))))) hx hb hg ku_BM hown hK hI (6 + (2 * (sCnt σ - 1))) (wd_BM hr0) rfl 2 (by decide) kw_37 rfl d_GB_allBlocks_24 ?_
  refine r_iadd (a := ((sCnt σ) - 1) * 256) (b := sSz σ (2 * (sCnt σ - 1))) hx hb d_GB_allBlocks_27 ?_
  exact g_ri hx hb hr hlk hI (rfl) d_GB_allBlocks_28
set_option maxHeartbeats 4000000 in
set_option maxRecDepth 100000 in
theorem c_GB_hasBlock {l : Launch} {D : va_G} {cG cZ cI cJ : ClassId} {ad : Nat → Nat} (σ : gS) (hσ : sB σ) (x : Int32) : gMet l D (gT cG cZ cI cJ) y_GB_hasBlock b_GB_hasBlock 2 (some .boolean) ({ frames := 1, cells := 0, slots := 0, locals := 20 }) (wd ad cG cZ σ) [.ref (ad 0), .int x] (wd ad cG cZ σ) (some (.int (bI (sHasB σ x)))) := by
  refine gMet_of (by decide) (Nat.le_of_ble_eq_true rfl) ?_
  intro p e s m below meth c A ls hC hA hI hl
  obtain ⟨hx, hb, hr, hlk, hown, hml, hg, hK⟩ := hC
  have hown : s.vm.findClass "GroupBitmaps" = some m.cls := hown
  have hl : lv_has ls 2 [(0, .ref (ad 0)), (1, .int x)] := hl
  have hc1 := hσ.1
  have hc2 := hσ.2.1
  refine lv_iload_n hx hb d_GB_hasBlock_0 rfl (lv_at hl 1 rfl) ?_
  refine lv_if_lt (tgt := 16) hx hb d_GB_hasBlock_1 (by decide) (fun h => ?_) (fun h => ?_)
  · refine lv_iconst (v := bI false) hx hb d_GB_hasBlock_16 (by decide) ?_
    exact g_rz hx hb hr hlk hI (by rw [sHasB_neg h]) d_GB_hasBlock_17
  · refine lv_iload_n hx hb d_GB_hasBlock_4 rfl (lv_at hl 1 rfl) ?_
    refine lv_aload_n hx hb d_GB_hasBlock_5 rfl (lv_at hl 0 rfl) ?_
    refine g_callV (own := "GroupBitmaps") (C := "GroupBitmaps") (T := F_GB) (N := 5) (k := 0) (q0 := 0) (ci := 0) (a := ad 0) (As := []) (rest := [.int x]) (c_GB_allBlocks σ hσ) hx hb hml hown hg hK hI hA kw_227 kw_229 kp_5 kw_1 kw_230 ky_GB_allBlocks ⟨Nat.le_of_ble_eq_true rfl, Nat.le_of_ble_eq_true rfl⟩ rfl rfl (wd_GB) rfl rfl hl.1 (Nat.le_of_ble_eq_true rfl) ⟨Nat.zero_le _, Nat.zero_le _⟩ d_GB_hasBlock_6 rfl rfl (fun H locs hI => ?_)
    refine lv_icmp_ge (tgt := 16) hx hb d_GB_hasBlock_9 (by decide) (fun h2 => ?_) (fun h2 => ?_)
    · refine lv_iconst (v := bI false) hx hb d_GB_hasBlock_16 (by decide) ?_
      exact g_rz hx hb hr hlk hI (by rw [sHasB_ge hσ h2]) d_GB_hasBlock_17
    · refine lv_iconst (v := bI true) hx hb d_GB_hasBlock_12 (by decide) ?_
      refine lv_goto (tgt := 17) hx hb d_GB_hasBlock_13 (by decide) ?_
      exact g_rz hx hb hr hlk hI (by rw [sHasB_t hσ h h2]) d_GB_hasBlock_17
set_option maxHeartbeats 4000000 in
set_option maxRecDepth 100000 in
theorem c_GB_hasFile {l : Launch} {D : va_G} {cG cZ cI cJ : ClassId} {ad : Nat → Nat} (σ : gS) (hσ : sB σ) (x : Int32) : gMet l D (gT cG cZ cI cJ) y_GB_hasFile b_GB_hasFile 2 (some .boolean) ({ frames := 0, cells := 0, slots := 0, locals := 0 }) (wd ad cG cZ σ) [.ref (ad 0), .int x] (wd ad cG cZ σ) (some (.int (bI (sHasF σ x)))) := by
  refine gMet_of (by decide) (Nat.le_of_ble_eq_true rfl) ?_
  intro p e s m below meth c A ls hC hA hI hl
  obtain ⟨hx, hb, hr, hlk, hown, hml, hg, hK⟩ := hC
  have hown : s.vm.findClass "GroupBitmaps" = some m.cls := hown
  have hl : lv_has ls 2 [(0, .ref (ad 0)), (1, .int x)] := hl
  have hc1 := hσ.1
  have hc2 := hσ.2.1
  refine lv_iload_n hx hb d_GB_hasFile_0 rfl (lv_at hl 1 rfl) ?_
  refine lv_iconst (v := nI 1) hx hb d_GB_hasFile_1 (by decide) ?_
  refine lv_icmp_lt (tgt := 21) hx hb d_GB_hasFile_2 (by decide) (fun h => ?_) (fun h => ?_)
  · refine lv_iconst (v := bI false) hx hb d_GB_hasFile_21 (by decide) ?_
    exact g_rz hx hb hr hlk hI (by rw [sHasF_lo h]) d_GB_hasFile_22
  · refine lv_iload_n hx hb d_GB_hasFile_5 rfl (lv_at hl 1 rfl) ?_
    refine lv_aload_n hx hb d_GB_hasFile_6 rfl (lv_at hl 0 rfl) ?_
    refine g_get (own := "GroupBitmaps") (C := R_GB) (T := F_GB) (N := 5) (ci := 0) (v := .int (nI (sCnt σ))) hx hb hg ku_GB hown hK hI (0) (wd_GB) rfl 1 (by decide) kw_92 rfl d_GB_hasFile_7 ?_
    refine lv_sipush (v := nI 128) hx hb d_GB_hasFile_10 (by decide) ?_
    refine r_imul (a := sCnt σ) (b := 128) hx hb d_GB_hasFile_13 ?_
    refine lv_icmp_gt (tgt := 21) hx hb d_GB_hasFile_14 (by decide) (fun h2 => ?_) (fun h2 => ?_)
    · refine lv_iconst (v := bI false) hx hb d_GB_hasFile_21 (by decide) ?_
      exact g_rz hx hb hr hlk hI (by rw [sHasF_hi hσ h2]) d_GB_hasFile_22
    · refine lv_iconst (v := bI true) hx hb d_GB_hasFile_17 (by decide) ?_
      refine lv_goto (tgt := 22) hx hb d_GB_hasFile_18 (by decide) ?_
      exact g_rz hx hb hr hlk hI (by rw [sHasF_t hσ h h2]) d_GB_hasFile_22
set_option maxHeartbeats 4000000 in
set_option maxRecDepth 100000 in
theorem c_GB_groupOfBlock {l : Launch} {D : va_G} {cG cZ cI cJ : ClassId} {ad : Nat → Nat} (σ : gS) (q : Nat) (hq : q < 1024) : gMet l D (gT cG cZ cI cJ) y_GB_groupOfBlock b_GB_groupOfBlock 2 (some (.object "GroupBitmaps$Group")) ({ frames := 0, cells := 0, slots := 0, locals := 0 }) (wd ad cG cZ σ) [.ref (ad 0), .int (nI q)] (wd ad cG cZ σ) (some (.ref (ad (2 + q / 256)))) := by
  refine gMet_of (by decide) (Nat.le_of_ble_eq_true rfl) ?_
  intro p e s m below meth c A ls hC hA hI hl
  obtain ⟨hx, hb, hr, hlk, hown, hml, hg, hK⟩ := hC
  have hown : s.vm.findClass "GroupBitmaps" = some m.cls := hown
  have hl : lv_has ls 2 [(0, .ref (ad 0)), (1, .int (nI q))] := hl
  refine lv_aload_n hx hb d_GB_groupOfBlock_0 rfl (lv_at hl 0 rfl) ?_
  refine g_get (own := "GroupBitmaps") (C := R_GB) (T := F_GB) (N := 5) (ci := 0) (v := .ref (ad 1)) hx hb hg ku_GB hown hK hI (0) (wd_GB) rfl 0 (by decide) kw_91 rfl d_GB_groupOfBlock_1 ?_
  refine lv_iload_n hx hb d_GB_groupOfBlock_4 rfl (lv_at hl 1 rfl) ?_
  refine lv_sipush (v := nI 256) hx hb d_GB_groupOfBlock_5 (by decide) ?_
  refine r_idiv (a := q) (b := 256) hx hb (by omega) (by omega) (by omega) d_GB_groupOfBlock_8 ?_
  refine g_aldq (r := ad (2 + (q / 256))) (i := q / 256) hx hb hK hI (1) 0 (wd_GA) rfl (by omega) (by decide) rfl d_GB_groupOfBlock_9 ?_
  exact g_ra hx hb hr hlk (Or.inr ⟨_, rfl⟩) hI (rfl) d_GB_groupOfBlock_10
set_option maxHeartbeats 4000000 in
set_option maxRecDepth 100000 in
theorem c_GB_groupOfFile {l : Launch} {D : va_G} {cG cZ cI cJ : ClassId} {ad : Nat → Nat} (σ : gS) (q : Nat) (hq : q ≤ 512) (hq1 : 1 ≤ q) : gMet l D (gT cG cZ cI cJ) y_GB_groupOfFile b_GB_groupOfFile 2 (some (.object "GroupBitmaps$Group")) ({ frames := 0, cells := 0, slots := 0, locals := 0 }) (wd ad cG cZ σ) [.ref (ad 0), .int (nI q)] (wd ad cG cZ σ) (some (.ref (ad (2 + (q - 1) / 128)))) := by
  refine gMet_of (by decide) (Nat.le_of_ble_eq_true rfl) ?_
  intro p e s m below meth c A ls hC hA hI hl
  obtain ⟨hx, hb, hr, hlk, hown, hml, hg, hK⟩ := hC
  have hown : s.vm.findClass "GroupBitmaps" = some m.cls := hown
  have hl : lv_has ls 2 [(0, .ref (ad 0)), (1, .int (nI q))] := hl
  refine lv_aload_n hx hb d_GB_groupOfFile_0 rfl (lv_at hl 0 rfl) ?_
  refine g_get (own := "GroupBitmaps") (C := R_GB) (T := F_GB) (N := 5) (ci := 0) (v := .ref (ad 1)) hx hb hg ku_GB hown hK hI (0) (wd_GB) rfl 0 (by decide) kw_91 rfl d_GB_groupOfFile_1 ?_
  refine lv_iload_n hx hb d_GB_groupOfFile_4 rfl (lv_at hl 1 rfl) ?_
  refine lv_iconst (v := nI 1) hx hb d_GB_groupOfFile_5 (by decide) ?_
  refine r_isub (a := q) (b := 1) hx hb (by omega) d_GB_groupOfFile_6 ?_
  refine lv_sipush (v := nI 128) hx hb d_GB_groupOfFile_7 (by decide) ?_
  refine r_idiv (a := q - 1) (b := 128) hx hb (by omega) (by omega) (by omega) d_GB_groupOfFile_10 ?_
  refine g_aldq (r := ad (2 + ((q - 1) / 128))) (i := (q - 1) / 128) hx hb hK hI (1) 0 (wd_GA) rfl (by omega) (by decide) rfl d_GB_groupOfFile_11 ?_
  exact g_ra hx hb hr hlk (Or.inr ⟨_, rfl⟩) hI (rfl) d_GB_groupOfFile_12
set_option maxHeartbeats 4000000 in
set_option maxRecDepth 100000 in
theorem c_GB_groupBehind {l : Launch} {D : va_G} {cG cZ cI cJ : ClassId} {ad : Nat → Nat} (σ : gS) (hσ : sB σ) (g k : Nat) (hg4 : g < 4) (hk : k < 65536) : gMet l D (gT cG cZ cI cJ) y_GB_groupBehind b_GB_groupBehind 3 (some (.object "GroupBitmaps$Group")) ({ frames := 0, cells := 0, slots := 0, locals := 0 }) (wd ad cG cZ σ) [.ref (ad 0), .ref (ad (2 + g)), .int (nI k)] (wd ad cG cZ σ) (some (.ref (ad (2 + sNx σ g k)))) := by
  refine gMet_of (by decide) (Nat.le_of_ble_eq_true rfl) ?_
  intro p e s m below meth c A ls hC hA hI hl
  obtain ⟨hx, hb, hr, hlk, hown, hml, hg, hK⟩ := hC
  have hown : s.vm.findClass "GroupBitmaps" = some m.cls := hown
  have hl : lv_has ls 3 [(0, .ref (ad 0)), (1, .ref (ad (2 + g))), (2, .int (nI k))] := hl
  have hc1 := hσ.1
  have hc2 := hσ.2.1
  have hq0 := hg4
  have hr0 : 2 * g < 8 := by omega
  have hs0 : 2 * g + 1 < 8 := by omega
  refine lv_aload_n hx hb d_GB_groupBehind_0 rfl (lv_at hl 0 rfl) ?_
  refine g_get (own := "GroupBitmaps") (C := R_GB) (T := F_GB) (N := 5) (ci := 0) (v := .ref (ad 1)) hx hb hg ku_GB hown hK hI (0) (wd_GB) rfl 0 (by decide) kw_91 rfl d_GB_groupBehind_1 ?_
  refine lv_aload_n hx hb d_GB_groupBehind_4 rfl (lv_at hl 1 rfl) ?_
  refine g_getN (own := "GroupBitmaps") (C := R_GR) (T := F_GR) (N := 6) (ci := 1) (v := .int (nI (256 * g))) hx hb hg ku_GR hown hK hI (2 + g) (wd_GR hq0) rfl 0 (by decide) kw_56 rfl d_GB_groupBehind_5 ?_
  refine lv_sipush (v := nI 256) hx hb d_GB_groupBehind_8 (by decide) ?_
  refine r_idiv (a := 256 * g) (b := 256) hx hb (by omega) (by omega) (by omega) d_GB_groupBehind_11 ?_
  refine lv_iload_n hx hb d_GB_groupBehind_12 rfl (lv_at hl 2 rfl) ?_
  refine r_iadd (a := (256 * g) / 256) (b := k) hx hb d_GB_groupBehind_13 ?_
  refine lv_aload_n hx hb d_GB_groupBehind_14 rfl (lv_at hl 0 rfl) ?_
  refine g_get (own := "GroupBitmaps") (C := R_GB) (T := F_GB) (N := 5) (ci := 0) (v := .int (nI (sCnt σ))) hx hb hg ku_GB hown hK hI (0) (wd_GB) rfl 1 (by decide) kw_92 rfl d_GB_groupBehind_15 ?_
  refine r_irem (a := ((256 * g) / 256) + k) (b := sCnt σ) hx hb (by omega) (by omega) (by omega) d_GB_groupBehind_18 ?_
  refine g_aldq (r := ad (2 + ((((256 * g) / 256) + k) % (sCnt σ)))) (i := (((256 * g) / 256) + k) % (sCnt σ)) hx hb hK hI (1) 0 (wd_GA) rfl (Nat.lt_of_lt_of_le (Nat.mod_lt _ hc1) hc2) (by decide) rfl d_GB_groupBehind_19 ?_
  exact g_ra hx hb hr hlk (Or.inr ⟨_, rfl⟩) hI (by rw [sNx, show 256 * g / 256 = g by omega]) d_GB_groupBehind_20
set_option maxHeartbeats 4000000 in
set_option maxRecDepth 100000 in
theorem c_GB_freeBlocks {l : Launch} {D : va_G} {cG cZ cI cJ : ClassId} {ad : Nat → Nat} (σ : gS) (hσ : sB σ)  : gMet l D (gT cG cZ cI cJ) y_GB_freeBlocks b_GB_freeBlocks 3 (some .int) ({ frames := 0, cells := 0, slots := 0, locals := 0 }) (wd ad cG cZ σ) [.ref (ad 0)] (wd ad cG cZ σ) (some (.int (nI (sFB σ (sCnt σ))))) := by
  refine gMet_of (by decide) (Nat.le_of_ble_eq_true rfl) ?_
  intro p e s m below meth c A ls hC hA hI hl
  obtain ⟨hx, hb, hr, hlk, hown, hml, hg, hK⟩ := hC
  have hown : s.vm.findClass "GroupBitmaps" = some m.cls := hown
  have hl : lv_has ls 3 [(0, .ref (ad 0))] := hl
  have hc1 := hσ.1
  have hc2 := hσ.2.1
  refine lv_iconst (v := nI 0) hx hb d_GB_freeBlocks_0 (by decide) ?_
  refine lv_istore_n (lv' := [(1, .int (nI 0)), (0, .ref (ad 0))]) hx hb d_GB_freeBlocks_1 rfl hl (by decide) rfl (fun ls hl => ?_)
  refine lv_iconst (v := nI 0) hx hb d_GB_freeBlocks_2 (by decide) ?_
  refine lv_istore_n (lv' := [(2, .int (nI 0)), (1, .int (nI 0)), (0, .ref (ad 0))]) hx hb d_GB_freeBlocks_3 rfl hl (by decide) rfl (fun ls hl => ?_)
  have loop : ∀ (fuel : Nat) (g : Nat), sCnt σ + 1 ≤ fuel + g → (g ≤ sCnt σ) → ∀ (H : Heap) (locs : List Loc) (ls : Array Slot), gI D A s.heap (wd ad cG cZ σ) H locs → lv_has ls 3 [(0, .ref (ad 0)), (1, .int (nI (sFB σ g))), (2, .int (nI g))] → W p l e ({ frames := 0, cells := 0, slots := 0, locals := 0 }) s m ([.ref (ad 0)] : List Value).toArray below meth c H locs 0 0 (gQ D below ([.ref (ad 0)] : List Value).toArray s A (wd ad cG cZ σ) (some (.int (nI (sFB σ (sCnt σ)))))) (F0 m 4 ls []) := by
    intro fuel
    induction fuel with
    | zero => intro g hfu hgc; exact absurd hfu (by omega)
    | succ fuel ih =>
      intro g hfu hgc H locs ls hI hl
      refine lv_iload_n hx hb d_GB_freeBlocks_4 rfl (lv_at hl 2 rfl) ?_
      refine lv_aload_n hx hb d_GB_freeBlocks_5 rfl (lv_at hl 0 rfl) ?_
      refine g_get (own := "GroupBitmaps") (C := R_GB) (T := F_GB) (N := 5) (ci := 0) (v := .int (nI (sCnt σ))) hx hb hg ku_GB hown hK hI (0) (wd_GB) rfl 1 (by decide) kw_92 rfl d_GB_freeBlocks_6 ?_
      refine r_ge (a := g) (b := sCnt σ) (tgt := 33) hx hb d_GB_freeBlocks_9 (by decide) (by omega) (by omega) (fun h => ?_) (fun h => ?_)
      · obtain rfl : g = sCnt σ := by omega
        refine lv_iload_n hx hb d_GB_freeBlocks_33 rfl (lv_at hl 1 rfl) ?_
        exact g_ri hx hb hr hlk hI (rfl) d_GB_freeBlocks_34
      · refine lv_iload_n hx hb d_GB_freeBlocks_12 rfl (lv_at hl 1 rfl) ?_
        refine lv_aload_n hx hb d_GB_freeBlocks_13 rfl (lv_at hl 0 rfl) ?_
        refine g_get (own := "GroupBitmaps") (C := R_GB) (T := F_GB) (N := 5) (ci := 0) (v := .ref (ad 1)) hx hb hg ku_GB hown hK hI (0) (wd_GB) rfl 0 (by decide) kw_91 rfl d_GB_freeBlocks_14 ?_
        refine lv_iload_n hx hb d_GB_freeBlocks_17 rfl (lv_at hl 2 rfl) ?_
        refine g_aldq (r := ad (2 + g)) (i := g) hx hb hK hI (1) 0 (wd_GA) rfl (by omega) (by decide) rfl d_GB_freeBlocks_18 ?_
        have hq0 := show g < 4 by omega
        have hr0 : 2 * g < 8 := by omega
        have hs0 : 2 * g + 1 < 8 := by omega
        refine g_getN (own := "GroupBitmaps") (C := R_GR) (T := F_GR) (N := 6) (ci := 1) (v := .ref (ad (6 + (2 * g)))) hx hb hg ku_GR hown hK hI (2 + g) (wd_GR hq0) rfl 3 (by decide) kw_61 rfl d_GB_freeBlocks_19 ?_
        refine g_getN (own := "GroupBitmaps") (C := R_BM) (T := F_BM) (N := 5) (ci := 2) (v := .int (nI (sFr σ (2 * g)))) hx hb hg ku_BM hown hK hI (6 + (2 * g)) (wd_BM hr0) rfl 3 (by decide) kw_40 rfl d_GB_freeBlocks_22 ?_
        refine r_iadd (a := sFB σ g) (b := sFr σ (2 * g)) hx hb d_GB_freeBlocks_25 ?_
        refine lv_istore_n (lv' := [(1, .int (nI ((sFB σ g) + (sFr σ (2 * g))))), (0, .ref (ad 0)), (2, .int (nI g))]) hx hb d_GB_freeBlocks_26 rfl hl (by decide) rfl (fun ls hl => ?_)
        refine lv_iinc (v := nI (g + 1)) (lv' := [(2, .int (nI (g + 1))), (1, .int (nI ((sFB σ g) + (sFr σ (2 * g))))), (0, .ref (ad 0))]) hx hb d_GB_freeBlocks_27 hl (k := 2) rfl (nI_1 _) (by decide) rfl (fun ls hl => ?_)
        refine lv_goto (tgt := 4) hx hb d_GB_freeBlocks_30 (by decide) ?_
        exact ih (g + 1) (by omega) (by omega) _ _ _ hI (lv_sub hl [2, 1, 0] rfl)
  exact loop (sCnt σ + 1) 0 (by omega) (Nat.zero_le _) _ _ _ hI (lv_sub hl [2, 1, 0] rfl)
set_option maxHeartbeats 4000000 in
set_option maxRecDepth 100000 in
theorem c_GB_freeFiles {l : Launch} {D : va_G} {cG cZ cI cJ : ClassId} {ad : Nat → Nat} (σ : gS) (hσ : sB σ)  : gMet l D (gT cG cZ cI cJ) y_GB_freeFiles b_GB_freeFiles 3 (some .int) ({ frames := 0, cells := 0, slots := 0, locals := 0 }) (wd ad cG cZ σ) [.ref (ad 0)] (wd ad cG cZ σ) (some (.int (nI (sFF σ (sCnt σ))))) := by
  refine gMet_of (by decide) (Nat.le_of_ble_eq_true rfl) ?_
  intro p e s m below meth c A ls hC hA hI hl
  obtain ⟨hx, hb, hr, hlk, hown, hml, hg, hK⟩ := hC
  have hown : s.vm.findClass "GroupBitmaps" = some m.cls := hown
  have hl : lv_has ls 3 [(0, .ref (ad 0))] := hl
  have hc1 := hσ.1
  have hc2 := hσ.2.1
  refine lv_iconst (v := nI 0) hx hb d_GB_freeFiles_0 (by decide) ?_
  refine lv_istore_n (lv' := [(1, .int (nI 0)), (0, .ref (ad 0))]) hx hb d_GB_freeFiles_1 rfl hl (by decide) rfl (fun ls hl => ?_)
  refine lv_iconst (v := nI 0) hx hb d_GB_freeFiles_2 (by decide) ?_
  refine lv_istore_n (lv' := [(2, .int (nI 0)), (1, .int (nI 0)), (0, .ref (ad 0))]) hx hb d_GB_freeFiles_3 rfl hl (by decide) rfl (fun ls hl => ?_)
  have loop : ∀ (fuel : Nat) (g : Nat), sCnt σ + 1 ≤ fuel + g → (g ≤ sCnt σ) → ∀ (H : Heap) (locs : List Loc) (ls : Array Slot), gI D A s.heap (wd ad cG cZ σ) H locs → lv_has ls 3 [(0, .ref (ad 0)), (1, .int (nI (sFF σ g))), (2, .int (nI g))] → W p l e ({ frames := 0, cells := 0, slots := 0, locals := 0 }) s m ([.ref (ad 0)] : List Value).toArray below meth c H locs 0 0 (gQ D below ([.ref (ad 0)] : List Value).toArray s A (wd ad cG cZ σ) (some (.int (nI (sFF σ (sCnt σ)))))) (F0 m 4 ls []) := by
    intro fuel
    induction fuel with
    | zero => intro g hfu hgc; exact absurd hfu (by omega)
    | succ fuel ih =>
      intro g hfu hgc H locs ls hI hl
      refine lv_iload_n hx hb d_GB_freeFiles_4 rfl (lv_at hl 2 rfl) ?_
      refine lv_aload_n hx hb d_GB_freeFiles_5 rfl (lv_at hl 0 rfl) ?_
      refine g_get (own := "GroupBitmaps") (C := R_GB) (T := F_GB) (N := 5) (ci := 0) (v := .int (nI (sCnt σ))) hx hb hg ku_GB hown hK hI (0) (wd_GB) rfl 1 (by decide) kw_92 rfl d_GB_freeFiles_6 ?_
      refine r_ge (a := g) (b := sCnt σ) (tgt := 33) hx hb d_GB_freeFiles_9 (by decide) (by omega) (by omega) (fun h => ?_) (fun h => ?_)
      · obtain rfl : g = sCnt σ := by omega
        refine lv_iload_n hx hb d_GB_freeFiles_33 rfl (lv_at hl 1 rfl) ?_
        exact g_ri hx hb hr hlk hI (rfl) d_GB_freeFiles_34
      · refine lv_iload_n hx hb d_GB_freeFiles_12 rfl (lv_at hl 1 rfl) ?_
        refine lv_aload_n hx hb d_GB_freeFiles_13 rfl (lv_at hl 0 rfl) ?_
        refine g_get (own := "GroupBitmaps") (C := R_GB) (T := F_GB) (N := 5) (ci := 0) (v := .ref (ad 1)) hx hb hg ku_GB hown hK hI (0) (wd_GB) rfl 0 (by decide) kw_91 rfl d_GB_freeFiles_14 ?_
        refine lv_iload_n hx hb d_GB_freeFiles_17 rfl (lv_at hl 2 rfl) ?_
        refine g_aldq (r := ad (2 + g)) (i := g) hx hb hK hI (1) 0 (wd_GA) rfl (by omega) (by decide) rfl d_GB_freeFiles_18 ?_
        have hq0 := show g < 4 by omega
        have hr0 : 2 * g < 8 := by omega
        have hs0 : 2 * g + 1 < 8 := by omega
        refine g_getN (own := "GroupBitmaps") (C := R_GR) (T := F_GR) (N := 6) (ci := 1) (v := .ref (ad (6 + (2 * g + 1)))) hx hb hg ku_GR hown hK hI (2 + g) (wd_GR hq0) rfl 4 (by decide) kw_63 rfl d_GB_freeFiles_19 ?_
        refine g_getN (own := "GroupBitmaps") (C := R_BM) (T := F_BM) (N := 5) (ci := 2) (v := .int (nI (sFr σ (2 * g + 1)))) hx hb hg ku_BM hown hK hI (6 + (2 * g + 1)) (wd_BM hs0) rfl 3 (by decide) kw_40 rfl d_GB_freeFiles_22 ?_
        refine r_iadd (a := sFF σ g) (b := sFr σ (2 * g + 1)) hx hb d_GB_freeFiles_25 ?_
        refine lv_istore_n (lv' := [(1, .int (nI ((sFF σ g) + (sFr σ (2 * g + 1))))), (0, .ref (ad 0)), (2, .int (nI g))]) hx hb d_GB_freeFiles_26 rfl hl (by decide) rfl (fun ls hl => ?_)
        refine lv_iinc (v := nI (g + 1)) (lv' := [(2, .int (nI (g + 1))), (1, .int (nI ((sFF σ g) + (sFr σ (2 * g + 1))))), (0, .ref (ad 0))]) hx hb d_GB_freeFiles_27 hl (k := 2) rfl (nI_1 _) (by decide) rfl (fun ls hl => ?_)
        refine lv_goto (tgt := 4) hx hb d_GB_freeFiles_30 (by decide) ?_
        exact ih (g + 1) (by omega) (by omega) _ _ _ hI (lv_sub hl [2, 1, 0] rfl)
  exact loop (sCnt σ + 1) 0 (by omega) (Nat.zero_le _) _ _ _ hI (lv_sub hl [2, 1, 0] rfl)
set_option maxHeartbeats 4000000 in
set_option maxRecDepth 100000 in
theorem c_GB_takeable {l : Launch} {D : va_G} {cG cZ cI cJ : ClassId} {ad : Nat → Nat} (σ : gS) (hσ : sB σ) (al : Bool) : gMet l D (gT cG cZ cI cJ) y_GB_takeable b_GB_takeable 2 (some .int) ({ frames := 1, cells := 0, slots := 0, locals := 22 }) (wd ad cG cZ σ) [.ref (ad 0), .int (bI al)] (wd ad cG cZ σ) (some (.int (nI (sMay σ al)))) := by
  refine gMet_of (by decide) (Nat.le_of_ble_eq_true rfl) ?_
  intro p e s m below meth c A ls hC hA hI hl
  obtain ⟨hx, hb, hr, hlk, hown, hml, hg, hK⟩ := hC
  have hown : s.vm.findClass "GroupBitmaps" = some m.cls := hown
  have hl : lv_has ls 2 [(0, .ref (ad 0)), (1, .int (bI al))] := hl
  have hc1 := hσ.1
  have hc2 := hσ.2.1
  have hfb := sFB_le hσ (sCnt σ) hc2
  have hrs := hσ.2.2.1
  refine lv_iload_n hx hb d_GB_takeable_0 rfl (lv_at hl 1 rfl) ?_
  refine r_bz (b := al) (tgt := 11) hx hb d_GB_takeable_1 (by decide) (fun h => ?_) (fun h => ?_)
  · refine lv_iconst (v := nI 0) hx hb d_GB_takeable_11 (by decide) ?_
    refine lv_aload_n hx hb d_GB_takeable_12 rfl (lv_at hl 0 rfl) ?_
    refine g_callV (own := "GroupBitmaps") (C := "GroupBitmaps") (T := F_GB) (N := 5) (k := 0) (q0 := 0) (ci := 0) (a := ad 0) (As := []) (rest := [.int (nI 0)]) (c_GB_freeBlocks σ hσ) hx hb hml hown hg hK hI hA kw_196 kw_198 kp_2 kw_1 kw_199 ky_GB_freeBlocks ⟨Nat.le_of_ble_eq_true rfl, Nat.le_of_ble_eq_true rfl⟩ rfl rfl (wd_GB) rfl rfl hl.1 (Nat.le_of_ble_eq_true rfl) ⟨Nat.zero_le _, Nat.zero_le _⟩ d_GB_takeable_13 rfl rfl (fun H locs hI => ?_)
    refine lv_aload_n hx hb d_GB_takeable_16 rfl (lv_at hl 0 rfl) ?_
    refine g_get (own := "GroupBitmaps") (C := R_GB) (T := F_GB) (N := 5) (ci := 0) (v := .int (nI (sRsv σ))) hx hb hg ku_GB hown hK hI (0) (wd_GB) rfl 2 (by decide) kw_93 rfl d_GB_takeable_17 ?_
    refine lv_isub hx hb d_GB_takeable_20 ?_
    refine va_mmax hx hb (hml.trans hl.1.symm) hown (hg _ kw_212) (hg _ kw_213) (hg _ kw_9) (hg _ kw_214) (Nat.le_of_ble_eq_true rfl) (Nat.le_of_ble_eq_true rfl) (Nat.zero_le _) (Nat.zero_le _) d_GB_takeable_21 ?_
    rw [max0_sub (by omega) (by omega)]
    exact g_ri hx hb hr hlk hI (by rw [sMay, h]; rfl) d_GB_takeable_24
  · refine lv_aload_n hx hb d_GB_takeable_4 rfl (lv_at hl 0 rfl) ?_
    refine g_callV (own := "GroupBitmaps") (C := "GroupBitmaps") (T := F_GB) (N := 5) (k := 0) (q0 := 0) (ci := 0) (a := ad 0) (As := []) (rest := []) (c_GB_freeBlocks σ hσ) hx hb hml hown hg hK hI hA kw_196 kw_198 kp_2 kw_1 kw_199 ky_GB_freeBlocks ⟨Nat.le_of_ble_eq_true rfl, Nat.le_of_ble_eq_true rfl⟩ rfl rfl (wd_GB) rfl rfl hl.1 (Nat.le_of_ble_eq_true rfl) ⟨Nat.zero_le _, Nat.zero_le _⟩ d_GB_takeable_5 rfl rfl (fun H locs hI => ?_)
    refine lv_goto (tgt := 24) hx hb d_GB_takeable_8 (by decide) ?_
    exact g_ri hx hb hr hlk hI (by rw [sMay, h]; rfl) d_GB_takeable_24
set_option maxHeartbeats 4000000 in
set_option maxRecDepth 100000 in
theorem c_GB_takeRun {l : Launch} {D : va_G} {cG cZ cI cJ : ClassId} {ad : Nat → Nat} (σ : gS) (g a q : Nat) (hg4 : g < 4) (ha : a < 65536) (hq : q < 65536) (hs : sSafe σ (2 * g) a q) : gMet l D (gT cG cZ cI cJ) y_GB_takeRun b_GB_takeRun 5 (some .int) ({ frames := 2, cells := 0, slots := 0, locals := 42 }) (wd ad cG cZ σ) [.ref (ad 0), .ref (ad (2 + g)), .int (nI a), .int (nI q)] (wd ad cG cZ (sRun σ g a q)) (some (.int (nI (256 * g + a)))) := by
  refine gMet_of (by decide) (Nat.le_of_ble_eq_true rfl) ?_
  intro p e s m below meth c A ls hC hA hI hl
  obtain ⟨hx, hb, hr, hlk, hown, hml, hg, hK⟩ := hC
  have hown : s.vm.findClass "GroupBitmaps" = some m.cls := hown
  have hl : lv_has ls 5 [(0, .ref (ad 0)), (1, .ref (ad (2 + g))), (2, .int (nI a)), (3, .int (nI q))] := hl
  have hq0 := hg4
  have hr0 : 2 * g < 8 := by omega
  have hs0 : 2 * g + 1 < 8 := by omega
  refine lv_iload_n hx hb d_GB_takeRun_0 rfl (lv_at hl 2 rfl) ?_
  refine lv_istore (lv' := [(4, .int (nI a)), (0, .ref (ad 0)), (1, .ref (ad (2 + g))), (2, .int (nI a)), (3, .int (nI q))]) hx hb d_GB_takeRun_1 hl (by decide) rfl (fun ls hl => ?_)
  have loop : ∀ (fuel : Nat) (t : Nat), q + 1 ≤ fuel + t → (t ≤ q) → ∀ (H : Heap) (locs : List Loc) (ls : Array Slot), gI D A s.heap (wd ad cG cZ (sOccs σ (2 * g) a t)) H locs → lv_has ls 5 [(0, .ref (ad 0)), (1, .ref (ad (2 + g))), (2, .int (nI a)), (3, .int (nI q)), (4, .int (nI (a + t)))] → W p l e ({ frames := 2, cells := 0, slots := 0, locals := 42 }) s m ([.ref (ad 0), .ref (ad (2 + g)), .int (nI a), .int (nI q)] : List Value).toArray below meth c H locs 0 0 (gQ D below ([.ref (ad 0), .ref (ad (2 + g)), .int (nI a), .int (nI q)] : List Value).toArray s A (wd ad cG cZ (sRun σ g a q)) (some (.int (nI (256 * g + a))))) (F0 m 3 ls []) := by
    intro fuel
    induction fuel with
    | zero => intro t hfu ht; exact absurd hfu (by omega)
    | succ fuel ih =>
      intro t hfu ht H locs ls hI hl
      refine lv_iload hx hb d_GB_takeRun_3 (lv_at hl 4 rfl) ?_
      refine lv_iload_n hx hb d_GB_takeRun_5 rfl (lv_at hl 2 rfl) ?_
      refine lv_iload_n hx hb d_GB_takeRun_6 rfl (lv_at hl 3 rfl) ?_
      refine r_iadd (a := a) (b := q) hx hb d_GB_takeRun_7 ?_
      refine r_ge (a := a + t) (b := a + q) (tgt := 26) hx hb d_GB_takeRun_8 (by decide) (by omega) (by omega) (fun h => ?_) (fun h => ?_)
      · obtain rfl : q = t := by omega
        refine lv_aload_n hx hb d_GB_takeRun_26 rfl (lv_at hl 0 rfl) ?_
        refine lv_iload_n hx hb d_GB_takeRun_27 rfl (lv_at hl 3 rfl) ?_
        refine g_put (ws' := (wd ad cG cZ (uLat (sOccs σ (2 * g) a q) q))) (own := "GroupBitmaps") (C := R_GB) (T := F_GB) (N := 5) (ci := 0) (v := .int (nI q)) hx hb hg ku_GB t_GB t_GB_ok n_GB hown hK hI (0) (wd_GB) rfl 3 (by decide) kw_94 rfl rfl (rfl) (rfl) (Nat.le_of_ble_eq_true rfl) (wd_uLat) d_GB_takeRun_28 (fun H locs hI => ?_)
        refine lv_aload_n hx hb d_GB_takeRun_31 rfl (lv_at hl 0 rfl) ?_
        refine lv_iconst (v := bI true) hx hb d_GB_takeRun_32 (by decide) ?_
        refine g_put (ws' := (wd ad cG cZ (sRun σ g a q))) (own := "GroupBitmaps") (C := R_GB) (T := F_GB) (N := 5) (ci := 0) (v := .int (bI true)) hx hb hg ku_GB t_GB t_GB_ok n_GB hown hK hI (0) (wd_GB) rfl 4 (by decide) kw_95 rfl rfl (bI_n _) (bI_fit _) (Nat.le_of_ble_eq_true rfl) (wd_uTT) d_GB_takeRun_33 (fun H locs hI => ?_)
        refine lv_aload_n hx hb d_GB_takeRun_36 rfl (lv_at hl 1 rfl) ?_
        refine g_getN (own := "GroupBitmaps") (C := R_GR) (T := F_GR) (N := 6) (ci := 1) (v := .int (nI (256 * g))) hx hb hg ku_GR hown hK hI (2 + g) (wd_GR hq0) rfl 0 (by decide) kw_56 rfl d_GB_takeRun_37 ?_
        refine lv_iload_n hx hb d_GB_takeRun_40 rfl (lv_at hl 2 rfl) ?_
        refine r_iadd (a := 256 * g) (b := a) hx hb d_GB_takeRun_41 ?_
        exact g_ri hx hb hr hlk hI (rfl) d_GB_takeRun_42
      · refine lv_aload_n hx hb d_GB_takeRun_11 rfl (lv_at hl 1 rfl) ?_
        refine g_getN (own := "GroupBitmaps") (C := R_GR) (T := F_GR) (N := 6) (ci := 1) (v := .ref (ad (6 + (2 * g)))) hx hb hg ku_GR hown hK hI (2 + g) (wd_GR hq0) rfl 3 (by decide) kw_61 rfl d_GB_takeRun_12 ?_
        refine lv_iload hx hb d_GB_takeRun_15 (lv_at hl 4 rfl) ?_
        refine g_callV (own := "GroupBitmaps") (C := "GroupBitmaps$Bitmap") (T := F_BM) (N := 5) (k := 1) (q0 := 6 + (2 * g)) (ci := 2) (a := ad (6 + (2 * g))) (As := [.int (nI (a + t))]) (rest := []) (c_BM_occupy (sOccs σ (2 * g) a t) (2 * g) hr0 (a + t) (by omega) (hs t (by omega))) hx hb hml hown hg hK hI hA kw_272 kw_273 kw_274 kw_3 kw_275 ky_BM_occupy ⟨Nat.le_of_ble_eq_true rfl, Nat.le_of_ble_eq_true rfl⟩ rfl rfl (wd_BM hr0) rfl rfl hl.1 (Nat.le_of_ble_eq_true rfl) ⟨Nat.zero_le _, Nat.zero_le _⟩ d_GB_takeRun_17 rfl rfl (fun H locs hI => ?_)
        refine lv_iinc (v := nI ((a + t) + 1)) (lv' := [(4, .int (nI ((a + t) + 1))), (0, .ref (ad 0)), (1, .ref (ad (2 + g))), (2, .int (nI a)), (3, .int (nI q))]) hx hb d_GB_takeRun_20 hl (k := 4) rfl (nI_1 _) (by decide) rfl (fun ls hl => ?_)
        refine lv_goto (tgt := 3) hx hb d_GB_takeRun_23 (by decide) ?_
        exact ih (t + 1) (by omega) (by omega) _ _ _ hI (lv_sub hl [1, 2, 3, 4, 0] rfl)
  exact loop (q + 1) 0 (by omega) (Nat.zero_le _) _ _ _ hI (lv_sub hl [1, 2, 3, 4, 0] rfl)
set_option maxHeartbeats 4000000 in
set_option maxRecDepth 100000 in
theorem c_GB_takeLongestRun {l : Launch} {D : va_G} {cG cZ cI cJ : ClassId} {ad : Nat → Nat} (σ : gS) (hσ : sB σ) (g a : Nat) (hg4 : g < 4) (ha : a < 65536) (hsr : (sSr σ (2 * (sBest σ g (sCnt σ - 1)).1) (sBest σ g (sCnt σ - 1)).2 (sSz σ (2 * (sBest σ g (sCnt σ - 1)).1))).1 = some a) (hs : sSafe σ (2 * (sBest σ g (sCnt σ - 1)).1) a (sBest σ g (sCnt σ - 1)).2) : gMet l D (gT cG cZ cI cJ) y_GB_takeLongestRun b_GB_takeLongestRun 7 (some .int) ({ frames := 3, cells := 0, slots := 0, locals := 66 }) (wd ad cG cZ σ) [.ref (ad 0), .ref (ad (2 + g))] (wd ad cG cZ (sRun σ (sBest σ g (sCnt σ - 1)).1 a (sBest σ g (sCnt σ - 1)).2)) (some (.int (nI (256 * (sBest σ g (sCnt σ - 1)).1 + a)))) := by
  refine gMet_of (by decide) (Nat.le_of_ble_eq_true rfl) ?_
  intro p e s m below meth c A ls hC hA hI hl
  obtain ⟨hx, hb, hr, hlk, hown, hml, hg, hK⟩ := hC
  have hown : s.vm.findClass "GroupBitmaps" = some m.cls := hown
  have hl : lv_has ls 7 [(0, .ref (ad 0)), (1, .ref (ad (2 + g)))] := hl
  have hc1 := hσ.1
  have hc2 := hσ.2.1
  have hq0 := hg4
  have hr0 : 2 * g < 8 := by omega
  have hs0 : 2 * g + 1 < 8 := by omega
  refine lv_aload_n hx hb d_GB_takeLongestRun_0 rfl (lv_at hl 1 rfl) ?_
  refine lv_astore_n (lv' := [(2, .ref (ad (2 + g))), (0, .ref (ad 0)), (1, .ref (ad (2 + g)))]) hx hb d_GB_takeLongestRun_1 rfl hl (by decide) rfl (fun ls hl => ?_)
  refine lv_aload_n hx hb d_GB_takeLongestRun_2 rfl (lv_at hl 2 rfl) ?_
  refine g_getN (own := "GroupBitmaps") (C := R_GR) (T := F_GR) (N := 6) (ci := 1) (v := .ref (ad (6 + (2 * g)))) hx hb hg ku_GR hown hK hI (2 + g) (wd_GR hq0) rfl 3 (by decide) kw_61 rfl d_GB_takeLongestRun_3 ?_
  refine g_callV (own := "GroupBitmaps") (C := "GroupBitmaps$Bitmap") (T := F_BM) (N := 5) (k := 0) (q0 := 6 + (2 * g)) (ci := 2) (a := ad (6 + (2 * g))) (As := []) (rest := []) (c_BM_longestRun σ (2 * g) hr0 (hσ.2.2.2.1 _ hr0).1) hx hb hml hown hg hK hI hA kw_288 kw_289 kw_290 kw_3 kw_291 ky_BM_longestRun ⟨Nat.le_of_ble_eq_true rfl, Nat.le_of_ble_eq_true rfl⟩ rfl rfl (wd_BM hr0) rfl rfl hl.1 (Nat.le_of_ble_eq_true rfl) ⟨Nat.zero_le _, Nat.zero_le _⟩ d_GB_takeLongestRun_6 rfl rfl (fun H locs hI => ?_)
  refine lv_istore_n (lv' := [(3, .int (nI (sLen5 σ g))), (2, .ref (ad (2 + g))), (0, .ref (ad 0)), (1, .ref (ad (2 + g)))]) hx hb d_GB_takeLongestRun_9 rfl hl (by decide) rfl (fun ls hl => ?_)
  refine lv_iconst (v := nI 1) hx hb d_GB_takeLongestRun_10 (by decide) ?_
  refine lv_istore (lv' := [(4, .int (nI 1)), (3, .int (nI (sLen5 σ g))), (2, .ref (ad (2 + g))), (0, .ref (ad 0)), (1, .ref (ad (2 + g)))]) hx hb d_GB_takeLongestRun_11 hl (by decide) rfl (fun ls hl => ?_)
  have loop : ∀ (fuel : Nat) (k : Nat), sCnt σ ≤ fuel + k → (k + 1 ≤ sCnt σ) → ∀ (H : Heap) (locs : List Loc) (ls : Array Slot), gI D A s.heap (wd ad cG cZ σ) H locs → lv_has ls 7 [(0, .ref (ad 0)), (1, .ref (ad (2 + g))), (2, .ref (ad (2 + ((sBest σ g k).1)))), (3, .int (nI ((sBest σ g k).2))), (4, .int (nI (k + 1)))] → W p l e ({ frames := 3, cells := 0, slots := 0, locals := 66 }) s m ([.ref (ad 0), .ref (ad (2 + g))] : List Value).toArray below meth c H locs 0 0 (gQ D below ([.ref (ad 0), .ref (ad (2 + g))] : List Value).toArray s A (wd ad cG cZ (sRun σ (sBest σ g (sCnt σ - 1)).1 a (sBest σ g (sCnt σ - 1)).2)) (some (.int (nI (256 * (sBest σ g (sCnt σ - 1)).1 + a))))) (F0 m 13 ls []) := by
    intro fuel
    induction fuel with
    | zero => intro k hfu hk; exact absurd hfu (by omega)
    | succ fuel ih =>
      intro k hfu hk H locs ls hI hl
      have hbl := sBest_le hσ hg4 k
      refine lv_iload hx hb d_GB_takeLongestRun_13 (lv_at hl 4 rfl) ?_
      refine lv_aload_n hx hb d_GB_takeLongestRun_15 rfl (lv_at hl 0 rfl) ?_
      refine g_get (own := "GroupBitmaps") (C := R_GB) (T := F_GB) (N := 5) (ci := 0) (v := .int (nI (sCnt σ))) hx hb hg ku_GB hown hK hI (0) (wd_GB) rfl 1 (by decide) kw_92 rfl d_GB_takeLongestRun_16 ?_
      refine r_ge (a := k + 1) (b := sCnt σ) (tgt := 59) hx hb d_GB_takeLongestRun_19 (by decide) (by omega) (by omega) (fun h => ?_) (fun h => ?_)
      · obtain rfl : k = sCnt σ - 1 := by omega
        have hq1 := hbl.1
        have hr1 : 2 * ((sBest σ g (sCnt σ - 1)).1) < 8 := by omega
        have hs1 : 2 * ((sBest σ g (sCnt σ - 1)).1) + 1 < 8 := by omega
        refine lv_aload_n hx hb d_GB_takeLongestRun_59 rfl (lv_at hl 0 rfl) ?_
        refine lv_aload_n hx hb d_GB_takeLongestRun_60 rfl (lv_at hl 2 rfl) ?_
        refine lv_aload_n hx hb d_GB_takeLongestRun_61 rfl (lv_at hl 2 rfl) ?_
        refine g_getN (own := "GroupBitmaps") (C := R_GR) (T := F_GR) (N := 6) (ci := 1) (v := .ref (ad (6 + (2 * ((sBest σ g (sCnt σ - 1)).1))))) hx hb hg ku_GR hown hK hI (2 + ((sBest σ g (sCnt σ - 1)).1)) (wd_GR hq1) rfl 3 (by decide) kw_61 rfl d_GB_takeLongestRun_62 ?_
        refine lv_iload_n hx hb d_GB_takeLongestRun_65 rfl (lv_at hl 3 rfl) ?_
        refine g_callV (own := "GroupBitmaps") (C := "GroupBitmaps$Bitmap") (T := F_BM) (N := 5) (k := 1) (q0 := 6 + (2 * ((sBest σ g (sCnt σ - 1)).1))) (ci := 2) (a := ad (6 + (2 * ((sBest σ g (sCnt σ - 1)).1)))) (As := [.int (nI ((sBest σ g (sCnt σ - 1)).2))]) (rest := [.ref (ad (2 + ((sBest σ g (sCnt σ - 1)).1))), .ref (ad 0)]) (c_BM_shortestRun σ (2 * (sBest σ g (sCnt σ - 1)).1) hr1 (sBest σ g (sCnt σ - 1)).2 (by omega) (hσ.2.2.2.1 _ hr1).1) hx hb hml hown hg hK hI hA kw_280 kw_281 kw_282 kw_3 kw_283 ky_BM_shortestRun ⟨Nat.le_of_ble_eq_true rfl, Nat.le_of_ble_eq_true rfl⟩ rfl rfl (wd_BM hr1) rfl rfl hl.1 (Nat.le_of_ble_eq_true rfl) ⟨Nat.zero_le _, Nat.zero_le _⟩ d_GB_takeLongestRun_66 rfl rfl (fun H locs hI => ?_)
        rw [hsr]
        refine lv_iload_n hx hb d_GB_takeLongestRun_69 rfl (lv_at hl 3 rfl) ?_
        refine g_callV (own := "GroupBitmaps") (C := "GroupBitmaps") (T := F_GB) (N := 5) (k := 3) (q0 := 0) (ci := 0) (a := ad 0) (As := [.ref (ad (2 + ((sBest σ g (sCnt σ - 1)).1))), .int (nI a), .int (nI ((sBest σ g (sCnt σ - 1)).2))]) (rest := []) (c_GB_takeRun σ (sBest σ g (sCnt σ - 1)).1 a (sBest σ g (sCnt σ - 1)).2 hbl.1 ha (by omega) hs) hx hb hml hown hg hK hI hA kw_268 kw_270 kp_8 kw_1 kw_271 ky_GB_takeRun ⟨Nat.le_of_ble_eq_true rfl, Nat.le_of_ble_eq_true rfl⟩ rfl rfl (wd_GB) rfl rfl hl.1 (Nat.le_of_ble_eq_true rfl) ⟨Nat.zero_le _, Nat.zero_le _⟩ d_GB_takeLongestRun_70 rfl rfl (fun H locs hI => ?_)
        exact g_ri hx hb hr hlk hI (rfl) d_GB_takeLongestRun_73
      · refine lv_aload_n hx hb d_GB_takeLongestRun_22 rfl (lv_at hl 0 rfl) ?_
        refine lv_aload_n hx hb d_GB_takeLongestRun_23 rfl (lv_at hl 1 rfl) ?_
        refine lv_iload hx hb d_GB_takeLongestRun_24 (lv_at hl 4 rfl) ?_
        refine g_callV (own := "GroupBitmaps") (C := "GroupBitmaps") (T := F_GB) (N := 5) (k := 2) (q0 := 0) (ci := 0) (a := ad 0) (As := [.ref (ad (2 + g)), .int (nI (k + 1))]) (rest := []) (c_GB_groupBehind σ hσ g (k + 1) hg4 (by omega)) hx hb hml hown hg hK hI hA kw_276 kw_278 kp_9 kw_1 kw_279 ky_GB_groupBehind ⟨Nat.le_of_ble_eq_true rfl, Nat.le_of_ble_eq_true rfl⟩ rfl rfl (wd_GB) rfl rfl hl.1 (Nat.le_of_ble_eq_true rfl) ⟨Nat.zero_le _, Nat.zero_le _⟩ d_GB_takeLongestRun_26 rfl rfl (fun H locs hI => ?_)
        have hq2 := sNx_lt hσ g (k + 1)
        have hr2 : 2 * (sNx σ g (k + 1)) < 8 := by omega
        have hs2 : 2 * (sNx σ g (k + 1)) + 1 < 8 := by omega
        have hl5 := sLen5_le hσ hq2
        refine lv_astore (lv' := [(5, .ref (ad (2 + (sNx σ g (k + 1))))), (0, .ref (ad 0)), (1, .ref (ad (2 + g))), (2, .ref (ad (2 + ((sBest σ g k).1)))), (3, .int (nI ((sBest σ g k).2))), (4, .int (nI (k + 1)))]) hx hb d_GB_takeLongestRun_29 hl (by decide) rfl (fun ls hl => ?_)
        refine lv_aload hx hb d_GB_takeLongestRun_31 (lv_at hl 0 rfl) ?_
        refine g_getN (own := "GroupBitmaps") (C := R_GR) (T := F_GR) (N := 6) (ci := 1) (v := .ref (ad (6 + (2 * (sNx σ g (k + 1)))))) hx hb hg ku_GR hown hK hI (2 + (sNx σ g (k + 1))) (wd_GR hq2) rfl 3 (by decide) kw_61 rfl d_GB_takeLongestRun_33 ?_
        refine g_callV (own := "GroupBitmaps") (C := "GroupBitmaps$Bitmap") (T := F_BM) (N := 5) (k := 0) (q0 := 6 + (2 * (sNx σ g (k + 1)))) (ci := 2) (a := ad (6 + (2 * (sNx σ g (k + 1))))) (As := []) (rest := []) (c_BM_longestRun σ (2 * (sNx σ g (k + 1))) hr2 (hσ.2.2.2.1 _ hr2).1) hx hb hml hown hg hK hI hA kw_288 kw_289 kw_290 kw_3 kw_291 ky_BM_longestRun ⟨Nat.le_of_ble_eq_true rfl, Nat.le_of_ble_eq_true rfl⟩ rfl rfl (wd_BM hr2) rfl rfl hl.1 (Nat.le_of_ble_eq_true rfl) ⟨Nat.zero_le _, Nat.zero_le _⟩ d_GB_takeLongestRun_36 rfl rfl (fun H locs hI => ?_)
        refine lv_istore (lv' := [(6, .int (nI (sLen5 σ (sNx σ g (k + 1))))), (5, .ref (ad (2 + (sNx σ g (k + 1))))), (0, .ref (ad 0)), (1, .ref (ad (2 + g))), (2, .ref (ad (2 + ((sBest σ g k).1)))), (3, .int (nI ((sBest σ g k).2))), (4, .int (nI (k + 1)))]) hx hb d_GB_takeLongestRun_39 hl (by decide) rfl (fun ls hl => ?_)
        refine lv_iload hx hb d_GB_takeLongestRun_41 (lv_at hl 0 rfl) ?_
        refine lv_iload_n hx hb d_GB_takeLongestRun_43 rfl (lv_at hl 5 rfl) ?_
        refine r_le (a := sLen5 σ (sNx σ g (k + 1))) (b := (sBest σ g k).2) (tgt := 53) hx hb d_GB_takeLongestRun_44 (by decide) (by omega) (by omega) (fun h2 => ?_) (fun h2 => ?_)
        · have e1 : sBest σ g (k + 1) = sBest σ g k := if_neg (Nat.not_lt.mpr h2)
          refine lv_iinc (v := nI ((k + 1) + 1)) (lv' := [(4, .int (nI ((k + 1) + 1))), (6, .int (nI (sLen5 σ (sNx σ g (k + 1))))), (5, .ref (ad (2 + (sNx σ g (k + 1))))), (0, .ref (ad 0)), (1, .ref (ad (2 + g))), (2, .ref (ad (2 + ((sBest σ g k).1)))), (3, .int (nI ((sBest σ g k).2)))]) hx hb d_GB_takeLongestRun_53 hl (k := 6) rfl (nI_1 _) (by decide) rfl (fun ls hl => ?_)
          refine lv_goto (tgt := 13) hx hb d_GB_takeLongestRun_56 (by decide) ?_
          exact ih (k + 1) (by omega) (by omega) _ _ _ hI (by rw [e1]; exact lv_sub hl [3, 4, 5, 6, 0] rfl)
        · have e1 : sBest σ g (k + 1) = (sNx σ g (k + 1), sLen5 σ (sNx σ g (k + 1))) := if_pos h2
          refine lv_iload hx hb d_GB_takeLongestRun_47 (lv_at hl 0 rfl) ?_
          refine lv_istore_n (lv' := [(3, .int (nI (sLen5 σ (sNx σ g (k + 1))))), (6, .int (nI (sLen5 σ (sNx σ g (k + 1))))), (5, .ref (ad (2 + (sNx σ g (k + 1))))), (0, .ref (ad 0)), (1, .ref (ad (2 + g))), (2, .ref (ad (2 + ((sBest σ g k).1)))), (4, .int (nI (k + 1)))]) hx hb d_GB_takeLongestRun_49 rfl hl (by decide) rfl (fun ls hl => ?_)
          refine lv_aload hx hb d_GB_takeLongestRun_50 (lv_at hl 2 rfl) ?_
          refine lv_astore_n (lv' := [(2, .ref (ad (2 + (sNx σ g (k + 1))))), (3, .int (nI (sLen5 σ (sNx σ g (k + 1))))), (6, .int (nI (sLen5 σ (sNx σ g (k + 1))))), (5, .ref (ad (2 + (sNx σ g (k + 1))))), (0, .ref (ad 0)), (1, .ref (ad (2 + g))), (4, .int (nI (k + 1)))]) hx hb d_GB_takeLongestRun_52 rfl hl (by decide) rfl (fun ls hl => ?_)
          refine lv_iinc (v := nI ((k + 1) + 1)) (lv' := [(4, .int (nI ((k + 1) + 1))), (2, .ref (ad (2 + (sNx σ g (k + 1))))), (3, .int (nI (sLen5 σ (sNx σ g (k + 1))))), (6, .int (nI (sLen5 σ (sNx σ g (k + 1))))), (5, .ref (ad (2 + (sNx σ g (k + 1))))), (0, .ref (ad 0)), (1, .ref (ad (2 + g)))]) hx hb d_GB_takeLongestRun_53 hl (k := 6) rfl (nI_1 _) (by decide) rfl (fun ls hl => ?_)
          refine lv_goto (tgt := 13) hx hb d_GB_takeLongestRun_56 (by decide) ?_
          exact ih (k + 1) (by omega) (by omega) _ _ _ hI (by rw [e1]; exact lv_sub hl [5, 6, 1, 2, 0] rfl)
  exact loop (sCnt σ) 0 (by omega) (by omega) _ _ _ hI (lv_sub hl [3, 4, 2, 1, 0] rfl)
set_option maxHeartbeats 4000000 in
set_option maxRecDepth 100000 in
theorem c_GB_takeNear {l : Launch} {D : va_G} {cG cZ cI cJ : ClassId} {ad : Nat → Nat} (σ : gS) (hσ : sB σ) (goal q : Nat) (hgo : goal < 1024) (hq : q < 65536) (hs : sSafe σ (2 * (sPick σ goal q).1) (sPick σ goal q).2.1 (sPick σ goal q).2.2) (hlr : sAf σ (2 * (goal / 256)) (goal % 256) q = false → sFind σ (goal / 256) q (sCnt σ) = none → ∃ a, a < 65536 ∧ (sSr σ (2 * (sBest σ (goal / 256) (sCnt σ - 1)).1) (sBest σ (goal / 256) (sCnt σ - 1)).2 (sSz σ (2 * (sBest σ (goal / 256) (sCnt σ - 1)).1))).1 = some a) (hfa : ∀ g a, sFind σ (goal / 256) q (sCnt σ) = some (g, a) → a < 65536) : gMet l D (gT cG cZ cI cJ) y_GB_takeNear b_GB_takeNear 8 (some .int) ({ frames := 4, cells := 0, slots := 0, locals := 92 }) (wd ad cG cZ σ) [.ref (ad 0), .int (nI goal), .int (nI q)] (wd ad cG cZ (sRun σ (sPick σ goal q).1 (sPick σ goal q).2.1 (sPick σ goal q).2.2)) (some (.int (nI (256 * (sPick σ goal q).1 + (sPick σ goal q).2.1)))) := by
  refine gMet_of (by decide) (Nat.le_of_ble_eq_true rfl) ?_
  intro p e s m below meth c A ls hC hA hI hl
  obtain ⟨hx, hb, hr, hlk, hown, hml, hg, hK⟩ := hC
  have hown : s.vm.findClass "GroupBitmaps" = some m.cls := hown
  have hl : lv_has ls 8 [(0, .ref (ad 0)), (1, .int (nI goal)), (2, .int (nI q))] := hl
  have hc1 := hσ.1
  have hc2 := hσ.2.1
  refine lv_aload_n hx hb d_GB_takeNear_0 rfl (lv_at hl 0 rfl) ?_
  refine lv_iload_n hx hb d_GB_takeNear_1 rfl (lv_at hl 1 rfl) ?_
  refine g_callV (own := "GroupBitmaps") (C := "GroupBitmaps") (T := F_GB) (N := 5) (k := 1) (q0 := 0) (ci := 0) (a := ad 0) (As := [.int (nI goal)]) (rest := []) (c_GB_groupOfBlock σ goal hgo) hx hb hml hown hg hK hI hA kw_256 kw_258 kp_7 kw_1 kw_259 ky_GB_groupOfBlock ⟨Nat.le_of_ble_eq_true rfl, Nat.le_of_ble_eq_true rfl⟩ rfl rfl (wd_GB) rfl rfl hl.1 (Nat.le_of_ble_eq_true rfl) ⟨Nat.zero_le _, Nat.zero_le _⟩ d_GB_takeNear_2 rfl rfl (fun H locs hI => ?_)
  have hq0 := show goal / 256 < 4 by omega
  have hr0 : 2 * (goal / 256) < 8 := by omega
  have hs0 : 2 * (goal / 256) + 1 < 8 := by omega
  refine lv_astore_n (lv' := [(3, .ref (ad (2 + (goal / 256)))), (0, .ref (ad 0)), (1, .int (nI goal)), (2, .int (nI q))]) hx hb d_GB_takeNear_5 rfl hl (by decide) rfl (fun ls hl => ?_)
  refine lv_iload_n hx hb d_GB_takeNear_6 rfl (lv_at hl 2 rfl) ?_
  refine lv_sipush (v := nI 256) hx hb d_GB_takeNear_7 (by decide) ?_
  refine r_irem (a := goal) (b := 256) hx hb (by omega) (by omega) (by omega) d_GB_takeNear_10 ?_
  refine lv_istore (lv' := [(4, .int (nI (goal % 256))), (3, .ref (ad (2 + (goal / 256)))), (0, .ref (ad 0)), (1, .int (nI goal)), (2, .int (nI q))]) hx hb d_GB_takeNear_11 hl (by decide) rfl (fun ls hl => ?_)
  refine lv_aload_n hx hb d_GB_takeNear_13 rfl (lv_at hl 1 rfl) ?_
  refine g_getN (own := "GroupBitmaps") (C := R_GR) (T := F_GR) (N := 6) (ci := 1) (v := .ref (ad (6 + (2 * (goal / 256))))) hx hb hg ku_GR hown hK hI (2 + (goal / 256)) (wd_GR hq0) rfl 3 (by decide) kw_61 rfl d_GB_takeNear_14 ?_
  refine lv_iload hx hb d_GB_takeNear_17 (lv_at hl 0 rfl) ?_
  refine lv_iload_n hx hb d_GB_takeNear_19 rfl (lv_at hl 4 rfl) ?_
  refine g_callV (own := "GroupBitmaps") (C := "GroupBitmaps$Bitmap") (T := F_BM) (N := 5) (k := 2) (q0 := 6 + (2 * (goal / 256))) (ci := 2) (a := ad (6 + (2 * (goal / 256)))) (As := [.int (nI (goal % 256)), .int (nI q)]) (rest := []) (c_BM_areFree σ (2 * (goal / 256)) hr0 (goal % 256) q (by omega) hq) hx hb hml hown hg hK hI hA kw_260 kw_261 kw_262 kw_3 kw_263 ky_BM_areFree ⟨Nat.le_of_ble_eq_true rfl, Nat.le_of_ble_eq_true rfl⟩ rfl rfl (wd_BM hr0) rfl rfl hl.1 (Nat.le_of_ble_eq_true rfl) ⟨Nat.zero_le _, Nat.zero_le _⟩ d_GB_takeNear_20 rfl rfl (fun H locs hI => ?_)
  refine r_bz (b := sAf σ (2 * (goal / 256)) (goal % 256) q) (tgt := 35) hx hb d_GB_takeNear_23 (by decide) (fun h => ?_) (fun h => ?_)
  · refine lv_iconst (v := nI 0) hx hb d_GB_takeNear_35 (by decide) ?_
    refine lv_istore (lv' := [(5, .int (nI 0)), (4, .int (nI (goal % 256))), (3, .ref (ad (2 + (goal / 256)))), (0, .ref (ad 0)), (1, .int (nI goal)), (2, .int (nI q))]) hx hb d_GB_takeNear_36 hl (by decide) rfl (fun ls hl => ?_)
    have loop : ∀ (fuel : Nat) (k : Nat), sCnt σ + 1 ≤ fuel + k → (k ≤ sCnt σ) → (sFind σ (goal / 256) q k = none) → ∀ (H : Heap) (locs : List Loc) (ls : Array Slot), gI D A s.heap (wd ad cG cZ σ) H locs → lv_has ls 8 [(0, .ref (ad 0)), (1, .int (nI goal)), (2, .int (nI q)), (3, .ref (ad (2 + (goal / 256)))), (5, .int (nI k))] → W p l e ({ frames := 4, cells := 0, slots := 0, locals := 92 }) s m ([.ref (ad 0), .int (nI goal), .int (nI q)] : List Value).toArray below meth c H locs 0 0 (gQ D below ([.ref (ad 0), .int (nI goal), .int (nI q)] : List Value).toArray s A (wd ad cG cZ (sRun σ (sPick σ goal q).1 (sPick σ goal q).2.1 (sPick σ goal q).2.2)) (some (.int (nI (256 * (sPick σ goal q).1 + (sPick σ goal q).2.1))))) (F0 m 38 ls []) := by
      intro fuel
      induction fuel with
      | zero => intro k hfu hk hn; exact absurd hfu (by omega)
      | succ fuel ih =>
        intro k hfu hk hn H locs ls hI hl
        refine lv_iload hx hb d_GB_takeNear_38 (lv_at hl 4 rfl) ?_
        refine lv_aload_n hx hb d_GB_takeNear_40 rfl (lv_at hl 0 rfl) ?_
        refine g_get (own := "GroupBitmaps") (C := R_GB) (T := F_GB) (N := 5) (ci := 0) (v := .int (nI (sCnt σ))) hx hb hg ku_GB hown hK hI (0) (wd_GB) rfl 1 (by decide) kw_92 rfl d_GB_takeNear_41 ?_
        refine r_ge (a := k) (b := sCnt σ) (tgt := 88) hx hb d_GB_takeNear_44 (by decide) (by omega) (by omega) (fun h2 => ?_) (fun h2 => ?_)
        · obtain rfl : k = sCnt σ := by omega
          obtain ⟨a, ha, hsr⟩ := hlr h hn
          have hp : sPick σ goal q = ((sBest σ (goal / 256) (sCnt σ - 1)).1, a, (sBest σ (goal / 256) (sCnt σ - 1)).2) := by unfold sPick; rw [if_neg (by rw [h]; decide), hn]; dsimp only; rw [hsr]; rfl
          rw [hp] at hs ⊢
          refine lv_aload_n hx hb d_GB_takeNear_88 rfl (lv_at hl 0 rfl) ?_
          refine lv_aload_n hx hb d_GB_takeNear_89 rfl (lv_at hl 3 rfl) ?_
          refine g_callV (own := "GroupBitmaps") (C := "GroupBitmaps") (T := F_GB) (N := 5) (k := 1) (q0 := 0) (ci := 0) (a := ad 0) (As := [.ref (ad (2 + (goal / 256)))]) (rest := []) (c_GB_takeLongestRun σ hσ (goal / 256) a hq0 ha hsr hs) hx hb hml hown hg hK hI hA kw_284 kw_286 kp_10 kw_1 kw_287 ky_GB_takeLongestRun ⟨Nat.le_of_ble_eq_true rfl, Nat.le_of_ble_eq_true rfl⟩ rfl rfl (wd_GB) rfl rfl hl.1 (Nat.le_of_ble_eq_true rfl) ⟨Nat.zero_le _, Nat.zero_le _⟩ d_GB_takeNear_90 rfl rfl (fun H locs hI => ?_)
          exact g_ri hx hb hr hlk hI (rfl) d_GB_takeNear_93
        · refine lv_aload_n hx hb d_GB_takeNear_47 rfl (lv_at hl 0 rfl) ?_
          refine lv_aload_n hx hb d_GB_takeNear_48 rfl (lv_at hl 3 rfl) ?_
          refine lv_iload hx hb d_GB_takeNear_49 (lv_at hl 4 rfl) ?_
          refine g_callV (own := "GroupBitmaps") (C := "GroupBitmaps") (T := F_GB) (N := 5) (k := 2) (q0 := 0) (ci := 0) (a := ad 0) (As := [.ref (ad (2 + (goal / 256))), .int (nI k)]) (rest := []) (c_GB_groupBehind σ hσ (goal / 256) k hq0 (by omega)) hx hb hml hown hg hK hI hA kw_276 kw_278 kp_9 kw_1 kw_279 ky_GB_groupBehind ⟨Nat.le_of_ble_eq_true rfl, Nat.le_of_ble_eq_true rfl⟩ rfl rfl (wd_GB) rfl rfl hl.1 (Nat.le_of_ble_eq_true rfl) ⟨Nat.zero_le _, Nat.zero_le _⟩ d_GB_takeNear_51 rfl rfl (fun H locs hI => ?_)
          have hq1 := sNx_lt hσ (goal / 256) k
          have hr1 : 2 * (sNx σ (goal / 256) k) < 8 := by omega
          have hs1 : 2 * (sNx σ (goal / 256) k) + 1 < 8 := by omega
          refine lv_astore (lv' := [(6, .ref (ad (2 + (sNx σ (goal / 256) k)))), (0, .ref (ad 0)), (1, .int (nI goal)), (2, .int (nI q)), (3, .ref (ad (2 + (goal / 256)))), (5, .int (nI k))]) hx hb d_GB_takeNear_54 hl (by decide) rfl (fun ls hl => ?_)
          refine lv_aload hx hb d_GB_takeNear_56 (lv_at hl 0 rfl) ?_
          refine g_getN (own := "GroupBitmaps") (C := R_GR) (T := F_GR) (N := 6) (ci := 1) (v := .ref (ad (6 + (2 * (sNx σ (goal / 256) k))))) hx hb hg ku_GR hown hK hI (2 + (sNx σ (goal / 256) k)) (wd_GR hq1) rfl 3 (by decide) kw_61 rfl d_GB_takeNear_58 ?_
          refine lv_iload_n hx hb d_GB_takeNear_61 rfl (lv_at hl 3 rfl) ?_
          refine g_callV (own := "GroupBitmaps") (C := "GroupBitmaps$Bitmap") (T := F_BM) (N := 5) (k := 1) (q0 := 6 + (2 * (sNx σ (goal / 256) k))) (ci := 2) (a := ad (6 + (2 * (sNx σ (goal / 256) k)))) (As := [.int (nI q)]) (rest := []) (c_BM_shortestRun σ (2 * (sNx σ (goal / 256) k)) hr1 q hq (hσ.2.2.2.1 _ hr1).1) hx hb hml hown hg hK hI hA kw_280 kw_281 kw_282 kw_3 kw_283 ky_BM_shortestRun ⟨Nat.le_of_ble_eq_true rfl, Nat.le_of_ble_eq_true rfl⟩ rfl rfl (wd_BM hr1) rfl rfl hl.1 (Nat.le_of_ble_eq_true rfl) ⟨Nat.zero_le _, Nat.zero_le _⟩ d_GB_takeNear_62 rfl rfl (fun H locs hI => ?_)
          rcases h3 : (sSr σ (2 * (sNx σ (goal / 256) k)) q (sSz σ (2 * (sNx σ (goal / 256) k)))).1 with _ | a
          · refine lv_istore (lv' := [(7, .int (oI none)), (6, .ref (ad (2 + (sNx σ (goal / 256) k)))), (0, .ref (ad 0)), (1, .int (nI goal)), (2, .int (nI q)), (3, .ref (ad (2 + (goal / 256)))), (5, .int (nI k))]) hx hb d_GB_takeNear_65 hl (by decide) rfl (fun ls hl => ?_)
            refine lv_iload hx hb d_GB_takeNear_67 (lv_at hl 0 rfl) ?_
            refine lv_if_lt (tgt := 82) hx hb d_GB_takeNear_69 (by decide) (fun _ => ?_) (fun h9 => absurd (by decide) h9)
            refine lv_iinc (v := nI (k + 1)) (lv' := [(5, .int (nI (k + 1))), (7, .int (oI none)), (6, .ref (ad (2 + (sNx σ (goal / 256) k)))), (0, .ref (ad 0)), (1, .int (nI goal)), (2, .int (nI q)), (3, .ref (ad (2 + (goal / 256))))]) hx hb d_GB_takeNear_82 hl (k := 6) rfl (nI_1 _) (by decide) rfl (fun ls hl => ?_)
            refine lv_goto (tgt := 38) hx hb d_GB_takeNear_85 (by decide) ?_
            exact ih (k + 1) (by omega) (by omega) (sFind_step hn h3) _ _ _ hI (lv_sub hl [3, 4, 5, 6, 0] rfl)
          · have hff := sFind_some hn h3 h2
            have ha := hfa _ _ hff
            have hp : sPick σ goal q = (sNx σ (goal / 256) k, a, q) := by unfold sPick; rw [if_neg (by rw [h]; decide), hff]
            rw [hp] at hs ⊢
            refine lv_istore (lv' := [(7, .int (nI a)), (6, .ref (ad (2 + (sNx σ (goal / 256) k)))), (0, .ref (ad 0)), (1, .int (nI goal)), (2, .int (nI q)), (3, .ref (ad (2 + (goal / 256)))), (5, .int (nI k))]) hx hb d_GB_takeNear_65 hl (by decide) rfl (fun ls hl => ?_)
            refine lv_iload hx hb d_GB_takeNear_67 (lv_at hl 0 rfl) ?_
            refine r_zlt (a := a) (tgt := 82) hx hb d_GB_takeNear_69 (by decide) (by omega) ?_
            refine lv_aload_n hx hb d_GB_takeNear_72 rfl (lv_at hl 2 rfl) ?_
            refine lv_aload hx hb d_GB_takeNear_73 (lv_at hl 1 rfl) ?_
            refine lv_iload hx hb d_GB_takeNear_75 (lv_at hl 0 rfl) ?_
            refine lv_iload_n hx hb d_GB_takeNear_77 rfl (lv_at hl 4 rfl) ?_
            refine g_callV (own := "GroupBitmaps") (C := "GroupBitmaps") (T := F_GB) (N := 5) (k := 3) (q0 := 0) (ci := 0) (a := ad 0) (As := [.ref (ad (2 + (sNx σ (goal / 256) k))), .int (nI a), .int (nI q)]) (rest := []) (c_GB_takeRun σ (sNx σ (goal / 256) k) a q hq1 ha hq hs) hx hb hml hown hg hK hI hA kw_268 kw_270 kp_8 kw_1 kw_271 ky_GB_takeRun ⟨Nat.le_of_ble_eq_true rfl, Nat.le_of_ble_eq_true rfl⟩ rfl rfl (wd_GB) rfl rfl hl.1 (Nat.le_of_ble_eq_true rfl) ⟨Nat.zero_le _, Nat.zero_le _⟩ d_GB_takeNear_78 rfl rfl (fun H locs hI => ?_)
            exact g_ri hx hb hr hlk hI (rfl) d_GB_takeNear_81
    exact loop (sCnt σ + 1) 0 (by omega) (Nat.zero_le _) rfl _ _ _ hI (lv_sub hl [3, 4, 5, 2, 0] rfl)
  · have hp : sPick σ goal q = (goal / 256, goal % 256, q) := if_pos h
    rw [hp] at hs ⊢
    refine lv_aload_n hx hb d_GB_takeNear_26 rfl (lv_at hl 2 rfl) ?_
    refine lv_aload_n hx hb d_GB_takeNear_27 rfl (lv_at hl 1 rfl) ?_
    refine lv_iload hx hb d_GB_takeNear_28 (lv_at hl 0 rfl) ?_
    refine lv_iload_n hx hb d_GB_takeNear_30 rfl (lv_at hl 4 rfl) ?_
    refine g_callV (own := "GroupBitmaps") (C := "GroupBitmaps") (T := F_GB) (N := 5) (k := 3) (q0 := 0) (ci := 0) (a := ad 0) (As := [.ref (ad (2 + (goal / 256))), .int (nI (goal % 256)), .int (nI q)]) (rest := []) (c_GB_takeRun σ (goal / 256) (goal % 256) q hq0 (by omega) hq hs) hx hb hml hown hg hK hI hA kw_268 kw_270 kp_8 kw_1 kw_271 ky_GB_takeRun ⟨Nat.le_of_ble_eq_true rfl, Nat.le_of_ble_eq_true rfl⟩ rfl rfl (wd_GB) rfl rfl hl.1 (Nat.le_of_ble_eq_true rfl) ⟨Nat.zero_le _, Nat.zero_le _⟩ d_GB_takeNear_31 rfl rfl (fun H locs hI => ?_)
    exact g_ri hx hb hr hlk hI (rfl) d_GB_takeNear_34
set_option maxHeartbeats 4000000 in
set_option maxRecDepth 100000 in
theorem c_GB_areGivable {l : Launch} {D : va_G} {cG cZ cI cJ : ClassId} {ad : Nat → Nat} (σ : gS) (a q : Nat) (haq : a + q ≤ 1024) : gMet l D (gT cG cZ cI cJ) y_GB_areGivable b_GB_areGivable 6 (some .boolean) ({ frames := 1, cells := 0, slots := 0, locals := 21 }) (wd ad cG cZ σ) [.ref (ad 0), .int (nI a), .int (nI q)] (wd ad cG cZ σ) (some (.int (bI (sGv σ a q)))) := by
  refine gMet_of (by decide) (Nat.le_of_ble_eq_true rfl) ?_
  intro p e s m below meth c A ls hC hA hI hl
  obtain ⟨hx, hb, hr, hlk, hown, hml, hg, hK⟩ := hC
  have hown : s.vm.findClass "GroupBitmaps" = some m.cls := hown
  have hl : lv_has ls 6 [(0, .ref (ad 0)), (1, .int (nI a)), (2, .int (nI q))] := hl
  refine lv_iload_n hx hb d_GB_areGivable_0 rfl (lv_at hl 1 rfl) ?_
  refine lv_istore_n (lv' := [(3, .int (nI a)), (0, .ref (ad 0)), (1, .int (nI a)), (2, .int (nI q))]) hx hb d_GB_areGivable_1 rfl hl (by decide) rfl (fun ls hl => ?_)
  have loop : ∀ (fuel : Nat) (t : Nat), q + 1 ≤ fuel + t → (t ≤ q) → (sGv σ a t = true) → ∀ (H : Heap) (locs : List Loc) (ls : Array Slot), gI D A s.heap (wd ad cG cZ σ) H locs → lv_has ls 6 [(0, .ref (ad 0)), (1, .int (nI a)), (2, .int (nI q)), (3, .int (nI (a + t)))] → W p l e ({ frames := 1, cells := 0, slots := 0, locals := 21 }) s m ([.ref (ad 0), .int (nI a), .int (nI q)] : List Value).toArray below meth c H locs 0 0 (gQ D below ([.ref (ad 0), .int (nI a), .int (nI q)] : List Value).toArray s A (wd ad cG cZ σ) (some (.int (bI (sGv σ a q))))) (F0 m 2 ls []) := by
    intro fuel
    induction fuel with
    | zero => intro t hfu ht hn; exact absurd hfu (by omega)
    | succ fuel ih =>
      intro t hfu ht hn H locs ls hI hl
      refine lv_iload_n hx hb d_GB_areGivable_2 rfl (lv_at hl 3 rfl) ?_
      refine lv_iload_n hx hb d_GB_areGivable_3 rfl (lv_at hl 1 rfl) ?_
      refine lv_iload_n hx hb d_GB_areGivable_4 rfl (lv_at hl 2 rfl) ?_
      refine r_iadd (a := a) (b := q) hx hb d_GB_areGivable_5 ?_
      refine r_ge (a := a + t) (b := a + q) (tgt := 54) hx hb d_GB_areGivable_6 (by decide) (by omega) (by omega) (fun h => ?_) (fun h => ?_)
      · obtain rfl : t = q := by omega
        refine lv_iconst (v := bI true) hx hb d_GB_areGivable_54 (by decide) ?_
        exact g_rz hx hb hr hlk hI (by rw [hn]) d_GB_areGivable_55
      · refine lv_aload_n hx hb d_GB_areGivable_9 rfl (lv_at hl 0 rfl) ?_
        refine lv_iload_n hx hb d_GB_areGivable_10 rfl (lv_at hl 3 rfl) ?_
        refine g_callV (own := "GroupBitmaps") (C := "GroupBitmaps") (T := F_GB) (N := 5) (k := 1) (q0 := 0) (ci := 0) (a := ad 0) (As := [.int (nI (a + t))]) (rest := []) (c_GB_groupOfBlock σ (a + t) (by omega)) hx hb hml hown hg hK hI hA kw_256 kw_258 kp_7 kw_1 kw_259 ky_GB_groupOfBlock ⟨Nat.le_of_ble_eq_true rfl, Nat.le_of_ble_eq_true rfl⟩ rfl rfl (wd_GB) rfl rfl hl.1 (Nat.le_of_ble_eq_true rfl) ⟨Nat.zero_le _, Nat.zero_le _⟩ d_GB_areGivable_11 rfl rfl (fun H locs hI => ?_)
        have hq0 := show (a + t) / 256 < 4 by omega
        have hr0 : 2 * ((a + t) / 256) < 8 := by omega
        have hs0 : 2 * ((a + t) / 256) + 1 < 8 := by omega
        have hhd := gHd_le ((a + t) / 256)
        refine lv_astore (lv' := [(4, .ref (ad (2 + ((a + t) / 256)))), (0, .ref (ad 0)), (1, .int (nI a)), (2, .int (nI q)), (3, .int (nI (a + t)))]) hx hb d_GB_areGivable_14 hl (by decide) rfl (fun ls hl => ?_)
        refine lv_iload_n hx hb d_GB_areGivable_16 rfl (lv_at hl 4 rfl) ?_
        refine lv_sipush (v := nI 256) hx hb d_GB_areGivable_17 (by decide) ?_
        refine r_irem (a := a + t) (b := 256) hx hb (by omega) (by omega) (by omega) d_GB_areGivable_20 ?_
        refine lv_istore (lv' := [(5, .int (nI ((a + t) % 256))), (4, .ref (ad (2 + ((a + t) / 256)))), (0, .ref (ad 0)), (1, .int (nI a)), (2, .int (nI q)), (3, .int (nI (a + t)))]) hx hb d_GB_areGivable_21 hl (by decide) rfl (fun ls hl => ?_)
        refine lv_iload hx hb d_GB_areGivable_23 (lv_at hl 0 rfl) ?_
        refine lv_aload hx hb d_GB_areGivable_25 (lv_at hl 1 rfl) ?_
        refine g_getN (own := "GroupBitmaps") (C := R_GR) (T := F_GR) (N := 6) (ci := 1) (v := .int (nI (gHd ((a + t) / 256) + 10))) hx hb hg ku_GR hown hK hI (2 + ((a + t) / 256)) (wd_GR hq0) rfl 1 (by decide) kw_58 rfl d_GB_areGivable_27 ?_
        refine r_lt (a := (a + t) % 256) (b := gHd ((a + t) / 256) + 10) (tgt := 46) hx hb d_GB_areGivable_30 (by decide) (by omega) (by omega) (fun h2 => ?_) (fun h2 => ?_)
        · refine lv_iconst (v := bI false) hx hb d_GB_areGivable_46 (by decide) ?_
          exact g_rz hx hb hr hlk hI (by rw [sGv_false (t := t) (by simp [sGv1]; omega) (by omega)]) d_GB_areGivable_47
        · refine lv_aload hx hb d_GB_areGivable_33 (lv_at hl 1 rfl) ?_
          refine g_getN (own := "GroupBitmaps") (C := R_GR) (T := F_GR) (N := 6) (ci := 1) (v := .ref (ad (6 + (2 * ((a + t) / 256))))) hx hb hg ku_GR hown hK hI (2 + ((a + t) / 256)) (wd_GR hq0) rfl 3 (by decide) kw_61 rfl d_GB_areGivable_35 ?_
          refine lv_iload hx hb d_GB_areGivable_38 (lv_at hl 0 rfl) ?_
          refine g_callV (own := "GroupBitmaps") (C := "GroupBitmaps$Bitmap") (T := F_BM) (N := 5) (k := 1) (q0 := 6 + (2 * ((a + t) / 256))) (ci := 2) (a := ad (6 + (2 * ((a + t) / 256)))) (As := [.int (nI ((a + t) % 256))]) (rest := []) (c_BM_isSet σ (2 * ((a + t) / 256)) hr0 ((a + t) % 256) (by omega)) hx hb hml hown hg hK hI hA kw_306 kw_265 kw_266 kw_3 kw_267 ky_BM_isSet ⟨Nat.le_of_ble_eq_true rfl, Nat.le_of_ble_eq_true rfl⟩ rfl rfl (wd_BM hr0) rfl rfl hl.1 (Nat.le_of_ble_eq_true rfl) ⟨Nat.zero_le _, Nat.zero_le _⟩ d_GB_areGivable_40 rfl rfl (fun H locs hI => ?_)
          refine r_bnz (b := sSet σ (2 * ((a + t) / 256)) ((a + t) % 256)) (tgt := 48) hx hb d_GB_areGivable_43 (by decide) (fun h3 => ?_) (fun h3 => ?_)
          · refine lv_iinc (v := nI ((a + t) + 1)) (lv' := [(3, .int (nI ((a + t) + 1))), (5, .int (nI ((a + t) % 256))), (4, .ref (ad (2 + ((a + t) / 256)))), (0, .ref (ad 0)), (1, .int (nI a)), (2, .int (nI q))]) hx hb d_GB_areGivable_48 hl (k := 5) rfl (nI_1 _) (by decide) rfl (fun ls hl => ?_)
            refine lv_goto (tgt := 2) hx hb d_GB_areGivable_51 (by decide) ?_
            exact ih (t + 1) (by omega) (by omega) (sGv_step hn (by simp [sGv1, h3]; omega)) _ _ _ hI (lv_sub hl [3, 4, 5, 0] rfl)
          · refine lv_iconst (v := bI false) hx hb d_GB_areGivable_46 (by decide) ?_
            exact g_rz hx hb hr hlk hI (by rw [sGv_false (t := t) (by simp [sGv1, h3]) (by omega)]) d_GB_areGivable_47
  exact loop (q + 1) 0 (by omega) (Nat.zero_le _) rfl _ _ _ hI (lv_sub hl [1, 2, 3, 0] rfl)
end
section
set_option maxHeartbeats 4000000 in
set_option maxRecDepth 100000 in
theorem c_GB_layOut {l : Launch} {D : va_G} {cG cZ cI cJ : ClassId} {ad : Nat → Nat} (σ : gS) (c0 la : Nat) (h1 : 1 ≤ c0) (h4 : c0 ≤ 4) (hla : 16 ≤ la) (hla2 : la ≤ 256) : gMet l D (gT cG cZ cI cJ) y_GB_layOut b_GB_layOut 4 none ({ frames := 2, cells := 0, slots := 0, locals := 44 }) (wd ad cG cZ σ) [.ref (ad 0), .int (nI c0), .int (nI la)] (wd ad cG cZ (sLayAll σ c0 la)) (none) := by
  refine gMet_of (by decide) (Nat.le_of_ble_eq_true rfl) ?_
  intro p e s m below meth c A ls hC hA hI hl
  obtain ⟨hx, hb, hr, hlk, hown, hml, hg, hK⟩ := hC
  have hown : s.vm.findClass "GroupBitmaps" = some m.cls := hown
  have hl : lv_has ls 4 [(0, .ref (ad 0)), (1, .int (nI c0)), (2, .int (nI la))] := hl
  refine lv_aload_n hx hb d_GB_layOut_0 rfl (lv_at hl 0 rfl) ?_
  refine lv_iload_n hx hb d_GB_layOut_1 rfl (lv_at hl 1 rfl) ?_
  refine g_put (ws' := (wd ad cG cZ (uCnt σ c0))) (own := "GroupBitmaps") (C := R_GB) (T := F_GB) (N := 5) (ci := 0) (v := .int (nI c0)) hx hb hg ku_GB t_GB t_GB_ok n_GB hown hK hI (0) (wd_GB) rfl 1 (by decide) kw_92 rfl rfl (rfl) (rfl) (Nat.le_of_ble_eq_true rfl) (wd_uCnt) d_GB_layOut_2 (fun H locs hI => ?_)
  refine lv_iconst (v := nI 0) hx hb d_GB_layOut_5 (by decide) ?_
  refine lv_istore_n (lv' := [(3, .int (nI 0)), (0, .ref (ad 0)), (1, .int (nI c0)), (2, .int (nI la))]) hx hb d_GB_layOut_6 rfl hl (by decide) rfl (fun ls hl => ?_)
  have loop : ∀ (fuel : Nat) (g : Nat), c0 + 1 ≤ fuel + g → (g ≤ c0) → ∀ (H : Heap) (locs : List Loc) (ls : Array Slot), gI D A s.heap (wd ad cG cZ (sGLays (uCnt σ c0) c0 la g)) H locs → lv_has ls 4 [(0, .ref (ad 0)), (1, .int (nI c0)), (2, .int (nI la)), (3, .int (nI g))] → W p l e ({ frames := 2, cells := 0, slots := 0, locals := 44 }) s m ([.ref (ad 0), .int (nI c0), .int (nI la)] : List Value).toArray below meth c H locs 0 0 (gQ D below ([.ref (ad 0), .int (nI c0), .int (nI la)] : List Value).toArray s A (wd ad cG cZ (sLayAll σ c0 la)) (none)) (F0 m 7 ls []) := by
    intro fuel
    induction fuel with
    | zero => intro g hfu hgc; exact absurd hfu (by omega)
    | succ fuel ih =>
      intro g hfu hgc H locs ls hI hl
      have hcn : sCnt (sGLays (uCnt σ c0) c0 la g) = c0 := by rw [sCnt_sGLays]; rfl
      refine lv_iload_n hx hb d_GB_layOut_7 rfl (lv_at hl 3 rfl) ?_
      refine lv_aload_n hx hb d_GB_layOut_8 rfl (lv_at hl 0 rfl) ?_
      refine g_get (own := "GroupBitmaps") (C := R_GB) (T := F_GB) (N := 5) (ci := 0) (v := .int (nI (sCnt (sGLays (uCnt σ c0) c0 la g)))) hx hb hg ku_GB hown hK hI (0) (wd_GB) rfl 1 (by decide) kw_92 rfl d_GB_layOut_9 ?_
      refine r_ge (a := g) (b := sCnt (sGLays (uCnt σ c0) c0 la g)) (tgt := 47) hx hb d_GB_layOut_12 (by decide) (by omega) (by omega) (fun h => ?_) (fun h => ?_)
      · obtain rfl : c0 = g := by omega
        refine lv_aload_n hx hb d_GB_layOut_47 rfl (lv_at hl 0 rfl) ?_
        refine lv_iconst (v := nI 0) hx hb d_GB_layOut_48 (by decide) ?_
        refine g_put (ws' := (wd ad cG cZ (uRsv (sGLays (uCnt σ c0) c0 la c0) 0))) (own := "GroupBitmaps") (C := R_GB) (T := F_GB) (N := 5) (ci := 0) (v := .int (nI 0)) hx hb hg ku_GB t_GB t_GB_ok n_GB hown hK hI (0) (wd_GB) rfl 2 (by decide) kw_93 rfl rfl (rfl) (rfl) (Nat.le_of_ble_eq_true rfl) (wd_uRsv) d_GB_layOut_49 (fun H locs hI => ?_)
        refine lv_aload_n hx hb d_GB_layOut_52 rfl (lv_at hl 0 rfl) ?_
        refine lv_iconst (v := nI 0) hx hb d_GB_layOut_53 (by decide) ?_
        refine g_put (ws' := (wd ad cG cZ (uLat (uRsv (sGLays (uCnt σ c0) c0 la c0) 0) 0))) (own := "GroupBitmaps") (C := R_GB) (T := F_GB) (N := 5) (ci := 0) (v := .int (nI 0)) hx hb hg ku_GB t_GB t_GB_ok n_GB hown hK hI (0) (wd_GB) rfl 3 (by decide) kw_94 rfl rfl (rfl) (rfl) (Nat.le_of_ble_eq_true rfl) (wd_uLat) d_GB_layOut_54 (fun H locs hI => ?_)
        refine lv_aload_n hx hb d_GB_layOut_57 rfl (lv_at hl 0 rfl) ?_
        refine lv_iconst (v := bI true) hx hb d_GB_layOut_58 (by decide) ?_
        refine g_put (ws' := (wd ad cG cZ (sLayAll σ c0 la))) (own := "GroupBitmaps") (C := R_GB) (T := F_GB) (N := 5) (ci := 0) (v := .int (bI true)) hx hb hg ku_GB t_GB t_GB_ok n_GB hown hK hI (0) (wd_GB) rfl 4 (by decide) kw_95 rfl rfl (bI_n _) (bI_fit _) (Nat.le_of_ble_eq_true rfl) (wd_uTT) d_GB_layOut_59 (fun H locs hI => ?_)
        exact g_rv hx hb hr hlk hI (rfl) d_GB_layOut_62
      · refine lv_aload_n hx hb d_GB_layOut_15 rfl (lv_at hl 0 rfl) ?_
        refine g_get (own := "GroupBitmaps") (C := R_GB) (T := F_GB) (N := 5) (ci := 0) (v := .ref (ad 1)) hx hb hg ku_GB hown hK hI (0) (wd_GB) rfl 0 (by decide) kw_91 rfl d_GB_layOut_16 ?_
        refine lv_iload_n hx hb d_GB_layOut_19 rfl (lv_at hl 3 rfl) ?_
        refine g_aldq (r := ad (2 + g)) (i := g) hx hb hK hI (1) 0 (wd_GA) rfl (by omega) (by decide) rfl d_GB_layOut_20 ?_
        have hq0 := show g < 4 by omega
        have hr0 : 2 * g < 8 := by omega
        have hs0 : 2 * g + 1 < 8 := by omega
        have hhd := gHd_le g
        refine lv_iload_n hx hb d_GB_layOut_21 rfl (lv_at hl 3 rfl) ?_
        refine lv_aload_n hx hb d_GB_layOut_22 rfl (lv_at hl 0 rfl) ?_
        refine g_get (own := "GroupBitmaps") (C := R_GB) (T := F_GB) (N := 5) (ci := 0) (v := .int (nI (sCnt (sGLays (uCnt σ c0) c0 la g)))) hx hb hg ku_GB hown hK hI (0) (wd_GB) rfl 1 (by decide) kw_92 rfl d_GB_layOut_23 ?_
        refine lv_iconst (v := nI 1) hx hb d_GB_layOut_26 (by decide) ?_
        refine r_isub (a := sCnt (sGLays (uCnt σ c0) c0 la g)) (b := 1) hx hb (by omega) d_GB_layOut_27 ?_
        refine r_ne (a := g) (b := (sCnt (sGLays (uCnt σ c0) c0 la g)) - 1) (tgt := 35) hx hb d_GB_layOut_28 (by decide) (by omega) (by omega) (fun h2 => ?_) (fun h2 => ?_)
        · have ei : (if g = c0 - 1 then la else 256) = 256 := if_neg (by omega)
          have es : sGLays (uCnt σ c0) c0 la (g + 1) = sGLay (sGLays (uCnt σ c0) c0 la g) g 256 := by rw [sGLays, ei]
          refine lv_sipush (v := nI 256) hx hb d_GB_layOut_35 (by decide) ?_
          refine g_callV (own := "GroupBitmaps") (C := "GroupBitmaps$Group") (T := F_GR) (N := 6) (k := 1) (q0 := 2 + g) (ci := 1) (a := ad (2 + g)) (As := [.int (nI 256)]) (rest := []) (c_GR_layOut (sGLays (uCnt σ c0) c0 la g) g (by omega) 256 (by omega) (by omega)) hx hb hml hown hg hK hI hA kw_83 kw_84 kw_85 kw_2 kw_86 ky_GR_layOut ⟨Nat.le_of_ble_eq_true rfl, Nat.le_of_ble_eq_true rfl⟩ rfl rfl (wd_GR hq0) rfl rfl hl.1 (Nat.le_of_ble_eq_true rfl) ⟨Nat.zero_le _, Nat.zero_le _⟩ d_GB_layOut_38 rfl rfl (fun H locs hI => ?_)
          refine lv_iinc (v := nI (g + 1)) (lv' := [(3, .int (nI (g + 1))), (0, .ref (ad 0)), (1, .int (nI c0)), (2, .int (nI la))]) hx hb d_GB_layOut_41 hl (k := 3) rfl (nI_1 _) (by decide) rfl (fun ls hl => ?_)
          refine lv_goto (tgt := 7) hx hb d_GB_layOut_44 (by decide) ?_
          exact ih (g + 1) (by omega) (by omega) _ _ _ (by rw [es]; exact hI) (lv_sub hl [1, 2, 3, 0] rfl)
        · have ei : (if g = c0 - 1 then la else 256) = la := if_pos (by omega)
          have es : sGLays (uCnt σ c0) c0 la (g + 1) = sGLay (sGLays (uCnt σ c0) c0 la g) g la := by rw [sGLays, ei]
          refine lv_iload_n hx hb d_GB_layOut_31 rfl (lv_at hl 2 rfl) ?_
          refine lv_goto (tgt := 38) hx hb d_GB_layOut_32 (by decide) ?_
          refine g_callV (own := "GroupBitmaps") (C := "GroupBitmaps$Group") (T := F_GR) (N := 6) (k := 1) (q0 := 2 + g) (ci := 1) (a := ad (2 + g)) (As := [.int (nI la)]) (rest := []) (c_GR_layOut (sGLays (uCnt σ c0) c0 la g) g (by omega) la (by omega) (by omega)) hx hb hml hown hg hK hI hA kw_83 kw_84 kw_85 kw_2 kw_86 ky_GR_layOut ⟨Nat.le_of_ble_eq_true rfl, Nat.le_of_ble_eq_true rfl⟩ rfl rfl (wd_GR hq0) rfl rfl hl.1 (Nat.le_of_ble_eq_true rfl) ⟨Nat.zero_le _, Nat.zero_le _⟩ d_GB_layOut_38 rfl rfl (fun H locs hI => ?_)
          refine lv_iinc (v := nI (g + 1)) (lv' := [(3, .int (nI (g + 1))), (0, .ref (ad 0)), (1, .int (nI c0)), (2, .int (nI la))]) hx hb d_GB_layOut_41 hl (k := 3) rfl (nI_1 _) (by decide) rfl (fun ls hl => ?_)
          refine lv_goto (tgt := 7) hx hb d_GB_layOut_44 (by decide) ?_
          exact ih (g + 1) (by omega) (by omega) _ _ _ (by rw [es]; exact hI) (lv_sub hl [1, 2, 3, 0] rfl)
  exact loop (c0 + 1) 0 (by omega) (Nat.zero_le _) _ _ _ hI (lv_sub hl [1, 2, 3, 0] rfl)
set_option maxHeartbeats 4000000 in
set_option maxRecDepth 100000 in
theorem c_GB_firstWithFile {l : Launch} {D : va_G} {cG cZ cI cJ : ClassId} {ad : Nat → Nat} (σ : gS) (hσ : sB σ) (g : Nat) (hg4 : g < 4) : gMet l D (gT cG cZ cI cJ) y_GB_firstWithFile b_GB_firstWithFile 4 (some (.object "GroupBitmaps$Group")) ({ frames := 1, cells := 0, slots := 0, locals := 22 }) (wd ad cG cZ σ) [.ref (ad 0), .ref (ad (2 + g))] (wd ad cG cZ σ) (some (gR ad (sFst σ g (pFile σ) (sCnt σ)))) := by
  refine gMet_of (by decide) (Nat.le_of_ble_eq_true rfl) ?_
  intro p e s m below meth c A ls hC hA hI hl
  obtain ⟨hx, hb, hr, hlk, hown, hml, hg, hK⟩ := hC
  have hown : s.vm.findClass "GroupBitmaps" = some m.cls := hown
  have hl : lv_has ls 4 [(0, .ref (ad 0)), (1, .ref (ad (2 + g)))] := hl
  have hc1 := hσ.1
  have hc2 := hσ.2.1
  refine lv_iconst (v := nI 0) hx hb d_GB_firstWithFile_0 (by decide) ?_
  refine lv_istore_n (lv' := [(2, .int (nI 0)), (0, .ref (ad 0)), (1, .ref (ad (2 + g)))]) hx hb d_GB_firstWithFile_1 rfl hl (by decide) rfl (fun ls hl => ?_)
  have loop : ∀ (fuel : Nat) (k : Nat), sCnt σ + 1 ≤ fuel + k → (k ≤ sCnt σ) → (sFst σ g (pFile σ) k = none) → ∀ (H : Heap) (locs : List Loc) (ls : Array Slot), gI D A s.heap (wd ad cG cZ σ) H locs → lv_has ls 4 [(0, .ref (ad 0)), (1, .ref (ad (2 + g))), (2, .int (nI k))] → W p l e ({ frames := 1, cells := 0, slots := 0, locals := 22 }) s m ([.ref (ad 0), .ref (ad (2 + g))] : List Value).toArray below meth c H locs 0 0 (gQ D below ([.ref (ad 0), .ref (ad (2 + g))] : List Value).toArray s A (wd ad cG cZ σ) (some (gR ad (sFst σ g (pFile σ) (sCnt σ))))) (F0 m 2 ls []) := by
    intro fuel
    induction fuel with
    | zero => intro k hfu hk hn; exact absurd hfu (by omega)
    | succ fuel ih =>
      intro k hfu hk hn H locs ls hI hl
      refine lv_iload_n hx hb d_GB_firstWithFile_2 rfl (lv_at hl 2 rfl) ?_
      refine lv_aload_n hx hb d_GB_firstWithFile_3 rfl (lv_at hl 0 rfl) ?_
      refine g_get (own := "GroupBitmaps") (C := R_GB) (T := F_GB) (N := 5) (ci := 0) (v := .int (nI (sCnt σ))) hx hb hg ku_GB hown hK hI (0) (wd_GB) rfl 1 (by decide) kw_92 rfl d_GB_firstWithFile_4 ?_
      refine r_ge (a := k) (b := sCnt σ) (tgt := 36) hx hb d_GB_firstWithFile_7 (by decide) (by omega) (by omega) (fun h => ?_) (fun h => ?_)
      · obtain rfl : k = sCnt σ := by omega
        refine lv_null hx hb d_GB_firstWithFile_36 ?_
        exact g_ra hx hb hr hlk (Or.inl rfl) hI (by rw [hn]; rfl) d_GB_firstWithFile_37
      · refine lv_aload_n hx hb d_GB_firstWithFile_10 rfl (lv_at hl 0 rfl) ?_
        refine lv_aload_n hx hb d_GB_firstWithFile_11 rfl (lv_at hl 1 rfl) ?_
        refine lv_iload_n hx hb d_GB_firstWithFile_12 rfl (lv_at hl 2 rfl) ?_
        refine g_callV (own := "GroupBitmaps") (C := "GroupBitmaps") (T := F_GB) (N := 5) (k := 2) (q0 := 0) (ci := 0) (a := ad 0) (As := [.ref (ad (2 + g)), .int (nI k)]) (rest := []) (c_GB_groupBehind σ hσ g k hg4 (by omega)) hx hb hml hown hg hK hI hA kw_276 kw_278 kp_9 kw_1 kw_279 ky_GB_groupBehind ⟨Nat.le_of_ble_eq_true rfl, Nat.le_of_ble_eq_true rfl⟩ rfl rfl (wd_GB) rfl rfl hl.1 (Nat.le_of_ble_eq_true rfl) ⟨Nat.zero_le _, Nat.zero_le _⟩ d_GB_firstWithFile_13 rfl rfl (fun H locs hI => ?_)
        have hq0 := sNx_lt hσ g k
        have hr0 : 2 * (sNx σ g k) < 8 := by omega
        have hs0 : 2 * (sNx σ g k) + 1 < 8 := by omega
        have hfb := (hσ.2.2.2.1 _ hs0).2
        refine lv_astore_n (lv' := [(3, .ref (ad (2 + (sNx σ g k)))), (0, .ref (ad 0)), (1, .ref (ad (2 + g))), (2, .int (nI k))]) hx hb d_GB_firstWithFile_16 rfl hl (by decide) rfl (fun ls hl => ?_)
        refine lv_aload_n hx hb d_GB_firstWithFile_17 rfl (lv_at hl 0 rfl) ?_
        refine g_getN (own := "GroupBitmaps") (C := R_GR) (T := F_GR) (N := 6) (ci := 1) (v := .ref (ad (6 + (2 * (sNx σ g k) + 1)))) hx hb hg ku_GR hown hK hI (2 + (sNx σ g k)) (wd_GR hq0) rfl 4 (by decide) kw_63 rfl d_GB_firstWithFile_18 ?_
        refine g_getN (own := "GroupBitmaps") (C := R_BM) (T := F_BM) (N := 5) (ci := 2) (v := .int (nI (sFr σ (2 * (sNx σ g k) + 1)))) hx hb hg ku_BM hown hK hI (6 + (2 * (sNx σ g k) + 1)) (wd_BM hs0) rfl 3 (by decide) kw_40 rfl d_GB_firstWithFile_21 ?_
        refine lv_iconst (v := nI 1) hx hb d_GB_firstWithFile_24 (by decide) ?_
        refine r_lt (a := sFr σ (2 * (sNx σ g k) + 1)) (b := 1) (tgt := 30) hx hb d_GB_firstWithFile_25 (by decide) (by omega) (by omega) (fun h2 => ?_) (fun h2 => ?_)
        · refine lv_iinc (v := nI (k + 1)) (lv' := [(2, .int (nI (k + 1))), (3, .ref (ad (2 + (sNx σ g k)))), (0, .ref (ad 0)), (1, .ref (ad (2 + g)))]) hx hb d_GB_firstWithFile_30 hl (k := 3) rfl (nI_1 _) (by decide) rfl (fun ls hl => ?_)
          refine lv_goto (tgt := 2) hx hb d_GB_firstWithFile_33 (by decide) ?_
          exact ih (k + 1) (by omega) (by omega) (sFst_step hn (by simp [pFile]; omega)) _ _ _ hI (lv_sub hl [2, 3, 0] rfl)
        · refine lv_aload_n hx hb d_GB_firstWithFile_28 rfl (lv_at hl 0 rfl) ?_
          exact g_ra hx hb hr hlk (Or.inr ⟨_, rfl⟩) hI (by rw [sFst_some hn (by simp [pFile]; omega) h]; rfl) d_GB_firstWithFile_29
  exact loop (sCnt σ + 1) 0 (by omega) (Nat.zero_le _) rfl _ _ _ hI (lv_sub hl [1, 2, 0] rfl)
set_option maxHeartbeats 4000000 in
set_option maxRecDepth 100000 in
theorem c_GB_firstWithRoom {l : Launch} {D : va_G} {cG cZ cI cJ : ClassId} {ad : Nat → Nat} (σ : gS) (hσ : sB σ) (g : Nat) (hg4 : g < 4) : gMet l D (gT cG cZ cI cJ) y_GB_firstWithRoom b_GB_firstWithRoom 5 (some (.object "GroupBitmaps$Group")) ({ frames := 1, cells := 0, slots := 0, locals := 22 }) (wd ad cG cZ σ) [.ref (ad 0), .ref (ad (2 + g))] (wd ad cG cZ σ) (some (gR ad (sFst σ g (pRoom σ) (sCnt σ)))) := by
  refine gMet_of (by decide) (Nat.le_of_ble_eq_true rfl) ?_
  intro p e s m below meth c A ls hC hA hI hl
  obtain ⟨hx, hb, hr, hlk, hown, hml, hg, hK⟩ := hC
  have hown : s.vm.findClass "GroupBitmaps" = some m.cls := hown
  have hl : lv_has ls 5 [(0, .ref (ad 0)), (1, .ref (ad (2 + g)))] := hl
  have hc1 := hσ.1
  have hc2 := hσ.2.1
  have hff := sFF_le hσ (sCnt σ) hc2
  have hdv : sFF σ (sCnt σ) / sCnt σ ≤ sFF σ (sCnt σ) := Nat.div_le_self _ _
  refine lv_aload_n hx hb d_GB_firstWithRoom_0 rfl (lv_at hl 0 rfl) ?_
  refine g_callV (own := "GroupBitmaps") (C := "GroupBitmaps") (T := F_GB) (N := 5) (k := 0) (q0 := 0) (ci := 0) (a := ad 0) (As := []) (rest := []) (c_GB_freeFiles σ hσ) hx hb hml hown hg hK hI hA kw_336 kw_338 kp_16 kw_1 kw_339 ky_GB_freeFiles ⟨Nat.le_of_ble_eq_true rfl, Nat.le_of_ble_eq_true rfl⟩ rfl rfl (wd_GB) rfl rfl hl.1 (Nat.le_of_ble_eq_true rfl) ⟨Nat.zero_le _, Nat.zero_le _⟩ d_GB_firstWithRoom_1 rfl rfl (fun H locs hI => ?_)
  refine lv_aload_n hx hb d_GB_firstWithRoom_4 rfl (lv_at hl 0 rfl) ?_
  refine g_get (own := "GroupBitmaps") (C := R_GB) (T := F_GB) (N := 5) (ci := 0) (v := .int (nI (sCnt σ))) hx hb hg ku_GB hown hK hI (0) (wd_GB) rfl 1 (by decide) kw_92 rfl d_GB_firstWithRoom_5 ?_
  refine r_idiv (a := sFF σ (sCnt σ)) (b := sCnt σ) hx hb (by omega) (by omega) (by omega) d_GB_firstWithRoom_8 ?_
  refine lv_iconst (v := nI 2) hx hb d_GB_firstWithRoom_9 (by decide) ?_
  refine r_idiv (a := (sFF σ (sCnt σ)) / (sCnt σ)) (b := 2) hx hb (by omega) (by omega) (by omega) d_GB_firstWithRoom_10 ?_
  refine lv_istore_n (lv' := [(2, .int (nI (((sFF σ (sCnt σ)) / (sCnt σ)) / 2))), (0, .ref (ad 0)), (1, .ref (ad (2 + g)))]) hx hb d_GB_firstWithRoom_11 rfl hl (by decide) rfl (fun ls hl => ?_)
  refine lv_iconst (v := nI 0) hx hb d_GB_firstWithRoom_12 (by decide) ?_
  refine lv_istore_n (lv' := [(3, .int (nI 0)), (2, .int (nI (((sFF σ (sCnt σ)) / (sCnt σ)) / 2))), (0, .ref (ad 0)), (1, .ref (ad (2 + g)))]) hx hb d_GB_firstWithRoom_13 rfl hl (by decide) rfl (fun ls hl => ?_)
  have loop : ∀ (fuel : Nat) (k : Nat), sCnt σ + 1 ≤ fuel + k → (k ≤ sCnt σ) → (sFst σ g (pRoom σ) k = none) → ∀ (H : Heap) (locs : List Loc) (ls : Array Slot), gI D A s.heap (wd ad cG cZ σ) H locs → lv_has ls 5 [(0, .ref (ad 0)), (1, .ref (ad (2 + g))), (2, .int (nI (sFF σ (sCnt σ) / sCnt σ / 2))), (3, .int (nI k))] → W p l e ({ frames := 1, cells := 0, slots := 0, locals := 22 }) s m ([.ref (ad 0), .ref (ad (2 + g))] : List Value).toArray below meth c H locs 0 0 (gQ D below ([.ref (ad 0), .ref (ad (2 + g))] : List Value).toArray s A (wd ad cG cZ σ) (some (gR ad (sFst σ g (pRoom σ) (sCnt σ))))) (F0 m 14 ls []) := by
    intro fuel
    induction fuel with
    | zero => intro k hfu hk hn; exact absurd hfu (by omega)
    | succ fuel ih =>
      intro k hfu hk hn H locs ls hI hl
      refine lv_iload_n hx hb d_GB_firstWithRoom_14 rfl (lv_at hl 3 rfl) ?_
      refine lv_aload_n hx hb d_GB_firstWithRoom_15 rfl (lv_at hl 0 rfl) ?_
      refine g_get (own := "GroupBitmaps") (C := R_GB) (T := F_GB) (N := 5) (ci := 0) (v := .int (nI (sCnt σ))) hx hb hg ku_GB hown hK hI (0) (wd_GB) rfl 1 (by decide) kw_92 rfl d_GB_firstWithRoom_16 ?_
      refine r_ge (a := k) (b := sCnt σ) (tgt := 59) hx hb d_GB_firstWithRoom_19 (by decide) (by omega) (by omega) (fun h => ?_) (fun h => ?_)
      · obtain rfl : k = sCnt σ := by omega
        refine lv_null hx hb d_GB_firstWithRoom_59 ?_
        exact g_ra hx hb hr hlk (Or.inl rfl) hI (by rw [hn]; rfl) d_GB_firstWithRoom_60
      · refine lv_aload_n hx hb d_GB_firstWithRoom_22 rfl (lv_at hl 0 rfl) ?_
        refine lv_aload_n hx hb d_GB_firstWithRoom_23 rfl (lv_at hl 1 rfl) ?_
        refine lv_iload_n hx hb d_GB_firstWithRoom_24 rfl (lv_at hl 3 rfl) ?_
        refine g_callV (own := "GroupBitmaps") (C := "GroupBitmaps") (T := F_GB) (N := 5) (k := 2) (q0 := 0) (ci := 0) (a := ad 0) (As := [.ref (ad (2 + g)), .int (nI k)]) (rest := []) (c_GB_groupBehind σ hσ g k hg4 (by omega)) hx hb hml hown hg hK hI hA kw_276 kw_278 kp_9 kw_1 kw_279 ky_GB_groupBehind ⟨Nat.le_of_ble_eq_true rfl, Nat.le_of_ble_eq_true rfl⟩ rfl rfl (wd_GB) rfl rfl hl.1 (Nat.le_of_ble_eq_true rfl) ⟨Nat.zero_le _, Nat.zero_le _⟩ d_GB_firstWithRoom_25 rfl rfl (fun H locs hI => ?_)
        have hq0 := sNx_lt hσ g k
        have hr0 : 2 * (sNx σ g k) < 8 := by omega
        have hs0 : 2 * (sNx σ g k) + 1 < 8 := by omega
        have hfb := (hσ.2.2.2.1 _ hs0).2
        refine lv_astore (lv' := [(4, .ref (ad (2 + (sNx σ g k)))), (0, .ref (ad 0)), (1, .ref (ad (2 + g))), (2, .int (nI (sFF σ (sCnt σ) / sCnt σ / 2))), (3, .int (nI k))]) hx hb d_GB_firstWithRoom_28 hl (by decide) rfl (fun ls hl => ?_)
        refine lv_aload hx hb d_GB_firstWithRoom_30 (lv_at hl 0 rfl) ?_
        refine g_getN (own := "GroupBitmaps") (C := R_GR) (T := F_GR) (N := 6) (ci := 1) (v := .ref (ad (6 + (2 * (sNx σ g k) + 1)))) hx hb hg ku_GR hown hK hI (2 + (sNx σ g k)) (wd_GR hq0) rfl 4 (by decide) kw_63 rfl d_GB_firstWithRoom_32 ?_
        refine g_getN (own := "GroupBitmaps") (C := R_BM) (T := F_BM) (N := 5) (ci := 2) (v := .int (nI (sFr σ (2 * (sNx σ g k) + 1)))) hx hb hg ku_BM hown hK hI (6 + (2 * (sNx σ g k) + 1)) (wd_BM hs0) rfl 3 (by decide) kw_40 rfl d_GB_firstWithRoom_35 ?_
        refine lv_iload_n hx hb d_GB_firstWithRoom_38 rfl (lv_at hl 3 rfl) ?_
        refine r_lt (a := sFr σ (2 * (sNx σ g k) + 1)) (b := sFF σ (sCnt σ) / sCnt σ / 2) (tgt := 53) hx hb d_GB_firstWithRoom_39 (by decide) (by omega) (by omega) (fun h2 => ?_) (fun h2 => ?_)
        · refine lv_iinc (v := nI (k + 1)) (lv' := [(3, .int (nI (k + 1))), (4, .ref (ad (2 + (sNx σ g k)))), (0, .ref (ad 0)), (1, .ref (ad (2 + g))), (2, .int (nI (sFF σ (sCnt σ) / sCnt σ / 2)))]) hx hb d_GB_firstWithRoom_53 hl (k := 4) rfl (nI_1 _) (by decide) rfl (fun ls hl => ?_)
          refine lv_goto (tgt := 14) hx hb d_GB_firstWithRoom_56 (by decide) ?_
          exact ih (k + 1) (by omega) (by omega) (sFst_step hn (by unfold pRoom; rw [decide_eq_false (Nat.not_le.mpr h2), Bool.false_and])) _ _ _ hI (lv_sub hl [2, 3, 4, 0] rfl)
        · refine lv_aload hx hb d_GB_firstWithRoom_42 (lv_at hl 0 rfl) ?_
          refine g_callV (own := "GroupBitmaps") (C := "GroupBitmaps$Group") (T := F_GR) (N := 6) (k := 0) (q0 := 2 + (sNx σ g k)) (ci := 1) (a := ad (2 + (sNx σ g k))) (As := []) (rest := []) (c_GR_hasFileAndBlock σ (sNx σ g k) hq0 hσ) hx hb hml hown hg hK hI hA kw_344 kw_345 kw_346 kw_2 kw_347 ky_GR_hasFileAndBlock ⟨Nat.le_of_ble_eq_true rfl, Nat.le_of_ble_eq_true rfl⟩ rfl rfl (wd_GR hq0) rfl rfl hl.1 (Nat.le_of_ble_eq_true rfl) ⟨Nat.zero_le _, Nat.zero_le _⟩ d_GB_firstWithRoom_44 rfl rfl (fun H locs hI => ?_)
          refine r_bz (b := sHas σ (sNx σ g k)) (tgt := 53) hx hb d_GB_firstWithRoom_47 (by decide) (fun h3 => ?_) (fun h3 => ?_)
          · refine lv_iinc (v := nI (k + 1)) (lv' := [(3, .int (nI (k + 1))), (4, .ref (ad (2 + (sNx σ g k)))), (0, .ref (ad 0)), (1, .ref (ad (2 + g))), (2, .int (nI (sFF σ (sCnt σ) / sCnt σ / 2)))]) hx hb d_GB_firstWithRoom_53 hl (k := 4) rfl (nI_1 _) (by decide) rfl (fun ls hl => ?_)
            refine lv_goto (tgt := 14) hx hb d_GB_firstWithRoom_56 (by decide) ?_
            exact ih (k + 1) (by omega) (by omega) (sFst_step hn (by unfold pRoom; rw [h3, Bool.and_false])) _ _ _ hI (lv_sub hl [2, 3, 4, 0] rfl)
          · refine lv_aload hx hb d_GB_firstWithRoom_50 (lv_at hl 0 rfl) ?_
            exact g_ra hx hb hr hlk (Or.inr ⟨_, rfl⟩) hI (by rw [sFst_some hn (by unfold pRoom; rw [decide_eq_true h2, h3]; rfl) h]; rfl) d_GB_firstWithRoom_52
  exact loop (sCnt σ + 1) 0 (by omega) (Nat.zero_le _) rfl _ _ _ hI (lv_sub hl [2, 3, 1, 0] rfl)
set_option maxHeartbeats 4000000 in
set_option maxRecDepth 100000 in
theorem c_GB_leastFolders {l : Launch} {D : va_G} {cG cZ cI cJ : ClassId} {ad : Nat → Nat} (σ : gS) (hσ : sB σ) (g : Nat) (hg4 : g < 4) : gMet l D (gT cG cZ cI cJ) y_GB_leastFolders b_GB_leastFolders 8 (some (.object "GroupBitmaps$Group")) ({ frames := 1, cells := 0, slots := 0, locals := 22 }) (wd ad cG cZ σ) [.ref (ad 0), .ref (ad (2 + g))] (wd ad cG cZ σ) (some (gR ad (sLeast σ g (sCnt σ)))) := by
  refine gMet_of (by decide) (Nat.le_of_ble_eq_true rfl) ?_
  intro p e s m below meth c A ls hC hA hI hl
  obtain ⟨hx, hb, hr, hlk, hown, hml, hg, hK⟩ := hC
  have hown : s.vm.findClass "GroupBitmaps" = some m.cls := hown
  have hl : lv_has ls 8 [(0, .ref (ad 0)), (1, .ref (ad (2 + g)))] := hl
  have hc1 := hσ.1
  have hc2 := hσ.2.1
  have hff := sFF_le hσ (sCnt σ) hc2
  have hfb0 := sFB_le hσ (sCnt σ) hc2
  have hdv : sFF σ (sCnt σ) / sCnt σ ≤ sFF σ (sCnt σ) := Nat.div_le_self _ _
  have hdv2 : sFB σ (sCnt σ) / sCnt σ ≤ sFB σ (sCnt σ) := Nat.div_le_self _ _
  have hmx : Nat.max 1 (sFF σ (sCnt σ) / sCnt σ) ≤ 1025 := Nat.max_le.mpr ⟨by omega, by omega⟩
  refine lv_iconst (v := nI 1) hx hb d_GB_leastFolders_0 (by decide) ?_
  refine lv_aload_n hx hb d_GB_leastFolders_1 rfl (lv_at hl 0 rfl) ?_
  refine g_callV (own := "GroupBitmaps") (C := "GroupBitmaps") (T := F_GB) (N := 5) (k := 0) (q0 := 0) (ci := 0) (a := ad 0) (As := []) (rest := [.int (nI 1)]) (c_GB_freeFiles σ hσ) hx hb hml hown hg hK hI hA kw_336 kw_338 kp_16 kw_1 kw_339 ky_GB_freeFiles ⟨Nat.le_of_ble_eq_true rfl, Nat.le_of_ble_eq_true rfl⟩ rfl rfl (wd_GB) rfl rfl hl.1 (Nat.le_of_ble_eq_true rfl) ⟨Nat.zero_le _, Nat.zero_le _⟩ d_GB_leastFolders_2 rfl rfl (fun H locs hI => ?_)
  refine lv_aload_n hx hb d_GB_leastFolders_5 rfl (lv_at hl 0 rfl) ?_
  refine g_get (own := "GroupBitmaps") (C := R_GB) (T := F_GB) (N := 5) (ci := 0) (v := .int (nI (sCnt σ))) hx hb hg ku_GB hown hK hI (0) (wd_GB) rfl 1 (by decide) kw_92 rfl d_GB_leastFolders_6 ?_
  refine r_idiv (a := sFF σ (sCnt σ)) (b := sCnt σ) hx hb (by omega) (by omega) (by omega) d_GB_leastFolders_9 ?_
  refine r_max (a := 1) (b := (sFF σ (sCnt σ)) / (sCnt σ)) (own := "GroupBitmaps") hx hb hml hl.1 hown hg kw_212 kw_213 kw_9 kw_214 (Nat.le_of_ble_eq_true rfl) (Nat.le_of_ble_eq_true rfl) (Nat.zero_le _) (Nat.zero_le _) (by omega) (by omega) d_GB_leastFolders_10 ?_
  refine lv_istore_n (lv' := [(2, .int (nI (Nat.max 1 ((sFF σ (sCnt σ)) / (sCnt σ))))), (0, .ref (ad 0)), (1, .ref (ad (2 + g)))]) hx hb d_GB_leastFolders_13 rfl hl (by decide) rfl (fun ls hl => ?_)
  refine lv_aload_n hx hb d_GB_leastFolders_14 rfl (lv_at hl 1 rfl) ?_
  refine g_callV (own := "GroupBitmaps") (C := "GroupBitmaps") (T := F_GB) (N := 5) (k := 0) (q0 := 0) (ci := 0) (a := ad 0) (As := []) (rest := []) (c_GB_freeBlocks σ hσ) hx hb hml hown hg hK hI hA kw_196 kw_198 kp_2 kw_1 kw_199 ky_GB_freeBlocks ⟨Nat.le_of_ble_eq_true rfl, Nat.le_of_ble_eq_true rfl⟩ rfl rfl (wd_GB) rfl rfl hl.1 (Nat.le_of_ble_eq_true rfl) ⟨Nat.zero_le _, Nat.zero_le _⟩ d_GB_leastFolders_15 rfl rfl (fun H locs hI => ?_)
  refine lv_aload_n hx hb d_GB_leastFolders_18 rfl (lv_at hl 1 rfl) ?_
  refine g_get (own := "GroupBitmaps") (C := R_GB) (T := F_GB) (N := 5) (ci := 0) (v := .int (nI (sCnt σ))) hx hb hg ku_GB hown hK hI (0) (wd_GB) rfl 1 (by decide) kw_92 rfl d_GB_leastFolders_19 ?_
  refine r_idiv (a := sFB σ (sCnt σ)) (b := sCnt σ) hx hb (by omega) (by omega) (by omega) d_GB_leastFolders_22 ?_
  refine lv_istore_n (lv' := [(3, .int (nI ((sFB σ (sCnt σ)) / (sCnt σ)))), (2, .int (nI (Nat.max 1 ((sFF σ (sCnt σ)) / (sCnt σ))))), (0, .ref (ad 0)), (1, .ref (ad (2 + g)))]) hx hb d_GB_leastFolders_23 rfl hl (by decide) rfl (fun ls hl => ?_)
  refine lv_null hx hb d_GB_leastFolders_24 ?_
  refine lv_astoreN (lv' := [(4, .null), (3, .int (nI ((sFB σ (sCnt σ)) / (sCnt σ)))), (2, .int (nI (Nat.max 1 ((sFF σ (sCnt σ)) / (sCnt σ))))), (0, .ref (ad 0)), (1, .ref (ad (2 + g)))]) hx hb d_GB_leastFolders_25 hl (by decide) rfl (fun ls hl => ?_)
  refine lv_iconst (v := nI 0) hx hb d_GB_leastFolders_27 (by decide) ?_
  refine lv_istore (lv' := [(5, .int (nI 0)), (4, .null), (3, .int (nI ((sFB σ (sCnt σ)) / (sCnt σ)))), (2, .int (nI (Nat.max 1 ((sFF σ (sCnt σ)) / (sCnt σ))))), (0, .ref (ad 0)), (1, .ref (ad (2 + g)))]) hx hb d_GB_leastFolders_28 hl (by decide) rfl (fun ls hl => ?_)
  have loop : ∀ (fuel : Nat) (k : Nat) (o : Option Nat), sCnt σ + 1 ≤ fuel + k → (k ≤ sCnt σ) → (o = sLeast σ g k) → ∀ (H : Heap) (locs : List Loc) (ls : Array Slot), gI D A s.heap (wd ad cG cZ σ) H locs → lv_has ls 8 [(0, .ref (ad 0)), (1, .ref (ad (2 + g))), (2, .int (nI (Nat.max 1 (sFF σ (sCnt σ) / sCnt σ)))), (3, .int (nI (sFB σ (sCnt σ) / sCnt σ))), (4, gR ad o), (5, .int (nI k))] → W p l e ({ frames := 1, cells := 0, slots := 0, locals := 22 }) s m ([.ref (ad 0), .ref (ad (2 + g))] : List Value).toArray below meth c H locs 0 0 (gQ D below ([.ref (ad 0), .ref (ad (2 + g))] : List Value).toArray s A (wd ad cG cZ σ) (some (gR ad (sLeast σ g (sCnt σ))))) (F0 m 30 ls []) := by
    intro fuel
    induction fuel with
    | zero => intro k o hfu hk ho; exact absurd hfu (by omega)
    | succ fuel ih =>
      intro k o hfu hk ho H locs ls hI hl
      refine lv_iload hx hb d_GB_leastFolders_30 (lv_at hl 5 rfl) ?_
      refine lv_aload_n hx hb d_GB_leastFolders_32 rfl (lv_at hl 0 rfl) ?_
      refine g_get (own := "GroupBitmaps") (C := R_GB) (T := F_GB) (N := 5) (ci := 0) (v := .int (nI (sCnt σ))) hx hb hg ku_GB hown hK hI (0) (wd_GB) rfl 1 (by decide) kw_92 rfl d_GB_leastFolders_33 ?_
      refine r_ge (a := k) (b := sCnt σ) (tgt := 112) hx hb d_GB_leastFolders_36 (by decide) (by omega) (by omega) (fun h => ?_) (fun h => ?_)
      · obtain rfl : k = sCnt σ := by omega
        rcases o with _ | y
        · have hl : lv_has ls 8 [(0, .ref (ad 0)), (1, .ref (ad (2 + g))), (2, .int (nI (Nat.max 1 (sFF σ (sCnt σ) / sCnt σ)))), (3, .int (nI (sFB σ (sCnt σ) / sCnt σ))), (4, .null), (5, .int (nI ((sCnt σ))))] := hl
          refine lv_aloadN hx hb d_GB_leastFolders_112 (lv_at hl 4 rfl) ?_
          exact g_ra hx hb hr hlk (Or.inl rfl) hI (by rw [← ho]; rfl) d_GB_leastFolders_114
        · have hl : lv_has ls 8 [(0, .ref (ad 0)), (1, .ref (ad (2 + g))), (2, .int (nI (Nat.max 1 (sFF σ (sCnt σ) / sCnt σ)))), (3, .int (nI (sFB σ (sCnt σ) / sCnt σ))), (4, .ref (ad (2 + y))), (5, .int (nI ((sCnt σ))))] := hl
          refine lv_aload hx hb d_GB_leastFolders_112 (lv_at hl 4 rfl) ?_
          exact g_ra hx hb hr hlk (Or.inr ⟨_, rfl⟩) hI (by rw [← ho]; rfl) d_GB_leastFolders_114
      · rcases o with _ | y
        · have hl : lv_has ls 8 [(0, .ref (ad 0)), (1, .ref (ad (2 + g))), (2, .int (nI (Nat.max 1 (sFF σ (sCnt σ) / sCnt σ)))), (3, .int (nI (sFB σ (sCnt σ) / sCnt σ))), (4, .null), (5, .int (nI k))] := hl
          refine lv_aload_n hx hb d_GB_leastFolders_39 rfl (lv_at hl 0 rfl) ?_
          refine lv_aload_n hx hb d_GB_leastFolders_40 rfl (lv_at hl 1 rfl) ?_
          refine lv_iload hx hb d_GB_leastFolders_41 (lv_at hl 5 rfl) ?_
          refine g_callV (own := "GroupBitmaps") (C := "GroupBitmaps") (T := F_GB) (N := 5) (k := 2) (q0 := 0) (ci := 0) (a := ad 0) (As := [.ref (ad (2 + g)), .int (nI k)]) (rest := []) (c_GB_groupBehind σ hσ g k hg4 (by omega)) hx hb hml hown hg hK hI hA kw_276 kw_278 kp_9 kw_1 kw_279 ky_GB_groupBehind ⟨Nat.le_of_ble_eq_true rfl, Nat.le_of_ble_eq_true rfl⟩ rfl rfl (wd_GB) rfl rfl hl.1 (Nat.le_of_ble_eq_true rfl) ⟨Nat.zero_le _, Nat.zero_le _⟩ d_GB_leastFolders_43 rfl rfl (fun H locs hI => ?_)
          have hq0 := sNx_lt hσ g k
          have hr0 : 2 * (sNx σ g k) < 8 := by omega
          have hs0 : 2 * (sNx σ g k) + 1 < 8 := by omega
          have hfb := (hσ.2.2.2.1 _ hs0).2
          have hfb2 := (hσ.2.2.2.1 _ hr0).2
          have hfdx := hσ.2.2.2.2 _ hq0
          have es : sLeast σ g (k + 1) = sLeastN σ none (sNx σ g k) := by rw [ho]; rfl
          refine lv_astore (lv' := [(6, .ref (ad (2 + (sNx σ g k)))), (0, .ref (ad 0)), (1, .ref (ad (2 + g))), (2, .int (nI (Nat.max 1 (sFF σ (sCnt σ) / sCnt σ)))), (3, .int (nI (sFB σ (sCnt σ) / sCnt σ))), (4, .null), (5, .int (nI k))]) hx hb d_GB_leastFolders_46 hl (by decide) rfl (fun ls hl => ?_)
          refine lv_aload hx hb d_GB_leastFolders_48 (lv_at hl 0 rfl) ?_
          refine g_getN (own := "GroupBitmaps") (C := R_GR) (T := F_GR) (N := 6) (ci := 1) (v := .ref (ad (6 + (2 * (sNx σ g k) + 1)))) hx hb hg ku_GR hown hK hI (2 + (sNx σ g k)) (wd_GR hq0) rfl 4 (by decide) kw_63 rfl d_GB_leastFolders_50 ?_
          refine g_getN (own := "GroupBitmaps") (C := R_BM) (T := F_BM) (N := 5) (ci := 2) (v := .int (nI (sFr σ (2 * (sNx σ g k) + 1)))) hx hb hg ku_BM hown hK hI (6 + (2 * (sNx σ g k) + 1)) (wd_BM hs0) rfl 3 (by decide) kw_40 rfl d_GB_leastFolders_53 ?_
          refine lv_iload_n hx hb d_GB_leastFolders_56 rfl (lv_at hl 3 rfl) ?_
          refine r_lt (a := sFr σ (2 * (sNx σ g k) + 1)) (b := Nat.max 1 (sFF σ (sCnt σ) / sCnt σ)) (tgt := 76) hx hb d_GB_leastFolders_57 (by decide) (by omega) (by omega) (fun h2 => ?_) (fun h2 => ?_)
          · have hp : pLeast σ (sNx σ g k) = false := by unfold pLeast; rw [decide_eq_false (Nat.not_le.mpr h2), Bool.false_and]
            refine lv_iconst (v := bI false) hx hb d_GB_leastFolders_76 (by decide) ?_
            refine lv_istore (lv' := [(7, .int (bI false)), (6, .ref (ad (2 + (sNx σ g k)))), (0, .ref (ad 0)), (1, .ref (ad (2 + g))), (2, .int (nI (Nat.max 1 (sFF σ (sCnt σ) / sCnt σ)))), (3, .int (nI (sFB σ (sCnt σ) / sCnt σ))), (4, .null), (5, .int (nI k))]) hx hb d_GB_leastFolders_77 hl (by decide) rfl (fun ls hl => ?_)
            refine lv_iload hx hb d_GB_leastFolders_79 (lv_at hl 0 rfl) ?_
            refine r_bz (b := false) (tgt := 106) hx hb d_GB_leastFolders_81 (by decide) (fun h9 => ?_) (fun h9 => ?_)
            · refine lv_iinc (v := nI (k + 1)) (lv' := [(5, .int (nI (k + 1))), (7, .int (bI false)), (6, .ref (ad (2 + (sNx σ g k)))), (0, .ref (ad 0)), (1, .ref (ad (2 + g))), (2, .int (nI (Nat.max 1 (sFF σ (sCnt σ) / sCnt σ)))), (3, .int (nI (sFB σ (sCnt σ) / sCnt σ))), (4, .null)]) hx hb d_GB_leastFolders_106 hl (k := 7) rfl (nI_1 _) (by decide) rfl (fun ls hl => ?_)
              refine lv_goto (tgt := 30) hx hb d_GB_leastFolders_109 (by decide) ?_
              exact ih (k + 1) none (by omega) (by omega) (by rw [es, sLeastN, hp]; rfl) _ _ _ hI (lv_sub hl [3, 4, 5, 6, 7, 0] rfl)
            · exact absurd h9 (by decide)
          · refine lv_aload hx hb d_GB_leastFolders_60 (lv_at hl 0 rfl) ?_
            refine g_getN (own := "GroupBitmaps") (C := R_GR) (T := F_GR) (N := 6) (ci := 1) (v := .ref (ad (6 + (2 * (sNx σ g k))))) hx hb hg ku_GR hown hK hI (2 + (sNx σ g k)) (wd_GR hq0) rfl 3 (by decide) kw_61 rfl d_GB_leastFolders_62 ?_
            refine g_getN (own := "GroupBitmaps") (C := R_BM) (T := F_BM) (N := 5) (ci := 2) (v := .int (nI (sFr σ (2 * (sNx σ g k))))) hx hb hg ku_BM hown hK hI (6 + (2 * (sNx σ g k))) (wd_BM hr0) rfl 3 (by decide) kw_40 rfl d_GB_leastFolders_65 ?_
            refine lv_iload_n hx hb d_GB_leastFolders_68 rfl (lv_at hl 4 rfl) ?_
            refine r_lt (a := sFr σ (2 * (sNx σ g k))) (b := sFB σ (sCnt σ) / sCnt σ) (tgt := 76) hx hb d_GB_leastFolders_69 (by decide) (by omega) (by omega) (fun h3 => ?_) (fun h3 => ?_)
            · have hp : pLeast σ (sNx σ g k) = false := by unfold pLeast; rw [decide_eq_false (Nat.not_le.mpr h3), Bool.and_false]
              refine lv_iconst (v := bI false) hx hb d_GB_leastFolders_76 (by decide) ?_
              refine lv_istore (lv' := [(7, .int (bI false)), (6, .ref (ad (2 + (sNx σ g k)))), (0, .ref (ad 0)), (1, .ref (ad (2 + g))), (2, .int (nI (Nat.max 1 (sFF σ (sCnt σ) / sCnt σ)))), (3, .int (nI (sFB σ (sCnt σ) / sCnt σ))), (4, .null), (5, .int (nI k))]) hx hb d_GB_leastFolders_77 hl (by decide) rfl (fun ls hl => ?_)
              refine lv_iload hx hb d_GB_leastFolders_79 (lv_at hl 0 rfl) ?_
              refine r_bz (b := false) (tgt := 106) hx hb d_GB_leastFolders_81 (by decide) (fun h9 => ?_) (fun h9 => ?_)
              · refine lv_iinc (v := nI (k + 1)) (lv' := [(5, .int (nI (k + 1))), (7, .int (bI false)), (6, .ref (ad (2 + (sNx σ g k)))), (0, .ref (ad 0)), (1, .ref (ad (2 + g))), (2, .int (nI (Nat.max 1 (sFF σ (sCnt σ) / sCnt σ)))), (3, .int (nI (sFB σ (sCnt σ) / sCnt σ))), (4, .null)]) hx hb d_GB_leastFolders_106 hl (k := 7) rfl (nI_1 _) (by decide) rfl (fun ls hl => ?_)
                refine lv_goto (tgt := 30) hx hb d_GB_leastFolders_109 (by decide) ?_
                exact ih (k + 1) none (by omega) (by omega) (by rw [es, sLeastN, hp]; rfl) _ _ _ hI (lv_sub hl [3, 4, 5, 6, 7, 0] rfl)
              · exact absurd h9 (by decide)
            · have hp : pLeast σ (sNx σ g k) = true := by unfold pLeast; rw [decide_eq_true h2, decide_eq_true h3]; rfl
              refine lv_iconst (v := bI true) hx hb d_GB_leastFolders_72 (by decide) ?_
              refine lv_goto (tgt := 77) hx hb d_GB_leastFolders_73 (by decide) ?_
              refine lv_istore (lv' := [(7, .int (bI true)), (6, .ref (ad (2 + (sNx σ g k)))), (0, .ref (ad 0)), (1, .ref (ad (2 + g))), (2, .int (nI (Nat.max 1 (sFF σ (sCnt σ) / sCnt σ)))), (3, .int (nI (sFB σ (sCnt σ) / sCnt σ))), (4, .null), (5, .int (nI k))]) hx hb d_GB_leastFolders_77 hl (by decide) rfl (fun ls hl => ?_)
              refine lv_iload hx hb d_GB_leastFolders_79 (lv_at hl 0 rfl) ?_
              refine r_bz (b := true) (tgt := 106) hx hb d_GB_leastFolders_81 (by decide) (fun h9 => ?_) (fun h9 => ?_)
              · exact absurd h9 (by decide)
              · refine lv_aloadN hx hb d_GB_leastFolders_84 (lv_at hl 6 rfl) ?_
                refine lv_ifnullN (tgt := 102) hx hb d_GB_leastFolders_86 (by decide) ?_
                refine lv_aload hx hb d_GB_leastFolders_102 (lv_at hl 1 rfl) ?_
                refine lv_astore (lv' := [(4, .ref (ad (2 + (sNx σ g k)))), (7, .int (bI true)), (6, .ref (ad (2 + (sNx σ g k)))), (0, .ref (ad 0)), (1, .ref (ad (2 + g))), (2, .int (nI (Nat.max 1 (sFF σ (sCnt σ) / sCnt σ)))), (3, .int (nI (sFB σ (sCnt σ) / sCnt σ))), (5, .int (nI k))]) hx hb d_GB_leastFolders_104 hl (by decide) rfl (fun ls hl => ?_)
                refine lv_iinc (v := nI (k + 1)) (lv' := [(5, .int (nI (k + 1))), (4, .ref (ad (2 + (sNx σ g k)))), (7, .int (bI true)), (6, .ref (ad (2 + (sNx σ g k)))), (0, .ref (ad 0)), (1, .ref (ad (2 + g))), (2, .int (nI (Nat.max 1 (sFF σ (sCnt σ) / sCnt σ)))), (3, .int (nI (sFB σ (sCnt σ) / sCnt σ)))]) hx hb d_GB_leastFolders_106 hl (k := 7) rfl (nI_1 _) (by decide) rfl (fun ls hl => ?_)
                refine lv_goto (tgt := 30) hx hb d_GB_leastFolders_109 (by decide) ?_
                exact ih (k + 1) (some (sNx σ g k)) (by omega) (by omega) (by rw [es, sLeastN, hp]; rfl) _ _ _ hI (lv_sub hl [4, 5, 6, 7, 1, 0] rfl)
        · have hl : lv_has ls 8 [(0, .ref (ad 0)), (1, .ref (ad (2 + g))), (2, .int (nI (Nat.max 1 (sFF σ (sCnt σ) / sCnt σ)))), (3, .int (nI (sFB σ (sCnt σ) / sCnt σ))), (4, .ref (ad (2 + y))), (5, .int (nI k))] := hl
          refine lv_aload_n hx hb d_GB_leastFolders_39 rfl (lv_at hl 0 rfl) ?_
          refine lv_aload_n hx hb d_GB_leastFolders_40 rfl (lv_at hl 1 rfl) ?_
          refine lv_iload hx hb d_GB_leastFolders_41 (lv_at hl 5 rfl) ?_
          refine g_callV (own := "GroupBitmaps") (C := "GroupBitmaps") (T := F_GB) (N := 5) (k := 2) (q0 := 0) (ci := 0) (a := ad 0) (As := [.ref (ad (2 + g)), .int (nI k)]) (rest := []) (c_GB_groupBehind σ hσ g k hg4 (by omega)) hx hb hml hown hg hK hI hA kw_276 kw_278 kp_9 kw_1 kw_279 ky_GB_groupBehind ⟨Nat.le_of_ble_eq_true rfl, Nat.le_of_ble_eq_true rfl⟩ rfl rfl (wd_GB) rfl rfl hl.1 (Nat.le_of_ble_eq_true rfl) ⟨Nat.zero_le _, Nat.zero_le _⟩ d_GB_leastFolders_43 rfl rfl (fun H locs hI => ?_)
          have hq1 := sNx_lt hσ g k
          have hr1 : 2 * (sNx σ g k) < 8 := by omega
          have hs1 : 2 * (sNx σ g k) + 1 < 8 := by omega
          have hfb := (hσ.2.2.2.1 _ hs1).2
          have hfb2 := (hσ.2.2.2.1 _ hr1).2
          have hfdx := hσ.2.2.2.2 _ hq1
          have es : sLeast σ g (k + 1) = sLeastN σ (some y) (sNx σ g k) := by rw [ho]; rfl
          refine lv_astore (lv' := [(6, .ref (ad (2 + (sNx σ g k)))), (0, .ref (ad 0)), (1, .ref (ad (2 + g))), (2, .int (nI (Nat.max 1 (sFF σ (sCnt σ) / sCnt σ)))), (3, .int (nI (sFB σ (sCnt σ) / sCnt σ))), (4, .ref (ad (2 + y))), (5, .int (nI k))]) hx hb d_GB_leastFolders_46 hl (by decide) rfl (fun ls hl => ?_)
          refine lv_aload hx hb d_GB_leastFolders_48 (lv_at hl 0 rfl) ?_
          refine g_getN (own := "GroupBitmaps") (C := R_GR) (T := F_GR) (N := 6) (ci := 1) (v := .ref (ad (6 + (2 * (sNx σ g k) + 1)))) hx hb hg ku_GR hown hK hI (2 + (sNx σ g k)) (wd_GR hq1) rfl 4 (by decide) kw_63 rfl d_GB_leastFolders_50 ?_
          refine g_getN (own := "GroupBitmaps") (C := R_BM) (T := F_BM) (N := 5) (ci := 2) (v := .int (nI (sFr σ (2 * (sNx σ g k) + 1)))) hx hb hg ku_BM hown hK hI (6 + (2 * (sNx σ g k) + 1)) (wd_BM hs1) rfl 3 (by decide) kw_40 rfl d_GB_leastFolders_53 ?_
          refine lv_iload_n hx hb d_GB_leastFolders_56 rfl (lv_at hl 3 rfl) ?_
          refine r_lt (a := sFr σ (2 * (sNx σ g k) + 1)) (b := Nat.max 1 (sFF σ (sCnt σ) / sCnt σ)) (tgt := 76) hx hb d_GB_leastFolders_57 (by decide) (by omega) (by omega) (fun h2 => ?_) (fun h2 => ?_)
          · have hp : pLeast σ (sNx σ g k) = false := by unfold pLeast; rw [decide_eq_false (Nat.not_le.mpr h2), Bool.false_and]
            refine lv_iconst (v := bI false) hx hb d_GB_leastFolders_76 (by decide) ?_
            refine lv_istore (lv' := [(7, .int (bI false)), (6, .ref (ad (2 + (sNx σ g k)))), (0, .ref (ad 0)), (1, .ref (ad (2 + g))), (2, .int (nI (Nat.max 1 (sFF σ (sCnt σ) / sCnt σ)))), (3, .int (nI (sFB σ (sCnt σ) / sCnt σ))), (4, .ref (ad (2 + y))), (5, .int (nI k))]) hx hb d_GB_leastFolders_77 hl (by decide) rfl (fun ls hl => ?_)
            refine lv_iload hx hb d_GB_leastFolders_79 (lv_at hl 0 rfl) ?_
            refine r_bz (b := false) (tgt := 106) hx hb d_GB_leastFolders_81 (by decide) (fun h9 => ?_) (fun h9 => ?_)
            · refine lv_iinc (v := nI (k + 1)) (lv' := [(5, .int (nI (k + 1))), (7, .int (bI false)), (6, .ref (ad (2 + (sNx σ g k)))), (0, .ref (ad 0)), (1, .ref (ad (2 + g))), (2, .int (nI (Nat.max 1 (sFF σ (sCnt σ) / sCnt σ)))), (3, .int (nI (sFB σ (sCnt σ) / sCnt σ))), (4, .ref (ad (2 + y)))]) hx hb d_GB_leastFolders_106 hl (k := 7) rfl (nI_1 _) (by decide) rfl (fun ls hl => ?_)
              refine lv_goto (tgt := 30) hx hb d_GB_leastFolders_109 (by decide) ?_
              exact ih (k + 1) (some y) (by omega) (by omega) (by rw [es, sLeastN, hp]; rfl) _ _ _ hI (lv_sub hl [3, 4, 5, 6, 7, 0] rfl)
            · exact absurd h9 (by decide)
          · refine lv_aload hx hb d_GB_leastFolders_60 (lv_at hl 0 rfl) ?_
            refine g_getN (own := "GroupBitmaps") (C := R_GR) (T := F_GR) (N := 6) (ci := 1) (v := .ref (ad (6 + (2 * (sNx σ g k))))) hx hb hg ku_GR hown hK hI (2 + (sNx σ g k)) (wd_GR hq1) rfl 3 (by decide) kw_61 rfl d_GB_leastFolders_62 ?_
            refine g_getN (own := "GroupBitmaps") (C := R_BM) (T := F_BM) (N := 5) (ci := 2) (v := .int (nI (sFr σ (2 * (sNx σ g k))))) hx hb hg ku_BM hown hK hI (6 + (2 * (sNx σ g k))) (wd_BM hr1) rfl 3 (by decide) kw_40 rfl d_GB_leastFolders_65 ?_
            refine lv_iload_n hx hb d_GB_leastFolders_68 rfl (lv_at hl 4 rfl) ?_
            refine r_lt (a := sFr σ (2 * (sNx σ g k))) (b := sFB σ (sCnt σ) / sCnt σ) (tgt := 76) hx hb d_GB_leastFolders_69 (by decide) (by omega) (by omega) (fun h3 => ?_) (fun h3 => ?_)
            · have hp : pLeast σ (sNx σ g k) = false := by unfold pLeast; rw [decide_eq_false (Nat.not_le.mpr h3), Bool.and_false]
              refine lv_iconst (v := bI false) hx hb d_GB_leastFolders_76 (by decide) ?_
              refine lv_istore (lv' := [(7, .int (bI false)), (6, .ref (ad (2 + (sNx σ g k)))), (0, .ref (ad 0)), (1, .ref (ad (2 + g))), (2, .int (nI (Nat.max 1 (sFF σ (sCnt σ) / sCnt σ)))), (3, .int (nI (sFB σ (sCnt σ) / sCnt σ))), (4, .ref (ad (2 + y))), (5, .int (nI k))]) hx hb d_GB_leastFolders_77 hl (by decide) rfl (fun ls hl => ?_)
              refine lv_iload hx hb d_GB_leastFolders_79 (lv_at hl 0 rfl) ?_
              refine r_bz (b := false) (tgt := 106) hx hb d_GB_leastFolders_81 (by decide) (fun h9 => ?_) (fun h9 => ?_)
              · refine lv_iinc (v := nI (k + 1)) (lv' := [(5, .int (nI (k + 1))), (7, .int (bI false)), (6, .ref (ad (2 + (sNx σ g k)))), (0, .ref (ad 0)), (1, .ref (ad (2 + g))), (2, .int (nI (Nat.max 1 (sFF σ (sCnt σ) / sCnt σ)))), (3, .int (nI (sFB σ (sCnt σ) / sCnt σ))), (4, .ref (ad (2 + y)))]) hx hb d_GB_leastFolders_106 hl (k := 7) rfl (nI_1 _) (by decide) rfl (fun ls hl => ?_)
                refine lv_goto (tgt := 30) hx hb d_GB_leastFolders_109 (by decide) ?_
                exact ih (k + 1) (some y) (by omega) (by omega) (by rw [es, sLeastN, hp]; rfl) _ _ _ hI (lv_sub hl [3, 4, 5, 6, 7, 0] rfl)
              · exact absurd h9 (by decide)
            · have hp : pLeast σ (sNx σ g k) = true := by unfold pLeast; rw [decide_eq_true h2, decide_eq_true h3]; rfl
              refine lv_iconst (v := bI true) hx hb d_GB_leastFolders_72 (by decide) ?_
              refine lv_goto (tgt := 77) hx hb d_GB_leastFolders_73 (by decide) ?_
              refine lv_istore (lv' := [(7, .int (bI true)), (6, .ref (ad (2 + (sNx σ g k)))), (0, .ref (ad 0)), (1, .ref (ad (2 + g))), (2, .int (nI (Nat.max 1 (sFF σ (sCnt σ) / sCnt σ)))), (3, .int (nI (sFB σ (sCnt σ) / sCnt σ))), (4, .ref (ad (2 + y))), (5, .int (nI k))]) hx hb d_GB_leastFolders_77 hl (by decide) rfl (fun ls hl => ?_)
              refine lv_iload hx hb d_GB_leastFolders_79 (lv_at hl 0 rfl) ?_
              refine r_bz (b := true) (tgt := 106) hx hb d_GB_leastFolders_81 (by decide) (fun h9 => ?_) (fun h9 => ?_)
              · exact absurd h9 (by decide)
              · have hy4 := sLeast_lt hσ ho.symm
                have hq2 := hy4
                have hr2 : 2 * y < 8 := by omega
                have hs2 : 2 * y + 1 < 8 := by omega
                have hfdy := hσ.2.2.2.2 _ hy4
                refine lv_aload hx hb d_GB_leastFolders_84 (lv_at hl 6 rfl) ?_
                refine lv_ifnull hx hb d_GB_leastFolders_86 ?_
                refine lv_aload hx hb d_GB_leastFolders_89 (lv_at hl 1 rfl) ?_
                refine g_getN (own := "GroupBitmaps") (C := R_GR) (T := F_GR) (N := 6) (ci := 1) (v := .int (nI (sFd σ (sNx σ g k)))) hx hb hg ku_GR hown hK hI (2 + (sNx σ g k)) (wd_GR hq1) rfl 5 (by decide) kw_65 rfl d_GB_leastFolders_91 ?_
                refine lv_aload hx hb d_GB_leastFolders_94 (lv_at hl 6 rfl) ?_
                refine g_getN (own := "GroupBitmaps") (C := R_GR) (T := F_GR) (N := 6) (ci := 1) (v := .int (nI (sFd σ y))) hx hb hg ku_GR hown hK hI (2 + y) (wd_GR hq2) rfl 5 (by decide) kw_65 rfl d_GB_leastFolders_96 ?_
                refine r_ge (a := sFd σ (sNx σ g k)) (b := sFd σ y) (tgt := 106) hx hb d_GB_leastFolders_99 (by decide) (by omega) (by omega) (fun h4 => ?_) (fun h4 => ?_)
                · refine lv_iinc (v := nI (k + 1)) (lv' := [(5, .int (nI (k + 1))), (7, .int (bI true)), (6, .ref (ad (2 + (sNx σ g k)))), (0, .ref (ad 0)), (1, .ref (ad (2 + g))), (2, .int (nI (Nat.max 1 (sFF σ (sCnt σ) / sCnt σ)))), (3, .int (nI (sFB σ (sCnt σ) / sCnt σ))), (4, .ref (ad (2 + y)))]) hx hb d_GB_leastFolders_106 hl (k := 7) rfl (nI_1 _) (by decide) rfl (fun ls hl => ?_)
                  refine lv_goto (tgt := 30) hx hb d_GB_leastFolders_109 (by decide) ?_
                  exact ih (k + 1) (some y) (by omega) (by omega) (by rw [es, sLeastN, if_pos hp]; exact (if_neg (Nat.not_lt.mpr h4)).symm) _ _ _ hI (lv_sub hl [3, 4, 5, 6, 7, 0] rfl)
                · refine lv_aload hx hb d_GB_leastFolders_102 (lv_at hl 1 rfl) ?_
                  refine lv_astore (lv' := [(4, .ref (ad (2 + (sNx σ g k)))), (7, .int (bI true)), (6, .ref (ad (2 + (sNx σ g k)))), (0, .ref (ad 0)), (1, .ref (ad (2 + g))), (2, .int (nI (Nat.max 1 (sFF σ (sCnt σ) / sCnt σ)))), (3, .int (nI (sFB σ (sCnt σ) / sCnt σ))), (5, .int (nI k))]) hx hb d_GB_leastFolders_104 hl (by decide) rfl (fun ls hl => ?_)
                  refine lv_iinc (v := nI (k + 1)) (lv' := [(5, .int (nI (k + 1))), (4, .ref (ad (2 + (sNx σ g k)))), (7, .int (bI true)), (6, .ref (ad (2 + (sNx σ g k)))), (0, .ref (ad 0)), (1, .ref (ad (2 + g))), (2, .int (nI (Nat.max 1 (sFF σ (sCnt σ) / sCnt σ)))), (3, .int (nI (sFB σ (sCnt σ) / sCnt σ)))]) hx hb d_GB_leastFolders_106 hl (k := 7) rfl (nI_1 _) (by decide) rfl (fun ls hl => ?_)
                  refine lv_goto (tgt := 30) hx hb d_GB_leastFolders_109 (by decide) ?_
                  exact ih (k + 1) (some (sNx σ g k)) (by omega) (by omega) (by rw [es, sLeastN, if_pos hp]; exact (if_pos h4).symm) _ _ _ hI (lv_sub hl [4, 5, 6, 7, 1, 0] rfl)
  exact loop (sCnt σ + 1) 0 none (by omega) (Nat.zero_le _) rfl _ _ _ hI (lv_sub hl [4, 5, 3, 2, 1, 0] rfl)
set_option maxHeartbeats 4000000 in
set_option maxRecDepth 100000 in
theorem c_GB_groupForFolder {l : Launch} {D : va_G} {cG cZ cI cJ : ClassId} {ad : Nat → Nat} (σ : gS) (hσ : sB σ) (f : Nat) (hf1 : 1 ≤ f) (hf : f ≤ 512) : gMet l D (gT cG cZ cI cJ) y_GB_groupForFolder b_GB_groupForFolder 4 (some (.object "GroupBitmaps$Group")) ({ frames := 2, cells := 0, slots := 0, locals := 49 }) (wd ad cG cZ σ) [.ref (ad 0), .int (nI f)] (wd ad cG cZ σ) (some (gR ad (sFolder σ f))) := by
  refine gMet_of (by decide) (Nat.le_of_ble_eq_true rfl) ?_
  intro p e s m below meth c A ls hC hA hI hl
  obtain ⟨hx, hb, hr, hlk, hown, hml, hg, hK⟩ := hC
  have hown : s.vm.findClass "GroupBitmaps" = some m.cls := hown
  have hl : lv_has ls 4 [(0, .ref (ad 0)), (1, .int (nI f))] := hl
  have hc1 := hσ.1
  have hc2 := hσ.2.1
  have hg4 : (f - 1) / 128 < 4 := by omega
  refine lv_aload_n hx hb d_GB_groupForFolder_0 rfl (lv_at hl 0 rfl) ?_
  refine lv_iload_n hx hb d_GB_groupForFolder_1 rfl (lv_at hl 1 rfl) ?_
  refine g_callV (own := "GroupBitmaps") (C := "GroupBitmaps") (T := F_GB) (N := 5) (k := 1) (q0 := 0) (ci := 0) (a := ad 0) (As := [.int (nI f)]) (rest := []) (c_GB_groupOfFile σ f hf hf1) hx hb hml hown hg hK hI hA kw_328 kw_330 kp_14 kw_1 kw_331 ky_GB_groupOfFile ⟨Nat.le_of_ble_eq_true rfl, Nat.le_of_ble_eq_true rfl⟩ rfl rfl (wd_GB) rfl rfl hl.1 (Nat.le_of_ble_eq_true rfl) ⟨Nat.zero_le _, Nat.zero_le _⟩ d_GB_groupForFolder_2 rfl rfl (fun H locs hI => ?_)
  refine lv_astore_n (lv' := [(2, .ref (ad (2 + ((f - 1) / 128)))), (0, .ref (ad 0)), (1, .int (nI f))]) hx hb d_GB_groupForFolder_5 rfl hl (by decide) rfl (fun ls hl => ?_)
  refine lv_iload_n hx hb d_GB_groupForFolder_6 rfl (lv_at hl 2 rfl) ?_
  refine lv_iconst (v := nI 2) hx hb d_GB_groupForFolder_7 (by decide) ?_
  refine r_ne (a := f) (b := 2) (tgt := 19) hx hb d_GB_groupForFolder_8 (by decide) (by omega) (by omega) (fun h => ?_) (fun h => ?_)
  · refine lv_null hx hb d_GB_groupForFolder_19 ?_
    refine lv_astore_nN (lv' := [(3, .null), (2, .ref (ad (2 + ((f - 1) / 128)))), (0, .ref (ad 0)), (1, .int (nI f))]) hx hb d_GB_groupForFolder_20 rfl hl (by decide) rfl (fun ls hl => ?_)
    refine lv_aload_nN hx hb d_GB_groupForFolder_21 rfl (lv_at hl 0 rfl) ?_
    refine lv_ifnonnullN hx hb d_GB_groupForFolder_22 ?_
    refine lv_aload_n hx hb d_GB_groupForFolder_25 rfl (lv_at hl 2 rfl) ?_
    refine lv_aload_n hx hb d_GB_groupForFolder_26 rfl (lv_at hl 1 rfl) ?_
    refine g_callV (own := "GroupBitmaps") (C := "GroupBitmaps") (T := F_GB) (N := 5) (k := 1) (q0 := 0) (ci := 0) (a := ad 0) (As := [.ref (ad (2 + ((f - 1) / 128)))]) (rest := []) (c_GB_firstWithRoom σ hσ ((f - 1) / 128) hg4) hx hb hml hown hg hK hI hA kw_340 kw_342 kp_17 kw_1 kw_343 ky_GB_firstWithRoom ⟨Nat.le_of_ble_eq_true rfl, Nat.le_of_ble_eq_true rfl⟩ rfl rfl (wd_GB) rfl rfl hl.1 (Nat.le_of_ble_eq_true rfl) ⟨Nat.zero_le _, Nat.zero_le _⟩ d_GB_groupForFolder_27 rfl rfl (fun H locs hI => ?_)
    rcases h5 : sFst σ ((f - 1) / 128) (pRoom σ) (sCnt σ) with _ | z
    · refine lv_astore_nN (lv' := [(3, .null), (2, .ref (ad (2 + ((f - 1) / 128)))), (0, .ref (ad 0)), (1, .int (nI f))]) hx hb d_GB_groupForFolder_30 rfl hl (by decide) rfl (fun ls hl => ?_)
      refine lv_aload_nN hx hb d_GB_groupForFolder_31 rfl (lv_at hl 0 rfl) ?_
      refine lv_ifnonnullN hx hb d_GB_groupForFolder_32 ?_
      refine lv_aload_n hx hb d_GB_groupForFolder_35 rfl (lv_at hl 2 rfl) ?_
      refine lv_aload_n hx hb d_GB_groupForFolder_36 rfl (lv_at hl 1 rfl) ?_
      refine g_callV (own := "GroupBitmaps") (C := "GroupBitmaps") (T := F_GB) (N := 5) (k := 1) (q0 := 0) (ci := 0) (a := ad 0) (As := [.ref (ad (2 + ((f - 1) / 128)))]) (rest := []) (c_GB_firstWithFile σ hσ ((f - 1) / 128) hg4) hx hb hml hown hg hK hI hA kw_348 kw_350 kp_18 kw_1 kw_351 ky_GB_firstWithFile ⟨Nat.le_of_ble_eq_true rfl, Nat.le_of_ble_eq_true rfl⟩ rfl rfl (wd_GB) rfl rfl hl.1 (Nat.le_of_ble_eq_true rfl) ⟨Nat.zero_le _, Nat.zero_le _⟩ d_GB_groupForFolder_37 rfl rfl (fun H locs hI => ?_)
      rcases h6 : sFst σ ((f - 1) / 128) (pFile σ) (sCnt σ) with _ | z
      · refine lv_goto (tgt := 44) hx hb d_GB_groupForFolder_40 (by decide) ?_
        exact g_ra hx hb hr hlk (Or.inl rfl) hI (by rw [sFolder, if_neg h]; dsimp only; rw [h5, h6]) d_GB_groupForFolder_44
      · refine lv_goto (tgt := 44) hx hb d_GB_groupForFolder_40 (by decide) ?_
        exact g_ra hx hb hr hlk (Or.inr ⟨_, rfl⟩) hI (by rw [sFolder, if_neg h]; dsimp only; rw [h5, h6]) d_GB_groupForFolder_44
    · refine lv_astore_n (lv' := [(3, .ref (ad (2 + z))), (2, .ref (ad (2 + ((f - 1) / 128)))), (0, .ref (ad 0)), (1, .int (nI f))]) hx hb d_GB_groupForFolder_30 rfl hl (by decide) rfl (fun ls hl => ?_)
      refine lv_aload_n hx hb d_GB_groupForFolder_31 rfl (lv_at hl 0 rfl) ?_
      refine lv_ifnonnull (tgt := 43) hx hb d_GB_groupForFolder_32 (by decide) ?_
      refine lv_aload_n hx hb d_GB_groupForFolder_43 rfl (lv_at hl 0 rfl) ?_
      exact g_ra hx hb hr hlk (Or.inr ⟨_, rfl⟩) hI (by rw [sFolder, if_neg h]; dsimp only; rw [h5]; rfl) d_GB_groupForFolder_44
  · refine lv_aload_n hx hb d_GB_groupForFolder_11 rfl (lv_at hl 1 rfl) ?_
    refine lv_aload_n hx hb d_GB_groupForFolder_12 rfl (lv_at hl 0 rfl) ?_
    refine g_callV (own := "GroupBitmaps") (C := "GroupBitmaps") (T := F_GB) (N := 5) (k := 1) (q0 := 0) (ci := 0) (a := ad 0) (As := [.ref (ad (2 + ((f - 1) / 128)))]) (rest := []) (c_GB_leastFolders σ hσ ((f - 1) / 128) hg4) hx hb hml hown hg hK hI hA kw_332 kw_334 kp_15 kw_1 kw_335 ky_GB_leastFolders ⟨Nat.le_of_ble_eq_true rfl, Nat.le_of_ble_eq_true rfl⟩ rfl rfl (wd_GB) rfl rfl hl.1 (Nat.le_of_ble_eq_true rfl) ⟨Nat.zero_le _, Nat.zero_le _⟩ d_GB_groupForFolder_13 rfl rfl (fun H locs hI => ?_)
    rcases h3 : sLeast σ ((f - 1) / 128) (sCnt σ) with _ | y
    · refine lv_goto (tgt := 20) hx hb d_GB_groupForFolder_16 (by decide) ?_
      refine lv_astore_nN (lv' := [(3, .null), (2, .ref (ad (2 + ((f - 1) / 128)))), (0, .ref (ad 0)), (1, .int (nI f))]) hx hb d_GB_groupForFolder_20 rfl hl (by decide) rfl (fun ls hl => ?_)
      refine lv_aload_nN hx hb d_GB_groupForFolder_21 rfl (lv_at hl 0 rfl) ?_
      refine lv_ifnonnullN hx hb d_GB_groupForFolder_22 ?_
      refine lv_aload_n hx hb d_GB_groupForFolder_25 rfl (lv_at hl 2 rfl) ?_
      refine lv_aload_n hx hb d_GB_groupForFolder_26 rfl (lv_at hl 1 rfl) ?_
      refine g_callV (own := "GroupBitmaps") (C := "GroupBitmaps") (T := F_GB) (N := 5) (k := 1) (q0 := 0) (ci := 0) (a := ad 0) (As := [.ref (ad (2 + ((f - 1) / 128)))]) (rest := []) (c_GB_firstWithRoom σ hσ ((f - 1) / 128) hg4) hx hb hml hown hg hK hI hA kw_340 kw_342 kp_17 kw_1 kw_343 ky_GB_firstWithRoom ⟨Nat.le_of_ble_eq_true rfl, Nat.le_of_ble_eq_true rfl⟩ rfl rfl (wd_GB) rfl rfl hl.1 (Nat.le_of_ble_eq_true rfl) ⟨Nat.zero_le _, Nat.zero_le _⟩ d_GB_groupForFolder_27 rfl rfl (fun H locs hI => ?_)
      rcases h5 : sFst σ ((f - 1) / 128) (pRoom σ) (sCnt σ) with _ | z
      · refine lv_astore_nN (lv' := [(3, .null), (2, .ref (ad (2 + ((f - 1) / 128)))), (0, .ref (ad 0)), (1, .int (nI f))]) hx hb d_GB_groupForFolder_30 rfl hl (by decide) rfl (fun ls hl => ?_)
        refine lv_aload_nN hx hb d_GB_groupForFolder_31 rfl (lv_at hl 0 rfl) ?_
        refine lv_ifnonnullN hx hb d_GB_groupForFolder_32 ?_
        refine lv_aload_n hx hb d_GB_groupForFolder_35 rfl (lv_at hl 2 rfl) ?_
        refine lv_aload_n hx hb d_GB_groupForFolder_36 rfl (lv_at hl 1 rfl) ?_
        refine g_callV (own := "GroupBitmaps") (C := "GroupBitmaps") (T := F_GB) (N := 5) (k := 1) (q0 := 0) (ci := 0) (a := ad 0) (As := [.ref (ad (2 + ((f - 1) / 128)))]) (rest := []) (c_GB_firstWithFile σ hσ ((f - 1) / 128) hg4) hx hb hml hown hg hK hI hA kw_348 kw_350 kp_18 kw_1 kw_351 ky_GB_firstWithFile ⟨Nat.le_of_ble_eq_true rfl, Nat.le_of_ble_eq_true rfl⟩ rfl rfl (wd_GB) rfl rfl hl.1 (Nat.le_of_ble_eq_true rfl) ⟨Nat.zero_le _, Nat.zero_le _⟩ d_GB_groupForFolder_37 rfl rfl (fun H locs hI => ?_)
        rcases h6 : sFst σ ((f - 1) / 128) (pFile σ) (sCnt σ) with _ | z
        · refine lv_goto (tgt := 44) hx hb d_GB_groupForFolder_40 (by decide) ?_
          exact g_ra hx hb hr hlk (Or.inl rfl) hI (by rw [sFolder, if_pos h, h3]; dsimp only; rw [h5, h6]) d_GB_groupForFolder_44
        · refine lv_goto (tgt := 44) hx hb d_GB_groupForFolder_40 (by decide) ?_
          exact g_ra hx hb hr hlk (Or.inr ⟨_, rfl⟩) hI (by rw [sFolder, if_pos h, h3]; dsimp only; rw [h5, h6]) d_GB_groupForFolder_44
      · refine lv_astore_n (lv' := [(3, .ref (ad (2 + z))), (2, .ref (ad (2 + ((f - 1) / 128)))), (0, .ref (ad 0)), (1, .int (nI f))]) hx hb d_GB_groupForFolder_30 rfl hl (by decide) rfl (fun ls hl => ?_)
        refine lv_aload_n hx hb d_GB_groupForFolder_31 rfl (lv_at hl 0 rfl) ?_
        refine lv_ifnonnull (tgt := 43) hx hb d_GB_groupForFolder_32 (by decide) ?_
        refine lv_aload_n hx hb d_GB_groupForFolder_43 rfl (lv_at hl 0 rfl) ?_
        exact g_ra hx hb hr hlk (Or.inr ⟨_, rfl⟩) hI (by rw [sFolder, if_pos h, h3]; dsimp only; rw [h5]; rfl) d_GB_groupForFolder_44
    · refine lv_goto (tgt := 20) hx hb d_GB_groupForFolder_16 (by decide) ?_
      refine lv_astore_n (lv' := [(3, .ref (ad (2 + y))), (2, .ref (ad (2 + ((f - 1) / 128)))), (0, .ref (ad 0)), (1, .int (nI f))]) hx hb d_GB_groupForFolder_20 rfl hl (by decide) rfl (fun ls hl => ?_)
      refine lv_aload_n hx hb d_GB_groupForFolder_21 rfl (lv_at hl 0 rfl) ?_
      refine lv_ifnonnull (tgt := 31) hx hb d_GB_groupForFolder_22 (by decide) ?_
      refine lv_aload_n hx hb d_GB_groupForFolder_31 rfl (lv_at hl 0 rfl) ?_
      refine lv_ifnonnull (tgt := 43) hx hb d_GB_groupForFolder_32 (by decide) ?_
      refine lv_aload_n hx hb d_GB_groupForFolder_43 rfl (lv_at hl 0 rfl) ?_
      exact g_ra hx hb hr hlk (Or.inr ⟨_, rfl⟩) hI (by rw [sFolder, if_pos h, h3]; rfl) d_GB_groupForFolder_44
set_option maxHeartbeats 4000000 in
set_option maxRecDepth 100000 in
theorem c_GB_tableByte {l : Launch} {D : va_G} {cG cZ cI cJ : ClassId} {ad : Nat → Nat} (σ : gS) (hσ : sB σ) (t : Nat) (ht : t < 4096) : gMet l D (gT cG cZ cI cJ) y_GB_tableByte b_GB_tableByte 3 (some .int) ({ frames := 2, cells := 0, slots := 0, locals := 42 }) (wd ad cG cZ σ) [.ref (ad 0), .int (nI t)] (wd ad cG cZ σ) (some (.int (nI (sTb σ t)))) := by
  refine gMet_of (by decide) (Nat.le_of_ble_eq_true rfl) ?_
  intro p e s m below meth c A ls hC hA hI hl
  obtain ⟨hx, hb, hr, hlk, hown, hml, hg, hK⟩ := hC
  have hown : s.vm.findClass "GroupBitmaps" = some m.cls := hown
  have hl : lv_has ls 3 [(0, .ref (ad 0)), (1, .int (nI t))] := hl
  have hc1 := hσ.1
  have hc2 := hσ.2.1
  refine lv_iload_n hx hb d_GB_tableByte_0 rfl (lv_at hl 1 rfl) ?_
  refine lv_bipush (v := nI 32) hx hb d_GB_tableByte_1 (by decide) ?_
  refine r_idiv (a := t) (b := 32) hx hb (by omega) (by omega) (by omega) d_GB_tableByte_3 ?_
  refine lv_istore_n (lv' := [(2, .int (nI (t / 32))), (0, .ref (ad 0)), (1, .int (nI t))]) hx hb d_GB_tableByte_4 rfl hl (by decide) rfl (fun ls hl => ?_)
  refine lv_iload_n hx hb d_GB_tableByte_5 rfl (lv_at hl 0 rfl) ?_
  refine lv_aload_n hx hb d_GB_tableByte_6 rfl (lv_at hl 1 rfl) ?_
  refine g_get (own := "GroupBitmaps") (C := R_GB) (T := F_GB) (N := 5) (ci := 0) (v := .int (nI (sCnt σ))) hx hb hg ku_GB hown hK hI (0) (wd_GB) rfl 1 (by decide) kw_92 rfl d_GB_tableByte_7 ?_
  refine r_ge (a := t / 32) (b := sCnt σ) (tgt := 29) hx hb d_GB_tableByte_10 (by decide) (by omega) (by omega) (fun h => ?_) (fun h => ?_)
  · refine lv_iconst (v := nI 0) hx hb d_GB_tableByte_29 (by decide) ?_
    exact g_ri hx hb hr hlk hI (by rw [sTb, if_neg (Nat.not_lt.mpr h)]) d_GB_tableByte_30
  · refine lv_aload_n hx hb d_GB_tableByte_13 rfl (lv_at hl 1 rfl) ?_
    refine g_get (own := "GroupBitmaps") (C := R_GB) (T := F_GB) (N := 5) (ci := 0) (v := .ref (ad 1)) hx hb hg ku_GB hown hK hI (0) (wd_GB) rfl 0 (by decide) kw_91 rfl d_GB_tableByte_14 ?_
    refine lv_iload_n hx hb d_GB_tableByte_17 rfl (lv_at hl 0 rfl) ?_
    refine g_aldq (r := ad (2 + (t / 32))) (i := t / 32) hx hb hK hI (1) 0 (wd_GA) rfl (by omega) (by decide) rfl d_GB_tableByte_18 ?_
    have hq0 := show t / 32 < 4 by omega
    have hr0 : 2 * (t / 32) < 8 := by omega
    have hs0 : 2 * (t / 32) + 1 < 8 := by omega
    refine lv_iload_n hx hb d_GB_tableByte_19 rfl (lv_at hl 2 rfl) ?_
    refine lv_bipush (v := nI 32) hx hb d_GB_tableByte_20 (by decide) ?_
    refine r_irem (a := t) (b := 32) hx hb (by omega) (by omega) (by omega) d_GB_tableByte_22 ?_
    refine g_callV (own := "GroupBitmaps") (C := "GroupBitmaps$Group") (T := F_GR) (N := 6) (k := 1) (q0 := 2 + (t / 32)) (ci := 1) (a := ad (2 + (t / 32))) (As := [.int (nI (t % 32))]) (rest := []) (c_GR_tableByte σ (t / 32) hq0 hσ (t % 32) (by omega)) hx hb hml hown hg hK hI hA kw_428 kw_429 kw_430 kw_2 kw_431 ky_GR_tableByte ⟨Nat.le_of_ble_eq_true rfl, Nat.le_of_ble_eq_true rfl⟩ rfl rfl (wd_GR hq0) rfl rfl hl.1 (Nat.le_of_ble_eq_true rfl) ⟨Nat.zero_le _, Nat.zero_le _⟩ d_GB_tableByte_23 rfl rfl (fun H locs hI => ?_)
    refine lv_goto (tgt := 30) hx hb d_GB_tableByte_26 (by decide) ?_
    exact g_ri hx hb hr hlk hI (by rw [sTb, if_pos h]) d_GB_tableByte_30
set_option maxHeartbeats 4000000 in
set_option maxRecDepth 100000 in
theorem c_GB_taken {l : Launch} {D : va_G} {cG cZ cI cJ : ClassId} {ad : Nat → Nat} (σ : gS)  : gMet l D (gT cG cZ cI cJ) y_GB_taken b_GB_taken 1 (some .int) ({ frames := 0, cells := 0, slots := 0, locals := 0 }) (wd ad cG cZ σ) [.ref (ad 0)] (wd ad cG cZ σ) (some (.int (nI (sLat σ)))) := by
  refine gMet_of (by decide) (Nat.le_of_ble_eq_true rfl) ?_
  intro p e s m below meth c A ls hC hA hI hl
  obtain ⟨hx, hb, hr, hlk, hown, hml, hg, hK⟩ := hC
  have hown : s.vm.findClass "GroupBitmaps" = some m.cls := hown
  have hl : lv_has ls 1 [(0, .ref (ad 0))] := hl
  refine lv_aload_n hx hb d_GB_taken_0 rfl (lv_at hl 0 rfl) ?_
  refine g_get (own := "GroupBitmaps") (C := R_GB) (T := F_GB) (N := 5) (ci := 0) (v := .int (nI (sLat σ))) hx hb hg ku_GB hown hK hI (0) (wd_GB) rfl 3 (by decide) kw_94 rfl d_GB_taken_1 ?_
  exact g_ri hx hb hr hlk hI (rfl) d_GB_taken_4
set_option maxHeartbeats 4000000 in
set_option maxRecDepth 100000 in
theorem c_GB_settle {l : Launch} {D : va_G} {cG cZ cI cJ : ClassId} {ad : Nat → Nat} (σ : gS)  : gMet l D (gT cG cZ cI cJ) y_GB_settle b_GB_settle 3 (some .int) ({ frames := 1, cells := 0, slots := 0, locals := 21 }) (wd ad cG cZ σ) [.ref (ad 0)] (wd ad cG cZ (sStl σ 4)) (some (.int (nI (sSc σ 4)))) := by
  refine gMet_of (by decide) (Nat.le_of_ble_eq_true rfl) ?_
  intro p e s m below meth c A ls hC hA hI hl
  obtain ⟨hx, hb, hr, hlk, hown, hml, hg, hK⟩ := hC
  have hown : s.vm.findClass "GroupBitmaps" = some m.cls := hown
  have hl : lv_has ls 3 [(0, .ref (ad 0))] := hl
  refine lv_aload_n hx hb d_GB_settle_0 rfl (lv_at hl 0 rfl) ?_
  refine g_get (own := "GroupBitmaps") (C := R_GB) (T := F_GB) (N := 5) (ci := 0) (v := .int (bI (sTT σ))) hx hb hg ku_GB hown hK hI (0) (wd_GB) rfl 4 (by decide) kw_95 rfl d_GB_settle_1 ?_
  refine r_bz (b := sTT σ) (tgt := 11) hx hb d_GB_settle_4 (by decide) (fun h => ?_) (fun h => ?_)
  · have e0 : sSc σ 0 = 0 := by rw [sSc, h]; rfl
    refine lv_iconst (v := nI 0) hx hb d_GB_settle_11 (by decide) ?_
    refine lv_istore_n (lv' := [(1, .int (nI 0)), (0, .ref (ad 0))]) hx hb d_GB_settle_12 rfl hl (by decide) rfl (fun ls hl => ?_)
    refine lv_aload_n hx hb d_GB_settle_13 rfl (lv_at hl 1 rfl) ?_
    refine lv_iconst (v := bI false) hx hb d_GB_settle_14 (by decide) ?_
    refine g_put (ws' := (wd ad cG cZ (uTT σ false))) (own := "GroupBitmaps") (C := R_GB) (T := F_GB) (N := 5) (ci := 0) (v := .int (bI false)) hx hb hg ku_GB t_GB t_GB_ok n_GB hown hK hI (0) (wd_GB) rfl 4 (by decide) kw_95 rfl rfl (bI_n _) (bI_fit _) (Nat.le_of_ble_eq_true rfl) (wd_uTT) d_GB_settle_15 (fun H locs hI => ?_)
    refine lv_iconst (v := nI 0) hx hb d_GB_settle_18 (by decide) ?_
    refine lv_istore_n (lv' := [(2, .int (nI 0)), (1, .int (nI 0)), (0, .ref (ad 0))]) hx hb d_GB_settle_19 rfl hl (by decide) rfl (fun ls hl => ?_)
    have loop : ∀ (fuel : Nat) (g : Nat), 5 ≤ fuel + g → (g ≤ 4) → ∀ (H : Heap) (locs : List Loc) (ls : Array Slot), gI D A s.heap (wd ad cG cZ (sStl σ g)) H locs → lv_has ls 3 [(0, .ref (ad 0)), (1, .int (nI (sSc σ g))), (2, .int (nI g))] → W p l e ({ frames := 1, cells := 0, slots := 0, locals := 21 }) s m ([.ref (ad 0)] : List Value).toArray below meth c H locs 0 0 (gQ D below ([.ref (ad 0)] : List Value).toArray s A (wd ad cG cZ (sStl σ 4)) (some (.int (nI (sSc σ 4))))) (F0 m 20 ls []) := by
      intro fuel
      induction fuel with
      | zero => intro g hfu hgl; exact absurd hfu (by omega)
      | succ fuel ih =>
        intro g hfu hgl H locs ls hI hl
        have hsc := sSc_le σ g
        refine lv_iload_n hx hb d_GB_settle_20 rfl (lv_at hl 2 rfl) ?_
        refine lv_iconst (v := nI 4) hx hb d_GB_settle_21 (by decide) ?_
        refine r_ge (a := g) (b := 4) (tgt := 61) hx hb d_GB_settle_22 (by decide) (by omega) (by omega) (fun h2 => ?_) (fun h2 => ?_)
        · obtain rfl : g = 4 := by omega
          refine lv_iload_n hx hb d_GB_settle_61 rfl (lv_at hl 1 rfl) ?_
          exact g_ri hx hb hr hlk hI (rfl) d_GB_settle_62
        · refine lv_iload_n hx hb d_GB_settle_25 rfl (lv_at hl 1 rfl) ?_
          refine lv_aload_n hx hb d_GB_settle_26 rfl (lv_at hl 0 rfl) ?_
          refine g_get (own := "GroupBitmaps") (C := R_GB) (T := F_GB) (N := 5) (ci := 0) (v := .ref (ad 1)) hx hb hg ku_GB hown hK hI (0) (wd_GB) rfl 0 (by decide) kw_91 rfl d_GB_settle_27 ?_
          refine lv_iload_n hx hb d_GB_settle_30 rfl (lv_at hl 2 rfl) ?_
          refine g_aldq (r := ad (2 + g)) (i := g) hx hb hK hI (1) 0 (wd_GA) rfl (by omega) (by decide) rfl d_GB_settle_31 ?_
          have hq0 := show g < 4 by omega
          have hr0 : 2 * g < 8 := by omega
          have hs0 : 2 * g + 1 < 8 := by omega
          refine g_getN (own := "GroupBitmaps") (C := R_GR) (T := F_GR) (N := 6) (ci := 1) (v := .ref (ad (6 + (2 * g)))) hx hb hg ku_GR hown hK hI (2 + g) (wd_GR hq0) rfl 3 (by decide) kw_61 rfl d_GB_settle_32 ?_
          refine g_callV (own := "GroupBitmaps") (C := "GroupBitmaps$Bitmap") (T := F_BM) (N := 5) (k := 0) (q0 := 6 + (2 * g)) (ci := 2) (a := ad (6 + (2 * g))) (As := []) (rest := [.int (nI (sSc σ g))]) (c_BM_forgetTold (sStl σ g) (2 * g) hr0) hx hb hml hown hg hK hI hA kw_115 kw_116 kw_117 kw_3 kw_118 ky_BM_forgetTold ⟨Nat.le_of_ble_eq_true rfl, Nat.le_of_ble_eq_true rfl⟩ rfl rfl (wd_BM hr0) rfl rfl hl.1 (Nat.le_of_ble_eq_true rfl) ⟨Nat.zero_le _, Nat.zero_le _⟩ d_GB_settle_35 rfl rfl (fun H locs hI => ?_)
          refine r_iadd (a := sSc σ g) (b := b1 (sTd (sStl σ g) (2 * g))) hx hb d_GB_settle_38 ?_
          refine lv_istore_n (lv' := [(1, .int (nI ((sSc σ g) + (b1 (sTd (sStl σ g) (2 * g)))))), (0, .ref (ad 0)), (2, .int (nI g))]) hx hb d_GB_settle_39 rfl hl (by decide) rfl (fun ls hl => ?_)
          refine lv_iload_n hx hb d_GB_settle_40 rfl (lv_at hl 0 rfl) ?_
          refine lv_aload_n hx hb d_GB_settle_41 rfl (lv_at hl 1 rfl) ?_
          refine g_get (own := "GroupBitmaps") (C := R_GB) (T := F_GB) (N := 5) (ci := 0) (v := .ref (ad 1)) hx hb hg ku_GB hown hK hI (0) (wd_GB) rfl 0 (by decide) kw_91 rfl d_GB_settle_42 ?_
          refine lv_iload_n hx hb d_GB_settle_45 rfl (lv_at hl 2 rfl) ?_
          refine g_aldq (r := ad (2 + g)) (i := g) hx hb hK hI (1) 0 (wd_GA) rfl (by omega) (by decide) rfl d_GB_settle_46 ?_
          refine g_getN (own := "GroupBitmaps") (C := R_GR) (T := F_GR) (N := 6) (ci := 1) (v := .ref (ad (6 + (2 * g + 1)))) hx hb hg ku_GR hown hK hI (2 + g) (wd_GR hq0) rfl 4 (by decide) kw_63 rfl d_GB_settle_47 ?_
          refine g_callV (own := "GroupBitmaps") (C := "GroupBitmaps$Bitmap") (T := F_BM) (N := 5) (k := 0) (q0 := 6 + (2 * g + 1)) (ci := 2) (a := ad (6 + (2 * g + 1))) (As := []) (rest := [.int (nI ((sSc σ g) + (b1 (sTd (sStl σ g) (2 * g)))))]) (c_BM_forgetTold (uTd (sStl σ g) (2 * g) false) (2 * g + 1) hs0) hx hb hml hown hg hK hI hA kw_115 kw_116 kw_117 kw_3 kw_118 ky_BM_forgetTold ⟨Nat.le_of_ble_eq_true rfl, Nat.le_of_ble_eq_true rfl⟩ rfl rfl (wd_BM hs0) rfl rfl hl.1 (Nat.le_of_ble_eq_true rfl) ⟨Nat.zero_le _, Nat.zero_le _⟩ d_GB_settle_50 rfl rfl (fun H locs hI => ?_)
          refine r_iadd (a := (sSc σ g) + (b1 (sTd (sStl σ g) (2 * g)))) (b := b1 (sTd (uTd (sStl σ g) (2 * g) false) (2 * g + 1))) hx hb d_GB_settle_53 ?_
          refine lv_istore_n (lv' := [(1, .int (nI (((sSc σ g) + (b1 (sTd (sStl σ g) (2 * g)))) + (b1 (sTd (uTd (sStl σ g) (2 * g) false) (2 * g + 1)))))), (0, .ref (ad 0)), (2, .int (nI g))]) hx hb d_GB_settle_54 rfl hl (by decide) rfl (fun ls hl => ?_)
          refine lv_iinc (v := nI (g + 1)) (lv' := [(2, .int (nI (g + 1))), (1, .int (nI (((sSc σ g) + (b1 (sTd (sStl σ g) (2 * g)))) + (b1 (sTd (uTd (sStl σ g) (2 * g) false) (2 * g + 1)))))), (0, .ref (ad 0))]) hx hb d_GB_settle_55 hl (k := 2) rfl (nI_1 _) (by decide) rfl (fun ls hl => ?_)
          refine lv_goto (tgt := 20) hx hb d_GB_settle_58 (by decide) ?_
          exact ih (g + 1) (by omega) (by omega) _ _ _ hI (lv_sub hl [2, 1, 0] rfl)
    exact loop 5 0 (by omega) (by omega) _ _ _ hI (by rw [e0]; exact lv_sub hl [2, 1, 0] rfl)
  · have e0 : sSc σ 0 = 1 := by rw [sSc, h]; rfl
    refine lv_iconst (v := nI 1) hx hb d_GB_settle_7 (by decide) ?_
    refine lv_goto (tgt := 12) hx hb d_GB_settle_8 (by decide) ?_
    refine lv_istore_n (lv' := [(1, .int (nI 1)), (0, .ref (ad 0))]) hx hb d_GB_settle_12 rfl hl (by decide) rfl (fun ls hl => ?_)
    refine lv_aload_n hx hb d_GB_settle_13 rfl (lv_at hl 1 rfl) ?_
    refine lv_iconst (v := bI false) hx hb d_GB_settle_14 (by decide) ?_
    refine g_put (ws' := (wd ad cG cZ (uTT σ false))) (own := "GroupBitmaps") (C := R_GB) (T := F_GB) (N := 5) (ci := 0) (v := .int (bI false)) hx hb hg ku_GB t_GB t_GB_ok n_GB hown hK hI (0) (wd_GB) rfl 4 (by decide) kw_95 rfl rfl (bI_n _) (bI_fit _) (Nat.le_of_ble_eq_true rfl) (wd_uTT) d_GB_settle_15 (fun H locs hI => ?_)
    refine lv_iconst (v := nI 0) hx hb d_GB_settle_18 (by decide) ?_
    refine lv_istore_n (lv' := [(2, .int (nI 0)), (1, .int (nI 1)), (0, .ref (ad 0))]) hx hb d_GB_settle_19 rfl hl (by decide) rfl (fun ls hl => ?_)
    have loop : ∀ (fuel : Nat) (g : Nat), 5 ≤ fuel + g → (g ≤ 4) → ∀ (H : Heap) (locs : List Loc) (ls : Array Slot), gI D A s.heap (wd ad cG cZ (sStl σ g)) H locs → lv_has ls 3 [(0, .ref (ad 0)), (1, .int (nI (sSc σ g))), (2, .int (nI g))] → W p l e ({ frames := 1, cells := 0, slots := 0, locals := 21 }) s m ([.ref (ad 0)] : List Value).toArray below meth c H locs 0 0 (gQ D below ([.ref (ad 0)] : List Value).toArray s A (wd ad cG cZ (sStl σ 4)) (some (.int (nI (sSc σ 4))))) (F0 m 20 ls []) := by
      intro fuel
      induction fuel with
      | zero => intro g hfu hgl; exact absurd hfu (by omega)
      | succ fuel ih =>
        intro g hfu hgl H locs ls hI hl
        have hsc := sSc_le σ g
        refine lv_iload_n hx hb d_GB_settle_20 rfl (lv_at hl 2 rfl) ?_
        refine lv_iconst (v := nI 4) hx hb d_GB_settle_21 (by decide) ?_
        refine r_ge (a := g) (b := 4) (tgt := 61) hx hb d_GB_settle_22 (by decide) (by omega) (by omega) (fun h2 => ?_) (fun h2 => ?_)
        · obtain rfl : g = 4 := by omega
          refine lv_iload_n hx hb d_GB_settle_61 rfl (lv_at hl 1 rfl) ?_
          exact g_ri hx hb hr hlk hI (rfl) d_GB_settle_62
        · refine lv_iload_n hx hb d_GB_settle_25 rfl (lv_at hl 1 rfl) ?_
          refine lv_aload_n hx hb d_GB_settle_26 rfl (lv_at hl 0 rfl) ?_
          refine g_get (own := "GroupBitmaps") (C := R_GB) (T := F_GB) (N := 5) (ci := 0) (v := .ref (ad 1)) hx hb hg ku_GB hown hK hI (0) (wd_GB) rfl 0 (by decide) kw_91 rfl d_GB_settle_27 ?_
          refine lv_iload_n hx hb d_GB_settle_30 rfl (lv_at hl 2 rfl) ?_
          refine g_aldq (r := ad (2 + g)) (i := g) hx hb hK hI (1) 0 (wd_GA) rfl (by omega) (by decide) rfl d_GB_settle_31 ?_
          have hq1 := show g < 4 by omega
          have hr1 : 2 * g < 8 := by omega
          have hs1 : 2 * g + 1 < 8 := by omega
          refine g_getN (own := "GroupBitmaps") (C := R_GR) (T := F_GR) (N := 6) (ci := 1) (v := .ref (ad (6 + (2 * g)))) hx hb hg ku_GR hown hK hI (2 + g) (wd_GR hq1) rfl 3 (by decide) kw_61 rfl d_GB_settle_32 ?_
          refine g_callV (own := "GroupBitmaps") (C := "GroupBitmaps$Bitmap") (T := F_BM) (N := 5) (k := 0) (q0 := 6 + (2 * g)) (ci := 2) (a := ad (6 + (2 * g))) (As := []) (rest := [.int (nI (sSc σ g))]) (c_BM_forgetTold (sStl σ g) (2 * g) hr1) hx hb hml hown hg hK hI hA kw_115 kw_116 kw_117 kw_3 kw_118 ky_BM_forgetTold ⟨Nat.le_of_ble_eq_true rfl, Nat.le_of_ble_eq_true rfl⟩ rfl rfl (wd_BM hr1) rfl rfl hl.1 (Nat.le_of_ble_eq_true rfl) ⟨Nat.zero_le _, Nat.zero_le _⟩ d_GB_settle_35 rfl rfl (fun H locs hI => ?_)
          refine r_iadd (a := sSc σ g) (b := b1 (sTd (sStl σ g) (2 * g))) hx hb d_GB_settle_38 ?_
          refine lv_istore_n (lv' := [(1, .int (nI ((sSc σ g) + (b1 (sTd (sStl σ g) (2 * g)))))), (0, .ref (ad 0)), (2, .int (nI g))]) hx hb d_GB_settle_39 rfl hl (by decide) rfl (fun ls hl => ?_)
          refine lv_iload_n hx hb d_GB_settle_40 rfl (lv_at hl 0 rfl) ?_
          refine lv_aload_n hx hb d_GB_settle_41 rfl (lv_at hl 1 rfl) ?_
          refine g_get (own := "GroupBitmaps") (C := R_GB) (T := F_GB) (N := 5) (ci := 0) (v := .ref (ad 1)) hx hb hg ku_GB hown hK hI (0) (wd_GB) rfl 0 (by decide) kw_91 rfl d_GB_settle_42 ?_
          refine lv_iload_n hx hb d_GB_settle_45 rfl (lv_at hl 2 rfl) ?_
          refine g_aldq (r := ad (2 + g)) (i := g) hx hb hK hI (1) 0 (wd_GA) rfl (by omega) (by decide) rfl d_GB_settle_46 ?_
          refine g_getN (own := "GroupBitmaps") (C := R_GR) (T := F_GR) (N := 6) (ci := 1) (v := .ref (ad (6 + (2 * g + 1)))) hx hb hg ku_GR hown hK hI (2 + g) (wd_GR hq1) rfl 4 (by decide) kw_63 rfl d_GB_settle_47 ?_
          refine g_callV (own := "GroupBitmaps") (C := "GroupBitmaps$Bitmap") (T := F_BM) (N := 5) (k := 0) (q0 := 6 + (2 * g + 1)) (ci := 2) (a := ad (6 + (2 * g + 1))) (As := []) (rest := [.int (nI ((sSc σ g) + (b1 (sTd (sStl σ g) (2 * g)))))]) (c_BM_forgetTold (uTd (sStl σ g) (2 * g) false) (2 * g + 1) hs1) hx hb hml hown hg hK hI hA kw_115 kw_116 kw_117 kw_3 kw_118 ky_BM_forgetTold ⟨Nat.le_of_ble_eq_true rfl, Nat.le_of_ble_eq_true rfl⟩ rfl rfl (wd_BM hs1) rfl rfl hl.1 (Nat.le_of_ble_eq_true rfl) ⟨Nat.zero_le _, Nat.zero_le _⟩ d_GB_settle_50 rfl rfl (fun H locs hI => ?_)
          refine r_iadd (a := (sSc σ g) + (b1 (sTd (sStl σ g) (2 * g)))) (b := b1 (sTd (uTd (sStl σ g) (2 * g) false) (2 * g + 1))) hx hb d_GB_settle_53 ?_
          refine lv_istore_n (lv' := [(1, .int (nI (((sSc σ g) + (b1 (sTd (sStl σ g) (2 * g)))) + (b1 (sTd (uTd (sStl σ g) (2 * g) false) (2 * g + 1)))))), (0, .ref (ad 0)), (2, .int (nI g))]) hx hb d_GB_settle_54 rfl hl (by decide) rfl (fun ls hl => ?_)
          refine lv_iinc (v := nI (g + 1)) (lv' := [(2, .int (nI (g + 1))), (1, .int (nI (((sSc σ g) + (b1 (sTd (sStl σ g) (2 * g)))) + (b1 (sTd (uTd (sStl σ g) (2 * g) false) (2 * g + 1)))))), (0, .ref (ad 0))]) hx hb d_GB_settle_55 hl (k := 2) rfl (nI_1 _) (by decide) rfl (fun ls hl => ?_)
          refine lv_goto (tgt := 20) hx hb d_GB_settle_58 (by decide) ?_
          exact ih (g + 1) (by omega) (by omega) _ _ _ hI (lv_sub hl [2, 1, 0] rfl)
    exact loop 5 0 (by omega) (by omega) _ _ _ hI (by rw [e0]; exact lv_sub hl [2, 1, 0] rfl)
end
section
/-! ===== the reference's state: thrown, groups, sizes, blocks, files, folders, reserved, latest, told, runAt, runSize ===== -/
abbrev mS : Type := Nat × Nat × (Nat → Nat) × (Nat → Bool) × (Nat → Bool) × (Nat → Nat) × Nat × Nat × (Nat → Bool) × Nat × Nat
def mTh (τ : mS) : Nat := τ.1
def mGr (τ : mS) : Nat := τ.2.1
def mSz (τ : mS) : Nat → Nat := τ.2.2.1
def mBk (τ : mS) : Nat → Bool := τ.2.2.2.1
def mFl (τ : mS) : Nat → Bool := τ.2.2.2.2.1
def mFd (τ : mS) : Nat → Nat := τ.2.2.2.2.2.1
def mRs (τ : mS) : Nat := τ.2.2.2.2.2.2.1
def mLt (τ : mS) : Nat := τ.2.2.2.2.2.2.2.1
def mTo (τ : mS) : Nat → Bool := τ.2.2.2.2.2.2.2.2.1
def mRa (τ : mS) : Nat := τ.2.2.2.2.2.2.2.2.2.1
def mRz (τ : mS) : Nat := τ.2.2.2.2.2.2.2.2.2.2
def vTh (τ : mS) (v : Nat) : mS := (v, mGr τ, mSz τ, mBk τ, mFl τ, mFd τ, mRs τ, mLt τ, mTo τ, mRa τ, mRz τ)
def vGr (τ : mS) (v : Nat) : mS := (mTh τ, v, mSz τ, mBk τ, mFl τ, mFd τ, mRs τ, mLt τ, mTo τ, mRa τ, mRz τ)
def vSz (τ : mS) (v : Nat → Nat) : mS := (mTh τ, mGr τ, v, mBk τ, mFl τ, mFd τ, mRs τ, mLt τ, mTo τ, mRa τ, mRz τ)
def vBk (τ : mS) (v : Nat → Bool) : mS := (mTh τ, mGr τ, mSz τ, v, mFl τ, mFd τ, mRs τ, mLt τ, mTo τ, mRa τ, mRz τ)
def vFl (τ : mS) (v : Nat → Bool) : mS := (mTh τ, mGr τ, mSz τ, mBk τ, v, mFd τ, mRs τ, mLt τ, mTo τ, mRa τ, mRz τ)
def vFd (τ : mS) (v : Nat → Nat) : mS := (mTh τ, mGr τ, mSz τ, mBk τ, mFl τ, v, mRs τ, mLt τ, mTo τ, mRa τ, mRz τ)
def vRs (τ : mS) (v : Nat) : mS := (mTh τ, mGr τ, mSz τ, mBk τ, mFl τ, mFd τ, v, mLt τ, mTo τ, mRa τ, mRz τ)
def vLt (τ : mS) (v : Nat) : mS := (mTh τ, mGr τ, mSz τ, mBk τ, mFl τ, mFd τ, mRs τ, v, mTo τ, mRa τ, mRz τ)
def vTo (τ : mS) (v : Nat → Bool) : mS := (mTh τ, mGr τ, mSz τ, mBk τ, mFl τ, mFd τ, mRs τ, mLt τ, v, mRa τ, mRz τ)
def vRa (τ : mS) (v : Nat) : mS := (mTh τ, mGr τ, mSz τ, mBk τ, mFl τ, mFd τ, mRs τ, mLt τ, mTo τ, v, mRz τ)
def vRz (τ : mS) (v : Nat) : mS := (mTh τ, mGr τ, mSz τ, mBk τ, mFl τ, mFd τ, mRs τ, mLt τ, mTo τ, mRa τ, v)
theorem p_Th_Th (τ : mS) (v : Nat) : mTh (vTh τ v) = v := rfl
theorem p_Th_Gr (τ : mS) (v : Nat) : mTh (vGr τ v) = mTh τ := rfl
theorem p_Th_Sz (τ : mS) (v : Nat → Nat) : mTh (vSz τ v) = mTh τ := rfl
theorem p_Th_Bk (τ : mS) (v : Nat → Bool) : mTh (vBk τ v) = mTh τ := rfl
theorem p_Th_Fl (τ : mS) (v : Nat → Bool) : mTh (vFl τ v) = mTh τ := rfl
theorem p_Th_Fd (τ : mS) (v : Nat → Nat) : mTh (vFd τ v) = mTh τ := rfl
theorem p_Th_Rs (τ : mS) (v : Nat) : mTh (vRs τ v) = mTh τ := rfl
theorem p_Th_Lt (τ : mS) (v : Nat) : mTh (vLt τ v) = mTh τ := rfl
theorem p_Th_To (τ : mS) (v : Nat → Bool) : mTh (vTo τ v) = mTh τ := rfl
theorem p_Th_Ra (τ : mS) (v : Nat) : mTh (vRa τ v) = mTh τ := rfl
theorem p_Th_Rz (τ : mS) (v : Nat) : mTh (vRz τ v) = mTh τ := rfl
theorem p_Gr_Th (τ : mS) (v : Nat) : mGr (vTh τ v) = mGr τ := rfl
theorem p_Gr_Gr (τ : mS) (v : Nat) : mGr (vGr τ v) = v := rfl
theorem p_Gr_Sz (τ : mS) (v : Nat → Nat) : mGr (vSz τ v) = mGr τ := rfl
theorem p_Gr_Bk (τ : mS) (v : Nat → Bool) : mGr (vBk τ v) = mGr τ := rfl
theorem p_Gr_Fl (τ : mS) (v : Nat → Bool) : mGr (vFl τ v) = mGr τ := rfl
theorem p_Gr_Fd (τ : mS) (v : Nat → Nat) : mGr (vFd τ v) = mGr τ := rfl
theorem p_Gr_Rs (τ : mS) (v : Nat) : mGr (vRs τ v) = mGr τ := rfl
theorem p_Gr_Lt (τ : mS) (v : Nat) : mGr (vLt τ v) = mGr τ := rfl
theorem p_Gr_To (τ : mS) (v : Nat → Bool) : mGr (vTo τ v) = mGr τ := rfl
theorem p_Gr_Ra (τ : mS) (v : Nat) : mGr (vRa τ v) = mGr τ := rfl
theorem p_Gr_Rz (τ : mS) (v : Nat) : mGr (vRz τ v) = mGr τ := rfl
theorem p_Sz_Th (τ : mS) (v : Nat) : mSz (vTh τ v) = mSz τ := rfl
theorem p_Sz_Gr (τ : mS) (v : Nat) : mSz (vGr τ v) = mSz τ := rfl
theorem p_Sz_Sz (τ : mS) (v : Nat → Nat) : mSz (vSz τ v) = v := rfl
theorem p_Sz_Bk (τ : mS) (v : Nat → Bool) : mSz (vBk τ v) = mSz τ := rfl
theorem p_Sz_Fl (τ : mS) (v : Nat → Bool) : mSz (vFl τ v) = mSz τ := rfl
theorem p_Sz_Fd (τ : mS) (v : Nat → Nat) : mSz (vFd τ v) = mSz τ := rfl
theorem p_Sz_Rs (τ : mS) (v : Nat) : mSz (vRs τ v) = mSz τ := rfl
theorem p_Sz_Lt (τ : mS) (v : Nat) : mSz (vLt τ v) = mSz τ := rfl
theorem p_Sz_To (τ : mS) (v : Nat → Bool) : mSz (vTo τ v) = mSz τ := rfl
theorem p_Sz_Ra (τ : mS) (v : Nat) : mSz (vRa τ v) = mSz τ := rfl
theorem p_Sz_Rz (τ : mS) (v : Nat) : mSz (vRz τ v) = mSz τ := rfl
theorem p_Bk_Th (τ : mS) (v : Nat) : mBk (vTh τ v) = mBk τ := rfl
theorem p_Bk_Gr (τ : mS) (v : Nat) : mBk (vGr τ v) = mBk τ := rfl
theorem p_Bk_Sz (τ : mS) (v : Nat → Nat) : mBk (vSz τ v) = mBk τ := rfl
theorem p_Bk_Bk (τ : mS) (v : Nat → Bool) : mBk (vBk τ v) = v := rfl
theorem p_Bk_Fl (τ : mS) (v : Nat → Bool) : mBk (vFl τ v) = mBk τ := rfl
theorem p_Bk_Fd (τ : mS) (v : Nat → Nat) : mBk (vFd τ v) = mBk τ := rfl
theorem p_Bk_Rs (τ : mS) (v : Nat) : mBk (vRs τ v) = mBk τ := rfl
theorem p_Bk_Lt (τ : mS) (v : Nat) : mBk (vLt τ v) = mBk τ := rfl
theorem p_Bk_To (τ : mS) (v : Nat → Bool) : mBk (vTo τ v) = mBk τ := rfl
theorem p_Bk_Ra (τ : mS) (v : Nat) : mBk (vRa τ v) = mBk τ := rfl
theorem p_Bk_Rz (τ : mS) (v : Nat) : mBk (vRz τ v) = mBk τ := rfl
theorem p_Fl_Th (τ : mS) (v : Nat) : mFl (vTh τ v) = mFl τ := rfl
theorem p_Fl_Gr (τ : mS) (v : Nat) : mFl (vGr τ v) = mFl τ := rfl
theorem p_Fl_Sz (τ : mS) (v : Nat → Nat) : mFl (vSz τ v) = mFl τ := rfl
theorem p_Fl_Bk (τ : mS) (v : Nat → Bool) : mFl (vBk τ v) = mFl τ := rfl
theorem p_Fl_Fl (τ : mS) (v : Nat → Bool) : mFl (vFl τ v) = v := rfl
theorem p_Fl_Fd (τ : mS) (v : Nat → Nat) : mFl (vFd τ v) = mFl τ := rfl
theorem p_Fl_Rs (τ : mS) (v : Nat) : mFl (vRs τ v) = mFl τ := rfl
theorem p_Fl_Lt (τ : mS) (v : Nat) : mFl (vLt τ v) = mFl τ := rfl
theorem p_Fl_To (τ : mS) (v : Nat → Bool) : mFl (vTo τ v) = mFl τ := rfl
theorem p_Fl_Ra (τ : mS) (v : Nat) : mFl (vRa τ v) = mFl τ := rfl
theorem p_Fl_Rz (τ : mS) (v : Nat) : mFl (vRz τ v) = mFl τ := rfl
theorem p_Fd_Th (τ : mS) (v : Nat) : mFd (vTh τ v) = mFd τ := rfl
theorem p_Fd_Gr (τ : mS) (v : Nat) : mFd (vGr τ v) = mFd τ := rfl
theorem p_Fd_Sz (τ : mS) (v : Nat → Nat) : mFd (vSz τ v) = mFd τ := rfl
theorem p_Fd_Bk (τ : mS) (v : Nat → Bool) : mFd (vBk τ v) = mFd τ := rfl
theorem p_Fd_Fl (τ : mS) (v : Nat → Bool) : mFd (vFl τ v) = mFd τ := rfl
theorem p_Fd_Fd (τ : mS) (v : Nat → Nat) : mFd (vFd τ v) = v := rfl
theorem p_Fd_Rs (τ : mS) (v : Nat) : mFd (vRs τ v) = mFd τ := rfl
theorem p_Fd_Lt (τ : mS) (v : Nat) : mFd (vLt τ v) = mFd τ := rfl
theorem p_Fd_To (τ : mS) (v : Nat → Bool) : mFd (vTo τ v) = mFd τ := rfl
theorem p_Fd_Ra (τ : mS) (v : Nat) : mFd (vRa τ v) = mFd τ := rfl
theorem p_Fd_Rz (τ : mS) (v : Nat) : mFd (vRz τ v) = mFd τ := rfl
theorem p_Rs_Th (τ : mS) (v : Nat) : mRs (vTh τ v) = mRs τ := rfl
theorem p_Rs_Gr (τ : mS) (v : Nat) : mRs (vGr τ v) = mRs τ := rfl
theorem p_Rs_Sz (τ : mS) (v : Nat → Nat) : mRs (vSz τ v) = mRs τ := rfl
theorem p_Rs_Bk (τ : mS) (v : Nat → Bool) : mRs (vBk τ v) = mRs τ := rfl
theorem p_Rs_Fl (τ : mS) (v : Nat → Bool) : mRs (vFl τ v) = mRs τ := rfl
theorem p_Rs_Fd (τ : mS) (v : Nat → Nat) : mRs (vFd τ v) = mRs τ := rfl
theorem p_Rs_Rs (τ : mS) (v : Nat) : mRs (vRs τ v) = v := rfl
theorem p_Rs_Lt (τ : mS) (v : Nat) : mRs (vLt τ v) = mRs τ := rfl
theorem p_Rs_To (τ : mS) (v : Nat → Bool) : mRs (vTo τ v) = mRs τ := rfl
theorem p_Rs_Ra (τ : mS) (v : Nat) : mRs (vRa τ v) = mRs τ := rfl
theorem p_Rs_Rz (τ : mS) (v : Nat) : mRs (vRz τ v) = mRs τ := rfl
theorem p_Lt_Th (τ : mS) (v : Nat) : mLt (vTh τ v) = mLt τ := rfl
theorem p_Lt_Gr (τ : mS) (v : Nat) : mLt (vGr τ v) = mLt τ := rfl
theorem p_Lt_Sz (τ : mS) (v : Nat → Nat) : mLt (vSz τ v) = mLt τ := rfl
theorem p_Lt_Bk (τ : mS) (v : Nat → Bool) : mLt (vBk τ v) = mLt τ := rfl
theorem p_Lt_Fl (τ : mS) (v : Nat → Bool) : mLt (vFl τ v) = mLt τ := rfl
theorem p_Lt_Fd (τ : mS) (v : Nat → Nat) : mLt (vFd τ v) = mLt τ := rfl
theorem p_Lt_Rs (τ : mS) (v : Nat) : mLt (vRs τ v) = mLt τ := rfl
theorem p_Lt_Lt (τ : mS) (v : Nat) : mLt (vLt τ v) = v := rfl
theorem p_Lt_To (τ : mS) (v : Nat → Bool) : mLt (vTo τ v) = mLt τ := rfl
theorem p_Lt_Ra (τ : mS) (v : Nat) : mLt (vRa τ v) = mLt τ := rfl
theorem p_Lt_Rz (τ : mS) (v : Nat) : mLt (vRz τ v) = mLt τ := rfl
theorem p_To_Th (τ : mS) (v : Nat) : mTo (vTh τ v) = mTo τ := rfl
theorem p_To_Gr (τ : mS) (v : Nat) : mTo (vGr τ v) = mTo τ := rfl
theorem p_To_Sz (τ : mS) (v : Nat → Nat) : mTo (vSz τ v) = mTo τ := rfl
theorem p_To_Bk (τ : mS) (v : Nat → Bool) : mTo (vBk τ v) = mTo τ := rfl
theorem p_To_Fl (τ : mS) (v : Nat → Bool) : mTo (vFl τ v) = mTo τ := rfl
theorem p_To_Fd (τ : mS) (v : Nat → Nat) : mTo (vFd τ v) = mTo τ := rfl
theorem p_To_Rs (τ : mS) (v : Nat) : mTo (vRs τ v) = mTo τ := rfl
theorem p_To_Lt (τ : mS) (v : Nat) : mTo (vLt τ v) = mTo τ := rfl
theorem p_To_To (τ : mS) (v : Nat → Bool) : mTo (vTo τ v) = v := rfl
theorem p_To_Ra (τ : mS) (v : Nat) : mTo (vRa τ v) = mTo τ := rfl
theorem p_To_Rz (τ : mS) (v : Nat) : mTo (vRz τ v) = mTo τ := rfl
theorem p_Ra_Th (τ : mS) (v : Nat) : mRa (vTh τ v) = mRa τ := rfl
theorem p_Ra_Gr (τ : mS) (v : Nat) : mRa (vGr τ v) = mRa τ := rfl
theorem p_Ra_Sz (τ : mS) (v : Nat → Nat) : mRa (vSz τ v) = mRa τ := rfl
theorem p_Ra_Bk (τ : mS) (v : Nat → Bool) : mRa (vBk τ v) = mRa τ := rfl
theorem p_Ra_Fl (τ : mS) (v : Nat → Bool) : mRa (vFl τ v) = mRa τ := rfl
theorem p_Ra_Fd (τ : mS) (v : Nat → Nat) : mRa (vFd τ v) = mRa τ := rfl
theorem p_Ra_Rs (τ : mS) (v : Nat) : mRa (vRs τ v) = mRa τ := rfl
theorem p_Ra_Lt (τ : mS) (v : Nat) : mRa (vLt τ v) = mRa τ := rfl
theorem p_Ra_To (τ : mS) (v : Nat → Bool) : mRa (vTo τ v) = mRa τ := rfl
theorem p_Ra_Ra (τ : mS) (v : Nat) : mRa (vRa τ v) = v := rfl
theorem p_Ra_Rz (τ : mS) (v : Nat) : mRa (vRz τ v) = mRa τ := rfl
theorem p_Rz_Th (τ : mS) (v : Nat) : mRz (vTh τ v) = mRz τ := rfl
theorem p_Rz_Gr (τ : mS) (v : Nat) : mRz (vGr τ v) = mRz τ := rfl
theorem p_Rz_Sz (τ : mS) (v : Nat → Nat) : mRz (vSz τ v) = mRz τ := rfl
theorem p_Rz_Bk (τ : mS) (v : Nat → Bool) : mRz (vBk τ v) = mRz τ := rfl
theorem p_Rz_Fl (τ : mS) (v : Nat → Bool) : mRz (vFl τ v) = mRz τ := rfl
theorem p_Rz_Fd (τ : mS) (v : Nat → Nat) : mRz (vFd τ v) = mRz τ := rfl
theorem p_Rz_Rs (τ : mS) (v : Nat) : mRz (vRs τ v) = mRz τ := rfl
theorem p_Rz_Lt (τ : mS) (v : Nat) : mRz (vLt τ v) = mRz τ := rfl
theorem p_Rz_To (τ : mS) (v : Nat → Bool) : mRz (vTo τ v) = mRz τ := rfl
theorem p_Rz_Ra (τ : mS) (v : Nat) : mRz (vRa τ v) = mRz τ := rfl
theorem p_Rz_Rz (τ : mS) (v : Nat) : mRz (vRz τ v) = v := rfl
abbrev cMO (am : Nat → Nat) (τ : mS) : Nat × va_E := (am 0, .inr (3, [.int (nI (mTh τ)), .int (nI (mGr τ)), .ref (am 1), .ref (am 2), .ref (am 3), .ref (am 4), .int (nI (mRs τ)), .int (nI (mLt τ)), .ref (am 5), .int (nI (mRa τ)), .int (nI (mRz τ))]))
abbrev cMSz (am : Nat → Nat) (cI : ClassId) (τ : mS) : Nat × va_E := (am 1, .inl (cI, 4, .inl (fun k => nI (mSz τ k))))
abbrev cMBk (am : Nat → Nat) (cZ : ClassId) (τ : mS) : Nat × va_E := (am 2, .inl (cZ, 1024, .inl (fun k => bI (mBk τ k))))
abbrev cMFl (am : Nat → Nat) (cZ : ClassId) (τ : mS) : Nat × va_E := (am 3, .inl (cZ, 512, .inl (fun k => bI (mFl τ k))))
abbrev cMFd (am : Nat → Nat) (cI : ClassId) (τ : mS) : Nat × va_E := (am 4, .inl (cI, 4, .inl (fun k => nI (mFd τ k))))
abbrev cMTo (am : Nat → Nat) (cZ : ClassId) (τ : mS) : Nat × va_E := (am 5, .inl (cZ, 1024, .inl (fun k => bI (mTo τ k))))
def wm (am : Nat → Nat) (cI cZ : ClassId) (τ : mS) : va_W := [cMO am τ, cMSz am cI τ, cMBk am cZ τ, cMFl am cZ τ, cMFd am cI τ, cMTo am cZ τ]
section WM
variable {am : Nat → Nat} {cI cZ : ClassId} {τ : mS}
theorem wm_0 : (wm am cI cZ τ)[0]? = some (cMO am τ) := rfl
theorem wm_Sz : (wm am cI cZ τ)[1]? = some (cMSz am cI τ) := rfl
theorem wm_Bk : (wm am cI cZ τ)[2]? = some (cMBk am cZ τ) := rfl
theorem wm_Fl : (wm am cI cZ τ)[3]? = some (cMFl am cZ τ) := rfl
theorem wm_Fd : (wm am cI cZ τ)[4]? = some (cMFd am cI τ) := rfl
theorem wm_To : (wm am cI cZ τ)[5]? = some (cMTo am cZ τ) := rfl
theorem wm_vTh {v : Nat} : (wm am cI cZ τ).set 0 (am 0, .inr (3, [.int (nI v), .int (nI (mGr τ)), .ref (am 1), .ref (am 2), .ref (am 3), .ref (am 4), .int (nI (mRs τ)), .int (nI (mLt τ)), .ref (am 5), .int (nI (mRa τ)), .int (nI (mRz τ))])) = wm am cI cZ (vTh τ v) := rfl
theorem wm_vGr {v : Nat} : (wm am cI cZ τ).set 0 (am 0, .inr (3, [.int (nI (mTh τ)), .int (nI v), .ref (am 1), .ref (am 2), .ref (am 3), .ref (am 4), .int (nI (mRs τ)), .int (nI (mLt τ)), .ref (am 5), .int (nI (mRa τ)), .int (nI (mRz τ))])) = wm am cI cZ (vGr τ v) := rfl
theorem wm_vRs {v : Nat} : (wm am cI cZ τ).set 0 (am 0, .inr (3, [.int (nI (mTh τ)), .int (nI (mGr τ)), .ref (am 1), .ref (am 2), .ref (am 3), .ref (am 4), .int (nI v), .int (nI (mLt τ)), .ref (am 5), .int (nI (mRa τ)), .int (nI (mRz τ))])) = wm am cI cZ (vRs τ v) := rfl
theorem wm_vLt {v : Nat} : (wm am cI cZ τ).set 0 (am 0, .inr (3, [.int (nI (mTh τ)), .int (nI (mGr τ)), .ref (am 1), .ref (am 2), .ref (am 3), .ref (am 4), .int (nI (mRs τ)), .int (nI v), .ref (am 5), .int (nI (mRa τ)), .int (nI (mRz τ))])) = wm am cI cZ (vLt τ v) := rfl
theorem wm_vRa {v : Nat} : (wm am cI cZ τ).set 0 (am 0, .inr (3, [.int (nI (mTh τ)), .int (nI (mGr τ)), .ref (am 1), .ref (am 2), .ref (am 3), .ref (am 4), .int (nI (mRs τ)), .int (nI (mLt τ)), .ref (am 5), .int (nI v), .int (nI (mRz τ))])) = wm am cI cZ (vRa τ v) := rfl
theorem wm_vRz {v : Nat} : (wm am cI cZ τ).set 0 (am 0, .inr (3, [.int (nI (mTh τ)), .int (nI (mGr τ)), .ref (am 1), .ref (am 2), .ref (am 3), .ref (am 4), .int (nI (mRs τ)), .int (nI (mLt τ)), .ref (am 5), .int (nI (mRa τ)), .int (nI v)])) = wm am cI cZ (vRz τ v) := rfl
theorem wm_vSz {f : Nat → Nat} : (wm am cI cZ τ).set 1 (am 1, .inl (cI, 4, .inl (fun k => nI (f k)))) = wm am cI cZ (vSz τ f) := rfl
theorem wm_vBk {f : Nat → Bool} : (wm am cI cZ τ).set 2 (am 2, .inl (cZ, 1024, .inl (fun k => bI (f k)))) = wm am cI cZ (vBk τ f) := rfl
theorem wm_vFl {f : Nat → Bool} : (wm am cI cZ τ).set 3 (am 3, .inl (cZ, 512, .inl (fun k => bI (f k)))) = wm am cI cZ (vFl τ f) := rfl
theorem wm_vFd {f : Nat → Nat} : (wm am cI cZ τ).set 4 (am 4, .inl (cI, 4, .inl (fun k => nI (f k)))) = wm am cI cZ (vFd τ f) := rfl
theorem wm_vTo {f : Nat → Bool} : (wm am cI cZ τ).set 5 (am 5, .inl (cZ, 1024, .inl (fun k => bI (f k)))) = wm am cI cZ (vTo τ f) := rfl
end WM
def setn (F : Nat → Nat) (k v : Nat) : Nat → Nat := fun i => if i = k then v else F i
end
section
/-- how many of the first n are free -/
def c0 (B : Nat → Bool) : Nat → Nat
  | 0 => 0
  | n + 1 => if B n = true then c0 B n else c0 B n + 1
theorem c0_le (B : Nat → Bool) (n : Nat) : c0 B n ≤ n := by
  induction n with
  | zero => exact Nat.le_refl _
  | succ n ih =>
    cases h : B n with
    | true => have e : c0 B (n + 1) = c0 B n := by simp [c0, h]
              rw [e]; omega
    | false => have e : c0 B (n + 1) = c0 B n + 1 := by simp [c0, h]
               rw [e]; omega
theorem c0_t {B : Nat → Bool} {n : Nat} (h : B n = true) : c0 B (n + 1) = c0 B n := by simp [c0, h]
theorem c0_f {B : Nat → Bool} {n : Nat} (h : B n = false) : c0 B (n + 1) = c0 B n + 1 := by simp [c0, h]
theorem c0_congr {B C : Nat → Bool} {n : Nat} (h : ∀ k, k < n → B k = C k) : c0 B n = c0 C n := by
  induction n with
  | zero => rfl
  | succ n ih =>
    have h1 := ih (fun k hk => h k (by omega))
    have h2 := h n (by omega)
    cases hc : C n with
    | true => rw [c0_t (h2.trans hc), c0_t hc, h1]
    | false => rw [c0_f (h2.trans hc), c0_f hc, h1]
def mCB (τ : mS) (g : Nat) : Nat := c0 (fun k => mBk τ (256 * g + k)) (mSz τ g)
def mCF (τ : mS) (g : Nat) : Nat := c0 (fun k => mFl τ (128 * g + k)) 128
def mAB (τ : mS) : Nat → Nat
  | 0 => 0
  | g + 1 => mAB τ g + mCB τ g
def mAF (τ : mS) : Nat → Nat
  | 0 => 0
  | g + 1 => mAF τ g + mCF τ g
/-- bounds that the reference's walks need -/
def mOk (τ : mS) : Prop := 1 ≤ mGr τ ∧ mGr τ ≤ 4 ∧ mRs τ ≤ 100 ∧ (∀ g, g < 4 → mSz τ g ≤ 256) ∧ (∀ g, g < 4 → mFd τ g < 65536)
theorem mCB_le {τ : mS} (h : mOk τ) {g : Nat} (hg : g < 4) : mCB τ g ≤ 256 := Nat.le_trans (c0_le _ _) (h.2.2.2.1 g hg)
theorem mCF_le (τ : mS) (g : Nat) : mCF τ g ≤ 128 := c0_le _ _
theorem mAB_le {τ : mS} (h : mOk τ) (g : Nat) (hg : g ≤ 4) : mAB τ g ≤ 256 * g := by
  induction g with
  | zero => exact Nat.le_refl _
  | succ g ih =>
    have h1 := ih (by omega)
    have h2 := mCB_le h (g := g) (by omega)
    show mAB τ g + mCB τ g ≤ _
    omega
theorem mAF_le (τ : mS) (g : Nat) : mAF τ g ≤ 128 * g := by
  induction g with
  | zero => exact Nat.le_refl _
  | succ g ih =>
    have h2 := mCF_le τ g
    show mAF τ g + mCF τ g ≤ _
    omega
def mIsB (τ : mS) (x : Int32) : Bool := decide (0 ≤ x.toInt) && decide (x.toInt < (256 * mGr τ : Nat)) && decide (x.toInt.toNat % 256 < mSz τ (x.toInt.toNat / 256))
theorem mIsB_neg {τ : mS} {x : Int32} (h : x < 0) : mIsB τ x = false := by
  have h1 : x.toInt < 0 := Int32.lt_iff_toInt_lt.mp h
  have h2 : ¬ 0 ≤ x.toInt := by omega
  simp [mIsB, h2]
theorem mIsB_ge {τ : mS} {x : Int32} (hτ : mOk τ) (h : nI (256 * mGr τ) ≤ x) : mIsB τ x = false := by
  have h1 := Int32.le_iff_toInt_le.mp h
  have h3 := hτ.2.1
  rw [nI_toInt (by omega)] at h1
  have h2 : ¬ x.toInt < (256 * mGr τ : Nat) := by omega
  unfold mIsB
  rw [decide_eq_false h2, Bool.and_false, Bool.false_and]
theorem mIsB_nI {τ : mS} {j : Nat} (hj : j < 256 * mGr τ) (h4 : mGr τ ≤ 4) : mIsB τ (nI j) = decide (j % 256 < mSz τ (j / 256)) := by
  unfold mIsB
  rw [nI_toInt (by omega)]
  have h1 : (0 : Int) ≤ (j : Int) := by omega
  have h2 : (j : Int) < (256 * mGr τ : Nat) := by omega
  rw [decide_eq_true h1, decide_eq_true h2]
  simp
theorem in_of {x : Int32} {n : Nat} (h : ¬ x < 0) (h2 : ¬ nI n ≤ x) (hn : n < 2 ^ 31) : ∃ j : Nat, j < n ∧ x = nI j := by
  rcases pk_ix x hn with q | q | q
  · exact absurd q h
  · exact absurd q h2
  · exact q
def mIsF (τ : mS) (x : Int32) : Bool := decide (1 ≤ x.toInt) && decide (x.toInt ≤ (128 * mGr τ : Nat))
theorem mIsF_lo {τ : mS} {x : Int32} (h : x < nI 1) : mIsF τ x = false := by
  have h1 := Int32.lt_iff_toInt_lt.mp h
  rw [nI_toInt (by omega)] at h1
  have h2 : ¬ 1 ≤ x.toInt := by omega
  simp [mIsF, h2]
theorem mIsF_hi {τ : mS} {x : Int32} (hτ : mOk τ) (h : nI (128 * mGr τ) < x) : mIsF τ x = false := by
  have h1 := Int32.lt_iff_toInt_lt.mp h
  have h3 := hτ.2.1
  rw [nI_toInt (by omega)] at h1
  have h2 : ¬ x.toInt ≤ (128 * mGr τ : Nat) := by omega
  unfold mIsF
  rw [decide_eq_false h2, Bool.and_false]
theorem mIsF_t {τ : mS} {x : Int32} (hτ : mOk τ) (h : ¬ x < nI 1) (h2 : ¬ nI (128 * mGr τ) < x) : mIsF τ x = true := by
  have h3 := hτ.2.1
  have h1 : ¬ x.toInt < 1 := fun q => h (Int32.lt_iff_toInt_lt.mpr (by rw [nI_toInt (by omega)]; exact q))
  have h4 : ¬ ((128 * mGr τ : Nat) : Int) < x.toInt := fun q => h2 (Int32.lt_iff_toInt_lt.mpr (by rw [nI_toInt (by omega)]; exact q))
  have h5 : 1 ≤ x.toInt := by omega
  have h6 : x.toInt ≤ (128 * mGr τ : Nat) := by omega
  unfold mIsF
  rw [decide_eq_true h5, decide_eq_true h6]
  rfl
end
section
set_option maxHeartbeats 4000000 in
set_option maxRecDepth 100000 in
theorem c_MD_heads {l : Launch} {D : va_G} {cG cZ cI cJ : ClassId} {am : Nat → Nat} (τ : mS) (g : Nat) (hg4 : g < 65536) : gMet l D (gT cG cZ cI cJ) y_MD_heads b_MD_heads 1 (some .int) ({ frames := 0, cells := 0, slots := 0, locals := 0 }) (wm am cI cZ τ) [.int (nI g)] (wm am cI cZ τ) (some (.int (nI (gHd g)))) := by
  refine gMet_of (by decide) (Nat.le_of_ble_eq_true rfl) ?_
  intro p e s m below meth c A ls hC hA hI hl
  obtain ⟨hx, hb, hr, hlk, hown, hml, hg, hK⟩ := hC
  have hown : s.vm.findClass "GroupBitmapsModel" = some m.cls := hown
  have hl : lv_has ls 1 [(0, .int (nI g))] := hl
  refine lv_iload_n hx hb d_MD_heads_0 rfl (lv_at hl 0 rfl) ?_
  refine lv_iconst (v := nI 2) hx hb d_MD_heads_1 (by decide) ?_
  refine r_ne (a := g) (b := 2) (tgt := 9) hx hb d_MD_heads_2 (by decide) (by omega) (by omega) (fun h => ?_) (fun h => ?_)
  · refine lv_iconst (v := nI 2) hx hb d_MD_heads_9 (by decide) ?_
    exact g_ri hx hb hr hlk hI (by rw [gHd, if_neg h]) d_MD_heads_10
  · refine lv_iconst (v := nI 0) hx hb d_MD_heads_5 (by decide) ?_
    refine lv_goto (tgt := 10) hx hb d_MD_heads_6 (by decide) ?_
    exact g_ri hx hb hr hlk hI (by rw [gHd, if_pos h]) d_MD_heads_10
set_option maxHeartbeats 4000000 in
set_option maxRecDepth 100000 in
theorem c_MD_bitmap {l : Launch} {D : va_G} {cG cZ cI cJ : ClassId} {am : Nat → Nat} (τ : mS) (g : Nat) (hg4 : g < 65536) : gMet l D (gT cG cZ cI cJ) y_MD_bitmap b_MD_bitmap 1 (some .int) ({ frames := 1, cells := 0, slots := 0, locals := 20 }) (wm am cI cZ τ) [.int (nI g)] (wm am cI cZ τ) (some (.int (nI (256 * g + gHd g)))) := by
  refine gMet_of (by decide) (Nat.le_of_ble_eq_true rfl) ?_
  intro p e s m below meth c A ls hC hA hI hl
  obtain ⟨hx, hb, hr, hlk, hown, hml, hg, hK⟩ := hC
  have hown : s.vm.findClass "GroupBitmapsModel" = some m.cls := hown
  have hl : lv_has ls 1 [(0, .int (nI g))] := hl
  refine lv_sipush (v := nI 256) hx hb d_MD_bitmap_0 (by decide) ?_
  refine lv_iload_n hx hb d_MD_bitmap_3 rfl (lv_at hl 0 rfl) ?_
  refine r_imul (a := 256) (b := g) hx hb d_MD_bitmap_4 ?_
  refine lv_iload_n hx hb d_MD_bitmap_5 rfl (lv_at hl 0 rfl) ?_
  refine g_callS (own := "GroupBitmapsModel") (k := 1) (As := [.int (nI g)]) (rest := [.int (nI (256 * g))]) (c_MD_heads τ g hg4) hx hb hml hown hg hK hI hA kw_464 kw_465 kw_4 kw_466 ky_MD_heads ⟨Nat.le_of_ble_eq_true rfl, Nat.le_of_ble_eq_true rfl⟩ rfl rfl rfl hl.1 (Nat.le_of_ble_eq_true rfl) ⟨Nat.zero_le _, Nat.zero_le _⟩ d_MD_bitmap_6 rfl rfl (fun H locs hI => ?_)
  refine r_iadd (a := 256 * g) (b := gHd g) hx hb d_MD_bitmap_9 ?_
  exact g_ri hx hb hr hlk hI (rfl) d_MD_bitmap_10
set_option maxHeartbeats 4000000 in
set_option maxRecDepth 100000 in
theorem c_MD_fixed {l : Launch} {D : va_G} {cG cZ cI cJ : ClassId} {am : Nat → Nat} (τ : mS) (g : Nat) (hg4 : g < 65536) : gMet l D (gT cG cZ cI cJ) y_MD_fixed b_MD_fixed 1 (some .int) ({ frames := 1, cells := 0, slots := 0, locals := 20 }) (wm am cI cZ τ) [.int (nI g)] (wm am cI cZ τ) (some (.int (nI (gHd g + 10)))) := by
  refine gMet_of (by decide) (Nat.le_of_ble_eq_true rfl) ?_
  intro p e s m below meth c A ls hC hA hI hl
  obtain ⟨hx, hb, hr, hlk, hown, hml, hg, hK⟩ := hC
  have hown : s.vm.findClass "GroupBitmapsModel" = some m.cls := hown
  have hl : lv_has ls 1 [(0, .int (nI g))] := hl
  refine lv_iload_n hx hb d_MD_fixed_0 rfl (lv_at hl 0 rfl) ?_
  refine g_callS (own := "GroupBitmapsModel") (k := 1) (As := [.int (nI g)]) (rest := []) (c_MD_heads τ g hg4) hx hb hml hown hg hK hI hA kw_464 kw_465 kw_4 kw_466 ky_MD_heads ⟨Nat.le_of_ble_eq_true rfl, Nat.le_of_ble_eq_true rfl⟩ rfl rfl rfl hl.1 (Nat.le_of_ble_eq_true rfl) ⟨Nat.zero_le _, Nat.zero_le _⟩ d_MD_fixed_1 rfl rfl (fun H locs hI => ?_)
  refine lv_bipush (v := nI 10) hx hb d_MD_fixed_4 (by decide) ?_
  refine r_iadd (a := gHd g) (b := 10) hx hb d_MD_fixed_6 ?_
  exact g_ri hx hb hr hlk hI (rfl) d_MD_fixed_7
set_option maxHeartbeats 4000000 in
set_option maxRecDepth 100000 in
theorem c_MD_thrown {l : Launch} {D : va_G} {cG cZ cI cJ : ClassId} {am : Nat → Nat} (τ : mS)  : gMet l D (gT cG cZ cI cJ) y_MD_thrown b_MD_thrown 1 (some .int) ({ frames := 0, cells := 0, slots := 0, locals := 0 }) (wm am cI cZ τ) [.ref (am 0)] (wm am cI cZ τ) (some (.int (nI (mTh τ)))) := by
  refine gMet_of (by decide) (Nat.le_of_ble_eq_true rfl) ?_
  intro p e s m below meth c A ls hC hA hI hl
  obtain ⟨hx, hb, hr, hlk, hown, hml, hg, hK⟩ := hC
  have hown : s.vm.findClass "GroupBitmapsModel" = some m.cls := hown
  have hl : lv_has ls 1 [(0, .ref (am 0))] := hl
  refine lv_aload_n hx hb d_MD_thrown_0 rfl (lv_at hl 0 rfl) ?_
  refine g_get (own := "GroupBitmapsModel") (C := R_MD) (T := F_MD) (N := 11) (ci := 3) (v := .int (nI (mTh τ))) hx hb hg ku_MD hown hK hI (0) (wm_0) rfl 0 (by decide) kw_470 rfl d_MD_thrown_1 ?_
  exact g_ri hx hb hr hlk hI (rfl) d_MD_thrown_4
set_option maxHeartbeats 4000000 in
set_option maxRecDepth 100000 in
theorem c_MD_freeBlocks {l : Launch} {D : va_G} {cG cZ cI cJ : ClassId} {am : Nat → Nat} (τ : mS) (hτ : mOk τ) (g : Nat) (hg4 : g < 4) : gMet l D (gT cG cZ cI cJ) y_MD_freeBlocks b_MD_freeBlocks 4 (some .int) ({ frames := 0, cells := 0, slots := 0, locals := 0 }) (wm am cI cZ τ) [.ref (am 0), .int (nI g)] (wm am cI cZ τ) (some (.int (nI (mCB τ g)))) := by
  refine gMet_of (by decide) (Nat.le_of_ble_eq_true rfl) ?_
  intro p e s m below meth c A ls hC hA hI hl
  obtain ⟨hx, hb, hr, hlk, hown, hml, hg, hK⟩ := hC
  have hown : s.vm.findClass "GroupBitmapsModel" = some m.cls := hown
  have hl : lv_has ls 4 [(0, .ref (am 0)), (1, .int (nI g))] := hl
  have hc1 := hτ.1
  have hc2 := hτ.2.1
  have hz := hτ.2.2.2.1 g hg4
  refine lv_iconst (v := nI 0) hx hb d_MD_freeBlocks_0 (by decide) ?_
  refine lv_istore_n (lv' := [(2, .int (nI 0)), (0, .ref (am 0)), (1, .int (nI g))]) hx hb d_MD_freeBlocks_1 rfl hl (by decide) rfl (fun ls hl => ?_)
  refine lv_iconst (v := nI 0) hx hb d_MD_freeBlocks_2 (by decide) ?_
  refine lv_istore_n (lv' := [(3, .int (nI 0)), (2, .int (nI 0)), (0, .ref (am 0)), (1, .int (nI g))]) hx hb d_MD_freeBlocks_3 rfl hl (by decide) rfl (fun ls hl => ?_)
  have loop : ∀ (fuel : Nat) (k : Nat), mSz τ g + 1 ≤ fuel + k → (k ≤ mSz τ g) → ∀ (H : Heap) (locs : List Loc) (ls : Array Slot), gI D A s.heap (wm am cI cZ τ) H locs → lv_has ls 4 [(0, .ref (am 0)), (1, .int (nI g)), (2, .int (nI (c0 (fun k => mBk τ (256 * g + k)) k))), (3, .int (nI k))] → W p l e ({ frames := 0, cells := 0, slots := 0, locals := 0 }) s m ([.ref (am 0), .int (nI g)] : List Value).toArray below meth c H locs 0 0 (gQ D below ([.ref (am 0), .int (nI g)] : List Value).toArray s A (wm am cI cZ τ) (some (.int (nI (mCB τ g))))) (F0 m 4 ls []) := by
    intro fuel
    induction fuel with
    | zero => intro k hfu hk; exact absurd hfu (by omega)
    | succ fuel ih =>
      intro k hfu hk H locs ls hI hl
      have hcl := c0_le (fun k => mBk τ (256 * g + k)) k
      refine lv_iload_n hx hb d_MD_freeBlocks_4 rfl (lv_at hl 3 rfl) ?_
      refine lv_aload_n hx hb d_MD_freeBlocks_5 rfl (lv_at hl 0 rfl) ?_
      refine g_get (own := "GroupBitmapsModel") (C := R_MD) (T := F_MD) (N := 11) (ci := 3) (v := .ref (am 1)) hx hb hg ku_MD hown hK hI (0) (wm_0) rfl 2 (by decide) kw_472 rfl d_MD_freeBlocks_6 ?_
      refine lv_iload_n hx hb d_MD_freeBlocks_9 rfl (lv_at hl 1 rfl) ?_
      refine g_iald (F := (mSz τ)) (i := g) hx hb hK hI (1) 2 (wm_Sz) rfl (hg4) (by omega) d_MD_freeBlocks_10 ?_
      refine r_ge (a := k) (b := (mSz τ) g) (tgt := 43) hx hb d_MD_freeBlocks_11 (by decide) (by omega) (by omega) (fun h => ?_) (fun h => ?_)
      · obtain rfl : k = mSz τ g := by omega
        refine lv_iload_n hx hb d_MD_freeBlocks_43 rfl (lv_at hl 2 rfl) ?_
        exact g_ri hx hb hr hlk hI (rfl) d_MD_freeBlocks_44
      · refine lv_aload_n hx hb d_MD_freeBlocks_14 rfl (lv_at hl 0 rfl) ?_
        refine g_get (own := "GroupBitmapsModel") (C := R_MD) (T := F_MD) (N := 11) (ci := 3) (v := .ref (am 2)) hx hb hg ku_MD hown hK hI (0) (wm_0) rfl 3 (by decide) kw_473 rfl d_MD_freeBlocks_15 ?_
        refine lv_sipush (v := nI 256) hx hb d_MD_freeBlocks_18 (by decide) ?_
        refine lv_iload_n hx hb d_MD_freeBlocks_21 rfl (lv_at hl 1 rfl) ?_
        refine r_imul (a := 256) (b := g) hx hb d_MD_freeBlocks_22 ?_
        refine lv_iload_n hx hb d_MD_freeBlocks_23 rfl (lv_at hl 3 rfl) ?_
        refine r_iadd (a := 256 * g) (b := k) hx hb d_MD_freeBlocks_24 ?_
        refine g_zald (B := (mBk τ)) (i := (256 * g) + k) hx hb hK hI (2) 1 (wm_Bk) rfl (by omega) (by omega) d_MD_freeBlocks_25 ?_
        refine r_bz (b := (mBk τ) ((256 * g) + k)) (tgt := 33) hx hb d_MD_freeBlocks_26 (by decide) (fun h2 => ?_) (fun h2 => ?_)
        · have e1 := c0_f (B := (fun k => mBk τ (256 * g + k))) h2
          refine lv_iload_n hx hb d_MD_freeBlocks_33 rfl (lv_at hl 2 rfl) ?_
          refine lv_iconst (v := nI 1) hx hb d_MD_freeBlocks_34 (by decide) ?_
          refine r_iadd (a := c0 (fun k => mBk τ (256 * g + k)) k) (b := 1) hx hb d_MD_freeBlocks_35 ?_
          refine lv_istore_n (lv' := [(2, .int (nI ((c0 (fun k => mBk τ (256 * g + k)) k) + 1))), (0, .ref (am 0)), (1, .int (nI g)), (3, .int (nI k))]) hx hb d_MD_freeBlocks_36 rfl hl (by decide) rfl (fun ls hl => ?_)
          refine lv_iinc (v := nI (k + 1)) (lv' := [(3, .int (nI (k + 1))), (2, .int (nI ((c0 (fun k => mBk τ (256 * g + k)) k) + 1))), (0, .ref (am 0)), (1, .int (nI g))]) hx hb d_MD_freeBlocks_37 hl (k := 3) rfl (nI_1 _) (by decide) rfl (fun ls hl => ?_)
          refine lv_goto (tgt := 4) hx hb d_MD_freeBlocks_40 (by decide) ?_
          exact ih (k + 1) (by omega) (by omega) _ _ _ hI (by rw [e1]; exact lv_sub hl [2, 3, 1, 0] rfl)
        · have e1 := c0_t (B := (fun k => mBk τ (256 * g + k))) h2
          refine lv_iload_n hx hb d_MD_freeBlocks_29 rfl (lv_at hl 2 rfl) ?_
          refine lv_goto (tgt := 36) hx hb d_MD_freeBlocks_30 (by decide) ?_
          refine lv_istore_n (lv' := [(2, .int (nI (c0 (fun k => mBk τ (256 * g + k)) k))), (0, .ref (am 0)), (1, .int (nI g)), (3, .int (nI k))]) hx hb d_MD_freeBlocks_36 rfl hl (by decide) rfl (fun ls hl => ?_)
          refine lv_iinc (v := nI (k + 1)) (lv' := [(3, .int (nI (k + 1))), (2, .int (nI (c0 (fun k => mBk τ (256 * g + k)) k))), (0, .ref (am 0)), (1, .int (nI g))]) hx hb d_MD_freeBlocks_37 hl (k := 3) rfl (nI_1 _) (by decide) rfl (fun ls hl => ?_)
          refine lv_goto (tgt := 4) hx hb d_MD_freeBlocks_40 (by decide) ?_
          exact ih (k + 1) (by omega) (by omega) _ _ _ hI (by rw [e1]; exact lv_sub hl [2, 3, 1, 0] rfl)
  exact loop (mSz τ g + 1) 0 (by omega) (Nat.zero_le _) _ _ _ hI (lv_sub hl [2, 3, 1, 0] rfl)
set_option maxHeartbeats 4000000 in
set_option maxRecDepth 100000 in
theorem c_MD_freeFiles {l : Launch} {D : va_G} {cG cZ cI cJ : ClassId} {am : Nat → Nat} (τ : mS) (g : Nat) (hg4 : g < 4) : gMet l D (gT cG cZ cI cJ) y_MD_freeFiles b_MD_freeFiles 4 (some .int) ({ frames := 0, cells := 0, slots := 0, locals := 0 }) (wm am cI cZ τ) [.ref (am 0), .int (nI g)] (wm am cI cZ τ) (some (.int (nI (mCF τ g)))) := by
  refine gMet_of (by decide) (Nat.le_of_ble_eq_true rfl) ?_
  intro p e s m below meth c A ls hC hA hI hl
  obtain ⟨hx, hb, hr, hlk, hown, hml, hg, hK⟩ := hC
  have hown : s.vm.findClass "GroupBitmapsModel" = some m.cls := hown
  have hl : lv_has ls 4 [(0, .ref (am 0)), (1, .int (nI g))] := hl
  refine lv_iconst (v := nI 0) hx hb d_MD_freeFiles_0 (by decide) ?_
  refine lv_istore_n (lv' := [(2, .int (nI 0)), (0, .ref (am 0)), (1, .int (nI g))]) hx hb d_MD_freeFiles_1 rfl hl (by decide) rfl (fun ls hl => ?_)
  refine lv_iconst (v := nI 0) hx hb d_MD_freeFiles_2 (by decide) ?_
  refine lv_istore_n (lv' := [(3, .int (nI 0)), (2, .int (nI 0)), (0, .ref (am 0)), (1, .int (nI g))]) hx hb d_MD_freeFiles_3 rfl hl (by decide) rfl (fun ls hl => ?_)
  have loop : ∀ (fuel : Nat) (k : Nat), 129 ≤ fuel + k → (k ≤ 128) → ∀ (H : Heap) (locs : List Loc) (ls : Array Slot), gI D A s.heap (wm am cI cZ τ) H locs → lv_has ls 4 [(0, .ref (am 0)), (1, .int (nI g)), (2, .int (nI (c0 (fun k => mFl τ (128 * g + k)) k))), (3, .int (nI k))] → W p l e ({ frames := 0, cells := 0, slots := 0, locals := 0 }) s m ([.ref (am 0), .int (nI g)] : List Value).toArray below meth c H locs 0 0 (gQ D below ([.ref (am 0), .int (nI g)] : List Value).toArray s A (wm am cI cZ τ) (some (.int (nI (mCF τ g))))) (F0 m 4 ls []) := by
    intro fuel
    induction fuel with
    | zero => intro k hfu hk; exact absurd hfu (by omega)
    | succ fuel ih =>
      intro k hfu hk H locs ls hI hl
      have hcl := c0_le (fun k => mFl τ (128 * g + k)) k
      refine lv_iload_n hx hb d_MD_freeFiles_4 rfl (lv_at hl 3 rfl) ?_
      refine lv_sipush (v := nI 128) hx hb d_MD_freeFiles_5 (by decide) ?_
      refine r_ge (a := k) (b := 128) (tgt := 40) hx hb d_MD_freeFiles_8 (by decide) (by omega) (by omega) (fun h => ?_) (fun h => ?_)
      · obtain rfl : k = 128 := by omega
        refine lv_iload_n hx hb d_MD_freeFiles_40 rfl (lv_at hl 2 rfl) ?_
        exact g_ri hx hb hr hlk hI (rfl) d_MD_freeFiles_41
      · refine lv_aload_n hx hb d_MD_freeFiles_11 rfl (lv_at hl 0 rfl) ?_
        refine g_get (own := "GroupBitmapsModel") (C := R_MD) (T := F_MD) (N := 11) (ci := 3) (v := .ref (am 3)) hx hb hg ku_MD hown hK hI (0) (wm_0) rfl 4 (by decide) kw_474 rfl d_MD_freeFiles_12 ?_
        refine lv_sipush (v := nI 128) hx hb d_MD_freeFiles_15 (by decide) ?_
        refine lv_iload_n hx hb d_MD_freeFiles_18 rfl (lv_at hl 1 rfl) ?_
        refine r_imul (a := 128) (b := g) hx hb d_MD_freeFiles_19 ?_
        refine lv_iload_n hx hb d_MD_freeFiles_20 rfl (lv_at hl 3 rfl) ?_
        refine r_iadd (a := 128 * g) (b := k) hx hb d_MD_freeFiles_21 ?_
        refine g_zald (B := (mFl τ)) (i := (128 * g) + k) hx hb hK hI (3) 1 (wm_Fl) rfl (by omega) (by omega) d_MD_freeFiles_22 ?_
        refine r_bz (b := (mFl τ) ((128 * g) + k)) (tgt := 30) hx hb d_MD_freeFiles_23 (by decide) (fun h2 => ?_) (fun h2 => ?_)
        · have e1 := c0_f (B := (fun k => mFl τ (128 * g + k))) h2
          refine lv_iload_n hx hb d_MD_freeFiles_30 rfl (lv_at hl 2 rfl) ?_
          refine lv_iconst (v := nI 1) hx hb d_MD_freeFiles_31 (by decide) ?_
          refine r_iadd (a := c0 (fun k => mFl τ (128 * g + k)) k) (b := 1) hx hb d_MD_freeFiles_32 ?_
          refine lv_istore_n (lv' := [(2, .int (nI ((c0 (fun k => mFl τ (128 * g + k)) k) + 1))), (0, .ref (am 0)), (1, .int (nI g)), (3, .int (nI k))]) hx hb d_MD_freeFiles_33 rfl hl (by decide) rfl (fun ls hl => ?_)
          refine lv_iinc (v := nI (k + 1)) (lv' := [(3, .int (nI (k + 1))), (2, .int (nI ((c0 (fun k => mFl τ (128 * g + k)) k) + 1))), (0, .ref (am 0)), (1, .int (nI g))]) hx hb d_MD_freeFiles_34 hl (k := 3) rfl (nI_1 _) (by decide) rfl (fun ls hl => ?_)
          refine lv_goto (tgt := 4) hx hb d_MD_freeFiles_37 (by decide) ?_
          exact ih (k + 1) (by omega) (by omega) _ _ _ hI (by rw [e1]; exact lv_sub hl [2, 3, 1, 0] rfl)
        · have e1 := c0_t (B := (fun k => mFl τ (128 * g + k))) h2
          refine lv_iload_n hx hb d_MD_freeFiles_26 rfl (lv_at hl 2 rfl) ?_
          refine lv_goto (tgt := 33) hx hb d_MD_freeFiles_27 (by decide) ?_
          refine lv_istore_n (lv' := [(2, .int (nI (c0 (fun k => mFl τ (128 * g + k)) k))), (0, .ref (am 0)), (1, .int (nI g)), (3, .int (nI k))]) hx hb d_MD_freeFiles_33 rfl hl (by decide) rfl (fun ls hl => ?_)
          refine lv_iinc (v := nI (k + 1)) (lv' := [(3, .int (nI (k + 1))), (2, .int (nI (c0 (fun k => mFl τ (128 * g + k)) k))), (0, .ref (am 0)), (1, .int (nI g))]) hx hb d_MD_freeFiles_34 hl (k := 3) rfl (nI_1 _) (by decide) rfl (fun ls hl => ?_)
          refine lv_goto (tgt := 4) hx hb d_MD_freeFiles_37 (by decide) ?_
          exact ih (k + 1) (by omega) (by omega) _ _ _ hI (by rw [e1]; exact lv_sub hl [2, 3, 1, 0] rfl)
  exact loop 129 0 (by omega) (Nat.zero_le _) _ _ _ hI (lv_sub hl [2, 3, 1, 0] rfl)
set_option maxHeartbeats 4000000 in
set_option maxRecDepth 100000 in
theorem c_MD_allBlocks {l : Launch} {D : va_G} {cG cZ cI cJ : ClassId} {am : Nat → Nat} (τ : mS) (hτ : mOk τ)  : gMet l D (gT cG cZ cI cJ) y_MD_allBlocks b_MD_allBlocks 3 (some .int) ({ frames := 1, cells := 0, slots := 0, locals := 23 }) (wm am cI cZ τ) [.ref (am 0)] (wm am cI cZ τ) (some (.int (nI (mAB τ (mGr τ))))) := by
  refine gMet_of (by decide) (Nat.le_of_ble_eq_true rfl) ?_
  intro p e s m below meth c A ls hC hA hI hl
  obtain ⟨hx, hb, hr, hlk, hown, hml, hg, hK⟩ := hC
  have hown : s.vm.findClass "GroupBitmapsModel" = some m.cls := hown
  have hl : lv_has ls 3 [(0, .ref (am 0))] := hl
  have hc1 := hτ.1
  have hc2 := hτ.2.1
  refine lv_iconst (v := nI 0) hx hb d_MD_allBlocks_0 (by decide) ?_
  refine lv_istore_n (lv' := [(1, .int (nI 0)), (0, .ref (am 0))]) hx hb d_MD_allBlocks_1 rfl hl (by decide) rfl (fun ls hl => ?_)
  refine lv_iconst (v := nI 0) hx hb d_MD_allBlocks_2 (by decide) ?_
  refine lv_istore_n (lv' := [(2, .int (nI 0)), (1, .int (nI 0)), (0, .ref (am 0))]) hx hb d_MD_allBlocks_3 rfl hl (by decide) rfl (fun ls hl => ?_)
  have loop : ∀ (fuel : Nat) (g : Nat), mGr τ + 1 ≤ fuel + g → (g ≤ mGr τ) → ∀ (H : Heap) (locs : List Loc) (ls : Array Slot), gI D A s.heap (wm am cI cZ τ) H locs → lv_has ls 3 [(0, .ref (am 0)), (1, .int (nI (mAB τ g))), (2, .int (nI g))] → W p l e ({ frames := 1, cells := 0, slots := 0, locals := 23 }) s m ([.ref (am 0)] : List Value).toArray below meth c H locs 0 0 (gQ D below ([.ref (am 0)] : List Value).toArray s A (wm am cI cZ τ) (some (.int (nI (mAB τ (mGr τ)))))) (F0 m 4 ls []) := by
    intro fuel
    induction fuel with
    | zero => intro g hfu hgc; exact absurd hfu (by omega)
    | succ fuel ih =>
      intro g hfu hgc H locs ls hI hl
      refine lv_iload_n hx hb d_MD_allBlocks_4 rfl (lv_at hl 2 rfl) ?_
      refine lv_aload_n hx hb d_MD_allBlocks_5 rfl (lv_at hl 0 rfl) ?_
      refine g_get (own := "GroupBitmapsModel") (C := R_MD) (T := F_MD) (N := 11) (ci := 3) (v := .int (nI (mGr τ))) hx hb hg ku_MD hown hK hI (0) (wm_0) rfl 1 (by decide) kw_471 rfl d_MD_allBlocks_6 ?_
      refine r_ge (a := g) (b := mGr τ) (tgt := 26) hx hb d_MD_allBlocks_9 (by decide) (by omega) (by omega) (fun h => ?_) (fun h => ?_)
      · obtain rfl : g = mGr τ := by omega
        refine lv_iload_n hx hb d_MD_allBlocks_26 rfl (lv_at hl 1 rfl) ?_
        exact g_ri hx hb hr hlk hI (rfl) d_MD_allBlocks_27
      · refine lv_iload_n hx hb d_MD_allBlocks_12 rfl (lv_at hl 1 rfl) ?_
        refine lv_aload_n hx hb d_MD_allBlocks_13 rfl (lv_at hl 0 rfl) ?_
        refine lv_iload_n hx hb d_MD_allBlocks_14 rfl (lv_at hl 2 rfl) ?_
        refine g_callV (own := "GroupBitmapsModel") (C := "GroupBitmapsModel") (T := F_MD) (N := 11) (k := 1) (q0 := 0) (ci := 3) (a := am 0) (As := [.int (nI g)]) (rest := [.int (nI (mAB τ g))]) (c_MD_freeBlocks τ hτ g (by omega)) hx hb hml hown hg hK hI hA kw_517 kw_519 kp_23 kw_4 kw_520 ky_MD_freeBlocks ⟨Nat.le_of_ble_eq_true rfl, Nat.le_of_ble_eq_true rfl⟩ rfl rfl (wm_0) rfl rfl hl.1 (Nat.le_of_ble_eq_true rfl) ⟨Nat.zero_le _, Nat.zero_le _⟩ d_MD_allBlocks_15 rfl rfl (fun H locs hI => ?_)
        refine r_iadd (a := mAB τ g) (b := mCB τ g) hx hb d_MD_allBlocks_18 ?_
        refine lv_istore_n (lv' := [(1, .int (nI ((mAB τ g) + (mCB τ g)))), (0, .ref (am 0)), (2, .int (nI g))]) hx hb d_MD_allBlocks_19 rfl hl (by decide) rfl (fun ls hl => ?_)
        refine lv_iinc (v := nI (g + 1)) (lv' := [(2, .int (nI (g + 1))), (1, .int (nI ((mAB τ g) + (mCB τ g)))), (0, .ref (am 0))]) hx hb d_MD_allBlocks_20 hl (k := 2) rfl (nI_1 _) (by decide) rfl (fun ls hl => ?_)
        refine lv_goto (tgt := 4) hx hb d_MD_allBlocks_23 (by decide) ?_
        exact ih (g + 1) (by omega) (by omega) _ _ _ hI (lv_sub hl [2, 1, 0] rfl)
  exact loop (mGr τ + 1) 0 (by omega) (Nat.zero_le _) _ _ _ hI (lv_sub hl [2, 1, 0] rfl)
set_option maxHeartbeats 4000000 in
set_option maxRecDepth 100000 in
theorem c_MD_allFiles {l : Launch} {D : va_G} {cG cZ cI cJ : ClassId} {am : Nat → Nat} (τ : mS) (hτ : mOk τ)  : gMet l D (gT cG cZ cI cJ) y_MD_allFiles b_MD_allFiles 3 (some .int) ({ frames := 1, cells := 0, slots := 0, locals := 23 }) (wm am cI cZ τ) [.ref (am 0)] (wm am cI cZ τ) (some (.int (nI (mAF τ (mGr τ))))) := by
  refine gMet_of (by decide) (Nat.le_of_ble_eq_true rfl) ?_
  intro p e s m below meth c A ls hC hA hI hl
  obtain ⟨hx, hb, hr, hlk, hown, hml, hg, hK⟩ := hC
  have hown : s.vm.findClass "GroupBitmapsModel" = some m.cls := hown
  have hl : lv_has ls 3 [(0, .ref (am 0))] := hl
  have hc1 := hτ.1
  have hc2 := hτ.2.1
  refine lv_iconst (v := nI 0) hx hb d_MD_allFiles_0 (by decide) ?_
  refine lv_istore_n (lv' := [(1, .int (nI 0)), (0, .ref (am 0))]) hx hb d_MD_allFiles_1 rfl hl (by decide) rfl (fun ls hl => ?_)
  refine lv_iconst (v := nI 0) hx hb d_MD_allFiles_2 (by decide) ?_
  refine lv_istore_n (lv' := [(2, .int (nI 0)), (1, .int (nI 0)), (0, .ref (am 0))]) hx hb d_MD_allFiles_3 rfl hl (by decide) rfl (fun ls hl => ?_)
  have loop : ∀ (fuel : Nat) (g : Nat), mGr τ + 1 ≤ fuel + g → (g ≤ mGr τ) → ∀ (H : Heap) (locs : List Loc) (ls : Array Slot), gI D A s.heap (wm am cI cZ τ) H locs → lv_has ls 3 [(0, .ref (am 0)), (1, .int (nI (mAF τ g))), (2, .int (nI g))] → W p l e ({ frames := 1, cells := 0, slots := 0, locals := 23 }) s m ([.ref (am 0)] : List Value).toArray below meth c H locs 0 0 (gQ D below ([.ref (am 0)] : List Value).toArray s A (wm am cI cZ τ) (some (.int (nI (mAF τ (mGr τ)))))) (F0 m 4 ls []) := by
    intro fuel
    induction fuel with
    | zero => intro g hfu hgc; exact absurd hfu (by omega)
    | succ fuel ih =>
      intro g hfu hgc H locs ls hI hl
      refine lv_iload_n hx hb d_MD_allFiles_4 rfl (lv_at hl 2 rfl) ?_
      refine lv_aload_n hx hb d_MD_allFiles_5 rfl (lv_at hl 0 rfl) ?_
      refine g_get (own := "GroupBitmapsModel") (C := R_MD) (T := F_MD) (N := 11) (ci := 3) (v := .int (nI (mGr τ))) hx hb hg ku_MD hown hK hI (0) (wm_0) rfl 1 (by decide) kw_471 rfl d_MD_allFiles_6 ?_
      refine r_ge (a := g) (b := mGr τ) (tgt := 26) hx hb d_MD_allFiles_9 (by decide) (by omega) (by omega) (fun h => ?_) (fun h => ?_)
      · obtain rfl : g = mGr τ := by omega
        refine lv_iload_n hx hb d_MD_allFiles_26 rfl (lv_at hl 1 rfl) ?_
        exact g_ri hx hb hr hlk hI (rfl) d_MD_allFiles_27
      · refine lv_iload_n hx hb d_MD_allFiles_12 rfl (lv_at hl 1 rfl) ?_
        refine lv_aload_n hx hb d_MD_allFiles_13 rfl (lv_at hl 0 rfl) ?_
        refine lv_iload_n hx hb d_MD_allFiles_14 rfl (lv_at hl 2 rfl) ?_
        refine g_callV (own := "GroupBitmapsModel") (C := "GroupBitmapsModel") (T := F_MD) (N := 11) (k := 1) (q0 := 0) (ci := 3) (a := am 0) (As := [.int (nI g)]) (rest := [.int (nI (mAF τ g))]) (c_MD_freeFiles τ g (by omega)) hx hb hml hown hg hK hI hA kw_565 kw_567 kp_30 kw_4 kw_568 ky_MD_freeFiles ⟨Nat.le_of_ble_eq_true rfl, Nat.le_of_ble_eq_true rfl⟩ rfl rfl (wm_0) rfl rfl hl.1 (Nat.le_of_ble_eq_true rfl) ⟨Nat.zero_le _, Nat.zero_le _⟩ d_MD_allFiles_15 rfl rfl (fun H locs hI => ?_)
        refine r_iadd (a := mAF τ g) (b := mCF τ g) hx hb d_MD_allFiles_18 ?_
        refine lv_istore_n (lv' := [(1, .int (nI ((mAF τ g) + (mCF τ g)))), (0, .ref (am 0)), (2, .int (nI g))]) hx hb d_MD_allFiles_19 rfl hl (by decide) rfl (fun ls hl => ?_)
        refine lv_iinc (v := nI (g + 1)) (lv' := [(2, .int (nI (g + 1))), (1, .int (nI ((mAF τ g) + (mCF τ g)))), (0, .ref (am 0))]) hx hb d_MD_allFiles_20 hl (k := 2) rfl (nI_1 _) (by decide) rfl (fun ls hl => ?_)
        refine lv_goto (tgt := 4) hx hb d_MD_allFiles_23 (by decide) ?_
        exact ih (g + 1) (by omega) (by omega) _ _ _ hI (lv_sub hl [2, 1, 0] rfl)
  exact loop (mGr τ + 1) 0 (by omega) (Nat.zero_le _) _ _ _ hI (lv_sub hl [2, 1, 0] rfl)
set_option maxHeartbeats 4000000 in
set_option maxRecDepth 100000 in
theorem c_MD_isBlock {l : Launch} {D : va_G} {cG cZ cI cJ : ClassId} {am : Nat → Nat} (τ : mS) (hτ : mOk τ) (x : Int32) : gMet l D (gT cG cZ cI cJ) y_MD_isBlock b_MD_isBlock 2 (some .boolean) ({ frames := 0, cells := 0, slots := 0, locals := 0 }) (wm am cI cZ τ) [.ref (am 0), .int x] (wm am cI cZ τ) (some (.int (bI (mIsB τ x)))) := by
  refine gMet_of (by decide) (Nat.le_of_ble_eq_true rfl) ?_
  intro p e s m below meth c A ls hC hA hI hl
  obtain ⟨hx, hb, hr, hlk, hown, hml, hg, hK⟩ := hC
  have hown : s.vm.findClass "GroupBitmapsModel" = some m.cls := hown
  have hl : lv_has ls 2 [(0, .ref (am 0)), (1, .int x)] := hl
  have hc1 := hτ.1
  have hc2 := hτ.2.1
  refine lv_iload_n hx hb d_MD_isBlock_0 rfl (lv_at hl 1 rfl) ?_
  refine lv_if_lt (tgt := 38) hx hb d_MD_isBlock_1 (by decide) (fun h => ?_) (fun h => ?_)
  · refine lv_iconst (v := bI false) hx hb d_MD_isBlock_38 (by decide) ?_
    exact g_rz hx hb hr hlk hI (by rw [mIsB_neg h]) d_MD_isBlock_39
  · refine lv_iload_n hx hb d_MD_isBlock_4 rfl (lv_at hl 1 rfl) ?_
    refine lv_sipush (v := nI 256) hx hb d_MD_isBlock_5 (by decide) ?_
    refine lv_aload_n hx hb d_MD_isBlock_8 rfl (lv_at hl 0 rfl) ?_
    refine g_get (own := "GroupBitmapsModel") (C := R_MD) (T := F_MD) (N := 11) (ci := 3) (v := .int (nI (mGr τ))) hx hb hg ku_MD hown hK hI (0) (wm_0) rfl 1 (by decide) kw_471 rfl d_MD_isBlock_9 ?_
    refine r_imul (a := 256) (b := mGr τ) hx hb d_MD_isBlock_12 ?_
    refine lv_icmp_ge (tgt := 38) hx hb d_MD_isBlock_13 (by decide) (fun h2 => ?_) (fun h2 => ?_)
    · refine lv_iconst (v := bI false) hx hb d_MD_isBlock_38 (by decide) ?_
      exact g_rz hx hb hr hlk hI (by rw [mIsB_ge hτ h2]) d_MD_isBlock_39
    · obtain ⟨j, hj, rfl⟩ := in_of h h2 (by omega)
      have hz := hτ.2.2.2.1 (j / 256) (by omega)
      refine lv_iload_n hx hb d_MD_isBlock_16 rfl (lv_at hl 1 rfl) ?_
      refine lv_sipush (v := nI 256) hx hb d_MD_isBlock_17 (by decide) ?_
      refine r_irem (a := j) (b := 256) hx hb (by omega) (by omega) (by omega) d_MD_isBlock_20 ?_
      refine lv_aload_n hx hb d_MD_isBlock_21 rfl (lv_at hl 0 rfl) ?_
      refine g_get (own := "GroupBitmapsModel") (C := R_MD) (T := F_MD) (N := 11) (ci := 3) (v := .ref (am 1)) hx hb hg ku_MD hown hK hI (0) (wm_0) rfl 2 (by decide) kw_472 rfl d_MD_isBlock_22 ?_
      refine lv_iload_n hx hb d_MD_isBlock_25 rfl (lv_at hl 1 rfl) ?_
      refine lv_sipush (v := nI 256) hx hb d_MD_isBlock_26 (by decide) ?_
      refine r_idiv (a := j) (b := 256) hx hb (by omega) (by omega) (by omega) d_MD_isBlock_29 ?_
      refine g_iald (F := (mSz τ)) (i := j / 256) hx hb hK hI (1) 2 (wm_Sz) rfl (by omega) (by omega) d_MD_isBlock_30 ?_
      refine r_ge (a := j % 256) (b := (mSz τ) (j / 256)) (tgt := 38) hx hb d_MD_isBlock_31 (by decide) (by omega) (by omega) (fun h3 => ?_) (fun h3 => ?_)
      · refine lv_iconst (v := bI false) hx hb d_MD_isBlock_38 (by decide) ?_
        exact g_rz hx hb hr hlk hI (by rw [mIsB_nI hj hc2, decide_eq_false (Nat.not_lt.mpr h3)]) d_MD_isBlock_39
      · refine lv_iconst (v := bI true) hx hb d_MD_isBlock_34 (by decide) ?_
        refine lv_goto (tgt := 39) hx hb d_MD_isBlock_35 (by decide) ?_
        exact g_rz hx hb hr hlk hI (by rw [mIsB_nI hj hc2, decide_eq_true h3]) d_MD_isBlock_39
set_option maxHeartbeats 4000000 in
set_option maxRecDepth 100000 in
theorem c_MD_isFile {l : Launch} {D : va_G} {cG cZ cI cJ : ClassId} {am : Nat → Nat} (τ : mS) (hτ : mOk τ) (x : Int32) : gMet l D (gT cG cZ cI cJ) y_MD_isFile b_MD_isFile 2 (some .boolean) ({ frames := 0, cells := 0, slots := 0, locals := 0 }) (wm am cI cZ τ) [.ref (am 0), .int x] (wm am cI cZ τ) (some (.int (bI (mIsF τ x)))) := by
  refine gMet_of (by decide) (Nat.le_of_ble_eq_true rfl) ?_
  intro p e s m below meth c A ls hC hA hI hl
  obtain ⟨hx, hb, hr, hlk, hown, hml, hg, hK⟩ := hC
  have hown : s.vm.findClass "GroupBitmapsModel" = some m.cls := hown
  have hl : lv_has ls 2 [(0, .ref (am 0)), (1, .int x)] := hl
  have hc1 := hτ.1
  have hc2 := hτ.2.1
  refine lv_iload_n hx hb d_MD_isFile_0 rfl (lv_at hl 1 rfl) ?_
  refine lv_iconst (v := nI 1) hx hb d_MD_isFile_1 (by decide) ?_
  refine lv_icmp_lt (tgt := 21) hx hb d_MD_isFile_2 (by decide) (fun h => ?_) (fun h => ?_)
  · refine lv_iconst (v := bI false) hx hb d_MD_isFile_21 (by decide) ?_
    exact g_rz hx hb hr hlk hI (by rw [mIsF_lo h]) d_MD_isFile_22
  · refine lv_iload_n hx hb d_MD_isFile_5 rfl (lv_at hl 1 rfl) ?_
    refine lv_sipush (v := nI 128) hx hb d_MD_isFile_6 (by decide) ?_
    refine lv_aload_n hx hb d_MD_isFile_9 rfl (lv_at hl 0 rfl) ?_
    refine g_get (own := "GroupBitmapsModel") (C := R_MD) (T := F_MD) (N := 11) (ci := 3) (v := .int (nI (mGr τ))) hx hb hg ku_MD hown hK hI (0) (wm_0) rfl 1 (by decide) kw_471 rfl d_MD_isFile_10 ?_
    refine r_imul (a := 128) (b := mGr τ) hx hb d_MD_isFile_13 ?_
    refine lv_icmp_gt (tgt := 21) hx hb d_MD_isFile_14 (by decide) (fun h2 => ?_) (fun h2 => ?_)
    · refine lv_iconst (v := bI false) hx hb d_MD_isFile_21 (by decide) ?_
      exact g_rz hx hb hr hlk hI (by rw [mIsF_hi hτ h2]) d_MD_isFile_22
    · refine lv_iconst (v := bI true) hx hb d_MD_isFile_17 (by decide) ?_
      refine lv_goto (tgt := 22) hx hb d_MD_isFile_18 (by decide) ?_
      exact g_rz hx hb hr hlk hI (by rw [mIsF_t hτ h h2]) d_MD_isFile_22
end
section
/-! ===== runs of free numbers, over any bits ===== -/
def lrF (B : Nat → Bool) : Nat → Nat × Nat
  | 0 => (0, 0)
  | k + 1 => (Nat.max (lrF B k).1 (sLen (B k) (lrF B k).2), sLen (B k) (lrF B k).2)
def lpF (B : Nat → Bool) : Nat → Nat
  | 0 => 0
  | k + 1 => if (lrF B k).1 < sLen (B k) (lrF B k).2 then k + 1 - sLen (B k) (lrF B k).2 else lpF B k
def srF (B : Nat → Bool) (q s0 : Nat) : Nat → Option Nat × Nat × Nat
  | 0 => (none, s0, 0)
  | k + 1 => sSrN q k (srF B q s0 k) (sLen (B k) (srF B q s0 k).2.2) (B (k + 1))
theorem sLr_eq (σ : gS) (j k : Nat) : sLr σ j k = lrF (sSet σ j) k := by
  induction k with
  | zero => rfl
  | succ k ih => rw [sLr, lrF, ih]
theorem sSr_eq (σ : gS) (j q k : Nat) : sSr σ j q k = srF (sSet σ j) q (sSz σ j + 1) k := by
  induction k with
  | zero => rfl
  | succ k ih => rw [sSr, srF, ih]
theorem lrF_le (B : Nat → Bool) (k : Nat) : (lrF B k).1 ≤ k ∧ (lrF B k).2 ≤ k := by
  induction k with
  | zero => exact ⟨Nat.le_refl _, Nat.le_refl _⟩
  | succ k ih =>
    have h1 := ih.1
    have h2 := ih.2
    have h3 := sLen_le (B k) (lrF B k).2
    constructor
    · show Nat.max (lrF B k).1 (sLen (B k) (lrF B k).2) ≤ k + 1
      exact Nat.max_le.mpr ⟨by omega, by omega⟩
    · show sLen (B k) (lrF B k).2 ≤ k + 1
      omega
theorem lr_run {B : Nat → Bool} {k : Nat} (h0 : (lrF B k).2 = 0) : ∀ t : Nat, (∀ i, i < t → B (k + i) = false) → lrF B (k + t) = (Nat.max (lrF B k).1 t, t) ∧ lpF B (k + t) = if (lrF B k).1 < t then k else lpF B k := by
  intro t
  induction t with
  | zero =>
    intro _
    refine ⟨?_, by rw [if_neg (Nat.not_lt_zero _)]; rfl⟩
    show lrF B k = (Nat.max (lrF B k).1 0, 0)
    rw [show Nat.max (lrF B k).1 0 = (lrF B k).1 from Nat.max_eq_left (Nat.zero_le _), ← h0]
  | succ t ih =>
    intro hf
    obtain ⟨e1, e2⟩ := ih (fun i hi => hf i (by omega))
    have hb := hf t (by omega)
    have s1 : lrF B (k + (t + 1)) = (Nat.max (lrF B (k + t)).1 (sLen (B (k + t)) (lrF B (k + t)).2), sLen (B (k + t)) (lrF B (k + t)).2) := rfl
    have s2 : lpF B (k + (t + 1)) = if (lrF B (k + t)).1 < sLen (B (k + t)) (lrF B (k + t)).2 then k + t + 1 - sLen (B (k + t)) (lrF B (k + t)).2 else lpF B (k + t) := rfl
    rw [e1, hb] at s1 s2
    have s1 : lrF B (k + (t + 1)) = (Nat.max (Nat.max (lrF B k).1 t) (t + 1), t + 1) := s1
    have s2 : lpF B (k + (t + 1)) = if Nat.max (lrF B k).1 t < t + 1 then k + t + 1 - (t + 1) else lpF B (k + t) := s2
    generalize (lrF B k).1 = a at s1 s2 e2 ⊢
    constructor
    · rw [s1]
      congr 1
      rcases Nat.lt_or_ge a (t + 1) with h | h
      · rw [show Nat.max a (t + 1) = t + 1 from Nat.max_eq_right (by omega)]
        exact Nat.max_eq_right (Nat.max_le.mpr ⟨by omega, by omega⟩)
      · rw [show Nat.max a t = a from Nat.max_eq_left (by omega)]
    · rw [s2]
      rcases Nat.lt_or_ge a (t + 1) with h | h
      · rw [if_pos (show Nat.max a t < t + 1 from Nat.lt_succ_of_le (Nat.max_le.mpr ⟨by omega, by omega⟩)), if_pos h]; omega
      · rw [show Nat.max a t = a from Nat.max_eq_left (by omega), if_neg (by omega), if_neg (by omega), e2, if_neg (by omega)]
theorem lr_tk {B : Nat → Bool} {k : Nat} (h : B k = true) : lrF B (k + 1) = ((lrF B k).1, 0) ∧ lpF B (k + 1) = lpF B k := by
  constructor
  · show (Nat.max (lrF B k).1 (sLen (B k) (lrF B k).2), sLen (B k) (lrF B k).2) = _
    rw [h, sLen_t]
    rw [show Nat.max (lrF B k).1 0 = (lrF B k).1 from Nat.max_eq_left (Nat.zero_le _)]
  · show (if (lrF B k).1 < sLen (B k) (lrF B k).2 then _ else _) = _
    rw [h, sLen_t, if_neg (Nat.not_lt_zero _)]
theorem sr_run0 {B : Nat → Bool} {q s0 k : Nat} (h0 : (srF B q s0 k).2.2 = 0) : ∀ t : Nat, (∀ i, i ≤ t → B (k + i) = false) → srF B q s0 (k + t) = ((srF B q s0 k).1, (srF B q s0 k).2.1, t) := by
  intro t
  induction t with
  | zero =>
    intro _
    show srF B q s0 k = _
    rw [← h0]
  | succ t ih =>
    intro hf
    have e1 := ih (fun i hi => hf i (by omega))
    have hb := hf t (by omega)
    have hb2 : B (k + t + 1) = false := hf (t + 1) (by omega)
    have s1 : srF B q s0 (k + (t + 1)) = sSrN q (k + t) (srF B q s0 (k + t)) (sLen (B (k + t)) (srF B q s0 (k + t)).2.2) (B (k + t + 1)) := rfl
    rw [s1, e1, hb, hb2, sSrN_3 rfl]
    rfl
theorem sr_run1 {B : Nat → Bool} {q s0 k t : Nat} (h0 : (srF B q s0 k).2.2 = 0) (hf : ∀ i, i < t + 1 → B (k + i) = false) (he : B (k + (t + 1)) = true) : srF B q s0 (k + (t + 1)) = sSrN q (k + t) ((srF B q s0 k).1, (srF B q s0 k).2.1, t) (t + 1) true := by
  have e1 := sr_run0 h0 t (fun i hi => hf i (by omega))
  have hb := hf t (by omega)
  have he : B (k + t + 1) = true := he
  have s1 : srF B q s0 (k + (t + 1)) = sSrN q (k + t) (srF B q s0 (k + t)) (sLen (B (k + t)) (srF B q s0 (k + t)).2.2) (B (k + t + 1)) := rfl
  rw [s1, e1, hb, he]
  rfl
theorem sr_tk {B : Nat → Bool} {q s0 k : Nat} (hq : 1 ≤ q) (h : B k = true) : srF B q s0 (k + 1) = ((srF B q s0 k).1, (srF B q s0 k).2.1, 0) := by
  show sSrN q k (srF B q s0 k) (sLen (B k) (srF B q s0 k).2.2) (B (k + 1)) = _
  rw [h, sLen_t, sSrN_1 (by omega)]
/-! ===== what the reference's methods do ===== -/
def mMk1 (τ : mS) (p : Nat) (v : Bool) : mS := vTo (vBk τ (setb (mBk τ) p v)) (setb (mTo τ) (256 * (p / 256) + gHd (p / 256)) true)
def mMark (τ : mS) (a : Nat) (v : Bool) : Nat → mS
  | 0 => vTo τ (setb (mTo τ) 1 true)
  | t + 1 => mMk1 (mMark τ a v t) (a + t) v
def mFdN (τ : mS) (g : Nat) (v fo : Bool) : Nat := if fo = false then mFd τ g else if v = true then mFd τ g + 1 else mFd τ g - 1
def mMkF (τ : mS) (g k : Nat) (v fo : Bool) : mS := vTo (vTo (vFd (vFl τ (setb (mFl τ) (128 * g + k) v)) (setn (mFd τ) g (mFdN τ g v fo))) (setb (mTo τ) 1 true)) (setb (setb (mTo τ) 1 true) (256 * g + gHd g + 1) true)
def rowB (B : Nat → Bool) (g n : Nat) : Nat → Bool := fun i => if 256 * g ≤ i ∧ i < 256 * g + n then decide (i - 256 * g < gHd g + 10) else B i
def rowF (B : Nat → Bool) (g n : Nat) : Nat → Bool := fun i => if 128 * g ≤ i ∧ i < 128 * g + n then decide (g = 0 ∧ i - 128 * g < 10) else B i
theorem rowB_0 (B : Nat → Bool) (g : Nat) : rowB B g 0 = B := by funext i; unfold rowB; rw [if_neg (by omega)]
theorem rowF_0 (B : Nat → Bool) (g : Nat) : rowF B g 0 = B := by funext i; unfold rowF; rw [if_neg (by omega)]
theorem rowB_s {B : Nat → Bool} {g k : Nat} {v : Bool} (hv : v = decide (k < gHd g + 10)) : setb (rowB B g k) (256 * g + k) v = rowB B g (k + 1) := by
  funext i
  unfold setb rowB
  by_cases h : i = 256 * g + k
  · rw [if_pos h, if_pos (by omega), hv, h]
    congr 1
    rw [show 256 * g + k - 256 * g = k by omega]
  · rw [if_neg h]
    by_cases h2 : 256 * g ≤ i ∧ i < 256 * g + k
    · rw [if_pos h2, if_pos (by omega)]
    · rw [if_neg h2, if_neg (by omega)]
theorem rowF_s {B : Nat → Bool} {g k : Nat} {v : Bool} (hv : v = decide (g = 0 ∧ k < 10)) : setb (rowF B g k) (128 * g + k) v = rowF B g (k + 1) := by
  funext i
  unfold setb rowF
  by_cases h : i = 128 * g + k
  · rw [if_pos h, if_pos (by omega), hv, h]
    congr 1
    rw [show 128 * g + k - 128 * g = k by omega]
  · rw [if_neg h]
    by_cases h2 : 128 * g ≤ i ∧ i < 128 * g + k
    · rw [if_pos h2, if_pos (by omega)]
    · rw [if_neg h2, if_neg (by omega)]
def mLay1 (τ : mS) (g v : Nat) : mS := vTo (vTo (vFd (vSz τ (setn (mSz τ) g v)) (setn (mFd τ) g 0)) (setb (mTo τ) (256 * g + gHd g) true)) (setb (setb (mTo τ) (256 * g + gHd g) true) (256 * g + gHd g + 1) true)
def mLayG (τ : mS) (g v : Nat) : mS := vFl (vBk (mLay1 τ g v) (rowB (mBk τ) g 256)) (rowF (mFl τ) g 128)
def mLays (τ : mS) (c la : Nat) : Nat → mS
  | 0 => τ
  | g + 1 => mLayG (mLays τ c la g) g (if g = c - 1 then la else 256)
def mLay0 (τ : mS) (c : Nat) : mS := vTo (vLt (vRs (vGr τ c) 0) 0) (setb (mTo τ) 1 true)
theorem mGr_mLays (τ : mS) (c la g : Nat) : mGr (mLays τ c la g) = mGr τ := by
  induction g with
  | zero => rfl
  | succ g ih => rw [mLays, mLayG, p_Gr_Fl, p_Gr_Bk, mLay1, p_Gr_To, p_Gr_To, p_Gr_Fd, p_Gr_Sz, ih]
def mAf (τ : mS) (a : Nat) : Nat → Bool
  | 0 => true
  | t + 1 => mAf τ a t && (mIsB τ (nI (a + t)) && decide ((a + t) / 256 = a / 256) && !mBk τ (a + t))
theorem mIsB_lt {τ : mS} {j : Nat} (hτ : mOk τ) (hj : j < 2 ^ 31) (h : mIsB τ (nI j) = true) : j < 1024 := by
  have h4 := hτ.2.1
  unfold mIsB at h
  rw [nI_toInt hj] at h
  simp at h
  omega
def mB (τ : mS) (g : Nat) : Nat → Bool := fun k => decide (mSz τ g ≤ k) || mBk τ (256 * g + k)
theorem mB_lt {τ : mS} {g k : Nat} (h : k < mSz τ g) : mB τ g k = mBk τ (256 * g + k) := by unfold mB; rw [decide_eq_false (Nat.not_le.mpr h), Bool.false_or]
theorem mB_ge {τ : mS} {g k : Nat} (h : mSz τ g ≤ k) : mB τ g k = true := by unfold mB; rw [decide_eq_true h, Bool.true_or]
end
section
/-- how many of the first n are set -/
def cT (B : Nat → Bool) : Nat → Nat
  | 0 => 0
  | n + 1 => if B n = true then cT B n + 1 else cT B n
theorem cT_t {B : Nat → Bool} {n : Nat} (h : B n = true) : cT B (n + 1) = cT B n + 1 := by simp [cT, h]
theorem cT_f {B : Nat → Bool} {n : Nat} (h : B n = false) : cT B (n + 1) = cT B n := by simp [cT, h]
theorem cT_le (B : Nat → Bool) (n : Nat) : cT B n ≤ n := by
  induction n with
  | zero => exact Nat.le_refl _
  | succ n ih =>
    cases h : B n with
    | true => rw [cT_t h]; omega
    | false => rw [cT_f h]; omega
def clr (B : Nat → Bool) (n : Nat) : Nat → Bool := fun i => if i < n then false else B i
theorem clr_0 (B : Nat → Bool) : clr B 0 = B := by funext i; unfold clr; rw [if_neg (Nat.not_lt_zero _)]
theorem clr_s (B : Nat → Bool) (n : Nat) : setb (clr B n) n false = clr B (n + 1) := by
  funext i
  unfold setb clr
  by_cases h : i = n
  · rw [if_pos h, if_pos (by omega)]
  · rw [if_neg h]
    by_cases h2 : i < n
    · rw [if_pos h2, if_pos (by omega)]
    · rw [if_neg h2, if_neg (by omega)]
theorem clr_at (B : Nat → Bool) (n : Nat) : clr B n n = B n := by unfold clr; rw [if_neg (Nat.lt_irrefl _)]
def mSet (τ : mS) : mS := vTo (vTh τ 0) (clr (mTo τ) 1024)
theorem vTo_vTo (τ : mS) (f h : Nat → Bool) : vTo (vTo τ f) h = vTo τ h := rfl
theorem vBk_vBk (τ : mS) (f h : Nat → Bool) : vBk (vBk τ f) h = vBk τ h := rfl
theorem vFl_vFl (τ : mS) (f h : Nat → Bool) : vFl (vFl τ f) h = vFl τ h := rfl
theorem mAf_f {τ : mS} {a t : Nat} (h : mAf τ a t = false) : mAf τ a (t + 1) = false := by simp [mAf, h]
theorem mAf_1 {τ : mS} {a t : Nat} (h : mIsB τ (nI (a + t)) = false) : mAf τ a (t + 1) = false := by simp [mAf, h]
theorem mAf_2 {τ : mS} {a t : Nat} (h : ¬ (a + t) / 256 = a / 256) : mAf τ a (t + 1) = false := by simp [mAf, h]
theorem mAf_3 {τ : mS} {a t : Nat} (h : mBk τ (a + t) = true) : mAf τ a (t + 1) = false := by simp [mAf, h]
theorem mAf_4 {τ : mS} {a t : Nat} (h0 : mAf τ a t = true) (h1 : mIsB τ (nI (a + t)) = true) (h2 : (a + t) / 256 = a / 256) (h3 : mBk τ (a + t) = false) : mAf τ a (t + 1) = true := by simp [mAf, h0, h1, h2, h3]
/-- behind findRun(g, 0) -/
def mFr0 (τ : mS) (g k : Nat) : mS := vRz (vRa τ (if (lrF (mB τ g) k).1 = 0 then mRa τ else 256 * g + lpF (mB τ g) k)) (lrF (mB τ g) k).1
/-- behind findRun(g, q) -/
def mFrq (τ : mS) (g q k : Nat) : mS := vRz (vRa τ (match (srF (mB τ g) q (mSz τ g + 1) k).1 with | none => mRa τ | some a => 256 * g + a)) (match (srF (mB τ g) q (mSz τ g + 1) k).1 with | none => 0 | some _ => (srF (mB τ g) q (mSz τ g + 1) k).2.1)
end
section
set_option maxHeartbeats 4000000 in
set_option maxRecDepth 100000 in
theorem c_MD_mark {l : Launch} {D : va_G} {cG cZ cI cJ : ClassId} {am : Nat → Nat} (τ : mS) (a q : Nat) (v : Bool) (haq : a + q ≤ 1024) : gMet l D (gT cG cZ cI cJ) y_MD_mark b_MD_mark 5 none ({ frames := 2, cells := 0, slots := 0, locals := 40 }) (wm am cI cZ τ) [.ref (am 0), .int (nI a), .int (nI q), .int (bI v)] (wm am cI cZ (mMark τ a v q)) (none) := by
  refine gMet_of (by decide) (Nat.le_of_ble_eq_true rfl) ?_
  intro p e s m below meth c A ls hC hA hI hl
  obtain ⟨hx, hb, hr, hlk, hown, hml, hg, hK⟩ := hC
  have hown : s.vm.findClass "GroupBitmapsModel" = some m.cls := hown
  have hl : lv_has ls 5 [(0, .ref (am 0)), (1, .int (nI a)), (2, .int (nI q)), (3, .int (bI v))] := hl
  refine lv_aload_n hx hb d_MD_mark_0 rfl (lv_at hl 0 rfl) ?_
  refine g_get (own := "GroupBitmapsModel") (C := R_MD) (T := F_MD) (N := 11) (ci := 3) (v := .ref (am 5)) hx hb hg ku_MD hown hK hI (0) (wm_0) rfl 8 (by decide) kw_478 rfl d_MD_mark_1 ?_
  refine lv_iconst (v := nI 1) hx hb d_MD_mark_4 (by decide) ?_
  refine lv_iconst (v := bI true) hx hb d_MD_mark_5 (by decide) ?_
  refine g_zast (ws' := (wm am cI cZ (mMark τ a v 0))) (B := (mTo τ)) (i := 1) (b := true) hx hb hK hI (5) 1 (wm_To) rfl (by omega) (by omega) (wm_vTo (f := setb (mTo τ) 1 true)) d_MD_mark_6 (fun H locs hI => ?_)
  refine lv_iload_n hx hb d_MD_mark_7 rfl (lv_at hl 1 rfl) ?_
  refine lv_istore (lv' := [(4, .int (nI a)), (0, .ref (am 0)), (1, .int (nI a)), (2, .int (nI q)), (3, .int (bI v))]) hx hb d_MD_mark_8 hl (by decide) rfl (fun ls hl => ?_)
  have loop : ∀ (fuel : Nat) (t : Nat), q + 1 ≤ fuel + t → (t ≤ q) → ∀ (H : Heap) (locs : List Loc) (ls : Array Slot), gI D A s.heap (wm am cI cZ (mMark τ a v t)) H locs → lv_has ls 5 [(0, .ref (am 0)), (1, .int (nI a)), (2, .int (nI q)), (3, .int (bI v)), (4, .int (nI (a + t)))] → W p l e ({ frames := 2, cells := 0, slots := 0, locals := 40 }) s m ([.ref (am 0), .int (nI a), .int (nI q), .int (bI v)] : List Value).toArray below meth c H locs 0 0 (gQ D below ([.ref (am 0), .int (nI a), .int (nI q), .int (bI v)] : List Value).toArray s A (wm am cI cZ (mMark τ a v q)) (none)) (F0 m 10 ls []) := by
    intro fuel
    induction fuel with
    | zero => intro t hfu ht; exact absurd hfu (by omega)
    | succ fuel ih =>
      intro t hfu ht H locs ls hI hl
      refine lv_iload hx hb d_MD_mark_10 (lv_at hl 4 rfl) ?_
      refine lv_iload_n hx hb d_MD_mark_12 rfl (lv_at hl 1 rfl) ?_
      refine lv_iload_n hx hb d_MD_mark_13 rfl (lv_at hl 2 rfl) ?_
      refine r_iadd (a := a) (b := q) hx hb d_MD_mark_14 ?_
      refine r_ge (a := a + t) (b := a + q) (tgt := 47) hx hb d_MD_mark_15 (by decide) (by omega) (by omega) (fun h => ?_) (fun h => ?_)
      · obtain rfl : q = t := by omega
        exact g_rv hx hb hr hlk hI (rfl) d_MD_mark_47
      · have hhd := gHd_le ((a + t) / 256)
        refine lv_aload_n hx hb d_MD_mark_18 rfl (lv_at hl 0 rfl) ?_
        refine g_get (own := "GroupBitmapsModel") (C := R_MD) (T := F_MD) (N := 11) (ci := 3) (v := .ref (am 2)) hx hb hg ku_MD hown hK hI (0) (wm_0) rfl 3 (by decide) kw_473 rfl d_MD_mark_19 ?_
        refine lv_iload hx hb d_MD_mark_22 (lv_at hl 4 rfl) ?_
        refine lv_iload_n hx hb d_MD_mark_24 rfl (lv_at hl 3 rfl) ?_
        refine g_zast (ws' := (wm am cI cZ (vBk (mMark τ a v t) (setb (mBk (mMark τ a v t)) (a + t) v)))) (B := (mBk (mMark τ a v t))) (i := a + t) (b := v) hx hb hK hI (2) 1 (wm_Bk) rfl (by omega) (by omega) (wm_vBk (f := setb (mBk (mMark τ a v t)) (a + t) v)) d_MD_mark_25 (fun H locs hI => ?_)
        refine lv_aload_n hx hb d_MD_mark_26 rfl (lv_at hl 0 rfl) ?_
        refine g_get (own := "GroupBitmapsModel") (C := R_MD) (T := F_MD) (N := 11) (ci := 3) (v := .ref (am 5)) hx hb hg ku_MD hown hK hI (0) (wm_0) rfl 8 (by decide) kw_478 rfl d_MD_mark_27 ?_
        refine lv_iload hx hb d_MD_mark_30 (lv_at hl 4 rfl) ?_
        refine lv_sipush (v := nI 256) hx hb d_MD_mark_32 (by decide) ?_
        refine r_idiv (a := a + t) (b := 256) hx hb (by omega) (by omega) (by omega) d_MD_mark_35 ?_
        refine g_callS (own := "GroupBitmapsModel") (k := 1) (As := [.int (nI ((a + t) / 256))]) (rest := [.ref (am 5)]) (c_MD_bitmap (vBk (mMark τ a v t) (setb (mBk (mMark τ a v t)) (a + t) v)) ((a + t) / 256) (by omega)) hx hb hml hown hg hK hI hA kw_461 kw_462 kw_4 kw_463 ky_MD_bitmap ⟨Nat.le_of_ble_eq_true rfl, Nat.le_of_ble_eq_true rfl⟩ rfl rfl rfl hl.1 (Nat.le_of_ble_eq_true rfl) ⟨Nat.zero_le _, Nat.zero_le _⟩ d_MD_mark_36 rfl rfl (fun H locs hI => ?_)
        refine lv_iconst (v := bI true) hx hb d_MD_mark_39 (by decide) ?_
        refine g_zast (ws' := (wm am cI cZ (mMark τ a v (t + 1)))) (B := (mTo (vBk (mMark τ a v t) (setb (mBk (mMark τ a v t)) (a + t) v)))) (i := 256 * ((a + t) / 256) + gHd ((a + t) / 256)) (b := true) hx hb hK hI (5) 1 (wm_To) rfl (by omega) (by omega) (wm_vTo (f := setb (mTo (mMark τ a v t)) (256 * ((a + t) / 256) + gHd ((a + t) / 256)) true)) d_MD_mark_40 (fun H locs hI => ?_)
        refine lv_iinc (v := nI ((a + t) + 1)) (lv' := [(4, .int (nI ((a + t) + 1))), (0, .ref (am 0)), (1, .int (nI a)), (2, .int (nI q)), (3, .int (bI v))]) hx hb d_MD_mark_41 hl (k := 4) rfl (nI_1 _) (by decide) rfl (fun ls hl => ?_)
        refine lv_goto (tgt := 10) hx hb d_MD_mark_44 (by decide) ?_
        exact ih (t + 1) (by omega) (by omega) _ _ _ hI (lv_sub hl [1, 2, 3, 4, 0] rfl)
  exact loop (q + 1) 0 (by omega) (Nat.zero_le _) _ _ _ hI (lv_sub hl [1, 2, 3, 4, 0] rfl)
set_option maxHeartbeats 4000000 in
set_option maxRecDepth 100000 in
theorem c_MD_markFile {l : Launch} {D : va_G} {cG cZ cI cJ : ClassId} {am : Nat → Nat} (τ : mS) (hτ : mOk τ) (g k : Nat) (v fo : Bool) (hg4 : g < 4) (hk : k < 128) (hfo : fo = true → v = false → 1 ≤ mFd τ g) : gMet l D (gT cG cZ cI cJ) y_MD_markFile b_MD_markFile 5 none ({ frames := 2, cells := 0, slots := 0, locals := 40 }) (wm am cI cZ τ) [.ref (am 0), .int (nI g), .int (nI k), .int (bI v), .int (bI fo)] (wm am cI cZ (mMkF τ g k v fo)) (none) := by
  refine gMet_of (by decide) (Nat.le_of_ble_eq_true rfl) ?_
  intro p e s m below meth c A ls hC hA hI hl
  obtain ⟨hx, hb, hr, hlk, hown, hml, hg, hK⟩ := hC
  have hown : s.vm.findClass "GroupBitmapsModel" = some m.cls := hown
  have hl : lv_has ls 5 [(0, .ref (am 0)), (1, .int (nI g)), (2, .int (nI k)), (3, .int (bI v)), (4, .int (bI fo))] := hl
  have hhd := gHd_le g
  have hfd := hτ.2.2.2.2 g hg4
  refine lv_aload_n hx hb d_MD_markFile_0 rfl (lv_at hl 0 rfl) ?_
  refine g_get (own := "GroupBitmapsModel") (C := R_MD) (T := F_MD) (N := 11) (ci := 3) (v := .ref (am 3)) hx hb hg ku_MD hown hK hI (0) (wm_0) rfl 4 (by decide) kw_474 rfl d_MD_markFile_1 ?_
  refine lv_sipush (v := nI 128) hx hb d_MD_markFile_4 (by decide) ?_
  refine lv_iload_n hx hb d_MD_markFile_7 rfl (lv_at hl 1 rfl) ?_
  refine r_imul (a := 128) (b := g) hx hb d_MD_markFile_8 ?_
  refine lv_iload_n hx hb d_MD_markFile_9 rfl (lv_at hl 2 rfl) ?_
  refine r_iadd (a := 128 * g) (b := k) hx hb d_MD_markFile_10 ?_
  refine lv_iload_n hx hb d_MD_markFile_11 rfl (lv_at hl 3 rfl) ?_
  refine g_zast (ws' := (wm am cI cZ (vFl τ (setb (mFl τ) (128 * g + k) v)))) (B := (mFl τ)) (i := (128 * g) + k) (b := v) hx hb hK hI (3) 1 (wm_Fl) rfl (by omega) (by omega) (wm_vFl (f := setb (mFl τ) (128 * g + k) v)) d_MD_markFile_12 (fun H locs hI => ?_)
  refine lv_aload_n hx hb d_MD_markFile_13 rfl (lv_at hl 0 rfl) ?_
  refine g_get (own := "GroupBitmapsModel") (C := R_MD) (T := F_MD) (N := 11) (ci := 3) (v := .ref (am 4)) hx hb hg ku_MD hown hK hI (0) (wm_0) rfl 5 (by decide) kw_475 rfl d_MD_markFile_14 ?_
  refine lv_iload_n hx hb d_MD_markFile_17 rfl (lv_at hl 1 rfl) ?_
  refine lv_iload hx hb d_MD_markFile_18 (lv_at hl 4 rfl) ?_
  refine r_bnz (b := fo) (tgt := 32) hx hb d_MD_markFile_20 (by decide) (fun h => ?_) (fun h => ?_)
  · refine lv_iload_n hx hb d_MD_markFile_32 rfl (lv_at hl 3 rfl) ?_
    refine r_bz (b := v) (tgt := 47) hx hb d_MD_markFile_33 (by decide) (fun h2 => ?_) (fun h2 => ?_)
    · have h1 : 1 ≤ mFd τ g := hfo h h2
      refine lv_aload_n hx hb d_MD_markFile_47 rfl (lv_at hl 0 rfl) ?_
      refine g_get (own := "GroupBitmapsModel") (C := R_MD) (T := F_MD) (N := 11) (ci := 3) (v := .ref (am 4)) hx hb hg ku_MD hown hK hI (0) (wm_0) rfl 5 (by decide) kw_475 rfl d_MD_markFile_48 ?_
      refine lv_iload_n hx hb d_MD_markFile_51 rfl (lv_at hl 1 rfl) ?_
      refine g_iald (F := (mFd (vFl τ (setb (mFl τ) (128 * g + k) v)))) (i := g) hx hb hK hI (4) 2 (wm_Fd) rfl (by omega) (by omega) d_MD_markFile_52 ?_
      refine lv_iconst (v := nI 1) hx hb d_MD_markFile_53 (by decide) ?_
      refine r_isub (a := mFd τ g) (b := 1) hx hb (by omega) d_MD_markFile_54 ?_
      have hv : mFdN τ g v fo = mFd τ g - 1 := by rw [mFdN, if_neg (by rw [h]; decide), if_neg (by rw [h2]; decide)]
      rw [show nI ((mFd τ g) - 1) = nI (mFdN τ g v fo) from congrArg nI (show (mFd τ g) - 1 = mFdN τ g v fo from hv.symm)]
      refine g_iast (ws' := (wm am cI cZ (vFd (vFl τ (setb (mFl τ) (128 * g + k) v)) (setn (mFd τ) g (mFdN τ g v fo))))) (F := (mFd (vFl τ (setb (mFl τ) (128 * g + k) v)))) (i := g) (v := mFdN τ g v fo) hx hb hK hI (4) 2 (wm_Fd) rfl (by omega) (by omega) (wm_vFd (f := setn (mFd τ) g (mFdN τ g v fo))) d_MD_markFile_55 (fun H locs hI => ?_)
      refine lv_aload_n hx hb d_MD_markFile_56 rfl (lv_at hl 0 rfl) ?_
      refine g_get (own := "GroupBitmapsModel") (C := R_MD) (T := F_MD) (N := 11) (ci := 3) (v := .ref (am 5)) hx hb hg ku_MD hown hK hI (0) (wm_0) rfl 8 (by decide) kw_478 rfl d_MD_markFile_57 ?_
      refine lv_iconst (v := nI 1) hx hb d_MD_markFile_60 (by decide) ?_
      refine lv_iconst (v := bI true) hx hb d_MD_markFile_61 (by decide) ?_
      refine g_zast (ws' := (wm am cI cZ (vTo (vFd (vFl τ (setb (mFl τ) (128 * g + k) v)) (setn (mFd τ) g (mFdN τ g v fo))) (setb (mTo τ) 1 true)))) (B := (mTo (vFd (vFl τ (setb (mFl τ) (128 * g + k) v)) (setn (mFd τ) g (mFdN τ g v fo))))) (i := 1) (b := true) hx hb hK hI (5) 1 (wm_To) rfl (by omega) (by omega) (wm_vTo (f := setb (mTo τ) 1 true)) d_MD_markFile_62 (fun H locs hI => ?_)
      refine lv_aload_n hx hb d_MD_markFile_63 rfl (lv_at hl 0 rfl) ?_
      refine g_get (own := "GroupBitmapsModel") (C := R_MD) (T := F_MD) (N := 11) (ci := 3) (v := .ref (am 5)) hx hb hg ku_MD hown hK hI (0) (wm_0) rfl 8 (by decide) kw_478 rfl d_MD_markFile_64 ?_
      refine lv_iload_n hx hb d_MD_markFile_67 rfl (lv_at hl 1 rfl) ?_
      refine g_callS (own := "GroupBitmapsModel") (k := 1) (As := [.int (nI g)]) (rest := [.ref (am 5)]) (c_MD_bitmap (vTo (vFd (vFl τ (setb (mFl τ) (128 * g + k) v)) (setn (mFd τ) g (mFdN τ g v fo))) (setb (mTo τ) 1 true)) g (by omega)) hx hb hml hown hg hK hI hA kw_461 kw_462 kw_4 kw_463 ky_MD_bitmap ⟨Nat.le_of_ble_eq_true rfl, Nat.le_of_ble_eq_true rfl⟩ rfl rfl rfl hl.1 (Nat.le_of_ble_eq_true rfl) ⟨Nat.zero_le _, Nat.zero_le _⟩ d_MD_markFile_68 rfl rfl (fun H locs hI => ?_)
      refine lv_iconst (v := nI 1) hx hb d_MD_markFile_71 (by decide) ?_
      refine r_iadd (a := 256 * g + gHd g) (b := 1) hx hb d_MD_markFile_72 ?_
      refine lv_iconst (v := bI true) hx hb d_MD_markFile_73 (by decide) ?_
      refine g_zast (ws' := (wm am cI cZ (mMkF τ g k v fo))) (B := (mTo (vTo (vFd (vFl τ (setb (mFl τ) (128 * g + k) v)) (setn (mFd τ) g (mFdN τ g v fo))) (setb (mTo τ) 1 true)))) (i := (256 * g + gHd g) + 1) (b := true) hx hb hK hI (5) 1 (wm_To) rfl (by omega) (by omega) (wm_vTo (f := setb (setb (mTo τ) 1 true) (256 * g + gHd g + 1) true)) d_MD_markFile_74 (fun H locs hI => ?_)
      exact g_rv hx hb hr hlk hI (rfl) d_MD_markFile_75
    · refine lv_aload_n hx hb d_MD_markFile_36 rfl (lv_at hl 0 rfl) ?_
      refine g_get (own := "GroupBitmapsModel") (C := R_MD) (T := F_MD) (N := 11) (ci := 3) (v := .ref (am 4)) hx hb hg ku_MD hown hK hI (0) (wm_0) rfl 5 (by decide) kw_475 rfl d_MD_markFile_37 ?_
      refine lv_iload_n hx hb d_MD_markFile_40 rfl (lv_at hl 1 rfl) ?_
      refine g_iald (F := (mFd (vFl τ (setb (mFl τ) (128 * g + k) v)))) (i := g) hx hb hK hI (4) 2 (wm_Fd) rfl (by omega) (by omega) d_MD_markFile_41 ?_
      refine lv_iconst (v := nI 1) hx hb d_MD_markFile_42 (by decide) ?_
      refine r_iadd (a := mFd τ g) (b := 1) hx hb d_MD_markFile_43 ?_
      refine lv_goto (tgt := 55) hx hb d_MD_markFile_44 (by decide) ?_
      have hv : mFdN τ g v fo = mFd τ g + 1 := by rw [mFdN, if_neg (by rw [h]; decide), if_pos h2]
      rw [show nI ((mFd τ g) + 1) = nI (mFdN τ g v fo) from congrArg nI (show (mFd τ g) + 1 = mFdN τ g v fo from hv.symm)]
      refine g_iast (ws' := (wm am cI cZ (vFd (vFl τ (setb (mFl τ) (128 * g + k) v)) (setn (mFd τ) g (mFdN τ g v fo))))) (F := (mFd (vFl τ (setb (mFl τ) (128 * g + k) v)))) (i := g) (v := mFdN τ g v fo) hx hb hK hI (4) 2 (wm_Fd) rfl (by omega) (by omega) (wm_vFd (f := setn (mFd τ) g (mFdN τ g v fo))) d_MD_markFile_55 (fun H locs hI => ?_)
      refine lv_aload_n hx hb d_MD_markFile_56 rfl (lv_at hl 0 rfl) ?_
      refine g_get (own := "GroupBitmapsModel") (C := R_MD) (T := F_MD) (N := 11) (ci := 3) (v := .ref (am 5)) hx hb hg ku_MD hown hK hI (0) (wm_0) rfl 8 (by decide) kw_478 rfl d_MD_markFile_57 ?_
      refine lv_iconst (v := nI 1) hx hb d_MD_markFile_60 (by decide) ?_
      refine lv_iconst (v := bI true) hx hb d_MD_markFile_61 (by decide) ?_
      refine g_zast (ws' := (wm am cI cZ (vTo (vFd (vFl τ (setb (mFl τ) (128 * g + k) v)) (setn (mFd τ) g (mFdN τ g v fo))) (setb (mTo τ) 1 true)))) (B := (mTo (vFd (vFl τ (setb (mFl τ) (128 * g + k) v)) (setn (mFd τ) g (mFdN τ g v fo))))) (i := 1) (b := true) hx hb hK hI (5) 1 (wm_To) rfl (by omega) (by omega) (wm_vTo (f := setb (mTo τ) 1 true)) d_MD_markFile_62 (fun H locs hI => ?_)
      refine lv_aload_n hx hb d_MD_markFile_63 rfl (lv_at hl 0 rfl) ?_
      refine g_get (own := "GroupBitmapsModel") (C := R_MD) (T := F_MD) (N := 11) (ci := 3) (v := .ref (am 5)) hx hb hg ku_MD hown hK hI (0) (wm_0) rfl 8 (by decide) kw_478 rfl d_MD_markFile_64 ?_
      refine lv_iload_n hx hb d_MD_markFile_67 rfl (lv_at hl 1 rfl) ?_
      refine g_callS (own := "GroupBitmapsModel") (k := 1) (As := [.int (nI g)]) (rest := [.ref (am 5)]) (c_MD_bitmap (vTo (vFd (vFl τ (setb (mFl τ) (128 * g + k) v)) (setn (mFd τ) g (mFdN τ g v fo))) (setb (mTo τ) 1 true)) g (by omega)) hx hb hml hown hg hK hI hA kw_461 kw_462 kw_4 kw_463 ky_MD_bitmap ⟨Nat.le_of_ble_eq_true rfl, Nat.le_of_ble_eq_true rfl⟩ rfl rfl rfl hl.1 (Nat.le_of_ble_eq_true rfl) ⟨Nat.zero_le _, Nat.zero_le _⟩ d_MD_markFile_68 rfl rfl (fun H locs hI => ?_)
      refine lv_iconst (v := nI 1) hx hb d_MD_markFile_71 (by decide) ?_
      refine r_iadd (a := 256 * g + gHd g) (b := 1) hx hb d_MD_markFile_72 ?_
      refine lv_iconst (v := bI true) hx hb d_MD_markFile_73 (by decide) ?_
      refine g_zast (ws' := (wm am cI cZ (mMkF τ g k v fo))) (B := (mTo (vTo (vFd (vFl τ (setb (mFl τ) (128 * g + k) v)) (setn (mFd τ) g (mFdN τ g v fo))) (setb (mTo τ) 1 true)))) (i := (256 * g + gHd g) + 1) (b := true) hx hb hK hI (5) 1 (wm_To) rfl (by omega) (by omega) (wm_vTo (f := setb (setb (mTo τ) 1 true) (256 * g + gHd g + 1) true)) d_MD_markFile_74 (fun H locs hI => ?_)
      exact g_rv hx hb hr hlk hI (rfl) d_MD_markFile_75
  · refine lv_aload_n hx hb d_MD_markFile_23 rfl (lv_at hl 0 rfl) ?_
    refine g_get (own := "GroupBitmapsModel") (C := R_MD) (T := F_MD) (N := 11) (ci := 3) (v := .ref (am 4)) hx hb hg ku_MD hown hK hI (0) (wm_0) rfl 5 (by decide) kw_475 rfl d_MD_markFile_24 ?_
    refine lv_iload_n hx hb d_MD_markFile_27 rfl (lv_at hl 1 rfl) ?_
    refine g_iald (F := (mFd (vFl τ (setb (mFl τ) (128 * g + k) v)))) (i := g) hx hb hK hI (4) 2 (wm_Fd) rfl (by omega) (by omega) d_MD_markFile_28 ?_
    refine lv_goto (tgt := 55) hx hb d_MD_markFile_29 (by decide) ?_
    have hv : mFdN τ g v fo = mFd τ g := by rw [mFdN, if_pos h]
    rw [show nI ((mFd (vFl τ (setb (mFl τ) (128 * g + k) v))) g) = nI (mFdN τ g v fo) from congrArg nI (show (mFd (vFl τ (setb (mFl τ) (128 * g + k) v))) g = mFdN τ g v fo from hv.symm)]
    refine g_iast (ws' := (wm am cI cZ (vFd (vFl τ (setb (mFl τ) (128 * g + k) v)) (setn (mFd τ) g (mFdN τ g v fo))))) (F := (mFd (vFl τ (setb (mFl τ) (128 * g + k) v)))) (i := g) (v := mFdN τ g v fo) hx hb hK hI (4) 2 (wm_Fd) rfl (by omega) (by omega) (wm_vFd (f := setn (mFd τ) g (mFdN τ g v fo))) d_MD_markFile_55 (fun H locs hI => ?_)
    refine lv_aload_n hx hb d_MD_markFile_56 rfl (lv_at hl 0 rfl) ?_
    refine g_get (own := "GroupBitmapsModel") (C := R_MD) (T := F_MD) (N := 11) (ci := 3) (v := .ref (am 5)) hx hb hg ku_MD hown hK hI (0) (wm_0) rfl 8 (by decide) kw_478 rfl d_MD_markFile_57 ?_
    refine lv_iconst (v := nI 1) hx hb d_MD_markFile_60 (by decide) ?_
    refine lv_iconst (v := bI true) hx hb d_MD_markFile_61 (by decide) ?_
    refine g_zast (ws' := (wm am cI cZ (vTo (vFd (vFl τ (setb (mFl τ) (128 * g + k) v)) (setn (mFd τ) g (mFdN τ g v fo))) (setb (mTo τ) 1 true)))) (B := (mTo (vFd (vFl τ (setb (mFl τ) (128 * g + k) v)) (setn (mFd τ) g (mFdN τ g v fo))))) (i := 1) (b := true) hx hb hK hI (5) 1 (wm_To) rfl (by omega) (by omega) (wm_vTo (f := setb (mTo τ) 1 true)) d_MD_markFile_62 (fun H locs hI => ?_)
    refine lv_aload_n hx hb d_MD_markFile_63 rfl (lv_at hl 0 rfl) ?_
    refine g_get (own := "GroupBitmapsModel") (C := R_MD) (T := F_MD) (N := 11) (ci := 3) (v := .ref (am 5)) hx hb hg ku_MD hown hK hI (0) (wm_0) rfl 8 (by decide) kw_478 rfl d_MD_markFile_64 ?_
    refine lv_iload_n hx hb d_MD_markFile_67 rfl (lv_at hl 1 rfl) ?_
    refine g_callS (own := "GroupBitmapsModel") (k := 1) (As := [.int (nI g)]) (rest := [.ref (am 5)]) (c_MD_bitmap (vTo (vFd (vFl τ (setb (mFl τ) (128 * g + k) v)) (setn (mFd τ) g (mFdN τ g v fo))) (setb (mTo τ) 1 true)) g (by omega)) hx hb hml hown hg hK hI hA kw_461 kw_462 kw_4 kw_463 ky_MD_bitmap ⟨Nat.le_of_ble_eq_true rfl, Nat.le_of_ble_eq_true rfl⟩ rfl rfl rfl hl.1 (Nat.le_of_ble_eq_true rfl) ⟨Nat.zero_le _, Nat.zero_le _⟩ d_MD_markFile_68 rfl rfl (fun H locs hI => ?_)
    refine lv_iconst (v := nI 1) hx hb d_MD_markFile_71 (by decide) ?_
    refine r_iadd (a := 256 * g + gHd g) (b := 1) hx hb d_MD_markFile_72 ?_
    refine lv_iconst (v := bI true) hx hb d_MD_markFile_73 (by decide) ?_
    refine g_zast (ws' := (wm am cI cZ (mMkF τ g k v fo))) (B := (mTo (vTo (vFd (vFl τ (setb (mFl τ) (128 * g + k) v)) (setn (mFd τ) g (mFdN τ g v fo))) (setb (mTo τ) 1 true)))) (i := (256 * g + gHd g) + 1) (b := true) hx hb hK hI (5) 1 (wm_To) rfl (by omega) (by omega) (wm_vTo (f := setb (setb (mTo τ) 1 true) (256 * g + gHd g + 1) true)) d_MD_markFile_74 (fun H locs hI => ?_)
    exact g_rv hx hb hr hlk hI (rfl) d_MD_markFile_75
set_option maxHeartbeats 4000000 in
set_option maxRecDepth 100000 in
theorem c_MD_areFree {l : Launch} {D : va_G} {cG cZ cI cJ : ClassId} {am : Nat → Nat} (τ : mS) (hτ : mOk τ) (a q : Nat) (ha : a < 65536) (hq : q < 65536) : gMet l D (gT cG cZ cI cJ) y_MD_areFree b_MD_areFree 5 (some .boolean) ({ frames := 1, cells := 0, slots := 0, locals := 21 }) (wm am cI cZ τ) [.ref (am 0), .int (nI a), .int (nI q)] (wm am cI cZ τ) (some (.int (bI (mAf τ a q)))) := by
  refine gMet_of (by decide) (Nat.le_of_ble_eq_true rfl) ?_
  intro p e s m below meth c A ls hC hA hI hl
  obtain ⟨hx, hb, hr, hlk, hown, hml, hg, hK⟩ := hC
  have hown : s.vm.findClass "GroupBitmapsModel" = some m.cls := hown
  have hl : lv_has ls 5 [(0, .ref (am 0)), (1, .int (nI a)), (2, .int (nI q))] := hl
  have hc1 := hτ.1
  have hc2 := hτ.2.1
  refine lv_iconst (v := bI true) hx hb d_MD_areFree_0 (by decide) ?_
  refine lv_istore_n (lv' := [(3, .int (bI true)), (0, .ref (am 0)), (1, .int (nI a)), (2, .int (nI q))]) hx hb d_MD_areFree_1 rfl hl (by decide) rfl (fun ls hl => ?_)
  refine lv_iload_n hx hb d_MD_areFree_2 rfl (lv_at hl 2 rfl) ?_
  refine lv_istore (lv' := [(4, .int (nI a)), (3, .int (bI true)), (0, .ref (am 0)), (1, .int (nI a)), (2, .int (nI q))]) hx hb d_MD_areFree_3 hl (by decide) rfl (fun ls hl => ?_)
  have loop : ∀ (fuel : Nat) (t : Nat), q + 1 ≤ fuel + t → (t ≤ q) → ∀ (H : Heap) (locs : List Loc) (ls : Array Slot), gI D A s.heap (wm am cI cZ τ) H locs → lv_has ls 5 [(0, .ref (am 0)), (1, .int (nI a)), (2, .int (nI q)), (3, .int (bI (mAf τ a t))), (4, .int (nI (a + t)))] → W p l e ({ frames := 1, cells := 0, slots := 0, locals := 21 }) s m ([.ref (am 0), .int (nI a), .int (nI q)] : List Value).toArray below meth c H locs 0 0 (gQ D below ([.ref (am 0), .int (nI a), .int (nI q)] : List Value).toArray s A (wm am cI cZ τ) (some (.int (bI (mAf τ a q))))) (F0 m 5 ls []) := by
    intro fuel
    induction fuel with
    | zero => intro t hfu ht; exact absurd hfu (by omega)
    | succ fuel ih =>
      intro t hfu ht H locs ls hI hl
      refine lv_iload hx hb d_MD_areFree_5 (lv_at hl 4 rfl) ?_
      refine lv_iload_n hx hb d_MD_areFree_7 rfl (lv_at hl 1 rfl) ?_
      refine lv_iload_n hx hb d_MD_areFree_8 rfl (lv_at hl 2 rfl) ?_
      refine r_iadd (a := a) (b := q) hx hb d_MD_areFree_9 ?_
      refine r_ge (a := a + t) (b := a + q) (tgt := 62) hx hb d_MD_areFree_10 (by decide) (by omega) (by omega) (fun h => ?_) (fun h => ?_)
      · obtain rfl : q = t := by omega
        refine lv_iload_n hx hb d_MD_areFree_62 rfl (lv_at hl 3 rfl) ?_
        exact g_rz hx hb hr hlk hI (rfl) d_MD_areFree_63
      · refine lv_iload_n hx hb d_MD_areFree_13 rfl (lv_at hl 3 rfl) ?_
        refine r_bz (b := mAf τ a t) (tgt := 54) hx hb d_MD_areFree_14 (by decide) (fun h2 => ?_) (fun h2 => ?_)
        · have e1 := mAf_f h2
          refine lv_iconst (v := bI false) hx hb d_MD_areFree_54 (by decide) ?_
          refine lv_istore_n (lv' := [(3, .int (bI false)), (0, .ref (am 0)), (1, .int (nI a)), (2, .int (nI q)), (4, .int (nI (a + t)))]) hx hb d_MD_areFree_55 rfl hl (by decide) rfl (fun ls hl => ?_)
          refine lv_iinc (v := nI ((a + t) + 1)) (lv' := [(4, .int (nI ((a + t) + 1))), (3, .int (bI false)), (0, .ref (am 0)), (1, .int (nI a)), (2, .int (nI q))]) hx hb d_MD_areFree_56 hl (k := 4) rfl (nI_1 _) (by decide) rfl (fun ls hl => ?_)
          refine lv_goto (tgt := 5) hx hb d_MD_areFree_59 (by decide) ?_
          exact ih (t + 1) (by omega) (by omega) _ _ _ hI (by rw [e1]; exact lv_sub hl [2, 3, 4, 1, 0] rfl)
        · refine lv_aload_n hx hb d_MD_areFree_17 rfl (lv_at hl 0 rfl) ?_
          refine lv_iload hx hb d_MD_areFree_18 (lv_at hl 4 rfl) ?_
          refine g_callV (own := "GroupBitmapsModel") (C := "GroupBitmapsModel") (T := F_MD) (N := 11) (k := 1) (q0 := 0) (ci := 3) (a := am 0) (As := [.int (nI (a + t))]) (rest := []) (c_MD_isBlock τ hτ (nI (a + t))) hx hb hml hown hg hK hI hA kw_529 kw_531 kp_24 kw_4 kw_532 ky_MD_isBlock ⟨Nat.le_of_ble_eq_true rfl, Nat.le_of_ble_eq_true rfl⟩ rfl rfl (wm_0) rfl rfl hl.1 (Nat.le_of_ble_eq_true rfl) ⟨Nat.zero_le _, Nat.zero_le _⟩ d_MD_areFree_20 rfl rfl (fun H locs hI => ?_)
          refine r_bz (b := mIsB τ (nI (a + t))) (tgt := 54) hx hb d_MD_areFree_23 (by decide) (fun h3 => ?_) (fun h3 => ?_)
          · have e1 := mAf_1 h3
            refine lv_iconst (v := bI false) hx hb d_MD_areFree_54 (by decide) ?_
            refine lv_istore_n (lv' := [(3, .int (bI false)), (0, .ref (am 0)), (1, .int (nI a)), (2, .int (nI q)), (4, .int (nI (a + t)))]) hx hb d_MD_areFree_55 rfl hl (by decide) rfl (fun ls hl => ?_)
            refine lv_iinc (v := nI ((a + t) + 1)) (lv' := [(4, .int (nI ((a + t) + 1))), (3, .int (bI false)), (0, .ref (am 0)), (1, .int (nI a)), (2, .int (nI q))]) hx hb d_MD_areFree_56 hl (k := 4) rfl (nI_1 _) (by decide) rfl (fun ls hl => ?_)
            refine lv_goto (tgt := 5) hx hb d_MD_areFree_59 (by decide) ?_
            exact ih (t + 1) (by omega) (by omega) _ _ _ hI (by rw [e1]; exact lv_sub hl [2, 3, 4, 1, 0] rfl)
          · have hlt := mIsB_lt hτ (by omega) h3
            refine lv_iload hx hb d_MD_areFree_26 (lv_at hl 4 rfl) ?_
            refine lv_sipush (v := nI 256) hx hb d_MD_areFree_28 (by decide) ?_
            refine r_idiv (a := a + t) (b := 256) hx hb (by omega) (by omega) (by omega) d_MD_areFree_31 ?_
            refine lv_iload_n hx hb d_MD_areFree_32 rfl (lv_at hl 1 rfl) ?_
            refine lv_sipush (v := nI 256) hx hb d_MD_areFree_33 (by decide) ?_
            refine r_idiv (a := a) (b := 256) hx hb (by omega) (by omega) (by omega) d_MD_areFree_36 ?_
            refine r_ne (a := (a + t) / 256) (b := a / 256) (tgt := 54) hx hb d_MD_areFree_37 (by decide) (by omega) (by omega) (fun h4 => ?_) (fun h4 => ?_)
            · have e1 := mAf_2 (τ := τ) h4
              refine lv_iconst (v := bI false) hx hb d_MD_areFree_54 (by decide) ?_
              refine lv_istore_n (lv' := [(3, .int (bI false)), (0, .ref (am 0)), (1, .int (nI a)), (2, .int (nI q)), (4, .int (nI (a + t)))]) hx hb d_MD_areFree_55 rfl hl (by decide) rfl (fun ls hl => ?_)
              refine lv_iinc (v := nI ((a + t) + 1)) (lv' := [(4, .int (nI ((a + t) + 1))), (3, .int (bI false)), (0, .ref (am 0)), (1, .int (nI a)), (2, .int (nI q))]) hx hb d_MD_areFree_56 hl (k := 4) rfl (nI_1 _) (by decide) rfl (fun ls hl => ?_)
              refine lv_goto (tgt := 5) hx hb d_MD_areFree_59 (by decide) ?_
              exact ih (t + 1) (by omega) (by omega) _ _ _ hI (by rw [e1]; exact lv_sub hl [2, 3, 4, 1, 0] rfl)
            · refine lv_aload_n hx hb d_MD_areFree_40 rfl (lv_at hl 0 rfl) ?_
              refine g_get (own := "GroupBitmapsModel") (C := R_MD) (T := F_MD) (N := 11) (ci := 3) (v := .ref (am 2)) hx hb hg ku_MD hown hK hI (0) (wm_0) rfl 3 (by decide) kw_473 rfl d_MD_areFree_41 ?_
              refine lv_iload hx hb d_MD_areFree_44 (lv_at hl 4 rfl) ?_
              refine g_zald (B := (mBk τ)) (i := a + t) hx hb hK hI (2) 1 (wm_Bk) rfl (by omega) (by omega) d_MD_areFree_46 ?_
              refine r_bnz (b := (mBk τ) (a + t)) (tgt := 54) hx hb d_MD_areFree_47 (by decide) (fun h5 => ?_) (fun h5 => ?_)
              · have e1 := mAf_3 h5
                refine lv_iconst (v := bI false) hx hb d_MD_areFree_54 (by decide) ?_
                refine lv_istore_n (lv' := [(3, .int (bI false)), (0, .ref (am 0)), (1, .int (nI a)), (2, .int (nI q)), (4, .int (nI (a + t)))]) hx hb d_MD_areFree_55 rfl hl (by decide) rfl (fun ls hl => ?_)
                refine lv_iinc (v := nI ((a + t) + 1)) (lv' := [(4, .int (nI ((a + t) + 1))), (3, .int (bI false)), (0, .ref (am 0)), (1, .int (nI a)), (2, .int (nI q))]) hx hb d_MD_areFree_56 hl (k := 4) rfl (nI_1 _) (by decide) rfl (fun ls hl => ?_)
                refine lv_goto (tgt := 5) hx hb d_MD_areFree_59 (by decide) ?_
                exact ih (t + 1) (by omega) (by omega) _ _ _ hI (by rw [e1]; exact lv_sub hl [2, 3, 4, 1, 0] rfl)
              · have e1 := mAf_4 h2 h3 h4 h5
                refine lv_iconst (v := bI true) hx hb d_MD_areFree_50 (by decide) ?_
                refine lv_goto (tgt := 55) hx hb d_MD_areFree_51 (by decide) ?_
                refine lv_istore_n (lv' := [(3, .int (bI true)), (0, .ref (am 0)), (1, .int (nI a)), (2, .int (nI q)), (4, .int (nI (a + t)))]) hx hb d_MD_areFree_55 rfl hl (by decide) rfl (fun ls hl => ?_)
                refine lv_iinc (v := nI ((a + t) + 1)) (lv' := [(4, .int (nI ((a + t) + 1))), (3, .int (bI true)), (0, .ref (am 0)), (1, .int (nI a)), (2, .int (nI q))]) hx hb d_MD_areFree_56 hl (k := 4) rfl (nI_1 _) (by decide) rfl (fun ls hl => ?_)
                refine lv_goto (tgt := 5) hx hb d_MD_areFree_59 (by decide) ?_
                exact ih (t + 1) (by omega) (by omega) _ _ _ hI (by rw [e1]; exact lv_sub hl [2, 3, 4, 1, 0] rfl)
  exact loop (q + 1) 0 (by omega) (Nat.zero_le _) _ _ _ hI (lv_sub hl [2, 3, 4, 1, 0] rfl)
set_option maxHeartbeats 4000000 in
set_option maxRecDepth 100000 in
theorem c_MD_settle {l : Launch} {D : va_G} {cG cZ cI cJ : ClassId} {am : Nat → Nat} (τ : mS)  : gMet l D (gT cG cZ cI cJ) y_MD_settle b_MD_settle 3 (some .int) ({ frames := 0, cells := 0, slots := 0, locals := 0 }) (wm am cI cZ τ) [.ref (am 0)] (wm am cI cZ (mSet τ)) (some (.int (nI (cT (mTo τ) 1024)))) := by
  refine gMet_of (by decide) (Nat.le_of_ble_eq_true rfl) ?_
  intro p e s m below meth c A ls hC hA hI hl
  obtain ⟨hx, hb, hr, hlk, hown, hml, hg, hK⟩ := hC
  have hown : s.vm.findClass "GroupBitmapsModel" = some m.cls := hown
  have hl : lv_has ls 3 [(0, .ref (am 0))] := hl
  refine lv_aload_n hx hb d_MD_settle_0 rfl (lv_at hl 0 rfl) ?_
  refine lv_iconst (v := nI 0) hx hb d_MD_settle_1 (by decide) ?_
  refine g_put (ws' := (wm am cI cZ (vTh τ 0))) (own := "GroupBitmapsModel") (C := R_MD) (T := F_MD) (N := 11) (ci := 3) (v := .int (nI 0)) hx hb hg ku_MD t_MD t_MD_ok n_MD hown hK hI (0) (wm_0) rfl 0 (by decide) kw_470 rfl rfl (rfl) (rfl) (Nat.le_of_ble_eq_true rfl) (wm_vTh) d_MD_settle_2 (fun H locs hI => ?_)
  refine lv_iconst (v := nI 0) hx hb d_MD_settle_5 (by decide) ?_
  refine lv_istore_n (lv' := [(1, .int (nI 0)), (0, .ref (am 0))]) hx hb d_MD_settle_6 rfl hl (by decide) rfl (fun ls hl => ?_)
  refine lv_iconst (v := nI 0) hx hb d_MD_settle_7 (by decide) ?_
  refine lv_istore_n (lv' := [(2, .int (nI 0)), (1, .int (nI 0)), (0, .ref (am 0))]) hx hb d_MD_settle_8 rfl hl (by decide) rfl (fun ls hl => ?_)
  have loop : ∀ (fuel : Nat) (k : Nat), 1025 ≤ fuel + k → (k ≤ 1024) → ∀ (H : Heap) (locs : List Loc) (ls : Array Slot), gI D A s.heap (wm am cI cZ (vTo (vTh τ 0) (clr (mTo τ) k))) H locs → lv_has ls 3 [(0, .ref (am 0)), (1, .int (nI (cT (mTo τ) k))), (2, .int (nI k))] → W p l e ({ frames := 0, cells := 0, slots := 0, locals := 0 }) s m ([.ref (am 0)] : List Value).toArray below meth c H locs 0 0 (gQ D below ([.ref (am 0)] : List Value).toArray s A (wm am cI cZ (mSet τ)) (some (.int (nI (cT (mTo τ) 1024))))) (F0 m 9 ls []) := by
    intro fuel
    induction fuel with
    | zero => intro k hfu hk; exact absurd hfu (by omega)
    | succ fuel ih =>
      intro k hfu hk H locs ls hI hl
      have hct := cT_le (mTo τ) k
      refine lv_iload_n hx hb d_MD_settle_9 rfl (lv_at hl 2 rfl) ?_
      refine lv_sipush (v := nI 1024) hx hb d_MD_settle_10 (by decide) ?_
      refine r_ge (a := k) (b := 1024) (tgt := 46) hx hb d_MD_settle_13 (by decide) (by omega) (by omega) (fun h => ?_) (fun h => ?_)
      · obtain rfl : k = 1024 := by omega
        refine lv_iload_n hx hb d_MD_settle_46 rfl (lv_at hl 1 rfl) ?_
        exact g_ri hx hb hr hlk hI (rfl) d_MD_settle_47
      · refine lv_aload_n hx hb d_MD_settle_16 rfl (lv_at hl 0 rfl) ?_
        refine g_get (own := "GroupBitmapsModel") (C := R_MD) (T := F_MD) (N := 11) (ci := 3) (v := .ref (am 5)) hx hb hg ku_MD hown hK hI (0) (wm_0) rfl 8 (by decide) kw_478 rfl d_MD_settle_17 ?_
        refine lv_iload_n hx hb d_MD_settle_20 rfl (lv_at hl 2 rfl) ?_
        refine g_zald (B := (mTo (vTo (vTh τ 0) (clr (mTo τ) k)))) (i := k) hx hb hK hI (5) 1 (wm_To) rfl (by omega) (by omega) d_MD_settle_21 ?_
        refine r_bz (b := (mTo (vTo (vTh τ 0) (clr (mTo τ) k))) k) (tgt := 31) hx hb d_MD_settle_22 (by decide) (fun h2 => ?_) (fun h2 => ?_)
        · have e1 := cT_f ((clr_at (mTo τ) k).symm.trans h2)
          refine lv_iload_n hx hb d_MD_settle_31 rfl (lv_at hl 1 rfl) ?_
          refine lv_istore_n (lv' := [(1, .int (nI (cT (mTo τ) k))), (0, .ref (am 0)), (2, .int (nI k))]) hx hb d_MD_settle_32 rfl hl (by decide) rfl (fun ls hl => ?_)
          refine lv_aload_n hx hb d_MD_settle_33 rfl (lv_at hl 1 rfl) ?_
          refine g_get (own := "GroupBitmapsModel") (C := R_MD) (T := F_MD) (N := 11) (ci := 3) (v := .ref (am 5)) hx hb hg ku_MD hown hK hI (0) (wm_0) rfl 8 (by decide) kw_478 rfl d_MD_settle_34 ?_
          refine lv_iload_n hx hb d_MD_settle_37 rfl (lv_at hl 2 rfl) ?_
          refine lv_iconst (v := bI false) hx hb d_MD_settle_38 (by decide) ?_
          refine g_zast (ws' := (wm am cI cZ (vTo (vTh τ 0) (clr (mTo τ) (k + 1))))) (B := (mTo (vTo (vTh τ 0) (clr (mTo τ) k)))) (i := k) (b := false) hx hb hK hI (5) 1 (wm_To) rfl (by omega) (by omega) ((wm_vTo (f := setb (clr (mTo τ) k) k false)).trans (by rw [clr_s, vTo_vTo])) d_MD_settle_39 (fun H locs hI => ?_)
          refine lv_iinc (v := nI (k + 1)) (lv' := [(2, .int (nI (k + 1))), (1, .int (nI (cT (mTo τ) k))), (0, .ref (am 0))]) hx hb d_MD_settle_40 hl (k := 2) rfl (nI_1 _) (by decide) rfl (fun ls hl => ?_)
          refine lv_goto (tgt := 9) hx hb d_MD_settle_43 (by decide) ?_
          exact ih (k + 1) (by omega) (by omega) _ _ _ hI (by rw [e1]; exact lv_sub hl [2, 1, 0] rfl)
        · have e1 := cT_t ((clr_at (mTo τ) k).symm.trans h2)
          refine lv_iload_n hx hb d_MD_settle_25 rfl (lv_at hl 1 rfl) ?_
          refine lv_iconst (v := nI 1) hx hb d_MD_settle_26 (by decide) ?_
          refine r_iadd (a := cT (mTo τ) k) (b := 1) hx hb d_MD_settle_27 ?_
          refine lv_goto (tgt := 32) hx hb d_MD_settle_28 (by decide) ?_
          refine lv_istore_n (lv' := [(1, .int (nI ((cT (mTo τ) k) + 1))), (0, .ref (am 0)), (2, .int (nI k))]) hx hb d_MD_settle_32 rfl hl (by decide) rfl (fun ls hl => ?_)
          refine lv_aload_n hx hb d_MD_settle_33 rfl (lv_at hl 1 rfl) ?_
          refine g_get (own := "GroupBitmapsModel") (C := R_MD) (T := F_MD) (N := 11) (ci := 3) (v := .ref (am 5)) hx hb hg ku_MD hown hK hI (0) (wm_0) rfl 8 (by decide) kw_478 rfl d_MD_settle_34 ?_
          refine lv_iload_n hx hb d_MD_settle_37 rfl (lv_at hl 2 rfl) ?_
          refine lv_iconst (v := bI false) hx hb d_MD_settle_38 (by decide) ?_
          refine g_zast (ws' := (wm am cI cZ (vTo (vTh τ 0) (clr (mTo τ) (k + 1))))) (B := (mTo (vTo (vTh τ 0) (clr (mTo τ) k)))) (i := k) (b := false) hx hb hK hI (5) 1 (wm_To) rfl (by omega) (by omega) ((wm_vTo (f := setb (clr (mTo τ) k) k false)).trans (by rw [clr_s, vTo_vTo])) d_MD_settle_39 (fun H locs hI => ?_)
          refine lv_iinc (v := nI (k + 1)) (lv' := [(2, .int (nI (k + 1))), (1, .int (nI ((cT (mTo τ) k) + 1))), (0, .ref (am 0))]) hx hb d_MD_settle_40 hl (k := 2) rfl (nI_1 _) (by decide) rfl (fun ls hl => ?_)
          refine lv_goto (tgt := 9) hx hb d_MD_settle_43 (by decide) ?_
          exact ih (k + 1) (by omega) (by omega) _ _ _ hI (by rw [e1]; exact lv_sub hl [2, 1, 0] rfl)
  exact loop 1025 0 (by omega) (Nat.zero_le _) _ _ _ (by rw [clr_0]; exact hI) (lv_sub hl [2, 1, 0] rfl)
set_option maxHeartbeats 4000000 in
set_option maxRecDepth 100000 in
theorem c_MD_taken {l : Launch} {D : va_G} {cG cZ cI cJ : ClassId} {am : Nat → Nat} (τ : mS)  : gMet l D (gT cG cZ cI cJ) y_MD_taken b_MD_taken 1 (some .int) ({ frames := 0, cells := 0, slots := 0, locals := 0 }) (wm am cI cZ τ) [.ref (am 0)] (wm am cI cZ (vTh τ 0)) (some (.int (nI (mLt τ)))) := by
  refine gMet_of (by decide) (Nat.le_of_ble_eq_true rfl) ?_
  intro p e s m below meth c A ls hC hA hI hl
  obtain ⟨hx, hb, hr, hlk, hown, hml, hg, hK⟩ := hC
  have hown : s.vm.findClass "GroupBitmapsModel" = some m.cls := hown
  have hl : lv_has ls 1 [(0, .ref (am 0))] := hl
  refine lv_aload_n hx hb d_MD_taken_0 rfl (lv_at hl 0 rfl) ?_
  refine lv_iconst (v := nI 0) hx hb d_MD_taken_1 (by decide) ?_
  refine g_put (ws' := (wm am cI cZ (vTh τ 0))) (own := "GroupBitmapsModel") (C := R_MD) (T := F_MD) (N := 11) (ci := 3) (v := .int (nI 0)) hx hb hg ku_MD t_MD t_MD_ok n_MD hown hK hI (0) (wm_0) rfl 0 (by decide) kw_470 rfl rfl (rfl) (rfl) (Nat.le_of_ble_eq_true rfl) (wm_vTh) d_MD_taken_2 (fun H locs hI => ?_)
  refine lv_aload_n hx hb d_MD_taken_5 rfl (lv_at hl 0 rfl) ?_
  refine g_get (own := "GroupBitmapsModel") (C := R_MD) (T := F_MD) (N := 11) (ci := 3) (v := .int (nI (mLt (vTh τ 0)))) hx hb hg ku_MD hown hK hI (0) (wm_0) rfl 7 (by decide) kw_477 rfl d_MD_taken_6 ?_
  exact g_ri hx hb hr hlk hI (rfl) d_MD_taken_9
set_option maxHeartbeats 4000000 in
set_option maxRecDepth 100000 in
theorem c_MD_isTold {l : Launch} {D : va_G} {cG cZ cI cJ : ClassId} {am : Nat → Nat} (τ : mS) (q : Nat) (hq : q < 1024) : gMet l D (gT cG cZ cI cJ) y_MD_isTold b_MD_isTold 2 (some .boolean) ({ frames := 0, cells := 0, slots := 0, locals := 0 }) (wm am cI cZ τ) [.ref (am 0), .int (nI q)] (wm am cI cZ (vTh τ 0)) (some (.int (bI (mTo τ q)))) := by
  refine gMet_of (by decide) (Nat.le_of_ble_eq_true rfl) ?_
  intro p e s m below meth c A ls hC hA hI hl
  obtain ⟨hx, hb, hr, hlk, hown, hml, hg, hK⟩ := hC
  have hown : s.vm.findClass "GroupBitmapsModel" = some m.cls := hown
  have hl : lv_has ls 2 [(0, .ref (am 0)), (1, .int (nI q))] := hl
  refine lv_aload_n hx hb d_MD_isTold_0 rfl (lv_at hl 0 rfl) ?_
  refine lv_iload_n hx hb d_MD_isTold_1 rfl (lv_at hl 1 rfl) ?_
  refine r_zlt (a := q) (tgt := 12) hx hb d_MD_isTold_2 (by decide) (by omega) ?_
  refine lv_iload_n hx hb d_MD_isTold_5 rfl (lv_at hl 1 rfl) ?_
  refine lv_sipush (v := nI 1023) hx hb d_MD_isTold_6 (by decide) ?_
  refine r_le (a := q) (b := 1023) (tgt := 16) hx hb d_MD_isTold_9 (by decide) (by omega) (by omega) (fun h9 => ?_) (fun h9 => ?_)
  · refine lv_iconst (v := nI 0) hx hb d_MD_isTold_16 (by decide) ?_
    refine g_put (ws' := (wm am cI cZ (vTh τ 0))) (own := "GroupBitmapsModel") (C := R_MD) (T := F_MD) (N := 11) (ci := 3) (v := .int (nI 0)) hx hb hg ku_MD t_MD t_MD_ok n_MD hown hK hI (0) (wm_0) rfl 0 (by decide) kw_470 rfl rfl (rfl) (rfl) (Nat.le_of_ble_eq_true rfl) (wm_vTh) d_MD_isTold_17 (fun H locs hI => ?_)
    refine lv_aload_n hx hb d_MD_isTold_20 rfl (lv_at hl 0 rfl) ?_
    refine g_get (own := "GroupBitmapsModel") (C := R_MD) (T := F_MD) (N := 11) (ci := 3) (v := .int (nI 0)) hx hb hg ku_MD hown hK hI (0) (wm_0) rfl 0 (by decide) kw_470 rfl d_MD_isTold_21 ?_
    refine r_zne (a := 0) (tgt := 40) hx hb d_MD_isTold_24 (by decide) (by omega) (fun h9 => ?_) (fun h9 => ?_)
    · exact absurd h9 (by omega)
    · refine lv_aload_n hx hb d_MD_isTold_27 rfl (lv_at hl 0 rfl) ?_
      refine g_get (own := "GroupBitmapsModel") (C := R_MD) (T := F_MD) (N := 11) (ci := 3) (v := .ref (am 5)) hx hb hg ku_MD hown hK hI (0) (wm_0) rfl 8 (by decide) kw_478 rfl d_MD_isTold_28 ?_
      refine lv_iload_n hx hb d_MD_isTold_31 rfl (lv_at hl 1 rfl) ?_
      refine g_zald (B := (mTo (vTh τ 0))) (i := q) hx hb hK hI (5) 1 (wm_To) rfl (by omega) (by omega) d_MD_isTold_32 ?_
      refine r_bz (b := (mTo (vTh τ 0)) q) (tgt := 40) hx hb d_MD_isTold_33 (by decide) (fun h2 => ?_) (fun h2 => ?_)
      · refine lv_iconst (v := bI false) hx hb d_MD_isTold_40 (by decide) ?_
        exact g_rz hx hb hr hlk hI (by rw [show mTo τ q = false from h2]) d_MD_isTold_41
      · refine lv_iconst (v := bI true) hx hb d_MD_isTold_36 (by decide) ?_
        refine lv_goto (tgt := 41) hx hb d_MD_isTold_37 (by decide) ?_
        exact g_rz hx hb hr hlk hI (by rw [show mTo τ q = true from h2]) d_MD_isTold_41
  · exact absurd h9 (by omega)
set_option maxHeartbeats 4000000 in
set_option maxRecDepth 100000 in
theorem c_MD_isTold_bad {l : Launch} {D : va_G} {cG cZ cI cJ : ClassId} {am : Nat → Nat} (τ : mS) (x : Int32) (hbad : ¬ (¬ x < 0 ∧ x ≤ nI 1023)) : gMet l D (gT cG cZ cI cJ) y_MD_isTold b_MD_isTold 2 (some .boolean) ({ frames := 0, cells := 0, slots := 0, locals := 0 }) (wm am cI cZ τ) [.ref (am 0), .int x] (wm am cI cZ (vTh τ 1)) (some (.int (bI false))) := by
  refine gMet_of (by decide) (Nat.le_of_ble_eq_true rfl) ?_
  intro p e s m below meth c A ls hC hA hI hl
  obtain ⟨hx, hb, hr, hlk, hown, hml, hg, hK⟩ := hC
  have hown : s.vm.findClass "GroupBitmapsModel" = some m.cls := hown
  have hl : lv_has ls 2 [(0, .ref (am 0)), (1, .int x)] := hl
  refine lv_aload_n hx hb d_MD_isTold_0 rfl (lv_at hl 0 rfl) ?_
  refine lv_iload_n hx hb d_MD_isTold_1 rfl (lv_at hl 1 rfl) ?_
  refine lv_if_lt (tgt := 12) hx hb d_MD_isTold_2 (by decide) (fun h => ?_) (fun h => ?_)
  · refine lv_iconst (v := nI 1) hx hb d_MD_isTold_12 (by decide) ?_
    refine lv_goto (tgt := 17) hx hb d_MD_isTold_13 (by decide) ?_
    refine g_put (ws' := (wm am cI cZ (vTh τ 1))) (own := "GroupBitmapsModel") (C := R_MD) (T := F_MD) (N := 11) (ci := 3) (v := .int (nI 1)) hx hb hg ku_MD t_MD t_MD_ok n_MD hown hK hI (0) (wm_0) rfl 0 (by decide) kw_470 rfl rfl (rfl) (rfl) (Nat.le_of_ble_eq_true rfl) (wm_vTh) d_MD_isTold_17 (fun H locs hI => ?_)
    refine lv_aload_n hx hb d_MD_isTold_20 rfl (lv_at hl 0 rfl) ?_
    refine g_get (own := "GroupBitmapsModel") (C := R_MD) (T := F_MD) (N := 11) (ci := 3) (v := .int (nI 1)) hx hb hg ku_MD hown hK hI (0) (wm_0) rfl 0 (by decide) kw_470 rfl d_MD_isTold_21 ?_
    refine r_zne (a := 1) (tgt := 40) hx hb d_MD_isTold_24 (by decide) (by omega) (fun h9 => ?_) (fun h9 => ?_)
    · refine lv_iconst (v := bI false) hx hb d_MD_isTold_40 (by decide) ?_
      exact g_rz hx hb hr hlk hI (rfl) d_MD_isTold_41
    · exact absurd h9 (by omega)
  · refine lv_iload_n hx hb d_MD_isTold_5 rfl (lv_at hl 1 rfl) ?_
    refine lv_sipush (v := nI 1023) hx hb d_MD_isTold_6 (by decide) ?_
    refine lv_icmp_le (tgt := 16) hx hb d_MD_isTold_9 (by decide) (fun h2 => ?_) (fun h2 => ?_)
    · exact absurd ⟨h, h2⟩ hbad
    · refine lv_iconst (v := nI 1) hx hb d_MD_isTold_12 (by decide) ?_
      refine lv_goto (tgt := 17) hx hb d_MD_isTold_13 (by decide) ?_
      refine g_put (ws' := (wm am cI cZ (vTh τ 1))) (own := "GroupBitmapsModel") (C := R_MD) (T := F_MD) (N := 11) (ci := 3) (v := .int (nI 1)) hx hb hg ku_MD t_MD t_MD_ok n_MD hown hK hI (0) (wm_0) rfl 0 (by decide) kw_470 rfl rfl (rfl) (rfl) (Nat.le_of_ble_eq_true rfl) (wm_vTh) d_MD_isTold_17 (fun H locs hI => ?_)
      refine lv_aload_n hx hb d_MD_isTold_20 rfl (lv_at hl 0 rfl) ?_
      refine g_get (own := "GroupBitmapsModel") (C := R_MD) (T := F_MD) (N := 11) (ci := 3) (v := .int (nI 1)) hx hb hg ku_MD hown hK hI (0) (wm_0) rfl 0 (by decide) kw_470 rfl d_MD_isTold_21 ?_
      refine r_zne (a := 1) (tgt := 40) hx hb d_MD_isTold_24 (by decide) (by omega) (fun h9 => ?_) (fun h9 => ?_)
      · refine lv_iconst (v := bI false) hx hb d_MD_isTold_40 (by decide) ?_
        exact g_rz hx hb hr hlk hI (rfl) d_MD_isTold_41
      · exact absurd h9 (by omega)
end
section
set_option maxHeartbeats 4000000 in
set_option maxRecDepth 100000 in
theorem c_MD_layOut {l : Launch} {D : va_G} {cG cZ cI cJ : ClassId} {am : Nat → Nat} (τ : mS) (c0 la : Nat) (h1 : 1 ≤ c0) (h4 : c0 ≤ 4) (hla2 : la ≤ 256) : gMet l D (gT cG cZ cI cJ) y_MD_layOut b_MD_layOut 5 none ({ frames := 2, cells := 0, slots := 0, locals := 40 }) (wm am cI cZ τ) [.ref (am 0), .int (nI c0), .int (nI la)] (wm am cI cZ (mLays (mLay0 τ c0) c0 la c0)) (none) := by
  refine gMet_of (by decide) (Nat.le_of_ble_eq_true rfl) ?_
  intro p e s m below meth c A ls hC hA hI hl
  obtain ⟨hx, hb, hr, hlk, hown, hml, hg, hK⟩ := hC
  have hown : s.vm.findClass "GroupBitmapsModel" = some m.cls := hown
  have hl : lv_has ls 5 [(0, .ref (am 0)), (1, .int (nI c0)), (2, .int (nI la))] := hl
  refine lv_aload_n hx hb d_MD_layOut_0 rfl (lv_at hl 0 rfl) ?_
  refine lv_iload_n hx hb d_MD_layOut_1 rfl (lv_at hl 1 rfl) ?_
  refine g_put (ws' := (wm am cI cZ (vGr τ c0))) (own := "GroupBitmapsModel") (C := R_MD) (T := F_MD) (N := 11) (ci := 3) (v := .int (nI c0)) hx hb hg ku_MD t_MD t_MD_ok n_MD hown hK hI (0) (wm_0) rfl 1 (by decide) kw_471 rfl rfl (rfl) (rfl) (Nat.le_of_ble_eq_true rfl) (wm_vGr) d_MD_layOut_2 (fun H locs hI => ?_)
  refine lv_aload_n hx hb d_MD_layOut_5 rfl (lv_at hl 0 rfl) ?_
  refine lv_iconst (v := nI 0) hx hb d_MD_layOut_6 (by decide) ?_
  refine g_put (ws' := (wm am cI cZ (vRs (vGr τ c0) 0))) (own := "GroupBitmapsModel") (C := R_MD) (T := F_MD) (N := 11) (ci := 3) (v := .int (nI 0)) hx hb hg ku_MD t_MD t_MD_ok n_MD hown hK hI (0) (wm_0) rfl 6 (by decide) kw_476 rfl rfl (rfl) (rfl) (Nat.le_of_ble_eq_true rfl) (wm_vRs) d_MD_layOut_7 (fun H locs hI => ?_)
  refine lv_aload_n hx hb d_MD_layOut_10 rfl (lv_at hl 0 rfl) ?_
  refine lv_iconst (v := nI 0) hx hb d_MD_layOut_11 (by decide) ?_
  refine g_put (ws' := (wm am cI cZ (vLt (vRs (vGr τ c0) 0) 0))) (own := "GroupBitmapsModel") (C := R_MD) (T := F_MD) (N := 11) (ci := 3) (v := .int (nI 0)) hx hb hg ku_MD t_MD t_MD_ok n_MD hown hK hI (0) (wm_0) rfl 7 (by decide) kw_477 rfl rfl (rfl) (rfl) (Nat.le_of_ble_eq_true rfl) (wm_vLt) d_MD_layOut_12 (fun H locs hI => ?_)
  refine lv_aload_n hx hb d_MD_layOut_15 rfl (lv_at hl 0 rfl) ?_
  refine g_get (own := "GroupBitmapsModel") (C := R_MD) (T := F_MD) (N := 11) (ci := 3) (v := .ref (am 5)) hx hb hg ku_MD hown hK hI (0) (wm_0) rfl 8 (by decide) kw_478 rfl d_MD_layOut_16 ?_
  refine lv_iconst (v := nI 1) hx hb d_MD_layOut_19 (by decide) ?_
  refine lv_iconst (v := bI true) hx hb d_MD_layOut_20 (by decide) ?_
  refine g_zast (ws' := (wm am cI cZ (mLay0 τ c0))) (B := (mTo (vLt (vRs (vGr τ c0) 0) 0))) (i := 1) (b := true) hx hb hK hI (5) 1 (wm_To) rfl (by omega) (by omega) (wm_vTo (f := setb (mTo τ) 1 true)) d_MD_layOut_21 (fun H locs hI => ?_)
  refine lv_iconst (v := bI false) hx hb d_MD_layOut_22 (by decide) ?_
  refine lv_istore_n (lv' := [(3, .int (bI false)), (0, .ref (am 0)), (1, .int (nI c0)), (2, .int (nI la))]) hx hb d_MD_layOut_23 rfl hl (by decide) rfl (fun ls hl => ?_)
  have loop : ∀ (fuel : Nat) (g : Nat), c0 + 1 ≤ fuel + g → (g ≤ c0) → ∀ (H : Heap) (locs : List Loc) (ls : Array Slot), gI D A s.heap (wm am cI cZ (mLays (mLay0 τ c0) c0 la g)) H locs → lv_has ls 5 [(0, .ref (am 0)), (1, .int (nI c0)), (2, .int (nI la)), (3, .int (nI g))] → W p l e ({ frames := 2, cells := 0, slots := 0, locals := 40 }) s m ([.ref (am 0), .int (nI c0), .int (nI la)] : List Value).toArray below meth c H locs 0 0 (gQ D below ([.ref (am 0), .int (nI c0), .int (nI la)] : List Value).toArray s A (wm am cI cZ (mLays (mLay0 τ c0) c0 la c0)) (none)) (F0 m 24 ls []) := by
    intro fuel
    induction fuel with
    | zero => intro g hfu hgc; exact absurd hfu (by omega)
    | succ fuel ih =>
      intro g hfu hgc H locs ls hI hl
      have hcn : mGr (mLays (mLay0 τ c0) c0 la g) = c0 := by rw [mGr_mLays]; rfl
      have hhd := gHd_le g
      refine lv_iload_n hx hb d_MD_layOut_24 rfl (lv_at hl 3 rfl) ?_
      refine lv_aload_n hx hb d_MD_layOut_25 rfl (lv_at hl 0 rfl) ?_
      refine g_get (own := "GroupBitmapsModel") (C := R_MD) (T := F_MD) (N := 11) (ci := 3) (v := .int (nI (mGr (mLays (mLay0 τ c0) c0 la g)))) hx hb hg ku_MD hown hK hI (0) (wm_0) rfl 1 (by decide) kw_471 rfl d_MD_layOut_26 ?_
      refine r_ge (a := g) (b := mGr (mLays (mLay0 τ c0) c0 la g)) (tgt := 180) hx hb d_MD_layOut_29 (by decide) (by omega) (by omega) (fun h => ?_) (fun h => ?_)
      · obtain rfl : c0 = g := by omega
        exact g_rv hx hb hr hlk hI (rfl) d_MD_layOut_180
      · refine lv_aload_n hx hb d_MD_layOut_32 rfl (lv_at hl 0 rfl) ?_
        refine g_get (own := "GroupBitmapsModel") (C := R_MD) (T := F_MD) (N := 11) (ci := 3) (v := .ref (am 1)) hx hb hg ku_MD hown hK hI (0) (wm_0) rfl 2 (by decide) kw_472 rfl d_MD_layOut_33 ?_
        refine lv_iload_n hx hb d_MD_layOut_36 rfl (lv_at hl 3 rfl) ?_
        refine lv_iload_n hx hb d_MD_layOut_37 rfl (lv_at hl 3 rfl) ?_
        refine lv_aload_n hx hb d_MD_layOut_38 rfl (lv_at hl 0 rfl) ?_
        refine g_get (own := "GroupBitmapsModel") (C := R_MD) (T := F_MD) (N := 11) (ci := 3) (v := .int (nI (mGr (mLays (mLay0 τ c0) c0 la g)))) hx hb hg ku_MD hown hK hI (0) (wm_0) rfl 1 (by decide) kw_471 rfl d_MD_layOut_39 ?_
        refine lv_iconst (v := nI 1) hx hb d_MD_layOut_42 (by decide) ?_
        refine r_isub (a := mGr (mLays (mLay0 τ c0) c0 la g)) (b := 1) hx hb (by omega) d_MD_layOut_43 ?_
        refine r_ne (a := g) (b := (mGr (mLays (mLay0 τ c0) c0 la g)) - 1) (tgt := 51) hx hb d_MD_layOut_44 (by decide) (by omega) (by omega) (fun h2 => ?_) (fun h2 => ?_)
        · have ei : (if g = c0 - 1 then la else 256) = 256 := if_neg (by omega)
          have es : mLays (mLay0 τ c0) c0 la (g + 1) = mLayG (mLays (mLay0 τ c0) c0 la g) g 256 := by rw [mLays, ei]
          refine lv_sipush (v := nI 256) hx hb d_MD_layOut_51 (by decide) ?_
          refine g_iast (ws' := (wm am cI cZ (vSz (mLays (mLay0 τ c0) c0 la g) (setn (mSz (mLays (mLay0 τ c0) c0 la g)) g 256)))) (F := (mSz (mLays (mLay0 τ c0) c0 la g))) (i := g) (v := 256) hx hb hK hI (1) 2 (wm_Sz) rfl (by omega) (by omega) (wm_vSz (f := setn (mSz (mLays (mLay0 τ c0) c0 la g)) g 256)) d_MD_layOut_54 (fun H locs hI => ?_)
          refine lv_aload_n hx hb d_MD_layOut_55 rfl (lv_at hl 0 rfl) ?_
          refine g_get (own := "GroupBitmapsModel") (C := R_MD) (T := F_MD) (N := 11) (ci := 3) (v := .ref (am 4)) hx hb hg ku_MD hown hK hI (0) (wm_0) rfl 5 (by decide) kw_475 rfl d_MD_layOut_56 ?_
          refine lv_iload_n hx hb d_MD_layOut_59 rfl (lv_at hl 3 rfl) ?_
          refine lv_iconst (v := nI 0) hx hb d_MD_layOut_60 (by decide) ?_
          refine g_iast (ws' := (wm am cI cZ (vFd (vSz (mLays (mLay0 τ c0) c0 la g) (setn (mSz (mLays (mLay0 τ c0) c0 la g)) g 256)) (setn (mFd (mLays (mLay0 τ c0) c0 la g)) g 0)))) (F := (mFd (vSz (mLays (mLay0 τ c0) c0 la g) (setn (mSz (mLays (mLay0 τ c0) c0 la g)) g 256)))) (i := g) (v := 0) hx hb hK hI (4) 2 (wm_Fd) rfl (by omega) (by omega) (wm_vFd (f := setn (mFd (mLays (mLay0 τ c0) c0 la g)) g 0)) d_MD_layOut_61 (fun H locs hI => ?_)
          refine lv_aload_n hx hb d_MD_layOut_62 rfl (lv_at hl 0 rfl) ?_
          refine g_get (own := "GroupBitmapsModel") (C := R_MD) (T := F_MD) (N := 11) (ci := 3) (v := .ref (am 5)) hx hb hg ku_MD hown hK hI (0) (wm_0) rfl 8 (by decide) kw_478 rfl d_MD_layOut_63 ?_
          refine lv_iload_n hx hb d_MD_layOut_66 rfl (lv_at hl 3 rfl) ?_
          refine g_callS (own := "GroupBitmapsModel") (k := 1) (As := [.int (nI g)]) (rest := [.ref (am 5)]) (c_MD_bitmap (vFd (vSz (mLays (mLay0 τ c0) c0 la g) (setn (mSz (mLays (mLay0 τ c0) c0 la g)) g 256)) (setn (mFd (mLays (mLay0 τ c0) c0 la g)) g 0)) g (by omega)) hx hb hml hown hg hK hI hA kw_461 kw_462 kw_4 kw_463 ky_MD_bitmap ⟨Nat.le_of_ble_eq_true rfl, Nat.le_of_ble_eq_true rfl⟩ rfl rfl rfl hl.1 (Nat.le_of_ble_eq_true rfl) ⟨Nat.zero_le _, Nat.zero_le _⟩ d_MD_layOut_67 rfl rfl (fun H locs hI => ?_)
          refine lv_iconst (v := bI true) hx hb d_MD_layOut_70 (by decide) ?_
          refine g_zast (ws' := (wm am cI cZ (vTo (vFd (vSz (mLays (mLay0 τ c0) c0 la g) (setn (mSz (mLays (mLay0 τ c0) c0 la g)) g 256)) (setn (mFd (mLays (mLay0 τ c0) c0 la g)) g 0)) (setb (mTo (mLays (mLay0 τ c0) c0 la g)) (256 * g + gHd g) true)))) (B := (mTo (vFd (vSz (mLays (mLay0 τ c0) c0 la g) (setn (mSz (mLays (mLay0 τ c0) c0 la g)) g 256)) (setn (mFd (mLays (mLay0 τ c0) c0 la g)) g 0)))) (i := 256 * g + gHd g) (b := true) hx hb hK hI (5) 1 (wm_To) rfl (by omega) (by omega) (wm_vTo (f := setb (mTo (mLays (mLay0 τ c0) c0 la g)) (256 * g + gHd g) true)) d_MD_layOut_71 (fun H locs hI => ?_)
          refine lv_aload_n hx hb d_MD_layOut_72 rfl (lv_at hl 0 rfl) ?_
          refine g_get (own := "GroupBitmapsModel") (C := R_MD) (T := F_MD) (N := 11) (ci := 3) (v := .ref (am 5)) hx hb hg ku_MD hown hK hI (0) (wm_0) rfl 8 (by decide) kw_478 rfl d_MD_layOut_73 ?_
          refine lv_iload_n hx hb d_MD_layOut_76 rfl (lv_at hl 3 rfl) ?_
          refine g_callS (own := "GroupBitmapsModel") (k := 1) (As := [.int (nI g)]) (rest := [.ref (am 5)]) (c_MD_bitmap (vTo (vFd (vSz (mLays (mLay0 τ c0) c0 la g) (setn (mSz (mLays (mLay0 τ c0) c0 la g)) g 256)) (setn (mFd (mLays (mLay0 τ c0) c0 la g)) g 0)) (setb (mTo (mLays (mLay0 τ c0) c0 la g)) (256 * g + gHd g) true)) g (by omega)) hx hb hml hown hg hK hI hA kw_461 kw_462 kw_4 kw_463 ky_MD_bitmap ⟨Nat.le_of_ble_eq_true rfl, Nat.le_of_ble_eq_true rfl⟩ rfl rfl rfl hl.1 (Nat.le_of_ble_eq_true rfl) ⟨Nat.zero_le _, Nat.zero_le _⟩ d_MD_layOut_77 rfl rfl (fun H locs hI => ?_)
          refine lv_iconst (v := nI 1) hx hb d_MD_layOut_80 (by decide) ?_
          refine r_iadd (a := 256 * g + gHd g) (b := 1) hx hb d_MD_layOut_81 ?_
          refine lv_iconst (v := bI true) hx hb d_MD_layOut_82 (by decide) ?_
          refine g_zast (ws' := (wm am cI cZ (mLay1 (mLays (mLay0 τ c0) c0 la g) g 256))) (B := (mTo (vTo (vFd (vSz (mLays (mLay0 τ c0) c0 la g) (setn (mSz (mLays (mLay0 τ c0) c0 la g)) g 256)) (setn (mFd (mLays (mLay0 τ c0) c0 la g)) g 0)) (setb (mTo (mLays (mLay0 τ c0) c0 la g)) (256 * g + gHd g) true)))) (i := (256 * g + gHd g) + 1) (b := true) hx hb hK hI (5) 1 (wm_To) rfl (by omega) (by omega) (wm_vTo (f := setb (setb (mTo (mLays (mLay0 τ c0) c0 la g)) (256 * g + gHd g) true) (256 * g + gHd g + 1) true)) d_MD_layOut_83 (fun H locs hI => ?_)
          refine lv_iconst (v := nI 0) hx hb d_MD_layOut_84 (by decide) ?_
          refine lv_istore (lv' := [(4, .int (nI 0)), (0, .ref (am 0)), (1, .int (nI c0)), (2, .int (nI la)), (3, .int (nI g))]) hx hb d_MD_layOut_85 hl (by decide) rfl (fun ls hl => ?_)
          have loop2 : ∀ (fuel : Nat) (k : Nat), 257 ≤ fuel + k → (k ≤ 256) → ∀ (H : Heap) (locs : List Loc) (ls : Array Slot), gI D A s.heap (wm am cI cZ (vBk (mLay1 (mLays (mLay0 τ c0) c0 la g) g 256) (rowB (mBk (mLays (mLay0 τ c0) c0 la g)) g k))) H locs → lv_has ls 5 [(0, .ref (am 0)), (1, .int (nI c0)), (2, .int (nI la)), (3, .int (nI g)), (4, .int (nI k))] → W p l e ({ frames := 2, cells := 0, slots := 0, locals := 40 }) s m ([.ref (am 0), .int (nI c0), .int (nI la)] : List Value).toArray below meth c H locs 0 0 (gQ D below ([.ref (am 0), .int (nI c0), .int (nI la)] : List Value).toArray s A (wm am cI cZ (mLays (mLay0 τ c0) c0 la c0)) (none)) (F0 m 87 ls []) := by
            intro fuel
            induction fuel with
            | zero => intro k hfu hk; exact absurd hfu (by omega)
            | succ fuel ih2 =>
              intro k hfu hk H locs ls hI hl
              refine lv_iload hx hb d_MD_layOut_87 (lv_at hl 4 rfl) ?_
              refine lv_sipush (v := nI 256) hx hb d_MD_layOut_89 (by decide) ?_
              refine r_ge (a := k) (b := 256) (tgt := 128) hx hb d_MD_layOut_92 (by decide) (by omega) (by omega) (fun h3 => ?_) (fun h3 => ?_)
              · obtain rfl : k = 256 := by omega
                refine lv_iconst (v := nI 0) hx hb d_MD_layOut_128 (by decide) ?_
                refine lv_istore (lv' := [(4, .int (nI 0)), (0, .ref (am 0)), (1, .int (nI c0)), (2, .int (nI la)), (3, .int (nI g))]) hx hb d_MD_layOut_129 hl (by decide) rfl (fun ls hl => ?_)
                have loop3 : ∀ (fuel : Nat) (k : Nat), 129 ≤ fuel + k → (k ≤ 128) → ∀ (H : Heap) (locs : List Loc) (ls : Array Slot), gI D A s.heap (wm am cI cZ (vFl (vBk (mLay1 (mLays (mLay0 τ c0) c0 la g) g 256) (rowB (mBk (mLays (mLay0 τ c0) c0 la g)) g 256)) (rowF (mFl (mLays (mLay0 τ c0) c0 la g)) g k))) H locs → lv_has ls 5 [(0, .ref (am 0)), (1, .int (nI c0)), (2, .int (nI la)), (3, .int (nI g)), (4, .int (nI k))] → W p l e ({ frames := 2, cells := 0, slots := 0, locals := 40 }) s m ([.ref (am 0), .int (nI c0), .int (nI la)] : List Value).toArray below meth c H locs 0 0 (gQ D below ([.ref (am 0), .int (nI c0), .int (nI la)] : List Value).toArray s A (wm am cI cZ (mLays (mLay0 τ c0) c0 la c0)) (none)) (F0 m 131 ls []) := by
                  intro fuel
                  induction fuel with
                  | zero => intro k hfu hk; exact absurd hfu (by omega)
                  | succ fuel ih3 =>
                    intro k hfu hk H locs ls hI hl
                    refine lv_iload hx hb d_MD_layOut_131 (lv_at hl 4 rfl) ?_
                    refine lv_sipush (v := nI 128) hx hb d_MD_layOut_133 (by decide) ?_
                    refine r_ge (a := k) (b := 128) (tgt := 174) hx hb d_MD_layOut_136 (by decide) (by omega) (by omega) (fun h6 => ?_) (fun h6 => ?_)
                    · obtain rfl : k = 128 := by omega
                      refine lv_iinc (v := nI (g + 1)) (lv' := [(3, .int (nI (g + 1))), (0, .ref (am 0)), (1, .int (nI c0)), (2, .int (nI la)), (4, .int (nI ((128))))]) hx hb d_MD_layOut_174 hl (k := 3) rfl (nI_1 _) (by decide) rfl (fun ls hl => ?_)
                      refine lv_goto (tgt := 24) hx hb d_MD_layOut_177 (by decide) ?_
                      exact ih (g + 1) (by omega) (by omega) _ _ _ (by rw [es]; exact hI) (lv_sub hl [1, 2, 3, 0] rfl)
                    · refine lv_aload_n hx hb d_MD_layOut_139 rfl (lv_at hl 0 rfl) ?_
                      refine g_get (own := "GroupBitmapsModel") (C := R_MD) (T := F_MD) (N := 11) (ci := 3) (v := .ref (am 3)) hx hb hg ku_MD hown hK hI (0) (wm_0) rfl 4 (by decide) kw_474 rfl d_MD_layOut_140 ?_
                      refine lv_sipush (v := nI 128) hx hb d_MD_layOut_143 (by decide) ?_
                      refine lv_iload_n hx hb d_MD_layOut_146 rfl (lv_at hl 3 rfl) ?_
                      refine r_imul (a := 128) (b := g) hx hb d_MD_layOut_147 ?_
                      refine lv_iload hx hb d_MD_layOut_148 (lv_at hl 4 rfl) ?_
                      refine r_iadd (a := 128 * g) (b := k) hx hb d_MD_layOut_150 ?_
                      refine lv_iload_n hx hb d_MD_layOut_151 rfl (lv_at hl 3 rfl) ?_
                      refine r_zne (a := g) (tgt := 166) hx hb d_MD_layOut_152 (by decide) (by omega) (fun h7 => ?_) (fun h7 => ?_)
                      · refine lv_iconst (v := bI false) hx hb d_MD_layOut_166 (by decide) ?_
                        refine g_zast (ws' := (wm am cI cZ (vFl (vBk (mLay1 (mLays (mLay0 τ c0) c0 la g) g 256) (rowB (mBk (mLays (mLay0 τ c0) c0 la g)) g 256)) (rowF (mFl (mLays (mLay0 τ c0) c0 la g)) g (k + 1))))) (B := (mFl (vFl (vBk (mLay1 (mLays (mLay0 τ c0) c0 la g) g 256) (rowB (mBk (mLays (mLay0 τ c0) c0 la g)) g 256)) (rowF (mFl (mLays (mLay0 τ c0) c0 la g)) g k)))) (i := (128 * g) + k) (b := false) hx hb hK hI (3) 1 (wm_Fl) rfl (by omega) (by omega) ((wm_vFl (f := setb (rowF (mFl (mLays (mLay0 τ c0) c0 la g)) g k) (128 * g + k) false)).trans (by rw [rowF_s (by simp; omega), vFl_vFl])) d_MD_layOut_167 (fun H locs hI => ?_)
                        refine lv_iinc (v := nI (k + 1)) (lv' := [(4, .int (nI (k + 1))), (0, .ref (am 0)), (1, .int (nI c0)), (2, .int (nI la)), (3, .int (nI g))]) hx hb d_MD_layOut_168 hl (k := 4) rfl (nI_1 _) (by decide) rfl (fun ls hl => ?_)
                        refine lv_goto (tgt := 131) hx hb d_MD_layOut_171 (by decide) ?_
                        exact ih3 (k + 1) (by omega) (by omega) _ _ _ hI (lv_sub hl [1, 2, 3, 4, 0] rfl)
                      · refine lv_iload hx hb d_MD_layOut_155 (lv_at hl 4 rfl) ?_
                        refine lv_bipush (v := nI 10) hx hb d_MD_layOut_157 (by decide) ?_
                        refine r_ge (a := k) (b := 10) (tgt := 166) hx hb d_MD_layOut_159 (by decide) (by omega) (by omega) (fun h8 => ?_) (fun h8 => ?_)
                        · refine lv_iconst (v := bI false) hx hb d_MD_layOut_166 (by decide) ?_
                          refine g_zast (ws' := (wm am cI cZ (vFl (vBk (mLay1 (mLays (mLay0 τ c0) c0 la g) g 256) (rowB (mBk (mLays (mLay0 τ c0) c0 la g)) g 256)) (rowF (mFl (mLays (mLay0 τ c0) c0 la g)) g (k + 1))))) (B := (mFl (vFl (vBk (mLay1 (mLays (mLay0 τ c0) c0 la g) g 256) (rowB (mBk (mLays (mLay0 τ c0) c0 la g)) g 256)) (rowF (mFl (mLays (mLay0 τ c0) c0 la g)) g k)))) (i := (128 * g) + k) (b := false) hx hb hK hI (3) 1 (wm_Fl) rfl (by omega) (by omega) ((wm_vFl (f := setb (rowF (mFl (mLays (mLay0 τ c0) c0 la g)) g k) (128 * g + k) false)).trans (by rw [rowF_s (by simp; omega), vFl_vFl])) d_MD_layOut_167 (fun H locs hI => ?_)
                          refine lv_iinc (v := nI (k + 1)) (lv' := [(4, .int (nI (k + 1))), (0, .ref (am 0)), (1, .int (nI c0)), (2, .int (nI la)), (3, .int (nI g))]) hx hb d_MD_layOut_168 hl (k := 4) rfl (nI_1 _) (by decide) rfl (fun ls hl => ?_)
                          refine lv_goto (tgt := 131) hx hb d_MD_layOut_171 (by decide) ?_
                          exact ih3 (k + 1) (by omega) (by omega) _ _ _ hI (lv_sub hl [1, 2, 3, 4, 0] rfl)
                        · refine lv_iconst (v := bI true) hx hb d_MD_layOut_162 (by decide) ?_
                          refine lv_goto (tgt := 167) hx hb d_MD_layOut_163 (by decide) ?_
                          refine g_zast (ws' := (wm am cI cZ (vFl (vBk (mLay1 (mLays (mLay0 τ c0) c0 la g) g 256) (rowB (mBk (mLays (mLay0 τ c0) c0 la g)) g 256)) (rowF (mFl (mLays (mLay0 τ c0) c0 la g)) g (k + 1))))) (B := (mFl (vFl (vBk (mLay1 (mLays (mLay0 τ c0) c0 la g) g 256) (rowB (mBk (mLays (mLay0 τ c0) c0 la g)) g 256)) (rowF (mFl (mLays (mLay0 τ c0) c0 la g)) g k)))) (i := (128 * g) + k) (b := true) hx hb hK hI (3) 1 (wm_Fl) rfl (by omega) (by omega) ((wm_vFl (f := setb (rowF (mFl (mLays (mLay0 τ c0) c0 la g)) g k) (128 * g + k) true)).trans (by rw [rowF_s (by simp; omega), vFl_vFl])) d_MD_layOut_167 (fun H locs hI => ?_)
                          refine lv_iinc (v := nI (k + 1)) (lv' := [(4, .int (nI (k + 1))), (0, .ref (am 0)), (1, .int (nI c0)), (2, .int (nI la)), (3, .int (nI g))]) hx hb d_MD_layOut_168 hl (k := 4) rfl (nI_1 _) (by decide) rfl (fun ls hl => ?_)
                          refine lv_goto (tgt := 131) hx hb d_MD_layOut_171 (by decide) ?_
                          exact ih3 (k + 1) (by omega) (by omega) _ _ _ hI (lv_sub hl [1, 2, 3, 4, 0] rfl)
                exact loop3 129 0 (by omega) (Nat.zero_le _) _ _ _ (by rw [rowF_0]; exact hI) (lv_sub hl [1, 2, 3, 4, 0] rfl)
              · refine lv_aload_n hx hb d_MD_layOut_95 rfl (lv_at hl 0 rfl) ?_
                refine g_get (own := "GroupBitmapsModel") (C := R_MD) (T := F_MD) (N := 11) (ci := 3) (v := .ref (am 2)) hx hb hg ku_MD hown hK hI (0) (wm_0) rfl 3 (by decide) kw_473 rfl d_MD_layOut_96 ?_
                refine lv_sipush (v := nI 256) hx hb d_MD_layOut_99 (by decide) ?_
                refine lv_iload_n hx hb d_MD_layOut_102 rfl (lv_at hl 3 rfl) ?_
                refine r_imul (a := 256) (b := g) hx hb d_MD_layOut_103 ?_
                refine lv_iload hx hb d_MD_layOut_104 (lv_at hl 4 rfl) ?_
                refine r_iadd (a := 256 * g) (b := k) hx hb d_MD_layOut_106 ?_
                refine lv_iload hx hb d_MD_layOut_107 (lv_at hl 4 rfl) ?_
                refine lv_iload_n hx hb d_MD_layOut_109 rfl (lv_at hl 3 rfl) ?_
                refine g_callS (own := "GroupBitmapsModel") (k := 1) (As := [.int (nI g)]) (rest := [.int (nI k), .int (nI ((256 * g) + k)), .ref (am 2)]) (c_MD_fixed (vBk (mLay1 (mLays (mLay0 τ c0) c0 la g) g 256) (rowB (mBk (mLays (mLay0 τ c0) c0 la g)) g k)) g (by omega)) hx hb hml hown hg hK hI hA kw_467 kw_468 kw_4 kw_469 ky_MD_fixed ⟨Nat.le_of_ble_eq_true rfl, Nat.le_of_ble_eq_true rfl⟩ rfl rfl rfl hl.1 (Nat.le_of_ble_eq_true rfl) ⟨Nat.zero_le _, Nat.zero_le _⟩ d_MD_layOut_110 rfl rfl (fun H locs hI => ?_)
                refine r_ge (a := k) (b := gHd g + 10) (tgt := 120) hx hb d_MD_layOut_113 (by decide) (by omega) (by omega) (fun h5 => ?_) (fun h5 => ?_)
                · refine lv_iconst (v := bI false) hx hb d_MD_layOut_120 (by decide) ?_
                  refine g_zast (ws' := (wm am cI cZ (vBk (mLay1 (mLays (mLay0 τ c0) c0 la g) g 256) (rowB (mBk (mLays (mLay0 τ c0) c0 la g)) g (k + 1))))) (B := (mBk (vBk (mLay1 (mLays (mLay0 τ c0) c0 la g) g 256) (rowB (mBk (mLays (mLay0 τ c0) c0 la g)) g k)))) (i := (256 * g) + k) (b := false) hx hb hK hI (2) 1 (wm_Bk) rfl (by omega) (by omega) ((wm_vBk (f := setb (rowB (mBk (mLays (mLay0 τ c0) c0 la g)) g k) (256 * g + k) false)).trans (by rw [rowB_s (by simp; omega), vBk_vBk])) d_MD_layOut_121 (fun H locs hI => ?_)
                  refine lv_iinc (v := nI (k + 1)) (lv' := [(4, .int (nI (k + 1))), (0, .ref (am 0)), (1, .int (nI c0)), (2, .int (nI la)), (3, .int (nI g))]) hx hb d_MD_layOut_122 hl (k := 4) rfl (nI_1 _) (by decide) rfl (fun ls hl => ?_)
                  refine lv_goto (tgt := 87) hx hb d_MD_layOut_125 (by decide) ?_
                  exact ih2 (k + 1) (by omega) (by omega) _ _ _ hI (lv_sub hl [1, 2, 3, 4, 0] rfl)
                · refine lv_iconst (v := bI true) hx hb d_MD_layOut_116 (by decide) ?_
                  refine lv_goto (tgt := 121) hx hb d_MD_layOut_117 (by decide) ?_
                  refine g_zast (ws' := (wm am cI cZ (vBk (mLay1 (mLays (mLay0 τ c0) c0 la g) g 256) (rowB (mBk (mLays (mLay0 τ c0) c0 la g)) g (k + 1))))) (B := (mBk (vBk (mLay1 (mLays (mLay0 τ c0) c0 la g) g 256) (rowB (mBk (mLays (mLay0 τ c0) c0 la g)) g k)))) (i := (256 * g) + k) (b := true) hx hb hK hI (2) 1 (wm_Bk) rfl (by omega) (by omega) ((wm_vBk (f := setb (rowB (mBk (mLays (mLay0 τ c0) c0 la g)) g k) (256 * g + k) true)).trans (by rw [rowB_s (by simp; omega), vBk_vBk])) d_MD_layOut_121 (fun H locs hI => ?_)
                  refine lv_iinc (v := nI (k + 1)) (lv' := [(4, .int (nI (k + 1))), (0, .ref (am 0)), (1, .int (nI c0)), (2, .int (nI la)), (3, .int (nI g))]) hx hb d_MD_layOut_122 hl (k := 4) rfl (nI_1 _) (by decide) rfl (fun ls hl => ?_)
                  refine lv_goto (tgt := 87) hx hb d_MD_layOut_125 (by decide) ?_
                  exact ih2 (k + 1) (by omega) (by omega) _ _ _ hI (lv_sub hl [1, 2, 3, 4, 0] rfl)
          exact loop2 257 0 (by omega) (Nat.zero_le _) _ _ _ (by rw [rowB_0]; exact hI) (lv_sub hl [1, 2, 3, 4, 0] rfl)
        · have ei : (if g = c0 - 1 then la else 256) = la := if_pos (by omega)
          have es : mLays (mLay0 τ c0) c0 la (g + 1) = mLayG (mLays (mLay0 τ c0) c0 la g) g la := by rw [mLays, ei]
          refine lv_iload_n hx hb d_MD_layOut_47 rfl (lv_at hl 2 rfl) ?_
          refine lv_goto (tgt := 54) hx hb d_MD_layOut_48 (by decide) ?_
          refine g_iast (ws' := (wm am cI cZ (vSz (mLays (mLay0 τ c0) c0 la g) (setn (mSz (mLays (mLay0 τ c0) c0 la g)) g la)))) (F := (mSz (mLays (mLay0 τ c0) c0 la g))) (i := g) (v := la) hx hb hK hI (1) 2 (wm_Sz) rfl (by omega) (by omega) (wm_vSz (f := setn (mSz (mLays (mLay0 τ c0) c0 la g)) g la)) d_MD_layOut_54 (fun H locs hI => ?_)
          refine lv_aload_n hx hb d_MD_layOut_55 rfl (lv_at hl 0 rfl) ?_
          refine g_get (own := "GroupBitmapsModel") (C := R_MD) (T := F_MD) (N := 11) (ci := 3) (v := .ref (am 4)) hx hb hg ku_MD hown hK hI (0) (wm_0) rfl 5 (by decide) kw_475 rfl d_MD_layOut_56 ?_
          refine lv_iload_n hx hb d_MD_layOut_59 rfl (lv_at hl 3 rfl) ?_
          refine lv_iconst (v := nI 0) hx hb d_MD_layOut_60 (by decide) ?_
          refine g_iast (ws' := (wm am cI cZ (vFd (vSz (mLays (mLay0 τ c0) c0 la g) (setn (mSz (mLays (mLay0 τ c0) c0 la g)) g la)) (setn (mFd (mLays (mLay0 τ c0) c0 la g)) g 0)))) (F := (mFd (vSz (mLays (mLay0 τ c0) c0 la g) (setn (mSz (mLays (mLay0 τ c0) c0 la g)) g la)))) (i := g) (v := 0) hx hb hK hI (4) 2 (wm_Fd) rfl (by omega) (by omega) (wm_vFd (f := setn (mFd (mLays (mLay0 τ c0) c0 la g)) g 0)) d_MD_layOut_61 (fun H locs hI => ?_)
          refine lv_aload_n hx hb d_MD_layOut_62 rfl (lv_at hl 0 rfl) ?_
          refine g_get (own := "GroupBitmapsModel") (C := R_MD) (T := F_MD) (N := 11) (ci := 3) (v := .ref (am 5)) hx hb hg ku_MD hown hK hI (0) (wm_0) rfl 8 (by decide) kw_478 rfl d_MD_layOut_63 ?_
          refine lv_iload_n hx hb d_MD_layOut_66 rfl (lv_at hl 3 rfl) ?_
          refine g_callS (own := "GroupBitmapsModel") (k := 1) (As := [.int (nI g)]) (rest := [.ref (am 5)]) (c_MD_bitmap (vFd (vSz (mLays (mLay0 τ c0) c0 la g) (setn (mSz (mLays (mLay0 τ c0) c0 la g)) g la)) (setn (mFd (mLays (mLay0 τ c0) c0 la g)) g 0)) g (by omega)) hx hb hml hown hg hK hI hA kw_461 kw_462 kw_4 kw_463 ky_MD_bitmap ⟨Nat.le_of_ble_eq_true rfl, Nat.le_of_ble_eq_true rfl⟩ rfl rfl rfl hl.1 (Nat.le_of_ble_eq_true rfl) ⟨Nat.zero_le _, Nat.zero_le _⟩ d_MD_layOut_67 rfl rfl (fun H locs hI => ?_)
          refine lv_iconst (v := bI true) hx hb d_MD_layOut_70 (by decide) ?_
          refine g_zast (ws' := (wm am cI cZ (vTo (vFd (vSz (mLays (mLay0 τ c0) c0 la g) (setn (mSz (mLays (mLay0 τ c0) c0 la g)) g la)) (setn (mFd (mLays (mLay0 τ c0) c0 la g)) g 0)) (setb (mTo (mLays (mLay0 τ c0) c0 la g)) (256 * g + gHd g) true)))) (B := (mTo (vFd (vSz (mLays (mLay0 τ c0) c0 la g) (setn (mSz (mLays (mLay0 τ c0) c0 la g)) g la)) (setn (mFd (mLays (mLay0 τ c0) c0 la g)) g 0)))) (i := 256 * g + gHd g) (b := true) hx hb hK hI (5) 1 (wm_To) rfl (by omega) (by omega) (wm_vTo (f := setb (mTo (mLays (mLay0 τ c0) c0 la g)) (256 * g + gHd g) true)) d_MD_layOut_71 (fun H locs hI => ?_)
          refine lv_aload_n hx hb d_MD_layOut_72 rfl (lv_at hl 0 rfl) ?_
          refine g_get (own := "GroupBitmapsModel") (C := R_MD) (T := F_MD) (N := 11) (ci := 3) (v := .ref (am 5)) hx hb hg ku_MD hown hK hI (0) (wm_0) rfl 8 (by decide) kw_478 rfl d_MD_layOut_73 ?_
          refine lv_iload_n hx hb d_MD_layOut_76 rfl (lv_at hl 3 rfl) ?_
          refine g_callS (own := "GroupBitmapsModel") (k := 1) (As := [.int (nI g)]) (rest := [.ref (am 5)]) (c_MD_bitmap (vTo (vFd (vSz (mLays (mLay0 τ c0) c0 la g) (setn (mSz (mLays (mLay0 τ c0) c0 la g)) g la)) (setn (mFd (mLays (mLay0 τ c0) c0 la g)) g 0)) (setb (mTo (mLays (mLay0 τ c0) c0 la g)) (256 * g + gHd g) true)) g (by omega)) hx hb hml hown hg hK hI hA kw_461 kw_462 kw_4 kw_463 ky_MD_bitmap ⟨Nat.le_of_ble_eq_true rfl, Nat.le_of_ble_eq_true rfl⟩ rfl rfl rfl hl.1 (Nat.le_of_ble_eq_true rfl) ⟨Nat.zero_le _, Nat.zero_le _⟩ d_MD_layOut_77 rfl rfl (fun H locs hI => ?_)
          refine lv_iconst (v := nI 1) hx hb d_MD_layOut_80 (by decide) ?_
          refine r_iadd (a := 256 * g + gHd g) (b := 1) hx hb d_MD_layOut_81 ?_
          refine lv_iconst (v := bI true) hx hb d_MD_layOut_82 (by decide) ?_
          refine g_zast (ws' := (wm am cI cZ (mLay1 (mLays (mLay0 τ c0) c0 la g) g la))) (B := (mTo (vTo (vFd (vSz (mLays (mLay0 τ c0) c0 la g) (setn (mSz (mLays (mLay0 τ c0) c0 la g)) g la)) (setn (mFd (mLays (mLay0 τ c0) c0 la g)) g 0)) (setb (mTo (mLays (mLay0 τ c0) c0 la g)) (256 * g + gHd g) true)))) (i := (256 * g + gHd g) + 1) (b := true) hx hb hK hI (5) 1 (wm_To) rfl (by omega) (by omega) (wm_vTo (f := setb (setb (mTo (mLays (mLay0 τ c0) c0 la g)) (256 * g + gHd g) true) (256 * g + gHd g + 1) true)) d_MD_layOut_83 (fun H locs hI => ?_)
          refine lv_iconst (v := nI 0) hx hb d_MD_layOut_84 (by decide) ?_
          refine lv_istore (lv' := [(4, .int (nI 0)), (0, .ref (am 0)), (1, .int (nI c0)), (2, .int (nI la)), (3, .int (nI g))]) hx hb d_MD_layOut_85 hl (by decide) rfl (fun ls hl => ?_)
          have loop2 : ∀ (fuel : Nat) (k : Nat), 257 ≤ fuel + k → (k ≤ 256) → ∀ (H : Heap) (locs : List Loc) (ls : Array Slot), gI D A s.heap (wm am cI cZ (vBk (mLay1 (mLays (mLay0 τ c0) c0 la g) g la) (rowB (mBk (mLays (mLay0 τ c0) c0 la g)) g k))) H locs → lv_has ls 5 [(0, .ref (am 0)), (1, .int (nI c0)), (2, .int (nI la)), (3, .int (nI g)), (4, .int (nI k))] → W p l e ({ frames := 2, cells := 0, slots := 0, locals := 40 }) s m ([.ref (am 0), .int (nI c0), .int (nI la)] : List Value).toArray below meth c H locs 0 0 (gQ D below ([.ref (am 0), .int (nI c0), .int (nI la)] : List Value).toArray s A (wm am cI cZ (mLays (mLay0 τ c0) c0 la c0)) (none)) (F0 m 87 ls []) := by
            intro fuel
            induction fuel with
            | zero => intro k hfu hk; exact absurd hfu (by omega)
            | succ fuel ih2 =>
              intro k hfu hk H locs ls hI hl
              refine lv_iload hx hb d_MD_layOut_87 (lv_at hl 4 rfl) ?_
              refine lv_sipush (v := nI 256) hx hb d_MD_layOut_89 (by decide) ?_
              refine r_ge (a := k) (b := 256) (tgt := 128) hx hb d_MD_layOut_92 (by decide) (by omega) (by omega) (fun h3 => ?_) (fun h3 => ?_)
              · obtain rfl : k = 256 := by omega
                refine lv_iconst (v := nI 0) hx hb d_MD_layOut_128 (by decide) ?_
                refine lv_istore (lv' := [(4, .int (nI 0)), (0, .ref (am 0)), (1, .int (nI c0)), (2, .int (nI la)), (3, .int (nI g))]) hx hb d_MD_layOut_129 hl (by decide) rfl (fun ls hl => ?_)
                have loop3 : ∀ (fuel : Nat) (k : Nat), 129 ≤ fuel + k → (k ≤ 128) → ∀ (H : Heap) (locs : List Loc) (ls : Array Slot), gI D A s.heap (wm am cI cZ (vFl (vBk (mLay1 (mLays (mLay0 τ c0) c0 la g) g la) (rowB (mBk (mLays (mLay0 τ c0) c0 la g)) g 256)) (rowF (mFl (mLays (mLay0 τ c0) c0 la g)) g k))) H locs → lv_has ls 5 [(0, .ref (am 0)), (1, .int (nI c0)), (2, .int (nI la)), (3, .int (nI g)), (4, .int (nI k))] → W p l e ({ frames := 2, cells := 0, slots := 0, locals := 40 }) s m ([.ref (am 0), .int (nI c0), .int (nI la)] : List Value).toArray below meth c H locs 0 0 (gQ D below ([.ref (am 0), .int (nI c0), .int (nI la)] : List Value).toArray s A (wm am cI cZ (mLays (mLay0 τ c0) c0 la c0)) (none)) (F0 m 131 ls []) := by
                  intro fuel
                  induction fuel with
                  | zero => intro k hfu hk; exact absurd hfu (by omega)
                  | succ fuel ih3 =>
                    intro k hfu hk H locs ls hI hl
                    refine lv_iload hx hb d_MD_layOut_131 (lv_at hl 4 rfl) ?_
                    refine lv_sipush (v := nI 128) hx hb d_MD_layOut_133 (by decide) ?_
                    refine r_ge (a := k) (b := 128) (tgt := 174) hx hb d_MD_layOut_136 (by decide) (by omega) (by omega) (fun h6 => ?_) (fun h6 => ?_)
                    · obtain rfl : k = 128 := by omega
                      refine lv_iinc (v := nI (g + 1)) (lv' := [(3, .int (nI (g + 1))), (0, .ref (am 0)), (1, .int (nI c0)), (2, .int (nI la)), (4, .int (nI ((128))))]) hx hb d_MD_layOut_174 hl (k := 3) rfl (nI_1 _) (by decide) rfl (fun ls hl => ?_)
                      refine lv_goto (tgt := 24) hx hb d_MD_layOut_177 (by decide) ?_
                      exact ih (g + 1) (by omega) (by omega) _ _ _ (by rw [es]; exact hI) (lv_sub hl [1, 2, 3, 0] rfl)
                    · refine lv_aload_n hx hb d_MD_layOut_139 rfl (lv_at hl 0 rfl) ?_
                      refine g_get (own := "GroupBitmapsModel") (C := R_MD) (T := F_MD) (N := 11) (ci := 3) (v := .ref (am 3)) hx hb hg ku_MD hown hK hI (0) (wm_0) rfl 4 (by decide) kw_474 rfl d_MD_layOut_140 ?_
                      refine lv_sipush (v := nI 128) hx hb d_MD_layOut_143 (by decide) ?_
                      refine lv_iload_n hx hb d_MD_layOut_146 rfl (lv_at hl 3 rfl) ?_
                      refine r_imul (a := 128) (b := g) hx hb d_MD_layOut_147 ?_
                      refine lv_iload hx hb d_MD_layOut_148 (lv_at hl 4 rfl) ?_
                      refine r_iadd (a := 128 * g) (b := k) hx hb d_MD_layOut_150 ?_
                      refine lv_iload_n hx hb d_MD_layOut_151 rfl (lv_at hl 3 rfl) ?_
                      refine r_zne (a := g) (tgt := 166) hx hb d_MD_layOut_152 (by decide) (by omega) (fun h7 => ?_) (fun h7 => ?_)
                      · refine lv_iconst (v := bI false) hx hb d_MD_layOut_166 (by decide) ?_
                        refine g_zast (ws' := (wm am cI cZ (vFl (vBk (mLay1 (mLays (mLay0 τ c0) c0 la g) g la) (rowB (mBk (mLays (mLay0 τ c0) c0 la g)) g 256)) (rowF (mFl (mLays (mLay0 τ c0) c0 la g)) g (k + 1))))) (B := (mFl (vFl (vBk (mLay1 (mLays (mLay0 τ c0) c0 la g) g la) (rowB (mBk (mLays (mLay0 τ c0) c0 la g)) g 256)) (rowF (mFl (mLays (mLay0 τ c0) c0 la g)) g k)))) (i := (128 * g) + k) (b := false) hx hb hK hI (3) 1 (wm_Fl) rfl (by omega) (by omega) ((wm_vFl (f := setb (rowF (mFl (mLays (mLay0 τ c0) c0 la g)) g k) (128 * g + k) false)).trans (by rw [rowF_s (by simp; omega), vFl_vFl])) d_MD_layOut_167 (fun H locs hI => ?_)
                        refine lv_iinc (v := nI (k + 1)) (lv' := [(4, .int (nI (k + 1))), (0, .ref (am 0)), (1, .int (nI c0)), (2, .int (nI la)), (3, .int (nI g))]) hx hb d_MD_layOut_168 hl (k := 4) rfl (nI_1 _) (by decide) rfl (fun ls hl => ?_)
                        refine lv_goto (tgt := 131) hx hb d_MD_layOut_171 (by decide) ?_
                        exact ih3 (k + 1) (by omega) (by omega) _ _ _ hI (lv_sub hl [1, 2, 3, 4, 0] rfl)
                      · refine lv_iload hx hb d_MD_layOut_155 (lv_at hl 4 rfl) ?_
                        refine lv_bipush (v := nI 10) hx hb d_MD_layOut_157 (by decide) ?_
                        refine r_ge (a := k) (b := 10) (tgt := 166) hx hb d_MD_layOut_159 (by decide) (by omega) (by omega) (fun h8 => ?_) (fun h8 => ?_)
                        · refine lv_iconst (v := bI false) hx hb d_MD_layOut_166 (by decide) ?_
                          refine g_zast (ws' := (wm am cI cZ (vFl (vBk (mLay1 (mLays (mLay0 τ c0) c0 la g) g la) (rowB (mBk (mLays (mLay0 τ c0) c0 la g)) g 256)) (rowF (mFl (mLays (mLay0 τ c0) c0 la g)) g (k + 1))))) (B := (mFl (vFl (vBk (mLay1 (mLays (mLay0 τ c0) c0 la g) g la) (rowB (mBk (mLays (mLay0 τ c0) c0 la g)) g 256)) (rowF (mFl (mLays (mLay0 τ c0) c0 la g)) g k)))) (i := (128 * g) + k) (b := false) hx hb hK hI (3) 1 (wm_Fl) rfl (by omega) (by omega) ((wm_vFl (f := setb (rowF (mFl (mLays (mLay0 τ c0) c0 la g)) g k) (128 * g + k) false)).trans (by rw [rowF_s (by simp; omega), vFl_vFl])) d_MD_layOut_167 (fun H locs hI => ?_)
                          refine lv_iinc (v := nI (k + 1)) (lv' := [(4, .int (nI (k + 1))), (0, .ref (am 0)), (1, .int (nI c0)), (2, .int (nI la)), (3, .int (nI g))]) hx hb d_MD_layOut_168 hl (k := 4) rfl (nI_1 _) (by decide) rfl (fun ls hl => ?_)
                          refine lv_goto (tgt := 131) hx hb d_MD_layOut_171 (by decide) ?_
                          exact ih3 (k + 1) (by omega) (by omega) _ _ _ hI (lv_sub hl [1, 2, 3, 4, 0] rfl)
                        · refine lv_iconst (v := bI true) hx hb d_MD_layOut_162 (by decide) ?_
                          refine lv_goto (tgt := 167) hx hb d_MD_layOut_163 (by decide) ?_
                          refine g_zast (ws' := (wm am cI cZ (vFl (vBk (mLay1 (mLays (mLay0 τ c0) c0 la g) g la) (rowB (mBk (mLays (mLay0 τ c0) c0 la g)) g 256)) (rowF (mFl (mLays (mLay0 τ c0) c0 la g)) g (k + 1))))) (B := (mFl (vFl (vBk (mLay1 (mLays (mLay0 τ c0) c0 la g) g la) (rowB (mBk (mLays (mLay0 τ c0) c0 la g)) g 256)) (rowF (mFl (mLays (mLay0 τ c0) c0 la g)) g k)))) (i := (128 * g) + k) (b := true) hx hb hK hI (3) 1 (wm_Fl) rfl (by omega) (by omega) ((wm_vFl (f := setb (rowF (mFl (mLays (mLay0 τ c0) c0 la g)) g k) (128 * g + k) true)).trans (by rw [rowF_s (by simp; omega), vFl_vFl])) d_MD_layOut_167 (fun H locs hI => ?_)
                          refine lv_iinc (v := nI (k + 1)) (lv' := [(4, .int (nI (k + 1))), (0, .ref (am 0)), (1, .int (nI c0)), (2, .int (nI la)), (3, .int (nI g))]) hx hb d_MD_layOut_168 hl (k := 4) rfl (nI_1 _) (by decide) rfl (fun ls hl => ?_)
                          refine lv_goto (tgt := 131) hx hb d_MD_layOut_171 (by decide) ?_
                          exact ih3 (k + 1) (by omega) (by omega) _ _ _ hI (lv_sub hl [1, 2, 3, 4, 0] rfl)
                exact loop3 129 0 (by omega) (Nat.zero_le _) _ _ _ (by rw [rowF_0]; exact hI) (lv_sub hl [1, 2, 3, 4, 0] rfl)
              · refine lv_aload_n hx hb d_MD_layOut_95 rfl (lv_at hl 0 rfl) ?_
                refine g_get (own := "GroupBitmapsModel") (C := R_MD) (T := F_MD) (N := 11) (ci := 3) (v := .ref (am 2)) hx hb hg ku_MD hown hK hI (0) (wm_0) rfl 3 (by decide) kw_473 rfl d_MD_layOut_96 ?_
                refine lv_sipush (v := nI 256) hx hb d_MD_layOut_99 (by decide) ?_
                refine lv_iload_n hx hb d_MD_layOut_102 rfl (lv_at hl 3 rfl) ?_
                refine r_imul (a := 256) (b := g) hx hb d_MD_layOut_103 ?_
                refine lv_iload hx hb d_MD_layOut_104 (lv_at hl 4 rfl) ?_
                refine r_iadd (a := 256 * g) (b := k) hx hb d_MD_layOut_106 ?_
                refine lv_iload hx hb d_MD_layOut_107 (lv_at hl 4 rfl) ?_
                refine lv_iload_n hx hb d_MD_layOut_109 rfl (lv_at hl 3 rfl) ?_
                refine g_callS (own := "GroupBitmapsModel") (k := 1) (As := [.int (nI g)]) (rest := [.int (nI k), .int (nI ((256 * g) + k)), .ref (am 2)]) (c_MD_fixed (vBk (mLay1 (mLays (mLay0 τ c0) c0 la g) g la) (rowB (mBk (mLays (mLay0 τ c0) c0 la g)) g k)) g (by omega)) hx hb hml hown hg hK hI hA kw_467 kw_468 kw_4 kw_469 ky_MD_fixed ⟨Nat.le_of_ble_eq_true rfl, Nat.le_of_ble_eq_true rfl⟩ rfl rfl rfl hl.1 (Nat.le_of_ble_eq_true rfl) ⟨Nat.zero_le _, Nat.zero_le _⟩ d_MD_layOut_110 rfl rfl (fun H locs hI => ?_)
                refine r_ge (a := k) (b := gHd g + 10) (tgt := 120) hx hb d_MD_layOut_113 (by decide) (by omega) (by omega) (fun h5 => ?_) (fun h5 => ?_)
                · refine lv_iconst (v := bI false) hx hb d_MD_layOut_120 (by decide) ?_
                  refine g_zast (ws' := (wm am cI cZ (vBk (mLay1 (mLays (mLay0 τ c0) c0 la g) g la) (rowB (mBk (mLays (mLay0 τ c0) c0 la g)) g (k + 1))))) (B := (mBk (vBk (mLay1 (mLays (mLay0 τ c0) c0 la g) g la) (rowB (mBk (mLays (mLay0 τ c0) c0 la g)) g k)))) (i := (256 * g) + k) (b := false) hx hb hK hI (2) 1 (wm_Bk) rfl (by omega) (by omega) ((wm_vBk (f := setb (rowB (mBk (mLays (mLay0 τ c0) c0 la g)) g k) (256 * g + k) false)).trans (by rw [rowB_s (by simp; omega), vBk_vBk])) d_MD_layOut_121 (fun H locs hI => ?_)
                  refine lv_iinc (v := nI (k + 1)) (lv' := [(4, .int (nI (k + 1))), (0, .ref (am 0)), (1, .int (nI c0)), (2, .int (nI la)), (3, .int (nI g))]) hx hb d_MD_layOut_122 hl (k := 4) rfl (nI_1 _) (by decide) rfl (fun ls hl => ?_)
                  refine lv_goto (tgt := 87) hx hb d_MD_layOut_125 (by decide) ?_
                  exact ih2 (k + 1) (by omega) (by omega) _ _ _ hI (lv_sub hl [1, 2, 3, 4, 0] rfl)
                · refine lv_iconst (v := bI true) hx hb d_MD_layOut_116 (by decide) ?_
                  refine lv_goto (tgt := 121) hx hb d_MD_layOut_117 (by decide) ?_
                  refine g_zast (ws' := (wm am cI cZ (vBk (mLay1 (mLays (mLay0 τ c0) c0 la g) g la) (rowB (mBk (mLays (mLay0 τ c0) c0 la g)) g (k + 1))))) (B := (mBk (vBk (mLay1 (mLays (mLay0 τ c0) c0 la g) g la) (rowB (mBk (mLays (mLay0 τ c0) c0 la g)) g k)))) (i := (256 * g) + k) (b := true) hx hb hK hI (2) 1 (wm_Bk) rfl (by omega) (by omega) ((wm_vBk (f := setb (rowB (mBk (mLays (mLay0 τ c0) c0 la g)) g k) (256 * g + k) true)).trans (by rw [rowB_s (by simp; omega), vBk_vBk])) d_MD_layOut_121 (fun H locs hI => ?_)
                  refine lv_iinc (v := nI (k + 1)) (lv' := [(4, .int (nI (k + 1))), (0, .ref (am 0)), (1, .int (nI c0)), (2, .int (nI la)), (3, .int (nI g))]) hx hb d_MD_layOut_122 hl (k := 4) rfl (nI_1 _) (by decide) rfl (fun ls hl => ?_)
                  refine lv_goto (tgt := 87) hx hb d_MD_layOut_125 (by decide) ?_
                  exact ih2 (k + 1) (by omega) (by omega) _ _ _ hI (lv_sub hl [1, 2, 3, 4, 0] rfl)
          exact loop2 257 0 (by omega) (Nat.zero_le _) _ _ _ (by rw [rowB_0]; exact hI) (lv_sub hl [1, 2, 3, 4, 0] rfl)
  exact loop (c0 + 1) 0 (by omega) (Nat.zero_le _) _ _ _ hI (lv_sub hl [1, 2, 3, 0] rfl)
end
section
theorem mFr0_0 (τ : mS) (g : Nat) : mFr0 τ g 0 = vRz τ 0 := rfl
theorem mFr0_skip {τ : mS} {g k t : Nat} (h0 : (lrF (mB τ g) k).2 = 0) (hf : ∀ i, i < t → mB τ g (k + i) = false) (h : t ≤ (lrF (mB τ g) k).1) : mFr0 τ g (k + t) = mFr0 τ g k := by
  obtain ⟨e1, e2⟩ := lr_run h0 t hf
  unfold mFr0
  rw [e1, e2, if_neg (Nat.not_lt.mpr h)]
  dsimp only
  rw [show Nat.max (lrF (mB τ g) k).1 t = (lrF (mB τ g) k).1 from Nat.max_eq_left h]
theorem mFr0_take {τ : mS} {g k t : Nat} (h0 : (lrF (mB τ g) k).2 = 0) (hf : ∀ i, i < t → mB τ g (k + i) = false) (h : (lrF (mB τ g) k).1 < t) : mFr0 τ g (k + t) = vRz (vRa (mFr0 τ g k) (256 * g + k)) t := by
  obtain ⟨e1, e2⟩ := lr_run h0 t hf
  have e3 : Nat.max (lrF (mB τ g) k).1 t = t := Nat.max_eq_right (Nat.le_of_lt h)
  show vRz (vRa τ (if (lrF (mB τ g) (k + t)).1 = 0 then mRa τ else 256 * g + lpF (mB τ g) (k + t))) (lrF (mB τ g) (k + t)).1 = _
  rw [e1, e2, if_pos h]
  dsimp only
  rw [e3, if_neg (by omega)]
  rfl
theorem mFr0_tk {τ : mS} {g k : Nat} (h : mB τ g k = true) : mFr0 τ g (k + 1) = mFr0 τ g k ∧ (lrF (mB τ g) (k + 1)).2 = 0 := by
  obtain ⟨e1, e2⟩ := lr_tk h
  unfold mFr0
  rw [e1, e2]
  exact ⟨rfl, rfl⟩
theorem srF_inv (B : Nat → Bool) (q s0 k : Nat) : ((srF B q s0 k).1 = none → (srF B q s0 k).2.1 = s0) ∧ (∀ a, (srF B q s0 k).1 = some a → q ≤ (srF B q s0 k).2.1 ∧ (srF B q s0 k).2.1 ≤ k ∧ a + (srF B q s0 k).2.1 ≤ k) ∧ (srF B q s0 k).2.2 ≤ k := by
  induction k with
  | zero => exact ⟨fun _ => rfl, fun a h => (by cases h), Nat.le_refl _⟩
  | succ k ih =>
    obtain ⟨i1, i2, i3⟩ := ih
    have hl := sLen_le (B k) (srF B q s0 k).2.2
    show ((sSrN q k (srF B q s0 k) (sLen (B k) (srF B q s0 k).2.2) (B (k + 1))).1 = none → (sSrN q k (srF B q s0 k) (sLen (B k) (srF B q s0 k).2.2) (B (k + 1))).2.1 = s0) ∧ (∀ a, (sSrN q k (srF B q s0 k) (sLen (B k) (srF B q s0 k).2.2) (B (k + 1))).1 = some a → q ≤ (sSrN q k (srF B q s0 k) (sLen (B k) (srF B q s0 k).2.2) (B (k + 1))).2.1 ∧ (sSrN q k (srF B q s0 k) (sLen (B k) (srF B q s0 k).2.2) (B (k + 1))).2.1 ≤ k + 1 ∧ a + (sSrN q k (srF B q s0 k) (sLen (B k) (srF B q s0 k).2.2) (B (k + 1))).2.1 ≤ k + 1) ∧ (sSrN q k (srF B q s0 k) (sLen (B k) (srF B q s0 k).2.2) (B (k + 1))).2.2 ≤ k + 1
    generalize sLen (B k) (srF B q s0 k).2.2 = len at hl ⊢
    unfold sSrN
    split
    · rename_i hc
      refine ⟨fun h => (by cases h), fun a h => ?_, ?_⟩
      · have h : k + 1 - len = a := Option.some.inj h
        exact ⟨hc.1, by show len ≤ _; omega, by show a + len ≤ _; omega⟩
      · show len ≤ _
        omega
    · refine ⟨i1, fun a h => ?_, ?_⟩
      · obtain ⟨j1, j2, j3⟩ := i2 a h
        exact ⟨j1, by show (srF B q s0 k).2.1 ≤ _; omega, by show a + (srF B q s0 k).2.1 ≤ _; omega⟩
      · show len ≤ _
        omega
def mRzq (τ : mS) (g q k : Nat) : Nat := match (srF (mB τ g) q (mSz τ g + 1) k).1 with | none => 0 | some _ => (srF (mB τ g) q (mSz τ g + 1) k).2.1
theorem mFrq_0 (τ : mS) (g q : Nat) : mFrq τ g q 0 = vRz τ 0 := rfl
theorem mFrq_skip {τ : mS} {g q k t : Nat} (h0 : (srF (mB τ g) q (mSz τ g + 1) k).2.2 = 0) (hf : ∀ i, i < t → mB τ g (k + i) = false) (he : mB τ g (k + t) = true) (hq : 1 ≤ q) (ht : t ≤ mSz τ g) (h : t < q ∨ (0 < mRzq τ g q k ∧ mRzq τ g q k ≤ t)) : mFrq τ g q (k + t) = mFrq τ g q k := by
  cases t with
  | zero => rfl
  | succ t =>
    have e1 := sr_run1 h0 hf he
    have hsk : ¬ (q ≤ t + 1 ∧ t + 1 < (srF (mB τ g) q (mSz τ g + 1) k).2.1 ∧ true = true) := by
      intro hc
      rcases h with h | h
      · omega
      · unfold mRzq at h
        cases hs : (srF (mB τ g) q (mSz τ g + 1) k).1 with
        | none => rw [hs] at h; exact absurd h.1 (Nat.lt_irrefl 0)
        | some a => rw [hs] at h; have := h.2; dsimp only at this; omega
    unfold mFrq
    rw [e1]
    unfold sSrN
    rw [if_neg hsk]
theorem mFrq_take {τ : mS} {g q k t : Nat} (h0 : (srF (mB τ g) q (mSz τ g + 1) k).2.2 = 0) (hf : ∀ i, i < t → mB τ g (k + i) = false) (he : mB τ g (k + t) = true) (hq : 1 ≤ q) (ht : t ≤ mSz τ g) (h1 : q ≤ t) (h : mRzq τ g q k = 0 ∨ t < mRzq τ g q k) : mFrq τ g q (k + t) = vRz (vRa (mFrq τ g q k) (256 * g + k)) t := by
  cases t with
  | zero => omega
  | succ t =>
    have e1 := sr_run1 h0 hf he
    obtain ⟨i1, i2, -⟩ := srF_inv (mB τ g) q (mSz τ g + 1) k
    have htk : q ≤ t + 1 ∧ t + 1 < (srF (mB τ g) q (mSz τ g + 1) k).2.1 ∧ true = true := by
      refine ⟨h1, ?_, rfl⟩
      unfold mRzq at h
      cases hs : (srF (mB τ g) q (mSz τ g + 1) k).1 with
      | none => rw [i1 hs]; omega
      | some a =>
        rw [hs] at h
        dsimp only at h
        have := (i2 a hs).1
        omega
    have e2 : srF (mB τ g) q (mSz τ g + 1) (k + (t + 1)) = (some (k + t + 1 - (t + 1)), t + 1, t + 1) := by
      rw [e1]
      exact if_pos htk
    show vRz (vRa τ (match (srF (mB τ g) q (mSz τ g + 1) (k + (t + 1))).1 with | none => mRa τ | some a => 256 * g + a)) (match (srF (mB τ g) q (mSz τ g + 1) (k + (t + 1))).1 with | none => 0 | some _ => (srF (mB τ g) q (mSz τ g + 1) (k + (t + 1))).2.1) = _
    rw [e2]
    dsimp only
    rw [show k + t + 1 - (t + 1) = k by omega]
    rfl
theorem mFrq_tk {τ : mS} {g q k : Nat} (hq : 1 ≤ q) (h : mB τ g k = true) : mFrq τ g q (k + 1) = mFrq τ g q k ∧ (srF (mB τ g) q (mSz τ g + 1) (k + 1)).2.2 = 0 := by
  have e1 := sr_tk (s0 := mSz τ g + 1) hq h
  unfold mFrq
  rw [e1]
  exact ⟨rfl, rfl⟩
end
section
set_option maxHeartbeats 4000000 in
set_option maxRecDepth 100000 in
theorem c_MD_findRun0 {l : Launch} {D : va_G} {cG cZ cI cJ : ClassId} {am : Nat → Nat} (τ : mS) (hτ : mOk τ) (g : Nat) (hg4 : g < 4) : gMet l D (gT cG cZ cI cJ) y_MD_findRun b_MD_findRun 7 none ({ frames := 0, cells := 0, slots := 0, locals := 0 }) (wm am cI cZ τ) [.ref (am 0), .int (nI g), .int (nI 0)] (wm am cI cZ (mFr0 τ g (mSz τ g))) (none) := by
  refine gMet_of (by decide) (Nat.le_of_ble_eq_true rfl) ?_
  intro p e s m below meth c A ls hC hA hI hl
  obtain ⟨hx, hb, hr, hlk, hown, hml, hg, hK⟩ := hC
  have hown : s.vm.findClass "GroupBitmapsModel" = some m.cls := hown
  have hl : lv_has ls 7 [(0, .ref (am 0)), (1, .int (nI g)), (2, .int (nI 0))] := hl
  have hc1 := hτ.1
  have hc2 := hτ.2.1
  have hz := hτ.2.2.2.1 g hg4
  refine lv_aload_n hx hb d_MD_findRun_0 rfl (lv_at hl 0 rfl) ?_
  refine lv_iconst (v := nI 0) hx hb d_MD_findRun_1 (by decide) ?_
  refine g_put (ws' := (wm am cI cZ (vRz τ 0))) (own := "GroupBitmapsModel") (C := R_MD) (T := F_MD) (N := 11) (ci := 3) (v := .int (nI 0)) hx hb hg ku_MD t_MD t_MD_ok n_MD hown hK hI (0) (wm_0) rfl 10 (by decide) kw_480 rfl rfl (rfl) (rfl) (Nat.le_of_ble_eq_true rfl) (wm_vRz) d_MD_findRun_2 (fun H locs hI => ?_)
  refine lv_iconst (v := nI 0) hx hb d_MD_findRun_5 (by decide) ?_
  refine lv_istore_n (lv' := [(3, .int (nI 0)), (0, .ref (am 0)), (1, .int (nI g)), (2, .int (nI 0))]) hx hb d_MD_findRun_6 rfl hl (by decide) rfl (fun ls hl => ?_)
  have loop : ∀ (fuel : Nat) (k kk : Nat), mSz τ g + 2 ≤ fuel + k → (kk ≤ mSz τ g) → ((k = kk ∧ (lrF (mB τ g) kk).2 = 0) ∨ (k = mSz τ g + 1 ∧ kk = mSz τ g)) → ∀ (H : Heap) (locs : List Loc) (ls : Array Slot), gI D A s.heap (wm am cI cZ (mFr0 τ g kk)) H locs → lv_has ls 7 [(0, .ref (am 0)), (1, .int (nI g)), (2, .int (nI 0)), (3, .int (nI k))] → W p l e ({ frames := 0, cells := 0, slots := 0, locals := 0 }) s m ([.ref (am 0), .int (nI g), .int (nI 0)] : List Value).toArray below meth c H locs 0 0 (gQ D below ([.ref (am 0), .int (nI g), .int (nI 0)] : List Value).toArray s A (wm am cI cZ (mFr0 τ g (mSz τ g))) (none)) (F0 m 7 ls []) := by
    intro fuel
    induction fuel with
    | zero => intro k kk hfu hkk hk; exact absurd hfu (by omega)
    | succ fuel ih =>
      intro k kk hfu hkk hk H locs ls hI hl
      have hszz : mSz (mFr0 τ g kk) g = mSz τ g := rfl
      refine lv_iload_n hx hb d_MD_findRun_7 rfl (lv_at hl 3 rfl) ?_
      refine lv_aload_n hx hb d_MD_findRun_8 rfl (lv_at hl 0 rfl) ?_
      refine g_get (own := "GroupBitmapsModel") (C := R_MD) (T := F_MD) (N := 11) (ci := 3) (v := .ref (am 1)) hx hb hg ku_MD hown hK hI (0) (wm_0) rfl 2 (by decide) kw_472 rfl d_MD_findRun_9 ?_
      refine lv_iload_n hx hb d_MD_findRun_12 rfl (lv_at hl 1 rfl) ?_
      refine g_iald (F := (mSz (mFr0 τ g kk))) (i := g) hx hb hK hI (1) 2 (wm_Sz) rfl (hg4) (by omega) d_MD_findRun_13 ?_
      refine r_ge (a := k) (b := (mSz (mFr0 τ g kk)) g) (tgt := 144) hx hb d_MD_findRun_14 (by decide) (by omega) (by omega) (fun h => ?_) (fun h => ?_)
      · obtain rfl : kk = mSz τ g := by omega
        exact g_rv hx hb hr hlk hI (rfl) d_MD_findRun_144
      · obtain ⟨rfl, h0⟩ : k = kk ∧ (lrF (mB τ g) kk).2 = 0 := by rcases hk with hk | hk; exact hk; exact absurd h (by omega)
        refine lv_iload_n hx hb d_MD_findRun_17 rfl (lv_at hl 3 rfl) ?_
        refine lv_istore (lv' := [(4, .int (nI k)), (0, .ref (am 0)), (1, .int (nI g)), (2, .int (nI 0)), (3, .int (nI k))]) hx hb d_MD_findRun_18 hl (by decide) rfl (fun ls hl => ?_)
        have tail : ∀ (t : Nat), (k + t ≤ mSz τ g) → (∀ i, i < t → mB τ g (k + i) = false) → (mB τ g (k + t) = true) → ∀ (H : Heap) (locs : List Loc) (ls : Array Slot), gI D A s.heap (wm am cI cZ (mFr0 τ g k)) H locs → lv_has ls 7 [(0, .ref (am 0)), (1, .int (nI g)), (2, .int (nI 0)), (3, .int (nI k)), (4, .int (nI (k + t)))] → W p l e ({ frames := 0, cells := 0, slots := 0, locals := 0 }) s m ([.ref (am 0), .int (nI g), .int (nI 0)] : List Value).toArray below meth c H locs 0 0 (gQ D below ([.ref (am 0), .int (nI g), .int (nI 0)] : List Value).toArray s A (wm am cI cZ (mFr0 τ g (mSz τ g))) (none)) (F0 m 53 ls []) := by
          intro t ht hf he H locs ls hI hl
          have hRle : (lrF (mB τ g) k).1 ≤ 65535 := by have := (lrF_le (mB τ g) k).1; omega
          refine lv_iload hx hb d_MD_findRun_53 (lv_at hl 4 rfl) ?_
          refine lv_iload_n hx hb d_MD_findRun_55 rfl (lv_at hl 3 rfl) ?_
          refine r_isub (a := k + t) (b := k) hx hb (by omega) d_MD_findRun_56 ?_
          rw [show k + t - k = t by omega]
          refine lv_istore (lv' := [(5, .int (nI t)), (0, .ref (am 0)), (1, .int (nI g)), (2, .int (nI 0)), (3, .int (nI k)), (4, .int (nI (k + t)))]) hx hb d_MD_findRun_57 hl (by decide) rfl (fun ls hl => ?_)
          refine lv_iload_n hx hb d_MD_findRun_59 rfl (lv_at hl 3 rfl) ?_
          refine r_zne (a := 0) (tgt := 80) hx hb d_MD_findRun_60 (by decide) (by omega) (fun h4 => ?_) (fun h4 => ?_)
          · exact absurd h4 (by omega)
          · refine lv_iload hx hb d_MD_findRun_63 (lv_at hl 0 rfl) ?_
            refine lv_aload_n hx hb d_MD_findRun_65 rfl (lv_at hl 1 rfl) ?_
            refine g_get (own := "GroupBitmapsModel") (C := R_MD) (T := F_MD) (N := 11) (ci := 3) (v := .int (nI (mRz (mFr0 τ g k)))) hx hb hg ku_MD hown hK hI (0) (wm_0) rfl 10 (by decide) kw_480 rfl d_MD_findRun_66 ?_
            refine r_le (a := t) (b := (lrF (mB τ g) k).1) (tgt := 76) hx hb d_MD_findRun_69 (by decide) (by omega) (by omega) (fun h5 => ?_) (fun h5 => ?_)
            · refine lv_iconst (v := bI false) hx hb d_MD_findRun_76 (by decide) ?_
              refine lv_goto (tgt := 107) hx hb d_MD_findRun_77 (by decide) ?_
              refine lv_istore (lv' := [(6, .int (bI false)), (5, .int (nI t)), (0, .ref (am 0)), (1, .int (nI g)), (2, .int (nI 0)), (3, .int (nI k)), (4, .int (nI (k + t)))]) hx hb d_MD_findRun_107 hl (by decide) rfl (fun ls hl => ?_)
              refine lv_iload hx hb d_MD_findRun_109 (lv_at hl 1 rfl) ?_
              refine r_zle (a := t) (tgt := 136) hx hb d_MD_findRun_111 (by decide) (by omega) (fun h8 => ?_) (fun h8 => ?_)
              · have ew := mFr0_skip h0 hf h5
                refine lv_iload hx hb d_MD_findRun_136 (lv_at hl 6 rfl) ?_
                refine lv_iconst (v := nI 1) hx hb d_MD_findRun_138 (by decide) ?_
                refine r_iadd (a := k + t) (b := 1) hx hb d_MD_findRun_139 ?_
                refine lv_istore_n (lv' := [(3, .int (nI ((k + t) + 1))), (6, .int (bI false)), (5, .int (nI t)), (0, .ref (am 0)), (1, .int (nI g)), (2, .int (nI 0)), (4, .int (nI (k + t)))]) hx hb d_MD_findRun_140 rfl hl (by decide) rfl (fun ls hl => ?_)
                refine lv_goto (tgt := 7) hx hb d_MD_findRun_141 (by decide) ?_
                rcases Nat.lt_or_ge (k + t) (mSz τ g) with hlt | hge
                · obtain ⟨e3, e4⟩ := mFr0_tk he
                  exact ih (k + t + 1) (k + t + 1) (by omega) (by omega) (Or.inl ⟨rfl, e4⟩) _ _ _ (by rw [e3, ew]; exact hI) (lv_sub hl [3, 4, 5, 0] rfl)
                · exact ih (k + t + 1) (k + t) (by omega) (by omega) (Or.inr ⟨by omega, by omega⟩) _ _ _ (by rw [ew]; exact hI) (lv_sub hl [3, 4, 5, 0] rfl)
              · refine lv_iload hx hb d_MD_findRun_114 (lv_at hl 0 rfl) ?_
                refine r_bz (b := false) (tgt := 136) hx hb d_MD_findRun_116 (by decide) (fun h9 => ?_) (fun h9 => ?_)
                · have ew := mFr0_skip h0 hf h5
                  refine lv_iload hx hb d_MD_findRun_136 (lv_at hl 6 rfl) ?_
                  refine lv_iconst (v := nI 1) hx hb d_MD_findRun_138 (by decide) ?_
                  refine r_iadd (a := k + t) (b := 1) hx hb d_MD_findRun_139 ?_
                  refine lv_istore_n (lv' := [(3, .int (nI ((k + t) + 1))), (6, .int (bI false)), (5, .int (nI t)), (0, .ref (am 0)), (1, .int (nI g)), (2, .int (nI 0)), (4, .int (nI (k + t)))]) hx hb d_MD_findRun_140 rfl hl (by decide) rfl (fun ls hl => ?_)
                  refine lv_goto (tgt := 7) hx hb d_MD_findRun_141 (by decide) ?_
                  rcases Nat.lt_or_ge (k + t) (mSz τ g) with hlt | hge
                  · obtain ⟨e3, e4⟩ := mFr0_tk he
                    exact ih (k + t + 1) (k + t + 1) (by omega) (by omega) (Or.inl ⟨rfl, e4⟩) _ _ _ (by rw [e3, ew]; exact hI) (lv_sub hl [3, 4, 5, 0] rfl)
                  · exact ih (k + t + 1) (k + t) (by omega) (by omega) (Or.inr ⟨by omega, by omega⟩) _ _ _ (by rw [ew]; exact hI) (lv_sub hl [3, 4, 5, 0] rfl)
                · exact absurd h9 (by decide)
            · refine lv_iconst (v := bI true) hx hb d_MD_findRun_72 (by decide) ?_
              refine lv_goto (tgt := 107) hx hb d_MD_findRun_73 (by decide) ?_
              refine lv_istore (lv' := [(6, .int (bI true)), (5, .int (nI t)), (0, .ref (am 0)), (1, .int (nI g)), (2, .int (nI 0)), (3, .int (nI k)), (4, .int (nI (k + t)))]) hx hb d_MD_findRun_107 hl (by decide) rfl (fun ls hl => ?_)
              refine lv_iload hx hb d_MD_findRun_109 (lv_at hl 1 rfl) ?_
              refine r_zle (a := t) (tgt := 136) hx hb d_MD_findRun_111 (by decide) (by omega) (fun h8 => ?_) (fun h8 => ?_)
              · exact absurd h8 (by omega)
              · refine lv_iload hx hb d_MD_findRun_114 (lv_at hl 0 rfl) ?_
                refine r_bz (b := true) (tgt := 136) hx hb d_MD_findRun_116 (by decide) (fun h9 => ?_) (fun h9 => ?_)
                · exact absurd h9 (by decide)
                · refine lv_aload_n hx hb d_MD_findRun_119 rfl (lv_at hl 2 rfl) ?_
                  refine lv_sipush (v := nI 256) hx hb d_MD_findRun_120 (by decide) ?_
                  refine lv_iload_n hx hb d_MD_findRun_123 rfl (lv_at hl 3 rfl) ?_
                  refine r_imul (a := 256) (b := g) hx hb d_MD_findRun_124 ?_
                  refine lv_iload_n hx hb d_MD_findRun_125 rfl (lv_at hl 5 rfl) ?_
                  refine r_iadd (a := 256 * g) (b := k) hx hb d_MD_findRun_126 ?_
                  refine g_put (ws' := (wm am cI cZ (vRa (mFr0 τ g k) (256 * g + k)))) (own := "GroupBitmapsModel") (C := R_MD) (T := F_MD) (N := 11) (ci := 3) (v := .int (nI ((256 * g) + k))) hx hb hg ku_MD t_MD t_MD_ok n_MD hown hK hI (0) (wm_0) rfl 9 (by decide) kw_479 rfl rfl (rfl) (rfl) (Nat.le_of_ble_eq_true rfl) (wm_vRa) d_MD_findRun_127 (fun H locs hI => ?_)
                  refine lv_aload_n hx hb d_MD_findRun_130 rfl (lv_at hl 2 rfl) ?_
                  refine lv_iload hx hb d_MD_findRun_131 (lv_at hl 1 rfl) ?_
                  refine g_put (ws' := (wm am cI cZ (vRz (vRa (mFr0 τ g k) (256 * g + k)) t))) (own := "GroupBitmapsModel") (C := R_MD) (T := F_MD) (N := 11) (ci := 3) (v := .int (nI t)) hx hb hg ku_MD t_MD t_MD_ok n_MD hown hK hI (0) (wm_0) rfl 10 (by decide) kw_480 rfl rfl (rfl) (rfl) (Nat.le_of_ble_eq_true rfl) (wm_vRz) d_MD_findRun_133 (fun H locs hI => ?_)
                  have ew := mFr0_take h0 hf h5
                  refine lv_iload hx hb d_MD_findRun_136 (lv_at hl 6 rfl) ?_
                  refine lv_iconst (v := nI 1) hx hb d_MD_findRun_138 (by decide) ?_
                  refine r_iadd (a := k + t) (b := 1) hx hb d_MD_findRun_139 ?_
                  refine lv_istore_n (lv' := [(3, .int (nI ((k + t) + 1))), (6, .int (bI true)), (5, .int (nI t)), (0, .ref (am 0)), (1, .int (nI g)), (2, .int (nI 0)), (4, .int (nI (k + t)))]) hx hb d_MD_findRun_140 rfl hl (by decide) rfl (fun ls hl => ?_)
                  refine lv_goto (tgt := 7) hx hb d_MD_findRun_141 (by decide) ?_
                  rcases Nat.lt_or_ge (k + t) (mSz τ g) with hlt | hge
                  · obtain ⟨e3, e4⟩ := mFr0_tk he
                    exact ih (k + t + 1) (k + t + 1) (by omega) (by omega) (Or.inl ⟨rfl, e4⟩) _ _ _ (by rw [e3, ew]; exact hI) (lv_sub hl [3, 4, 5, 0] rfl)
                  · exact ih (k + t + 1) (k + t) (by omega) (by omega) (Or.inr ⟨by omega, by omega⟩) _ _ _ (by rw [ew]; exact hI) (lv_sub hl [3, 4, 5, 0] rfl)
        have loop2 : ∀ (fuel : Nat) (t : Nat), mSz τ g + 1 ≤ fuel + (k + t) → (k + t ≤ mSz τ g) → (∀ i, i < t → mB τ g (k + i) = false) → ∀ (H : Heap) (locs : List Loc) (ls : Array Slot), gI D A s.heap (wm am cI cZ (mFr0 τ g k)) H locs → lv_has ls 7 [(0, .ref (am 0)), (1, .int (nI g)), (2, .int (nI 0)), (3, .int (nI k)), (4, .int (nI (k + t)))] → W p l e ({ frames := 0, cells := 0, slots := 0, locals := 0 }) s m ([.ref (am 0), .int (nI g), .int (nI 0)] : List Value).toArray below meth c H locs 0 0 (gQ D below ([.ref (am 0), .int (nI g), .int (nI 0)] : List Value).toArray s A (wm am cI cZ (mFr0 τ g (mSz τ g))) (none)) (F0 m 20 ls []) := by
          intro fuel
          induction fuel with
          | zero => intro t hfu ht hf; exact absurd hfu (by omega)
          | succ fuel ih2 =>
            intro t hfu ht hf H locs ls hI hl
            have hszz : mSz (mFr0 τ g k) g = mSz τ g := rfl
            refine lv_iload hx hb d_MD_findRun_20 (lv_at hl 4 rfl) ?_
            refine lv_aload_n hx hb d_MD_findRun_22 rfl (lv_at hl 0 rfl) ?_
            refine g_get (own := "GroupBitmapsModel") (C := R_MD) (T := F_MD) (N := 11) (ci := 3) (v := .ref (am 1)) hx hb hg ku_MD hown hK hI (0) (wm_0) rfl 2 (by decide) kw_472 rfl d_MD_findRun_23 ?_
            refine lv_iload_n hx hb d_MD_findRun_26 rfl (lv_at hl 1 rfl) ?_
            refine g_iald (F := (mSz (mFr0 τ g k))) (i := g) hx hb hK hI (1) 2 (wm_Sz) rfl (hg4) (by omega) d_MD_findRun_27 ?_
            refine r_ge (a := k + t) (b := (mSz (mFr0 τ g k)) g) (tgt := 53) hx hb d_MD_findRun_28 (by decide) (by omega) (by omega) (fun h3 => ?_) (fun h3 => ?_)
            · exact tail t ht hf (mB_ge (by omega)) _ _ _ hI (lv_sub hl [0, 1, 2, 3, 4] rfl)
            · have hlt : k + t < mSz τ g := by omega
              refine lv_aload_n hx hb d_MD_findRun_31 rfl (lv_at hl 0 rfl) ?_
              refine g_get (own := "GroupBitmapsModel") (C := R_MD) (T := F_MD) (N := 11) (ci := 3) (v := .ref (am 2)) hx hb hg ku_MD hown hK hI (0) (wm_0) rfl 3 (by decide) kw_473 rfl d_MD_findRun_32 ?_
              refine lv_sipush (v := nI 256) hx hb d_MD_findRun_35 (by decide) ?_
              refine lv_iload_n hx hb d_MD_findRun_38 rfl (lv_at hl 1 rfl) ?_
              refine r_imul (a := 256) (b := g) hx hb d_MD_findRun_39 ?_
              refine lv_iload hx hb d_MD_findRun_40 (lv_at hl 4 rfl) ?_
              refine r_iadd (a := 256 * g) (b := k + t) hx hb d_MD_findRun_42 ?_
              refine g_zald (B := (mBk (mFr0 τ g k))) (i := (256 * g) + (k + t)) hx hb hK hI (2) 1 (wm_Bk) rfl (by omega) (by omega) d_MD_findRun_43 ?_
              refine r_bnz (b := (mBk (mFr0 τ g k)) ((256 * g) + (k + t))) (tgt := 53) hx hb d_MD_findRun_44 (by decide) (fun h4 => ?_) (fun h4 => ?_)
              · exact tail t ht hf ((mB_lt hlt).trans h4) _ _ _ hI (lv_sub hl [0, 1, 2, 3, 4] rfl)
              · refine lv_iinc (v := nI ((k + t) + 1)) (lv' := [(4, .int (nI ((k + t) + 1))), (0, .ref (am 0)), (1, .int (nI g)), (2, .int (nI 0)), (3, .int (nI k))]) hx hb d_MD_findRun_47 hl (k := 4) rfl (nI_1 _) (by decide) rfl (fun ls hl => ?_)
                refine lv_goto (tgt := 20) hx hb d_MD_findRun_50 (by decide) ?_
                exact ih2 (t + 1) (by omega) (by omega) (fun i hi => by rcases Nat.lt_succ_iff_lt_or_eq.mp hi with q9 | q9; exact hf i q9; rw [q9]; exact (mB_lt hlt).trans h4) _ _ _ hI (lv_sub hl [1, 2, 3, 4, 0] rfl)
        exact loop2 (mSz τ g + 1) 0 (by omega) (by omega) (fun i hi => absurd hi (Nat.not_lt_zero _)) _ _ _ hI (lv_sub hl [1, 2, 3, 4, 0] rfl)
  exact loop (mSz τ g + 2) 0 0 (by omega) (Nat.zero_le _) (Or.inl ⟨rfl, rfl⟩) _ _ _ hI (lv_sub hl [1, 2, 3, 0] rfl)
set_option maxHeartbeats 4000000 in
set_option maxRecDepth 100000 in
theorem c_MD_findRunq {l : Launch} {D : va_G} {cG cZ cI cJ : ClassId} {am : Nat → Nat} (τ : mS) (hτ : mOk τ) (g : Nat) (hg4 : g < 4) (q : Nat) (hq1 : 1 ≤ q) (hq : q < 65536) : gMet l D (gT cG cZ cI cJ) y_MD_findRun b_MD_findRun 7 none ({ frames := 0, cells := 0, slots := 0, locals := 0 }) (wm am cI cZ τ) [.ref (am 0), .int (nI g), .int (nI q)] (wm am cI cZ (mFrq τ g q (mSz τ g))) (none) := by
  refine gMet_of (by decide) (Nat.le_of_ble_eq_true rfl) ?_
  intro p e s m below meth c A ls hC hA hI hl
  obtain ⟨hx, hb, hr, hlk, hown, hml, hg, hK⟩ := hC
  have hown : s.vm.findClass "GroupBitmapsModel" = some m.cls := hown
  have hl : lv_has ls 7 [(0, .ref (am 0)), (1, .int (nI g)), (2, .int (nI q))] := hl
  have hc1 := hτ.1
  have hc2 := hτ.2.1
  have hz := hτ.2.2.2.1 g hg4
  refine lv_aload_n hx hb d_MD_findRun_0 rfl (lv_at hl 0 rfl) ?_
  refine lv_iconst (v := nI 0) hx hb d_MD_findRun_1 (by decide) ?_
  refine g_put (ws' := (wm am cI cZ (vRz τ 0))) (own := "GroupBitmapsModel") (C := R_MD) (T := F_MD) (N := 11) (ci := 3) (v := .int (nI 0)) hx hb hg ku_MD t_MD t_MD_ok n_MD hown hK hI (0) (wm_0) rfl 10 (by decide) kw_480 rfl rfl (rfl) (rfl) (Nat.le_of_ble_eq_true rfl) (wm_vRz) d_MD_findRun_2 (fun H locs hI => ?_)
  refine lv_iconst (v := nI 0) hx hb d_MD_findRun_5 (by decide) ?_
  refine lv_istore_n (lv' := [(3, .int (nI 0)), (0, .ref (am 0)), (1, .int (nI g)), (2, .int (nI q))]) hx hb d_MD_findRun_6 rfl hl (by decide) rfl (fun ls hl => ?_)
  have loop : ∀ (fuel : Nat) (k kk : Nat), mSz τ g + 2 ≤ fuel + k → (kk ≤ mSz τ g) → ((k = kk ∧ (srF (mB τ g) q (mSz τ g + 1) kk).2.2 = 0) ∨ (k = mSz τ g + 1 ∧ kk = mSz τ g)) → ∀ (H : Heap) (locs : List Loc) (ls : Array Slot), gI D A s.heap (wm am cI cZ (mFrq τ g q kk)) H locs → lv_has ls 7 [(0, .ref (am 0)), (1, .int (nI g)), (2, .int (nI q)), (3, .int (nI k))] → W p l e ({ frames := 0, cells := 0, slots := 0, locals := 0 }) s m ([.ref (am 0), .int (nI g), .int (nI q)] : List Value).toArray below meth c H locs 0 0 (gQ D below ([.ref (am 0), .int (nI g), .int (nI q)] : List Value).toArray s A (wm am cI cZ (mFrq τ g q (mSz τ g))) (none)) (F0 m 7 ls []) := by
    intro fuel
    induction fuel with
    | zero => intro k kk hfu hkk hk; exact absurd hfu (by omega)
    | succ fuel ih =>
      intro k kk hfu hkk hk H locs ls hI hl
      have hszz : mSz (mFrq τ g q kk) g = mSz τ g := rfl
      refine lv_iload_n hx hb d_MD_findRun_7 rfl (lv_at hl 3 rfl) ?_
      refine lv_aload_n hx hb d_MD_findRun_8 rfl (lv_at hl 0 rfl) ?_
      refine g_get (own := "GroupBitmapsModel") (C := R_MD) (T := F_MD) (N := 11) (ci := 3) (v := .ref (am 1)) hx hb hg ku_MD hown hK hI (0) (wm_0) rfl 2 (by decide) kw_472 rfl d_MD_findRun_9 ?_
      refine lv_iload_n hx hb d_MD_findRun_12 rfl (lv_at hl 1 rfl) ?_
      refine g_iald (F := (mSz (mFrq τ g q kk))) (i := g) hx hb hK hI (1) 2 (wm_Sz) rfl (hg4) (by omega) d_MD_findRun_13 ?_
      refine r_ge (a := k) (b := (mSz (mFrq τ g q kk)) g) (tgt := 144) hx hb d_MD_findRun_14 (by decide) (by omega) (by omega) (fun h => ?_) (fun h => ?_)
      · obtain rfl : kk = mSz τ g := by omega
        exact g_rv hx hb hr hlk hI (rfl) d_MD_findRun_144
      · obtain ⟨rfl, h0⟩ : k = kk ∧ (srF (mB τ g) q (mSz τ g + 1) kk).2.2 = 0 := by rcases hk with hk | hk; exact hk; exact absurd h (by omega)
        refine lv_iload_n hx hb d_MD_findRun_17 rfl (lv_at hl 3 rfl) ?_
        refine lv_istore (lv' := [(4, .int (nI k)), (0, .ref (am 0)), (1, .int (nI g)), (2, .int (nI q)), (3, .int (nI k))]) hx hb d_MD_findRun_18 hl (by decide) rfl (fun ls hl => ?_)
        have tail : ∀ (t : Nat), (k + t ≤ mSz τ g) → (∀ i, i < t → mB τ g (k + i) = false) → (mB τ g (k + t) = true) → ∀ (H : Heap) (locs : List Loc) (ls : Array Slot), gI D A s.heap (wm am cI cZ (mFrq τ g q k)) H locs → lv_has ls 7 [(0, .ref (am 0)), (1, .int (nI g)), (2, .int (nI q)), (3, .int (nI k)), (4, .int (nI (k + t)))] → W p l e ({ frames := 0, cells := 0, slots := 0, locals := 0 }) s m ([.ref (am 0), .int (nI g), .int (nI q)] : List Value).toArray below meth c H locs 0 0 (gQ D below ([.ref (am 0), .int (nI g), .int (nI q)] : List Value).toArray s A (wm am cI cZ (mFrq τ g q (mSz τ g))) (none)) (F0 m 53 ls []) := by
          intro t ht hf he H locs ls hI hl
          have hRle : mRzq τ g q k ≤ 65535 := by have := (srF_inv (mB τ g) q (mSz τ g + 1) k).2.1; unfold mRzq; cases hs : (srF (mB τ g) q (mSz τ g + 1) k).1 with | none => exact Nat.zero_le _ | some a => have := (this a hs).2.1; dsimp only; omega
          refine lv_iload hx hb d_MD_findRun_53 (lv_at hl 4 rfl) ?_
          refine lv_iload_n hx hb d_MD_findRun_55 rfl (lv_at hl 3 rfl) ?_
          refine r_isub (a := k + t) (b := k) hx hb (by omega) d_MD_findRun_56 ?_
          rw [show k + t - k = t by omega]
          refine lv_istore (lv' := [(5, .int (nI t)), (0, .ref (am 0)), (1, .int (nI g)), (2, .int (nI q)), (3, .int (nI k)), (4, .int (nI (k + t)))]) hx hb d_MD_findRun_57 hl (by decide) rfl (fun ls hl => ?_)
          refine lv_iload_n hx hb d_MD_findRun_59 rfl (lv_at hl 3 rfl) ?_
          refine r_zne (a := q) (tgt := 80) hx hb d_MD_findRun_60 (by decide) (by omega) (fun h4 => ?_) (fun h4 => ?_)
          · refine lv_iload hx hb d_MD_findRun_80 (lv_at hl 0 rfl) ?_
            refine lv_iload_n hx hb d_MD_findRun_82 rfl (lv_at hl 3 rfl) ?_
            refine r_lt (a := t) (b := q) (tgt := 106) hx hb d_MD_findRun_83 (by decide) (by omega) (by omega) (fun h5 => ?_) (fun h5 => ?_)
            · refine lv_iconst (v := bI false) hx hb d_MD_findRun_106 (by decide) ?_
              refine lv_istore (lv' := [(6, .int (bI false)), (5, .int (nI t)), (0, .ref (am 0)), (1, .int (nI g)), (2, .int (nI q)), (3, .int (nI k)), (4, .int (nI (k + t)))]) hx hb d_MD_findRun_107 hl (by decide) rfl (fun ls hl => ?_)
              refine lv_iload hx hb d_MD_findRun_109 (lv_at hl 1 rfl) ?_
              refine r_zle (a := t) (tgt := 136) hx hb d_MD_findRun_111 (by decide) (by omega) (fun h8 => ?_) (fun h8 => ?_)
              · have ew := mFrq_skip h0 hf he hq1 (by omega) (Or.inl h5)
                refine lv_iload hx hb d_MD_findRun_136 (lv_at hl 6 rfl) ?_
                refine lv_iconst (v := nI 1) hx hb d_MD_findRun_138 (by decide) ?_
                refine r_iadd (a := k + t) (b := 1) hx hb d_MD_findRun_139 ?_
                refine lv_istore_n (lv' := [(3, .int (nI ((k + t) + 1))), (6, .int (bI false)), (5, .int (nI t)), (0, .ref (am 0)), (1, .int (nI g)), (2, .int (nI q)), (4, .int (nI (k + t)))]) hx hb d_MD_findRun_140 rfl hl (by decide) rfl (fun ls hl => ?_)
                refine lv_goto (tgt := 7) hx hb d_MD_findRun_141 (by decide) ?_
                rcases Nat.lt_or_ge (k + t) (mSz τ g) with hlt | hge
                · obtain ⟨e3, e4⟩ := mFrq_tk hq1 he
                  exact ih (k + t + 1) (k + t + 1) (by omega) (by omega) (Or.inl ⟨rfl, e4⟩) _ _ _ (by rw [e3, ew]; exact hI) (lv_sub hl [3, 4, 5, 0] rfl)
                · exact ih (k + t + 1) (k + t) (by omega) (by omega) (Or.inr ⟨by omega, by omega⟩) _ _ _ (by rw [ew]; exact hI) (lv_sub hl [3, 4, 5, 0] rfl)
              · refine lv_iload hx hb d_MD_findRun_114 (lv_at hl 0 rfl) ?_
                refine r_bz (b := false) (tgt := 136) hx hb d_MD_findRun_116 (by decide) (fun h9 => ?_) (fun h9 => ?_)
                · have ew := mFrq_skip h0 hf he hq1 (by omega) (Or.inl h5)
                  refine lv_iload hx hb d_MD_findRun_136 (lv_at hl 6 rfl) ?_
                  refine lv_iconst (v := nI 1) hx hb d_MD_findRun_138 (by decide) ?_
                  refine r_iadd (a := k + t) (b := 1) hx hb d_MD_findRun_139 ?_
                  refine lv_istore_n (lv' := [(3, .int (nI ((k + t) + 1))), (6, .int (bI false)), (5, .int (nI t)), (0, .ref (am 0)), (1, .int (nI g)), (2, .int (nI q)), (4, .int (nI (k + t)))]) hx hb d_MD_findRun_140 rfl hl (by decide) rfl (fun ls hl => ?_)
                  refine lv_goto (tgt := 7) hx hb d_MD_findRun_141 (by decide) ?_
                  rcases Nat.lt_or_ge (k + t) (mSz τ g) with hlt | hge
                  · obtain ⟨e3, e4⟩ := mFrq_tk hq1 he
                    exact ih (k + t + 1) (k + t + 1) (by omega) (by omega) (Or.inl ⟨rfl, e4⟩) _ _ _ (by rw [e3, ew]; exact hI) (lv_sub hl [3, 4, 5, 0] rfl)
                  · exact ih (k + t + 1) (k + t) (by omega) (by omega) (Or.inr ⟨by omega, by omega⟩) _ _ _ (by rw [ew]; exact hI) (lv_sub hl [3, 4, 5, 0] rfl)
                · exact absurd h9 (by decide)
            · refine lv_aload_n hx hb d_MD_findRun_86 rfl (lv_at hl 1 rfl) ?_
              refine g_get (own := "GroupBitmapsModel") (C := R_MD) (T := F_MD) (N := 11) (ci := 3) (v := .int (nI (mRz (mFrq τ g q k)))) hx hb hg ku_MD hown hK hI (0) (wm_0) rfl 10 (by decide) kw_480 rfl d_MD_findRun_87 ?_
              refine r_zeq (a := mRzq τ g q k) (tgt := 102) hx hb d_MD_findRun_90 (by decide) (by omega) (fun h6 => ?_) (fun h6 => ?_)
              · refine lv_iconst (v := bI true) hx hb d_MD_findRun_102 (by decide) ?_
                refine lv_goto (tgt := 107) hx hb d_MD_findRun_103 (by decide) ?_
                refine lv_istore (lv' := [(6, .int (bI true)), (5, .int (nI t)), (0, .ref (am 0)), (1, .int (nI g)), (2, .int (nI q)), (3, .int (nI k)), (4, .int (nI (k + t)))]) hx hb d_MD_findRun_107 hl (by decide) rfl (fun ls hl => ?_)
                refine lv_iload hx hb d_MD_findRun_109 (lv_at hl 1 rfl) ?_
                refine r_zle (a := t) (tgt := 136) hx hb d_MD_findRun_111 (by decide) (by omega) (fun h8 => ?_) (fun h8 => ?_)
                · exact absurd h8 (by omega)
                · refine lv_iload hx hb d_MD_findRun_114 (lv_at hl 0 rfl) ?_
                  refine r_bz (b := true) (tgt := 136) hx hb d_MD_findRun_116 (by decide) (fun h9 => ?_) (fun h9 => ?_)
                  · exact absurd h9 (by decide)
                  · refine lv_aload_n hx hb d_MD_findRun_119 rfl (lv_at hl 2 rfl) ?_
                    refine lv_sipush (v := nI 256) hx hb d_MD_findRun_120 (by decide) ?_
                    refine lv_iload_n hx hb d_MD_findRun_123 rfl (lv_at hl 3 rfl) ?_
                    refine r_imul (a := 256) (b := g) hx hb d_MD_findRun_124 ?_
                    refine lv_iload_n hx hb d_MD_findRun_125 rfl (lv_at hl 5 rfl) ?_
                    refine r_iadd (a := 256 * g) (b := k) hx hb d_MD_findRun_126 ?_
                    refine g_put (ws' := (wm am cI cZ (vRa (mFrq τ g q k) (256 * g + k)))) (own := "GroupBitmapsModel") (C := R_MD) (T := F_MD) (N := 11) (ci := 3) (v := .int (nI ((256 * g) + k))) hx hb hg ku_MD t_MD t_MD_ok n_MD hown hK hI (0) (wm_0) rfl 9 (by decide) kw_479 rfl rfl (rfl) (rfl) (Nat.le_of_ble_eq_true rfl) (wm_vRa) d_MD_findRun_127 (fun H locs hI => ?_)
                    refine lv_aload_n hx hb d_MD_findRun_130 rfl (lv_at hl 2 rfl) ?_
                    refine lv_iload hx hb d_MD_findRun_131 (lv_at hl 1 rfl) ?_
                    refine g_put (ws' := (wm am cI cZ (vRz (vRa (mFrq τ g q k) (256 * g + k)) t))) (own := "GroupBitmapsModel") (C := R_MD) (T := F_MD) (N := 11) (ci := 3) (v := .int (nI t)) hx hb hg ku_MD t_MD t_MD_ok n_MD hown hK hI (0) (wm_0) rfl 10 (by decide) kw_480 rfl rfl (rfl) (rfl) (Nat.le_of_ble_eq_true rfl) (wm_vRz) d_MD_findRun_133 (fun H locs hI => ?_)
                    have ew := mFrq_take h0 hf he hq1 (by omega) h5 (Or.inl h6)
                    refine lv_iload hx hb d_MD_findRun_136 (lv_at hl 6 rfl) ?_
                    refine lv_iconst (v := nI 1) hx hb d_MD_findRun_138 (by decide) ?_
                    refine r_iadd (a := k + t) (b := 1) hx hb d_MD_findRun_139 ?_
                    refine lv_istore_n (lv' := [(3, .int (nI ((k + t) + 1))), (6, .int (bI true)), (5, .int (nI t)), (0, .ref (am 0)), (1, .int (nI g)), (2, .int (nI q)), (4, .int (nI (k + t)))]) hx hb d_MD_findRun_140 rfl hl (by decide) rfl (fun ls hl => ?_)
                    refine lv_goto (tgt := 7) hx hb d_MD_findRun_141 (by decide) ?_
                    rcases Nat.lt_or_ge (k + t) (mSz τ g) with hlt | hge
                    · obtain ⟨e3, e4⟩ := mFrq_tk hq1 he
                      exact ih (k + t + 1) (k + t + 1) (by omega) (by omega) (Or.inl ⟨rfl, e4⟩) _ _ _ (by rw [e3, ew]; exact hI) (lv_sub hl [3, 4, 5, 0] rfl)
                    · exact ih (k + t + 1) (k + t) (by omega) (by omega) (Or.inr ⟨by omega, by omega⟩) _ _ _ (by rw [ew]; exact hI) (lv_sub hl [3, 4, 5, 0] rfl)
              · refine lv_iload hx hb d_MD_findRun_93 (lv_at hl 0 rfl) ?_
                refine lv_aload_n hx hb d_MD_findRun_95 rfl (lv_at hl 1 rfl) ?_
                refine g_get (own := "GroupBitmapsModel") (C := R_MD) (T := F_MD) (N := 11) (ci := 3) (v := .int (nI (mRz (mFrq τ g q k)))) hx hb hg ku_MD hown hK hI (0) (wm_0) rfl 10 (by decide) kw_480 rfl d_MD_findRun_96 ?_
                refine r_ge (a := t) (b := mRzq τ g q k) (tgt := 106) hx hb d_MD_findRun_99 (by decide) (by omega) (by omega) (fun h7 => ?_) (fun h7 => ?_)
                · refine lv_iconst (v := bI false) hx hb d_MD_findRun_106 (by decide) ?_
                  refine lv_istore (lv' := [(6, .int (bI false)), (5, .int (nI t)), (0, .ref (am 0)), (1, .int (nI g)), (2, .int (nI q)), (3, .int (nI k)), (4, .int (nI (k + t)))]) hx hb d_MD_findRun_107 hl (by decide) rfl (fun ls hl => ?_)
                  refine lv_iload hx hb d_MD_findRun_109 (lv_at hl 1 rfl) ?_
                  refine r_zle (a := t) (tgt := 136) hx hb d_MD_findRun_111 (by decide) (by omega) (fun h8 => ?_) (fun h8 => ?_)
                  · have ew := mFrq_skip h0 hf he hq1 (by omega) (Or.inr ⟨h6, h7⟩)
                    refine lv_iload hx hb d_MD_findRun_136 (lv_at hl 6 rfl) ?_
                    refine lv_iconst (v := nI 1) hx hb d_MD_findRun_138 (by decide) ?_
                    refine r_iadd (a := k + t) (b := 1) hx hb d_MD_findRun_139 ?_
                    refine lv_istore_n (lv' := [(3, .int (nI ((k + t) + 1))), (6, .int (bI false)), (5, .int (nI t)), (0, .ref (am 0)), (1, .int (nI g)), (2, .int (nI q)), (4, .int (nI (k + t)))]) hx hb d_MD_findRun_140 rfl hl (by decide) rfl (fun ls hl => ?_)
                    refine lv_goto (tgt := 7) hx hb d_MD_findRun_141 (by decide) ?_
                    rcases Nat.lt_or_ge (k + t) (mSz τ g) with hlt | hge
                    · obtain ⟨e3, e4⟩ := mFrq_tk hq1 he
                      exact ih (k + t + 1) (k + t + 1) (by omega) (by omega) (Or.inl ⟨rfl, e4⟩) _ _ _ (by rw [e3, ew]; exact hI) (lv_sub hl [3, 4, 5, 0] rfl)
                    · exact ih (k + t + 1) (k + t) (by omega) (by omega) (Or.inr ⟨by omega, by omega⟩) _ _ _ (by rw [ew]; exact hI) (lv_sub hl [3, 4, 5, 0] rfl)
                  · refine lv_iload hx hb d_MD_findRun_114 (lv_at hl 0 rfl) ?_
                    refine r_bz (b := false) (tgt := 136) hx hb d_MD_findRun_116 (by decide) (fun h9 => ?_) (fun h9 => ?_)
                    · have ew := mFrq_skip h0 hf he hq1 (by omega) (Or.inr ⟨h6, h7⟩)
                      refine lv_iload hx hb d_MD_findRun_136 (lv_at hl 6 rfl) ?_
                      refine lv_iconst (v := nI 1) hx hb d_MD_findRun_138 (by decide) ?_
                      refine r_iadd (a := k + t) (b := 1) hx hb d_MD_findRun_139 ?_
                      refine lv_istore_n (lv' := [(3, .int (nI ((k + t) + 1))), (6, .int (bI false)), (5, .int (nI t)), (0, .ref (am 0)), (1, .int (nI g)), (2, .int (nI q)), (4, .int (nI (k + t)))]) hx hb d_MD_findRun_140 rfl hl (by decide) rfl (fun ls hl => ?_)
                      refine lv_goto (tgt := 7) hx hb d_MD_findRun_141 (by decide) ?_
                      rcases Nat.lt_or_ge (k + t) (mSz τ g) with hlt | hge
                      · obtain ⟨e3, e4⟩ := mFrq_tk hq1 he
                        exact ih (k + t + 1) (k + t + 1) (by omega) (by omega) (Or.inl ⟨rfl, e4⟩) _ _ _ (by rw [e3, ew]; exact hI) (lv_sub hl [3, 4, 5, 0] rfl)
                      · exact ih (k + t + 1) (k + t) (by omega) (by omega) (Or.inr ⟨by omega, by omega⟩) _ _ _ (by rw [ew]; exact hI) (lv_sub hl [3, 4, 5, 0] rfl)
                    · exact absurd h9 (by decide)
                · refine lv_iconst (v := bI true) hx hb d_MD_findRun_102 (by decide) ?_
                  refine lv_goto (tgt := 107) hx hb d_MD_findRun_103 (by decide) ?_
                  refine lv_istore (lv' := [(6, .int (bI true)), (5, .int (nI t)), (0, .ref (am 0)), (1, .int (nI g)), (2, .int (nI q)), (3, .int (nI k)), (4, .int (nI (k + t)))]) hx hb d_MD_findRun_107 hl (by decide) rfl (fun ls hl => ?_)
                  refine lv_iload hx hb d_MD_findRun_109 (lv_at hl 1 rfl) ?_
                  refine r_zle (a := t) (tgt := 136) hx hb d_MD_findRun_111 (by decide) (by omega) (fun h8 => ?_) (fun h8 => ?_)
                  · exact absurd h8 (by omega)
                  · refine lv_iload hx hb d_MD_findRun_114 (lv_at hl 0 rfl) ?_
                    refine r_bz (b := true) (tgt := 136) hx hb d_MD_findRun_116 (by decide) (fun h9 => ?_) (fun h9 => ?_)
                    · exact absurd h9 (by decide)
                    · refine lv_aload_n hx hb d_MD_findRun_119 rfl (lv_at hl 2 rfl) ?_
                      refine lv_sipush (v := nI 256) hx hb d_MD_findRun_120 (by decide) ?_
                      refine lv_iload_n hx hb d_MD_findRun_123 rfl (lv_at hl 3 rfl) ?_
                      refine r_imul (a := 256) (b := g) hx hb d_MD_findRun_124 ?_
                      refine lv_iload_n hx hb d_MD_findRun_125 rfl (lv_at hl 5 rfl) ?_
                      refine r_iadd (a := 256 * g) (b := k) hx hb d_MD_findRun_126 ?_
                      refine g_put (ws' := (wm am cI cZ (vRa (mFrq τ g q k) (256 * g + k)))) (own := "GroupBitmapsModel") (C := R_MD) (T := F_MD) (N := 11) (ci := 3) (v := .int (nI ((256 * g) + k))) hx hb hg ku_MD t_MD t_MD_ok n_MD hown hK hI (0) (wm_0) rfl 9 (by decide) kw_479 rfl rfl (rfl) (rfl) (Nat.le_of_ble_eq_true rfl) (wm_vRa) d_MD_findRun_127 (fun H locs hI => ?_)
                      refine lv_aload_n hx hb d_MD_findRun_130 rfl (lv_at hl 2 rfl) ?_
                      refine lv_iload hx hb d_MD_findRun_131 (lv_at hl 1 rfl) ?_
                      refine g_put (ws' := (wm am cI cZ (vRz (vRa (mFrq τ g q k) (256 * g + k)) t))) (own := "GroupBitmapsModel") (C := R_MD) (T := F_MD) (N := 11) (ci := 3) (v := .int (nI t)) hx hb hg ku_MD t_MD t_MD_ok n_MD hown hK hI (0) (wm_0) rfl 10 (by decide) kw_480 rfl rfl (rfl) (rfl) (Nat.le_of_ble_eq_true rfl) (wm_vRz) d_MD_findRun_133 (fun H locs hI => ?_)
                      have ew := mFrq_take h0 hf he hq1 (by omega) h5 (Or.inr h7)
                      refine lv_iload hx hb d_MD_findRun_136 (lv_at hl 6 rfl) ?_
                      refine lv_iconst (v := nI 1) hx hb d_MD_findRun_138 (by decide) ?_
                      refine r_iadd (a := k + t) (b := 1) hx hb d_MD_findRun_139 ?_
                      refine lv_istore_n (lv' := [(3, .int (nI ((k + t) + 1))), (6, .int (bI true)), (5, .int (nI t)), (0, .ref (am 0)), (1, .int (nI g)), (2, .int (nI q)), (4, .int (nI (k + t)))]) hx hb d_MD_findRun_140 rfl hl (by decide) rfl (fun ls hl => ?_)
                      refine lv_goto (tgt := 7) hx hb d_MD_findRun_141 (by decide) ?_
                      rcases Nat.lt_or_ge (k + t) (mSz τ g) with hlt | hge
                      · obtain ⟨e3, e4⟩ := mFrq_tk hq1 he
                        exact ih (k + t + 1) (k + t + 1) (by omega) (by omega) (Or.inl ⟨rfl, e4⟩) _ _ _ (by rw [e3, ew]; exact hI) (lv_sub hl [3, 4, 5, 0] rfl)
                      · exact ih (k + t + 1) (k + t) (by omega) (by omega) (Or.inr ⟨by omega, by omega⟩) _ _ _ (by rw [ew]; exact hI) (lv_sub hl [3, 4, 5, 0] rfl)
          · exact absurd h4 (by omega)
        have loop2 : ∀ (fuel : Nat) (t : Nat), mSz τ g + 1 ≤ fuel + (k + t) → (k + t ≤ mSz τ g) → (∀ i, i < t → mB τ g (k + i) = false) → ∀ (H : Heap) (locs : List Loc) (ls : Array Slot), gI D A s.heap (wm am cI cZ (mFrq τ g q k)) H locs → lv_has ls 7 [(0, .ref (am 0)), (1, .int (nI g)), (2, .int (nI q)), (3, .int (nI k)), (4, .int (nI (k + t)))] → W p l e ({ frames := 0, cells := 0, slots := 0, locals := 0 }) s m ([.ref (am 0), .int (nI g), .int (nI q)] : List Value).toArray below meth c H locs 0 0 (gQ D below ([.ref (am 0), .int (nI g), .int (nI q)] : List Value).toArray s A (wm am cI cZ (mFrq τ g q (mSz τ g))) (none)) (F0 m 20 ls []) := by
          intro fuel
          induction fuel with
          | zero => intro t hfu ht hf; exact absurd hfu (by omega)
          | succ fuel ih2 =>
            intro t hfu ht hf H locs ls hI hl
            have hszz : mSz (mFrq τ g q k) g = mSz τ g := rfl
            refine lv_iload hx hb d_MD_findRun_20 (lv_at hl 4 rfl) ?_
            refine lv_aload_n hx hb d_MD_findRun_22 rfl (lv_at hl 0 rfl) ?_
            refine g_get (own := "GroupBitmapsModel") (C := R_MD) (T := F_MD) (N := 11) (ci := 3) (v := .ref (am 1)) hx hb hg ku_MD hown hK hI (0) (wm_0) rfl 2 (by decide) kw_472 rfl d_MD_findRun_23 ?_
            refine lv_iload_n hx hb d_MD_findRun_26 rfl (lv_at hl 1 rfl) ?_
            refine g_iald (F := (mSz (mFrq τ g q k))) (i := g) hx hb hK hI (1) 2 (wm_Sz) rfl (hg4) (by omega) d_MD_findRun_27 ?_
            refine r_ge (a := k + t) (b := (mSz (mFrq τ g q k)) g) (tgt := 53) hx hb d_MD_findRun_28 (by decide) (by omega) (by omega) (fun h3 => ?_) (fun h3 => ?_)
            · exact tail t ht hf (mB_ge (by omega)) _ _ _ hI (lv_sub hl [0, 1, 2, 3, 4] rfl)
            · have hlt : k + t < mSz τ g := by omega
              refine lv_aload_n hx hb d_MD_findRun_31 rfl (lv_at hl 0 rfl) ?_
              refine g_get (own := "GroupBitmapsModel") (C := R_MD) (T := F_MD) (N := 11) (ci := 3) (v := .ref (am 2)) hx hb hg ku_MD hown hK hI (0) (wm_0) rfl 3 (by decide) kw_473 rfl d_MD_findRun_32 ?_
              refine lv_sipush (v := nI 256) hx hb d_MD_findRun_35 (by decide) ?_
              refine lv_iload_n hx hb d_MD_findRun_38 rfl (lv_at hl 1 rfl) ?_
              refine r_imul (a := 256) (b := g) hx hb d_MD_findRun_39 ?_
              refine lv_iload hx hb d_MD_findRun_40 (lv_at hl 4 rfl) ?_
              refine r_iadd (a := 256 * g) (b := k + t) hx hb d_MD_findRun_42 ?_
              refine g_zald (B := (mBk (mFrq τ g q k))) (i := (256 * g) + (k + t)) hx hb hK hI (2) 1 (wm_Bk) rfl (by omega) (by omega) d_MD_findRun_43 ?_
              refine r_bnz (b := (mBk (mFrq τ g q k)) ((256 * g) + (k + t))) (tgt := 53) hx hb d_MD_findRun_44 (by decide) (fun h4 => ?_) (fun h4 => ?_)
              · exact tail t ht hf ((mB_lt hlt).trans h4) _ _ _ hI (lv_sub hl [0, 1, 2, 3, 4] rfl)
              · refine lv_iinc (v := nI ((k + t) + 1)) (lv' := [(4, .int (nI ((k + t) + 1))), (0, .ref (am 0)), (1, .int (nI g)), (2, .int (nI q)), (3, .int (nI k))]) hx hb d_MD_findRun_47 hl (k := 4) rfl (nI_1 _) (by decide) rfl (fun ls hl => ?_)
                refine lv_goto (tgt := 20) hx hb d_MD_findRun_50 (by decide) ?_
                exact ih2 (t + 1) (by omega) (by omega) (fun i hi => by rcases Nat.lt_succ_iff_lt_or_eq.mp hi with q9 | q9; exact hf i q9; rw [q9]; exact (mB_lt hlt).trans h4) _ _ _ hI (lv_sub hl [1, 2, 3, 4, 0] rfl)
        exact loop2 (mSz τ g + 1) 0 (by omega) (by omega) (fun i hi => absurd hi (Nat.not_lt_zero _)) _ _ _ hI (lv_sub hl [1, 2, 3, 4, 0] rfl)
  exact loop (mSz τ g + 2) 0 0 (by omega) (Nat.zero_le _) (Or.inl ⟨rfl, rfl⟩) _ _ _ hI (lv_sub hl [1, 2, 3, 0] rfl)
end
