/-! ===== the words of the three throws ===== -/
set_option maxRecDepth 100000 in
theorem xat_IAE : ∀ w ∈ Bundle.ownAtoms "GroupBitmaps" 30 "java/lang/IllegalArgumentException" ["java/lang/RuntimeException", "java/lang/Exception"], w ∈ gw ∨ w ∈ gx ∨ w ∈ [Cond.laysStatic Bundle.tN "UNASSIGNED_STACK" Bundle.steD, .laysStatic Bundle.tN "SUPPRESSED_SENTINEL" Bundle.listD, .isRef (.static Bundle.tN "UNASSIGNED_STACK" Bundle.steD), .isRef (.static Bundle.tN "SUPPRESSED_SENTINEL" Bundle.listD)] := by decide +kernel
set_option maxRecDepth 100000 in
theorem xat_ISE : ∀ w ∈ Bundle.ownAtoms "GroupBitmaps" 60 "java/lang/IllegalStateException" ["java/lang/RuntimeException", "java/lang/Exception"], w ∈ gw ∨ w ∈ gx ∨ w ∈ [Cond.laysStatic Bundle.tN "UNASSIGNED_STACK" Bundle.steD, .laysStatic Bundle.tN "SUPPRESSED_SENTINEL" Bundle.listD, .isRef (.static Bundle.tN "UNASSIGNED_STACK" Bundle.steD), .isRef (.static Bundle.tN "SUPPRESSED_SENTINEL" Bundle.listD)] := by decide +kernel
set_option maxRecDepth 100000 in
theorem xat_IOO : ∀ w ∈ Bundle.ownAtoms "GroupBitmaps" 166 "java/lang/IndexOutOfBoundsException" ["java/lang/RuntimeException", "java/lang/Exception"], w ∈ gw ∨ w ∈ gx ∨ w ∈ [Cond.laysStatic Bundle.tN "UNASSIGNED_STACK" Bundle.steD, .laysStatic Bundle.tN "SUPPRESSED_SENTINEL" Bundle.listD, .isRef (.static Bundle.tN "UNASSIGNED_STACK" Bundle.steD), .isRef (.static Bundle.tN "SUPPRESSED_SENTINEL" Bundle.listD)] := by decide +kernel
theorem xfit : ∀ n ∈ ["java/lang/RuntimeException", "java/lang/Exception"], Bundle.fit n = true := by decide +kernel
theorem xt_t {w : Cond} (i : Nat) (h : tables_1[i]? = some w) : w ∈ lw_tbl := List.mem_append_right _ (List.mem_of_getElem? h)
theorem x_ltS {x : Int32} {n : Nat} (hn : n < 2 ^ 31 - 1) : x < nI (n + 1) ↔ x ≤ nI n := by
  rw [Int32.lt_iff_toInt_lt, Int32.le_iff_toInt_le, nI_toInt (by omega), nI_toInt (by omega)]
  omega
theorem kx_168 : (.stringRef "GroupBitmaps" 28 "groups is not 1 .. 4" : Cond) ∈ lw_tbl := xt_t 168 (by decide +kernel)
theorem kx_195 : (.stringRef "GroupBitmaps" 33 "last is not 16 .. 256" : Cond) ∈ lw_tbl := xt_t 195 (by decide +kernel)
theorem kx_207 : (.stringRef "GroupBitmaps" 39 "n is not 0 .. 100" : Cond) ∈ lw_tbl := xt_t 207 (by decide +kernel)
theorem kx_231 : (.stringRef "GroupBitmaps" 52 "goal is no block of a group" : Cond) ∈ lw_tbl := xt_t 231 (by decide +kernel)
theorem kx_232 : (.stringRef "GroupBitmaps" 54 "n is not 1 .. 256" : Cond) ∈ lw_tbl := xt_t 232 (by decide +kernel)
theorem kx_242 : (.stringRef "GroupBitmaps" 58 "no block may be taken" : Cond) ∈ lw_tbl := xt_t 242 (by decide +kernel)
theorem kx_300 : (.stringRef "GroupBitmaps" 73 "n is not 1 .. 1,024" : Cond) ∈ lw_tbl := xt_t 300 (by decide +kernel)
theorem kx_301 : (.stringRef "GroupBitmaps" 78 "one of them is no block of a group" : Cond) ∈ lw_tbl := xt_t 301 (by decide +kernel)
theorem kx_307 : (.stringRef "GroupBitmaps" 84 "one of them is free, or fixed" : Cond) ∈ lw_tbl := xt_t 307 (by decide +kernel)
theorem kx_323 : (.stringRef "GroupBitmaps" 106 "there is no file parent" : Cond) ∈ lw_tbl := xt_t 323 (by decide +kernel)
theorem kx_358 : (.stringRef "GroupBitmaps" 114 "no file is free" : Cond) ∈ lw_tbl := xt_t 358 (by decide +kernel)
theorem kx_375 : (.stringRef "GroupBitmaps" 119 "it is no file from 11 on" : Cond) ∈ lw_tbl := xt_t 375 (by decide +kernel)
theorem kx_376 : (.stringRef "GroupBitmaps" 130 "the file is free" : Cond) ∈ lw_tbl := xt_t 376 (by decide +kernel)
theorem kx_377 : (.stringRef "GroupBitmaps" 135 "its group has no folder" : Cond) ∈ lw_tbl := xt_t 377 (by decide +kernel)
theorem kx_390 : (.stringRef "GroupBitmaps" 144 "there is none such in the volume" : Cond) ∈ lw_tbl := xt_t 390 (by decide +kernel)
theorem kx_398 : (.stringRef "GroupBitmaps" 146 "there is no such group" : Cond) ∈ lw_tbl := xt_t 398 (by decide +kernel)
theorem kx_399 : (.stringRef "GroupBitmaps" 160 "there is no such number" : Cond) ∈ lw_tbl := xt_t 399 (by decide +kernel)
theorem kx_417 : (.stringRef "GroupBitmaps" 164 "there is no such byte" : Cond) ∈ lw_tbl := xt_t 417 (by decide +kernel)
theorem kx_450 : (.stringRef "GroupBitmaps" 178 "there is no such block" : Cond) ∈ lw_tbl := xt_t 450 (by decide +kernel)
