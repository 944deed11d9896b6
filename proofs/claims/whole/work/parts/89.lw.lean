theorem kg_t {w : Cond} (i : Nat) (h : tables_1[i]? = some w) (ho : okx w = true) : w ∈ gx := List.mem_filter.mpr ⟨List.mem_append_right _ (List.mem_of_getElem? h), ho⟩
theorem kg_IAE : (.castable "java/lang/IllegalArgumentException" "java/lang/IllegalArgumentException" : Cond) ∈ gx := kg_t 129 (by decide +kernel) (by decide +kernel)
theorem kg_ISE : (.castable "java/lang/IllegalStateException" "java/lang/IllegalStateException" : Cond) ∈ gx := kg_t 235 (by decide +kernel) (by decide +kernel)
theorem kg_IOO : (.castable "java/lang/IndexOutOfBoundsException" "java/lang/IndexOutOfBoundsException" : Cond) ∈ gx := kg_t 410 (by decide +kernel) (by decide +kernel)
set_option maxHeartbeats 4000000 in
set_option maxRecDepth 100000 in
theorem w_lay {l : Launch} {D : va_G} {cG cZ cI cJ : ClassId} {ad : Nat → Nat} {ao : Nat} {f : Nat → Int64} {σ σ' : gS} {z : Int32} {x0 : Int32} {x1 : Int32}  (hM : gMetE l D (gT cG cZ cI cJ) y_GB_lay b_GB_lay 3 (some .int) ({ frames := 8, cells := 0, slots := 0, locals := 140 }) (wd ad cG cZ σ) [.ref (ad 0), .int x0, .int x1] (wd ad cG cZ σ') (some (.int z))) : gG l D (gT cG cZ cI cJ) (.codeWith y_LW_lay b_LW_lay 5 (some .int) [(0, 10, 13, 13)]) y_LW_lay ({ frames := 9, cells := 1, slots := 6, locals := 162 }) 1 6 (wd ad cG cZ σ ++ wo ao cJ f) [.ref (ad 0), .int x0, .int x1, .ref ao] (wd ad cG cZ σ' ++ wo ao cJ (vp_updL f 0 z.toInt64)) (some (.int (nI 0))) := by
  refine gW_of (by decide) (Nat.le_of_ble_eq_true rfl) ?_
  intro p e s m below meth c A ls hC hA hE htab hI hl
  obtain ⟨hx, hb, hr, hlk, hown, hml, hg, hK⟩ := hC
  have hown : s.vm.findClass "GroupBitmapsLaw" = some m.cls := hown
  have hl : lv_has ls 5 [(0, .ref (ad 0)), (1, .int x0), (2, .int x1), (3, .ref ao)] := hl
  refine lv_aload_n hx hb d_LW_lay_0 rfl (lv_at hl 3 rfl) ?_
  refine lv_iconst (v := nI 0) hx hb d_LW_lay_1 (by decide) ?_
  refine lv_aload_n hx hb d_LW_lay_2 rfl (lv_at hl 0 rfl) ?_
  refine lv_iload_n hx hb d_LW_lay_3 rfl (lv_at hl 1 rfl) ?_
  refine lv_iload_n hx hb d_LW_lay_4 rfl (lv_at hl 2 rfl) ?_
  refine g_callVE (own := "GroupBitmapsLaw") (C := "GroupBitmaps") (T := F_GB) (N := 5) (k := 2) (q0 := 0) (ci := 0) (a := ad 0) (As := [.int x0, .int x1]) (rest := [.int (nI 0), .ref ao]) ((gMetE.G hM).frame (wo ao cJ f)) hE hx hb hml hown hg hK hI hA kw_123 kw_124 kw_125 kw_1 kw_126 ky_GB_lay ⟨Nat.le_of_ble_eq_true rfl, Nat.le_of_ble_eq_true rfl⟩ rfl rfl (fr_l wd_GB) rfl rfl hl.1 (Nat.le_of_ble_eq_true rfl) ⟨Nat.zero_le _, Nat.zero_le _⟩ d_LW_lay_5 rfl rfl (fun H locs hI => ?_)
  refine lv_i2l (v := z.toInt64) hx hb d_LW_lay_8 rfl ?_
  refine g_last (ws' := wd ad cG cZ σ' ++ wo ao cJ (vp_updL f 0 z.toInt64)) (i := 0) hx hb hK hI 22 3 wo_at rfl (by decide) (by decide) wo_set d_LW_lay_9 (fun H locs hI => ?_)
  refine lv_goto (tgt := 17) hx hb d_LW_lay_10 (by decide) ?_
  refine lv_iconst (v := nI 0) hx hb d_LW_lay_17 (by decide) ?_
  exact g_ri1 hx hb hr hlk hI (rfl) (Nat.le_of_ble_eq_true rfl) (Nat.le_of_ble_eq_true rfl) d_LW_lay_18
set_option maxHeartbeats 4000000 in
set_option maxRecDepth 100000 in
theorem w_lay_1 {l : Launch} {D : va_G} {cG cZ cI cJ : ClassId} {ad : Nat → Nat} {ao : Nat} {f : Nat → Int64} {σ σ' : gS}  {x0 : Int32} {x1 : Int32}  (hM : gThr l D (gT cG cZ cI cJ) y_GB_lay b_GB_lay 3 (some .int) ({ frames := 8, cells := 1, slots := 6, locals := 140 }) (wd ad cG cZ σ) [.ref (ad 0), .int x0, .int x1] "java/lang/IllegalArgumentException") : gG l D (gT cG cZ cI cJ) (.codeWith y_LW_lay b_LW_lay 5 (some .int) [(0, 10, 13, 13)]) y_LW_lay ({ frames := 9, cells := 1, slots := 6, locals := 162 }) 1 6 (wd ad cG cZ σ ++ wo ao cJ f) [.ref (ad 0), .int x0, .int x1, .ref ao] (wd ad cG cZ σ ++ wo ao cJ f) (some (.int (nI 1))) := by
  refine gW_of (by decide) (Nat.le_of_ble_eq_true rfl) ?_
  intro p e s m below meth c A ls hC hA hE htab hI hl
  obtain ⟨hx, hb, hr, hlk, hown, hml, hg, hK⟩ := hC
  have hown : s.vm.findClass "GroupBitmapsLaw" = some m.cls := hown
  have hl : lv_has ls 5 [(0, .ref (ad 0)), (1, .int x0), (2, .int x1), (3, .ref ao)] := hl
  refine lv_aload_n hx hb d_LW_lay_0 rfl (lv_at hl 3 rfl) ?_
  refine lv_iconst (v := nI 0) hx hb d_LW_lay_1 (by decide) ?_
  refine lv_aload_n hx hb d_LW_lay_2 rfl (lv_at hl 0 rfl) ?_
  refine lv_iload_n hx hb d_LW_lay_3 rfl (lv_at hl 1 rfl) ?_
  refine lv_iload_n hx hb d_LW_lay_4 rfl (lv_at hl 2 rfl) ?_
  refine g_callT (own := "GroupBitmapsLaw") (C := "GroupBitmaps") (E := "java/lang/IllegalArgumentException") (T := F_GB) (N := 5) (k := 2) (q0 := 0) (ci := 0) (a := ad 0) (As := [.int x0, .int x1]) (rest := [.int (nI 0), .ref ao]) (pre := []) (post := []) (st9 := 0) (en9 := 10) (hp := 13) (ec := 13) (hM.frame (wo ao cJ f)) hE hx hb hml hown hg hK hI hA kw_123 kw_124 kw_125 kw_1 kw_126 ky_GB_lay ⟨Nat.le_of_ble_eq_true rfl, Nat.le_of_ble_eq_true rfl⟩ rfl rfl ⟨Nat.le_of_ble_eq_true rfl, Nat.le_of_ble_eq_true rfl⟩ (fr_l wd_GB) rfl rfl hl.1 (Nat.le_of_ble_eq_true rfl) d_LW_lay_5 htab ⟨by decide, by decide⟩ (by decide) kw_122 kg_IAE (by intro z hz; cases hz) rfl (fun H locs q hI => ?_)
  refine lv_astore (lv' := [(4, .ref q), (0, .ref (ad 0)), (1, .int x0), (2, .int x1), (3, .ref ao)]) hx hb d_LW_lay_13 hl (by decide) rfl (fun ls hl => ?_)
  refine lv_iconst (v := nI 1) hx hb d_LW_lay_15 (by decide) ?_
  exact g_ri1 hx hb hr hlk hI (rfl) (Nat.le_of_ble_eq_true rfl) (Nat.le_of_ble_eq_true rfl) d_LW_lay_16
set_option maxHeartbeats 4000000 in
set_option maxRecDepth 100000 in
theorem w_reserve {l : Launch} {D : va_G} {cG cZ cI cJ : ClassId} {ad : Nat → Nat} {ao : Nat} {f : Nat → Int64} {σ σ' : gS} {z : Int32} {x0 : Int32}  (hM : gMetE l D (gT cG cZ cI cJ) y_GB_reserve b_GB_reserve 2 (some .int) ({ frames := 8, cells := 0, slots := 0, locals := 140 }) (wd ad cG cZ σ) [.ref (ad 0), .int x0] (wd ad cG cZ σ') (some (.int z))) : gG l D (gT cG cZ cI cJ) (.codeWith y_LW_reserve b_LW_reserve 4 (some .int) [(0, 9, 12, 13)]) y_LW_reserve ({ frames := 9, cells := 1, slots := 6, locals := 161 }) 1 6 (wd ad cG cZ σ ++ wo ao cJ f) [.ref (ad 0), .int x0, .ref ao] (wd ad cG cZ σ' ++ wo ao cJ (vp_updL f 0 z.toInt64)) (some (.int (nI 0))) := by
  refine gW_of (by decide) (Nat.le_of_ble_eq_true rfl) ?_
  intro p e s m below meth c A ls hC hA hE htab hI hl
  obtain ⟨hx, hb, hr, hlk, hown, hml, hg, hK⟩ := hC
  have hown : s.vm.findClass "GroupBitmapsLaw" = some m.cls := hown
  have hl : lv_has ls 4 [(0, .ref (ad 0)), (1, .int x0), (2, .ref ao)] := hl
  refine lv_aload_n hx hb d_LW_reserve_0 rfl (lv_at hl 2 rfl) ?_
  refine lv_iconst (v := nI 0) hx hb d_LW_reserve_1 (by decide) ?_
  refine lv_aload_n hx hb d_LW_reserve_2 rfl (lv_at hl 0 rfl) ?_
  refine lv_iload_n hx hb d_LW_reserve_3 rfl (lv_at hl 1 rfl) ?_
  refine g_callVE (own := "GroupBitmapsLaw") (C := "GroupBitmaps") (T := F_GB) (N := 5) (k := 1) (q0 := 0) (ci := 0) (a := ad 0) (As := [.int x0]) (rest := [.int (nI 0), .ref ao]) ((gMetE.G hM).frame (wo ao cJ f)) hE hx hb hml hown hg hK hI hA kw_203 kw_204 kw_205 kw_1 kw_206 ky_GB_reserve ⟨Nat.le_of_ble_eq_true rfl, Nat.le_of_ble_eq_true rfl⟩ rfl rfl (fr_l wd_GB) rfl rfl hl.1 (Nat.le_of_ble_eq_true rfl) ⟨Nat.zero_le _, Nat.zero_le _⟩ d_LW_reserve_4 rfl rfl (fun H locs hI => ?_)
  refine lv_i2l (v := z.toInt64) hx hb d_LW_reserve_7 rfl ?_
  refine g_last (ws' := wd ad cG cZ σ' ++ wo ao cJ (vp_updL f 0 z.toInt64)) (i := 0) hx hb hK hI 22 3 wo_at rfl (by decide) (by decide) wo_set d_LW_reserve_8 (fun H locs hI => ?_)
  refine lv_goto (tgt := 15) hx hb d_LW_reserve_9 (by decide) ?_
  refine lv_iconst (v := nI 0) hx hb d_LW_reserve_15 (by decide) ?_
  exact g_ri1 hx hb hr hlk hI (rfl) (Nat.le_of_ble_eq_true rfl) (Nat.le_of_ble_eq_true rfl) d_LW_reserve_16
set_option maxHeartbeats 4000000 in
set_option maxRecDepth 100000 in
theorem w_reserve_1 {l : Launch} {D : va_G} {cG cZ cI cJ : ClassId} {ad : Nat → Nat} {ao : Nat} {f : Nat → Int64} {σ σ' : gS}  {x0 : Int32}  (hM : gThr l D (gT cG cZ cI cJ) y_GB_reserve b_GB_reserve 2 (some .int) ({ frames := 8, cells := 1, slots := 6, locals := 140 }) (wd ad cG cZ σ) [.ref (ad 0), .int x0] "java/lang/IllegalArgumentException") : gG l D (gT cG cZ cI cJ) (.codeWith y_LW_reserve b_LW_reserve 4 (some .int) [(0, 9, 12, 13)]) y_LW_reserve ({ frames := 9, cells := 1, slots := 6, locals := 161 }) 1 6 (wd ad cG cZ σ ++ wo ao cJ f) [.ref (ad 0), .int x0, .ref ao] (wd ad cG cZ σ ++ wo ao cJ f) (some (.int (nI 1))) := by
  refine gW_of (by decide) (Nat.le_of_ble_eq_true rfl) ?_
  intro p e s m below meth c A ls hC hA hE htab hI hl
  obtain ⟨hx, hb, hr, hlk, hown, hml, hg, hK⟩ := hC
  have hown : s.vm.findClass "GroupBitmapsLaw" = some m.cls := hown
  have hl : lv_has ls 4 [(0, .ref (ad 0)), (1, .int x0), (2, .ref ao)] := hl
  refine lv_aload_n hx hb d_LW_reserve_0 rfl (lv_at hl 2 rfl) ?_
  refine lv_iconst (v := nI 0) hx hb d_LW_reserve_1 (by decide) ?_
  refine lv_aload_n hx hb d_LW_reserve_2 rfl (lv_at hl 0 rfl) ?_
  refine lv_iload_n hx hb d_LW_reserve_3 rfl (lv_at hl 1 rfl) ?_
  refine g_callT (own := "GroupBitmapsLaw") (C := "GroupBitmaps") (E := "java/lang/IllegalArgumentException") (T := F_GB) (N := 5) (k := 1) (q0 := 0) (ci := 0) (a := ad 0) (As := [.int x0]) (rest := [.int (nI 0), .ref ao]) (pre := []) (post := []) (st9 := 0) (en9 := 9) (hp := 12) (ec := 13) (hM.frame (wo ao cJ f)) hE hx hb hml hown hg hK hI hA kw_203 kw_204 kw_205 kw_1 kw_206 ky_GB_reserve ⟨Nat.le_of_ble_eq_true rfl, Nat.le_of_ble_eq_true rfl⟩ rfl rfl ⟨Nat.le_of_ble_eq_true rfl, Nat.le_of_ble_eq_true rfl⟩ (fr_l wd_GB) rfl rfl hl.1 (Nat.le_of_ble_eq_true rfl) d_LW_reserve_4 htab ⟨by decide, by decide⟩ (by decide) kw_122 kg_IAE (by intro z hz; cases hz) rfl (fun H locs q hI => ?_)
  refine lv_astore_n (lv' := [(3, .ref q), (0, .ref (ad 0)), (1, .int x0), (2, .ref ao)]) hx hb d_LW_reserve_12 rfl hl (by decide) rfl (fun ls hl => ?_)
  refine lv_iconst (v := nI 1) hx hb d_LW_reserve_13 (by decide) ?_
  exact g_ri1 hx hb hr hlk hI (rfl) (Nat.le_of_ble_eq_true rfl) (Nat.le_of_ble_eq_true rfl) d_LW_reserve_14
set_option maxHeartbeats 4000000 in
set_option maxRecDepth 100000 in
theorem w_take {l : Launch} {D : va_G} {cG cZ cI cJ : ClassId} {ad : Nat → Nat} {ao : Nat} {f : Nat → Int64} {σ σ' : gS} {z : Int32} {x0 : Int32} {x1 : Int32} {x2 : Bool}  (hM : gMetE l D (gT cG cZ cI cJ) y_GB_take b_GB_take 5 (some .int) ({ frames := 8, cells := 0, slots := 0, locals := 140 }) (wd ad cG cZ σ) [.ref (ad 0), .int x0, .int x1, .int (bI x2)] (wd ad cG cZ σ') (some (.int z))) : gG l D (gT cG cZ cI cJ) (.codeWith y_LW_take b_LW_take 6 (some .int) [(0, 12, 15, 13), (0, 12, 19, 23)]) y_LW_take ({ frames := 9, cells := 1, slots := 6, locals := 164 }) 1 6 (wd ad cG cZ σ ++ wo ao cJ f) [.ref (ad 0), .int x0, .int x1, .int (bI x2), .ref ao] (wd ad cG cZ σ' ++ wo ao cJ (vp_updL f 0 z.toInt64)) (some (.int (nI 0))) := by
  refine gW_of (by decide) (Nat.le_of_ble_eq_true rfl) ?_
  intro p e s m below meth c A ls hC hA hE htab hI hl
  obtain ⟨hx, hb, hr, hlk, hown, hml, hg, hK⟩ := hC
  have hown : s.vm.findClass "GroupBitmapsLaw" = some m.cls := hown
  have hl : lv_has ls 6 [(0, .ref (ad 0)), (1, .int x0), (2, .int x1), (3, .int (bI x2)), (4, .ref ao)] := hl
  refine lv_aload hx hb d_LW_take_0 (lv_at hl 4 rfl) ?_
  refine lv_iconst (v := nI 0) hx hb d_LW_take_2 (by decide) ?_
  refine lv_aload_n hx hb d_LW_take_3 rfl (lv_at hl 0 rfl) ?_
  refine lv_iload_n hx hb d_LW_take_4 rfl (lv_at hl 1 rfl) ?_
  refine lv_iload_n hx hb d_LW_take_5 rfl (lv_at hl 2 rfl) ?_
  refine lv_iload_n hx hb d_LW_take_6 rfl (lv_at hl 3 rfl) ?_
  refine g_callVE (own := "GroupBitmapsLaw") (C := "GroupBitmaps") (T := F_GB) (N := 5) (k := 3) (q0 := 0) (ci := 0) (a := ad 0) (As := [.int x0, .int x1, .int (bI x2)]) (rest := [.int (nI 0), .ref ao]) ((gMetE.G hM).frame (wo ao cJ f)) hE hx hb hml hown hg hK hI hA kw_219 kw_220 kw_221 kw_1 kw_222 ky_GB_take ⟨Nat.le_of_ble_eq_true rfl, Nat.le_of_ble_eq_true rfl⟩ rfl rfl (fr_l wd_GB) rfl rfl hl.1 (Nat.le_of_ble_eq_true rfl) ⟨Nat.zero_le _, Nat.zero_le _⟩ d_LW_take_7 rfl rfl (fun H locs hI => ?_)
  refine lv_i2l (v := z.toInt64) hx hb d_LW_take_10 rfl ?_
  refine g_last (ws' := wd ad cG cZ σ' ++ wo ao cJ (vp_updL f 0 z.toInt64)) (i := 0) hx hb hK hI 22 3 wo_at rfl (by decide) (by decide) wo_set d_LW_take_11 (fun H locs hI => ?_)
  refine lv_goto (tgt := 23) hx hb d_LW_take_12 (by decide) ?_
  refine lv_iconst (v := nI 0) hx hb d_LW_take_23 (by decide) ?_
  exact g_ri1 hx hb hr hlk hI (rfl) (Nat.le_of_ble_eq_true rfl) (Nat.le_of_ble_eq_true rfl) d_LW_take_24
set_option maxHeartbeats 4000000 in
set_option maxRecDepth 100000 in
theorem w_take_1 {l : Launch} {D : va_G} {cG cZ cI cJ : ClassId} {ad : Nat → Nat} {ao : Nat} {f : Nat → Int64} {σ σ' : gS}  {x0 : Int32} {x1 : Int32} {x2 : Bool}  (hM : gThr l D (gT cG cZ cI cJ) y_GB_take b_GB_take 5 (some .int) ({ frames := 8, cells := 1, slots := 6, locals := 140 }) (wd ad cG cZ σ) [.ref (ad 0), .int x0, .int x1, .int (bI x2)] "java/lang/IllegalArgumentException") : gG l D (gT cG cZ cI cJ) (.codeWith y_LW_take b_LW_take 6 (some .int) [(0, 12, 15, 13), (0, 12, 19, 23)]) y_LW_take ({ frames := 9, cells := 1, slots := 6, locals := 164 }) 1 6 (wd ad cG cZ σ ++ wo ao cJ f) [.ref (ad 0), .int x0, .int x1, .int (bI x2), .ref ao] (wd ad cG cZ σ ++ wo ao cJ f) (some (.int (nI 1))) := by
  refine gW_of (by decide) (Nat.le_of_ble_eq_true rfl) ?_
  intro p e s m below meth c A ls hC hA hE htab hI hl
  obtain ⟨hx, hb, hr, hlk, hown, hml, hg, hK⟩ := hC
  have hown : s.vm.findClass "GroupBitmapsLaw" = some m.cls := hown
  have hl : lv_has ls 6 [(0, .ref (ad 0)), (1, .int x0), (2, .int x1), (3, .int (bI x2)), (4, .ref ao)] := hl
  refine lv_aload hx hb d_LW_take_0 (lv_at hl 4 rfl) ?_
  refine lv_iconst (v := nI 0) hx hb d_LW_take_2 (by decide) ?_
  refine lv_aload_n hx hb d_LW_take_3 rfl (lv_at hl 0 rfl) ?_
  refine lv_iload_n hx hb d_LW_take_4 rfl (lv_at hl 1 rfl) ?_
  refine lv_iload_n hx hb d_LW_take_5 rfl (lv_at hl 2 rfl) ?_
  refine lv_iload_n hx hb d_LW_take_6 rfl (lv_at hl 3 rfl) ?_
  refine g_callT (own := "GroupBitmapsLaw") (C := "GroupBitmaps") (E := "java/lang/IllegalArgumentException") (T := F_GB) (N := 5) (k := 3) (q0 := 0) (ci := 0) (a := ad 0) (As := [.int x0, .int x1, .int (bI x2)]) (rest := [.int (nI 0), .ref ao]) (pre := []) (post := [(0, 12, 19, 23)]) (st9 := 0) (en9 := 12) (hp := 15) (ec := 13) (hM.frame (wo ao cJ f)) hE hx hb hml hown hg hK hI hA kw_219 kw_220 kw_221 kw_1 kw_222 ky_GB_take ⟨Nat.le_of_ble_eq_true rfl, Nat.le_of_ble_eq_true rfl⟩ rfl rfl ⟨Nat.le_of_ble_eq_true rfl, Nat.le_of_ble_eq_true rfl⟩ (fr_l wd_GB) rfl rfl hl.1 (Nat.le_of_ble_eq_true rfl) d_LW_take_7 htab ⟨by decide, by decide⟩ (by decide) kw_122 kg_IAE (by intro z hz; cases hz) rfl (fun H locs q hI => ?_)
  refine lv_astore (lv' := [(5, .ref q), (0, .ref (ad 0)), (1, .int x0), (2, .int x1), (3, .int (bI x2)), (4, .ref ao)]) hx hb d_LW_take_15 hl (by decide) rfl (fun ls hl => ?_)
  refine lv_iconst (v := nI 1) hx hb d_LW_take_17 (by decide) ?_
  exact g_ri1 hx hb hr hlk hI (rfl) (Nat.le_of_ble_eq_true rfl) (Nat.le_of_ble_eq_true rfl) d_LW_take_18
set_option maxHeartbeats 4000000 in
set_option maxRecDepth 100000 in
theorem w_take_2 {l : Launch} {D : va_G} {cG cZ cI cJ : ClassId} {ad : Nat → Nat} {ao : Nat} {f : Nat → Int64} {σ σ' : gS}  {x0 : Int32} {x1 : Int32} {x2 : Bool}  (hM : gThr l D (gT cG cZ cI cJ) y_GB_take b_GB_take 5 (some .int) ({ frames := 8, cells := 1, slots := 6, locals := 140 }) (wd ad cG cZ σ) [.ref (ad 0), .int x0, .int x1, .int (bI x2)] "java/lang/IllegalStateException") : gG l D (gT cG cZ cI cJ) (.codeWith y_LW_take b_LW_take 6 (some .int) [(0, 12, 15, 13), (0, 12, 19, 23)]) y_LW_take ({ frames := 9, cells := 1, slots := 6, locals := 164 }) 1 6 (wd ad cG cZ σ ++ wo ao cJ f) [.ref (ad 0), .int x0, .int x1, .int (bI x2), .ref ao] (wd ad cG cZ σ ++ wo ao cJ f) (some (.int (nI 2))) := by
  refine gW_of (by decide) (Nat.le_of_ble_eq_true rfl) ?_
  intro p e s m below meth c A ls hC hA hE htab hI hl
  obtain ⟨hx, hb, hr, hlk, hown, hml, hg, hK⟩ := hC
  have hown : s.vm.findClass "GroupBitmapsLaw" = some m.cls := hown
  have hl : lv_has ls 6 [(0, .ref (ad 0)), (1, .int x0), (2, .int x1), (3, .int (bI x2)), (4, .ref ao)] := hl
  refine lv_aload hx hb d_LW_take_0 (lv_at hl 4 rfl) ?_
  refine lv_iconst (v := nI 0) hx hb d_LW_take_2 (by decide) ?_
  refine lv_aload_n hx hb d_LW_take_3 rfl (lv_at hl 0 rfl) ?_
  refine lv_iload_n hx hb d_LW_take_4 rfl (lv_at hl 1 rfl) ?_
  refine lv_iload_n hx hb d_LW_take_5 rfl (lv_at hl 2 rfl) ?_
  refine lv_iload_n hx hb d_LW_take_6 rfl (lv_at hl 3 rfl) ?_
  refine g_callT (own := "GroupBitmapsLaw") (C := "GroupBitmaps") (E := "java/lang/IllegalStateException") (T := F_GB) (N := 5) (k := 3) (q0 := 0) (ci := 0) (a := ad 0) (As := [.int x0, .int x1, .int (bI x2)]) (rest := [.int (nI 0), .ref ao]) (pre := [(0, 12, 15, 13)]) (post := []) (st9 := 0) (en9 := 12) (hp := 19) (ec := 23) (hM.frame (wo ao cJ f)) hE hx hb hml hown hg hK hI hA kw_219 kw_220 kw_221 kw_1 kw_222 ky_GB_take ⟨Nat.le_of_ble_eq_true rfl, Nat.le_of_ble_eq_true rfl⟩ rfl rfl ⟨Nat.le_of_ble_eq_true rfl, Nat.le_of_ble_eq_true rfl⟩ (fr_l wd_GB) rfl rfl hl.1 (Nat.le_of_ble_eq_true rfl) d_LW_take_7 htab ⟨by decide, by decide⟩ (by decide) kw_218 kg_ISE (by intro z hz; cases List.mem_singleton.mp hz; obtain ⟨ci, ca, n1, n2, n3⟩ := hE.2.2.2.2.2; exact ⟨by decide, by decide, by decide, "java/lang/IllegalArgumentException", kw_122, ci, ca, n1, n2, n3⟩) rfl (fun H locs q hI => ?_)
  refine lv_astore (lv' := [(5, .ref q), (0, .ref (ad 0)), (1, .int x0), (2, .int x1), (3, .int (bI x2)), (4, .ref ao)]) hx hb d_LW_take_19 hl (by decide) rfl (fun ls hl => ?_)
  refine lv_iconst (v := nI 2) hx hb d_LW_take_21 (by decide) ?_
  exact g_ri1 hx hb hr hlk hI (rfl) (Nat.le_of_ble_eq_true rfl) (Nat.le_of_ble_eq_true rfl) d_LW_take_22
set_option maxHeartbeats 4000000 in
set_option maxRecDepth 100000 in
theorem w_give {l : Launch} {D : va_G} {cG cZ cI cJ : ClassId} {ad : Nat → Nat} {ao : Nat} {f : Nat → Int64} {σ σ' : gS} {z : Int32} {x0 : Int32} {x1 : Int32}  (hM : gMetE l D (gT cG cZ cI cJ) y_GB_give b_GB_give 4 (some .int) ({ frames := 8, cells := 0, slots := 0, locals := 140 }) (wd ad cG cZ σ) [.ref (ad 0), .int x0, .int x1] (wd ad cG cZ σ') (some (.int z))) : gG l D (gT cG cZ cI cJ) (.codeWith y_LW_give b_LW_give 5 (some .int) [(0, 10, 13, 13), (0, 10, 17, 23)]) y_LW_give ({ frames := 9, cells := 1, slots := 6, locals := 163 }) 1 6 (wd ad cG cZ σ ++ wo ao cJ f) [.ref (ad 0), .int x0, .int x1, .ref ao] (wd ad cG cZ σ' ++ wo ao cJ (vp_updL f 0 z.toInt64)) (some (.int (nI 0))) := by
  refine gW_of (by decide) (Nat.le_of_ble_eq_true rfl) ?_
  intro p e s m below meth c A ls hC hA hE htab hI hl
  obtain ⟨hx, hb, hr, hlk, hown, hml, hg, hK⟩ := hC
  have hown : s.vm.findClass "GroupBitmapsLaw" = some m.cls := hown
  have hl : lv_has ls 5 [(0, .ref (ad 0)), (1, .int x0), (2, .int x1), (3, .ref ao)] := hl
  refine lv_aload_n hx hb d_LW_give_0 rfl (lv_at hl 3 rfl) ?_
  refine lv_iconst (v := nI 0) hx hb d_LW_give_1 (by decide) ?_
  refine lv_aload_n hx hb d_LW_give_2 rfl (lv_at hl 0 rfl) ?_
  refine lv_iload_n hx hb d_LW_give_3 rfl (lv_at hl 1 rfl) ?_
  refine lv_iload_n hx hb d_LW_give_4 rfl (lv_at hl 2 rfl) ?_
  refine g_callVE (own := "GroupBitmapsLaw") (C := "GroupBitmaps") (T := F_GB) (N := 5) (k := 2) (q0 := 0) (ci := 0) (a := ad 0) (As := [.int x0, .int x1]) (rest := [.int (nI 0), .ref ao]) ((gMetE.G hM).frame (wo ao cJ f)) hE hx hb hml hown hg hK hI hA kw_296 kw_297 kw_298 kw_1 kw_299 ky_GB_give ⟨Nat.le_of_ble_eq_true rfl, Nat.le_of_ble_eq_true rfl⟩ rfl rfl (fr_l wd_GB) rfl rfl hl.1 (Nat.le_of_ble_eq_true rfl) ⟨Nat.zero_le _, Nat.zero_le _⟩ d_LW_give_5 rfl rfl (fun H locs hI => ?_)
  refine lv_i2l (v := z.toInt64) hx hb d_LW_give_8 rfl ?_
  refine g_last (ws' := wd ad cG cZ σ' ++ wo ao cJ (vp_updL f 0 z.toInt64)) (i := 0) hx hb hK hI 22 3 wo_at rfl (by decide) (by decide) wo_set d_LW_give_9 (fun H locs hI => ?_)
  refine lv_goto (tgt := 21) hx hb d_LW_give_10 (by decide) ?_
  refine lv_iconst (v := nI 0) hx hb d_LW_give_21 (by decide) ?_
  exact g_ri1 hx hb hr hlk hI (rfl) (Nat.le_of_ble_eq_true rfl) (Nat.le_of_ble_eq_true rfl) d_LW_give_22
set_option maxHeartbeats 4000000 in
set_option maxRecDepth 100000 in
theorem w_give_1 {l : Launch} {D : va_G} {cG cZ cI cJ : ClassId} {ad : Nat → Nat} {ao : Nat} {f : Nat → Int64} {σ σ' : gS}  {x0 : Int32} {x1 : Int32}  (hM : gThr l D (gT cG cZ cI cJ) y_GB_give b_GB_give 4 (some .int) ({ frames := 8, cells := 1, slots := 6, locals := 140 }) (wd ad cG cZ σ) [.ref (ad 0), .int x0, .int x1] "java/lang/IllegalArgumentException") : gG l D (gT cG cZ cI cJ) (.codeWith y_LW_give b_LW_give 5 (some .int) [(0, 10, 13, 13), (0, 10, 17, 23)]) y_LW_give ({ frames := 9, cells := 1, slots := 6, locals := 163 }) 1 6 (wd ad cG cZ σ ++ wo ao cJ f) [.ref (ad 0), .int x0, .int x1, .ref ao] (wd ad cG cZ σ ++ wo ao cJ f) (some (.int (nI 1))) := by
  refine gW_of (by decide) (Nat.le_of_ble_eq_true rfl) ?_
  intro p e s m below meth c A ls hC hA hE htab hI hl
  obtain ⟨hx, hb, hr, hlk, hown, hml, hg, hK⟩ := hC
  have hown : s.vm.findClass "GroupBitmapsLaw" = some m.cls := hown
  have hl : lv_has ls 5 [(0, .ref (ad 0)), (1, .int x0), (2, .int x1), (3, .ref ao)] := hl
  refine lv_aload_n hx hb d_LW_give_0 rfl (lv_at hl 3 rfl) ?_
  refine lv_iconst (v := nI 0) hx hb d_LW_give_1 (by decide) ?_
  refine lv_aload_n hx hb d_LW_give_2 rfl (lv_at hl 0 rfl) ?_
  refine lv_iload_n hx hb d_LW_give_3 rfl (lv_at hl 1 rfl) ?_
  refine lv_iload_n hx hb d_LW_give_4 rfl (lv_at hl 2 rfl) ?_
  refine g_callT (own := "GroupBitmapsLaw") (C := "GroupBitmaps") (E := "java/lang/IllegalArgumentException") (T := F_GB) (N := 5) (k := 2) (q0 := 0) (ci := 0) (a := ad 0) (As := [.int x0, .int x1]) (rest := [.int (nI 0), .ref ao]) (pre := []) (post := [(0, 10, 17, 23)]) (st9 := 0) (en9 := 10) (hp := 13) (ec := 13) (hM.frame (wo ao cJ f)) hE hx hb hml hown hg hK hI hA kw_296 kw_297 kw_298 kw_1 kw_299 ky_GB_give ⟨Nat.le_of_ble_eq_true rfl, Nat.le_of_ble_eq_true rfl⟩ rfl rfl ⟨Nat.le_of_ble_eq_true rfl, Nat.le_of_ble_eq_true rfl⟩ (fr_l wd_GB) rfl rfl hl.1 (Nat.le_of_ble_eq_true rfl) d_LW_give_5 htab ⟨by decide, by decide⟩ (by decide) kw_122 kg_IAE (by intro z hz; cases hz) rfl (fun H locs q hI => ?_)
  refine lv_astore (lv' := [(4, .ref q), (0, .ref (ad 0)), (1, .int x0), (2, .int x1), (3, .ref ao)]) hx hb d_LW_give_13 hl (by decide) rfl (fun ls hl => ?_)
  refine lv_iconst (v := nI 1) hx hb d_LW_give_15 (by decide) ?_
  exact g_ri1 hx hb hr hlk hI (rfl) (Nat.le_of_ble_eq_true rfl) (Nat.le_of_ble_eq_true rfl) d_LW_give_16
set_option maxHeartbeats 4000000 in
set_option maxRecDepth 100000 in
theorem w_give_2 {l : Launch} {D : va_G} {cG cZ cI cJ : ClassId} {ad : Nat → Nat} {ao : Nat} {f : Nat → Int64} {σ σ' : gS}  {x0 : Int32} {x1 : Int32}  (hM : gThr l D (gT cG cZ cI cJ) y_GB_give b_GB_give 4 (some .int) ({ frames := 8, cells := 1, slots := 6, locals := 140 }) (wd ad cG cZ σ) [.ref (ad 0), .int x0, .int x1] "java/lang/IllegalStateException") : gG l D (gT cG cZ cI cJ) (.codeWith y_LW_give b_LW_give 5 (some .int) [(0, 10, 13, 13), (0, 10, 17, 23)]) y_LW_give ({ frames := 9, cells := 1, slots := 6, locals := 163 }) 1 6 (wd ad cG cZ σ ++ wo ao cJ f) [.ref (ad 0), .int x0, .int x1, .ref ao] (wd ad cG cZ σ ++ wo ao cJ f) (some (.int (nI 2))) := by
  refine gW_of (by decide) (Nat.le_of_ble_eq_true rfl) ?_
  intro p e s m below meth c A ls hC hA hE htab hI hl
  obtain ⟨hx, hb, hr, hlk, hown, hml, hg, hK⟩ := hC
  have hown : s.vm.findClass "GroupBitmapsLaw" = some m.cls := hown
  have hl : lv_has ls 5 [(0, .ref (ad 0)), (1, .int x0), (2, .int x1), (3, .ref ao)] := hl
  refine lv_aload_n hx hb d_LW_give_0 rfl (lv_at hl 3 rfl) ?_
  refine lv_iconst (v := nI 0) hx hb d_LW_give_1 (by decide) ?_
  refine lv_aload_n hx hb d_LW_give_2 rfl (lv_at hl 0 rfl) ?_
  refine lv_iload_n hx hb d_LW_give_3 rfl (lv_at hl 1 rfl) ?_
  refine lv_iload_n hx hb d_LW_give_4 rfl (lv_at hl 2 rfl) ?_
  refine g_callT (own := "GroupBitmapsLaw") (C := "GroupBitmaps") (E := "java/lang/IllegalStateException") (T := F_GB) (N := 5) (k := 2) (q0 := 0) (ci := 0) (a := ad 0) (As := [.int x0, .int x1]) (rest := [.int (nI 0), .ref ao]) (pre := [(0, 10, 13, 13)]) (post := []) (st9 := 0) (en9 := 10) (hp := 17) (ec := 23) (hM.frame (wo ao cJ f)) hE hx hb hml hown hg hK hI hA kw_296 kw_297 kw_298 kw_1 kw_299 ky_GB_give ⟨Nat.le_of_ble_eq_true rfl, Nat.le_of_ble_eq_true rfl⟩ rfl rfl ⟨Nat.le_of_ble_eq_true rfl, Nat.le_of_ble_eq_true rfl⟩ (fr_l wd_GB) rfl rfl hl.1 (Nat.le_of_ble_eq_true rfl) d_LW_give_5 htab ⟨by decide, by decide⟩ (by decide) kw_218 kg_ISE (by intro z hz; cases List.mem_singleton.mp hz; obtain ⟨ci, ca, n1, n2, n3⟩ := hE.2.2.2.2.2; exact ⟨by decide, by decide, by decide, "java/lang/IllegalArgumentException", kw_122, ci, ca, n1, n2, n3⟩) rfl (fun H locs q hI => ?_)
  refine lv_astore (lv' := [(4, .ref q), (0, .ref (ad 0)), (1, .int x0), (2, .int x1), (3, .ref ao)]) hx hb d_LW_give_17 hl (by decide) rfl (fun ls hl => ?_)
  refine lv_iconst (v := nI 2) hx hb d_LW_give_19 (by decide) ?_
  exact g_ri1 hx hb hr hlk hI (rfl) (Nat.le_of_ble_eq_true rfl) (Nat.le_of_ble_eq_true rfl) d_LW_give_20
set_option maxHeartbeats 4000000 in
set_option maxRecDepth 100000 in
theorem w_takeFile {l : Launch} {D : va_G} {cG cZ cI cJ : ClassId} {ad : Nat → Nat} {ao : Nat} {f : Nat → Int64} {σ σ' : gS} {z : Int32} {x0 : Int32} {x1 : Bool}  (hM : gMetE l D (gT cG cZ cI cJ) y_GB_takeFile b_GB_takeFile 4 (some .int) ({ frames := 8, cells := 0, slots := 0, locals := 140 }) (wd ad cG cZ σ) [.ref (ad 0), .int x0, .int (bI x1)] (wd ad cG cZ σ') (some (.int z))) : gG l D (gT cG cZ cI cJ) (.codeWith y_LW_takeFile b_LW_takeFile 5 (some .int) [(0, 10, 13, 13), (0, 10, 17, 23)]) y_LW_takeFile ({ frames := 9, cells := 1, slots := 6, locals := 163 }) 1 6 (wd ad cG cZ σ ++ wo ao cJ f) [.ref (ad 0), .int x0, .int (bI x1), .ref ao] (wd ad cG cZ σ' ++ wo ao cJ (vp_updL f 0 z.toInt64)) (some (.int (nI 0))) := by
  refine gW_of (by decide) (Nat.le_of_ble_eq_true rfl) ?_
  intro p e s m below meth c A ls hC hA hE htab hI hl
  obtain ⟨hx, hb, hr, hlk, hown, hml, hg, hK⟩ := hC
  have hown : s.vm.findClass "GroupBitmapsLaw" = some m.cls := hown
  have hl : lv_has ls 5 [(0, .ref (ad 0)), (1, .int x0), (2, .int (bI x1)), (3, .ref ao)] := hl
  refine lv_aload_n hx hb d_LW_takeFile_0 rfl (lv_at hl 3 rfl) ?_
  refine lv_iconst (v := nI 0) hx hb d_LW_takeFile_1 (by decide) ?_
  refine lv_aload_n hx hb d_LW_takeFile_2 rfl (lv_at hl 0 rfl) ?_
  refine lv_iload_n hx hb d_LW_takeFile_3 rfl (lv_at hl 1 rfl) ?_
  refine lv_iload_n hx hb d_LW_takeFile_4 rfl (lv_at hl 2 rfl) ?_
  refine g_callVE (own := "GroupBitmapsLaw") (C := "GroupBitmaps") (T := F_GB) (N := 5) (k := 2) (q0 := 0) (ci := 0) (a := ad 0) (As := [.int x0, .int (bI x1)]) (rest := [.int (nI 0), .ref ao]) ((gMetE.G hM).frame (wo ao cJ f)) hE hx hb hml hown hg hK hI hA kw_315 kw_316 kw_317 kw_1 kw_318 ky_GB_takeFile ⟨Nat.le_of_ble_eq_true rfl, Nat.le_of_ble_eq_true rfl⟩ rfl rfl (fr_l wd_GB) rfl rfl hl.1 (Nat.le_of_ble_eq_true rfl) ⟨Nat.zero_le _, Nat.zero_le _⟩ d_LW_takeFile_5 rfl rfl (fun H locs hI => ?_)
  refine lv_i2l (v := z.toInt64) hx hb d_LW_takeFile_8 rfl ?_
  refine g_last (ws' := wd ad cG cZ σ' ++ wo ao cJ (vp_updL f 0 z.toInt64)) (i := 0) hx hb hK hI 22 3 wo_at rfl (by decide) (by decide) wo_set d_LW_takeFile_9 (fun H locs hI => ?_)
  refine lv_goto (tgt := 21) hx hb d_LW_takeFile_10 (by decide) ?_
  refine lv_iconst (v := nI 0) hx hb d_LW_takeFile_21 (by decide) ?_
  exact g_ri1 hx hb hr hlk hI (rfl) (Nat.le_of_ble_eq_true rfl) (Nat.le_of_ble_eq_true rfl) d_LW_takeFile_22
set_option maxHeartbeats 4000000 in
set_option maxRecDepth 100000 in
theorem w_takeFile_1 {l : Launch} {D : va_G} {cG cZ cI cJ : ClassId} {ad : Nat → Nat} {ao : Nat} {f : Nat → Int64} {σ σ' : gS}  {x0 : Int32} {x1 : Bool}  (hM : gThr l D (gT cG cZ cI cJ) y_GB_takeFile b_GB_takeFile 4 (some .int) ({ frames := 8, cells := 1, slots := 6, locals := 140 }) (wd ad cG cZ σ) [.ref (ad 0), .int x0, .int (bI x1)] "java/lang/IllegalArgumentException") : gG l D (gT cG cZ cI cJ) (.codeWith y_LW_takeFile b_LW_takeFile 5 (some .int) [(0, 10, 13, 13), (0, 10, 17, 23)]) y_LW_takeFile ({ frames := 9, cells := 1, slots := 6, locals := 163 }) 1 6 (wd ad cG cZ σ ++ wo ao cJ f) [.ref (ad 0), .int x0, .int (bI x1), .ref ao] (wd ad cG cZ σ ++ wo ao cJ f) (some (.int (nI 1))) := by
  refine gW_of (by decide) (Nat.le_of_ble_eq_true rfl) ?_
  intro p e s m below meth c A ls hC hA hE htab hI hl
  obtain ⟨hx, hb, hr, hlk, hown, hml, hg, hK⟩ := hC
  have hown : s.vm.findClass "GroupBitmapsLaw" = some m.cls := hown
  have hl : lv_has ls 5 [(0, .ref (ad 0)), (1, .int x0), (2, .int (bI x1)), (3, .ref ao)] := hl
  refine lv_aload_n hx hb d_LW_takeFile_0 rfl (lv_at hl 3 rfl) ?_
  refine lv_iconst (v := nI 0) hx hb d_LW_takeFile_1 (by decide) ?_
  refine lv_aload_n hx hb d_LW_takeFile_2 rfl (lv_at hl 0 rfl) ?_
  refine lv_iload_n hx hb d_LW_takeFile_3 rfl (lv_at hl 1 rfl) ?_
  refine lv_iload_n hx hb d_LW_takeFile_4 rfl (lv_at hl 2 rfl) ?_
  refine g_callT (own := "GroupBitmapsLaw") (C := "GroupBitmaps") (E := "java/lang/IllegalArgumentException") (T := F_GB) (N := 5) (k := 2) (q0 := 0) (ci := 0) (a := ad 0) (As := [.int x0, .int (bI x1)]) (rest := [.int (nI 0), .ref ao]) (pre := []) (post := [(0, 10, 17, 23)]) (st9 := 0) (en9 := 10) (hp := 13) (ec := 13) (hM.frame (wo ao cJ f)) hE hx hb hml hown hg hK hI hA kw_315 kw_316 kw_317 kw_1 kw_318 ky_GB_takeFile ⟨Nat.le_of_ble_eq_true rfl, Nat.le_of_ble_eq_true rfl⟩ rfl rfl ⟨Nat.le_of_ble_eq_true rfl, Nat.le_of_ble_eq_true rfl⟩ (fr_l wd_GB) rfl rfl hl.1 (Nat.le_of_ble_eq_true rfl) d_LW_takeFile_5 htab ⟨by decide, by decide⟩ (by decide) kw_122 kg_IAE (by intro z hz; cases hz) rfl (fun H locs q hI => ?_)
  refine lv_astore (lv' := [(4, .ref q), (0, .ref (ad 0)), (1, .int x0), (2, .int (bI x1)), (3, .ref ao)]) hx hb d_LW_takeFile_13 hl (by decide) rfl (fun ls hl => ?_)
  refine lv_iconst (v := nI 1) hx hb d_LW_takeFile_15 (by decide) ?_
  exact g_ri1 hx hb hr hlk hI (rfl) (Nat.le_of_ble_eq_true rfl) (Nat.le_of_ble_eq_true rfl) d_LW_takeFile_16
set_option maxHeartbeats 4000000 in
set_option maxRecDepth 100000 in
theorem w_takeFile_2 {l : Launch} {D : va_G} {cG cZ cI cJ : ClassId} {ad : Nat → Nat} {ao : Nat} {f : Nat → Int64} {σ σ' : gS}  {x0 : Int32} {x1 : Bool}  (hM : gThr l D (gT cG cZ cI cJ) y_GB_takeFile b_GB_takeFile 4 (some .int) ({ frames := 8, cells := 1, slots := 6, locals := 140 }) (wd ad cG cZ σ) [.ref (ad 0), .int x0, .int (bI x1)] "java/lang/IllegalStateException") : gG l D (gT cG cZ cI cJ) (.codeWith y_LW_takeFile b_LW_takeFile 5 (some .int) [(0, 10, 13, 13), (0, 10, 17, 23)]) y_LW_takeFile ({ frames := 9, cells := 1, slots := 6, locals := 163 }) 1 6 (wd ad cG cZ σ ++ wo ao cJ f) [.ref (ad 0), .int x0, .int (bI x1), .ref ao] (wd ad cG cZ σ ++ wo ao cJ f) (some (.int (nI 2))) := by
  refine gW_of (by decide) (Nat.le_of_ble_eq_true rfl) ?_
  intro p e s m below meth c A ls hC hA hE htab hI hl
  obtain ⟨hx, hb, hr, hlk, hown, hml, hg, hK⟩ := hC
  have hown : s.vm.findClass "GroupBitmapsLaw" = some m.cls := hown
  have hl : lv_has ls 5 [(0, .ref (ad 0)), (1, .int x0), (2, .int (bI x1)), (3, .ref ao)] := hl
  refine lv_aload_n hx hb d_LW_takeFile_0 rfl (lv_at hl 3 rfl) ?_
  refine lv_iconst (v := nI 0) hx hb d_LW_takeFile_1 (by decide) ?_
  refine lv_aload_n hx hb d_LW_takeFile_2 rfl (lv_at hl 0 rfl) ?_
  refine lv_iload_n hx hb d_LW_takeFile_3 rfl (lv_at hl 1 rfl) ?_
  refine lv_iload_n hx hb d_LW_takeFile_4 rfl (lv_at hl 2 rfl) ?_
  refine g_callT (own := "GroupBitmapsLaw") (C := "GroupBitmaps") (E := "java/lang/IllegalStateException") (T := F_GB) (N := 5) (k := 2) (q0 := 0) (ci := 0) (a := ad 0) (As := [.int x0, .int (bI x1)]) (rest := [.int (nI 0), .ref ao]) (pre := [(0, 10, 13, 13)]) (post := []) (st9 := 0) (en9 := 10) (hp := 17) (ec := 23) (hM.frame (wo ao cJ f)) hE hx hb hml hown hg hK hI hA kw_315 kw_316 kw_317 kw_1 kw_318 ky_GB_takeFile ⟨Nat.le_of_ble_eq_true rfl, Nat.le_of_ble_eq_true rfl⟩ rfl rfl ⟨Nat.le_of_ble_eq_true rfl, Nat.le_of_ble_eq_true rfl⟩ (fr_l wd_GB) rfl rfl hl.1 (Nat.le_of_ble_eq_true rfl) d_LW_takeFile_5 htab ⟨by decide, by decide⟩ (by decide) kw_218 kg_ISE (by intro z hz; cases List.mem_singleton.mp hz; obtain ⟨ci, ca, n1, n2, n3⟩ := hE.2.2.2.2.2; exact ⟨by decide, by decide, by decide, "java/lang/IllegalArgumentException", kw_122, ci, ca, n1, n2, n3⟩) rfl (fun H locs q hI => ?_)
  refine lv_astore (lv' := [(4, .ref q), (0, .ref (ad 0)), (1, .int x0), (2, .int (bI x1)), (3, .ref ao)]) hx hb d_LW_takeFile_17 hl (by decide) rfl (fun ls hl => ?_)
  refine lv_iconst (v := nI 2) hx hb d_LW_takeFile_19 (by decide) ?_
  exact g_ri1 hx hb hr hlk hI (rfl) (Nat.le_of_ble_eq_true rfl) (Nat.le_of_ble_eq_true rfl) d_LW_takeFile_20
set_option maxHeartbeats 4000000 in
set_option maxRecDepth 100000 in
theorem w_giveFile {l : Launch} {D : va_G} {cG cZ cI cJ : ClassId} {ad : Nat → Nat} {ao : Nat} {f : Nat → Int64} {σ σ' : gS} {z : Int32} {x0 : Int32} {x1 : Bool}  (hM : gMetE l D (gT cG cZ cI cJ) y_GB_giveFile b_GB_giveFile 5 (some .int) ({ frames := 8, cells := 0, slots := 0, locals := 140 }) (wd ad cG cZ σ) [.ref (ad 0), .int x0, .int (bI x1)] (wd ad cG cZ σ') (some (.int z))) : gG l D (gT cG cZ cI cJ) (.codeWith y_LW_giveFile b_LW_giveFile 5 (some .int) [(0, 10, 13, 13), (0, 10, 17, 23)]) y_LW_giveFile ({ frames := 9, cells := 1, slots := 6, locals := 164 }) 1 6 (wd ad cG cZ σ ++ wo ao cJ f) [.ref (ad 0), .int x0, .int (bI x1), .ref ao] (wd ad cG cZ σ' ++ wo ao cJ (vp_updL f 0 z.toInt64)) (some (.int (nI 0))) := by
  refine gW_of (by decide) (Nat.le_of_ble_eq_true rfl) ?_
  intro p e s m below meth c A ls hC hA hE htab hI hl
  obtain ⟨hx, hb, hr, hlk, hown, hml, hg, hK⟩ := hC
  have hown : s.vm.findClass "GroupBitmapsLaw" = some m.cls := hown
  have hl : lv_has ls 5 [(0, .ref (ad 0)), (1, .int x0), (2, .int (bI x1)), (3, .ref ao)] := hl
  refine lv_aload_n hx hb d_LW_giveFile_0 rfl (lv_at hl 3 rfl) ?_
  refine lv_iconst (v := nI 0) hx hb d_LW_giveFile_1 (by decide) ?_
  refine lv_aload_n hx hb d_LW_giveFile_2 rfl (lv_at hl 0 rfl) ?_
  refine lv_iload_n hx hb d_LW_giveFile_3 rfl (lv_at hl 1 rfl) ?_
  refine lv_iload_n hx hb d_LW_giveFile_4 rfl (lv_at hl 2 rfl) ?_
  refine g_callVE (own := "GroupBitmapsLaw") (C := "GroupBitmaps") (T := F_GB) (N := 5) (k := 2) (q0 := 0) (ci := 0) (a := ad 0) (As := [.int x0, .int (bI x1)]) (rest := [.int (nI 0), .ref ao]) ((gMetE.G hM).frame (wo ao cJ f)) hE hx hb hml hown hg hK hI hA kw_371 kw_372 kw_373 kw_1 kw_374 ky_GB_giveFile ⟨Nat.le_of_ble_eq_true rfl, Nat.le_of_ble_eq_true rfl⟩ rfl rfl (fr_l wd_GB) rfl rfl hl.1 (Nat.le_of_ble_eq_true rfl) ⟨Nat.zero_le _, Nat.zero_le _⟩ d_LW_giveFile_5 rfl rfl (fun H locs hI => ?_)
  refine lv_i2l (v := z.toInt64) hx hb d_LW_giveFile_8 rfl ?_
  refine g_last (ws' := wd ad cG cZ σ' ++ wo ao cJ (vp_updL f 0 z.toInt64)) (i := 0) hx hb hK hI 22 3 wo_at rfl (by decide) (by decide) wo_set d_LW_giveFile_9 (fun H locs hI => ?_)
  refine lv_goto (tgt := 21) hx hb d_LW_giveFile_10 (by decide) ?_
  refine lv_iconst (v := nI 0) hx hb d_LW_giveFile_21 (by decide) ?_
  exact g_ri1 hx hb hr hlk hI (rfl) (Nat.le_of_ble_eq_true rfl) (Nat.le_of_ble_eq_true rfl) d_LW_giveFile_22
set_option maxHeartbeats 4000000 in
set_option maxRecDepth 100000 in
theorem w_giveFile_1 {l : Launch} {D : va_G} {cG cZ cI cJ : ClassId} {ad : Nat → Nat} {ao : Nat} {f : Nat → Int64} {σ σ' : gS}  {x0 : Int32} {x1 : Bool}  (hM : gThr l D (gT cG cZ cI cJ) y_GB_giveFile b_GB_giveFile 5 (some .int) ({ frames := 8, cells := 1, slots := 6, locals := 140 }) (wd ad cG cZ σ) [.ref (ad 0), .int x0, .int (bI x1)] "java/lang/IllegalArgumentException") : gG l D (gT cG cZ cI cJ) (.codeWith y_LW_giveFile b_LW_giveFile 5 (some .int) [(0, 10, 13, 13), (0, 10, 17, 23)]) y_LW_giveFile ({ frames := 9, cells := 1, slots := 6, locals := 164 }) 1 6 (wd ad cG cZ σ ++ wo ao cJ f) [.ref (ad 0), .int x0, .int (bI x1), .ref ao] (wd ad cG cZ σ ++ wo ao cJ f) (some (.int (nI 1))) := by
  refine gW_of (by decide) (Nat.le_of_ble_eq_true rfl) ?_
  intro p e s m below meth c A ls hC hA hE htab hI hl
  obtain ⟨hx, hb, hr, hlk, hown, hml, hg, hK⟩ := hC
  have hown : s.vm.findClass "GroupBitmapsLaw" = some m.cls := hown
  have hl : lv_has ls 5 [(0, .ref (ad 0)), (1, .int x0), (2, .int (bI x1)), (3, .ref ao)] := hl
  refine lv_aload_n hx hb d_LW_giveFile_0 rfl (lv_at hl 3 rfl) ?_
  refine lv_iconst (v := nI 0) hx hb d_LW_giveFile_1 (by decide) ?_
  refine lv_aload_n hx hb d_LW_giveFile_2 rfl (lv_at hl 0 rfl) ?_
  refine lv_iload_n hx hb d_LW_giveFile_3 rfl (lv_at hl 1 rfl) ?_
  refine lv_iload_n hx hb d_LW_giveFile_4 rfl (lv_at hl 2 rfl) ?_
  refine g_callT (own := "GroupBitmapsLaw") (C := "GroupBitmaps") (E := "java/lang/IllegalArgumentException") (T := F_GB) (N := 5) (k := 2) (q0 := 0) (ci := 0) (a := ad 0) (As := [.int x0, .int (bI x1)]) (rest := [.int (nI 0), .ref ao]) (pre := []) (post := [(0, 10, 17, 23)]) (st9 := 0) (en9 := 10) (hp := 13) (ec := 13) (hM.frame (wo ao cJ f)) hE hx hb hml hown hg hK hI hA kw_371 kw_372 kw_373 kw_1 kw_374 ky_GB_giveFile ⟨Nat.le_of_ble_eq_true rfl, Nat.le_of_ble_eq_true rfl⟩ rfl rfl ⟨Nat.le_of_ble_eq_true rfl, Nat.le_of_ble_eq_true rfl⟩ (fr_l wd_GB) rfl rfl hl.1 (Nat.le_of_ble_eq_true rfl) d_LW_giveFile_5 htab ⟨by decide, by decide⟩ (by decide) kw_122 kg_IAE (by intro z hz; cases hz) rfl (fun H locs q hI => ?_)
  refine lv_astore (lv' := [(4, .ref q), (0, .ref (ad 0)), (1, .int x0), (2, .int (bI x1)), (3, .ref ao)]) hx hb d_LW_giveFile_13 hl (by decide) rfl (fun ls hl => ?_)
  refine lv_iconst (v := nI 1) hx hb d_LW_giveFile_15 (by decide) ?_
  exact g_ri1 hx hb hr hlk hI (rfl) (Nat.le_of_ble_eq_true rfl) (Nat.le_of_ble_eq_true rfl) d_LW_giveFile_16
set_option maxHeartbeats 4000000 in
set_option maxRecDepth 100000 in
theorem w_giveFile_2 {l : Launch} {D : va_G} {cG cZ cI cJ : ClassId} {ad : Nat → Nat} {ao : Nat} {f : Nat → Int64} {σ σ' : gS}  {x0 : Int32} {x1 : Bool}  (hM : gThr l D (gT cG cZ cI cJ) y_GB_giveFile b_GB_giveFile 5 (some .int) ({ frames := 8, cells := 1, slots := 6, locals := 140 }) (wd ad cG cZ σ) [.ref (ad 0), .int x0, .int (bI x1)] "java/lang/IllegalStateException") : gG l D (gT cG cZ cI cJ) (.codeWith y_LW_giveFile b_LW_giveFile 5 (some .int) [(0, 10, 13, 13), (0, 10, 17, 23)]) y_LW_giveFile ({ frames := 9, cells := 1, slots := 6, locals := 164 }) 1 6 (wd ad cG cZ σ ++ wo ao cJ f) [.ref (ad 0), .int x0, .int (bI x1), .ref ao] (wd ad cG cZ σ ++ wo ao cJ f) (some (.int (nI 2))) := by
  refine gW_of (by decide) (Nat.le_of_ble_eq_true rfl) ?_
  intro p e s m below meth c A ls hC hA hE htab hI hl
  obtain ⟨hx, hb, hr, hlk, hown, hml, hg, hK⟩ := hC
  have hown : s.vm.findClass "GroupBitmapsLaw" = some m.cls := hown
  have hl : lv_has ls 5 [(0, .ref (ad 0)), (1, .int x0), (2, .int (bI x1)), (3, .ref ao)] := hl
  refine lv_aload_n hx hb d_LW_giveFile_0 rfl (lv_at hl 3 rfl) ?_
  refine lv_iconst (v := nI 0) hx hb d_LW_giveFile_1 (by decide) ?_
  refine lv_aload_n hx hb d_LW_giveFile_2 rfl (lv_at hl 0 rfl) ?_
  refine lv_iload_n hx hb d_LW_giveFile_3 rfl (lv_at hl 1 rfl) ?_
  refine lv_iload_n hx hb d_LW_giveFile_4 rfl (lv_at hl 2 rfl) ?_
  refine g_callT (own := "GroupBitmapsLaw") (C := "GroupBitmaps") (E := "java/lang/IllegalStateException") (T := F_GB) (N := 5) (k := 2) (q0 := 0) (ci := 0) (a := ad 0) (As := [.int x0, .int (bI x1)]) (rest := [.int (nI 0), .ref ao]) (pre := [(0, 10, 13, 13)]) (post := []) (st9 := 0) (en9 := 10) (hp := 17) (ec := 23) (hM.frame (wo ao cJ f)) hE hx hb hml hown hg hK hI hA kw_371 kw_372 kw_373 kw_1 kw_374 ky_GB_giveFile ⟨Nat.le_of_ble_eq_true rfl, Nat.le_of_ble_eq_true rfl⟩ rfl rfl ⟨Nat.le_of_ble_eq_true rfl, Nat.le_of_ble_eq_true rfl⟩ (fr_l wd_GB) rfl rfl hl.1 (Nat.le_of_ble_eq_true rfl) d_LW_giveFile_5 htab ⟨by decide, by decide⟩ (by decide) kw_218 kg_ISE (by intro z hz; cases List.mem_singleton.mp hz; obtain ⟨ci, ca, n1, n2, n3⟩ := hE.2.2.2.2.2; exact ⟨by decide, by decide, by decide, "java/lang/IllegalArgumentException", kw_122, ci, ca, n1, n2, n3⟩) rfl (fun H locs q hI => ?_)
  refine lv_astore (lv' := [(4, .ref q), (0, .ref (ad 0)), (1, .int x0), (2, .int (bI x1)), (3, .ref ao)]) hx hb d_LW_giveFile_17 hl (by decide) rfl (fun ls hl => ?_)
  refine lv_iconst (v := nI 2) hx hb d_LW_giveFile_19 (by decide) ?_
  exact g_ri1 hx hb hr hlk hI (rfl) (Nat.le_of_ble_eq_true rfl) (Nat.le_of_ble_eq_true rfl) d_LW_giveFile_20
set_option maxHeartbeats 4000000 in
set_option maxRecDepth 100000 in
theorem w_isTaken {l : Launch} {D : va_G} {cG cZ cI cJ : ClassId} {ad : Nat → Nat} {ao : Nat} {f : Nat → Int64} {σ σ' : gS} {z : Bool} {x0 : Int32} {x1 : Int32}  (hM : gMetE l D (gT cG cZ cI cJ) y_GB_isTaken b_GB_isTaken 3 (some .boolean) ({ frames := 8, cells := 0, slots := 0, locals := 140 }) (wd ad cG cZ σ) [.ref (ad 0), .int x0, .int x1] (wd ad cG cZ σ') (some (.int (bI z)))) : gG l D (gT cG cZ cI cJ) (.codeWith y_LW_isTaken b_LW_isTaken 5 (some .int) [(0, 17, 20, 13)]) y_LW_isTaken ({ frames := 9, cells := 1, slots := 6, locals := 162 }) 1 6 (wd ad cG cZ σ ++ wo ao cJ f) [.ref (ad 0), .int x0, .int x1, .ref ao] (wd ad cG cZ σ' ++ wo ao cJ (vp_updL f 0 (if z = true then 1 else 0))) (some (.int (nI 0))) := by
  refine gW_of (by decide) (Nat.le_of_ble_eq_true rfl) ?_
  intro p e s m below meth c A ls hC hA hE htab hI hl
  obtain ⟨hx, hb, hr, hlk, hown, hml, hg, hK⟩ := hC
  have hown : s.vm.findClass "GroupBitmapsLaw" = some m.cls := hown
  have hl : lv_has ls 5 [(0, .ref (ad 0)), (1, .int x0), (2, .int x1), (3, .ref ao)] := hl
  refine lv_aload_n hx hb d_LW_isTaken_0 rfl (lv_at hl 3 rfl) ?_
  refine lv_iconst (v := nI 0) hx hb d_LW_isTaken_1 (by decide) ?_
  refine lv_aload_n hx hb d_LW_isTaken_2 rfl (lv_at hl 0 rfl) ?_
  refine lv_iload_n hx hb d_LW_isTaken_3 rfl (lv_at hl 1 rfl) ?_
  refine lv_iload_n hx hb d_LW_isTaken_4 rfl (lv_at hl 2 rfl) ?_
  refine g_callVE (own := "GroupBitmapsLaw") (C := "GroupBitmaps") (T := F_GB) (N := 5) (k := 2) (q0 := 0) (ci := 0) (a := ad 0) (As := [.int x0, .int x1]) (rest := [.int (nI 0), .ref ao]) ((gMetE.G hM).frame (wo ao cJ f)) hE hx hb hml hown hg hK hI hA kw_386 kw_387 kw_388 kw_1 kw_389 ky_GB_isTaken ⟨Nat.le_of_ble_eq_true rfl, Nat.le_of_ble_eq_true rfl⟩ rfl rfl (fr_l wd_GB) rfl rfl hl.1 (Nat.le_of_ble_eq_true rfl) ⟨Nat.zero_le _, Nat.zero_le _⟩ d_LW_isTaken_5 rfl rfl (fun H locs hI => ?_)
  refine r_bz (b := z) (tgt := 15) hx hb d_LW_isTaken_8 (by decide) (fun h => ?_) (fun h => ?_)
  · subst h
    refine lv_lconst (v := 0) hx hb d_LW_isTaken_15 (by decide) ?_
    refine g_last (ws' := wd ad cG cZ σ' ++ wo ao cJ (vp_updL f 0 0)) (i := 0) hx hb hK hI 22 3 wo_at rfl (by decide) (by decide) wo_set d_LW_isTaken_16 (fun H locs hI => ?_)
    refine lv_goto (tgt := 24) hx hb d_LW_isTaken_17 (by decide) ?_
    refine lv_iconst (v := nI 0) hx hb d_LW_isTaken_24 (by decide) ?_
    exact g_ri1 hx hb hr hlk hI (rfl) (Nat.le_of_ble_eq_true rfl) (Nat.le_of_ble_eq_true rfl) d_LW_isTaken_25
  · subst h
    refine lv_lconst (v := 1) hx hb d_LW_isTaken_11 (by decide) ?_
    refine lv_goto (tgt := 16) hx hb d_LW_isTaken_12 (by decide) ?_
    refine g_last (ws' := wd ad cG cZ σ' ++ wo ao cJ (vp_updL f 0 1)) (i := 0) hx hb hK hI 22 3 wo_at rfl (by decide) (by decide) wo_set d_LW_isTaken_16 (fun H locs hI => ?_)
    refine lv_goto (tgt := 24) hx hb d_LW_isTaken_17 (by decide) ?_
    refine lv_iconst (v := nI 0) hx hb d_LW_isTaken_24 (by decide) ?_
    exact g_ri1 hx hb hr hlk hI (rfl) (Nat.le_of_ble_eq_true rfl) (Nat.le_of_ble_eq_true rfl) d_LW_isTaken_25
set_option maxHeartbeats 4000000 in
set_option maxRecDepth 100000 in
theorem w_isTaken_1 {l : Launch} {D : va_G} {cG cZ cI cJ : ClassId} {ad : Nat → Nat} {ao : Nat} {f : Nat → Int64} {σ σ' : gS}  {x0 : Int32} {x1 : Int32}  (hM : gThr l D (gT cG cZ cI cJ) y_GB_isTaken b_GB_isTaken 3 (some .boolean) ({ frames := 8, cells := 1, slots := 6, locals := 140 }) (wd ad cG cZ σ) [.ref (ad 0), .int x0, .int x1] "java/lang/IllegalArgumentException") : gG l D (gT cG cZ cI cJ) (.codeWith y_LW_isTaken b_LW_isTaken 5 (some .int) [(0, 17, 20, 13)]) y_LW_isTaken ({ frames := 9, cells := 1, slots := 6, locals := 162 }) 1 6 (wd ad cG cZ σ ++ wo ao cJ f) [.ref (ad 0), .int x0, .int x1, .ref ao] (wd ad cG cZ σ ++ wo ao cJ f) (some (.int (nI 1))) := by
  refine gW_of (by decide) (Nat.le_of_ble_eq_true rfl) ?_
  intro p e s m below meth c A ls hC hA hE htab hI hl
  obtain ⟨hx, hb, hr, hlk, hown, hml, hg, hK⟩ := hC
  have hown : s.vm.findClass "GroupBitmapsLaw" = some m.cls := hown
  have hl : lv_has ls 5 [(0, .ref (ad 0)), (1, .int x0), (2, .int x1), (3, .ref ao)] := hl
  refine lv_aload_n hx hb d_LW_isTaken_0 rfl (lv_at hl 3 rfl) ?_
  refine lv_iconst (v := nI 0) hx hb d_LW_isTaken_1 (by decide) ?_
  refine lv_aload_n hx hb d_LW_isTaken_2 rfl (lv_at hl 0 rfl) ?_
  refine lv_iload_n hx hb d_LW_isTaken_3 rfl (lv_at hl 1 rfl) ?_
  refine lv_iload_n hx hb d_LW_isTaken_4 rfl (lv_at hl 2 rfl) ?_
  refine g_callT (own := "GroupBitmapsLaw") (C := "GroupBitmaps") (E := "java/lang/IllegalArgumentException") (T := F_GB) (N := 5) (k := 2) (q0 := 0) (ci := 0) (a := ad 0) (As := [.int x0, .int x1]) (rest := [.int (nI 0), .ref ao]) (pre := []) (post := []) (st9 := 0) (en9 := 17) (hp := 20) (ec := 13) (hM.frame (wo ao cJ f)) hE hx hb hml hown hg hK hI hA kw_386 kw_387 kw_388 kw_1 kw_389 ky_GB_isTaken ⟨Nat.le_of_ble_eq_true rfl, Nat.le_of_ble_eq_true rfl⟩ rfl rfl ⟨Nat.le_of_ble_eq_true rfl, Nat.le_of_ble_eq_true rfl⟩ (fr_l wd_GB) rfl rfl hl.1 (Nat.le_of_ble_eq_true rfl) d_LW_isTaken_5 htab ⟨by decide, by decide⟩ (by decide) kw_122 kg_IAE (by intro z hz; cases hz) rfl (fun H locs q hI => ?_)
  refine lv_astore (lv' := [(4, .ref q), (0, .ref (ad 0)), (1, .int x0), (2, .int x1), (3, .ref ao)]) hx hb d_LW_isTaken_20 hl (by decide) rfl (fun ls hl => ?_)
  refine lv_iconst (v := nI 1) hx hb d_LW_isTaken_22 (by decide) ?_
  exact g_ri1 hx hb hr hlk hI (rfl) (Nat.le_of_ble_eq_true rfl) (Nat.le_of_ble_eq_true rfl) d_LW_isTaken_23
set_option maxHeartbeats 4000000 in
set_option maxRecDepth 100000 in
theorem w_group {l : Launch} {D : va_G} {cG cZ cI cJ : ClassId} {ad : Nat → Nat} {ao : Nat} {f : Nat → Int64} {σ σ' : gS} {z : Int32} {x0 : Int32} {x1 : Int32}  (hM : gMetE l D (gT cG cZ cI cJ) y_GB_group b_GB_group 4 (some .int) ({ frames := 8, cells := 0, slots := 0, locals := 140 }) (wd ad cG cZ σ) [.ref (ad 0), .int x0, .int x1] (wd ad cG cZ σ') (some (.int z))) : gG l D (gT cG cZ cI cJ) (.codeWith y_LW_group b_LW_group 5 (some .int) [(0, 10, 13, 13)]) y_LW_group ({ frames := 9, cells := 1, slots := 6, locals := 163 }) 1 6 (wd ad cG cZ σ ++ wo ao cJ f) [.ref (ad 0), .int x0, .int x1, .ref ao] (wd ad cG cZ σ' ++ wo ao cJ (vp_updL f 0 z.toInt64)) (some (.int (nI 0))) := by
  refine gW_of (by decide) (Nat.le_of_ble_eq_true rfl) ?_
  intro p e s m below meth c A ls hC hA hE htab hI hl
  obtain ⟨hx, hb, hr, hlk, hown, hml, hg, hK⟩ := hC
  have hown : s.vm.findClass "GroupBitmapsLaw" = some m.cls := hown
  have hl : lv_has ls 5 [(0, .ref (ad 0)), (1, .int x0), (2, .int x1), (3, .ref ao)] := hl
  refine lv_aload_n hx hb d_LW_group_0 rfl (lv_at hl 3 rfl) ?_
  refine lv_iconst (v := nI 0) hx hb d_LW_group_1 (by decide) ?_
  refine lv_aload_n hx hb d_LW_group_2 rfl (lv_at hl 0 rfl) ?_
  refine lv_iload_n hx hb d_LW_group_3 rfl (lv_at hl 1 rfl) ?_
  refine lv_iload_n hx hb d_LW_group_4 rfl (lv_at hl 2 rfl) ?_
  refine g_callVE (own := "GroupBitmapsLaw") (C := "GroupBitmaps") (T := F_GB) (N := 5) (k := 2) (q0 := 0) (ci := 0) (a := ad 0) (As := [.int x0, .int x1]) (rest := [.int (nI 0), .ref ao]) ((gMetE.G hM).frame (wo ao cJ f)) hE hx hb hml hown hg hK hI hA kw_394 kw_395 kw_396 kw_1 kw_397 ky_GB_group ⟨Nat.le_of_ble_eq_true rfl, Nat.le_of_ble_eq_true rfl⟩ rfl rfl (fr_l wd_GB) rfl rfl hl.1 (Nat.le_of_ble_eq_true rfl) ⟨Nat.zero_le _, Nat.zero_le _⟩ d_LW_group_5 rfl rfl (fun H locs hI => ?_)
  refine lv_i2l (v := z.toInt64) hx hb d_LW_group_8 rfl ?_
  refine g_last (ws' := wd ad cG cZ σ' ++ wo ao cJ (vp_updL f 0 z.toInt64)) (i := 0) hx hb hK hI 22 3 wo_at rfl (by decide) (by decide) wo_set d_LW_group_9 (fun H locs hI => ?_)
  refine lv_goto (tgt := 17) hx hb d_LW_group_10 (by decide) ?_
  refine lv_iconst (v := nI 0) hx hb d_LW_group_17 (by decide) ?_
  exact g_ri1 hx hb hr hlk hI (rfl) (Nat.le_of_ble_eq_true rfl) (Nat.le_of_ble_eq_true rfl) d_LW_group_18
set_option maxHeartbeats 4000000 in
set_option maxRecDepth 100000 in
theorem w_group_1 {l : Launch} {D : va_G} {cG cZ cI cJ : ClassId} {ad : Nat → Nat} {ao : Nat} {f : Nat → Int64} {σ σ' : gS}  {x0 : Int32} {x1 : Int32}  (hM : gThr l D (gT cG cZ cI cJ) y_GB_group b_GB_group 4 (some .int) ({ frames := 8, cells := 1, slots := 6, locals := 140 }) (wd ad cG cZ σ) [.ref (ad 0), .int x0, .int x1] "java/lang/IllegalArgumentException") : gG l D (gT cG cZ cI cJ) (.codeWith y_LW_group b_LW_group 5 (some .int) [(0, 10, 13, 13)]) y_LW_group ({ frames := 9, cells := 1, slots := 6, locals := 163 }) 1 6 (wd ad cG cZ σ ++ wo ao cJ f) [.ref (ad 0), .int x0, .int x1, .ref ao] (wd ad cG cZ σ ++ wo ao cJ f) (some (.int (nI 1))) := by
  refine gW_of (by decide) (Nat.le_of_ble_eq_true rfl) ?_
  intro p e s m below meth c A ls hC hA hE htab hI hl
  obtain ⟨hx, hb, hr, hlk, hown, hml, hg, hK⟩ := hC
  have hown : s.vm.findClass "GroupBitmapsLaw" = some m.cls := hown
  have hl : lv_has ls 5 [(0, .ref (ad 0)), (1, .int x0), (2, .int x1), (3, .ref ao)] := hl
  refine lv_aload_n hx hb d_LW_group_0 rfl (lv_at hl 3 rfl) ?_
  refine lv_iconst (v := nI 0) hx hb d_LW_group_1 (by decide) ?_
  refine lv_aload_n hx hb d_LW_group_2 rfl (lv_at hl 0 rfl) ?_
  refine lv_iload_n hx hb d_LW_group_3 rfl (lv_at hl 1 rfl) ?_
  refine lv_iload_n hx hb d_LW_group_4 rfl (lv_at hl 2 rfl) ?_
  refine g_callT (own := "GroupBitmapsLaw") (C := "GroupBitmaps") (E := "java/lang/IllegalArgumentException") (T := F_GB) (N := 5) (k := 2) (q0 := 0) (ci := 0) (a := ad 0) (As := [.int x0, .int x1]) (rest := [.int (nI 0), .ref ao]) (pre := []) (post := []) (st9 := 0) (en9 := 10) (hp := 13) (ec := 13) (hM.frame (wo ao cJ f)) hE hx hb hml hown hg hK hI hA kw_394 kw_395 kw_396 kw_1 kw_397 ky_GB_group ⟨Nat.le_of_ble_eq_true rfl, Nat.le_of_ble_eq_true rfl⟩ rfl rfl ⟨Nat.le_of_ble_eq_true rfl, Nat.le_of_ble_eq_true rfl⟩ (fr_l wd_GB) rfl rfl hl.1 (Nat.le_of_ble_eq_true rfl) d_LW_group_5 htab ⟨by decide, by decide⟩ (by decide) kw_122 kg_IAE (by intro z hz; cases hz) rfl (fun H locs q hI => ?_)
  refine lv_astore (lv' := [(4, .ref q), (0, .ref (ad 0)), (1, .int x0), (2, .int x1), (3, .ref ao)]) hx hb d_LW_group_13 hl (by decide) rfl (fun ls hl => ?_)
  refine lv_iconst (v := nI 1) hx hb d_LW_group_15 (by decide) ?_
  exact g_ri1 hx hb hr hlk hI (rfl) (Nat.le_of_ble_eq_true rfl) (Nat.le_of_ble_eq_true rfl) d_LW_group_16
set_option maxHeartbeats 4000000 in
set_option maxRecDepth 100000 in
theorem w_byteOf {l : Launch} {D : va_G} {cG cZ cI cJ : ClassId} {ad : Nat → Nat} {ao : Nat} {f : Nat → Int64} {σ σ' : gS} {z : Int32} {x0 : Int32} {x1 : Int32}  (hM : gMetE l D (gT cG cZ cI cJ) y_GB_byteOf b_GB_byteOf 4 (some .int) ({ frames := 8, cells := 0, slots := 0, locals := 140 }) (wd ad cG cZ σ) [.ref (ad 0), .int x0, .int x1] (wd ad cG cZ σ') (some (.int z))) : gG l D (gT cG cZ cI cJ) (.codeWith y_LW_byteOf b_LW_byteOf 5 (some .int) [(0, 10, 13, 45)]) y_LW_byteOf ({ frames := 9, cells := 1, slots := 6, locals := 163 }) 1 6 (wd ad cG cZ σ ++ wo ao cJ f) [.ref (ad 0), .int x0, .int x1, .ref ao] (wd ad cG cZ σ' ++ wo ao cJ (vp_updL f 0 z.toInt64)) (some (.int (nI 0))) := by
  refine gW_of (by decide) (Nat.le_of_ble_eq_true rfl) ?_
  intro p e s m below meth c A ls hC hA hE htab hI hl
  obtain ⟨hx, hb, hr, hlk, hown, hml, hg, hK⟩ := hC
  have hown : s.vm.findClass "GroupBitmapsLaw" = some m.cls := hown
  have hl : lv_has ls 5 [(0, .ref (ad 0)), (1, .int x0), (2, .int x1), (3, .ref ao)] := hl
  refine lv_aload_n hx hb d_LW_byteOf_0 rfl (lv_at hl 3 rfl) ?_
  refine lv_iconst (v := nI 0) hx hb d_LW_byteOf_1 (by decide) ?_
  refine lv_aload_n hx hb d_LW_byteOf_2 rfl (lv_at hl 0 rfl) ?_
  refine lv_iload_n hx hb d_LW_byteOf_3 rfl (lv_at hl 1 rfl) ?_
  refine lv_iload_n hx hb d_LW_byteOf_4 rfl (lv_at hl 2 rfl) ?_
  refine g_callVE (own := "GroupBitmapsLaw") (C := "GroupBitmaps") (T := F_GB) (N := 5) (k := 2) (q0 := 0) (ci := 0) (a := ad 0) (As := [.int x0, .int x1]) (rest := [.int (nI 0), .ref ao]) ((gMetE.G hM).frame (wo ao cJ f)) hE hx hb hml hown hg hK hI hA kw_404 kw_405 kw_406 kw_1 kw_407 ky_GB_byteOf ⟨Nat.le_of_ble_eq_true rfl, Nat.le_of_ble_eq_true rfl⟩ rfl rfl (fr_l wd_GB) rfl rfl hl.1 (Nat.le_of_ble_eq_true rfl) ⟨Nat.zero_le _, Nat.zero_le _⟩ d_LW_byteOf_5 rfl rfl (fun H locs hI => ?_)
  refine lv_i2l (v := z.toInt64) hx hb d_LW_byteOf_8 rfl ?_
  refine g_last (ws' := wd ad cG cZ σ' ++ wo ao cJ (vp_updL f 0 z.toInt64)) (i := 0) hx hb hK hI 22 3 wo_at rfl (by decide) (by decide) wo_set d_LW_byteOf_9 (fun H locs hI => ?_)
  refine lv_goto (tgt := 17) hx hb d_LW_byteOf_10 (by decide) ?_
  refine lv_iconst (v := nI 0) hx hb d_LW_byteOf_17 (by decide) ?_
  exact g_ri1 hx hb hr hlk hI (rfl) (Nat.le_of_ble_eq_true rfl) (Nat.le_of_ble_eq_true rfl) d_LW_byteOf_18
set_option maxHeartbeats 4000000 in
set_option maxRecDepth 100000 in
theorem w_byteOf_1 {l : Launch} {D : va_G} {cG cZ cI cJ : ClassId} {ad : Nat → Nat} {ao : Nat} {f : Nat → Int64} {σ σ' : gS}  {x0 : Int32} {x1 : Int32}  (hM : gThr l D (gT cG cZ cI cJ) y_GB_byteOf b_GB_byteOf 4 (some .int) ({ frames := 8, cells := 1, slots := 6, locals := 140 }) (wd ad cG cZ σ) [.ref (ad 0), .int x0, .int x1] "java/lang/IndexOutOfBoundsException") : gG l D (gT cG cZ cI cJ) (.codeWith y_LW_byteOf b_LW_byteOf 5 (some .int) [(0, 10, 13, 45)]) y_LW_byteOf ({ frames := 9, cells := 1, slots := 6, locals := 163 }) 1 6 (wd ad cG cZ σ ++ wo ao cJ f) [.ref (ad 0), .int x0, .int x1, .ref ao] (wd ad cG cZ σ ++ wo ao cJ f) (some (.int (nI 1))) := by
  refine gW_of (by decide) (Nat.le_of_ble_eq_true rfl) ?_
  intro p e s m below meth c A ls hC hA hE htab hI hl
  obtain ⟨hx, hb, hr, hlk, hown, hml, hg, hK⟩ := hC
  have hown : s.vm.findClass "GroupBitmapsLaw" = some m.cls := hown
  have hl : lv_has ls 5 [(0, .ref (ad 0)), (1, .int x0), (2, .int x1), (3, .ref ao)] := hl
  refine lv_aload_n hx hb d_LW_byteOf_0 rfl (lv_at hl 3 rfl) ?_
  refine lv_iconst (v := nI 0) hx hb d_LW_byteOf_1 (by decide) ?_
  refine lv_aload_n hx hb d_LW_byteOf_2 rfl (lv_at hl 0 rfl) ?_
  refine lv_iload_n hx hb d_LW_byteOf_3 rfl (lv_at hl 1 rfl) ?_
  refine lv_iload_n hx hb d_LW_byteOf_4 rfl (lv_at hl 2 rfl) ?_
  refine g_callT (own := "GroupBitmapsLaw") (C := "GroupBitmaps") (E := "java/lang/IndexOutOfBoundsException") (T := F_GB) (N := 5) (k := 2) (q0 := 0) (ci := 0) (a := ad 0) (As := [.int x0, .int x1]) (rest := [.int (nI 0), .ref ao]) (pre := []) (post := []) (st9 := 0) (en9 := 10) (hp := 13) (ec := 45) (hM.frame (wo ao cJ f)) hE hx hb hml hown hg hK hI hA kw_404 kw_405 kw_406 kw_1 kw_407 ky_GB_byteOf ⟨Nat.le_of_ble_eq_true rfl, Nat.le_of_ble_eq_true rfl⟩ rfl rfl ⟨Nat.le_of_ble_eq_true rfl, Nat.le_of_ble_eq_true rfl⟩ (fr_l wd_GB) rfl rfl hl.1 (Nat.le_of_ble_eq_true rfl) d_LW_byteOf_5 htab ⟨by decide, by decide⟩ (by decide) kw_403 kg_IOO (by intro z hz; cases hz) rfl (fun H locs q hI => ?_)
  refine lv_astore (lv' := [(4, .ref q), (0, .ref (ad 0)), (1, .int x0), (2, .int x1), (3, .ref ao)]) hx hb d_LW_byteOf_13 hl (by decide) rfl (fun ls hl => ?_)
  refine lv_iconst (v := nI 1) hx hb d_LW_byteOf_15 (by decide) ?_
  exact g_ri1 hx hb hr hlk hI (rfl) (Nat.le_of_ble_eq_true rfl) (Nat.le_of_ble_eq_true rfl) d_LW_byteOf_16
set_option maxHeartbeats 4000000 in
set_option maxRecDepth 100000 in
theorem w_isTold {l : Launch} {D : va_G} {cG cZ cI cJ : ClassId} {ad : Nat → Nat} {ao : Nat} {f : Nat → Int64} {σ σ' : gS} {z : Bool} {x0 : Int32}  (hM : gMetE l D (gT cG cZ cI cJ) y_GB_isTold b_GB_isTold 3 (some .boolean) ({ frames := 8, cells := 0, slots := 0, locals := 140 }) (wd ad cG cZ σ) [.ref (ad 0), .int x0] (wd ad cG cZ σ') (some (.int (bI z)))) : gG l D (gT cG cZ cI cJ) (.codeWith y_LW_isTold b_LW_isTold 4 (some .int) [(0, 16, 19, 45)]) y_LW_isTold ({ frames := 9, cells := 1, slots := 6, locals := 162 }) 1 6 (wd ad cG cZ σ ++ wo ao cJ f) [.ref (ad 0), .int x0, .ref ao] (wd ad cG cZ σ' ++ wo ao cJ (vp_updL f 0 (if z = true then 1 else 0))) (some (.int (nI 0))) := by
  refine gW_of (by decide) (Nat.le_of_ble_eq_true rfl) ?_
  intro p e s m below meth c A ls hC hA hE htab hI hl
  obtain ⟨hx, hb, hr, hlk, hown, hml, hg, hK⟩ := hC
  have hown : s.vm.findClass "GroupBitmapsLaw" = some m.cls := hown
  have hl : lv_has ls 4 [(0, .ref (ad 0)), (1, .int x0), (2, .ref ao)] := hl
  refine lv_aload_n hx hb d_LW_isTold_0 rfl (lv_at hl 2 rfl) ?_
  refine lv_iconst (v := nI 0) hx hb d_LW_isTold_1 (by decide) ?_
  refine lv_aload_n hx hb d_LW_isTold_2 rfl (lv_at hl 0 rfl) ?_
  refine lv_iload_n hx hb d_LW_isTold_3 rfl (lv_at hl 1 rfl) ?_
  refine g_callVE (own := "GroupBitmapsLaw") (C := "GroupBitmaps") (T := F_GB) (N := 5) (k := 1) (q0 := 0) (ci := 0) (a := ad 0) (As := [.int x0]) (rest := [.int (nI 0), .ref ao]) ((gMetE.G hM).frame (wo ao cJ f)) hE hx hb hml hown hg hK hI hA kw_446 kw_447 kw_448 kw_1 kw_449 ky_GB_isTold ⟨Nat.le_of_ble_eq_true rfl, Nat.le_of_ble_eq_true rfl⟩ rfl rfl (fr_l wd_GB) rfl rfl hl.1 (Nat.le_of_ble_eq_true rfl) ⟨Nat.zero_le _, Nat.zero_le _⟩ d_LW_isTold_4 rfl rfl (fun H locs hI => ?_)
  refine r_bz (b := z) (tgt := 14) hx hb d_LW_isTold_7 (by decide) (fun h => ?_) (fun h => ?_)
  · subst h
    refine lv_lconst (v := 0) hx hb d_LW_isTold_14 (by decide) ?_
    refine g_last (ws' := wd ad cG cZ σ' ++ wo ao cJ (vp_updL f 0 0)) (i := 0) hx hb hK hI 22 3 wo_at rfl (by decide) (by decide) wo_set d_LW_isTold_15 (fun H locs hI => ?_)
    refine lv_goto (tgt := 22) hx hb d_LW_isTold_16 (by decide) ?_
    refine lv_iconst (v := nI 0) hx hb d_LW_isTold_22 (by decide) ?_
    exact g_ri1 hx hb hr hlk hI (rfl) (Nat.le_of_ble_eq_true rfl) (Nat.le_of_ble_eq_true rfl) d_LW_isTold_23
  · subst h
    refine lv_lconst (v := 1) hx hb d_LW_isTold_10 (by decide) ?_
    refine lv_goto (tgt := 15) hx hb d_LW_isTold_11 (by decide) ?_
    refine g_last (ws' := wd ad cG cZ σ' ++ wo ao cJ (vp_updL f 0 1)) (i := 0) hx hb hK hI 22 3 wo_at rfl (by decide) (by decide) wo_set d_LW_isTold_15 (fun H locs hI => ?_)
    refine lv_goto (tgt := 22) hx hb d_LW_isTold_16 (by decide) ?_
    refine lv_iconst (v := nI 0) hx hb d_LW_isTold_22 (by decide) ?_
    exact g_ri1 hx hb hr hlk hI (rfl) (Nat.le_of_ble_eq_true rfl) (Nat.le_of_ble_eq_true rfl) d_LW_isTold_23
set_option maxHeartbeats 4000000 in
set_option maxRecDepth 100000 in
theorem w_isTold_1 {l : Launch} {D : va_G} {cG cZ cI cJ : ClassId} {ad : Nat → Nat} {ao : Nat} {f : Nat → Int64} {σ σ' : gS}  {x0 : Int32}  (hM : gThr l D (gT cG cZ cI cJ) y_GB_isTold b_GB_isTold 3 (some .boolean) ({ frames := 8, cells := 1, slots := 6, locals := 140 }) (wd ad cG cZ σ) [.ref (ad 0), .int x0] "java/lang/IndexOutOfBoundsException") : gG l D (gT cG cZ cI cJ) (.codeWith y_LW_isTold b_LW_isTold 4 (some .int) [(0, 16, 19, 45)]) y_LW_isTold ({ frames := 9, cells := 1, slots := 6, locals := 162 }) 1 6 (wd ad cG cZ σ ++ wo ao cJ f) [.ref (ad 0), .int x0, .ref ao] (wd ad cG cZ σ ++ wo ao cJ f) (some (.int (nI 1))) := by
  refine gW_of (by decide) (Nat.le_of_ble_eq_true rfl) ?_
  intro p e s m below meth c A ls hC hA hE htab hI hl
  obtain ⟨hx, hb, hr, hlk, hown, hml, hg, hK⟩ := hC
  have hown : s.vm.findClass "GroupBitmapsLaw" = some m.cls := hown
  have hl : lv_has ls 4 [(0, .ref (ad 0)), (1, .int x0), (2, .ref ao)] := hl
  refine lv_aload_n hx hb d_LW_isTold_0 rfl (lv_at hl 2 rfl) ?_
  refine lv_iconst (v := nI 0) hx hb d_LW_isTold_1 (by decide) ?_
  refine lv_aload_n hx hb d_LW_isTold_2 rfl (lv_at hl 0 rfl) ?_
  refine lv_iload_n hx hb d_LW_isTold_3 rfl (lv_at hl 1 rfl) ?_
  refine g_callT (own := "GroupBitmapsLaw") (C := "GroupBitmaps") (E := "java/lang/IndexOutOfBoundsException") (T := F_GB) (N := 5) (k := 1) (q0 := 0) (ci := 0) (a := ad 0) (As := [.int x0]) (rest := [.int (nI 0), .ref ao]) (pre := []) (post := []) (st9 := 0) (en9 := 16) (hp := 19) (ec := 45) (hM.frame (wo ao cJ f)) hE hx hb hml hown hg hK hI hA kw_446 kw_447 kw_448 kw_1 kw_449 ky_GB_isTold ⟨Nat.le_of_ble_eq_true rfl, Nat.le_of_ble_eq_true rfl⟩ rfl rfl ⟨Nat.le_of_ble_eq_true rfl, Nat.le_of_ble_eq_true rfl⟩ (fr_l wd_GB) rfl rfl hl.1 (Nat.le_of_ble_eq_true rfl) d_LW_isTold_4 htab ⟨by decide, by decide⟩ (by decide) kw_403 kg_IOO (by intro z hz; cases hz) rfl (fun H locs q hI => ?_)
  refine lv_astore_n (lv' := [(3, .ref q), (0, .ref (ad 0)), (1, .int x0), (2, .ref ao)]) hx hb d_LW_isTold_19 rfl hl (by decide) rfl (fun ls hl => ?_)
  refine lv_iconst (v := nI 1) hx hb d_LW_isTold_20 (by decide) ?_
  exact g_ri1 hx hb hr hlk hI (rfl) (Nat.le_of_ble_eq_true rfl) (Nat.le_of_ble_eq_true rfl) d_LW_isTold_21
