set_option maxHeartbeats 4000000 in
set_option maxRecDepth 100000 in
theorem x_GB_lay {l : Launch} (hfl : l.flags = flags0) {D : va_G} {cG cZ cI cJ : ClassId} {ad : Nat → Nat} (σ : gS) (x y : Int32) (hbad : ¬ (¬ x < nI 1 ∧ ¬ nI 4 < x ∧ ¬ y < nI 16 ∧ y ≤ nI 256)) : gThr l D (gT cG cZ cI cJ) y_GB_lay b_GB_lay 3 (some .int) ({ frames := 8, cells := 1, slots := 6, locals := 140 }) (wd ad cG cZ σ) [.ref (ad 0), .int x, .int y] "java/lang/IllegalArgumentException" := by
  refine gThr_of (by decide) (Nat.le_of_ble_eq_true rfl) ?_
  intro p e s m below meth c A ls hC hA hst hE hex hI hl
  obtain ⟨hx, hb, hr, hlk, hown, hml, hg, hK⟩ := hC
  have hown : s.vm.findClass "GroupBitmaps" = some m.cls := hown
  have hl : lv_has ls 3 [(0, .ref (ad 0)), (1, .int x), (2, .int y)] := hl
  refine lv_iload_n hx hb d_GB_lay_0 rfl (lv_at hl 1 rfl) ?_
  refine lv_iconst (v := nI 1) hx hb d_GB_lay_1 (by decide) ?_
  refine lv_icmp_lt (tgt := 10) hx hb d_GB_lay_2 (by decide) (fun h => ?_) (fun h => ?_)
  · exact g_throw (nL := 3) (own := "GroupBitmaps") (E := "java/lang/IllegalArgumentException") (tx := "groups is not 1 .. 4") (names := ["java/lang/RuntimeException", "java/lang/Exception"]) (ik := 26) (is := 28) (ic := 30) hx hb hfl hml hown hlk hg hE hA hex hI (by decide +kernel) xfit kw_127 kw_8 kw_128 kx_168 rfl xat_IAE hl.1 (Nat.le_of_ble_eq_true rfl) (Nat.le_of_ble_eq_true rfl) (Nat.le_of_ble_eq_true rfl) (Nat.le_of_ble_eq_true rfl) d_GB_lay_10 d_GB_lay_13 d_GB_lay_14 d_GB_lay_16 d_GB_lay_19
  · refine lv_iload_n hx hb d_GB_lay_5 rfl (lv_at hl 1 rfl) ?_
    refine lv_iconst (v := nI 4) hx hb d_GB_lay_6 (by decide) ?_
    refine lv_icmp_le (tgt := 20) hx hb d_GB_lay_7 (by decide) (fun h2 => ?_) (fun h2 => ?_)
    · refine lv_iload_n hx hb d_GB_lay_20 rfl (lv_at hl 2 rfl) ?_
      refine lv_bipush (v := nI 16) hx hb d_GB_lay_21 (by decide) ?_
      refine lv_icmp_lt (tgt := 33) hx hb d_GB_lay_23 (by decide) (fun h3 => ?_) (fun h3 => ?_)
      · exact g_throw (nL := 3) (own := "GroupBitmaps") (E := "java/lang/IllegalArgumentException") (tx := "last is not 16 .. 256") (names := ["java/lang/RuntimeException", "java/lang/Exception"]) (ik := 26) (is := 33) (ic := 30) hx hb hfl hml hown hlk hg hE hA hex hI (by decide +kernel) xfit kw_127 kw_8 kw_128 kx_195 rfl xat_IAE hl.1 (Nat.le_of_ble_eq_true rfl) (Nat.le_of_ble_eq_true rfl) (Nat.le_of_ble_eq_true rfl) (Nat.le_of_ble_eq_true rfl) d_GB_lay_33 d_GB_lay_36 d_GB_lay_37 d_GB_lay_39 d_GB_lay_42
      · refine lv_iload_n hx hb d_GB_lay_26 rfl (lv_at hl 2 rfl) ?_
        refine lv_sipush (v := nI 256) hx hb d_GB_lay_27 (by decide) ?_
        refine lv_icmp_le (tgt := 43) hx hb d_GB_lay_30 (by decide) (fun h4 => ?_) (fun h4 => ?_)
        · exact absurd (⟨h, Int32.not_lt.mpr h2, h3, h4⟩) hbad
        · exact g_throw (nL := 3) (own := "GroupBitmaps") (E := "java/lang/IllegalArgumentException") (tx := "last is not 16 .. 256") (names := ["java/lang/RuntimeException", "java/lang/Exception"]) (ik := 26) (is := 33) (ic := 30) hx hb hfl hml hown hlk hg hE hA hex hI (by decide +kernel) xfit kw_127 kw_8 kw_128 kx_195 rfl xat_IAE hl.1 (Nat.le_of_ble_eq_true rfl) (Nat.le_of_ble_eq_true rfl) (Nat.le_of_ble_eq_true rfl) (Nat.le_of_ble_eq_true rfl) d_GB_lay_33 d_GB_lay_36 d_GB_lay_37 d_GB_lay_39 d_GB_lay_42
    · exact g_throw (nL := 3) (own := "GroupBitmaps") (E := "java/lang/IllegalArgumentException") (tx := "groups is not 1 .. 4") (names := ["java/lang/RuntimeException", "java/lang/Exception"]) (ik := 26) (is := 28) (ic := 30) hx hb hfl hml hown hlk hg hE hA hex hI (by decide +kernel) xfit kw_127 kw_8 kw_128 kx_168 rfl xat_IAE hl.1 (Nat.le_of_ble_eq_true rfl) (Nat.le_of_ble_eq_true rfl) (Nat.le_of_ble_eq_true rfl) (Nat.le_of_ble_eq_true rfl) d_GB_lay_10 d_GB_lay_13 d_GB_lay_14 d_GB_lay_16 d_GB_lay_19
set_option maxHeartbeats 4000000 in
set_option maxRecDepth 100000 in
theorem x_GB_reserve {l : Launch} (hfl : l.flags = flags0) {D : va_G} {cG cZ cI cJ : ClassId} {ad : Nat → Nat} (σ : gS) (x : Int32) (hbad : ¬ (¬ x < 0 ∧ x ≤ nI 100)) : gThr l D (gT cG cZ cI cJ) y_GB_reserve b_GB_reserve 2 (some .int) ({ frames := 8, cells := 1, slots := 6, locals := 140 }) (wd ad cG cZ σ) [.ref (ad 0), .int x] "java/lang/IllegalArgumentException" := by
  refine gThr_of (by decide) (Nat.le_of_ble_eq_true rfl) ?_
  intro p e s m below meth c A ls hC hA hst hE hex hI hl
  obtain ⟨hx, hb, hr, hlk, hown, hml, hg, hK⟩ := hC
  have hown : s.vm.findClass "GroupBitmaps" = some m.cls := hown
  have hl : lv_has ls 2 [(0, .ref (ad 0)), (1, .int x)] := hl
  refine lv_iload_n hx hb d_GB_reserve_0 rfl (lv_at hl 1 rfl) ?_
  refine lv_if_lt (tgt := 10) hx hb d_GB_reserve_1 (by decide) (fun h => ?_) (fun h => ?_)
  · exact g_throw (nL := 2) (own := "GroupBitmaps") (E := "java/lang/IllegalArgumentException") (tx := "n is not 0 .. 100") (names := ["java/lang/RuntimeException", "java/lang/Exception"]) (ik := 26) (is := 39) (ic := 30) hx hb hfl hml hown hlk hg hE hA hex hI (by decide +kernel) xfit kw_127 kw_8 kw_128 kx_207 rfl xat_IAE hl.1 (Nat.le_of_ble_eq_true rfl) (Nat.le_of_ble_eq_true rfl) (Nat.le_of_ble_eq_true rfl) (Nat.le_of_ble_eq_true rfl) d_GB_reserve_10 d_GB_reserve_13 d_GB_reserve_14 d_GB_reserve_16 d_GB_reserve_19
  · refine lv_iload_n hx hb d_GB_reserve_4 rfl (lv_at hl 1 rfl) ?_
    refine lv_bipush (v := nI 100) hx hb d_GB_reserve_5 (by decide) ?_
    refine lv_icmp_le (tgt := 20) hx hb d_GB_reserve_7 (by decide) (fun h2 => ?_) (fun h2 => ?_)
    · exact absurd (⟨h, h2⟩) hbad
    · exact g_throw (nL := 2) (own := "GroupBitmaps") (E := "java/lang/IllegalArgumentException") (tx := "n is not 0 .. 100") (names := ["java/lang/RuntimeException", "java/lang/Exception"]) (ik := 26) (is := 39) (ic := 30) hx hb hfl hml hown hlk hg hE hA hex hI (by decide +kernel) xfit kw_127 kw_8 kw_128 kx_207 rfl xat_IAE hl.1 (Nat.le_of_ble_eq_true rfl) (Nat.le_of_ble_eq_true rfl) (Nat.le_of_ble_eq_true rfl) (Nat.le_of_ble_eq_true rfl) d_GB_reserve_10 d_GB_reserve_13 d_GB_reserve_14 d_GB_reserve_16 d_GB_reserve_19
set_option maxHeartbeats 4000000 in
set_option maxRecDepth 100000 in
theorem x_GB_take {l : Launch} (hfl : l.flags = flags0) {D : va_G} {cG cZ cI cJ : ClassId} {ad : Nat → Nat} (σ : gS) (hσ : sB σ) (x y : Int32) (al : Bool) (hbad : ¬ (sHasB σ x = true ∧ ¬ y < nI 1 ∧ y ≤ nI 256)) : gThr l D (gT cG cZ cI cJ) y_GB_take b_GB_take 5 (some .int) ({ frames := 8, cells := 1, slots := 6, locals := 140 }) (wd ad cG cZ σ) [.ref (ad 0), .int x, .int y, .int (bI al)] "java/lang/IllegalArgumentException" := by
  refine gThr_of (by decide) (Nat.le_of_ble_eq_true rfl) ?_
  intro p e s m below meth c A ls hC hA hst hE hex hI hl
  obtain ⟨hx, hb, hr, hlk, hown, hml, hg, hK⟩ := hC
  have hown : s.vm.findClass "GroupBitmaps" = some m.cls := hown
  have hl : lv_has ls 5 [(0, .ref (ad 0)), (1, .int x), (2, .int y), (3, .int (bI al))] := hl
  have hc1 := hσ.1
  have hc2 := hσ.2.1
  refine lv_aload_n hx hb d_GB_take_0 rfl (lv_at hl 0 rfl) ?_
  refine lv_iload_n hx hb d_GB_take_1 rfl (lv_at hl 1 rfl) ?_
  refine g_callV (own := "GroupBitmaps") (C := "GroupBitmaps") (T := F_GB) (N := 5) (k := 1) (q0 := 0) (ci := 0) (a := ad 0) (As := [.int x]) (rest := []) (c_GB_hasBlock σ hσ x) hx hb hml hown hg hK hI hA kw_223 kw_225 kp_4 kw_1 kw_226 ky_GB_hasBlock ⟨Nat.le_of_ble_eq_true rfl, Nat.le_of_ble_eq_true rfl⟩ rfl rfl (wd_GB) rfl rfl hl.1 (Nat.le_of_ble_eq_true rfl) ⟨Nat.zero_le _, Nat.zero_le _⟩ d_GB_take_2 rfl rfl (fun H locs hI => ?_)
  refine r_bnz (b := sHasB σ x) (tgt := 18) hx hb d_GB_take_5 (by decide) (fun h => ?_) (fun h => ?_)
  · refine lv_iload_n hx hb d_GB_take_18 rfl (lv_at hl 2 rfl) ?_
    refine lv_iconst (v := nI 1) hx hb d_GB_take_19 (by decide) ?_
    refine lv_icmp_lt (tgt := 30) hx hb d_GB_take_20 (by decide) (fun h2 => ?_) (fun h2 => ?_)
    · exact g_throw (nL := 5) (own := "GroupBitmaps") (E := "java/lang/IllegalArgumentException") (tx := "n is not 1 .. 256") (names := ["java/lang/RuntimeException", "java/lang/Exception"]) (ik := 26) (is := 54) (ic := 30) hx hb hfl hml hown hlk hg hE hA hex hI (by decide +kernel) xfit kw_127 kw_8 kw_128 kx_232 rfl xat_IAE hl.1 (Nat.le_of_ble_eq_true rfl) (Nat.le_of_ble_eq_true rfl) (Nat.le_of_ble_eq_true rfl) (Nat.le_of_ble_eq_true rfl) d_GB_take_30 d_GB_take_33 d_GB_take_34 d_GB_take_36 d_GB_take_39
    · refine lv_iload_n hx hb d_GB_take_23 rfl (lv_at hl 2 rfl) ?_
      refine lv_sipush (v := nI 256) hx hb d_GB_take_24 (by decide) ?_
      refine lv_icmp_le (tgt := 40) hx hb d_GB_take_27 (by decide) (fun h3 => ?_) (fun h3 => ?_)
      · exact absurd (⟨h, h2, h3⟩) hbad
      · exact g_throw (nL := 5) (own := "GroupBitmaps") (E := "java/lang/IllegalArgumentException") (tx := "n is not 1 .. 256") (names := ["java/lang/RuntimeException", "java/lang/Exception"]) (ik := 26) (is := 54) (ic := 30) hx hb hfl hml hown hlk hg hE hA hex hI (by decide +kernel) xfit kw_127 kw_8 kw_128 kx_232 rfl xat_IAE hl.1 (Nat.le_of_ble_eq_true rfl) (Nat.le_of_ble_eq_true rfl) (Nat.le_of_ble_eq_true rfl) (Nat.le_of_ble_eq_true rfl) d_GB_take_30 d_GB_take_33 d_GB_take_34 d_GB_take_36 d_GB_take_39
  · exact g_throw (nL := 5) (own := "GroupBitmaps") (E := "java/lang/IllegalArgumentException") (tx := "goal is no block of a group") (names := ["java/lang/RuntimeException", "java/lang/Exception"]) (ik := 26) (is := 52) (ic := 30) hx hb hfl hml hown hlk hg hE hA hex hI (by decide +kernel) xfit kw_127 kw_8 kw_128 kx_231 rfl xat_IAE hl.1 (Nat.le_of_ble_eq_true rfl) (Nat.le_of_ble_eq_true rfl) (Nat.le_of_ble_eq_true rfl) (Nat.le_of_ble_eq_true rfl) d_GB_take_8 d_GB_take_11 d_GB_take_12 d_GB_take_14 d_GB_take_17
set_option maxHeartbeats 4000000 in
set_option maxRecDepth 100000 in
theorem x_GB_take_no {l : Launch} (hfl : l.flags = flags0) {D : va_G} {cG cZ cI cJ : ClassId} {ad : Nat → Nat} (σ : gS) (hσ : sB σ) (goal nn : Nat) (al : Bool) (hgo : goal < sAll σ) (hn1 : 1 ≤ nn) (hn2 : nn ≤ 256) (hmy : sMay σ al = 0) : gThr l D (gT cG cZ cI cJ) y_GB_take b_GB_take 5 (some .int) ({ frames := 8, cells := 1, slots := 6, locals := 140 }) (wd ad cG cZ σ) [.ref (ad 0), .int (nI goal), .int (nI nn), .int (bI al)] "java/lang/IllegalStateException" := by
  refine gThr_of (by decide) (Nat.le_of_ble_eq_true rfl) ?_
  intro p e s m below meth c A ls hC hA hst hE hex hI hl
  obtain ⟨hx, hb, hr, hlk, hown, hml, hg, hK⟩ := hC
  have hown : s.vm.findClass "GroupBitmaps" = some m.cls := hown
  have hl : lv_has ls 5 [(0, .ref (ad 0)), (1, .int (nI goal)), (2, .int (nI nn)), (3, .int (bI al))] := hl
  have hc1 := hσ.1
  have hc2 := hσ.2.1
  have hal := sAll_le hσ
  refine lv_aload_n hx hb d_GB_take_0 rfl (lv_at hl 0 rfl) ?_
  refine lv_iload_n hx hb d_GB_take_1 rfl (lv_at hl 1 rfl) ?_
  refine g_callV (own := "GroupBitmaps") (C := "GroupBitmaps") (T := F_GB) (N := 5) (k := 1) (q0 := 0) (ci := 0) (a := ad 0) (As := [.int (nI goal)]) (rest := []) (c_GB_hasBlock σ hσ (nI goal)) hx hb hml hown hg hK hI hA kw_223 kw_225 kp_4 kw_1 kw_226 ky_GB_hasBlock ⟨Nat.le_of_ble_eq_true rfl, Nat.le_of_ble_eq_true rfl⟩ rfl rfl (wd_GB) rfl rfl hl.1 (Nat.le_of_ble_eq_true rfl) ⟨Nat.zero_le _, Nat.zero_le _⟩ d_GB_take_2 rfl rfl (fun H locs hI => ?_)
  refine r_bnz (b := sHasB σ (nI goal)) (tgt := 18) hx hb d_GB_take_5 (by decide) (fun h => ?_) (fun h => ?_)
  · refine lv_iload_n hx hb d_GB_take_18 rfl (lv_at hl 2 rfl) ?_
    refine lv_iconst (v := nI 1) hx hb d_GB_take_19 (by decide) ?_
    refine r_lt (a := nn) (b := 1) (tgt := 30) hx hb d_GB_take_20 (by decide) (by omega) (by omega) (fun h9 => ?_) (fun h9 => ?_)
    · exact absurd h9 (by omega)
    · refine lv_iload_n hx hb d_GB_take_23 rfl (lv_at hl 2 rfl) ?_
      refine lv_sipush (v := nI 256) hx hb d_GB_take_24 (by decide) ?_
      refine r_le (a := nn) (b := 256) (tgt := 40) hx hb d_GB_take_27 (by decide) (by omega) (by omega) (fun h9 => ?_) (fun h9 => ?_)
      · refine lv_aload_n hx hb d_GB_take_40 rfl (lv_at hl 0 rfl) ?_
        refine lv_iload_n hx hb d_GB_take_41 rfl (lv_at hl 3 rfl) ?_
        refine g_callV (own := "GroupBitmaps") (C := "GroupBitmaps") (T := F_GB) (N := 5) (k := 1) (q0 := 0) (ci := 0) (a := ad 0) (As := [.int (bI al)]) (rest := []) (c_GB_takeable σ hσ al) hx hb hml hown hg hK hI hA kw_208 kw_210 kp_3 kw_1 kw_211 ky_GB_takeable ⟨Nat.le_of_ble_eq_true rfl, Nat.le_of_ble_eq_true rfl⟩ rfl rfl (wd_GB) rfl rfl hl.1 (Nat.le_of_ble_eq_true rfl) ⟨Nat.zero_le _, Nat.zero_le _⟩ d_GB_take_42 rfl rfl (fun H locs hI => ?_)
        refine lv_istore (lv' := [(4, .int (nI (sMay σ al))), (0, .ref (ad 0)), (1, .int (nI goal)), (2, .int (nI nn)), (3, .int (bI al))]) hx hb d_GB_take_45 hl (by decide) rfl (fun ls hl => ?_)
        refine lv_iload hx hb d_GB_take_47 (lv_at hl 0 rfl) ?_
        refine lv_iconst (v := nI 1) hx hb d_GB_take_49 (by decide) ?_
        refine r_ge (a := sMay σ al) (b := 1) (tgt := 63) hx hb d_GB_take_50 (by decide) (by omega) (by omega) (fun h9 => ?_) (fun h9 => ?_)
        · exact absurd h9 (by omega)
        · exact g_throw (nL := 5) (own := "GroupBitmaps") (E := "java/lang/IllegalStateException") (tx := "no block may be taken") (names := ["java/lang/RuntimeException", "java/lang/Exception"]) (ik := 56) (is := 58) (ic := 60) hx hb hfl hml hown hlk hg hE hA hex hI (by decide +kernel) xfit kw_233 kw_10 kw_234 kx_242 rfl xat_ISE hl.1 (Nat.le_of_ble_eq_true rfl) (Nat.le_of_ble_eq_true rfl) (Nat.le_of_ble_eq_true rfl) (Nat.le_of_ble_eq_true rfl) d_GB_take_53 d_GB_take_56 d_GB_take_57 d_GB_take_59 d_GB_take_62
      · exact absurd h9 (by omega)
  · exact absurd ((sHasB_nI hσ hgo).symm.trans h) (by decide)
set_option maxHeartbeats 4000000 in
set_option maxRecDepth 100000 in
theorem x_GB_give1 {l : Launch} (hfl : l.flags = flags0) {D : va_G} {cG cZ cI cJ : ClassId} {ad : Nat → Nat} (σ : gS) (x y : Int32) (hbad : ¬ (¬ y < nI 1 ∧ ¬ nI 1024 < y)) : gThr l D (gT cG cZ cI cJ) y_GB_give b_GB_give 4 (some .int) ({ frames := 8, cells := 1, slots := 6, locals := 140 }) (wd ad cG cZ σ) [.ref (ad 0), .int x, .int y] "java/lang/IllegalArgumentException" := by
  refine gThr_of (by decide) (Nat.le_of_ble_eq_true rfl) ?_
  intro p e s m below meth c A ls hC hA hst hE hex hI hl
  obtain ⟨hx, hb, hr, hlk, hown, hml, hg, hK⟩ := hC
  have hown : s.vm.findClass "GroupBitmaps" = some m.cls := hown
  have hl : lv_has ls 4 [(0, .ref (ad 0)), (1, .int x), (2, .int y)] := hl
  refine lv_iload_n hx hb d_GB_give_0 rfl (lv_at hl 2 rfl) ?_
  refine lv_iconst (v := nI 1) hx hb d_GB_give_1 (by decide) ?_
  refine lv_icmp_lt (tgt := 12) hx hb d_GB_give_2 (by decide) (fun h => ?_) (fun h => ?_)
  · exact g_throw (nL := 4) (own := "GroupBitmaps") (E := "java/lang/IllegalArgumentException") (tx := "n is not 1 .. 1,024") (names := ["java/lang/RuntimeException", "java/lang/Exception"]) (ik := 26) (is := 73) (ic := 30) hx hb hfl hml hown hlk hg hE hA hex hI (by decide +kernel) xfit kw_127 kw_8 kw_128 kx_300 rfl xat_IAE hl.1 (Nat.le_of_ble_eq_true rfl) (Nat.le_of_ble_eq_true rfl) (Nat.le_of_ble_eq_true rfl) (Nat.le_of_ble_eq_true rfl) d_GB_give_12 d_GB_give_15 d_GB_give_16 d_GB_give_18 d_GB_give_21
  · refine lv_iload_n hx hb d_GB_give_5 rfl (lv_at hl 2 rfl) ?_
    refine lv_sipush (v := nI 1024) hx hb d_GB_give_6 (by decide) ?_
    refine lv_icmp_le (tgt := 22) hx hb d_GB_give_9 (by decide) (fun h2 => ?_) (fun h2 => ?_)
    · exact absurd (⟨h, Int32.not_lt.mpr h2⟩) hbad
    · exact g_throw (nL := 4) (own := "GroupBitmaps") (E := "java/lang/IllegalArgumentException") (tx := "n is not 1 .. 1,024") (names := ["java/lang/RuntimeException", "java/lang/Exception"]) (ik := 26) (is := 73) (ic := 30) hx hb hfl hml hown hlk hg hE hA hex hI (by decide +kernel) xfit kw_127 kw_8 kw_128 kx_300 rfl xat_IAE hl.1 (Nat.le_of_ble_eq_true rfl) (Nat.le_of_ble_eq_true rfl) (Nat.le_of_ble_eq_true rfl) (Nat.le_of_ble_eq_true rfl) d_GB_give_12 d_GB_give_15 d_GB_give_16 d_GB_give_18 d_GB_give_21
set_option maxHeartbeats 4000000 in
set_option maxRecDepth 100000 in
theorem x_GB_give2 {l : Launch} (hfl : l.flags = flags0) {D : va_G} {cG cZ cI cJ : ClassId} {ad : Nat → Nat} (σ : gS) (hσ : sB σ) (x : Int32) (q : Nat) (hq1 : 1 ≤ q) (hq : q ≤ 1024) (hbad : sHasB σ x = false) : gThr l D (gT cG cZ cI cJ) y_GB_give b_GB_give 4 (some .int) ({ frames := 8, cells := 1, slots := 6, locals := 140 }) (wd ad cG cZ σ) [.ref (ad 0), .int x, .int (nI q)] "java/lang/IllegalArgumentException" := by
  refine gThr_of (by decide) (Nat.le_of_ble_eq_true rfl) ?_
  intro p e s m below meth c A ls hC hA hst hE hex hI hl
  obtain ⟨hx, hb, hr, hlk, hown, hml, hg, hK⟩ := hC
  have hown : s.vm.findClass "GroupBitmaps" = some m.cls := hown
  have hl : lv_has ls 4 [(0, .ref (ad 0)), (1, .int x), (2, .int (nI q))] := hl
  have hc1 := hσ.1
  have hc2 := hσ.2.1
  refine lv_iload_n hx hb d_GB_give_0 rfl (lv_at hl 2 rfl) ?_
  refine lv_iconst (v := nI 1) hx hb d_GB_give_1 (by decide) ?_
  refine r_lt (a := q) (b := 1) (tgt := 12) hx hb d_GB_give_2 (by decide) (by omega) (by omega) (fun h9 => ?_) (fun h9 => ?_)
  · exact absurd h9 (by omega)
  · refine lv_iload_n hx hb d_GB_give_5 rfl (lv_at hl 2 rfl) ?_
    refine lv_sipush (v := nI 1024) hx hb d_GB_give_6 (by decide) ?_
    refine r_le (a := q) (b := 1024) (tgt := 22) hx hb d_GB_give_9 (by decide) (by omega) (by omega) (fun h9 => ?_) (fun h9 => ?_)
    · refine lv_aload_n hx hb d_GB_give_22 rfl (lv_at hl 0 rfl) ?_
      refine lv_iload_n hx hb d_GB_give_23 rfl (lv_at hl 1 rfl) ?_
      refine g_callV (own := "GroupBitmaps") (C := "GroupBitmaps") (T := F_GB) (N := 5) (k := 1) (q0 := 0) (ci := 0) (a := ad 0) (As := [.int x]) (rest := []) (c_GB_hasBlock σ hσ x) hx hb hml hown hg hK hI hA kw_223 kw_225 kp_4 kw_1 kw_226 ky_GB_hasBlock ⟨Nat.le_of_ble_eq_true rfl, Nat.le_of_ble_eq_true rfl⟩ rfl rfl (wd_GB) rfl rfl hl.1 (Nat.le_of_ble_eq_true rfl) ⟨Nat.zero_le _, Nat.zero_le _⟩ d_GB_give_24 rfl rfl (fun H locs hI => ?_)
      refine r_bz (b := sHasB σ x) (tgt := 40) hx hb d_GB_give_27 (by decide) (fun h => ?_) (fun h => ?_)
      · exact g_throw (nL := 4) (own := "GroupBitmaps") (E := "java/lang/IllegalArgumentException") (tx := "one of them is no block of a group") (names := ["java/lang/RuntimeException", "java/lang/Exception"]) (ik := 26) (is := 78) (ic := 30) hx hb hfl hml hown hlk hg hE hA hex hI (by decide +kernel) xfit kw_127 kw_8 kw_128 kx_301 rfl xat_IAE hl.1 (Nat.le_of_ble_eq_true rfl) (Nat.le_of_ble_eq_true rfl) (Nat.le_of_ble_eq_true rfl) (Nat.le_of_ble_eq_true rfl) d_GB_give_40 d_GB_give_43 d_GB_give_44 d_GB_give_46 d_GB_give_49
      · exact absurd (hbad.symm.trans h) (by decide)
    · exact absurd h9 (by omega)
set_option maxHeartbeats 4000000 in
set_option maxRecDepth 100000 in
theorem x_GB_give3 {l : Launch} (hfl : l.flags = flags0) {D : va_G} {cG cZ cI cJ : ClassId} {ad : Nat → Nat} (σ : gS) (hσ : sB σ) (a q : Nat) (hq1 : 1 ≤ q) (hq : q ≤ 1024) (ha : a < sAll σ) (hbad : sAll σ < a + q) : gThr l D (gT cG cZ cI cJ) y_GB_give b_GB_give 4 (some .int) ({ frames := 8, cells := 1, slots := 6, locals := 140 }) (wd ad cG cZ σ) [.ref (ad 0), .int (nI a), .int (nI q)] "java/lang/IllegalArgumentException" := by
  refine gThr_of (by decide) (Nat.le_of_ble_eq_true rfl) ?_
  intro p e s m below meth c A ls hC hA hst hE hex hI hl
  obtain ⟨hx, hb, hr, hlk, hown, hml, hg, hK⟩ := hC
  have hown : s.vm.findClass "GroupBitmaps" = some m.cls := hown
  have hl : lv_has ls 4 [(0, .ref (ad 0)), (1, .int (nI a)), (2, .int (nI q))] := hl
  have hc1 := hσ.1
  have hc2 := hσ.2.1
  have hal := sAll_le hσ
  refine lv_iload_n hx hb d_GB_give_0 rfl (lv_at hl 2 rfl) ?_
  refine lv_iconst (v := nI 1) hx hb d_GB_give_1 (by decide) ?_
  refine r_lt (a := q) (b := 1) (tgt := 12) hx hb d_GB_give_2 (by decide) (by omega) (by omega) (fun h9 => ?_) (fun h9 => ?_)
  · exact absurd h9 (by omega)
  · refine lv_iload_n hx hb d_GB_give_5 rfl (lv_at hl 2 rfl) ?_
    refine lv_sipush (v := nI 1024) hx hb d_GB_give_6 (by decide) ?_
    refine r_le (a := q) (b := 1024) (tgt := 22) hx hb d_GB_give_9 (by decide) (by omega) (by omega) (fun h9 => ?_) (fun h9 => ?_)
    · refine lv_aload_n hx hb d_GB_give_22 rfl (lv_at hl 0 rfl) ?_
      refine lv_iload_n hx hb d_GB_give_23 rfl (lv_at hl 1 rfl) ?_
      refine g_callV (own := "GroupBitmaps") (C := "GroupBitmaps") (T := F_GB) (N := 5) (k := 1) (q0 := 0) (ci := 0) (a := ad 0) (As := [.int (nI a)]) (rest := []) (c_GB_hasBlock σ hσ (nI a)) hx hb hml hown hg hK hI hA kw_223 kw_225 kp_4 kw_1 kw_226 ky_GB_hasBlock ⟨Nat.le_of_ble_eq_true rfl, Nat.le_of_ble_eq_true rfl⟩ rfl rfl (wd_GB) rfl rfl hl.1 (Nat.le_of_ble_eq_true rfl) ⟨Nat.zero_le _, Nat.zero_le _⟩ d_GB_give_24 rfl rfl (fun H locs hI => ?_)
      refine r_bz (b := sHasB σ (nI a)) (tgt := 40) hx hb d_GB_give_27 (by decide) (fun h => ?_) (fun h => ?_)
      · exact absurd ((sHasB_nI hσ ha).symm.trans h) (by decide)
      · refine lv_iload_n hx hb d_GB_give_30 rfl (lv_at hl 2 rfl) ?_
        refine lv_aload_n hx hb d_GB_give_31 rfl (lv_at hl 0 rfl) ?_
        refine g_callV (own := "GroupBitmaps") (C := "GroupBitmaps") (T := F_GB) (N := 5) (k := 0) (q0 := 0) (ci := 0) (a := ad 0) (As := []) (rest := [.int (nI q)]) (c_GB_allBlocks σ hσ) hx hb hml hown hg hK hI hA kw_227 kw_229 kp_5 kw_1 kw_230 ky_GB_allBlocks ⟨Nat.le_of_ble_eq_true rfl, Nat.le_of_ble_eq_true rfl⟩ rfl rfl (wd_GB) rfl rfl hl.1 (Nat.le_of_ble_eq_true rfl) ⟨Nat.zero_le _, Nat.zero_le _⟩ d_GB_give_32 rfl rfl (fun H locs hI => ?_)
        refine lv_iload_n hx hb d_GB_give_35 rfl (lv_at hl 1 rfl) ?_
        refine r_isub (a := sAll σ) (b := a) hx hb (by omega) d_GB_give_36 ?_
        refine r_le (a := q) (b := (sAll σ) - a) (tgt := 50) hx hb d_GB_give_37 (by decide) (by omega) (by omega) (fun h9 => ?_) (fun h9 => ?_)
        · exact absurd h9 (by omega)
        · exact g_throw (nL := 4) (own := "GroupBitmaps") (E := "java/lang/IllegalArgumentException") (tx := "one of them is no block of a group") (names := ["java/lang/RuntimeException", "java/lang/Exception"]) (ik := 26) (is := 78) (ic := 30) hx hb hfl hml hown hlk hg hE hA hex hI (by decide +kernel) xfit kw_127 kw_8 kw_128 kx_301 rfl xat_IAE hl.1 (Nat.le_of_ble_eq_true rfl) (Nat.le_of_ble_eq_true rfl) (Nat.le_of_ble_eq_true rfl) (Nat.le_of_ble_eq_true rfl) d_GB_give_40 d_GB_give_43 d_GB_give_44 d_GB_give_46 d_GB_give_49
    · exact absurd h9 (by omega)
set_option maxHeartbeats 4000000 in
set_option maxRecDepth 100000 in
theorem x_GB_give_no {l : Launch} (hfl : l.flags = flags0) {D : va_G} {cG cZ cI cJ : ClassId} {ad : Nat → Nat} (σ : gS) (hσ : sB σ) (a q : Nat) (hq1 : 1 ≤ q) (hq : q ≤ 1024) (haq : a + q ≤ sAll σ) (hgv : sGv σ a q = false) : gThr l D (gT cG cZ cI cJ) y_GB_give b_GB_give 4 (some .int) ({ frames := 8, cells := 1, slots := 6, locals := 140 }) (wd ad cG cZ σ) [.ref (ad 0), .int (nI a), .int (nI q)] "java/lang/IllegalStateException" := by
  refine gThr_of (by decide) (Nat.le_of_ble_eq_true rfl) ?_
  intro p e s m below meth c A ls hC hA hst hE hex hI hl
  obtain ⟨hx, hb, hr, hlk, hown, hml, hg, hK⟩ := hC
  have hown : s.vm.findClass "GroupBitmaps" = some m.cls := hown
  have hl : lv_has ls 4 [(0, .ref (ad 0)), (1, .int (nI a)), (2, .int (nI q))] := hl
  have hc1 := hσ.1
  have hc2 := hσ.2.1
  have hal := sAll_le hσ
  refine lv_iload_n hx hb d_GB_give_0 rfl (lv_at hl 2 rfl) ?_
  refine lv_iconst (v := nI 1) hx hb d_GB_give_1 (by decide) ?_
  refine r_lt (a := q) (b := 1) (tgt := 12) hx hb d_GB_give_2 (by decide) (by omega) (by omega) (fun h9 => ?_) (fun h9 => ?_)
  · exact absurd h9 (by omega)
  · refine lv_iload_n hx hb d_GB_give_5 rfl (lv_at hl 2 rfl) ?_
    refine lv_sipush (v := nI 1024) hx hb d_GB_give_6 (by decide) ?_
    refine r_le (a := q) (b := 1024) (tgt := 22) hx hb d_GB_give_9 (by decide) (by omega) (by omega) (fun h9 => ?_) (fun h9 => ?_)
    · refine lv_aload_n hx hb d_GB_give_22 rfl (lv_at hl 0 rfl) ?_
      refine lv_iload_n hx hb d_GB_give_23 rfl (lv_at hl 1 rfl) ?_
      refine g_callV (own := "GroupBitmaps") (C := "GroupBitmaps") (T := F_GB) (N := 5) (k := 1) (q0 := 0) (ci := 0) (a := ad 0) (As := [.int (nI a)]) (rest := []) (c_GB_hasBlock σ hσ (nI a)) hx hb hml hown hg hK hI hA kw_223 kw_225 kp_4 kw_1 kw_226 ky_GB_hasBlock ⟨Nat.le_of_ble_eq_true rfl, Nat.le_of_ble_eq_true rfl⟩ rfl rfl (wd_GB) rfl rfl hl.1 (Nat.le_of_ble_eq_true rfl) ⟨Nat.zero_le _, Nat.zero_le _⟩ d_GB_give_24 rfl rfl (fun H locs hI => ?_)
      refine r_bz (b := sHasB σ (nI a)) (tgt := 40) hx hb d_GB_give_27 (by decide) (fun h => ?_) (fun h => ?_)
      · exact absurd ((sHasB_nI hσ (by omega)).symm.trans h) (by decide)
      · refine lv_iload_n hx hb d_GB_give_30 rfl (lv_at hl 2 rfl) ?_
        refine lv_aload_n hx hb d_GB_give_31 rfl (lv_at hl 0 rfl) ?_
        refine g_callV (own := "GroupBitmaps") (C := "GroupBitmaps") (T := F_GB) (N := 5) (k := 0) (q0 := 0) (ci := 0) (a := ad 0) (As := []) (rest := [.int (nI q)]) (c_GB_allBlocks σ hσ) hx hb hml hown hg hK hI hA kw_227 kw_229 kp_5 kw_1 kw_230 ky_GB_allBlocks ⟨Nat.le_of_ble_eq_true rfl, Nat.le_of_ble_eq_true rfl⟩ rfl rfl (wd_GB) rfl rfl hl.1 (Nat.le_of_ble_eq_true rfl) ⟨Nat.zero_le _, Nat.zero_le _⟩ d_GB_give_32 rfl rfl (fun H locs hI => ?_)
        refine lv_iload_n hx hb d_GB_give_35 rfl (lv_at hl 1 rfl) ?_
        refine r_isub (a := sAll σ) (b := a) hx hb (by omega) d_GB_give_36 ?_
        refine r_le (a := q) (b := (sAll σ) - a) (tgt := 50) hx hb d_GB_give_37 (by decide) (by omega) (by omega) (fun h9 => ?_) (fun h9 => ?_)
        · refine lv_aload_n hx hb d_GB_give_50 rfl (lv_at hl 0 rfl) ?_
          refine lv_iload_n hx hb d_GB_give_51 rfl (lv_at hl 1 rfl) ?_
          refine lv_iload_n hx hb d_GB_give_52 rfl (lv_at hl 2 rfl) ?_
          refine g_callV (own := "GroupBitmaps") (C := "GroupBitmaps") (T := F_GB) (N := 5) (k := 2) (q0 := 0) (ci := 0) (a := ad 0) (As := [.int (nI a), .int (nI q)]) (rest := []) (c_GB_areGivable σ a q (by omega)) hx hb hml hown hg hK hI hA kw_302 kw_304 kp_11 kw_1 kw_305 ky_GB_areGivable ⟨Nat.le_of_ble_eq_true rfl, Nat.le_of_ble_eq_true rfl⟩ rfl rfl (wd_GB) rfl rfl hl.1 (Nat.le_of_ble_eq_true rfl) ⟨Nat.zero_le _, Nat.zero_le _⟩ d_GB_give_53 rfl rfl (fun H locs hI => ?_)
          refine r_bnz (b := sGv σ a q) (tgt := 69) hx hb d_GB_give_56 (by decide) (fun h4 => ?_) (fun h4 => ?_)
          · exact absurd (hgv.symm.trans h4) (by decide)
          · exact g_throw (nL := 4) (own := "GroupBitmaps") (E := "java/lang/IllegalStateException") (tx := "one of them is free, or fixed") (names := ["java/lang/RuntimeException", "java/lang/Exception"]) (ik := 56) (is := 84) (ic := 60) hx hb hfl hml hown hlk hg hE hA hex hI (by decide +kernel) xfit kw_233 kw_10 kw_234 kx_307 rfl xat_ISE hl.1 (Nat.le_of_ble_eq_true rfl) (Nat.le_of_ble_eq_true rfl) (Nat.le_of_ble_eq_true rfl) (Nat.le_of_ble_eq_true rfl) d_GB_give_59 d_GB_give_62 d_GB_give_63 d_GB_give_65 d_GB_give_68
        · exact absurd h9 (by omega)
    · exact absurd h9 (by omega)
set_option maxHeartbeats 4000000 in
set_option maxRecDepth 100000 in
theorem x_GB_takeFile {l : Launch} (hfl : l.flags = flags0) {D : va_G} {cG cZ cI cJ : ClassId} {ad : Nat → Nat} (σ : gS) (hσ : sB σ) (x : Int32) (fo : Bool) (hbad : sHasF σ x = false) : gThr l D (gT cG cZ cI cJ) y_GB_takeFile b_GB_takeFile 4 (some .int) ({ frames := 8, cells := 1, slots := 6, locals := 140 }) (wd ad cG cZ σ) [.ref (ad 0), .int x, .int (bI fo)] "java/lang/IllegalArgumentException" := by
  refine gThr_of (by decide) (Nat.le_of_ble_eq_true rfl) ?_
  intro p e s m below meth c A ls hC hA hst hE hex hI hl
  obtain ⟨hx, hb, hr, hlk, hown, hml, hg, hK⟩ := hC
  have hown : s.vm.findClass "GroupBitmaps" = some m.cls := hown
  have hl : lv_has ls 4 [(0, .ref (ad 0)), (1, .int x), (2, .int (bI fo))] := hl
  have hc1 := hσ.1
  have hc2 := hσ.2.1
  refine lv_aload_n hx hb d_GB_takeFile_0 rfl (lv_at hl 0 rfl) ?_
  refine lv_iload_n hx hb d_GB_takeFile_1 rfl (lv_at hl 1 rfl) ?_
  refine g_callV (own := "GroupBitmaps") (C := "GroupBitmaps") (T := F_GB) (N := 5) (k := 1) (q0 := 0) (ci := 0) (a := ad 0) (As := [.int x]) (rest := []) (c_GB_hasFile σ hσ x) hx hb hml hown hg hK hI hA kw_319 kw_321 kp_12 kw_1 kw_322 ky_GB_hasFile ⟨Nat.le_of_ble_eq_true rfl, Nat.le_of_ble_eq_true rfl⟩ rfl rfl (wd_GB) rfl rfl hl.1 (Nat.le_of_ble_eq_true rfl) ⟨Nat.zero_le _, Nat.zero_le _⟩ d_GB_takeFile_2 rfl rfl (fun H locs hI => ?_)
  refine r_bnz (b := sHasF σ x) (tgt := 18) hx hb d_GB_takeFile_5 (by decide) (fun h => ?_) (fun h => ?_)
  · exact absurd (hbad.symm.trans h) (by decide)
  · exact g_throw (nL := 4) (own := "GroupBitmaps") (E := "java/lang/IllegalArgumentException") (tx := "there is no file parent") (names := ["java/lang/RuntimeException", "java/lang/Exception"]) (ik := 26) (is := 106) (ic := 30) hx hb hfl hml hown hlk hg hE hA hex hI (by decide +kernel) xfit kw_127 kw_8 kw_128 kx_323 rfl xat_IAE hl.1 (Nat.le_of_ble_eq_true rfl) (Nat.le_of_ble_eq_true rfl) (Nat.le_of_ble_eq_true rfl) (Nat.le_of_ble_eq_true rfl) d_GB_takeFile_8 d_GB_takeFile_11 d_GB_takeFile_12 d_GB_takeFile_14 d_GB_takeFile_17
set_option maxHeartbeats 4000000 in
set_option maxRecDepth 100000 in
theorem x_GB_takeFile_no {l : Launch} (hfl : l.flags = flags0) {D : va_G} {cG cZ cI cJ : ClassId} {ad : Nat → Nat} (σ : gS) (hσ : sB σ) (f : Nat) (hf1 : 1 ≤ f) (hf : f ≤ sCnt σ * 128) (hgg : sFolder σ f = none) : gThr l D (gT cG cZ cI cJ) y_GB_takeFile b_GB_takeFile 4 (some .int) ({ frames := 8, cells := 1, slots := 6, locals := 140 }) (wd ad cG cZ σ) [.ref (ad 0), .int (nI f), .int (bI true)] "java/lang/IllegalStateException" := by
  refine gThr_of (by decide) (Nat.le_of_ble_eq_true rfl) ?_
  intro p e s m below meth c A ls hC hA hst hE hex hI hl
  obtain ⟨hx, hb, hr, hlk, hown, hml, hg, hK⟩ := hC
  have hown : s.vm.findClass "GroupBitmaps" = some m.cls := hown
  have hl : lv_has ls 4 [(0, .ref (ad 0)), (1, .int (nI f)), (2, .int (bI true))] := hl
  have hc1 := hσ.1
  have hc2 := hσ.2.1
  refine lv_aload_n hx hb d_GB_takeFile_0 rfl (lv_at hl 0 rfl) ?_
  refine lv_iload_n hx hb d_GB_takeFile_1 rfl (lv_at hl 1 rfl) ?_
  refine g_callV (own := "GroupBitmaps") (C := "GroupBitmaps") (T := F_GB) (N := 5) (k := 1) (q0 := 0) (ci := 0) (a := ad 0) (As := [.int (nI f)]) (rest := []) (c_GB_hasFile σ hσ (nI f)) hx hb hml hown hg hK hI hA kw_319 kw_321 kp_12 kw_1 kw_322 ky_GB_hasFile ⟨Nat.le_of_ble_eq_true rfl, Nat.le_of_ble_eq_true rfl⟩ rfl rfl (wd_GB) rfl rfl hl.1 (Nat.le_of_ble_eq_true rfl) ⟨Nat.zero_le _, Nat.zero_le _⟩ d_GB_takeFile_2 rfl rfl (fun H locs hI => ?_)
  refine r_bnz (b := sHasF σ (nI f)) (tgt := 18) hx hb d_GB_takeFile_5 (by decide) (fun h => ?_) (fun h => ?_)
  · refine lv_iload_n hx hb d_GB_takeFile_18 rfl (lv_at hl 2 rfl) ?_
    refine r_bz (b := true) (tgt := 30) hx hb d_GB_takeFile_19 (by decide) (fun h9 => ?_) (fun h9 => ?_)
    · exact absurd h9 (by decide)
    · refine lv_aload_n hx hb d_GB_takeFile_22 rfl (lv_at hl 0 rfl) ?_
      refine lv_iload_n hx hb d_GB_takeFile_23 rfl (lv_at hl 1 rfl) ?_
      refine g_callV (own := "GroupBitmaps") (C := "GroupBitmaps") (T := F_GB) (N := 5) (k := 1) (q0 := 0) (ci := 0) (a := ad 0) (As := [.int (nI f)]) (rest := []) (c_GB_groupForFolder σ hσ f (by omega) (by omega)) hx hb hml hown hg hK hI hA kw_324 kw_326 kp_13 kw_1 kw_327 ky_GB_groupForFolder ⟨Nat.le_of_ble_eq_true rfl, Nat.le_of_ble_eq_true rfl⟩ rfl rfl (wd_GB) rfl rfl hl.1 (Nat.le_of_ble_eq_true rfl) ⟨Nat.zero_le _, Nat.zero_le _⟩ d_GB_takeFile_24 rfl rfl (fun H locs hI => ?_)
      rw [hgg]
      rw [show gR ad none = Value.null from rfl]
      refine lv_goto (tgt := 35) hx hb d_GB_takeFile_27 (by decide) ?_
      refine lv_astore_nN (lv' := [(3, .null), (0, .ref (ad 0)), (1, .int (nI f)), (2, .int (bI true))]) hx hb d_GB_takeFile_35 rfl hl (by decide) rfl (fun ls hl => ?_)
      refine lv_aload_nN hx hb d_GB_takeFile_36 rfl (lv_at hl 0 rfl) ?_
      refine lv_ifnonnullN hx hb d_GB_takeFile_37 ?_
      exact g_throw (nL := 4) (own := "GroupBitmaps") (E := "java/lang/IllegalStateException") (tx := "no file is free") (names := ["java/lang/RuntimeException", "java/lang/Exception"]) (ik := 56) (is := 114) (ic := 60) hx hb hfl hml hown hlk hg hE hA hex hI (by decide +kernel) xfit kw_233 kw_10 kw_234 kx_358 rfl xat_ISE hl.1 (Nat.le_of_ble_eq_true rfl) (Nat.le_of_ble_eq_true rfl) (Nat.le_of_ble_eq_true rfl) (Nat.le_of_ble_eq_true rfl) d_GB_takeFile_40 d_GB_takeFile_43 d_GB_takeFile_44 d_GB_takeFile_46 d_GB_takeFile_49
  · exact absurd ((sHasF_nI hσ (by omega) hf).symm.trans h) (by decide)
set_option maxHeartbeats 4000000 in
set_option maxRecDepth 100000 in
theorem x_GB_giveFile {l : Launch} (hfl : l.flags = flags0) {D : va_G} {cG cZ cI cJ : ClassId} {ad : Nat → Nat} (σ : gS) (hσ : sB σ) (x : Int32) (fo : Bool) (hbad : ¬ (sHasF σ x = true ∧ nI 11 ≤ x)) : gThr l D (gT cG cZ cI cJ) y_GB_giveFile b_GB_giveFile 5 (some .int) ({ frames := 8, cells := 1, slots := 6, locals := 140 }) (wd ad cG cZ σ) [.ref (ad 0), .int x, .int (bI fo)] "java/lang/IllegalArgumentException" := by
  refine gThr_of (by decide) (Nat.le_of_ble_eq_true rfl) ?_
  intro p e s m below meth c A ls hC hA hst hE hex hI hl
  obtain ⟨hx, hb, hr, hlk, hown, hml, hg, hK⟩ := hC
  have hown : s.vm.findClass "GroupBitmaps" = some m.cls := hown
  have hl : lv_has ls 5 [(0, .ref (ad 0)), (1, .int x), (2, .int (bI fo))] := hl
  have hc1 := hσ.1
  have hc2 := hσ.2.1
  refine lv_aload_n hx hb d_GB_giveFile_0 rfl (lv_at hl 0 rfl) ?_
  refine lv_iload_n hx hb d_GB_giveFile_1 rfl (lv_at hl 1 rfl) ?_
  refine g_callV (own := "GroupBitmaps") (C := "GroupBitmaps") (T := F_GB) (N := 5) (k := 1) (q0 := 0) (ci := 0) (a := ad 0) (As := [.int x]) (rest := []) (c_GB_hasFile σ hσ x) hx hb hml hown hg hK hI hA kw_319 kw_321 kp_12 kw_1 kw_322 ky_GB_hasFile ⟨Nat.le_of_ble_eq_true rfl, Nat.le_of_ble_eq_true rfl⟩ rfl rfl (wd_GB) rfl rfl hl.1 (Nat.le_of_ble_eq_true rfl) ⟨Nat.zero_le _, Nat.zero_le _⟩ d_GB_giveFile_2 rfl rfl (fun H locs hI => ?_)
  refine r_bz (b := sHasF σ x) (tgt := 14) hx hb d_GB_giveFile_5 (by decide) (fun h => ?_) (fun h => ?_)
  · exact g_throw (nL := 5) (own := "GroupBitmaps") (E := "java/lang/IllegalArgumentException") (tx := "it is no file from 11 on") (names := ["java/lang/RuntimeException", "java/lang/Exception"]) (ik := 26) (is := 119) (ic := 30) hx hb hfl hml hown hlk hg hE hA hex hI (by decide +kernel) xfit kw_127 kw_8 kw_128 kx_375 rfl xat_IAE hl.1 (Nat.le_of_ble_eq_true rfl) (Nat.le_of_ble_eq_true rfl) (Nat.le_of_ble_eq_true rfl) (Nat.le_of_ble_eq_true rfl) d_GB_giveFile_14 d_GB_giveFile_17 d_GB_giveFile_18 d_GB_giveFile_20 d_GB_giveFile_23
  · refine lv_iload_n hx hb d_GB_giveFile_8 rfl (lv_at hl 1 rfl) ?_
    refine lv_bipush (v := nI 10) hx hb d_GB_giveFile_9 (by decide) ?_
    refine lv_icmp_gt (tgt := 24) hx hb d_GB_giveFile_11 (by decide) (fun h2 => ?_) (fun h2 => ?_)
    · exact absurd (⟨h, Int32.not_lt.mp (fun z => Int32.not_lt.mpr ((x_ltS (n := 10) (by decide)).mp z) h2)⟩) hbad
    · exact g_throw (nL := 5) (own := "GroupBitmaps") (E := "java/lang/IllegalArgumentException") (tx := "it is no file from 11 on") (names := ["java/lang/RuntimeException", "java/lang/Exception"]) (ik := 26) (is := 119) (ic := 30) hx hb hfl hml hown hlk hg hE hA hex hI (by decide +kernel) xfit kw_127 kw_8 kw_128 kx_375 rfl xat_IAE hl.1 (Nat.le_of_ble_eq_true rfl) (Nat.le_of_ble_eq_true rfl) (Nat.le_of_ble_eq_true rfl) (Nat.le_of_ble_eq_true rfl) d_GB_giveFile_14 d_GB_giveFile_17 d_GB_giveFile_18 d_GB_giveFile_20 d_GB_giveFile_23
set_option maxHeartbeats 4000000 in
set_option maxRecDepth 100000 in
theorem x_GB_giveFile_no {l : Launch} (hfl : l.flags = flags0) {D : va_G} {cG cZ cI cJ : ClassId} {ad : Nat → Nat} (σ : gS) (hσ : sB σ) (f : Nat) (fo : Bool) (hf1 : 11 ≤ f) (hf : f ≤ sCnt σ * 128) (hno : sSet σ (2 * ((f - 1) / 128) + 1) ((f - 1) % 128) = false ∨ (fo = true ∧ sFd σ ((f - 1) / 128) = 0)) : gThr l D (gT cG cZ cI cJ) y_GB_giveFile b_GB_giveFile 5 (some .int) ({ frames := 8, cells := 1, slots := 6, locals := 140 }) (wd ad cG cZ σ) [.ref (ad 0), .int (nI f), .int (bI fo)] "java/lang/IllegalStateException" := by
  refine gThr_of (by decide) (Nat.le_of_ble_eq_true rfl) ?_
  intro p e s m below meth c A ls hC hA hst hE hex hI hl
  obtain ⟨hx, hb, hr, hlk, hown, hml, hg, hK⟩ := hC
  have hown : s.vm.findClass "GroupBitmaps" = some m.cls := hown
  have hl : lv_has ls 5 [(0, .ref (ad 0)), (1, .int (nI f)), (2, .int (bI fo))] := hl
  have hc1 := hσ.1
  have hc2 := hσ.2.1
  refine lv_aload_n hx hb d_GB_giveFile_0 rfl (lv_at hl 0 rfl) ?_
  refine lv_iload_n hx hb d_GB_giveFile_1 rfl (lv_at hl 1 rfl) ?_
  refine g_callV (own := "GroupBitmaps") (C := "GroupBitmaps") (T := F_GB) (N := 5) (k := 1) (q0 := 0) (ci := 0) (a := ad 0) (As := [.int (nI f)]) (rest := []) (c_GB_hasFile σ hσ (nI f)) hx hb hml hown hg hK hI hA kw_319 kw_321 kp_12 kw_1 kw_322 ky_GB_hasFile ⟨Nat.le_of_ble_eq_true rfl, Nat.le_of_ble_eq_true rfl⟩ rfl rfl (wd_GB) rfl rfl hl.1 (Nat.le_of_ble_eq_true rfl) ⟨Nat.zero_le _, Nat.zero_le _⟩ d_GB_giveFile_2 rfl rfl (fun H locs hI => ?_)
  refine r_bz (b := sHasF σ (nI f)) (tgt := 14) hx hb d_GB_giveFile_5 (by decide) (fun h => ?_) (fun h => ?_)
  · exact absurd ((sHasF_nI hσ (by omega) hf).symm.trans h) (by decide)
  · refine lv_iload_n hx hb d_GB_giveFile_8 rfl (lv_at hl 1 rfl) ?_
    refine lv_bipush (v := nI 10) hx hb d_GB_giveFile_9 (by decide) ?_
    refine r_gt (a := f) (b := 10) (tgt := 24) hx hb d_GB_giveFile_11 (by decide) (by omega) (by omega) (fun h9 => ?_) (fun h9 => ?_)
    · refine lv_aload_n hx hb d_GB_giveFile_24 rfl (lv_at hl 0 rfl) ?_
      refine lv_iload_n hx hb d_GB_giveFile_25 rfl (lv_at hl 1 rfl) ?_
      refine g_callV (own := "GroupBitmaps") (C := "GroupBitmaps") (T := F_GB) (N := 5) (k := 1) (q0 := 0) (ci := 0) (a := ad 0) (As := [.int (nI f)]) (rest := []) (c_GB_groupOfFile σ f (by omega) (by omega)) hx hb hml hown hg hK hI hA kw_328 kw_330 kp_14 kw_1 kw_331 ky_GB_groupOfFile ⟨Nat.le_of_ble_eq_true rfl, Nat.le_of_ble_eq_true rfl⟩ rfl rfl (wd_GB) rfl rfl hl.1 (Nat.le_of_ble_eq_true rfl) ⟨Nat.zero_le _, Nat.zero_le _⟩ d_GB_giveFile_26 rfl rfl (fun H locs hI => ?_)
      have hq0 := show (f - 1) / 128 < 4 by omega
      have hr0 : 2 * ((f - 1) / 128) < 8 := by omega
      have hs0 : 2 * ((f - 1) / 128) + 1 < 8 := by omega
      have hfdb := hσ.2.2.2.2 _ hq0
      refine lv_astore_n (lv' := [(3, .ref (ad (2 + ((f - 1) / 128)))), (0, .ref (ad 0)), (1, .int (nI f)), (2, .int (bI fo))]) hx hb d_GB_giveFile_29 rfl hl (by decide) rfl (fun ls hl => ?_)
      refine lv_iload_n hx hb d_GB_giveFile_30 rfl (lv_at hl 2 rfl) ?_
      refine lv_iconst (v := nI 1) hx hb d_GB_giveFile_31 (by decide) ?_
      refine r_isub (a := f) (b := 1) hx hb (by omega) d_GB_giveFile_32 ?_
      refine lv_sipush (v := nI 128) hx hb d_GB_giveFile_33 (by decide) ?_
      refine r_irem (a := f - 1) (b := 128) hx hb (by omega) (by omega) (by omega) d_GB_giveFile_36 ?_
      refine lv_istore (lv' := [(4, .int (nI ((f - 1) % 128))), (3, .ref (ad (2 + ((f - 1) / 128)))), (0, .ref (ad 0)), (1, .int (nI f)), (2, .int (bI fo))]) hx hb d_GB_giveFile_37 hl (by decide) rfl (fun ls hl => ?_)
      refine lv_aload_n hx hb d_GB_giveFile_39 rfl (lv_at hl 1 rfl) ?_
      refine g_getN (own := "GroupBitmaps") (C := R_GR) (T := F_GR) (N := 6) (ci := 1) (v := .ref (ad (6 + (2 * ((f - 1) / 128) + 1)))) hx hb hg ku_GR hown hK hI (2 + ((f - 1) / 128)) (wd_GR hq0) rfl 4 (by decide) kw_63 rfl d_GB_giveFile_40 ?_
      refine lv_iload hx hb d_GB_giveFile_43 (lv_at hl 0 rfl) ?_
      refine g_callV (own := "GroupBitmaps") (C := "GroupBitmaps$Bitmap") (T := F_BM) (N := 5) (k := 1) (q0 := 6 + (2 * ((f - 1) / 128) + 1)) (ci := 2) (a := ad (6 + (2 * ((f - 1) / 128) + 1))) (As := [.int (nI ((f - 1) % 128))]) (rest := []) (c_BM_isSet σ (2 * ((f - 1) / 128) + 1) hs0 ((f - 1) % 128) (by omega)) hx hb hml hown hg hK hI hA kw_306 kw_265 kw_266 kw_3 kw_267 ky_BM_isSet ⟨Nat.le_of_ble_eq_true rfl, Nat.le_of_ble_eq_true rfl⟩ rfl rfl (wd_BM hs0) rfl rfl hl.1 (Nat.le_of_ble_eq_true rfl) ⟨Nat.zero_le _, Nat.zero_le _⟩ d_GB_giveFile_45 rfl rfl (fun H locs hI => ?_)
      refine r_bnz (b := sSet σ (2 * ((f - 1) / 128) + 1) ((f - 1) % 128)) (tgt := 61) hx hb d_GB_giveFile_48 (by decide) (fun h2 => ?_) (fun h2 => ?_)
      · have hno : fo = true ∧ sFd σ ((f - 1) / 128) = 0 := hno.resolve_left (fun z => absurd (z.symm.trans h2) (by decide))
        obtain ⟨hno1, hno2⟩ := hno
        refine lv_iload_n hx hb d_GB_giveFile_61 rfl (lv_at hl 4 rfl) ?_
        refine r_bz (b := fo) (tgt := 83) hx hb d_GB_giveFile_62 (by decide) (fun h3 => ?_) (fun h3 => ?_)
        · exact absurd (hno1.symm.trans h3) (by decide)
        · refine lv_aload_n hx hb d_GB_giveFile_65 rfl (lv_at hl 1 rfl) ?_
          refine g_getN (own := "GroupBitmaps") (C := R_GR) (T := F_GR) (N := 6) (ci := 1) (v := .int (nI (sFd σ ((f - 1) / 128)))) hx hb hg ku_GR hown hK hI (2 + ((f - 1) / 128)) (wd_GR hq0) rfl 5 (by decide) kw_65 rfl d_GB_giveFile_66 ?_
          refine lv_iconst (v := nI 1) hx hb d_GB_giveFile_69 (by decide) ?_
          refine r_ge (a := sFd σ ((f - 1) / 128)) (b := 1) (tgt := 83) hx hb d_GB_giveFile_70 (by decide) (by omega) (by omega) (fun h9 => ?_) (fun h9 => ?_)
          · exact absurd h9 (by omega)
          · exact g_throw (nL := 5) (own := "GroupBitmaps") (E := "java/lang/IllegalStateException") (tx := "its group has no folder") (names := ["java/lang/RuntimeException", "java/lang/Exception"]) (ik := 56) (is := 135) (ic := 60) hx hb hfl hml hown hlk hg hE hA hex hI (by decide +kernel) xfit kw_233 kw_10 kw_234 kx_377 rfl xat_ISE hl.1 (Nat.le_of_ble_eq_true rfl) (Nat.le_of_ble_eq_true rfl) (Nat.le_of_ble_eq_true rfl) (Nat.le_of_ble_eq_true rfl) d_GB_giveFile_73 d_GB_giveFile_76 d_GB_giveFile_77 d_GB_giveFile_79 d_GB_giveFile_82
      · exact g_throw (nL := 5) (own := "GroupBitmaps") (E := "java/lang/IllegalStateException") (tx := "the file is free") (names := ["java/lang/RuntimeException", "java/lang/Exception"]) (ik := 56) (is := 130) (ic := 60) hx hb hfl hml hown hlk hg hE hA hex hI (by decide +kernel) xfit kw_233 kw_10 kw_234 kx_376 rfl xat_ISE hl.1 (Nat.le_of_ble_eq_true rfl) (Nat.le_of_ble_eq_true rfl) (Nat.le_of_ble_eq_true rfl) (Nat.le_of_ble_eq_true rfl) d_GB_giveFile_51 d_GB_giveFile_54 d_GB_giveFile_55 d_GB_giveFile_57 d_GB_giveFile_60
    · exact absurd h9 (by omega)
set_option maxHeartbeats 4000000 in
set_option maxRecDepth 100000 in
theorem x_GB_isTaken {l : Launch} (hfl : l.flags = flags0) {D : va_G} {cG cZ cI cJ : ClassId} {ad : Nat → Nat} (σ : gS) (hσ : sB σ) (x y : Int32) (hbad : ¬ (x = 0 ∧ sHasB σ y = true)) (hbad2 : ¬ (x = nI 1 ∧ sHasF σ y = true)) : gThr l D (gT cG cZ cI cJ) y_GB_isTaken b_GB_isTaken 3 (some .boolean) ({ frames := 8, cells := 1, slots := 6, locals := 140 }) (wd ad cG cZ σ) [.ref (ad 0), .int x, .int y] "java/lang/IllegalArgumentException" := by
  refine gThr_of (by decide) (Nat.le_of_ble_eq_true rfl) ?_
  intro p e s m below meth c A ls hC hA hst hE hex hI hl
  obtain ⟨hx, hb, hr, hlk, hown, hml, hg, hK⟩ := hC
  have hown : s.vm.findClass "GroupBitmaps" = some m.cls := hown
  have hl : lv_has ls 3 [(0, .ref (ad 0)), (1, .int x), (2, .int y)] := hl
  have hc1 := hσ.1
  have hc2 := hσ.2.1
  refine lv_iload_n hx hb d_GB_isTaken_0 rfl (lv_at hl 1 rfl) ?_
  refine lv_if_ne (tgt := 29) hx hb d_GB_isTaken_1 (by decide) (fun h => ?_) (fun h => ?_)
  · refine lv_iload_n hx hb d_GB_isTaken_29 rfl (lv_at hl 1 rfl) ?_
    refine lv_iconst (v := nI 1) hx hb d_GB_isTaken_30 (by decide) ?_
    refine lv_icmp_ne (tgt := 61) hx hb d_GB_isTaken_31 (by decide) (fun h3 => ?_) (fun h3 => ?_)
    · exact g_throw (nL := 3) (own := "GroupBitmaps") (E := "java/lang/IllegalArgumentException") (tx := "there is none such in the volume") (names := ["java/lang/RuntimeException", "java/lang/Exception"]) (ik := 26) (is := 144) (ic := 30) hx hb hfl hml hown hlk hg hE hA hex hI (by decide +kernel) xfit kw_127 kw_8 kw_128 kx_390 rfl xat_IAE hl.1 (Nat.le_of_ble_eq_true rfl) (Nat.le_of_ble_eq_true rfl) (Nat.le_of_ble_eq_true rfl) (Nat.le_of_ble_eq_true rfl) d_GB_isTaken_61 d_GB_isTaken_64 d_GB_isTaken_65 d_GB_isTaken_67 d_GB_isTaken_70
    · refine lv_aload_n hx hb d_GB_isTaken_34 rfl (lv_at hl 0 rfl) ?_
      refine lv_iload_n hx hb d_GB_isTaken_35 rfl (lv_at hl 2 rfl) ?_
      refine g_callV (own := "GroupBitmaps") (C := "GroupBitmaps") (T := F_GB) (N := 5) (k := 1) (q0 := 0) (ci := 0) (a := ad 0) (As := [.int y]) (rest := []) (c_GB_hasFile σ hσ y) hx hb hml hown hg hK hI hA kw_319 kw_321 kp_12 kw_1 kw_322 ky_GB_hasFile ⟨Nat.le_of_ble_eq_true rfl, Nat.le_of_ble_eq_true rfl⟩ rfl rfl (wd_GB) rfl rfl hl.1 (Nat.le_of_ble_eq_true rfl) ⟨Nat.zero_le _, Nat.zero_le _⟩ d_GB_isTaken_36 rfl rfl (fun H locs hI => ?_)
      refine r_bz (b := sHasF σ y) (tgt := 61) hx hb d_GB_isTaken_39 (by decide) (fun h4 => ?_) (fun h4 => ?_)
      · exact g_throw (nL := 3) (own := "GroupBitmaps") (E := "java/lang/IllegalArgumentException") (tx := "there is none such in the volume") (names := ["java/lang/RuntimeException", "java/lang/Exception"]) (ik := 26) (is := 144) (ic := 30) hx hb hfl hml hown hlk hg hE hA hex hI (by decide +kernel) xfit kw_127 kw_8 kw_128 kx_390 rfl xat_IAE hl.1 (Nat.le_of_ble_eq_true rfl) (Nat.le_of_ble_eq_true rfl) (Nat.le_of_ble_eq_true rfl) (Nat.le_of_ble_eq_true rfl) d_GB_isTaken_61 d_GB_isTaken_64 d_GB_isTaken_65 d_GB_isTaken_67 d_GB_isTaken_70
      · exact absurd ⟨by first | exact h3 | exact Classical.not_not.mp h3, h4⟩ hbad2
  · refine lv_aload_n hx hb d_GB_isTaken_4 rfl (lv_at hl 0 rfl) ?_
    refine lv_iload_n hx hb d_GB_isTaken_5 rfl (lv_at hl 2 rfl) ?_
    refine g_callV (own := "GroupBitmaps") (C := "GroupBitmaps") (T := F_GB) (N := 5) (k := 1) (q0 := 0) (ci := 0) (a := ad 0) (As := [.int y]) (rest := []) (c_GB_hasBlock σ hσ y) hx hb hml hown hg hK hI hA kw_223 kw_225 kp_4 kw_1 kw_226 ky_GB_hasBlock ⟨Nat.le_of_ble_eq_true rfl, Nat.le_of_ble_eq_true rfl⟩ rfl rfl (wd_GB) rfl rfl hl.1 (Nat.le_of_ble_eq_true rfl) ⟨Nat.zero_le _, Nat.zero_le _⟩ d_GB_isTaken_6 rfl rfl (fun H locs hI => ?_)
    refine r_bz (b := sHasB σ y) (tgt := 29) hx hb d_GB_isTaken_9 (by decide) (fun h2 => ?_) (fun h2 => ?_)
    · refine lv_iload_n hx hb d_GB_isTaken_29 rfl (lv_at hl 1 rfl) ?_
      refine lv_iconst (v := nI 1) hx hb d_GB_isTaken_30 (by decide) ?_
      refine lv_icmp_ne (tgt := 61) hx hb d_GB_isTaken_31 (by decide) (fun h3 => ?_) (fun h3 => ?_)
      · exact g_throw (nL := 3) (own := "GroupBitmaps") (E := "java/lang/IllegalArgumentException") (tx := "there is none such in the volume") (names := ["java/lang/RuntimeException", "java/lang/Exception"]) (ik := 26) (is := 144) (ic := 30) hx hb hfl hml hown hlk hg hE hA hex hI (by decide +kernel) xfit kw_127 kw_8 kw_128 kx_390 rfl xat_IAE hl.1 (Nat.le_of_ble_eq_true rfl) (Nat.le_of_ble_eq_true rfl) (Nat.le_of_ble_eq_true rfl) (Nat.le_of_ble_eq_true rfl) d_GB_isTaken_61 d_GB_isTaken_64 d_GB_isTaken_65 d_GB_isTaken_67 d_GB_isTaken_70
      · refine lv_aload_n hx hb d_GB_isTaken_34 rfl (lv_at hl 0 rfl) ?_
        refine lv_iload_n hx hb d_GB_isTaken_35 rfl (lv_at hl 2 rfl) ?_
        refine g_callV (own := "GroupBitmaps") (C := "GroupBitmaps") (T := F_GB) (N := 5) (k := 1) (q0 := 0) (ci := 0) (a := ad 0) (As := [.int y]) (rest := []) (c_GB_hasFile σ hσ y) hx hb hml hown hg hK hI hA kw_319 kw_321 kp_12 kw_1 kw_322 ky_GB_hasFile ⟨Nat.le_of_ble_eq_true rfl, Nat.le_of_ble_eq_true rfl⟩ rfl rfl (wd_GB) rfl rfl hl.1 (Nat.le_of_ble_eq_true rfl) ⟨Nat.zero_le _, Nat.zero_le _⟩ d_GB_isTaken_36 rfl rfl (fun H locs hI => ?_)
        refine r_bz (b := sHasF σ y) (tgt := 61) hx hb d_GB_isTaken_39 (by decide) (fun h4 => ?_) (fun h4 => ?_)
        · exact g_throw (nL := 3) (own := "GroupBitmaps") (E := "java/lang/IllegalArgumentException") (tx := "there is none such in the volume") (names := ["java/lang/RuntimeException", "java/lang/Exception"]) (ik := 26) (is := 144) (ic := 30) hx hb hfl hml hown hlk hg hE hA hex hI (by decide +kernel) xfit kw_127 kw_8 kw_128 kx_390 rfl xat_IAE hl.1 (Nat.le_of_ble_eq_true rfl) (Nat.le_of_ble_eq_true rfl) (Nat.le_of_ble_eq_true rfl) (Nat.le_of_ble_eq_true rfl) d_GB_isTaken_61 d_GB_isTaken_64 d_GB_isTaken_65 d_GB_isTaken_67 d_GB_isTaken_70
        · exact absurd ⟨by first | exact h3 | exact Classical.not_not.mp h3, h4⟩ hbad2
    · exact absurd ⟨by first | exact h | exact Classical.not_not.mp h, h2⟩ hbad
set_option maxHeartbeats 4000000 in
set_option maxRecDepth 100000 in
theorem x_GB_group1 {l : Launch} (hfl : l.flags = flags0) {D : va_G} {cG cZ cI cJ : ClassId} {ad : Nat → Nat} (σ : gS) (hσ : sB σ) (x y : Int32) (hbad : x < 0 ∨ nI (sCnt σ) ≤ x) : gThr l D (gT cG cZ cI cJ) y_GB_group b_GB_group 4 (some .int) ({ frames := 8, cells := 1, slots := 6, locals := 140 }) (wd ad cG cZ σ) [.ref (ad 0), .int x, .int y] "java/lang/IllegalArgumentException" := by
  refine gThr_of (by decide) (Nat.le_of_ble_eq_true rfl) ?_
  intro p e s m below meth c A ls hC hA hst hE hex hI hl
  obtain ⟨hx, hb, hr, hlk, hown, hml, hg, hK⟩ := hC
  have hown : s.vm.findClass "GroupBitmaps" = some m.cls := hown
  have hl : lv_has ls 4 [(0, .ref (ad 0)), (1, .int x), (2, .int y)] := hl
  have hc1 := hσ.1
  have hc2 := hσ.2.1
  refine lv_iload_n hx hb d_GB_group_0 rfl (lv_at hl 1 rfl) ?_
  refine lv_if_lt (tgt := 12) hx hb d_GB_group_1 (by decide) (fun h => ?_) (fun h => ?_)
  · exact g_throw (nL := 4) (own := "GroupBitmaps") (E := "java/lang/IllegalArgumentException") (tx := "there is no such group") (names := ["java/lang/RuntimeException", "java/lang/Exception"]) (ik := 26) (is := 146) (ic := 30) hx hb hfl hml hown hlk hg hE hA hex hI (by decide +kernel) xfit kw_127 kw_8 kw_128 kx_398 rfl xat_IAE hl.1 (Nat.le_of_ble_eq_true rfl) (Nat.le_of_ble_eq_true rfl) (Nat.le_of_ble_eq_true rfl) (Nat.le_of_ble_eq_true rfl) d_GB_group_12 d_GB_group_15 d_GB_group_16 d_GB_group_18 d_GB_group_21
  · refine lv_iload_n hx hb d_GB_group_4 rfl (lv_at hl 1 rfl) ?_
    refine lv_aload_n hx hb d_GB_group_5 rfl (lv_at hl 0 rfl) ?_
    refine g_get (own := "GroupBitmaps") (C := R_GB) (T := F_GB) (N := 5) (ci := 0) (v := .int (nI (sCnt σ))) hx hb hg ku_GB hown hK hI (0) (wd_GB) rfl 1 (by decide) kw_92 rfl d_GB_group_6 ?_
    refine lv_icmp_lt (tgt := 22) hx hb d_GB_group_9 (by decide) (fun h2 => ?_) (fun h2 => ?_)
    · exact absurd hbad (fun z => z.elim h (fun z => Int32.not_lt.mpr z h2))
    · exact g_throw (nL := 4) (own := "GroupBitmaps") (E := "java/lang/IllegalArgumentException") (tx := "there is no such group") (names := ["java/lang/RuntimeException", "java/lang/Exception"]) (ik := 26) (is := 146) (ic := 30) hx hb hfl hml hown hlk hg hE hA hex hI (by decide +kernel) xfit kw_127 kw_8 kw_128 kx_398 rfl xat_IAE hl.1 (Nat.le_of_ble_eq_true rfl) (Nat.le_of_ble_eq_true rfl) (Nat.le_of_ble_eq_true rfl) (Nat.le_of_ble_eq_true rfl) d_GB_group_12 d_GB_group_15 d_GB_group_16 d_GB_group_18 d_GB_group_21
set_option maxHeartbeats 4000000 in
set_option maxRecDepth 100000 in
theorem x_GB_group2 {l : Launch} (hfl : l.flags = flags0) {D : va_G} {cG cZ cI cJ : ClassId} {ad : Nat → Nat} (σ : gS) (hσ : sB σ) (g : Nat) (y : Int32) (hgc : g < sCnt σ) (hbad : y < 0 ∨ nI 5 < y) : gThr l D (gT cG cZ cI cJ) y_GB_group b_GB_group 4 (some .int) ({ frames := 8, cells := 1, slots := 6, locals := 140 }) (wd ad cG cZ σ) [.ref (ad 0), .int (nI g), .int y] "java/lang/IllegalArgumentException" := by
  refine gThr_of (by decide) (Nat.le_of_ble_eq_true rfl) ?_
  intro p e s m below meth c A ls hC hA hst hE hex hI hl
  obtain ⟨hx, hb, hr, hlk, hown, hml, hg, hK⟩ := hC
  have hown : s.vm.findClass "GroupBitmaps" = some m.cls := hown
  have hl : lv_has ls 4 [(0, .ref (ad 0)), (1, .int (nI g)), (2, .int y)] := hl
  have hc1 := hσ.1
  have hc2 := hσ.2.1
  refine lv_iload_n hx hb d_GB_group_0 rfl (lv_at hl 1 rfl) ?_
  refine r_zlt (a := g) (tgt := 12) hx hb d_GB_group_1 (by decide) (by omega) ?_
  refine lv_iload_n hx hb d_GB_group_4 rfl (lv_at hl 1 rfl) ?_
  refine lv_aload_n hx hb d_GB_group_5 rfl (lv_at hl 0 rfl) ?_
  refine g_get (own := "GroupBitmaps") (C := R_GB) (T := F_GB) (N := 5) (ci := 0) (v := .int (nI (sCnt σ))) hx hb hg ku_GB hown hK hI (0) (wd_GB) rfl 1 (by decide) kw_92 rfl d_GB_group_6 ?_
  refine r_lt (a := g) (b := sCnt σ) (tgt := 22) hx hb d_GB_group_9 (by decide) (by omega) (by omega) (fun h9 => ?_) (fun h9 => ?_)
  · refine lv_aload_n hx hb d_GB_group_22 rfl (lv_at hl 0 rfl) ?_
    refine g_get (own := "GroupBitmaps") (C := R_GB) (T := F_GB) (N := 5) (ci := 0) (v := .ref (ad 1)) hx hb hg ku_GB hown hK hI (0) (wd_GB) rfl 0 (by decide) kw_91 rfl d_GB_group_23 ?_
    refine lv_iload_n hx hb d_GB_group_26 rfl (lv_at hl 1 rfl) ?_
    refine g_aldq (r := ad (2 + g)) (i := g) hx hb hK hI (1) 0 (wd_GA) rfl (by omega) (by decide) rfl d_GB_group_27 ?_
    have hq0 := show g < 4 by omega
    have hr0 : 2 * g < 8 := by omega
    have hs0 : 2 * g + 1 < 8 := by omega
    refine lv_astore_n (lv' := [(3, .ref (ad (2 + g))), (0, .ref (ad 0)), (1, .int (nI g)), (2, .int y)]) hx hb d_GB_group_28 rfl hl (by decide) rfl (fun ls hl => ?_)
    refine lv_iload_n hx hb d_GB_group_29 rfl (lv_at hl 3 rfl) ?_
    refine lv_tableOut (x := y) (tgt := 110) hx hb d_GB_group_30 (by simp only [Int32.lt_iff_toInt_lt, Int32.le_iff_toInt_le] at hbad ⊢; have h0 : (0 : Int32).toInt = 0 := (by decide +kernel); have h5 : (nI 5).toInt = 5 := (by decide +kernel); rw [h0, h5] at hbad; omega) (by decide) ?_
    exact g_throw (nL := 4) (own := "GroupBitmaps") (E := "java/lang/IllegalArgumentException") (tx := "there is no such number") (names := ["java/lang/RuntimeException", "java/lang/Exception"]) (ik := 26) (is := 160) (ic := 30) hx hb hfl hml hown hlk hg hE hA hex hI (by decide +kernel) xfit kw_127 kw_8 kw_128 kx_399 rfl xat_IAE hl.1 (Nat.le_of_ble_eq_true rfl) (Nat.le_of_ble_eq_true rfl) (Nat.le_of_ble_eq_true rfl) (Nat.le_of_ble_eq_true rfl) d_GB_group_110 d_GB_group_113 d_GB_group_114 d_GB_group_116 d_GB_group_119
  · exact absurd h9 (by omega)
set_option maxHeartbeats 4000000 in
set_option maxRecDepth 100000 in
theorem x_GB_byteOf {l : Launch} (hfl : l.flags = flags0) {D : va_G} {cG cZ cI cJ : ClassId} {ad : Nat → Nat} (σ : gS) (x y : Int32) (hbad : ¬ (¬ x < 0 ∧ ¬ nI 1023 < x ∧ ¬ y < 0 ∧ y ≤ nI 4095)) : gThr l D (gT cG cZ cI cJ) y_GB_byteOf b_GB_byteOf 4 (some .int) ({ frames := 8, cells := 1, slots := 6, locals := 140 }) (wd ad cG cZ σ) [.ref (ad 0), .int x, .int y] "java/lang/IndexOutOfBoundsException" := by
  refine gThr_of (by decide) (Nat.le_of_ble_eq_true rfl) ?_
  intro p e s m below meth c A ls hC hA hst hE hex hI hl
  obtain ⟨hx, hb, hr, hlk, hown, hml, hg, hK⟩ := hC
  have hown : s.vm.findClass "GroupBitmaps" = some m.cls := hown
  have hl : lv_has ls 4 [(0, .ref (ad 0)), (1, .int x), (2, .int y)] := hl
  refine lv_iload_n hx hb d_GB_byteOf_0 rfl (lv_at hl 1 rfl) ?_
  refine lv_if_lt (tgt := 22) hx hb d_GB_byteOf_1 (by decide) (fun h => ?_) (fun h => ?_)
  · exact g_throw (nL := 4) (own := "GroupBitmaps") (E := "java/lang/IndexOutOfBoundsException") (tx := "there is no such byte") (names := ["java/lang/RuntimeException", "java/lang/Exception"]) (ik := 162) (is := 164) (ic := 166) hx hb hfl hml hown hlk hg hE hA hex hI (by decide +kernel) xfit kw_408 kw_11 kw_409 kx_417 rfl xat_IOO hl.1 (Nat.le_of_ble_eq_true rfl) (Nat.le_of_ble_eq_true rfl) (Nat.le_of_ble_eq_true rfl) (Nat.le_of_ble_eq_true rfl) d_GB_byteOf_22 d_GB_byteOf_25 d_GB_byteOf_26 d_GB_byteOf_28 d_GB_byteOf_31
  · refine lv_iload_n hx hb d_GB_byteOf_4 rfl (lv_at hl 1 rfl) ?_
    refine lv_sipush (v := nI 1024) hx hb d_GB_byteOf_5 (by decide) ?_
    refine lv_icmp_ge (tgt := 22) hx hb d_GB_byteOf_8 (by decide) (fun h2 => ?_) (fun h2 => ?_)
    · exact g_throw (nL := 4) (own := "GroupBitmaps") (E := "java/lang/IndexOutOfBoundsException") (tx := "there is no such byte") (names := ["java/lang/RuntimeException", "java/lang/Exception"]) (ik := 162) (is := 164) (ic := 166) hx hb hfl hml hown hlk hg hE hA hex hI (by decide +kernel) xfit kw_408 kw_11 kw_409 kx_417 rfl xat_IOO hl.1 (Nat.le_of_ble_eq_true rfl) (Nat.le_of_ble_eq_true rfl) (Nat.le_of_ble_eq_true rfl) (Nat.le_of_ble_eq_true rfl) d_GB_byteOf_22 d_GB_byteOf_25 d_GB_byteOf_26 d_GB_byteOf_28 d_GB_byteOf_31
    · refine lv_iload_n hx hb d_GB_byteOf_11 rfl (lv_at hl 2 rfl) ?_
      refine lv_if_lt (tgt := 22) hx hb d_GB_byteOf_12 (by decide) (fun h3 => ?_) (fun h3 => ?_)
      · exact g_throw (nL := 4) (own := "GroupBitmaps") (E := "java/lang/IndexOutOfBoundsException") (tx := "there is no such byte") (names := ["java/lang/RuntimeException", "java/lang/Exception"]) (ik := 162) (is := 164) (ic := 166) hx hb hfl hml hown hlk hg hE hA hex hI (by decide +kernel) xfit kw_408 kw_11 kw_409 kx_417 rfl xat_IOO hl.1 (Nat.le_of_ble_eq_true rfl) (Nat.le_of_ble_eq_true rfl) (Nat.le_of_ble_eq_true rfl) (Nat.le_of_ble_eq_true rfl) d_GB_byteOf_22 d_GB_byteOf_25 d_GB_byteOf_26 d_GB_byteOf_28 d_GB_byteOf_31
      · refine lv_iload_n hx hb d_GB_byteOf_15 rfl (lv_at hl 2 rfl) ?_
        refine lv_sipush (v := nI 4096) hx hb d_GB_byteOf_16 (by decide) ?_
        refine lv_icmp_lt (tgt := 32) hx hb d_GB_byteOf_19 (by decide) (fun h4 => ?_) (fun h4 => ?_)
        · exact absurd (⟨h, Int32.not_lt.mpr ((x_ltS (n := 1023) (by decide)).mp (Int32.not_le.mp h2)), h3, (x_ltS (n := 4095) (by decide)).mp h4⟩) hbad
        · exact g_throw (nL := 4) (own := "GroupBitmaps") (E := "java/lang/IndexOutOfBoundsException") (tx := "there is no such byte") (names := ["java/lang/RuntimeException", "java/lang/Exception"]) (ik := 162) (is := 164) (ic := 166) hx hb hfl hml hown hlk hg hE hA hex hI (by decide +kernel) xfit kw_408 kw_11 kw_409 kx_417 rfl xat_IOO hl.1 (Nat.le_of_ble_eq_true rfl) (Nat.le_of_ble_eq_true rfl) (Nat.le_of_ble_eq_true rfl) (Nat.le_of_ble_eq_true rfl) d_GB_byteOf_22 d_GB_byteOf_25 d_GB_byteOf_26 d_GB_byteOf_28 d_GB_byteOf_31
set_option maxHeartbeats 4000000 in
set_option maxRecDepth 100000 in
theorem x_GB_isTold {l : Launch} (hfl : l.flags = flags0) {D : va_G} {cG cZ cI cJ : ClassId} {ad : Nat → Nat} (σ : gS) (x : Int32) (hbad : ¬ (¬ x < 0 ∧ x ≤ nI 1023)) : gThr l D (gT cG cZ cI cJ) y_GB_isTold b_GB_isTold 3 (some .boolean) ({ frames := 8, cells := 1, slots := 6, locals := 140 }) (wd ad cG cZ σ) [.ref (ad 0), .int x] "java/lang/IndexOutOfBoundsException" := by
  refine gThr_of (by decide) (Nat.le_of_ble_eq_true rfl) ?_
  intro p e s m below meth c A ls hC hA hst hE hex hI hl
  obtain ⟨hx, hb, hr, hlk, hown, hml, hg, hK⟩ := hC
  have hown : s.vm.findClass "GroupBitmaps" = some m.cls := hown
  have hl : lv_has ls 3 [(0, .ref (ad 0)), (1, .int x)] := hl
  refine lv_iload_n hx hb d_GB_isTold_0 rfl (lv_at hl 1 rfl) ?_
  refine lv_if_lt (tgt := 11) hx hb d_GB_isTold_1 (by decide) (fun h => ?_) (fun h => ?_)
  · exact g_throw (nL := 3) (own := "GroupBitmaps") (E := "java/lang/IndexOutOfBoundsException") (tx := "there is no such block") (names := ["java/lang/RuntimeException", "java/lang/Exception"]) (ik := 162) (is := 178) (ic := 166) hx hb hfl hml hown hlk hg hE hA hex hI (by decide +kernel) xfit kw_408 kw_11 kw_409 kx_450 rfl xat_IOO hl.1 (Nat.le_of_ble_eq_true rfl) (Nat.le_of_ble_eq_true rfl) (Nat.le_of_ble_eq_true rfl) (Nat.le_of_ble_eq_true rfl) d_GB_isTold_11 d_GB_isTold_14 d_GB_isTold_15 d_GB_isTold_17 d_GB_isTold_20
  · refine lv_iload_n hx hb d_GB_isTold_4 rfl (lv_at hl 1 rfl) ?_
    refine lv_sipush (v := nI 1024) hx hb d_GB_isTold_5 (by decide) ?_
    refine lv_icmp_lt (tgt := 21) hx hb d_GB_isTold_8 (by decide) (fun h2 => ?_) (fun h2 => ?_)
    · exact absurd (⟨h, (x_ltS (n := 1023) (by decide)).mp h2⟩) hbad
    · exact g_throw (nL := 3) (own := "GroupBitmaps") (E := "java/lang/IndexOutOfBoundsException") (tx := "there is no such block") (names := ["java/lang/RuntimeException", "java/lang/Exception"]) (ik := 162) (is := 178) (ic := 166) hx hb hfl hml hown hlk hg hE hA hex hI (by decide +kernel) xfit kw_408 kw_11 kw_409 kx_450 rfl xat_IOO hl.1 (Nat.le_of_ble_eq_true rfl) (Nat.le_of_ble_eq_true rfl) (Nat.le_of_ble_eq_true rfl) (Nat.le_of_ble_eq_true rfl) d_GB_isTold_11 d_GB_isTold_14 d_GB_isTold_15 d_GB_isTold_17 d_GB_isTold_20
