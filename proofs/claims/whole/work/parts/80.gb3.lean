set_option maxHeartbeats 4000000 in
set_option maxRecDepth 100000 in
theorem c_GB_lay {l : Launch} {D : va_G} {cG cZ cI cJ : ClassId} {ad : Nat → Nat} (σ : gS) (a la : Nat) (h1 : 1 ≤ a) (h4 : a ≤ 4) (hla : 16 ≤ la) (hla2 : la ≤ 256) (hσ1 : sB (sLayAll σ a la)) : gMet l D (gT cG cZ cI cJ) y_GB_lay b_GB_lay 3 (some .int) ({ frames := 8, cells := 0, slots := 0, locals := 140 }) (wd ad cG cZ σ) [.ref (ad 0), .int (nI a), .int (nI la)] (wd ad cG cZ (sLayAll σ a la)) (some (.int (nI (sFB (sLayAll σ a la) (sCnt (sLayAll σ a la)))))) := by
  refine gMet_of (by decide) (Nat.le_of_ble_eq_true rfl) ?_
  intro p e s m below meth c A ls hC hA hI hl
  obtain ⟨hx, hb, hr, hlk, hown, hml, hg, hK⟩ := hC
  have hown : s.vm.findClass "GroupBitmaps" = some m.cls := hown
  have hl : lv_has ls 3 [(0, .ref (ad 0)), (1, .int (nI a)), (2, .int (nI la))] := hl
  refine lv_iload_n hx hb d_GB_lay_0 rfl (lv_at hl 1 rfl) ?_
  refine lv_iconst (v := nI 1) hx hb d_GB_lay_1 (by decide) ?_
  refine r_lt (a := a) (b := 1) (tgt := 10) hx hb d_GB_lay_2 (by decide) (by omega) (by omega) (fun h9 => ?_) (fun h9 => ?_)
  · exact absurd h9 (by omega)
  · refine lv_iload_n hx hb d_GB_lay_5 rfl (lv_at hl 1 rfl) ?_
    refine lv_iconst (v := nI 4) hx hb d_GB_lay_6 (by decide) ?_
    refine r_le (a := a) (b := 4) (tgt := 20) hx hb d_GB_lay_7 (by decide) (by omega) (by omega) (fun h9 => ?_) (fun h9 => ?_)
    · refine lv_iload_n hx hb d_GB_lay_20 rfl (lv_at hl 2 rfl) ?_
      refine lv_bipush (v := nI 16) hx hb d_GB_lay_21 (by decide) ?_
      refine r_lt (a := la) (b := 16) (tgt := 33) hx hb d_GB_lay_23 (by decide) (by omega) (by omega) (fun h9 => ?_) (fun h9 => ?_)
      · exact absurd h9 (by omega)
      · refine lv_iload_n hx hb d_GB_lay_26 rfl (lv_at hl 2 rfl) ?_
        refine lv_sipush (v := nI 256) hx hb d_GB_lay_27 (by decide) ?_
        refine r_le (a := la) (b := 256) (tgt := 43) hx hb d_GB_lay_30 (by decide) (by omega) (by omega) (fun h9 => ?_) (fun h9 => ?_)
        · refine lv_aload_n hx hb d_GB_lay_43 rfl (lv_at hl 0 rfl) ?_
          refine lv_iload_n hx hb d_GB_lay_44 rfl (lv_at hl 1 rfl) ?_
          refine lv_iload_n hx hb d_GB_lay_45 rfl (lv_at hl 2 rfl) ?_
          refine g_callV (own := "GroupBitmaps") (C := "GroupBitmaps") (T := F_GB) (N := 5) (k := 2) (q0 := 0) (ci := 0) (a := ad 0) (As := [.int (nI a), .int (nI la)]) (rest := []) (c_GB_layOut σ a la h1 h4 hla hla2) hx hb hml hown hg hK hI hA kw_79 kw_81 kp_0 kw_1 kw_82 ky_GB_layOut ⟨Nat.le_of_ble_eq_true rfl, Nat.le_of_ble_eq_true rfl⟩ rfl rfl (wd_GB) rfl rfl hl.1 (Nat.le_of_ble_eq_true rfl) ⟨Nat.zero_le _, Nat.zero_le _⟩ d_GB_lay_46 rfl rfl (fun H locs hI => ?_)
          refine lv_aload_n hx hb d_GB_lay_49 rfl (lv_at hl 0 rfl) ?_
          refine g_callV (own := "GroupBitmaps") (C := "GroupBitmaps") (T := F_GB) (N := 5) (k := 0) (q0 := 0) (ci := 0) (a := ad 0) (As := []) (rest := []) (c_GB_freeBlocks (sLayAll σ a la) hσ1) hx hb hml hown hg hK hI hA kw_196 kw_198 kp_2 kw_1 kw_199 ky_GB_freeBlocks ⟨Nat.le_of_ble_eq_true rfl, Nat.le_of_ble_eq_true rfl⟩ rfl rfl (wd_GB) rfl rfl hl.1 (Nat.le_of_ble_eq_true rfl) ⟨Nat.zero_le _, Nat.zero_le _⟩ d_GB_lay_50 rfl rfl (fun H locs hI => ?_)
          exact g_ri hx hb hr hlk hI (rfl) d_GB_lay_53
        · exact absurd h9 (by omega)
    · exact absurd h9 (by omega)
set_option maxHeartbeats 4000000 in
set_option maxRecDepth 100000 in
theorem c_GB_reserve {l : Launch} {D : va_G} {cG cZ cI cJ : ClassId} {ad : Nat → Nat} (σ : gS) (q : Nat) (hq : q ≤ 100) (hσ1 : sB (uRsv σ q)) : gMet l D (gT cG cZ cI cJ) y_GB_reserve b_GB_reserve 2 (some .int) ({ frames := 8, cells := 0, slots := 0, locals := 140 }) (wd ad cG cZ σ) [.ref (ad 0), .int (nI q)] (wd ad cG cZ (uRsv σ q)) (some (.int (nI (sMay (uRsv σ q) false)))) := by
  refine gMet_of (by decide) (Nat.le_of_ble_eq_true rfl) ?_
  intro p e s m below meth c A ls hC hA hI hl
  obtain ⟨hx, hb, hr, hlk, hown, hml, hg, hK⟩ := hC
  have hown : s.vm.findClass "GroupBitmaps" = some m.cls := hown
  have hl : lv_has ls 2 [(0, .ref (ad 0)), (1, .int (nI q))] := hl
  refine lv_iload_n hx hb d_GB_reserve_0 rfl (lv_at hl 1 rfl) ?_
  refine r_zlt (a := q) (tgt := 10) hx hb d_GB_reserve_1 (by decide) (by omega) ?_
  refine lv_iload_n hx hb d_GB_reserve_4 rfl (lv_at hl 1 rfl) ?_
  refine lv_bipush (v := nI 100) hx hb d_GB_reserve_5 (by decide) ?_
  refine r_le (a := q) (b := 100) (tgt := 20) hx hb d_GB_reserve_7 (by decide) (by omega) (by omega) (fun h9 => ?_) (fun h9 => ?_)
  · refine lv_aload_n hx hb d_GB_reserve_20 rfl (lv_at hl 0 rfl) ?_
    refine lv_iload_n hx hb d_GB_reserve_21 rfl (lv_at hl 1 rfl) ?_
    refine g_put (ws' := (wd ad cG cZ (uRsv σ q))) (own := "GroupBitmaps") (C := R_GB) (T := F_GB) (N := 5) (ci := 0) (v := .int (nI q)) hx hb hg ku_GB t_GB t_GB_ok n_GB hown hK hI (0) (wd_GB) rfl 2 (by decide) kw_93 rfl rfl (rfl) (rfl) (Nat.le_of_ble_eq_true rfl) (wd_uRsv) d_GB_reserve_22 (fun H locs hI => ?_)
    refine lv_aload_n hx hb d_GB_reserve_25 rfl (lv_at hl 0 rfl) ?_
    refine lv_iconst (v := bI false) hx hb d_GB_reserve_26 (by decide) ?_
    refine g_callV (own := "GroupBitmaps") (C := "GroupBitmaps") (T := F_GB) (N := 5) (k := 1) (q0 := 0) (ci := 0) (a := ad 0) (As := [.int (bI false)]) (rest := []) (c_GB_takeable (uRsv σ q) hσ1 false) hx hb hml hown hg hK hI hA kw_208 kw_210 kp_3 kw_1 kw_211 ky_GB_takeable ⟨Nat.le_of_ble_eq_true rfl, Nat.le_of_ble_eq_true rfl⟩ rfl rfl (wd_GB) rfl rfl hl.1 (Nat.le_of_ble_eq_true rfl) ⟨Nat.zero_le _, Nat.zero_le _⟩ d_GB_reserve_27 rfl rfl (fun H locs hI => ?_)
    exact g_ri hx hb hr hlk hI (rfl) d_GB_reserve_30
  · exact absurd h9 (by omega)
set_option maxHeartbeats 4000000 in
set_option maxRecDepth 100000 in
theorem c_GB_take {l : Launch} {D : va_G} {cG cZ cI cJ : ClassId} {ad : Nat → Nat} (σ : gS) (hσ : sB σ) (goal nn : Nat) (al : Bool) (hgo : goal < sAll σ) (hn1 : 1 ≤ nn) (hn2 : nn ≤ 256) (hmy : 0 < sMay σ al) (hs : sSafe σ (2 * (sPick σ goal (Nat.min nn (sMay σ al))).1) (sPick σ goal (Nat.min nn (sMay σ al))).2.1 (sPick σ goal (Nat.min nn (sMay σ al))).2.2) (hlr : sAf σ (2 * (goal / 256)) (goal % 256) (Nat.min nn (sMay σ al)) = false → sFind σ (goal / 256) (Nat.min nn (sMay σ al)) (sCnt σ) = none → ∃ a, a < 65536 ∧ (sSr σ (2 * (sBest σ (goal / 256) (sCnt σ - 1)).1) (sBest σ (goal / 256) (sCnt σ - 1)).2 (sSz σ (2 * (sBest σ (goal / 256) (sCnt σ - 1)).1))).1 = some a) (hfa : ∀ g a, sFind σ (goal / 256) (Nat.min nn (sMay σ al)) (sCnt σ) = some (g, a) → a < 65536) : gMet l D (gT cG cZ cI cJ) y_GB_take b_GB_take 5 (some .int) ({ frames := 8, cells := 0, slots := 0, locals := 140 }) (wd ad cG cZ σ) [.ref (ad 0), .int (nI goal), .int (nI nn), .int (bI al)] (wd ad cG cZ (sRun σ (sPick σ goal (Nat.min nn (sMay σ al))).1 (sPick σ goal (Nat.min nn (sMay σ al))).2.1 (sPick σ goal (Nat.min nn (sMay σ al))).2.2)) (some (.int (nI (256 * (sPick σ goal (Nat.min nn (sMay σ al))).1 + (sPick σ goal (Nat.min nn (sMay σ al))).2.1)))) := by
  refine gMet_of (by decide) (Nat.le_of_ble_eq_true rfl) ?_
  intro p e s m below meth c A ls hC hA hI hl
  obtain ⟨hx, hb, hr, hlk, hown, hml, hg, hK⟩ := hC
  have hown : s.vm.findClass "GroupBitmaps" = some m.cls := hown
  have hl : lv_has ls 5 [(0, .ref (ad 0)), (1, .int (nI goal)), (2, .int (nI nn)), (3, .int (bI al))] := hl
  have hc1 := hσ.1
  have hc2 := hσ.2.1
  have hal := sAll_le hσ
  have hw2 : Nat.min nn (sMay σ al) ≤ 256 := Nat.le_trans (Nat.min_le_left _ _) hn2
  have hmb : sMay σ al ≤ 1024 := by have := sFB_le hσ _ hc2; unfold sMay; split <;> omega
  refine lv_aload_n hx hb d_GB_take_0 rfl (lv_at hl 0 rfl) ?_
  refine lv_iload_n hx hb d_GB_take_1 rfl (lv_at hl 1 rfl) ?_
  refine g_callV (own := "GroupBitmaps") (C := "GroupBitmaps") (T := F_GB) (N := 5) (k := 1) (q0 := 0) (ci := 0) (a := ad 0) (As := [.int (nI goal)]) (rest := []) (c_GB_hasBlock σ hσ (nI goal)) hx hb hml hown hg hK hI hA kw_223 kw_225 kp_4 kw_1 kw_226 ky_GB_hasBlock ⟨Nat.le_of_ble_eq_true rfl, Nat.le_of_ble_eq_true rfl⟩ rfl rfl (wd_GB) rfl rfl hl.1 (Nat.le_of_ble_eq_true rfl) ⟨Nat.zero_le _, Nat.zero_le _⟩ d_GB_take_2 rfl rfl (fun H locs hI => ?_)
  refine r_bnz (b := sHasB σ (nI goal)) (tgt := 18) hx hb d_GB_take_5 (by decide) (fun h => ?_) (fun h => ?_)
  · refine lv_iload_n hx hb d_GB_take_18 rfl (lv_at hl 2 rfl) ?_
    refine lv_iconst (v := nI 1) hx hb d_GB_take_19 (by decide) ?_
    refine r_lt (a := nn) (b := 1) (tgt := 30) hx hb d_GB_take_20 (by decide) (by omega) (by omega) (fun h9 => ?_) (fun h9 => ?_)
    · exact absurd h9 (by omega)
    · refine lv_iload_n hx hb d_GB_take_23 rfl (lv_at hl 2 rfl) ?_
      refine lv_sipush (v := nI 256) hx hb d_GB_take_24 (by decide) ?_
      refine r_le (a := nn) (b := 256) (tgt := 40) hx hb d_GB_take_27 (by decide) (by omega) (by omega) (fun h9 => ?_) (fun h9 => ?_)
      · refine lv_aload_n hx hb d_GB_take_40 rfl (lv_at hl 0 rfl) ?_
        refine lv_iload_n hx hb d_GB_take_41 rfl (lv_at hl 3 rfl) ?_
        refine g_callV (own := "GroupBitmaps") (C := "GroupBitmaps") (T := F_GB) (N := 5) (k := 1) (q0 := 0) (ci := 0) (a := ad 0) (As := [.int (bI al)]) (rest := []) (c_GB_takeable σ hσ al) hx hb hml hown hg hK hI hA kw_208 kw_210 kp_3 kw_1 kw_211 ky_GB_takeable ⟨Nat.le_of_ble_eq_true rfl, Nat.le_of_ble_eq_true rfl⟩ rfl rfl (wd_GB) rfl rfl hl.1 (Nat.le_of_ble_eq_true rfl) ⟨Nat.zero_le _, Nat.zero_le _⟩ d_GB_take_42 rfl rfl (fun H locs hI => ?_)
        refine lv_istore (lv' := [(4, .int (nI (sMay σ al))), (0, .ref (ad 0)), (1, .int (nI goal)), (2, .int (nI nn)), (3, .int (bI al))]) hx hb d_GB_take_45 hl (by decide) rfl (fun ls hl => ?_)
        refine lv_iload hx hb d_GB_take_47 (lv_at hl 0 rfl) ?_
        refine lv_iconst (v := nI 1) hx hb d_GB_take_49 (by decide) ?_
        refine r_ge (a := sMay σ al) (b := 1) (tgt := 63) hx hb d_GB_take_50 (by decide) (by omega) (by omega) (fun h9 => ?_) (fun h9 => ?_)
        · refine lv_aload_n hx hb d_GB_take_63 rfl (lv_at hl 1 rfl) ?_
          refine lv_iload_n hx hb d_GB_take_64 rfl (lv_at hl 2 rfl) ?_
          refine lv_iload_n hx hb d_GB_take_65 rfl (lv_at hl 3 rfl) ?_
          refine lv_iload hx hb d_GB_take_66 (lv_at hl 0 rfl) ?_
          refine r_min (a := nn) (b := sMay σ al) (own := "GroupBitmaps") hx hb hml hl.1 hown hg kw_249 kw_250 kw_9 kw_251 (Nat.le_of_ble_eq_true rfl) (Nat.le_of_ble_eq_true rfl) (Nat.zero_le _) (Nat.zero_le _) (by omega) (by omega) d_GB_take_68 ?_
          refine g_callV (own := "GroupBitmaps") (C := "GroupBitmaps") (T := F_GB) (N := 5) (k := 2) (q0 := 0) (ci := 0) (a := ad 0) (As := [.int (nI goal), .int (nI (Nat.min nn (sMay σ al)))]) (rest := []) (c_GB_takeNear σ hσ goal (Nat.min nn (sMay σ al)) (by omega) (by omega) hs hlr hfa) hx hb hml hown hg hK hI hA kw_252 kw_254 kp_6 kw_1 kw_255 ky_GB_takeNear ⟨Nat.le_of_ble_eq_true rfl, Nat.le_of_ble_eq_true rfl⟩ rfl rfl (wd_GB) rfl rfl hl.1 (Nat.le_of_ble_eq_true rfl) ⟨Nat.zero_le _, Nat.zero_le _⟩ d_GB_take_71 rfl rfl (fun H locs hI => ?_)
          exact g_ri hx hb hr hlk hI (rfl) d_GB_take_74
        · exact absurd h9 (by omega)
      · exact absurd h9 (by omega)
  · exact absurd ((sHasB_nI hσ hgo).symm.trans h) (by decide)
set_option maxHeartbeats 4000000 in
set_option maxRecDepth 100000 in
theorem c_GB_give {l : Launch} {D : va_G} {cG cZ cI cJ : ClassId} {ad : Nat → Nat} (σ : gS) (hσ : sB σ) (a q : Nat) (hq1 : 1 ≤ q) (hq : q ≤ 1024) (haq : a + q ≤ sAll σ) (hgv : sGv σ a q = true) (hσ1 : sB (uTT (sGives σ a q) true)) : gMet l D (gT cG cZ cI cJ) y_GB_give b_GB_give 4 (some .int) ({ frames := 8, cells := 0, slots := 0, locals := 140 }) (wd ad cG cZ σ) [.ref (ad 0), .int (nI a), .int (nI q)] (wd ad cG cZ (uTT (sGives σ a q) true)) (some (.int (nI (sFB (uTT (sGives σ a q) true) (sCnt (uTT (sGives σ a q) true)))))) := by
  refine gMet_of (by decide) (Nat.le_of_ble_eq_true rfl) ?_
  intro p e s m below meth c A ls hC hA hI hl
  obtain ⟨hx, hb, hr, hlk, hown, hml, hg, hK⟩ := hC
  have hown : s.vm.findClass "GroupBitmaps" = some m.cls := hown
  have hl : lv_has ls 4 [(0, .ref (ad 0)), (1, .int (nI a)), (2, .int (nI q))] := hl
  have hc1 := hσ.1
  have hc2 := hσ.2.1
  have hal := sAll_le hσ
  refine lv_iload_n hx hb d_GB_give_0 rfl (lv_at hl 2 rfl) ?_
  refine lv_iconst (v := nI 1) hx hb d_GB_give_1 (by decide) ?_
  refine r_lt (a := q) (b := 1) (tgt := 12) hx hb d_GB_give_2 (by decide) (by omega) (by omega) (fun h9 => ?_) (fun h9 => ?_)
  · exact absurd h9 (by omega)
  · refine lv_iload_n hx hb d_GB_give_5 rfl (lv_at hl 2 rfl) ?_
    refine lv_sipush (v := nI 1024) hx hb d_GB_give_6 (by decide) ?_
    refine r_le (a := q) (b := 1024) (tgt := 22) hx hb d_GB_give_9 (by decide) (by omega) (by omega) (fun h9 => ?_) (fun h9 => ?_)
    · refine lv_aload_n hx hb d_GB_give_22 rfl (lv_at hl 0 rfl) ?_
      refine lv_iload_n hx hb d_GB_give_23 rfl (lv_at hl 1 rfl) ?_
      refine g_callV (own := "GroupBitmaps") (C := "GroupBitmaps") (T := F_GB) (N := 5) (k := 1) (q0 := 0) (ci := 0) (a := ad 0) (As := [.int (nI a)]) (rest := []) (c_GB_hasBlock σ hσ (nI a)) hx hb hml hown hg hK hI hA kw_223 kw_225 kp_4 kw_1 kw_226 ky_GB_hasBlock ⟨Nat.le_of_ble_eq_true rfl, Nat.le_of_ble_eq_true rfl⟩ rfl rfl (wd_GB) rfl rfl hl.1 (Nat.le_of_ble_eq_true rfl) ⟨Nat.zero_le _, Nat.zero_le _⟩ d_GB_give_24 rfl rfl (fun H locs hI => ?_)
      refine r_bz (b := sHasB σ (nI a)) (tgt := 40) hx hb d_GB_give_27 (by decide) (fun h => ?_) (fun h => ?_)
      · exact absurd ((sHasB_nI hσ (by omega)).symm.trans h) (by decide)
      · refine lv_iload_n hx hb d_GB_give_30 rfl (lv_at hl 2 rfl) ?_
        refine lv_aload_n hx hb d_GB_give_31 rfl (lv_at hl 0 rfl) ?_
        refine g_callV (own := "GroupBitmaps") (C := "GroupBitmaps") (T := F_GB) (N := 5) (k := 0) (q0 := 0) (ci := 0) (a := ad 0) (As := []) (rest := [.int (nI q)]) (c_GB_allBlocks σ hσ) hx hb hml hown hg hK hI hA kw_227 kw_229 kp_5 kw_1 kw_230 ky_GB_allBlocks ⟨Nat.le_of_ble_eq_true rfl, Nat.le_of_ble_eq_true rfl⟩ rfl rfl (wd_GB) rfl rfl hl.1 (Nat.le_of_ble_eq_true rfl) ⟨Nat.zero_le _, Nat.zero_le _⟩ d_GB_give_32 rfl rfl (fun H locs hI => ?_)
        refine lv_iload_n hx hb d_GB_give_35 rfl (lv_at hl 1 rfl) ?_
        refine r_isub (a := sAll σ) (b := a) hx hb (by omega) d_GB_give_36 ?_
        refine r_le (a := q) (b := (sAll σ) - a) (tgt := 50) hx hb d_GB_give_37 (by decide) (by omega) (by omega) (fun h9 => ?_) (fun h9 => ?_)
        · refine lv_aload_n hx hb d_GB_give_50 rfl (lv_at hl 0 rfl) ?_
          refine lv_iload_n hx hb d_GB_give_51 rfl (lv_at hl 1 rfl) ?_
          refine lv_iload_n hx hb d_GB_give_52 rfl (lv_at hl 2 rfl) ?_
          refine g_callV (own := "GroupBitmaps") (C := "GroupBitmaps") (T := F_GB) (N := 5) (k := 2) (q0 := 0) (ci := 0) (a := ad 0) (As := [.int (nI a), .int (nI q)]) (rest := []) (c_GB_areGivable σ a q (by omega)) hx hb hml hown hg hK hI hA kw_302 kw_304 kp_11 kw_1 kw_305 ky_GB_areGivable ⟨Nat.le_of_ble_eq_true rfl, Nat.le_of_ble_eq_true rfl⟩ rfl rfl (wd_GB) rfl rfl hl.1 (Nat.le_of_ble_eq_true rfl) ⟨Nat.zero_le _, Nat.zero_le _⟩ d_GB_give_53 rfl rfl (fun H locs hI => ?_)
          refine r_bnz (b := sGv σ a q) (tgt := 69) hx hb d_GB_give_56 (by decide) (fun h4 => ?_) (fun h4 => ?_)
          · refine lv_iload_n hx hb d_GB_give_69 rfl (lv_at hl 1 rfl) ?_
            refine lv_istore_n (lv' := [(3, .int (nI a)), (0, .ref (ad 0)), (1, .int (nI a)), (2, .int (nI q))]) hx hb d_GB_give_70 rfl hl (by decide) rfl (fun ls hl => ?_)
            have loop : ∀ (fuel : Nat) (t : Nat), q + 1 ≤ fuel + t → (t ≤ q) → ∀ (H : Heap) (locs : List Loc) (ls : Array Slot), gI D A s.heap (wd ad cG cZ (sGives σ a t)) H locs → lv_has ls 4 [(0, .ref (ad 0)), (1, .int (nI a)), (2, .int (nI q)), (3, .int (nI (a + t)))] → W p l e ({ frames := 8, cells := 0, slots := 0, locals := 140 }) s m ([.ref (ad 0), .int (nI a), .int (nI q)] : List Value).toArray below meth c H locs 0 0 (gQ D below ([.ref (ad 0), .int (nI a), .int (nI q)] : List Value).toArray s A (wd ad cG cZ (uTT (sGives σ a q) true)) (some (.int (nI (sFB (uTT (sGives σ a q) true) (sCnt (uTT (sGives σ a q) true))))))) (F0 m 71 ls []) := by
              intro fuel
              induction fuel with
              | zero => intro t hfu ht; exact absurd hfu (by omega)
              | succ fuel ih =>
                intro t hfu ht H locs ls hI hl
                refine lv_iload_n hx hb d_GB_give_71 rfl (lv_at hl 3 rfl) ?_
                refine lv_iload_n hx hb d_GB_give_72 rfl (lv_at hl 1 rfl) ?_
                refine lv_iload_n hx hb d_GB_give_73 rfl (lv_at hl 2 rfl) ?_
                refine r_iadd (a := a) (b := q) hx hb d_GB_give_74 ?_
                refine r_ge (a := a + t) (b := a + q) (tgt := 100) hx hb d_GB_give_75 (by decide) (by omega) (by omega) (fun h5 => ?_) (fun h5 => ?_)
                · obtain rfl : q = t := by omega
                  refine lv_aload_n hx hb d_GB_give_100 rfl (lv_at hl 0 rfl) ?_
                  refine lv_iconst (v := bI true) hx hb d_GB_give_101 (by decide) ?_
                  refine g_put (ws' := (wd ad cG cZ (uTT (sGives σ a q) true))) (own := "GroupBitmaps") (C := R_GB) (T := F_GB) (N := 5) (ci := 0) (v := .int (bI true)) hx hb hg ku_GB t_GB t_GB_ok n_GB hown hK hI (0) (wd_GB) rfl 4 (by decide) kw_95 rfl rfl (bI_n _) (bI_fit _) (Nat.le_of_ble_eq_true rfl) (wd_uTT) d_GB_give_102 (fun H locs hI => ?_)
                  refine lv_aload_n hx hb d_GB_give_105 rfl (lv_at hl 0 rfl) ?_
                  refine g_callV (own := "GroupBitmaps") (C := "GroupBitmaps") (T := F_GB) (N := 5) (k := 0) (q0 := 0) (ci := 0) (a := ad 0) (As := []) (rest := []) (c_GB_freeBlocks (uTT (sGives σ a q) true) hσ1) hx hb hml hown hg hK hI hA kw_196 kw_198 kp_2 kw_1 kw_199 ky_GB_freeBlocks ⟨Nat.le_of_ble_eq_true rfl, Nat.le_of_ble_eq_true rfl⟩ rfl rfl (wd_GB) rfl rfl hl.1 (Nat.le_of_ble_eq_true rfl) ⟨Nat.zero_le _, Nat.zero_le _⟩ d_GB_give_106 rfl rfl (fun H locs hI => ?_)
                  exact g_ri hx hb hr hlk hI (rfl) d_GB_give_109
                · refine lv_aload_n hx hb d_GB_give_78 rfl (lv_at hl 0 rfl) ?_
                  refine lv_iload_n hx hb d_GB_give_79 rfl (lv_at hl 3 rfl) ?_
                  refine g_callV (own := "GroupBitmaps") (C := "GroupBitmaps") (T := F_GB) (N := 5) (k := 1) (q0 := 0) (ci := 0) (a := ad 0) (As := [.int (nI (a + t))]) (rest := []) (c_GB_groupOfBlock (sGives σ a t) (a + t) (by omega)) hx hb hml hown hg hK hI hA kw_256 kw_258 kp_7 kw_1 kw_259 ky_GB_groupOfBlock ⟨Nat.le_of_ble_eq_true rfl, Nat.le_of_ble_eq_true rfl⟩ rfl rfl (wd_GB) rfl rfl hl.1 (Nat.le_of_ble_eq_true rfl) ⟨Nat.zero_le _, Nat.zero_le _⟩ d_GB_give_80 rfl rfl (fun H locs hI => ?_)
                  have hq0 := show (a + t) / 256 < 4 by omega
                  have hr0 : 2 * ((a + t) / 256) < 8 := by omega
                  have hs0 : 2 * ((a + t) / 256) + 1 < 8 := by omega
                  refine g_getN (own := "GroupBitmaps") (C := R_GR) (T := F_GR) (N := 6) (ci := 1) (v := .ref (ad (6 + (2 * ((a + t) / 256))))) hx hb hg ku_GR hown hK hI (2 + ((a + t) / 256)) (wd_GR hq0) rfl 3 (by decide) kw_61 rfl d_GB_give_83 ?_
                  refine lv_iload_n hx hb d_GB_give_86 rfl (lv_at hl 3 rfl) ?_
                  refine lv_sipush (v := nI 256) hx hb d_GB_give_87 (by decide) ?_
                  refine r_irem (a := a + t) (b := 256) hx hb (by omega) (by omega) (by omega) d_GB_give_90 ?_
                  refine g_callV (own := "GroupBitmaps") (C := "GroupBitmaps$Bitmap") (T := F_BM) (N := 5) (k := 1) (q0 := 6 + (2 * ((a + t) / 256))) (ci := 2) (a := ad (6 + (2 * ((a + t) / 256)))) (As := [.int (nI ((a + t) % 256))]) (rest := []) (c_BM_free (sGives σ a t) (2 * ((a + t) / 256)) hr0 ((a + t) % 256) (by omega) (by rw [(sGives_o σ a t).2.2.2.1]; exact (hσ.2.2.2.1 _ hr0).1)) hx hb hml hown hg hK hI hA kw_308 kw_309 kw_310 kw_3 kw_311 ky_BM_free ⟨Nat.le_of_ble_eq_true rfl, Nat.le_of_ble_eq_true rfl⟩ rfl rfl (wd_BM hr0) rfl rfl hl.1 (Nat.le_of_ble_eq_true rfl) ⟨Nat.zero_le _, Nat.zero_le _⟩ d_GB_give_91 rfl rfl (fun H locs hI => ?_)
                  refine lv_iinc (v := nI ((a + t) + 1)) (lv' := [(3, .int (nI ((a + t) + 1))), (0, .ref (ad 0)), (1, .int (nI a)), (2, .int (nI q))]) hx hb d_GB_give_94 hl (k := 3) rfl (nI_1 _) (by decide) rfl (fun ls hl => ?_)
                  refine lv_goto (tgt := 71) hx hb d_GB_give_97 (by decide) ?_
                  exact ih (t + 1) (by omega) (by omega) _ _ _ hI (lv_sub hl [1, 2, 3, 0] rfl)
            exact loop (q + 1) 0 (by omega) (Nat.zero_le _) _ _ _ hI (lv_sub hl [1, 2, 3, 0] rfl)
          · exact absurd (hgv.symm.trans h4) (by decide)
        · exact absurd h9 (by omega)
    · exact absurd h9 (by omega)
set_option maxHeartbeats 4000000 in
set_option maxRecDepth 100000 in
theorem c_GB_giveFile {l : Launch} {D : va_G} {cG cZ cI cJ : ClassId} {ad : Nat → Nat} (σ : gS) (hσ : sB σ) (f : Nat) (fo : Bool) (hf1 : 11 ≤ f) (hf : f ≤ sCnt σ * 128) (hset : sSet σ (2 * ((f - 1) / 128) + 1) ((f - 1) % 128) = true) (hfo : fo = true → 1 ≤ sFd σ ((f - 1) / 128)) (hσ1 : sB (uTT (sFreF σ ((f - 1) / 128) ((f - 1) % 128) fo) true)) : gMet l D (gT cG cZ cI cJ) y_GB_giveFile b_GB_giveFile 5 (some .int) ({ frames := 8, cells := 0, slots := 0, locals := 140 }) (wd ad cG cZ σ) [.ref (ad 0), .int (nI f), .int (bI fo)] (wd ad cG cZ (uTT (sFreF σ ((f - 1) / 128) ((f - 1) % 128) fo) true)) (some (.int (nI (sFF (uTT (sFreF σ ((f - 1) / 128) ((f - 1) % 128) fo) true) (sCnt (uTT (sFreF σ ((f - 1) / 128) ((f - 1) % 128) fo) true)))))) := by
  refine gMet_of (by decide) (Nat.le_of_ble_eq_true rfl) ?_
  intro p e s m below meth c A ls hC hA hI hl
  obtain ⟨hx, hb, hr, hlk, hown, hml, hg, hK⟩ := hC
  have hown : s.vm.findClass "GroupBitmaps" = some m.cls := hown
  have hl : lv_has ls 5 [(0, .ref (ad 0)), (1, .int (nI f)), (2, .int (bI fo))] := hl
  have hc1 := hσ.1
  have hc2 := hσ.2.1
  refine lv_aload_n hx hb d_GB_giveFile_0 rfl (lv_at hl 0 rfl) ?_
  refine lv_iload_n hx hb d_GB_giveFile_1 rfl (lv_at hl 1 rfl) ?_
  refine g_callV (own := "GroupBitmaps") (C := "GroupBitmaps") (T := F_GB) (N := 5) (k := 1) (q0 := 0) (ci := 0) (a := ad 0) (As := [.int (nI f)]) (rest := []) (c_GB_hasFile σ hσ (nI f)) hx hb hml hown hg hK hI hA kw_319 kw_321 kp_12 kw_1 kw_322 ky_GB_hasFile ⟨Nat.le_of_ble_eq_true rfl, Nat.le_of_ble_eq_true rfl⟩ rfl rfl (wd_GB) rfl rfl hl.1 (Nat.le_of_ble_eq_true rfl) ⟨Nat.zero_le _, Nat.zero_le _⟩ d_GB_giveFile_2 rfl rfl (fun H locs hI => ?_)
  refine r_bz (b := sHasF σ (nI f)) (tgt := 14) hx hb d_GB_giveFile_5 (by decide) (fun h => ?_) (fun h => ?_)
  · exact absurd ((sHasF_nI hσ (by omega) hf).symm.trans h) (by decide)
  · refine lv_iload_n hx hb d_GB_giveFile_8 rfl (lv_at hl 1 rfl) ?_
    refine lv_bipush (v := nI 10) hx hb d_GB_giveFile_9 (by decide) ?_
    refine r_gt (a := f) (b := 10) (tgt := 24) hx hb d_GB_giveFile_11 (by decide) (by omega) (by omega) (fun h9 => ?_) (fun h9 => ?_)
    · refine lv_aload_n hx hb d_GB_giveFile_24 rfl (lv_at hl 0 rfl) ?_
      refine lv_iload_n hx hb d_GB_giveFile_25 rfl (lv_at hl 1 rfl) ?_
      refine g_callV (own := "GroupBitmaps") (C := "GroupBitmaps") (T := F_GB) (N := 5) (k := 1) (q0 := 0) (ci := 0) (a := ad 0) (As := [.int (nI f)]) (rest := []) (c_GB_groupOfFile σ f (by omega) (by omega)) hx hb hml hown hg hK hI hA kw_328 kw_330 kp_14 kw_1 kw_331 ky_GB_groupOfFile ⟨Nat.le_of_ble_eq_true rfl, Nat.le_of_ble_eq_true rfl⟩ rfl rfl (wd_GB) rfl rfl hl.1 (Nat.le_of_ble_eq_true rfl) ⟨Nat.zero_le _, Nat.zero_le _⟩ d_GB_giveFile_26 rfl rfl (fun H locs hI => ?_)
      have hq0 := show (f - 1) / 128 < 4 by omega
      have hr0 : 2 * ((f - 1) / 128) < 8 := by omega
      have hs0 : 2 * ((f - 1) / 128) + 1 < 8 := by omega
      have hfdb := hσ.2.2.2.2 _ hq0
      refine lv_astore_n (lv' := [(3, .ref (ad (2 + ((f - 1) / 128)))), (0, .ref (ad 0)), (1, .int (nI f)), (2, .int (bI fo))]) hx hb d_GB_giveFile_29 rfl hl (by decide) rfl (fun ls hl => ?_)
      refine lv_iload_n hx hb d_GB_giveFile_30 rfl (lv_at hl 2 rfl) ?_
      refine lv_iconst (v := nI 1) hx hb d_GB_giveFile_31 (by decide) ?_
      refine r_isub (a := f) (b := 1) hx hb (by omega) d_GB_giveFile_32 ?_
      refine lv_sipush (v := nI 128) hx hb d_GB_giveFile_33 (by decide) ?_
      refine r_irem (a := f - 1) (b := 128) hx hb (by omega) (by omega) (by omega) d_GB_giveFile_36 ?_
      refine lv_istore (lv' := [(4, .int (nI ((f - 1) % 128))), (3, .ref (ad (2 + ((f - 1) / 128)))), (0, .ref (ad 0)), (1, .int (nI f)), (2, .int (bI fo))]) hx hb d_GB_giveFile_37 hl (by decide) rfl (fun ls hl => ?_)
      refine lv_aload_n hx hb d_GB_giveFile_39 rfl (lv_at hl 1 rfl) ?_
      refine g_getN (own := "GroupBitmaps") (C := R_GR) (T := F_GR) (N := 6) (ci := 1) (v := .ref (ad (6 + (2 * ((f - 1) / 128) + 1)))) hx hb hg ku_GR hown hK hI (2 + ((f - 1) / 128)) (wd_GR hq0) rfl 4 (by decide) kw_63 rfl d_GB_giveFile_40 ?_
      refine lv_iload hx hb d_GB_giveFile_43 (lv_at hl 0 rfl) ?_
      refine g_callV (own := "GroupBitmaps") (C := "GroupBitmaps$Bitmap") (T := F_BM) (N := 5) (k := 1) (q0 := 6 + (2 * ((f - 1) / 128) + 1)) (ci := 2) (a := ad (6 + (2 * ((f - 1) / 128) + 1))) (As := [.int (nI ((f - 1) % 128))]) (rest := []) (c_BM_isSet σ (2 * ((f - 1) / 128) + 1) hs0 ((f - 1) % 128) (by omega)) hx hb hml hown hg hK hI hA kw_306 kw_265 kw_266 kw_3 kw_267 ky_BM_isSet ⟨Nat.le_of_ble_eq_true rfl, Nat.le_of_ble_eq_true rfl⟩ rfl rfl (wd_BM hs0) rfl rfl hl.1 (Nat.le_of_ble_eq_true rfl) ⟨Nat.zero_le _, Nat.zero_le _⟩ d_GB_giveFile_45 rfl rfl (fun H locs hI => ?_)
      refine r_bnz (b := sSet σ (2 * ((f - 1) / 128) + 1) ((f - 1) % 128)) (tgt := 61) hx hb d_GB_giveFile_48 (by decide) (fun h2 => ?_) (fun h2 => ?_)
      · refine lv_iload_n hx hb d_GB_giveFile_61 rfl (lv_at hl 4 rfl) ?_
        refine r_bz (b := fo) (tgt := 83) hx hb d_GB_giveFile_62 (by decide) (fun h3 => ?_) (fun h3 => ?_)
        · refine lv_aload_n hx hb d_GB_giveFile_83 rfl (lv_at hl 1 rfl) ?_
          refine lv_iload hx hb d_GB_giveFile_84 (lv_at hl 0 rfl) ?_
          refine lv_iload_n hx hb d_GB_giveFile_86 rfl (lv_at hl 4 rfl) ?_
          refine g_callV (own := "GroupBitmaps") (C := "GroupBitmaps$Group") (T := F_GR) (N := 6) (k := 2) (q0 := 2 + ((f - 1) / 128)) (ci := 1) (a := ad (2 + ((f - 1) / 128))) (As := [.int (nI ((f - 1) % 128)), .int (bI fo)]) (rest := []) (c_GR_freeFile σ ((f - 1) / 128) hq0 hσ ((f - 1) % 128) (by omega) fo hfo) hx hb hml hown hg hK hI hA kw_378 kw_379 kw_380 kw_2 kw_381 ky_GR_freeFile ⟨Nat.le_of_ble_eq_true rfl, Nat.le_of_ble_eq_true rfl⟩ rfl rfl (wd_GR hq0) rfl rfl hl.1 (Nat.le_of_ble_eq_true rfl) ⟨Nat.zero_le _, Nat.zero_le _⟩ d_GB_giveFile_87 rfl rfl (fun H locs hI => ?_)
          refine lv_aload_n hx hb d_GB_giveFile_90 rfl (lv_at hl 2 rfl) ?_
          refine lv_iconst (v := bI true) hx hb d_GB_giveFile_91 (by decide) ?_
          refine g_put (ws' := (wd ad cG cZ (uTT (sFreF σ ((f - 1) / 128) ((f - 1) % 128) fo) true))) (own := "GroupBitmaps") (C := R_GB) (T := F_GB) (N := 5) (ci := 0) (v := .int (bI true)) hx hb hg ku_GB t_GB t_GB_ok n_GB hown hK hI (0) (wd_GB) rfl 4 (by decide) kw_95 rfl rfl (bI_n _) (bI_fit _) (Nat.le_of_ble_eq_true rfl) (wd_uTT) d_GB_giveFile_92 (fun H locs hI => ?_)
          refine lv_aload_n hx hb d_GB_giveFile_95 rfl (lv_at hl 2 rfl) ?_
          refine g_callV (own := "GroupBitmaps") (C := "GroupBitmaps") (T := F_GB) (N := 5) (k := 0) (q0 := 0) (ci := 0) (a := ad 0) (As := []) (rest := []) (c_GB_freeFiles (uTT (sFreF σ ((f - 1) / 128) ((f - 1) % 128) fo) true) hσ1) hx hb hml hown hg hK hI hA kw_336 kw_338 kp_16 kw_1 kw_339 ky_GB_freeFiles ⟨Nat.le_of_ble_eq_true rfl, Nat.le_of_ble_eq_true rfl⟩ rfl rfl (wd_GB) rfl rfl hl.1 (Nat.le_of_ble_eq_true rfl) ⟨Nat.zero_le _, Nat.zero_le _⟩ d_GB_giveFile_96 rfl rfl (fun H locs hI => ?_)
          exact g_ri hx hb hr hlk hI (rfl) d_GB_giveFile_99
        · have hfo1 := hfo h3
          refine lv_aload_n hx hb d_GB_giveFile_65 rfl (lv_at hl 1 rfl) ?_
          refine g_getN (own := "GroupBitmaps") (C := R_GR) (T := F_GR) (N := 6) (ci := 1) (v := .int (nI (sFd σ ((f - 1) / 128)))) hx hb hg ku_GR hown hK hI (2 + ((f - 1) / 128)) (wd_GR hq0) rfl 5 (by decide) kw_65 rfl d_GB_giveFile_66 ?_
          refine lv_iconst (v := nI 1) hx hb d_GB_giveFile_69 (by decide) ?_
          refine r_ge (a := sFd σ ((f - 1) / 128)) (b := 1) (tgt := 83) hx hb d_GB_giveFile_70 (by decide) (by omega) (by omega) (fun h9 => ?_) (fun h9 => ?_)
          · refine lv_aload_n hx hb d_GB_giveFile_83 rfl (lv_at hl 1 rfl) ?_
            refine lv_iload hx hb d_GB_giveFile_84 (lv_at hl 0 rfl) ?_
            refine lv_iload_n hx hb d_GB_giveFile_86 rfl (lv_at hl 4 rfl) ?_
            refine g_callV (own := "GroupBitmaps") (C := "GroupBitmaps$Group") (T := F_GR) (N := 6) (k := 2) (q0 := 2 + ((f - 1) / 128)) (ci := 1) (a := ad (2 + ((f - 1) / 128))) (As := [.int (nI ((f - 1) % 128)), .int (bI fo)]) (rest := []) (c_GR_freeFile σ ((f - 1) / 128) hq0 hσ ((f - 1) % 128) (by omega) fo hfo) hx hb hml hown hg hK hI hA kw_378 kw_379 kw_380 kw_2 kw_381 ky_GR_freeFile ⟨Nat.le_of_ble_eq_true rfl, Nat.le_of_ble_eq_true rfl⟩ rfl rfl (wd_GR hq0) rfl rfl hl.1 (Nat.le_of_ble_eq_true rfl) ⟨Nat.zero_le _, Nat.zero_le _⟩ d_GB_giveFile_87 rfl rfl (fun H locs hI => ?_)
            refine lv_aload_n hx hb d_GB_giveFile_90 rfl (lv_at hl 2 rfl) ?_
            refine lv_iconst (v := bI true) hx hb d_GB_giveFile_91 (by decide) ?_
            refine g_put (ws' := (wd ad cG cZ (uTT (sFreF σ ((f - 1) / 128) ((f - 1) % 128) fo) true))) (own := "GroupBitmaps") (C := R_GB) (T := F_GB) (N := 5) (ci := 0) (v := .int (bI true)) hx hb hg ku_GB t_GB t_GB_ok n_GB hown hK hI (0) (wd_GB) rfl 4 (by decide) kw_95 rfl rfl (bI_n _) (bI_fit _) (Nat.le_of_ble_eq_true rfl) (wd_uTT) d_GB_giveFile_92 (fun H locs hI => ?_)
            refine lv_aload_n hx hb d_GB_giveFile_95 rfl (lv_at hl 2 rfl) ?_
            refine g_callV (own := "GroupBitmaps") (C := "GroupBitmaps") (T := F_GB) (N := 5) (k := 0) (q0 := 0) (ci := 0) (a := ad 0) (As := []) (rest := []) (c_GB_freeFiles (uTT (sFreF σ ((f - 1) / 128) ((f - 1) % 128) fo) true) hσ1) hx hb hml hown hg hK hI hA kw_336 kw_338 kp_16 kw_1 kw_339 ky_GB_freeFiles ⟨Nat.le_of_ble_eq_true rfl, Nat.le_of_ble_eq_true rfl⟩ rfl rfl (wd_GB) rfl rfl hl.1 (Nat.le_of_ble_eq_true rfl) ⟨Nat.zero_le _, Nat.zero_le _⟩ d_GB_giveFile_96 rfl rfl (fun H locs hI => ?_)
            exact g_ri hx hb hr hlk hI (rfl) d_GB_giveFile_99
          · exact absurd h9 (by omega)
      · exact absurd (hset.symm.trans h2) (by decide)
    · exact absurd h9 (by omega)
set_option maxHeartbeats 4000000 in
set_option maxRecDepth 100000 in
theorem c_GB_takeFile_fo {l : Launch} {D : va_G} {cG cZ cI cJ : ClassId} {ad : Nat → Nat} (σ : gS) (hσ : sB σ) (f g k : Nat) (hf1 : 1 ≤ f) (hf : f ≤ sCnt σ * 128) (hgg : sFolder σ f = some g) (hg4 : g < 4) (hk : sLf (uTT σ true) (2 * g + 1) (sSz (uTT σ true) (2 * g + 1)) = some k) (hk2 : k < 128) (hfr : 0 < sFr (uTT σ true) (2 * g + 1)) (hσ1 : sB (uTT σ true)) : gMet l D (gT cG cZ cI cJ) y_GB_takeFile b_GB_takeFile 4 (some .int) ({ frames := 8, cells := 0, slots := 0, locals := 140 }) (wd ad cG cZ σ) [.ref (ad 0), .int (nI f), .int (bI true)] (wd ad cG cZ (sOccF (uTT σ true) g k true)) (some (.int (nI (128 * g + k + 1)))) := by
  refine gMet_of (by decide) (Nat.le_of_ble_eq_true rfl) ?_
  intro p e s m below meth c A ls hC hA hI hl
  obtain ⟨hx, hb, hr, hlk, hown, hml, hg, hK⟩ := hC
  have hown : s.vm.findClass "GroupBitmaps" = some m.cls := hown
  have hl : lv_has ls 4 [(0, .ref (ad 0)), (1, .int (nI f)), (2, .int (bI true))] := hl
  have hc1 := hσ.1
  have hc2 := hσ.2.1
  refine lv_aload_n hx hb d_GB_takeFile_0 rfl (lv_at hl 0 rfl) ?_
  refine lv_iload_n hx hb d_GB_takeFile_1 rfl (lv_at hl 1 rfl) ?_
  refine g_callV (own := "GroupBitmaps") (C := "GroupBitmaps") (T := F_GB) (N := 5) (k := 1) (q0 := 0) (ci := 0) (a := ad 0) (As := [.int (nI f)]) (rest := []) (c_GB_hasFile σ hσ (nI f)) hx hb hml hown hg hK hI hA kw_319 kw_321 kp_12 kw_1 kw_322 ky_GB_hasFile ⟨Nat.le_of_ble_eq_true rfl, Nat.le_of_ble_eq_true rfl⟩ rfl rfl (wd_GB) rfl rfl hl.1 (Nat.le_of_ble_eq_true rfl) ⟨Nat.zero_le _, Nat.zero_le _⟩ d_GB_takeFile_2 rfl rfl (fun H locs hI => ?_)
  refine r_bnz (b := sHasF σ (nI f)) (tgt := 18) hx hb d_GB_takeFile_5 (by decide) (fun h => ?_) (fun h => ?_)
  · refine lv_iload_n hx hb d_GB_takeFile_18 rfl (lv_at hl 2 rfl) ?_
    refine r_bz (b := true) (tgt := 30) hx hb d_GB_takeFile_19 (by decide) (fun h9 => ?_) (fun h9 => ?_)
    · exact absurd h9 (by decide)
    · refine lv_aload_n hx hb d_GB_takeFile_22 rfl (lv_at hl 0 rfl) ?_
      refine lv_iload_n hx hb d_GB_takeFile_23 rfl (lv_at hl 1 rfl) ?_
      refine g_callV (own := "GroupBitmaps") (C := "GroupBitmaps") (T := F_GB) (N := 5) (k := 1) (q0 := 0) (ci := 0) (a := ad 0) (As := [.int (nI f)]) (rest := []) (c_GB_groupForFolder σ hσ f (by omega) (by omega)) hx hb hml hown hg hK hI hA kw_324 kw_326 kp_13 kw_1 kw_327 ky_GB_groupForFolder ⟨Nat.le_of_ble_eq_true rfl, Nat.le_of_ble_eq_true rfl⟩ rfl rfl (wd_GB) rfl rfl hl.1 (Nat.le_of_ble_eq_true rfl) ⟨Nat.zero_le _, Nat.zero_le _⟩ d_GB_takeFile_24 rfl rfl (fun H locs hI => ?_)
      rw [hgg]
      refine lv_goto (tgt := 35) hx hb d_GB_takeFile_27 (by decide) ?_
      refine lv_astore_n (lv' := [(3, .ref (ad (2 + g))), (0, .ref (ad 0)), (1, .int (nI f)), (2, .int (bI true))]) hx hb d_GB_takeFile_35 rfl hl (by decide) rfl (fun ls hl => ?_)
      refine lv_aload_n hx hb d_GB_takeFile_36 rfl (lv_at hl 0 rfl) ?_
      refine lv_ifnonnull (tgt := 50) hx hb d_GB_takeFile_37 (by decide) ?_
      have hq0 := hg4
      have hr0 : 2 * g < 8 := by omega
      have hs0 : 2 * g + 1 < 8 := by omega
      refine lv_aload_n hx hb d_GB_takeFile_50 rfl (lv_at hl 1 rfl) ?_
      refine lv_iconst (v := bI true) hx hb d_GB_takeFile_51 (by decide) ?_
      refine g_put (ws' := (wd ad cG cZ (uTT σ true))) (own := "GroupBitmaps") (C := R_GB) (T := F_GB) (N := 5) (ci := 0) (v := .int (bI true)) hx hb hg ku_GB t_GB t_GB_ok n_GB hown hK hI (0) (wd_GB) rfl 4 (by decide) kw_95 rfl rfl (bI_n _) (bI_fit _) (Nat.le_of_ble_eq_true rfl) (wd_uTT) d_GB_takeFile_52 (fun H locs hI => ?_)
      refine lv_aload_n hx hb d_GB_takeFile_55 rfl (lv_at hl 0 rfl) ?_
      refine lv_iload_n hx hb d_GB_takeFile_56 rfl (lv_at hl 3 rfl) ?_
      refine g_callV (own := "GroupBitmaps") (C := "GroupBitmaps$Group") (T := F_GR) (N := 6) (k := 1) (q0 := 2 + g) (ci := 1) (a := ad (2 + g)) (As := [.int (bI true)]) (rest := []) (c_GR_occupyFile (uTT σ true) g hg4 hσ1 k true hk hk2 hfr) hx hb hml hown hg hK hI hA kw_359 kw_360 kw_361 kw_2 kw_362 ky_GR_occupyFile ⟨Nat.le_of_ble_eq_true rfl, Nat.le_of_ble_eq_true rfl⟩ rfl rfl (wd_GR hq0) rfl rfl hl.1 (Nat.le_of_ble_eq_true rfl) ⟨Nat.zero_le _, Nat.zero_le _⟩ d_GB_takeFile_57 rfl rfl (fun H locs hI => ?_)
      exact g_ri hx hb hr hlk hI (rfl) d_GB_takeFile_60
  · exact absurd ((sHasF_nI hσ (by omega) hf).symm.trans h) (by decide)
set_option maxHeartbeats 4000000 in
set_option maxRecDepth 100000 in
theorem c_GB_isTaken_b {l : Launch} {D : va_G} {cG cZ cI cJ : ClassId} {ad : Nat → Nat} (σ : gS) (hσ : sB σ) (q : Nat) (hq : q < sAll σ) : gMet l D (gT cG cZ cI cJ) y_GB_isTaken b_GB_isTaken 3 (some .boolean) ({ frames := 8, cells := 0, slots := 0, locals := 140 }) (wd ad cG cZ σ) [.ref (ad 0), .int (nI 0), .int (nI q)] (wd ad cG cZ σ) (some (.int (bI (sSet σ (2 * (q / 256)) (q % 256))))) := by
  refine gMet_of (by decide) (Nat.le_of_ble_eq_true rfl) ?_
  intro p e s m below meth c A ls hC hA hI hl
  obtain ⟨hx, hb, hr, hlk, hown, hml, hg, hK⟩ := hC
  have hown : s.vm.findClass "GroupBitmaps" = some m.cls := hown
  have hl : lv_has ls 3 [(0, .ref (ad 0)), (1, .int (nI 0)), (2, .int (nI q))] := hl
  have hc1 := hσ.1
  have hc2 := hσ.2.1
  have hal := sAll_le hσ
  refine lv_iload_n hx hb d_GB_isTaken_0 rfl (lv_at hl 1 rfl) ?_
  refine r_zne (a := 0) (tgt := 29) hx hb d_GB_isTaken_1 (by decide) (by omega) (fun h9 => ?_) (fun h9 => ?_)
  · exact absurd h9 (by omega)
  · refine lv_aload_n hx hb d_GB_isTaken_4 rfl (lv_at hl 0 rfl) ?_
    refine lv_iload_n hx hb d_GB_isTaken_5 rfl (lv_at hl 2 rfl) ?_
    refine g_callV (own := "GroupBitmaps") (C := "GroupBitmaps") (T := F_GB) (N := 5) (k := 1) (q0 := 0) (ci := 0) (a := ad 0) (As := [.int (nI q)]) (rest := []) (c_GB_hasBlock σ hσ (nI q)) hx hb hml hown hg hK hI hA kw_223 kw_225 kp_4 kw_1 kw_226 ky_GB_hasBlock ⟨Nat.le_of_ble_eq_true rfl, Nat.le_of_ble_eq_true rfl⟩ rfl rfl (wd_GB) rfl rfl hl.1 (Nat.le_of_ble_eq_true rfl) ⟨Nat.zero_le _, Nat.zero_le _⟩ d_GB_isTaken_6 rfl rfl (fun H locs hI => ?_)
    refine r_bz (b := sHasB σ (nI q)) (tgt := 29) hx hb d_GB_isTaken_9 (by decide) (fun h => ?_) (fun h => ?_)
    · exact absurd ((sHasB_nI hσ hq).symm.trans h) (by decide)
    · refine lv_aload_n hx hb d_GB_isTaken_12 rfl (lv_at hl 0 rfl) ?_
      refine lv_iload_n hx hb d_GB_isTaken_13 rfl (lv_at hl 2 rfl) ?_
      refine g_callV (own := "GroupBitmaps") (C := "GroupBitmaps") (T := F_GB) (N := 5) (k := 1) (q0 := 0) (ci := 0) (a := ad 0) (As := [.int (nI q)]) (rest := []) (c_GB_groupOfBlock σ q (by omega)) hx hb hml hown hg hK hI hA kw_256 kw_258 kp_7 kw_1 kw_259 ky_GB_groupOfBlock ⟨Nat.le_of_ble_eq_true rfl, Nat.le_of_ble_eq_true rfl⟩ rfl rfl (wd_GB) rfl rfl hl.1 (Nat.le_of_ble_eq_true rfl) ⟨Nat.zero_le _, Nat.zero_le _⟩ d_GB_isTaken_14 rfl rfl (fun H locs hI => ?_)
      have hq0 := show q / 256 < 4 by omega
      have hr0 : 2 * (q / 256) < 8 := by omega
      have hs0 : 2 * (q / 256) + 1 < 8 := by omega
      refine g_getN (own := "GroupBitmaps") (C := R_GR) (T := F_GR) (N := 6) (ci := 1) (v := .ref (ad (6 + (2 * (q / 256))))) hx hb hg ku_GR hown hK hI (2 + (q / 256)) (wd_GR hq0) rfl 3 (by decide) kw_61 rfl d_GB_isTaken_17 ?_
      refine lv_iload_n hx hb d_GB_isTaken_20 rfl (lv_at hl 2 rfl) ?_
      refine lv_sipush (v := nI 256) hx hb d_GB_isTaken_21 (by decide) ?_
      refine r_irem (a := q) (b := 256) hx hb (by omega) (by omega) (by omega) d_GB_isTaken_24 ?_
      refine g_callV (own := "GroupBitmaps") (C := "GroupBitmaps$Bitmap") (T := F_BM) (N := 5) (k := 1) (q0 := 6 + (2 * (q / 256))) (ci := 2) (a := ad (6 + (2 * (q / 256)))) (As := [.int (nI (q % 256))]) (rest := []) (c_BM_isSet σ (2 * (q / 256)) hr0 (q % 256) (by omega)) hx hb hml hown hg hK hI hA kw_306 kw_265 kw_266 kw_3 kw_267 ky_BM_isSet ⟨Nat.le_of_ble_eq_true rfl, Nat.le_of_ble_eq_true rfl⟩ rfl rfl (wd_BM hr0) rfl rfl hl.1 (Nat.le_of_ble_eq_true rfl) ⟨Nat.zero_le _, Nat.zero_le _⟩ d_GB_isTaken_25 rfl rfl (fun H locs hI => ?_)
      exact g_rz hx hb hr hlk hI (rfl) d_GB_isTaken_28
set_option maxHeartbeats 4000000 in
set_option maxRecDepth 100000 in
theorem c_GB_isTaken_f {l : Launch} {D : va_G} {cG cZ cI cJ : ClassId} {ad : Nat → Nat} (σ : gS) (hσ : sB σ) (f : Nat) (hf1 : 1 ≤ f) (hf : f ≤ sCnt σ * 128) : gMet l D (gT cG cZ cI cJ) y_GB_isTaken b_GB_isTaken 3 (some .boolean) ({ frames := 8, cells := 0, slots := 0, locals := 140 }) (wd ad cG cZ σ) [.ref (ad 0), .int (nI 1), .int (nI f)] (wd ad cG cZ σ) (some (.int (bI (sSet σ (2 * ((f - 1) / 128) + 1) ((f - 1) % 128))))) := by
  refine gMet_of (by decide) (Nat.le_of_ble_eq_true rfl) ?_
  intro p e s m below meth c A ls hC hA hI hl
  obtain ⟨hx, hb, hr, hlk, hown, hml, hg, hK⟩ := hC
  have hown : s.vm.findClass "GroupBitmaps" = some m.cls := hown
  have hl : lv_has ls 3 [(0, .ref (ad 0)), (1, .int (nI 1)), (2, .int (nI f))] := hl
  have hc1 := hσ.1
  have hc2 := hσ.2.1
  refine lv_iload_n hx hb d_GB_isTaken_0 rfl (lv_at hl 1 rfl) ?_
  refine r_zne (a := 1) (tgt := 29) hx hb d_GB_isTaken_1 (by decide) (by omega) (fun h9 => ?_) (fun h9 => ?_)
  · refine lv_iload_n hx hb d_GB_isTaken_29 rfl (lv_at hl 1 rfl) ?_
    refine lv_iconst (v := nI 1) hx hb d_GB_isTaken_30 (by decide) ?_
    refine r_ne (a := 1) (b := 1) (tgt := 61) hx hb d_GB_isTaken_31 (by decide) (by omega) (by omega) (fun h9 => ?_) (fun h9 => ?_)
    · exact absurd h9 (by omega)
    · refine lv_aload_n hx hb d_GB_isTaken_34 rfl (lv_at hl 0 rfl) ?_
      refine lv_iload_n hx hb d_GB_isTaken_35 rfl (lv_at hl 2 rfl) ?_
      refine g_callV (own := "GroupBitmaps") (C := "GroupBitmaps") (T := F_GB) (N := 5) (k := 1) (q0 := 0) (ci := 0) (a := ad 0) (As := [.int (nI f)]) (rest := []) (c_GB_hasFile σ hσ (nI f)) hx hb hml hown hg hK hI hA kw_319 kw_321 kp_12 kw_1 kw_322 ky_GB_hasFile ⟨Nat.le_of_ble_eq_true rfl, Nat.le_of_ble_eq_true rfl⟩ rfl rfl (wd_GB) rfl rfl hl.1 (Nat.le_of_ble_eq_true rfl) ⟨Nat.zero_le _, Nat.zero_le _⟩ d_GB_isTaken_36 rfl rfl (fun H locs hI => ?_)
      refine r_bz (b := sHasF σ (nI f)) (tgt := 61) hx hb d_GB_isTaken_39 (by decide) (fun h => ?_) (fun h => ?_)
      · exact absurd ((sHasF_nI hσ hf1 hf).symm.trans h) (by decide)
      · refine lv_aload_n hx hb d_GB_isTaken_42 rfl (lv_at hl 0 rfl) ?_
        refine lv_iload_n hx hb d_GB_isTaken_43 rfl (lv_at hl 2 rfl) ?_
        refine g_callV (own := "GroupBitmaps") (C := "GroupBitmaps") (T := F_GB) (N := 5) (k := 1) (q0 := 0) (ci := 0) (a := ad 0) (As := [.int (nI f)]) (rest := []) (c_GB_groupOfFile σ f (by omega) hf1) hx hb hml hown hg hK hI hA kw_328 kw_330 kp_14 kw_1 kw_331 ky_GB_groupOfFile ⟨Nat.le_of_ble_eq_true rfl, Nat.le_of_ble_eq_true rfl⟩ rfl rfl (wd_GB) rfl rfl hl.1 (Nat.le_of_ble_eq_true rfl) ⟨Nat.zero_le _, Nat.zero_le _⟩ d_GB_isTaken_44 rfl rfl (fun H locs hI => ?_)
        have hq0 := show (f - 1) / 128 < 4 by omega
        have hr0 : 2 * ((f - 1) / 128) < 8 := by omega
        have hs0 : 2 * ((f - 1) / 128) + 1 < 8 := by omega
        refine g_getN (own := "GroupBitmaps") (C := R_GR) (T := F_GR) (N := 6) (ci := 1) (v := .ref (ad (6 + (2 * ((f - 1) / 128) + 1)))) hx hb hg ku_GR hown hK hI (2 + ((f - 1) / 128)) (wd_GR hq0) rfl 4 (by decide) kw_63 rfl d_GB_isTaken_47 ?_
        refine lv_iload_n hx hb d_GB_isTaken_50 rfl (lv_at hl 2 rfl) ?_
        refine lv_iconst (v := nI 1) hx hb d_GB_isTaken_51 (by decide) ?_
        refine r_isub (a := f) (b := 1) hx hb (by omega) d_GB_isTaken_52 ?_
        refine lv_sipush (v := nI 128) hx hb d_GB_isTaken_53 (by decide) ?_
        refine r_irem (a := f - 1) (b := 128) hx hb (by omega) (by omega) (by omega) d_GB_isTaken_56 ?_
        refine g_callV (own := "GroupBitmaps") (C := "GroupBitmaps$Bitmap") (T := F_BM) (N := 5) (k := 1) (q0 := 6 + (2 * ((f - 1) / 128) + 1)) (ci := 2) (a := ad (6 + (2 * ((f - 1) / 128) + 1))) (As := [.int (nI ((f - 1) % 128))]) (rest := []) (c_BM_isSet σ (2 * ((f - 1) / 128) + 1) hs0 ((f - 1) % 128) (by omega)) hx hb hml hown hg hK hI hA kw_306 kw_265 kw_266 kw_3 kw_267 ky_BM_isSet ⟨Nat.le_of_ble_eq_true rfl, Nat.le_of_ble_eq_true rfl⟩ rfl rfl (wd_BM hs0) rfl rfl hl.1 (Nat.le_of_ble_eq_true rfl) ⟨Nat.zero_le _, Nat.zero_le _⟩ d_GB_isTaken_57 rfl rfl (fun H locs hI => ?_)
        exact g_rz hx hb hr hlk hI (rfl) d_GB_isTaken_60
  · exact absurd h9 (by omega)
set_option maxHeartbeats 4000000 in
set_option maxRecDepth 100000 in
theorem c_GB_group0 {l : Launch} {D : va_G} {cG cZ cI cJ : ClassId} {ad : Nat → Nat} (σ : gS) (hσ : sB σ) (g : Nat) (hgc : g < sCnt σ) : gMet l D (gT cG cZ cI cJ) y_GB_group b_GB_group 4 (some .int) ({ frames := 8, cells := 0, slots := 0, locals := 140 }) (wd ad cG cZ σ) [.ref (ad 0), .int (nI g), .int (nI 0)] (wd ad cG cZ σ) (some (.int (nI (sGrp σ g 0)))) := by
  refine gMet_of (by decide) (Nat.le_of_ble_eq_true rfl) ?_
  intro p e s m below meth c A ls hC hA hI hl
  obtain ⟨hx, hb, hr, hlk, hown, hml, hg, hK⟩ := hC
  have hown : s.vm.findClass "GroupBitmaps" = some m.cls := hown
  have hl : lv_has ls 4 [(0, .ref (ad 0)), (1, .int (nI g)), (2, .int (nI 0))] := hl
  have hc1 := hσ.1
  have hc2 := hσ.2.1
  refine lv_iload_n hx hb d_GB_group_0 rfl (lv_at hl 1 rfl) ?_
  refine r_zlt (a := g) (tgt := 12) hx hb d_GB_group_1 (by decide) (by omega) ?_
  refine lv_iload_n hx hb d_GB_group_4 rfl (lv_at hl 1 rfl) ?_
  refine lv_aload_n hx hb d_GB_group_5 rfl (lv_at hl 0 rfl) ?_
  refine g_get (own := "GroupBitmaps") (C := R_GB) (T := F_GB) (N := 5) (ci := 0) (v := .int (nI (sCnt σ))) hx hb hg ku_GB hown hK hI (0) (wd_GB) rfl 1 (by decide) kw_92 rfl d_GB_group_6 ?_
  refine r_lt (a := g) (b := sCnt σ) (tgt := 22) hx hb d_GB_group_9 (by decide) (by omega) (by omega) (fun h9 => ?_) (fun h9 => ?_)
  · refine lv_aload_n hx hb d_GB_group_22 rfl (lv_at hl 0 rfl) ?_
    refine g_get (own := "GroupBitmaps") (C := R_GB) (T := F_GB) (N := 5) (ci := 0) (v := .ref (ad 1)) hx hb hg ku_GB hown hK hI (0) (wd_GB) rfl 0 (by decide) kw_91 rfl d_GB_group_23 ?_
    refine lv_iload_n hx hb d_GB_group_26 rfl (lv_at hl 1 rfl) ?_
    refine g_aldq (r := ad (2 + g)) (i := g) hx hb hK hI (1) 0 (wd_GA) rfl (by omega) (by decide) rfl d_GB_group_27 ?_
    have hq0 := show g < 4 by omega
    have hr0 : 2 * g < 8 := by omega
    have hs0 : 2 * g + 1 < 8 := by omega
    refine lv_astore_n (lv' := [(3, .ref (ad (2 + g))), (0, .ref (ad 0)), (1, .int (nI g)), (2, .int (nI 0))]) hx hb d_GB_group_28 rfl hl (by decide) rfl (fun ls hl => ?_)
    refine lv_iload_n hx hb d_GB_group_29 rfl (lv_at hl 3 rfl) ?_
    refine lv_tableIn (x := nI 0) (off := 38) (tgt := 68) hx hb d_GB_group_30 (by decide) (by decide) (by decide) (by decide) ?_
    refine lv_aload_n hx hb d_GB_group_68 rfl (lv_at hl 0 rfl) ?_
    refine g_getN (own := "GroupBitmaps") (C := R_GR) (T := F_GR) (N := 6) (ci := 1) (v := .int (nI (256 * g))) hx hb hg ku_GR hown hK hI (2 + g) (wd_GR hq0) rfl 0 (by decide) kw_56 rfl d_GB_group_69 ?_
    exact g_ri hx hb hr hlk hI (rfl) d_GB_group_72
  · exact absurd h9 (by omega)
set_option maxHeartbeats 4000000 in
set_option maxRecDepth 100000 in
theorem c_GB_group1 {l : Launch} {D : va_G} {cG cZ cI cJ : ClassId} {ad : Nat → Nat} (σ : gS) (hσ : sB σ) (g : Nat) (hgc : g < sCnt σ) : gMet l D (gT cG cZ cI cJ) y_GB_group b_GB_group 4 (some .int) ({ frames := 8, cells := 0, slots := 0, locals := 140 }) (wd ad cG cZ σ) [.ref (ad 0), .int (nI g), .int (nI 1)] (wd ad cG cZ σ) (some (.int (nI (sGrp σ g 1)))) := by
  refine gMet_of (by decide) (Nat.le_of_ble_eq_true rfl) ?_
  intro p e s m below meth c A ls hC hA hI hl
  obtain ⟨hx, hb, hr, hlk, hown, hml, hg, hK⟩ := hC
  have hown : s.vm.findClass "GroupBitmaps" = some m.cls := hown
  have hl : lv_has ls 4 [(0, .ref (ad 0)), (1, .int (nI g)), (2, .int (nI 1))] := hl
  have hc1 := hσ.1
  have hc2 := hσ.2.1
  refine lv_iload_n hx hb d_GB_group_0 rfl (lv_at hl 1 rfl) ?_
  refine r_zlt (a := g) (tgt := 12) hx hb d_GB_group_1 (by decide) (by omega) ?_
  refine lv_iload_n hx hb d_GB_group_4 rfl (lv_at hl 1 rfl) ?_
  refine lv_aload_n hx hb d_GB_group_5 rfl (lv_at hl 0 rfl) ?_
  refine g_get (own := "GroupBitmaps") (C := R_GB) (T := F_GB) (N := 5) (ci := 0) (v := .int (nI (sCnt σ))) hx hb hg ku_GB hown hK hI (0) (wd_GB) rfl 1 (by decide) kw_92 rfl d_GB_group_6 ?_
  refine r_lt (a := g) (b := sCnt σ) (tgt := 22) hx hb d_GB_group_9 (by decide) (by omega) (by omega) (fun h9 => ?_) (fun h9 => ?_)
  · refine lv_aload_n hx hb d_GB_group_22 rfl (lv_at hl 0 rfl) ?_
    refine g_get (own := "GroupBitmaps") (C := R_GB) (T := F_GB) (N := 5) (ci := 0) (v := .ref (ad 1)) hx hb hg ku_GB hown hK hI (0) (wd_GB) rfl 0 (by decide) kw_91 rfl d_GB_group_23 ?_
    refine lv_iload_n hx hb d_GB_group_26 rfl (lv_at hl 1 rfl) ?_
    refine g_aldq (r := ad (2 + g)) (i := g) hx hb hK hI (1) 0 (wd_GA) rfl (by omega) (by decide) rfl d_GB_group_27 ?_
    have hq0 := show g < 4 by omega
    have hr0 : 2 * g < 8 := by omega
    have hs0 : 2 * g + 1 < 8 := by omega
    refine lv_astore_n (lv' := [(3, .ref (ad (2 + g))), (0, .ref (ad 0)), (1, .int (nI g)), (2, .int (nI 1))]) hx hb d_GB_group_28 rfl hl (by decide) rfl (fun ls hl => ?_)
    refine lv_iload_n hx hb d_GB_group_29 rfl (lv_at hl 3 rfl) ?_
    refine lv_tableIn (x := nI 1) (off := 43) (tgt := 73) hx hb d_GB_group_30 (by decide) (by decide) (by decide) (by decide) ?_
    refine lv_aload_n hx hb d_GB_group_73 rfl (lv_at hl 0 rfl) ?_
    refine g_getN (own := "GroupBitmaps") (C := R_GR) (T := F_GR) (N := 6) (ci := 1) (v := .ref (ad (6 + (2 * g)))) hx hb hg ku_GR hown hK hI (2 + g) (wd_GR hq0) rfl 3 (by decide) kw_61 rfl d_GB_group_74 ?_
    refine g_getN (own := "GroupBitmaps") (C := R_BM) (T := F_BM) (N := 5) (ci := 2) (v := .int (nI (sSz σ (2 * g)))) hx hb hg ku_BM hown hK hI (6 + (2 * g)) (wd_BM hr0) rfl 2 (by decide) kw_37 rfl d_GB_group_77 ?_
    exact g_ri hx hb hr hlk hI (rfl) d_GB_group_80
  · exact absurd h9 (by omega)
set_option maxHeartbeats 4000000 in
set_option maxRecDepth 100000 in
theorem c_GB_group2 {l : Launch} {D : va_G} {cG cZ cI cJ : ClassId} {ad : Nat → Nat} (σ : gS) (hσ : sB σ) (g : Nat) (hgc : g < sCnt σ) : gMet l D (gT cG cZ cI cJ) y_GB_group b_GB_group 4 (some .int) ({ frames := 8, cells := 0, slots := 0, locals := 140 }) (wd ad cG cZ σ) [.ref (ad 0), .int (nI g), .int (nI 2)] (wd ad cG cZ σ) (some (.int (nI (sGrp σ g 2)))) := by
  refine gMet_of (by decide) (Nat.le_of_ble_eq_true rfl) ?_
  intro p e s m below meth c A ls hC hA hI hl
  obtain ⟨hx, hb, hr, hlk, hown, hml, hg, hK⟩ := hC
  have hown : s.vm.findClass "GroupBitmaps" = some m.cls := hown
  have hl : lv_has ls 4 [(0, .ref (ad 0)), (1, .int (nI g)), (2, .int (nI 2))] := hl
  have hc1 := hσ.1
  have hc2 := hσ.2.1
  refine lv_iload_n hx hb d_GB_group_0 rfl (lv_at hl 1 rfl) ?_
  refine r_zlt (a := g) (tgt := 12) hx hb d_GB_group_1 (by decide) (by omega) ?_
  refine lv_iload_n hx hb d_GB_group_4 rfl (lv_at hl 1 rfl) ?_
  refine lv_aload_n hx hb d_GB_group_5 rfl (lv_at hl 0 rfl) ?_
  refine g_get (own := "GroupBitmaps") (C := R_GB) (T := F_GB) (N := 5) (ci := 0) (v := .int (nI (sCnt σ))) hx hb hg ku_GB hown hK hI (0) (wd_GB) rfl 1 (by decide) kw_92 rfl d_GB_group_6 ?_
  refine r_lt (a := g) (b := sCnt σ) (tgt := 22) hx hb d_GB_group_9 (by decide) (by omega) (by omega) (fun h9 => ?_) (fun h9 => ?_)
  · refine lv_aload_n hx hb d_GB_group_22 rfl (lv_at hl 0 rfl) ?_
    refine g_get (own := "GroupBitmaps") (C := R_GB) (T := F_GB) (N := 5) (ci := 0) (v := .ref (ad 1)) hx hb hg ku_GB hown hK hI (0) (wd_GB) rfl 0 (by decide) kw_91 rfl d_GB_group_23 ?_
    refine lv_iload_n hx hb d_GB_group_26 rfl (lv_at hl 1 rfl) ?_
    refine g_aldq (r := ad (2 + g)) (i := g) hx hb hK hI (1) 0 (wd_GA) rfl (by omega) (by decide) rfl d_GB_group_27 ?_
    have hq0 := show g < 4 by omega
    have hr0 : 2 * g < 8 := by omega
    have hs0 : 2 * g + 1 < 8 := by omega
    refine lv_astore_n (lv' := [(3, .ref (ad (2 + g))), (0, .ref (ad 0)), (1, .int (nI g)), (2, .int (nI 2))]) hx hb d_GB_group_28 rfl hl (by decide) rfl (fun ls hl => ?_)
    refine lv_iload_n hx hb d_GB_group_29 rfl (lv_at hl 3 rfl) ?_
    refine lv_tableIn (x := nI 2) (off := 51) (tgt := 81) hx hb d_GB_group_30 (by decide) (by decide) (by decide) (by decide) ?_
    refine lv_aload_n hx hb d_GB_group_81 rfl (lv_at hl 0 rfl) ?_
    refine g_getN (own := "GroupBitmaps") (C := R_GR) (T := F_GR) (N := 6) (ci := 1) (v := .ref (ad (6 + (2 * g)))) hx hb hg ku_GR hown hK hI (2 + g) (wd_GR hq0) rfl 3 (by decide) kw_61 rfl d_GB_group_82 ?_
    refine g_getN (own := "GroupBitmaps") (C := R_BM) (T := F_BM) (N := 5) (ci := 2) (v := .int (nI (sFr σ (2 * g)))) hx hb hg ku_BM hown hK hI (6 + (2 * g)) (wd_BM hr0) rfl 3 (by decide) kw_40 rfl d_GB_group_85 ?_
    exact g_ri hx hb hr hlk hI (rfl) d_GB_group_88
  · exact absurd h9 (by omega)
set_option maxHeartbeats 4000000 in
set_option maxRecDepth 100000 in
theorem c_GB_group3 {l : Launch} {D : va_G} {cG cZ cI cJ : ClassId} {ad : Nat → Nat} (σ : gS) (hσ : sB σ) (g : Nat) (hgc : g < sCnt σ) : gMet l D (gT cG cZ cI cJ) y_GB_group b_GB_group 4 (some .int) ({ frames := 8, cells := 0, slots := 0, locals := 140 }) (wd ad cG cZ σ) [.ref (ad 0), .int (nI g), .int (nI 3)] (wd ad cG cZ σ) (some (.int (nI (sGrp σ g 3)))) := by
  refine gMet_of (by decide) (Nat.le_of_ble_eq_true rfl) ?_
  intro p e s m below meth c A ls hC hA hI hl
  obtain ⟨hx, hb, hr, hlk, hown, hml, hg, hK⟩ := hC
  have hown : s.vm.findClass "GroupBitmaps" = some m.cls := hown
  have hl : lv_has ls 4 [(0, .ref (ad 0)), (1, .int (nI g)), (2, .int (nI 3))] := hl
  have hc1 := hσ.1
  have hc2 := hσ.2.1
  refine lv_iload_n hx hb d_GB_group_0 rfl (lv_at hl 1 rfl) ?_
  refine r_zlt (a := g) (tgt := 12) hx hb d_GB_group_1 (by decide) (by omega) ?_
  refine lv_iload_n hx hb d_GB_group_4 rfl (lv_at hl 1 rfl) ?_
  refine lv_aload_n hx hb d_GB_group_5 rfl (lv_at hl 0 rfl) ?_
  refine g_get (own := "GroupBitmaps") (C := R_GB) (T := F_GB) (N := 5) (ci := 0) (v := .int (nI (sCnt σ))) hx hb hg ku_GB hown hK hI (0) (wd_GB) rfl 1 (by decide) kw_92 rfl d_GB_group_6 ?_
  refine r_lt (a := g) (b := sCnt σ) (tgt := 22) hx hb d_GB_group_9 (by decide) (by omega) (by omega) (fun h9 => ?_) (fun h9 => ?_)
  · refine lv_aload_n hx hb d_GB_group_22 rfl (lv_at hl 0 rfl) ?_
    refine g_get (own := "GroupBitmaps") (C := R_GB) (T := F_GB) (N := 5) (ci := 0) (v := .ref (ad 1)) hx hb hg ku_GB hown hK hI (0) (wd_GB) rfl 0 (by decide) kw_91 rfl d_GB_group_23 ?_
    refine lv_iload_n hx hb d_GB_group_26 rfl (lv_at hl 1 rfl) ?_
    refine g_aldq (r := ad (2 + g)) (i := g) hx hb hK hI (1) 0 (wd_GA) rfl (by omega) (by decide) rfl d_GB_group_27 ?_
    have hq0 := show g < 4 by omega
    have hr0 : 2 * g < 8 := by omega
    have hs0 : 2 * g + 1 < 8 := by omega
    refine lv_astore_n (lv' := [(3, .ref (ad (2 + g))), (0, .ref (ad 0)), (1, .int (nI g)), (2, .int (nI 3))]) hx hb d_GB_group_28 rfl hl (by decide) rfl (fun ls hl => ?_)
    refine lv_iload_n hx hb d_GB_group_29 rfl (lv_at hl 3 rfl) ?_
    refine lv_tableIn (x := nI 3) (off := 59) (tgt := 89) hx hb d_GB_group_30 (by decide) (by decide) (by decide) (by decide) ?_
    refine lv_aload_n hx hb d_GB_group_89 rfl (lv_at hl 0 rfl) ?_
    refine g_getN (own := "GroupBitmaps") (C := R_GR) (T := F_GR) (N := 6) (ci := 1) (v := .ref (ad (6 + (2 * g + 1)))) hx hb hg ku_GR hown hK hI (2 + g) (wd_GR hq0) rfl 4 (by decide) kw_63 rfl d_GB_group_90 ?_
    refine g_getN (own := "GroupBitmaps") (C := R_BM) (T := F_BM) (N := 5) (ci := 2) (v := .int (nI (sFr σ (2 * g + 1)))) hx hb hg ku_BM hown hK hI (6 + (2 * g + 1)) (wd_BM hs0) rfl 3 (by decide) kw_40 rfl d_GB_group_93 ?_
    exact g_ri hx hb hr hlk hI (rfl) d_GB_group_96
  · exact absurd h9 (by omega)
set_option maxHeartbeats 4000000 in
set_option maxRecDepth 100000 in
theorem c_GB_group4 {l : Launch} {D : va_G} {cG cZ cI cJ : ClassId} {ad : Nat → Nat} (σ : gS) (hσ : sB σ) (g : Nat) (hgc : g < sCnt σ) : gMet l D (gT cG cZ cI cJ) y_GB_group b_GB_group 4 (some .int) ({ frames := 8, cells := 0, slots := 0, locals := 140 }) (wd ad cG cZ σ) [.ref (ad 0), .int (nI g), .int (nI 4)] (wd ad cG cZ σ) (some (.int (nI (sGrp σ g 4)))) := by
  refine gMet_of (by decide) (Nat.le_of_ble_eq_true rfl) ?_
  intro p e s m below meth c A ls hC hA hI hl
  obtain ⟨hx, hb, hr, hlk, hown, hml, hg, hK⟩ := hC
  have hown : s.vm.findClass "GroupBitmaps" = some m.cls := hown
  have hl : lv_has ls 4 [(0, .ref (ad 0)), (1, .int (nI g)), (2, .int (nI 4))] := hl
  have hc1 := hσ.1
  have hc2 := hσ.2.1
  refine lv_iload_n hx hb d_GB_group_0 rfl (lv_at hl 1 rfl) ?_
  refine r_zlt (a := g) (tgt := 12) hx hb d_GB_group_1 (by decide) (by omega) ?_
  refine lv_iload_n hx hb d_GB_group_4 rfl (lv_at hl 1 rfl) ?_
  refine lv_aload_n hx hb d_GB_group_5 rfl (lv_at hl 0 rfl) ?_
  refine g_get (own := "GroupBitmaps") (C := R_GB) (T := F_GB) (N := 5) (ci := 0) (v := .int (nI (sCnt σ))) hx hb hg ku_GB hown hK hI (0) (wd_GB) rfl 1 (by decide) kw_92 rfl d_GB_group_6 ?_
  refine r_lt (a := g) (b := sCnt σ) (tgt := 22) hx hb d_GB_group_9 (by decide) (by omega) (by omega) (fun h9 => ?_) (fun h9 => ?_)
  · refine lv_aload_n hx hb d_GB_group_22 rfl (lv_at hl 0 rfl) ?_
    refine g_get (own := "GroupBitmaps") (C := R_GB) (T := F_GB) (N := 5) (ci := 0) (v := .ref (ad 1)) hx hb hg ku_GB hown hK hI (0) (wd_GB) rfl 0 (by decide) kw_91 rfl d_GB_group_23 ?_
    refine lv_iload_n hx hb d_GB_group_26 rfl (lv_at hl 1 rfl) ?_
    refine g_aldq (r := ad (2 + g)) (i := g) hx hb hK hI (1) 0 (wd_GA) rfl (by omega) (by decide) rfl d_GB_group_27 ?_
    have hq0 := show g < 4 by omega
    have hr0 : 2 * g < 8 := by omega
    have hs0 : 2 * g + 1 < 8 := by omega
    refine lv_astore_n (lv' := [(3, .ref (ad (2 + g))), (0, .ref (ad 0)), (1, .int (nI g)), (2, .int (nI 4))]) hx hb d_GB_group_28 rfl hl (by decide) rfl (fun ls hl => ?_)
    refine lv_iload_n hx hb d_GB_group_29 rfl (lv_at hl 3 rfl) ?_
    refine lv_tableIn (x := nI 4) (off := 67) (tgt := 97) hx hb d_GB_group_30 (by decide) (by decide) (by decide) (by decide) ?_
    refine lv_aload_n hx hb d_GB_group_97 rfl (lv_at hl 0 rfl) ?_
    refine g_getN (own := "GroupBitmaps") (C := R_GR) (T := F_GR) (N := 6) (ci := 1) (v := .int (nI (sFd σ g))) hx hb hg ku_GR hown hK hI (2 + g) (wd_GR hq0) rfl 5 (by decide) kw_65 rfl d_GB_group_98 ?_
    exact g_ri hx hb hr hlk hI (rfl) d_GB_group_101
  · exact absurd h9 (by omega)
set_option maxHeartbeats 4000000 in
set_option maxRecDepth 100000 in
theorem c_GB_group5 {l : Launch} {D : va_G} {cG cZ cI cJ : ClassId} {ad : Nat → Nat} (σ : gS) (hσ : sB σ) (g : Nat) (hgc : g < sCnt σ) : gMet l D (gT cG cZ cI cJ) y_GB_group b_GB_group 4 (some .int) ({ frames := 8, cells := 0, slots := 0, locals := 140 }) (wd ad cG cZ σ) [.ref (ad 0), .int (nI g), .int (nI 5)] (wd ad cG cZ σ) (some (.int (nI (sGrp σ g 5)))) := by
  refine gMet_of (by decide) (Nat.le_of_ble_eq_true rfl) ?_
  intro p e s m below meth c A ls hC hA hI hl
  obtain ⟨hx, hb, hr, hlk, hown, hml, hg, hK⟩ := hC
  have hown : s.vm.findClass "GroupBitmaps" = some m.cls := hown
  have hl : lv_has ls 4 [(0, .ref (ad 0)), (1, .int (nI g)), (2, .int (nI 5))] := hl
  have hc1 := hσ.1
  have hc2 := hσ.2.1
  refine lv_iload_n hx hb d_GB_group_0 rfl (lv_at hl 1 rfl) ?_
  refine r_zlt (a := g) (tgt := 12) hx hb d_GB_group_1 (by decide) (by omega) ?_
  refine lv_iload_n hx hb d_GB_group_4 rfl (lv_at hl 1 rfl) ?_
  refine lv_aload_n hx hb d_GB_group_5 rfl (lv_at hl 0 rfl) ?_
  refine g_get (own := "GroupBitmaps") (C := R_GB) (T := F_GB) (N := 5) (ci := 0) (v := .int (nI (sCnt σ))) hx hb hg ku_GB hown hK hI (0) (wd_GB) rfl 1 (by decide) kw_92 rfl d_GB_group_6 ?_
  refine r_lt (a := g) (b := sCnt σ) (tgt := 22) hx hb d_GB_group_9 (by decide) (by omega) (by omega) (fun h9 => ?_) (fun h9 => ?_)
  · refine lv_aload_n hx hb d_GB_group_22 rfl (lv_at hl 0 rfl) ?_
    refine g_get (own := "GroupBitmaps") (C := R_GB) (T := F_GB) (N := 5) (ci := 0) (v := .ref (ad 1)) hx hb hg ku_GB hown hK hI (0) (wd_GB) rfl 0 (by decide) kw_91 rfl d_GB_group_23 ?_
    refine lv_iload_n hx hb d_GB_group_26 rfl (lv_at hl 1 rfl) ?_
    refine g_aldq (r := ad (2 + g)) (i := g) hx hb hK hI (1) 0 (wd_GA) rfl (by omega) (by decide) rfl d_GB_group_27 ?_
    have hq0 := show g < 4 by omega
    have hr0 : 2 * g < 8 := by omega
    have hs0 : 2 * g + 1 < 8 := by omega
    refine lv_astore_n (lv' := [(3, .ref (ad (2 + g))), (0, .ref (ad 0)), (1, .int (nI g)), (2, .int (nI 5))]) hx hb d_GB_group_28 rfl hl (by decide) rfl (fun ls hl => ?_)
    refine lv_iload_n hx hb d_GB_group_29 rfl (lv_at hl 3 rfl) ?_
    refine lv_tableIn (x := nI 5) (off := 72) (tgt := 102) hx hb d_GB_group_30 (by decide) (by decide) (by decide) (by decide) ?_
    refine lv_aload_n hx hb d_GB_group_102 rfl (lv_at hl 0 rfl) ?_
    refine g_getN (own := "GroupBitmaps") (C := R_GR) (T := F_GR) (N := 6) (ci := 1) (v := .ref (ad (6 + (2 * g)))) hx hb hg ku_GR hown hK hI (2 + g) (wd_GR hq0) rfl 3 (by decide) kw_61 rfl d_GB_group_103 ?_
    refine g_callV (own := "GroupBitmaps") (C := "GroupBitmaps$Bitmap") (T := F_BM) (N := 5) (k := 0) (q0 := 6 + (2 * g)) (ci := 2) (a := ad (6 + (2 * g))) (As := []) (rest := []) (c_BM_longestRun σ (2 * g) hr0 (hσ.2.2.2.1 _ hr0).1) hx hb hml hown hg hK hI hA kw_288 kw_289 kw_290 kw_3 kw_291 ky_BM_longestRun ⟨Nat.le_of_ble_eq_true rfl, Nat.le_of_ble_eq_true rfl⟩ rfl rfl (wd_BM hr0) rfl rfl hl.1 (Nat.le_of_ble_eq_true rfl) ⟨Nat.zero_le _, Nat.zero_le _⟩ d_GB_group_106 rfl rfl (fun H locs hI => ?_)
    exact g_ri hx hb hr hlk hI (rfl) d_GB_group_109
  · exact absurd h9 (by omega)
set_option maxHeartbeats 4000000 in
set_option maxRecDepth 100000 in
theorem c_GB_byteOf {l : Launch} {D : va_G} {cG cZ cI cJ : ClassId} {ad : Nat → Nat} (σ : gS) (hσ : sB σ) (q i : Nat) (hq : q < 1024) (hi : i < 4096) : gMet l D (gT cG cZ cI cJ) y_GB_byteOf b_GB_byteOf 4 (some .int) ({ frames := 8, cells := 0, slots := 0, locals := 140 }) (wd ad cG cZ σ) [.ref (ad 0), .int (nI q), .int (nI i)] (wd ad cG cZ σ) (some (.int (nI (sByteOf σ q i)))) := by
  refine gMet_of (by decide) (Nat.le_of_ble_eq_true rfl) ?_
  intro p e s m below meth c A ls hC hA hI hl
  obtain ⟨hx, hb, hr, hlk, hown, hml, hg, hK⟩ := hC
  have hown : s.vm.findClass "GroupBitmaps" = some m.cls := hown
  have hl : lv_has ls 4 [(0, .ref (ad 0)), (1, .int (nI q)), (2, .int (nI i))] := hl
  have hc1 := hσ.1
  have hc2 := hσ.2.1
  refine lv_iload_n hx hb d_GB_byteOf_0 rfl (lv_at hl 1 rfl) ?_
  refine r_zlt (a := q) (tgt := 22) hx hb d_GB_byteOf_1 (by decide) (by omega) ?_
  refine lv_iload_n hx hb d_GB_byteOf_4 rfl (lv_at hl 1 rfl) ?_
  refine lv_sipush (v := nI 1024) hx hb d_GB_byteOf_5 (by decide) ?_
  refine r_ge (a := q) (b := 1024) (tgt := 22) hx hb d_GB_byteOf_8 (by decide) (by omega) (by omega) (fun h9 => ?_) (fun h9 => ?_)
  · exact absurd h9 (by omega)
  · refine lv_iload_n hx hb d_GB_byteOf_11 rfl (lv_at hl 2 rfl) ?_
    refine r_zlt (a := i) (tgt := 22) hx hb d_GB_byteOf_12 (by decide) (by omega) ?_
    refine lv_iload_n hx hb d_GB_byteOf_15 rfl (lv_at hl 2 rfl) ?_
    refine lv_sipush (v := nI 4096) hx hb d_GB_byteOf_16 (by decide) ?_
    refine r_lt (a := i) (b := 4096) (tgt := 32) hx hb d_GB_byteOf_19 (by decide) (by omega) (by omega) (fun h9 => ?_) (fun h9 => ?_)
    · refine lv_iload_n hx hb d_GB_byteOf_32 rfl (lv_at hl 1 rfl) ?_
      refine lv_iconst (v := nI 1) hx hb d_GB_byteOf_33 (by decide) ?_
      refine r_ne (a := q) (b := 1) (tgt := 43) hx hb d_GB_byteOf_34 (by decide) (by omega) (by omega) (fun h => ?_) (fun h => ?_)
      · refine lv_aload_n hx hb d_GB_byteOf_43 rfl (lv_at hl 0 rfl) ?_
        refine lv_iload_n hx hb d_GB_byteOf_44 rfl (lv_at hl 1 rfl) ?_
        refine g_callV (own := "GroupBitmaps") (C := "GroupBitmaps") (T := F_GB) (N := 5) (k := 1) (q0 := 0) (ci := 0) (a := ad 0) (As := [.int (nI q)]) (rest := []) (c_GB_groupOfBlock σ q hq) hx hb hml hown hg hK hI hA kw_256 kw_258 kp_7 kw_1 kw_259 ky_GB_groupOfBlock ⟨Nat.le_of_ble_eq_true rfl, Nat.le_of_ble_eq_true rfl⟩ rfl rfl (wd_GB) rfl rfl hl.1 (Nat.le_of_ble_eq_true rfl) ⟨Nat.zero_le _, Nat.zero_le _⟩ d_GB_byteOf_45 rfl rfl (fun H locs hI => ?_)
        have hq0 := show q / 256 < 4 by omega
        have hr0 : 2 * (q / 256) < 8 := by omega
        have hs0 : 2 * (q / 256) + 1 < 8 := by omega
        refine lv_iload_n hx hb d_GB_byteOf_48 rfl (lv_at hl 1 rfl) ?_
        refine g_callV (own := "GroupBitmaps") (C := "GroupBitmaps$Group") (T := F_GR) (N := 6) (k := 1) (q0 := 2 + (q / 256)) (ci := 1) (a := ad (2 + (q / 256))) (As := [.int (nI q)]) (rest := []) (c_GR_bitmapIn σ (q / 256) hq0 q (by omega)) hx hb hml hown hg hK hI hA kw_435 kw_436 kw_437 kw_2 kw_438 ky_GR_bitmapIn ⟨Nat.le_of_ble_eq_true rfl, Nat.le_of_ble_eq_true rfl⟩ rfl rfl (wd_GR hq0) rfl rfl hl.1 (Nat.le_of_ble_eq_true rfl) ⟨Nat.zero_le _, Nat.zero_le _⟩ d_GB_byteOf_49 rfl rfl (fun H locs hI => ?_)
        by_cases h2 : q = gPl (2 * (q / 256))
        · rw [show bmR ad (q / 256) q = .ref (ad (6 + (2 * (q / 256)))) from if_pos h2]
          refine lv_astore_n (lv' := [(3, .ref (ad (6 + (2 * (q / 256))))), (0, .ref (ad 0)), (1, .int (nI q)), (2, .int (nI i))]) hx hb d_GB_byteOf_52 rfl hl (by decide) rfl (fun ls hl => ?_)
          refine lv_aload_n hx hb d_GB_byteOf_53 rfl (lv_at hl 0 rfl) ?_
          refine lv_ifnonnull (tgt := 61) hx hb d_GB_byteOf_54 (by decide) ?_
          refine lv_aload_n hx hb d_GB_byteOf_61 rfl (lv_at hl 0 rfl) ?_
          refine lv_iload_n hx hb d_GB_byteOf_62 rfl (lv_at hl 3 rfl) ?_
          refine g_callV (own := "GroupBitmaps") (C := "GroupBitmaps$Bitmap") (T := F_BM) (N := 5) (k := 1) (q0 := 6 + (2 * (q / 256))) (ci := 2) (a := ad (6 + (2 * (q / 256)))) (As := [.int (nI i)]) (rest := []) (c_BM_byteAt σ (2 * (q / 256)) hr0 i hi) hx hb hml hown hg hK hI hA kw_439 kw_440 kw_441 kw_3 kw_442 ky_BM_byteAt ⟨Nat.le_of_ble_eq_true rfl, Nat.le_of_ble_eq_true rfl⟩ rfl rfl (wd_BM hr0) rfl rfl hl.1 (Nat.le_of_ble_eq_true rfl) ⟨Nat.zero_le _, Nat.zero_le _⟩ d_GB_byteOf_63 rfl rfl (fun H locs hI => ?_)
          exact g_ri hx hb hr hlk hI (by rw [sByteOf, if_neg h, if_pos h2]) d_GB_byteOf_66
        · by_cases h3 : q = gPl (2 * (q / 256) + 1)
          · rw [show bmR ad (q / 256) q = .ref (ad (6 + (2 * (q / 256) + 1))) from (if_neg h2).trans (if_pos h3)]
            refine lv_astore_n (lv' := [(3, .ref (ad (6 + (2 * (q / 256) + 1)))), (0, .ref (ad 0)), (1, .int (nI q)), (2, .int (nI i))]) hx hb d_GB_byteOf_52 rfl hl (by decide) rfl (fun ls hl => ?_)
            refine lv_aload_n hx hb d_GB_byteOf_53 rfl (lv_at hl 0 rfl) ?_
            refine lv_ifnonnull (tgt := 61) hx hb d_GB_byteOf_54 (by decide) ?_
            refine lv_aload_n hx hb d_GB_byteOf_61 rfl (lv_at hl 0 rfl) ?_
            refine lv_iload_n hx hb d_GB_byteOf_62 rfl (lv_at hl 3 rfl) ?_
            refine g_callV (own := "GroupBitmaps") (C := "GroupBitmaps$Bitmap") (T := F_BM) (N := 5) (k := 1) (q0 := 6 + (2 * (q / 256) + 1)) (ci := 2) (a := ad (6 + (2 * (q / 256) + 1))) (As := [.int (nI i)]) (rest := []) (c_BM_byteAt σ (2 * (q / 256) + 1) hs0 i hi) hx hb hml hown hg hK hI hA kw_439 kw_440 kw_441 kw_3 kw_442 ky_BM_byteAt ⟨Nat.le_of_ble_eq_true rfl, Nat.le_of_ble_eq_true rfl⟩ rfl rfl (wd_BM hs0) rfl rfl hl.1 (Nat.le_of_ble_eq_true rfl) ⟨Nat.zero_le _, Nat.zero_le _⟩ d_GB_byteOf_63 rfl rfl (fun H locs hI => ?_)
            exact g_ri hx hb hr hlk hI (by rw [sByteOf, if_neg h, if_neg h2, if_pos h3]) d_GB_byteOf_66
          · rw [show bmR ad (q / 256) q = .null from (if_neg h2).trans (if_neg h3)]
            refine lv_astore_nN (lv' := [(3, .null), (0, .ref (ad 0)), (1, .int (nI q)), (2, .int (nI i))]) hx hb d_GB_byteOf_52 rfl hl (by decide) rfl (fun ls hl => ?_)
            refine lv_aload_nN hx hb d_GB_byteOf_53 rfl (lv_at hl 0 rfl) ?_
            refine lv_ifnonnullN hx hb d_GB_byteOf_54 ?_
            refine lv_iconst (v := nI 0) hx hb d_GB_byteOf_57 (by decide) ?_
            refine lv_goto (tgt := 66) hx hb d_GB_byteOf_58 (by decide) ?_
            exact g_ri hx hb hr hlk hI (by rw [sByteOf, if_neg h, if_neg h2, if_neg h3]) d_GB_byteOf_66
      · refine lv_aload_n hx hb d_GB_byteOf_37 rfl (lv_at hl 0 rfl) ?_
        refine lv_iload_n hx hb d_GB_byteOf_38 rfl (lv_at hl 2 rfl) ?_
        refine g_callV (own := "GroupBitmaps") (C := "GroupBitmaps") (T := F_GB) (N := 5) (k := 1) (q0 := 0) (ci := 0) (a := ad 0) (As := [.int (nI i)]) (rest := []) (c_GB_tableByte σ hσ i hi) hx hb hml hown hg hK hI hA kw_424 kw_426 kp_20 kw_1 kw_427 ky_GB_tableByte ⟨Nat.le_of_ble_eq_true rfl, Nat.le_of_ble_eq_true rfl⟩ rfl rfl (wd_GB) rfl rfl hl.1 (Nat.le_of_ble_eq_true rfl) ⟨Nat.zero_le _, Nat.zero_le _⟩ d_GB_byteOf_39 rfl rfl (fun H locs hI => ?_)
        exact g_ri hx hb hr hlk hI (by rw [sByteOf, if_pos h]) d_GB_byteOf_42
    · exact absurd h9 (by omega)
set_option maxHeartbeats 4000000 in
set_option maxRecDepth 100000 in
theorem c_GB_isTold {l : Launch} {D : va_G} {cG cZ cI cJ : ClassId} {ad : Nat → Nat} (σ : gS) (q : Nat) (hq : q < 1024) : gMet l D (gT cG cZ cI cJ) y_GB_isTold b_GB_isTold 3 (some .boolean) ({ frames := 8, cells := 0, slots := 0, locals := 140 }) (wd ad cG cZ σ) [.ref (ad 0), .int (nI q)] (wd ad cG cZ σ) (some (.int (bI (sTold σ q)))) := by
  refine gMet_of (by decide) (Nat.le_of_ble_eq_true rfl) ?_
  intro p e s m below meth c A ls hC hA hI hl
  obtain ⟨hx, hb, hr, hlk, hown, hml, hg, hK⟩ := hC
  have hown : s.vm.findClass "GroupBitmaps" = some m.cls := hown
  have hl : lv_has ls 3 [(0, .ref (ad 0)), (1, .int (nI q))] := hl
  refine lv_iload_n hx hb d_GB_isTold_0 rfl (lv_at hl 1 rfl) ?_
  refine r_zlt (a := q) (tgt := 11) hx hb d_GB_isTold_1 (by decide) (by omega) ?_
  refine lv_iload_n hx hb d_GB_isTold_4 rfl (lv_at hl 1 rfl) ?_
  refine lv_sipush (v := nI 1024) hx hb d_GB_isTold_5 (by decide) ?_
  refine r_lt (a := q) (b := 1024) (tgt := 21) hx hb d_GB_isTold_8 (by decide) (by omega) (by omega) (fun h9 => ?_) (fun h9 => ?_)
  · refine lv_iload_n hx hb d_GB_isTold_21 rfl (lv_at hl 1 rfl) ?_
    refine lv_iconst (v := nI 1) hx hb d_GB_isTold_22 (by decide) ?_
    refine r_ne (a := q) (b := 1) (tgt := 31) hx hb d_GB_isTold_23 (by decide) (by omega) (by omega) (fun h => ?_) (fun h => ?_)
    · refine lv_aload_n hx hb d_GB_isTold_31 rfl (lv_at hl 0 rfl) ?_
      refine lv_iload_n hx hb d_GB_isTold_32 rfl (lv_at hl 1 rfl) ?_
      refine g_callV (own := "GroupBitmaps") (C := "GroupBitmaps") (T := F_GB) (N := 5) (k := 1) (q0 := 0) (ci := 0) (a := ad 0) (As := [.int (nI q)]) (rest := []) (c_GB_groupOfBlock σ q hq) hx hb hml hown hg hK hI hA kw_256 kw_258 kp_7 kw_1 kw_259 ky_GB_groupOfBlock ⟨Nat.le_of_ble_eq_true rfl, Nat.le_of_ble_eq_true rfl⟩ rfl rfl (wd_GB) rfl rfl hl.1 (Nat.le_of_ble_eq_true rfl) ⟨Nat.zero_le _, Nat.zero_le _⟩ d_GB_isTold_33 rfl rfl (fun H locs hI => ?_)
      have hq0 := show q / 256 < 4 by omega
      have hr0 : 2 * (q / 256) < 8 := by omega
      have hs0 : 2 * (q / 256) + 1 < 8 := by omega
      refine lv_iload_n hx hb d_GB_isTold_36 rfl (lv_at hl 1 rfl) ?_
      refine g_callV (own := "GroupBitmaps") (C := "GroupBitmaps$Group") (T := F_GR) (N := 6) (k := 1) (q0 := 2 + (q / 256)) (ci := 1) (a := ad (2 + (q / 256))) (As := [.int (nI q)]) (rest := []) (c_GR_bitmapIn σ (q / 256) hq0 q (by omega)) hx hb hml hown hg hK hI hA kw_435 kw_436 kw_437 kw_2 kw_438 ky_GR_bitmapIn ⟨Nat.le_of_ble_eq_true rfl, Nat.le_of_ble_eq_true rfl⟩ rfl rfl (wd_GR hq0) rfl rfl hl.1 (Nat.le_of_ble_eq_true rfl) ⟨Nat.zero_le _, Nat.zero_le _⟩ d_GB_isTold_37 rfl rfl (fun H locs hI => ?_)
      by_cases h2 : q = gPl (2 * (q / 256))
      · rw [show bmR ad (q / 256) q = .ref (ad (6 + (2 * (q / 256)))) from if_pos h2]
        refine lv_astore_n (lv' := [(2, .ref (ad (6 + (2 * (q / 256))))), (0, .ref (ad 0)), (1, .int (nI q))]) hx hb d_GB_isTold_40 rfl hl (by decide) rfl (fun ls hl => ?_)
        refine lv_aload_n hx hb d_GB_isTold_41 rfl (lv_at hl 0 rfl) ?_
        refine lv_ifnull hx hb d_GB_isTold_42 ?_
        refine lv_aload_n hx hb d_GB_isTold_45 rfl (lv_at hl 0 rfl) ?_
        refine g_getN (own := "GroupBitmaps") (C := R_BM) (T := F_BM) (N := 5) (ci := 2) (v := .int (bI (sTd σ (2 * (q / 256))))) hx hb hg ku_BM hown hK hI (6 + (2 * (q / 256))) (wd_BM hr0) rfl 4 (by decide) kw_42 rfl d_GB_isTold_46 ?_
        refine r_bz (b := sTd σ (2 * (q / 256))) (tgt := 56) hx hb d_GB_isTold_49 (by decide) (fun h5 => ?_) (fun h5 => ?_)
        · refine lv_iconst (v := bI false) hx hb d_GB_isTold_56 (by decide) ?_
          exact g_rz hx hb hr hlk hI (by rw [sTold, if_neg h, if_pos h2, h5]) d_GB_isTold_57
        · refine lv_iconst (v := bI true) hx hb d_GB_isTold_52 (by decide) ?_
          refine lv_goto (tgt := 57) hx hb d_GB_isTold_53 (by decide) ?_
          exact g_rz hx hb hr hlk hI (by rw [sTold, if_neg h, if_pos h2, h5]) d_GB_isTold_57
      · by_cases h3 : q = gPl (2 * (q / 256) + 1)
        · rw [show bmR ad (q / 256) q = .ref (ad (6 + (2 * (q / 256) + 1))) from (if_neg h2).trans (if_pos h3)]
          refine lv_astore_n (lv' := [(2, .ref (ad (6 + (2 * (q / 256) + 1)))), (0, .ref (ad 0)), (1, .int (nI q))]) hx hb d_GB_isTold_40 rfl hl (by decide) rfl (fun ls hl => ?_)
          refine lv_aload_n hx hb d_GB_isTold_41 rfl (lv_at hl 0 rfl) ?_
          refine lv_ifnull hx hb d_GB_isTold_42 ?_
          refine lv_aload_n hx hb d_GB_isTold_45 rfl (lv_at hl 0 rfl) ?_
          refine g_getN (own := "GroupBitmaps") (C := R_BM) (T := F_BM) (N := 5) (ci := 2) (v := .int (bI (sTd σ (2 * (q / 256) + 1)))) hx hb hg ku_BM hown hK hI (6 + (2 * (q / 256) + 1)) (wd_BM hs0) rfl 4 (by decide) kw_42 rfl d_GB_isTold_46 ?_
          refine r_bz (b := sTd σ (2 * (q / 256) + 1)) (tgt := 56) hx hb d_GB_isTold_49 (by decide) (fun h5 => ?_) (fun h5 => ?_)
          · refine lv_iconst (v := bI false) hx hb d_GB_isTold_56 (by decide) ?_
            exact g_rz hx hb hr hlk hI (by rw [sTold, if_neg h, if_neg h2, if_pos h3, h5]) d_GB_isTold_57
          · refine lv_iconst (v := bI true) hx hb d_GB_isTold_52 (by decide) ?_
            refine lv_goto (tgt := 57) hx hb d_GB_isTold_53 (by decide) ?_
            exact g_rz hx hb hr hlk hI (by rw [sTold, if_neg h, if_neg h2, if_pos h3, h5]) d_GB_isTold_57
        · rw [show bmR ad (q / 256) q = .null from (if_neg h2).trans (if_neg h3)]
          refine lv_astore_nN (lv' := [(2, .null), (0, .ref (ad 0)), (1, .int (nI q))]) hx hb d_GB_isTold_40 rfl hl (by decide) rfl (fun ls hl => ?_)
          refine lv_aload_nN hx hb d_GB_isTold_41 rfl (lv_at hl 0 rfl) ?_
          refine lv_ifnullN (tgt := 56) hx hb d_GB_isTold_42 (by decide) ?_
          refine lv_iconst (v := bI false) hx hb d_GB_isTold_56 (by decide) ?_
          exact g_rz hx hb hr hlk hI (by rw [sTold, if_neg h, if_neg h2, if_neg h3]) d_GB_isTold_57
    · refine lv_aload_n hx hb d_GB_isTold_26 rfl (lv_at hl 0 rfl) ?_
      refine g_get (own := "GroupBitmaps") (C := R_GB) (T := F_GB) (N := 5) (ci := 0) (v := .int (bI (sTT σ))) hx hb hg ku_GB hown hK hI (0) (wd_GB) rfl 4 (by decide) kw_95 rfl d_GB_isTold_27 ?_
      exact g_rz hx hb hr hlk hI (by rw [sTold, if_pos h]) d_GB_isTold_30
  · exact absurd h9 (by omega)
