set_option maxHeartbeats 4000000 in
set_option maxRecDepth 100000 in
theorem c_MD_takeA {l : Launch} {D : va_G} {cG cZ cI cJ : ClassId} {am : Nat → Nat} (σ : gS) (τ : mS) (N : Nat) (hK0 : RK N σ τ) (hN : N < 65536) (goal nn : Nat) (al : Bool) (hgo : goal < sAll σ) (hn1 : 1 ≤ nn) (hn2 : nn ≤ 256) (hmy : 0 < sMay σ al) (haf : sAf σ (2 * (goal / 256)) (goal % 256) (Nat.min nn (sMay σ al)) = true) (hfit : goal + Nat.min nn (sMay σ al) ≤ 1024) : gMet l D (gT cG cZ cI cJ) y_MD_take b_MD_take 9 (some .int) ({ frames := 3, cells := 0, slots := 0, locals := 64 }) (wm am cI cZ τ) [.ref (am 0), .int (nI goal), .int (nI nn), .int (bI al)] (wm am cI cZ (vLt (mMark (vTh (vTh τ 0) 0) goal true (Nat.min nn (sMay σ al))) (Nat.min nn (sMay σ al)))) (some (.int (nI goal))) := by
  refine gMet_of (by decide) (Nat.le_of_ble_eq_true rfl) ?_
  intro p e s m below meth c A ls hC hA hI hl
  obtain ⟨hx, hb, hr, hlk, hown, hml, hg, hK⟩ := hC
  have hown : s.vm.findClass "GroupBitmapsModel" = some m.cls := hown
  have hl : lv_has ls 9 [(0, .ref (am 0)), (1, .int (nI goal)), (2, .int (nI nn)), (3, .int (bI al))] := hl
  have hR := hK0.ri hN
  have hτ := hR.ok
  have hσ := hR.sb
  have hgr := hR.gr
  have hc1 := hσ.1
  have hc2 := hσ.2.1
  have hw1 : 1 ≤ Nat.min nn (sMay σ al) := Nat.le_min.mpr ⟨hn1, hmy⟩
  have hw2 : Nat.min nn (sMay σ al) ≤ 256 := Nat.le_trans (Nat.min_le_left _ _) hn2
  have hK1 : RK N σ (vTh (vTh τ 0) 0) := (hK0.th 0).th 0
  have hR1 := hK1.ri hN
  have hin := hR.inb hgo
  have hg4 : goal / 256 < 4 := by omega
  have hal0 := sAll_le hσ
  have t95 : ∀ (u : Unit), ∀ (H : Heap) (locs : List Loc) (ls : Array Slot), gI D A s.heap (wm am cI cZ (vTh (vTh τ 0) 0)) H locs → lv_has ls 9 [(0, .ref (am 0)), (1, .int (nI goal)), (5, .int (nI (Nat.min nn (sMay σ al))))] → W p l e ({ frames := 3, cells := 0, slots := 0, locals := 64 }) s m ([.ref (am 0), .int (nI goal), .int (nI nn), .int (bI al)] : List Value).toArray below meth c H locs 0 0 (gQ D below ([.ref (am 0), .int (nI goal), .int (nI nn), .int (bI al)] : List Value).toArray s A (wm am cI cZ (vLt (mMark (vTh (vTh τ 0) 0) goal true (Nat.min nn (sMay σ al))) (Nat.min nn (sMay σ al)))) (some (.int (nI goal)))) (F0 m 95 ls []) := by
    intro u  H locs ls hI hl
    refine lv_aload_n hx hb d_MD_take_95 rfl (lv_at hl 0 rfl) ?_
    refine lv_iload_n hx hb d_MD_take_96 rfl (lv_at hl 1 rfl) ?_
    refine lv_iload hx hb d_MD_take_97 (lv_at hl 2 rfl) ?_
    refine g_callV (own := "GroupBitmapsModel") (C := "GroupBitmapsModel") (T := F_MD) (N := 11) (k := 2) (q0 := 0) (ci := 3) (a := am 0) (As := [.int (nI goal), .int (nI (Nat.min nn (sMay σ al)))]) (rest := []) (c_MD_areFree (vTh (vTh τ 0) 0) hτ goal (Nat.min nn (sMay σ al)) (by omega) (by omega)) hx hb hml hown hg hK hI hA kw_533 kw_535 kp_25 kw_4 kw_536 ky_MD_areFree ⟨Nat.le_of_ble_eq_true rfl, Nat.le_of_ble_eq_true rfl⟩ rfl rfl (wm_0) rfl rfl hl.1 (Nat.le_of_ble_eq_true rfl) ⟨Nat.zero_le _, Nat.zero_le _⟩ d_MD_take_99 rfl rfl (fun H locs hI => ?_)
    rw [hR1.maf hgo (Nat.min nn (sMay σ al)) (by omega)]
    refine r_bz (b := sAf σ (2 * (goal / 256)) (goal % 256) (Nat.min nn (sMay σ al))) (tgt := 109) hx hb d_MD_take_102 (by decide) (fun h3 => ?_) (fun h3 => ?_)
    · exact absurd (haf.symm.trans h3) (by decide)
    · refine lv_iload_n hx hb d_MD_take_105 rfl (lv_at hl 1 rfl) ?_
      refine lv_goto (tgt := 110) hx hb d_MD_take_106 (by decide) ?_
      refine lv_istore (lv' := [(6, .int (nI goal)), (0, .ref (am 0)), (1, .int (nI goal)), (5, .int (nI (Nat.min nn (sMay σ al))))]) hx hb d_MD_take_110 hl (by decide) rfl (fun ls hl => ?_)
      refine lv_iconst (v := nI 0) hx hb d_MD_take_112 (by decide) ?_
      refine lv_istore (lv' := [(7, .int (nI 0)), (6, .int (nI goal)), (0, .ref (am 0)), (1, .int (nI goal)), (5, .int (nI (Nat.min nn (sMay σ al))))]) hx hb d_MD_take_113 hl (by decide) rfl (fun ls hl => ?_)
      refine lv_iload hx hb d_MD_take_115 (lv_at hl 0 rfl) ?_
      refine lv_aload_n hx hb d_MD_take_117 rfl (lv_at hl 2 rfl) ?_
      refine g_get (own := "GroupBitmapsModel") (C := R_MD) (T := F_MD) (N := 11) (ci := 3) (v := .int (nI (mGr (vTh (vTh τ 0) 0)))) hx hb hg ku_MD hown hK hI (0) (wm_0) rfl 1 (by decide) kw_471 rfl d_MD_take_118 ?_
      rw [show mGr (vTh (vTh τ 0) 0) = sCnt σ from hgr]
      refine r_ge (a := 0) (b := sCnt σ) (tgt := 171) hx hb d_MD_take_121 (by decide) (by omega) (by omega) (fun h9 => ?_) (fun h9 => ?_)
      · exact absurd h9 (by omega)
      · refine lv_iload hx hb d_MD_take_124 (lv_at hl 1 rfl) ?_
        refine r_zge (a := goal) (tgt := 171) hx hb d_MD_take_126 (by decide) (by omega) ?_
        refine lv_iload hx hb d_MD_take_171 (lv_at hl 1 rfl) ?_
        refine r_zge (a := goal) (tgt := 259) hx hb d_MD_take_173 (by decide) (by omega) ?_
        refine lv_aload_n hx hb d_MD_take_259 rfl (lv_at hl 2 rfl) ?_
        refine lv_iload hx hb d_MD_take_260 (lv_at hl 1 rfl) ?_
        refine lv_iload hx hb d_MD_take_262 (lv_at hl 4 rfl) ?_
        refine lv_iconst (v := bI true) hx hb d_MD_take_264 (by decide) ?_
        refine g_callV (own := "GroupBitmapsModel") (C := "GroupBitmapsModel") (T := F_MD) (N := 11) (k := 3) (q0 := 0) (ci := 3) (a := am 0) (As := [.int (nI goal), .int (nI (Nat.min nn (sMay σ al))), .int (bI true)]) (rest := []) (c_MD_mark (vTh (vTh τ 0) 0) (goal) (Nat.min nn (sMay σ al)) true (by omega)) hx hb hml hown hg hK hI hA kw_541 kw_543 kp_27 kw_4 kw_544 ky_MD_mark ⟨Nat.le_of_ble_eq_true rfl, Nat.le_of_ble_eq_true rfl⟩ rfl rfl (wm_0) rfl rfl hl.1 (Nat.le_of_ble_eq_true rfl) ⟨Nat.zero_le _, Nat.zero_le _⟩ d_MD_take_265 rfl rfl (fun H locs hI => ?_)
        refine lv_aload_n hx hb d_MD_take_268 rfl (lv_at hl 2 rfl) ?_
        refine lv_iload hx hb d_MD_take_269 (lv_at hl 4 rfl) ?_
        refine g_put (ws' := (wm am cI cZ (vLt (mMark (vTh (vTh τ 0) 0) (goal) true (Nat.min nn (sMay σ al))) (Nat.min nn (sMay σ al))))) (own := "GroupBitmapsModel") (C := R_MD) (T := F_MD) (N := 11) (ci := 3) (v := .int (nI (Nat.min nn (sMay σ al)))) hx hb hg ku_MD t_MD t_MD_ok n_MD hown hK hI (0) (wm_0) rfl 7 (by decide) kw_477 rfl rfl (rfl) (rfl) (Nat.le_of_ble_eq_true rfl) (wm_vLt) d_MD_take_271 (fun H locs hI => ?_)
        refine lv_iload hx hb d_MD_take_274 (lv_at hl 1 rfl) ?_
        exact g_ri hx hb hr hlk hI (rfl) d_MD_take_276
  have hal := sAll_le hσ
  have hfb := sFB_le hσ (sCnt σ) hc2
  have hrs := hσ.2.2.1
  have hme : al = true → sMay σ al = sFB σ (sCnt σ) := fun z => by rw [sMay, z]; rfl
  have hmf : al = false → sMay σ al = sFB σ (sCnt σ) - sRsv σ := fun z => by rw [sMay, z]; rfl
  refine lv_aload_n hx hb d_MD_take_0 rfl (lv_at hl 0 rfl) ?_
  refine lv_aload_n hx hb d_MD_take_1 rfl (lv_at hl 0 rfl) ?_
  refine lv_iload_n hx hb d_MD_take_2 rfl (lv_at hl 1 rfl) ?_
  refine g_callV (own := "GroupBitmapsModel") (C := "GroupBitmapsModel") (T := F_MD) (N := 11) (k := 1) (q0 := 0) (ci := 3) (a := am 0) (As := [.int (nI goal)]) (rest := [.ref (am 0)]) (k_ib σ τ hR (nI goal)) hx hb hml hown hg hK hI hA kw_529 kw_531 kp_24 kw_4 kw_532 ky_MD_isBlock ⟨Nat.le_of_ble_eq_true rfl, Nat.le_of_ble_eq_true rfl⟩ rfl rfl (wm_0) rfl rfl hl.1 (Nat.le_of_ble_eq_true rfl) ⟨Nat.zero_le _, Nat.zero_le _⟩ d_MD_take_3 rfl rfl (fun H locs hI => ?_)
  refine r_bz (b := sHasB σ (nI goal)) (tgt := 21) hx hb d_MD_take_6 (by decide) (fun h => ?_) (fun h => ?_)
  · exact absurd ((sHasB_nI hσ hgo).symm.trans h) (by decide)
  · refine lv_iload_n hx hb d_MD_take_9 rfl (lv_at hl 2 rfl) ?_
    refine lv_iconst (v := nI 1) hx hb d_MD_take_10 (by decide) ?_
    refine r_lt (a := nn) (b := 1) (tgt := 21) hx hb d_MD_take_11 (by decide) (by omega) (by omega) (fun h9 => ?_) (fun h9 => ?_)
    · exact absurd h9 (by omega)
    · refine lv_iload_n hx hb d_MD_take_14 rfl (lv_at hl 2 rfl) ?_
      refine lv_sipush (v := nI 256) hx hb d_MD_take_15 (by decide) ?_
      refine r_le (a := nn) (b := 256) (tgt := 25) hx hb d_MD_take_18 (by decide) (by omega) (by omega) (fun h9 => ?_) (fun h9 => ?_)
      · refine lv_iconst (v := nI 0) hx hb d_MD_take_25 (by decide) ?_
        refine g_put (ws' := (wm am cI cZ (vTh τ 0))) (own := "GroupBitmapsModel") (C := R_MD) (T := F_MD) (N := 11) (ci := 3) (v := .int (nI 0)) hx hb hg ku_MD t_MD t_MD_ok n_MD hown hK hI (0) (wm_0) rfl 0 (by decide) kw_470 rfl rfl (rfl) (rfl) (Nat.le_of_ble_eq_true rfl) (wm_vTh) d_MD_take_26 (fun H locs hI => ?_)
        refine lv_aload_n hx hb d_MD_take_29 rfl (lv_at hl 0 rfl) ?_
        refine g_get (own := "GroupBitmapsModel") (C := R_MD) (T := F_MD) (N := 11) (ci := 3) (v := .int (nI 0)) hx hb hg ku_MD hown hK hI (0) (wm_0) rfl 0 (by decide) kw_470 rfl d_MD_take_30 ?_
        refine r_zle (a := 0) (tgt := 38) hx hb d_MD_take_33 (by decide) (by omega) (fun h9 => ?_) (fun h9 => ?_)
        · refine lv_aload_n hx hb d_MD_take_38 rfl (lv_at hl 0 rfl) ?_
          refine g_callV (own := "GroupBitmapsModel") (C := "GroupBitmapsModel") (T := F_MD) (N := 11) (k := 0) (q0 := 0) (ci := 3) (a := am 0) (As := []) (rest := []) (k_ab σ (vTh τ 0) (hR.th 0)) hx hb hml hown hg hK hI hA kw_513 kw_515 kp_22 kw_4 kw_516 ky_MD_allBlocks ⟨Nat.le_of_ble_eq_true rfl, Nat.le_of_ble_eq_true rfl⟩ rfl rfl (wm_0) rfl rfl hl.1 (Nat.le_of_ble_eq_true rfl) ⟨Nat.zero_le _, Nat.zero_le _⟩ d_MD_take_39 rfl rfl (fun H locs hI => ?_)
          refine lv_iload_n hx hb d_MD_take_42 rfl (lv_at hl 3 rfl) ?_
          refine r_bz (b := al) (tgt := 50) hx hb d_MD_take_43 (by decide) (fun h2 => ?_) (fun h2 => ?_)
          · have hmay := hmf h2
            refine lv_aload_n hx hb d_MD_take_50 rfl (lv_at hl 0 rfl) ?_
            refine g_get (own := "GroupBitmapsModel") (C := R_MD) (T := F_MD) (N := 11) (ci := 3) (v := .int (nI (mRs (vTh τ 0)))) hx hb hg ku_MD hown hK hI (0) (wm_0) rfl 6 (by decide) kw_476 rfl d_MD_take_51 ?_
            rw [show mRs (vTh τ 0) = sRsv σ from hR.rs]
            refine r_isub (a := sFB σ (sCnt σ)) (b := sRsv σ) hx hb (by omega) d_MD_take_54 ?_
            rw [← hmay]
            refine lv_istore (lv' := [(4, .int (nI (sMay σ al))), (0, .ref (am 0)), (1, .int (nI goal)), (2, .int (nI nn)), (3, .int (bI al))]) hx hb d_MD_take_55 hl (by decide) rfl (fun ls hl => ?_)
            refine lv_aload_n hx hb d_MD_take_57 rfl (lv_at hl 1 rfl) ?_
            refine lv_iload hx hb d_MD_take_58 (lv_at hl 0 rfl) ?_
            refine lv_iconst (v := nI 1) hx hb d_MD_take_60 (by decide) ?_
            refine r_ge (a := sMay σ al) (b := 1) (tgt := 68) hx hb d_MD_take_61 (by decide) (by omega) (by omega) (fun h9 => ?_) (fun h9 => ?_)
            · refine lv_iconst (v := nI 0) hx hb d_MD_take_68 (by decide) ?_
              refine g_put (ws' := (wm am cI cZ (vTh (vTh τ 0) 0))) (own := "GroupBitmapsModel") (C := R_MD) (T := F_MD) (N := 11) (ci := 3) (v := .int (nI 0)) hx hb hg ku_MD t_MD t_MD_ok n_MD hown hK hI (0) (wm_0) rfl 0 (by decide) kw_470 rfl rfl (rfl) (rfl) (Nat.le_of_ble_eq_true rfl) (wm_vTh) d_MD_take_69 (fun H locs hI => ?_)
              refine lv_aload_n hx hb d_MD_take_72 rfl (lv_at hl 1 rfl) ?_
              refine g_get (own := "GroupBitmapsModel") (C := R_MD) (T := F_MD) (N := 11) (ci := 3) (v := .int (nI 0)) hx hb hg ku_MD hown hK hI (0) (wm_0) rfl 0 (by decide) kw_470 rfl d_MD_take_73 ?_
              refine r_zle (a := 0) (tgt := 81) hx hb d_MD_take_76 (by decide) (by omega) (fun h9 => ?_) (fun h9 => ?_)
              · refine lv_iload_n hx hb d_MD_take_81 rfl (lv_at hl 3 rfl) ?_
                refine lv_iload hx hb d_MD_take_82 (lv_at hl 0 rfl) ?_
                refine r_ge (a := nn) (b := sMay σ al) (tgt := 91) hx hb d_MD_take_84 (by decide) (by omega) (by omega) (fun h4 => ?_) (fun h4 => ?_)
                · refine lv_iload hx hb d_MD_take_91 (lv_at hl 0 rfl) ?_
                  have hwn : Nat.min nn (sMay σ al) = sMay σ al := Nat.min_eq_right (by omega)
                  refine lv_istore (lv' := [(5, .int (nI (sMay σ al))), (4, .int (nI (sMay σ al))), (0, .ref (am 0)), (1, .int (nI goal)), (2, .int (nI nn)), (3, .int (bI al))]) hx hb d_MD_take_93 hl (by decide) rfl (fun ls hl => ?_)
                  exact t95 () _ _ _ hI (by rw [hwn]; exact lv_sub hl [2, 3, 0] rfl)
                · refine lv_iload_n hx hb d_MD_take_87 rfl (lv_at hl 3 rfl) ?_
                  refine lv_goto (tgt := 93) hx hb d_MD_take_88 (by decide) ?_
                  have hwn : Nat.min nn (sMay σ al) = nn := Nat.min_eq_left (by omega)
                  refine lv_istore (lv' := [(5, .int (nI nn)), (4, .int (nI (sMay σ al))), (0, .ref (am 0)), (1, .int (nI goal)), (2, .int (nI nn)), (3, .int (bI al))]) hx hb d_MD_take_93 hl (by decide) rfl (fun ls hl => ?_)
                  exact t95 () _ _ _ hI (by rw [hwn]; exact lv_sub hl [2, 3, 0] rfl)
              · exact absurd h9 (by omega)
            · exact absurd h9 (by omega)
          · have hmay := hme h2
            refine lv_iconst (v := nI 0) hx hb d_MD_take_46 (by decide) ?_
            refine lv_goto (tgt := 54) hx hb d_MD_take_47 (by decide) ?_
            refine r_isub (a := sFB σ (sCnt σ)) (b := 0) hx hb (by omega) d_MD_take_54 ?_
            rw [Nat.sub_zero, ← hmay]
            refine lv_istore (lv' := [(4, .int (nI (sMay σ al))), (0, .ref (am 0)), (1, .int (nI goal)), (2, .int (nI nn)), (3, .int (bI al))]) hx hb d_MD_take_55 hl (by decide) rfl (fun ls hl => ?_)
            refine lv_aload_n hx hb d_MD_take_57 rfl (lv_at hl 1 rfl) ?_
            refine lv_iload hx hb d_MD_take_58 (lv_at hl 0 rfl) ?_
            refine lv_iconst (v := nI 1) hx hb d_MD_take_60 (by decide) ?_
            refine r_ge (a := sMay σ al) (b := 1) (tgt := 68) hx hb d_MD_take_61 (by decide) (by omega) (by omega) (fun h9 => ?_) (fun h9 => ?_)
            · refine lv_iconst (v := nI 0) hx hb d_MD_take_68 (by decide) ?_
              refine g_put (ws' := (wm am cI cZ (vTh (vTh τ 0) 0))) (own := "GroupBitmapsModel") (C := R_MD) (T := F_MD) (N := 11) (ci := 3) (v := .int (nI 0)) hx hb hg ku_MD t_MD t_MD_ok n_MD hown hK hI (0) (wm_0) rfl 0 (by decide) kw_470 rfl rfl (rfl) (rfl) (Nat.le_of_ble_eq_true rfl) (wm_vTh) d_MD_take_69 (fun H locs hI => ?_)
              refine lv_aload_n hx hb d_MD_take_72 rfl (lv_at hl 1 rfl) ?_
              refine g_get (own := "GroupBitmapsModel") (C := R_MD) (T := F_MD) (N := 11) (ci := 3) (v := .int (nI 0)) hx hb hg ku_MD hown hK hI (0) (wm_0) rfl 0 (by decide) kw_470 rfl d_MD_take_73 ?_
              refine r_zle (a := 0) (tgt := 81) hx hb d_MD_take_76 (by decide) (by omega) (fun h9 => ?_) (fun h9 => ?_)
              · refine lv_iload_n hx hb d_MD_take_81 rfl (lv_at hl 3 rfl) ?_
                refine lv_iload hx hb d_MD_take_82 (lv_at hl 0 rfl) ?_
                refine r_ge (a := nn) (b := sMay σ al) (tgt := 91) hx hb d_MD_take_84 (by decide) (by omega) (by omega) (fun h4 => ?_) (fun h4 => ?_)
                · refine lv_iload hx hb d_MD_take_91 (lv_at hl 0 rfl) ?_
                  have hwn : Nat.min nn (sMay σ al) = sMay σ al := Nat.min_eq_right (by omega)
                  refine lv_istore (lv' := [(5, .int (nI (sMay σ al))), (4, .int (nI (sMay σ al))), (0, .ref (am 0)), (1, .int (nI goal)), (2, .int (nI nn)), (3, .int (bI al))]) hx hb d_MD_take_93 hl (by decide) rfl (fun ls hl => ?_)
                  exact t95 () _ _ _ hI (by rw [hwn]; exact lv_sub hl [2, 3, 0] rfl)
                · refine lv_iload_n hx hb d_MD_take_87 rfl (lv_at hl 3 rfl) ?_
                  refine lv_goto (tgt := 93) hx hb d_MD_take_88 (by decide) ?_
                  have hwn : Nat.min nn (sMay σ al) = nn := Nat.min_eq_left (by omega)
                  refine lv_istore (lv' := [(5, .int (nI nn)), (4, .int (nI (sMay σ al))), (0, .ref (am 0)), (1, .int (nI goal)), (2, .int (nI nn)), (3, .int (bI al))]) hx hb d_MD_take_93 hl (by decide) rfl (fun ls hl => ?_)
                  exact t95 () _ _ _ hI (by rw [hwn]; exact lv_sub hl [2, 3, 0] rfl)
              · exact absurd h9 (by omega)
            · exact absurd h9 (by omega)
        · exact absurd h9 (by omega)
      · exact absurd h9 (by omega)
set_option maxHeartbeats 4000000 in
set_option maxRecDepth 100000 in
theorem c_MD_takeB {l : Launch} {D : va_G} {cG cZ cI cJ : ClassId} {am : Nat → Nat} (σ : gS) (τ : mS) (N : Nat) (hK0 : RK N σ τ) (hN : N < 65536) (goal nn : Nat) (al : Bool) (hgo : goal < sAll σ) (hn1 : 1 ≤ nn) (hn2 : nn ≤ 256) (hmy : 0 < sMay σ al) (haf : sAf σ (2 * (goal / 256)) (goal % 256) (Nat.min nn (sMay σ al)) = false) (k0 a : Nat) (hk0 : k0 < sCnt σ) (hfn : sFind σ (goal / 256) (Nat.min nn (sMay σ al)) k0 = none) (hsr : (sSr σ (2 * (sNx σ (goal / 256) k0)) (Nat.min nn (sMay σ al)) (sSz σ (2 * (sNx σ (goal / 256) k0)))).1 = some a) : gMet l D (gT cG cZ cI cJ) y_MD_take b_MD_take 9 (some .int) ({ frames := 3, cells := 0, slots := 0, locals := 64 }) (wm am cI cZ τ) [.ref (am 0), .int (nI goal), .int (nI nn), .int (bI al)] (wm am cI cZ (vLt (mMark (tk1 σ (vTh (vTh τ 0) 0) (goal / 256) (Nat.min nn (sMay σ al)) (k0 + 1)) (256 * (sNx σ (goal / 256) k0) + a) true (Nat.min nn (sMay σ al))) (Nat.min nn (sMay σ al)))) (some (.int (nI (256 * (sNx σ (goal / 256) k0) + a)))) := by
  refine gMet_of (by decide) (Nat.le_of_ble_eq_true rfl) ?_
  intro p e s m below meth c A ls hC hA hI hl
  obtain ⟨hx, hb, hr, hlk, hown, hml, hg, hK⟩ := hC
  have hown : s.vm.findClass "GroupBitmapsModel" = some m.cls := hown
  have hl : lv_has ls 9 [(0, .ref (am 0)), (1, .int (nI goal)), (2, .int (nI nn)), (3, .int (bI al))] := hl
  have hR := hK0.ri hN
  have hτ := hR.ok
  have hσ := hR.sb
  have hgr := hR.gr
  have hc1 := hσ.1
  have hc2 := hσ.2.1
  have hw1 : 1 ≤ Nat.min nn (sMay σ al) := Nat.le_min.mpr ⟨hn1, hmy⟩
  have hw2 : Nat.min nn (sMay σ al) ≤ 256 := Nat.le_trans (Nat.min_le_left _ _) hn2
  have hK1 : RK N σ (vTh (vTh τ 0) 0) := (hK0.th 0).th 0
  have hR1 := hK1.ri hN
  have hin := hR.inb hgo
  have hg4 : goal / 256 < 4 := by omega
  have hal0 := sAll_le hσ
  have t95 : ∀ (u : Unit), ∀ (H : Heap) (locs : List Loc) (ls : Array Slot), gI D A s.heap (wm am cI cZ (vTh (vTh τ 0) 0)) H locs → lv_has ls 9 [(0, .ref (am 0)), (1, .int (nI goal)), (5, .int (nI (Nat.min nn (sMay σ al))))] → W p l e ({ frames := 3, cells := 0, slots := 0, locals := 64 }) s m ([.ref (am 0), .int (nI goal), .int (nI nn), .int (bI al)] : List Value).toArray below meth c H locs 0 0 (gQ D below ([.ref (am 0), .int (nI goal), .int (nI nn), .int (bI al)] : List Value).toArray s A (wm am cI cZ (vLt (mMark (tk1 σ (vTh (vTh τ 0) 0) (goal / 256) (Nat.min nn (sMay σ al)) (k0 + 1)) (256 * (sNx σ (goal / 256) k0) + a) true (Nat.min nn (sMay σ al))) (Nat.min nn (sMay σ al)))) (some (.int (nI (256 * (sNx σ (goal / 256) k0) + a))))) (F0 m 95 ls []) := by
    intro u  H locs ls hI hl
    refine lv_aload_n hx hb d_MD_take_95 rfl (lv_at hl 0 rfl) ?_
    refine lv_iload_n hx hb d_MD_take_96 rfl (lv_at hl 1 rfl) ?_
    refine lv_iload hx hb d_MD_take_97 (lv_at hl 2 rfl) ?_
    refine g_callV (own := "GroupBitmapsModel") (C := "GroupBitmapsModel") (T := F_MD) (N := 11) (k := 2) (q0 := 0) (ci := 3) (a := am 0) (As := [.int (nI goal), .int (nI (Nat.min nn (sMay σ al)))]) (rest := []) (c_MD_areFree (vTh (vTh τ 0) 0) hτ goal (Nat.min nn (sMay σ al)) (by omega) (by omega)) hx hb hml hown hg hK hI hA kw_533 kw_535 kp_25 kw_4 kw_536 ky_MD_areFree ⟨Nat.le_of_ble_eq_true rfl, Nat.le_of_ble_eq_true rfl⟩ rfl rfl (wm_0) rfl rfl hl.1 (Nat.le_of_ble_eq_true rfl) ⟨Nat.zero_le _, Nat.zero_le _⟩ d_MD_take_99 rfl rfl (fun H locs hI => ?_)
    rw [hR1.maf hgo (Nat.min nn (sMay σ al)) (by omega)]
    refine r_bz (b := sAf σ (2 * (goal / 256)) (goal % 256) (Nat.min nn (sMay σ al))) (tgt := 109) hx hb d_MD_take_102 (by decide) (fun h3 => ?_) (fun h3 => ?_)
    · refine lv_iconst (v := (-1)) hx hb d_MD_take_109 (by decide) ?_
      refine lv_istore (lv' := [(6, .int ((-1))), (0, .ref (am 0)), (1, .int (nI goal)), (5, .int (nI (Nat.min nn (sMay σ al))))]) hx hb d_MD_take_110 hl (by decide) rfl (fun ls hl => ?_)
      refine lv_iconst (v := nI 0) hx hb d_MD_take_112 (by decide) ?_
      refine lv_istore (lv' := [(7, .int (nI 0)), (6, .int ((-1))), (0, .ref (am 0)), (1, .int (nI goal)), (5, .int (nI (Nat.min nn (sMay σ al))))]) hx hb d_MD_take_113 hl (by decide) rfl (fun ls hl => ?_)
      have loop : ∀ (fuel : Nat) (k : Nat), k0 + 1 ≤ fuel + k → (k ≤ k0) → ∀ (H : Heap) (locs : List Loc) (ls : Array Slot), gI D A s.heap (wm am cI cZ (tk1 σ (vTh (vTh τ 0) 0) (goal / 256) (Nat.min nn (sMay σ al)) k)) H locs → lv_has ls 9 [(0, .ref (am 0)), (1, .int (nI goal)), (5, .int (nI (Nat.min nn (sMay σ al)))), (6, .int ((-1))), (7, .int (nI k))] → W p l e ({ frames := 3, cells := 0, slots := 0, locals := 64 }) s m ([.ref (am 0), .int (nI goal), .int (nI nn), .int (bI al)] : List Value).toArray below meth c H locs 0 0 (gQ D below ([.ref (am 0), .int (nI goal), .int (nI nn), .int (bI al)] : List Value).toArray s A (wm am cI cZ (vLt (mMark (tk1 σ (vTh (vTh τ 0) 0) (goal / 256) (Nat.min nn (sMay σ al)) (k0 + 1)) (256 * (sNx σ (goal / 256) k0) + a) true (Nat.min nn (sMay σ al))) (Nat.min nn (sMay σ al)))) (some (.int (nI (256 * (sNx σ (goal / 256) k0) + a))))) (F0 m 115 ls []) := by
        intro fuel
        induction fuel with
        | zero => intro k hfu hk; exact absurd hfu (by omega)
        | succ fuel ih =>
          intro k hfu hk H locs ls hI hl
          have hKk := hK1.tk1 (goal / 256) (Nat.min nn (sMay σ al)) k
          have hRk := hKk.ri hN
          have hgrk : mGr (tk1 σ (vTh (vTh τ 0) 0) (goal / 256) (Nat.min nn (sMay σ al)) k) = sCnt σ := hRk.gr
          refine lv_iload hx hb d_MD_take_115 (lv_at hl 4 rfl) ?_
          refine lv_aload_n hx hb d_MD_take_117 rfl (lv_at hl 0 rfl) ?_
          refine g_get (own := "GroupBitmapsModel") (C := R_MD) (T := F_MD) (N := 11) (ci := 3) (v := .int (nI (mGr (tk1 σ (vTh (vTh τ 0) 0) (goal / 256) (Nat.min nn (sMay σ al)) k)))) hx hb hg ku_MD hown hK hI (0) (wm_0) rfl 1 (by decide) kw_471 rfl d_MD_take_118 ?_
          rw [hgrk]
          refine r_ge (a := k) (b := sCnt σ) (tgt := 171) hx hb d_MD_take_121 (by decide) (by omega) (by omega) (fun h => ?_) (fun h => ?_)
          · exact absurd h (by omega)
          · have hx4 := sNx_lt hσ (goal / 256) k
            refine lv_iload hx hb d_MD_take_124 (lv_at hl 3 rfl) ?_
            refine lv_if_ge (tgt := 171) hx hb d_MD_take_126 (by decide) (fun h9 => absurd h9 (by decide)) (fun _ => ?_)
            refine lv_aload_n hx hb d_MD_take_129 rfl (lv_at hl 0 rfl) ?_
            refine lv_iload_n hx hb d_MD_take_130 rfl (lv_at hl 1 rfl) ?_
            refine lv_sipush (v := nI 256) hx hb d_MD_take_131 (by decide) ?_
            refine r_idiv (a := goal) (b := 256) hx hb (by omega) (by omega) (by omega) d_MD_take_134 ?_
            refine lv_iload hx hb d_MD_take_135 (lv_at hl 4 rfl) ?_
            refine r_iadd (a := goal / 256) (b := k) hx hb d_MD_take_137 ?_
            refine lv_aload_n hx hb d_MD_take_138 rfl (lv_at hl 0 rfl) ?_
            refine g_get (own := "GroupBitmapsModel") (C := R_MD) (T := F_MD) (N := 11) (ci := 3) (v := .int (nI (mGr (tk1 σ (vTh (vTh τ 0) 0) (goal / 256) (Nat.min nn (sMay σ al)) k)))) hx hb hg ku_MD hown hK hI (0) (wm_0) rfl 1 (by decide) kw_471 rfl d_MD_take_139 ?_
            rw [hgrk]
            refine r_irem (a := (goal / 256) + k) (b := sCnt σ) hx hb (by omega) (by omega) (by omega) d_MD_take_142 ?_
            rw [show (goal / 256 + k) % sCnt σ = sNx σ (goal / 256) k from rfl]
            refine lv_iload hx hb d_MD_take_143 (lv_at hl 2 rfl) ?_
            refine g_callV (own := "GroupBitmapsModel") (C := "GroupBitmapsModel") (T := F_MD) (N := 11) (k := 2) (q0 := 0) (ci := 3) (a := am 0) (As := [.int (nI (sNx σ (goal / 256) k)), .int (nI (Nat.min nn (sMay σ al)))]) (rest := []) (c_MD_findRunq (tk1 σ (vTh (vTh τ 0) 0) (goal / 256) (Nat.min nn (sMay σ al)) k) hRk.ok (sNx σ (goal / 256) k) hx4 (Nat.min nn (sMay σ al)) hw1 (by omega)) hx hb hml hown hg hK hI hA kw_537 kw_539 kp_26 kw_4 kw_540 ky_MD_findRun ⟨Nat.le_of_ble_eq_true rfl, Nat.le_of_ble_eq_true rfl⟩ rfl rfl (wm_0) rfl rfl hl.1 (Nat.le_of_ble_eq_true rfl) ⟨Nat.zero_le _, Nat.zero_le _⟩ d_MD_take_145 rfl rfl (fun H locs hI => ?_)
            have hRk1 := (hK1.tk1 (goal / 256) (Nat.min nn (sMay σ al)) (k + 1)).ri hN
            refine lv_aload_n hx hb d_MD_take_148 rfl (lv_at hl 0 rfl) ?_
            refine g_get (own := "GroupBitmapsModel") (C := R_MD) (T := F_MD) (N := 11) (ci := 3) (v := .int (nI (mRz (tk1 σ (vTh (vTh τ 0) 0) (goal / 256) (Nat.min nn (sMay σ al)) (k + 1))))) hx hb hg ku_MD hown hK hI (0) (wm_0) rfl 10 (by decide) kw_480 rfl d_MD_take_149 ?_
            rcases Nat.lt_or_ge k k0 with hlt | hge
            · have hz : mRz (tk1 σ (vTh (vTh τ 0) 0) (goal / 256) (Nat.min nn (sMay σ al)) (k + 1)) = 0 := hRk.rzn hx4 (sFind_none hfn k hlt).1
              rw [hz]
              refine r_zle (a := 0) (tgt := 162) hx hb d_MD_take_152 (by decide) (by omega) (fun h9 => ?_) (fun h9 => ?_)
              · refine lv_iconst (v := (-1)) hx hb d_MD_take_162 (by decide) ?_
                refine lv_istore (lv' := [(6, .int ((-1))), (0, .ref (am 0)), (1, .int (nI goal)), (5, .int (nI (Nat.min nn (sMay σ al)))), (7, .int (nI k))]) hx hb d_MD_take_163 hl (by decide) rfl (fun ls hl => ?_)
                refine lv_iinc (v := nI (k + 1)) (lv' := [(7, .int (nI (k + 1))), (6, .int ((-1))), (0, .ref (am 0)), (1, .int (nI goal)), (5, .int (nI (Nat.min nn (sMay σ al))))]) hx hb d_MD_take_165 hl (k := 4) rfl (nI_1 _) (by decide) rfl (fun ls hl => ?_)
                refine lv_goto (tgt := 115) hx hb d_MD_take_168 (by decide) ?_
                exact ih (k + 1) (by omega) (by omega) _ _ _ hI (lv_sub hl [2, 3, 4, 1, 0] rfl)
              · exact absurd h9 (by omega)
            · obtain rfl : k0 = k := by omega
              obtain ⟨z1, z2, z3, z4⟩ := hRk.rzs hx4 hw1 hsr
              have hgrk1 : mGr (tk1 σ (vTh (vTh τ 0) 0) (goal / 256) (Nat.min nn (sMay σ al)) (k0 + 1)) = sCnt σ := hRk1.gr
              refine r_zle (a := mRz (tk1 σ (vTh (vTh τ 0) 0) (goal / 256) (Nat.min nn (sMay σ al)) (k0 + 1))) (tgt := 162) hx hb d_MD_take_152 (by decide) (Nat.lt_of_le_of_lt z2 (by omega)) (fun h9 => ?_) (fun h9 => ?_)
              · exact absurd h9 (Nat.pos_iff_ne_zero.mp z1)
              · refine lv_aload_n hx hb d_MD_take_155 rfl (lv_at hl 0 rfl) ?_
                refine g_get (own := "GroupBitmapsModel") (C := R_MD) (T := F_MD) (N := 11) (ci := 3) (v := .int (nI (mRa (tk1 σ (vTh (vTh τ 0) 0) (goal / 256) (Nat.min nn (sMay σ al)) (k0 + 1))))) hx hb hg ku_MD hown hK hI (0) (wm_0) rfl 9 (by decide) kw_479 rfl d_MD_take_156 ?_
                rw [show mRa (tk1 σ (vTh (vTh τ 0) 0) (goal / 256) (Nat.min nn (sMay σ al)) (k0 + 1)) = 256 * (sNx σ (goal / 256) k0) + a from z3]
                refine lv_goto (tgt := 163) hx hb d_MD_take_159 (by decide) ?_
                refine lv_istore (lv' := [(6, .int (nI (256 * (sNx σ (goal / 256) k0) + a))), (0, .ref (am 0)), (1, .int (nI goal)), (5, .int (nI (Nat.min nn (sMay σ al)))), (7, .int (nI k0))]) hx hb d_MD_take_163 hl (by decide) rfl (fun ls hl => ?_)
                refine lv_iinc (v := nI (k0 + 1)) (lv' := [(7, .int (nI (k0 + 1))), (6, .int (nI (256 * (sNx σ (goal / 256) k0) + a))), (0, .ref (am 0)), (1, .int (nI goal)), (5, .int (nI (Nat.min nn (sMay σ al))))]) hx hb d_MD_take_165 hl (k := 4) rfl (nI_1 _) (by decide) rfl (fun ls hl => ?_)
                refine lv_goto (tgt := 115) hx hb d_MD_take_168 (by decide) ?_
                refine lv_iload hx hb d_MD_take_115 (lv_at hl 0 rfl) ?_
                refine lv_aload_n hx hb d_MD_take_117 rfl (lv_at hl 2 rfl) ?_
                refine g_get (own := "GroupBitmapsModel") (C := R_MD) (T := F_MD) (N := 11) (ci := 3) (v := .int (nI (mGr (tk1 σ (vTh (vTh τ 0) 0) (goal / 256) (Nat.min nn (sMay σ al)) (k0 + 1))))) hx hb hg ku_MD hown hK hI (0) (wm_0) rfl 1 (by decide) kw_471 rfl d_MD_take_118 ?_
                rw [hgrk1]
                refine r_ge (a := k0 + 1) (b := sCnt σ) (tgt := 171) hx hb d_MD_take_121 (by decide) (by omega) (by omega) (fun h8 => ?_) (fun h8 => ?_)
                · refine lv_iload hx hb d_MD_take_171 (lv_at hl 1 rfl) ?_
                  refine r_zge (a := 256 * (sNx σ (goal / 256) k0) + a) (tgt := 259) hx hb d_MD_take_173 (by decide) (by omega) ?_
                  refine lv_aload_n hx hb d_MD_take_259 rfl (lv_at hl 2 rfl) ?_
                  refine lv_iload hx hb d_MD_take_260 (lv_at hl 1 rfl) ?_
                  refine lv_iload hx hb d_MD_take_262 (lv_at hl 4 rfl) ?_
                  refine lv_iconst (v := bI true) hx hb d_MD_take_264 (by decide) ?_
                  refine g_callV (own := "GroupBitmapsModel") (C := "GroupBitmapsModel") (T := F_MD) (N := 11) (k := 3) (q0 := 0) (ci := 3) (a := am 0) (As := [.int (nI (256 * (sNx σ (goal / 256) k0) + a)), .int (nI (Nat.min nn (sMay σ al))), .int (bI true)]) (rest := []) (c_MD_mark (tk1 σ (vTh (vTh τ 0) 0) (goal / 256) (Nat.min nn (sMay σ al)) (k0 + 1)) (256 * (sNx σ (goal / 256) k0) + a) (Nat.min nn (sMay σ al)) true (by omega)) hx hb hml hown hg hK hI hA kw_541 kw_543 kp_27 kw_4 kw_544 ky_MD_mark ⟨Nat.le_of_ble_eq_true rfl, Nat.le_of_ble_eq_true rfl⟩ rfl rfl (wm_0) rfl rfl hl.1 (Nat.le_of_ble_eq_true rfl) ⟨Nat.zero_le _, Nat.zero_le _⟩ d_MD_take_265 rfl rfl (fun H locs hI => ?_)
                  refine lv_aload_n hx hb d_MD_take_268 rfl (lv_at hl 2 rfl) ?_
                  refine lv_iload hx hb d_MD_take_269 (lv_at hl 4 rfl) ?_
                  refine g_put (ws' := (wm am cI cZ (vLt (mMark (tk1 σ (vTh (vTh τ 0) 0) (goal / 256) (Nat.min nn (sMay σ al)) (k0 + 1)) (256 * (sNx σ (goal / 256) k0) + a) true (Nat.min nn (sMay σ al))) (Nat.min nn (sMay σ al))))) (own := "GroupBitmapsModel") (C := R_MD) (T := F_MD) (N := 11) (ci := 3) (v := .int (nI (Nat.min nn (sMay σ al)))) hx hb hg ku_MD t_MD t_MD_ok n_MD hown hK hI (0) (wm_0) rfl 7 (by decide) kw_477 rfl rfl (rfl) (rfl) (Nat.le_of_ble_eq_true rfl) (wm_vLt) d_MD_take_271 (fun H locs hI => ?_)
                  refine lv_iload hx hb d_MD_take_274 (lv_at hl 1 rfl) ?_
                  exact g_ri hx hb hr hlk hI (rfl) d_MD_take_276
                · refine lv_iload hx hb d_MD_take_124 (lv_at hl 1 rfl) ?_
                  refine r_zge (a := 256 * (sNx σ (goal / 256) k0) + a) (tgt := 171) hx hb d_MD_take_126 (by decide) (by omega) ?_
                  refine lv_iload hx hb d_MD_take_171 (lv_at hl 1 rfl) ?_
                  refine r_zge (a := 256 * (sNx σ (goal / 256) k0) + a) (tgt := 259) hx hb d_MD_take_173 (by decide) (by omega) ?_
                  refine lv_aload_n hx hb d_MD_take_259 rfl (lv_at hl 2 rfl) ?_
                  refine lv_iload hx hb d_MD_take_260 (lv_at hl 1 rfl) ?_
                  refine lv_iload hx hb d_MD_take_262 (lv_at hl 4 rfl) ?_
                  refine lv_iconst (v := bI true) hx hb d_MD_take_264 (by decide) ?_
                  refine g_callV (own := "GroupBitmapsModel") (C := "GroupBitmapsModel") (T := F_MD) (N := 11) (k := 3) (q0 := 0) (ci := 3) (a := am 0) (As := [.int (nI (256 * (sNx σ (goal / 256) k0) + a)), .int (nI (Nat.min nn (sMay σ al))), .int (bI true)]) (rest := []) (c_MD_mark (tk1 σ (vTh (vTh τ 0) 0) (goal / 256) (Nat.min nn (sMay σ al)) (k0 + 1)) (256 * (sNx σ (goal / 256) k0) + a) (Nat.min nn (sMay σ al)) true (by omega)) hx hb hml hown hg hK hI hA kw_541 kw_543 kp_27 kw_4 kw_544 ky_MD_mark ⟨Nat.le_of_ble_eq_true rfl, Nat.le_of_ble_eq_true rfl⟩ rfl rfl (wm_0) rfl rfl hl.1 (Nat.le_of_ble_eq_true rfl) ⟨Nat.zero_le _, Nat.zero_le _⟩ d_MD_take_265 rfl rfl (fun H locs hI => ?_)
                  refine lv_aload_n hx hb d_MD_take_268 rfl (lv_at hl 2 rfl) ?_
                  refine lv_iload hx hb d_MD_take_269 (lv_at hl 4 rfl) ?_
                  refine g_put (ws' := (wm am cI cZ (vLt (mMark (tk1 σ (vTh (vTh τ 0) 0) (goal / 256) (Nat.min nn (sMay σ al)) (k0 + 1)) (256 * (sNx σ (goal / 256) k0) + a) true (Nat.min nn (sMay σ al))) (Nat.min nn (sMay σ al))))) (own := "GroupBitmapsModel") (C := R_MD) (T := F_MD) (N := 11) (ci := 3) (v := .int (nI (Nat.min nn (sMay σ al)))) hx hb hg ku_MD t_MD t_MD_ok n_MD hown hK hI (0) (wm_0) rfl 7 (by decide) kw_477 rfl rfl (rfl) (rfl) (Nat.le_of_ble_eq_true rfl) (wm_vLt) d_MD_take_271 (fun H locs hI => ?_)
                  refine lv_iload hx hb d_MD_take_274 (lv_at hl 1 rfl) ?_
                  exact g_ri hx hb hr hlk hI (rfl) d_MD_take_276
      exact loop (k0 + 1) 0 (by omega) (Nat.zero_le _) _ _ _ hI (lv_sub hl [2, 3, 4, 1, 0] rfl)
    · exact absurd (haf.symm.trans h3) (by decide)
  have hal := sAll_le hσ
  have hfb := sFB_le hσ (sCnt σ) hc2
  have hrs := hσ.2.2.1
  have hme : al = true → sMay σ al = sFB σ (sCnt σ) := fun z => by rw [sMay, z]; rfl
  have hmf : al = false → sMay σ al = sFB σ (sCnt σ) - sRsv σ := fun z => by rw [sMay, z]; rfl
  refine lv_aload_n hx hb d_MD_take_0 rfl (lv_at hl 0 rfl) ?_
  refine lv_aload_n hx hb d_MD_take_1 rfl (lv_at hl 0 rfl) ?_
  refine lv_iload_n hx hb d_MD_take_2 rfl (lv_at hl 1 rfl) ?_
  refine g_callV (own := "GroupBitmapsModel") (C := "GroupBitmapsModel") (T := F_MD) (N := 11) (k := 1) (q0 := 0) (ci := 3) (a := am 0) (As := [.int (nI goal)]) (rest := [.ref (am 0)]) (k_ib σ τ hR (nI goal)) hx hb hml hown hg hK hI hA kw_529 kw_531 kp_24 kw_4 kw_532 ky_MD_isBlock ⟨Nat.le_of_ble_eq_true rfl, Nat.le_of_ble_eq_true rfl⟩ rfl rfl (wm_0) rfl rfl hl.1 (Nat.le_of_ble_eq_true rfl) ⟨Nat.zero_le _, Nat.zero_le _⟩ d_MD_take_3 rfl rfl (fun H locs hI => ?_)
  refine r_bz (b := sHasB σ (nI goal)) (tgt := 21) hx hb d_MD_take_6 (by decide) (fun h => ?_) (fun h => ?_)
  · exact absurd ((sHasB_nI hσ hgo).symm.trans h) (by decide)
  · refine lv_iload_n hx hb d_MD_take_9 rfl (lv_at hl 2 rfl) ?_
    refine lv_iconst (v := nI 1) hx hb d_MD_take_10 (by decide) ?_
    refine r_lt (a := nn) (b := 1) (tgt := 21) hx hb d_MD_take_11 (by decide) (by omega) (by omega) (fun h9 => ?_) (fun h9 => ?_)
    · exact absurd h9 (by omega)
    · refine lv_iload_n hx hb d_MD_take_14 rfl (lv_at hl 2 rfl) ?_
      refine lv_sipush (v := nI 256) hx hb d_MD_take_15 (by decide) ?_
      refine r_le (a := nn) (b := 256) (tgt := 25) hx hb d_MD_take_18 (by decide) (by omega) (by omega) (fun h9 => ?_) (fun h9 => ?_)
      · refine lv_iconst (v := nI 0) hx hb d_MD_take_25 (by decide) ?_
        refine g_put (ws' := (wm am cI cZ (vTh τ 0))) (own := "GroupBitmapsModel") (C := R_MD) (T := F_MD) (N := 11) (ci := 3) (v := .int (nI 0)) hx hb hg ku_MD t_MD t_MD_ok n_MD hown hK hI (0) (wm_0) rfl 0 (by decide) kw_470 rfl rfl (rfl) (rfl) (Nat.le_of_ble_eq_true rfl) (wm_vTh) d_MD_take_26 (fun H locs hI => ?_)
        refine lv_aload_n hx hb d_MD_take_29 rfl (lv_at hl 0 rfl) ?_
        refine g_get (own := "GroupBitmapsModel") (C := R_MD) (T := F_MD) (N := 11) (ci := 3) (v := .int (nI 0)) hx hb hg ku_MD hown hK hI (0) (wm_0) rfl 0 (by decide) kw_470 rfl d_MD_take_30 ?_
        refine r_zle (a := 0) (tgt := 38) hx hb d_MD_take_33 (by decide) (by omega) (fun h9 => ?_) (fun h9 => ?_)
        · refine lv_aload_n hx hb d_MD_take_38 rfl (lv_at hl 0 rfl) ?_
          refine g_callV (own := "GroupBitmapsModel") (C := "GroupBitmapsModel") (T := F_MD) (N := 11) (k := 0) (q0 := 0) (ci := 3) (a := am 0) (As := []) (rest := []) (k_ab σ (vTh τ 0) (hR.th 0)) hx hb hml hown hg hK hI hA kw_513 kw_515 kp_22 kw_4 kw_516 ky_MD_allBlocks ⟨Nat.le_of_ble_eq_true rfl, Nat.le_of_ble_eq_true rfl⟩ rfl rfl (wm_0) rfl rfl hl.1 (Nat.le_of_ble_eq_true rfl) ⟨Nat.zero_le _, Nat.zero_le _⟩ d_MD_take_39 rfl rfl (fun H locs hI => ?_)
          refine lv_iload_n hx hb d_MD_take_42 rfl (lv_at hl 3 rfl) ?_
          refine r_bz (b := al) (tgt := 50) hx hb d_MD_take_43 (by decide) (fun h2 => ?_) (fun h2 => ?_)
          · have hmay := hmf h2
            refine lv_aload_n hx hb d_MD_take_50 rfl (lv_at hl 0 rfl) ?_
            refine g_get (own := "GroupBitmapsModel") (C := R_MD) (T := F_MD) (N := 11) (ci := 3) (v := .int (nI (mRs (vTh τ 0)))) hx hb hg ku_MD hown hK hI (0) (wm_0) rfl 6 (by decide) kw_476 rfl d_MD_take_51 ?_
            rw [show mRs (vTh τ 0) = sRsv σ from hR.rs]
            refine r_isub (a := sFB σ (sCnt σ)) (b := sRsv σ) hx hb (by omega) d_MD_take_54 ?_
            rw [← hmay]
            refine lv_istore (lv' := [(4, .int (nI (sMay σ al))), (0, .ref (am 0)), (1, .int (nI goal)), (2, .int (nI nn)), (3, .int (bI al))]) hx hb d_MD_take_55 hl (by decide) rfl (fun ls hl => ?_)
            refine lv_aload_n hx hb d_MD_take_57 rfl (lv_at hl 1 rfl) ?_
            refine lv_iload hx hb d_MD_take_58 (lv_at hl 0 rfl) ?_
            refine lv_iconst (v := nI 1) hx hb d_MD_take_60 (by decide) ?_
            refine r_ge (a := sMay σ al) (b := 1) (tgt := 68) hx hb d_MD_take_61 (by decide) (by omega) (by omega) (fun h9 => ?_) (fun h9 => ?_)
            · refine lv_iconst (v := nI 0) hx hb d_MD_take_68 (by decide) ?_
              refine g_put (ws' := (wm am cI cZ (vTh (vTh τ 0) 0))) (own := "GroupBitmapsModel") (C := R_MD) (T := F_MD) (N := 11) (ci := 3) (v := .int (nI 0)) hx hb hg ku_MD t_MD t_MD_ok n_MD hown hK hI (0) (wm_0) rfl 0 (by decide) kw_470 rfl rfl (rfl) (rfl) (Nat.le_of_ble_eq_true rfl) (wm_vTh) d_MD_take_69 (fun H locs hI => ?_)
              refine lv_aload_n hx hb d_MD_take_72 rfl (lv_at hl 1 rfl) ?_
              refine g_get (own := "GroupBitmapsModel") (C := R_MD) (T := F_MD) (N := 11) (ci := 3) (v := .int (nI 0)) hx hb hg ku_MD hown hK hI (0) (wm_0) rfl 0 (by decide) kw_470 rfl d_MD_take_73 ?_
              refine r_zle (a := 0) (tgt := 81) hx hb d_MD_take_76 (by decide) (by omega) (fun h9 => ?_) (fun h9 => ?_)
              · refine lv_iload_n hx hb d_MD_take_81 rfl (lv_at hl 3 rfl) ?_
                refine lv_iload hx hb d_MD_take_82 (lv_at hl 0 rfl) ?_
                refine r_ge (a := nn) (b := sMay σ al) (tgt := 91) hx hb d_MD_take_84 (by decide) (by omega) (by omega) (fun h4 => ?_) (fun h4 => ?_)
                · refine lv_iload hx hb d_MD_take_91 (lv_at hl 0 rfl) ?_
                  have hwn : Nat.min nn (sMay σ al) = sMay σ al := Nat.min_eq_right (by omega)
                  refine lv_istore (lv' := [(5, .int (nI (sMay σ al))), (4, .int (nI (sMay σ al))), (0, .ref (am 0)), (1, .int (nI goal)), (2, .int (nI nn)), (3, .int (bI al))]) hx hb d_MD_take_93 hl (by decide) rfl (fun ls hl => ?_)
                  exact t95 () _ _ _ hI (by rw [hwn]; exact lv_sub hl [2, 3, 0] rfl)
                · refine lv_iload_n hx hb d_MD_take_87 rfl (lv_at hl 3 rfl) ?_
                  refine lv_goto (tgt := 93) hx hb d_MD_take_88 (by decide) ?_
                  have hwn : Nat.min nn (sMay σ al) = nn := Nat.min_eq_left (by omega)
                  refine lv_istore (lv' := [(5, .int (nI nn)), (4, .int (nI (sMay σ al))), (0, .ref (am 0)), (1, .int (nI goal)), (2, .int (nI nn)), (3, .int (bI al))]) hx hb d_MD_take_93 hl (by decide) rfl (fun ls hl => ?_)
                  exact t95 () _ _ _ hI (by rw [hwn]; exact lv_sub hl [2, 3, 0] rfl)
              · exact absurd h9 (by omega)
            · exact absurd h9 (by omega)
          · have hmay := hme h2
            refine lv_iconst (v := nI 0) hx hb d_MD_take_46 (by decide) ?_
            refine lv_goto (tgt := 54) hx hb d_MD_take_47 (by decide) ?_
            refine r_isub (a := sFB σ (sCnt σ)) (b := 0) hx hb (by omega) d_MD_take_54 ?_
            rw [Nat.sub_zero, ← hmay]
            refine lv_istore (lv' := [(4, .int (nI (sMay σ al))), (0, .ref (am 0)), (1, .int (nI goal)), (2, .int (nI nn)), (3, .int (bI al))]) hx hb d_MD_take_55 hl (by decide) rfl (fun ls hl => ?_)
            refine lv_aload_n hx hb d_MD_take_57 rfl (lv_at hl 1 rfl) ?_
            refine lv_iload hx hb d_MD_take_58 (lv_at hl 0 rfl) ?_
            refine lv_iconst (v := nI 1) hx hb d_MD_take_60 (by decide) ?_
            refine r_ge (a := sMay σ al) (b := 1) (tgt := 68) hx hb d_MD_take_61 (by decide) (by omega) (by omega) (fun h9 => ?_) (fun h9 => ?_)
            · refine lv_iconst (v := nI 0) hx hb d_MD_take_68 (by decide) ?_
              refine g_put (ws' := (wm am cI cZ (vTh (vTh τ 0) 0))) (own := "GroupBitmapsModel") (C := R_MD) (T := F_MD) (N := 11) (ci := 3) (v := .int (nI 0)) hx hb hg ku_MD t_MD t_MD_ok n_MD hown hK hI (0) (wm_0) rfl 0 (by decide) kw_470 rfl rfl (rfl) (rfl) (Nat.le_of_ble_eq_true rfl) (wm_vTh) d_MD_take_69 (fun H locs hI => ?_)
              refine lv_aload_n hx hb d_MD_take_72 rfl (lv_at hl 1 rfl) ?_
              refine g_get (own := "GroupBitmapsModel") (C := R_MD) (T := F_MD) (N := 11) (ci := 3) (v := .int (nI 0)) hx hb hg ku_MD hown hK hI (0) (wm_0) rfl 0 (by decide) kw_470 rfl d_MD_take_73 ?_
              refine r_zle (a := 0) (tgt := 81) hx hb d_MD_take_76 (by decide) (by omega) (fun h9 => ?_) (fun h9 => ?_)
              · refine lv_iload_n hx hb d_MD_take_81 rfl (lv_at hl 3 rfl) ?_
                refine lv_iload hx hb d_MD_take_82 (lv_at hl 0 rfl) ?_
                refine r_ge (a := nn) (b := sMay σ al) (tgt := 91) hx hb d_MD_take_84 (by decide) (by omega) (by omega) (fun h4 => ?_) (fun h4 => ?_)
                · refine lv_iload hx hb d_MD_take_91 (lv_at hl 0 rfl) ?_
                  have hwn : Nat.min nn (sMay σ al) = sMay σ al := Nat.min_eq_right (by omega)
                  refine lv_istore (lv' := [(5, .int (nI (sMay σ al))), (4, .int (nI (sMay σ al))), (0, .ref (am 0)), (1, .int (nI goal)), (2, .int (nI nn)), (3, .int (bI al))]) hx hb d_MD_take_93 hl (by decide) rfl (fun ls hl => ?_)
                  exact t95 () _ _ _ hI (by rw [hwn]; exact lv_sub hl [2, 3, 0] rfl)
                · refine lv_iload_n hx hb d_MD_take_87 rfl (lv_at hl 3 rfl) ?_
                  refine lv_goto (tgt := 93) hx hb d_MD_take_88 (by decide) ?_
                  have hwn : Nat.min nn (sMay σ al) = nn := Nat.min_eq_left (by omega)
                  refine lv_istore (lv' := [(5, .int (nI nn)), (4, .int (nI (sMay σ al))), (0, .ref (am 0)), (1, .int (nI goal)), (2, .int (nI nn)), (3, .int (bI al))]) hx hb d_MD_take_93 hl (by decide) rfl (fun ls hl => ?_)
                  exact t95 () _ _ _ hI (by rw [hwn]; exact lv_sub hl [2, 3, 0] rfl)
              · exact absurd h9 (by omega)
            · exact absurd h9 (by omega)
        · exact absurd h9 (by omega)
      · exact absurd h9 (by omega)
set_option maxHeartbeats 4000000 in
set_option maxRecDepth 100000 in
theorem c_MD_takeC {l : Launch} {D : va_G} {cG cZ cI cJ : ClassId} {am : Nat → Nat} (σ : gS) (τ : mS) (N : Nat) (hK0 : RK N σ τ) (hN : N < 65536) (goal nn : Nat) (al : Bool) (hgo : goal < sAll σ) (hn1 : 1 ≤ nn) (hn2 : nn ≤ 256) (hmy : 0 < sMay σ al) (haf : sAf σ (2 * (goal / 256)) (goal % 256) (Nat.min nn (sMay σ al)) = false) (hfn : sFind σ (goal / 256) (Nat.min nn (sMay σ al)) (sCnt σ) = none) (hb0 : 0 < (bst σ (goal / 256) (sCnt σ)).1) (hb1 : (bst σ (goal / 256) (sCnt σ)).2 + (bst σ (goal / 256) (sCnt σ)).1 ≤ 1024) : gMet l D (gT cG cZ cI cJ) y_MD_take b_MD_take 9 (some .int) ({ frames := 3, cells := 0, slots := 0, locals := 64 }) (wm am cI cZ τ) [.ref (am 0), .int (nI goal), .int (nI nn), .int (bI al)] (wm am cI cZ (vLt (mMark (tk2 σ (tk1 σ (vTh (vTh τ 0) 0) (goal / 256) (Nat.min nn (sMay σ al)) (sCnt σ)) (goal / 256) (sCnt σ)) (bst σ (goal / 256) (sCnt σ)).2 true (bst σ (goal / 256) (sCnt σ)).1) (bst σ (goal / 256) (sCnt σ)).1)) (some (.int (nI (bst σ (goal / 256) (sCnt σ)).2))) := by
  refine gMet_of (by decide) (Nat.le_of_ble_eq_true rfl) ?_
  intro p e s m below meth c A ls hC hA hI hl
  obtain ⟨hx, hb, hr, hlk, hown, hml, hg, hK⟩ := hC
  have hown : s.vm.findClass "GroupBitmapsModel" = some m.cls := hown
  have hl : lv_has ls 9 [(0, .ref (am 0)), (1, .int (nI goal)), (2, .int (nI nn)), (3, .int (bI al))] := hl
  have hR := hK0.ri hN
  have hτ := hR.ok
  have hσ := hR.sb
  have hgr := hR.gr
  have hc1 := hσ.1
  have hc2 := hσ.2.1
  have hw1 : 1 ≤ Nat.min nn (sMay σ al) := Nat.le_min.mpr ⟨hn1, hmy⟩
  have hw2 : Nat.min nn (sMay σ al) ≤ 256 := Nat.le_trans (Nat.min_le_left _ _) hn2
  have hK1 : RK N σ (vTh (vTh τ 0) 0) := (hK0.th 0).th 0
  have hR1 := hK1.ri hN
  have hin := hR.inb hgo
  have hg4 : goal / 256 < 4 := by omega
  have hal0 := sAll_le hσ
  have t95 : ∀ (u : Unit), ∀ (H : Heap) (locs : List Loc) (ls : Array Slot), gI D A s.heap (wm am cI cZ (vTh (vTh τ 0) 0)) H locs → lv_has ls 9 [(0, .ref (am 0)), (1, .int (nI goal)), (5, .int (nI (Nat.min nn (sMay σ al))))] → W p l e ({ frames := 3, cells := 0, slots := 0, locals := 64 }) s m ([.ref (am 0), .int (nI goal), .int (nI nn), .int (bI al)] : List Value).toArray below meth c H locs 0 0 (gQ D below ([.ref (am 0), .int (nI goal), .int (nI nn), .int (bI al)] : List Value).toArray s A (wm am cI cZ (vLt (mMark (tk2 σ (tk1 σ (vTh (vTh τ 0) 0) (goal / 256) (Nat.min nn (sMay σ al)) (sCnt σ)) (goal / 256) (sCnt σ)) (bst σ (goal / 256) (sCnt σ)).2 true (bst σ (goal / 256) (sCnt σ)).1) (bst σ (goal / 256) (sCnt σ)).1)) (some (.int (nI (bst σ (goal / 256) (sCnt σ)).2)))) (F0 m 95 ls []) := by
    intro u  H locs ls hI hl
    refine lv_aload_n hx hb d_MD_take_95 rfl (lv_at hl 0 rfl) ?_
    refine lv_iload_n hx hb d_MD_take_96 rfl (lv_at hl 1 rfl) ?_
    refine lv_iload hx hb d_MD_take_97 (lv_at hl 2 rfl) ?_
    refine g_callV (own := "GroupBitmapsModel") (C := "GroupBitmapsModel") (T := F_MD) (N := 11) (k := 2) (q0 := 0) (ci := 3) (a := am 0) (As := [.int (nI goal), .int (nI (Nat.min nn (sMay σ al)))]) (rest := []) (c_MD_areFree (vTh (vTh τ 0) 0) hτ goal (Nat.min nn (sMay σ al)) (by omega) (by omega)) hx hb hml hown hg hK hI hA kw_533 kw_535 kp_25 kw_4 kw_536 ky_MD_areFree ⟨Nat.le_of_ble_eq_true rfl, Nat.le_of_ble_eq_true rfl⟩ rfl rfl (wm_0) rfl rfl hl.1 (Nat.le_of_ble_eq_true rfl) ⟨Nat.zero_le _, Nat.zero_le _⟩ d_MD_take_99 rfl rfl (fun H locs hI => ?_)
    rw [hR1.maf hgo (Nat.min nn (sMay σ al)) (by omega)]
    refine r_bz (b := sAf σ (2 * (goal / 256)) (goal % 256) (Nat.min nn (sMay σ al))) (tgt := 109) hx hb d_MD_take_102 (by decide) (fun h3 => ?_) (fun h3 => ?_)
    · refine lv_iconst (v := (-1)) hx hb d_MD_take_109 (by decide) ?_
      refine lv_istore (lv' := [(6, .int ((-1))), (0, .ref (am 0)), (1, .int (nI goal)), (5, .int (nI (Nat.min nn (sMay σ al))))]) hx hb d_MD_take_110 hl (by decide) rfl (fun ls hl => ?_)
      have t171 : ∀ (u : Unit), ∀ (H : Heap) (locs : List Loc) (ls : Array Slot), gI D A s.heap (wm am cI cZ (tk1 σ (vTh (vTh τ 0) 0) (goal / 256) (Nat.min nn (sMay σ al)) (sCnt σ))) H locs → lv_has ls 9 [(0, .ref (am 0)), (1, .int (nI goal)), (5, .int (nI (Nat.min nn (sMay σ al)))), (6, .int ((-1)))] → W p l e ({ frames := 3, cells := 0, slots := 0, locals := 64 }) s m ([.ref (am 0), .int (nI goal), .int (nI nn), .int (bI al)] : List Value).toArray below meth c H locs 0 0 (gQ D below ([.ref (am 0), .int (nI goal), .int (nI nn), .int (bI al)] : List Value).toArray s A (wm am cI cZ (vLt (mMark (tk2 σ (tk1 σ (vTh (vTh τ 0) 0) (goal / 256) (Nat.min nn (sMay σ al)) (sCnt σ)) (goal / 256) (sCnt σ)) (bst σ (goal / 256) (sCnt σ)).2 true (bst σ (goal / 256) (sCnt σ)).1) (bst σ (goal / 256) (sCnt σ)).1)) (some (.int (nI (bst σ (goal / 256) (sCnt σ)).2)))) (F0 m 171 ls []) := by
        intro u  H locs ls hI hl
        have hKc := hK1.tk1 (goal / 256) (Nat.min nn (sMay σ al)) (sCnt σ)
        refine lv_iload hx hb d_MD_take_171 (lv_at hl 3 rfl) ?_
        refine lv_if_ge (tgt := 259) hx hb d_MD_take_173 (by decide) (fun h9 => absurd h9 (by decide)) (fun _ => ?_)
        refine lv_iconst (v := nI 0) hx hb d_MD_take_176 (by decide) ?_
        refine lv_istore (lv' := [(7, .int (nI 0)), (0, .ref (am 0)), (1, .int (nI goal)), (5, .int (nI (Nat.min nn (sMay σ al)))), (6, .int ((-1)))]) hx hb d_MD_take_177 hl (by decide) rfl (fun ls hl => ?_)
        refine lv_iconst (v := nI 0) hx hb d_MD_take_179 (by decide) ?_
        refine lv_istore (lv' := [(8, .int (nI 0)), (7, .int (nI 0)), (0, .ref (am 0)), (1, .int (nI goal)), (5, .int (nI (Nat.min nn (sMay σ al)))), (6, .int ((-1)))]) hx hb d_MD_take_180 hl (by decide) rfl (fun ls hl => ?_)
        have loop2 : ∀ (fuel : Nat) (k : Nat), sCnt σ + 1 ≤ fuel + k → (k ≤ sCnt σ) → ∀ (H : Heap) (locs : List Loc) (ls : Array Slot), gI D A s.heap (wm am cI cZ (tk2 σ (tk1 σ (vTh (vTh τ 0) 0) (goal / 256) (Nat.min nn (sMay σ al)) (sCnt σ)) (goal / 256) k)) H locs → lv_has ls 9 [(0, .ref (am 0)), (1, .int (nI goal)), (5, .int (nI (Nat.min nn (sMay σ al)))), (6, .int (atI (bst σ (goal / 256) k))), (7, .int (nI ((bst σ (goal / 256) k).1))), (8, .int (nI k))] → W p l e ({ frames := 3, cells := 0, slots := 0, locals := 64 }) s m ([.ref (am 0), .int (nI goal), .int (nI nn), .int (bI al)] : List Value).toArray below meth c H locs 0 0 (gQ D below ([.ref (am 0), .int (nI goal), .int (nI nn), .int (bI al)] : List Value).toArray s A (wm am cI cZ (vLt (mMark (tk2 σ (tk1 σ (vTh (vTh τ 0) 0) (goal / 256) (Nat.min nn (sMay σ al)) (sCnt σ)) (goal / 256) (sCnt σ)) (bst σ (goal / 256) (sCnt σ)).2 true (bst σ (goal / 256) (sCnt σ)).1) (bst σ (goal / 256) (sCnt σ)).1)) (some (.int (nI (bst σ (goal / 256) (sCnt σ)).2)))) (F0 m 182 ls []) := by
          intro fuel
          induction fuel with
          | zero => intro k hfu hk; exact absurd hfu (by omega)
          | succ fuel ih2 =>
            intro k hfu hk H locs ls hI hl
            have hKk := hKc.tk2 (goal / 256) k
            have hRk := hKk.ri hN
            have hgrk : mGr (tk2 σ (tk1 σ (vTh (vTh τ 0) 0) (goal / 256) (Nat.min nn (sMay σ al)) (sCnt σ)) (goal / 256) k) = sCnt σ := hRk.gr
            have hbl := bst_le hσ (goal / 256) k
            refine lv_iload hx hb d_MD_take_182 (lv_at hl 5 rfl) ?_
            refine lv_aload_n hx hb d_MD_take_184 rfl (lv_at hl 0 rfl) ?_
            refine g_get (own := "GroupBitmapsModel") (C := R_MD) (T := F_MD) (N := 11) (ci := 3) (v := .int (nI (mGr (tk2 σ (tk1 σ (vTh (vTh τ 0) 0) (goal / 256) (Nat.min nn (sMay σ al)) (sCnt σ)) (goal / 256) k)))) hx hb hg ku_MD hown hK hI (0) (wm_0) rfl 1 (by decide) kw_471 rfl d_MD_take_185 ?_
            rw [hgrk]
            refine r_ge (a := k) (b := sCnt σ) (tgt := 255) hx hb d_MD_take_188 (by decide) (by omega) (by omega) (fun h5 => ?_) (fun h5 => ?_)
            · obtain rfl : k = sCnt σ := by omega
              have hat : atI (bst σ (goal / 256) (sCnt σ)) = nI (bst σ (goal / 256) (sCnt σ)).2 := if_neg (by omega)
              rw [hat] at hl
              refine lv_iload hx hb d_MD_take_255 (lv_at hl 4 rfl) ?_
              refine lv_istore (lv' := [(5, .int (nI ((bst σ (goal / 256) (sCnt σ)).1))), (0, .ref (am 0)), (1, .int (nI goal)), (6, .int (nI ((bst σ (goal / 256) (sCnt σ)).2))), (7, .int (nI ((bst σ (goal / 256) (sCnt σ)).1))), (8, .int (nI ((sCnt σ))))]) hx hb d_MD_take_257 hl (by decide) rfl (fun ls hl => ?_)
              refine lv_aload_n hx hb d_MD_take_259 rfl (lv_at hl 1 rfl) ?_
              refine lv_iload hx hb d_MD_take_260 (lv_at hl 3 rfl) ?_
              refine lv_iload hx hb d_MD_take_262 (lv_at hl 0 rfl) ?_
              refine lv_iconst (v := bI true) hx hb d_MD_take_264 (by decide) ?_
              refine g_callV (own := "GroupBitmapsModel") (C := "GroupBitmapsModel") (T := F_MD) (N := 11) (k := 3) (q0 := 0) (ci := 3) (a := am 0) (As := [.int (nI ((bst σ (goal / 256) (sCnt σ)).2)), .int (nI ((bst σ (goal / 256) (sCnt σ)).1)), .int (bI true)]) (rest := []) (c_MD_mark (tk2 σ (tk1 σ (vTh (vTh τ 0) 0) (goal / 256) (Nat.min nn (sMay σ al)) (sCnt σ)) (goal / 256) (sCnt σ)) ((bst σ (goal / 256) (sCnt σ)).2) ((bst σ (goal / 256) (sCnt σ)).1) true (by omega)) hx hb hml hown hg hK hI hA kw_541 kw_543 kp_27 kw_4 kw_544 ky_MD_mark ⟨Nat.le_of_ble_eq_true rfl, Nat.le_of_ble_eq_true rfl⟩ rfl rfl (wm_0) rfl rfl hl.1 (Nat.le_of_ble_eq_true rfl) ⟨Nat.zero_le _, Nat.zero_le _⟩ d_MD_take_265 rfl rfl (fun H locs hI => ?_)
              refine lv_aload_n hx hb d_MD_take_268 rfl (lv_at hl 1 rfl) ?_
              refine lv_iload hx hb d_MD_take_269 (lv_at hl 0 rfl) ?_
              refine g_put (ws' := (wm am cI cZ (vLt (mMark (tk2 σ (tk1 σ (vTh (vTh τ 0) 0) (goal / 256) (Nat.min nn (sMay σ al)) (sCnt σ)) (goal / 256) (sCnt σ)) ((bst σ (goal / 256) (sCnt σ)).2) true ((bst σ (goal / 256) (sCnt σ)).1)) ((bst σ (goal / 256) (sCnt σ)).1)))) (own := "GroupBitmapsModel") (C := R_MD) (T := F_MD) (N := 11) (ci := 3) (v := .int (nI ((bst σ (goal / 256) (sCnt σ)).1))) hx hb hg ku_MD t_MD t_MD_ok n_MD hown hK hI (0) (wm_0) rfl 7 (by decide) kw_477 rfl rfl (rfl) (rfl) (Nat.le_of_ble_eq_true rfl) (wm_vLt) d_MD_take_271 (fun H locs hI => ?_)
              refine lv_iload hx hb d_MD_take_274 (lv_at hl 3 rfl) ?_
              exact g_ri hx hb hr hlk hI (rfl) d_MD_take_276
            · have hx4 := sNx_lt hσ (goal / 256) k
              have hl5 := sLen5_le hσ hx4
              refine lv_aload_n hx hb d_MD_take_191 rfl (lv_at hl 0 rfl) ?_
              refine lv_iload_n hx hb d_MD_take_192 rfl (lv_at hl 1 rfl) ?_
              refine lv_sipush (v := nI 256) hx hb d_MD_take_193 (by decide) ?_
              refine r_idiv (a := goal) (b := 256) hx hb (by omega) (by omega) (by omega) d_MD_take_196 ?_
              refine lv_iload hx hb d_MD_take_197 (lv_at hl 5 rfl) ?_
              refine r_iadd (a := goal / 256) (b := k) hx hb d_MD_take_199 ?_
              refine lv_aload_n hx hb d_MD_take_200 rfl (lv_at hl 0 rfl) ?_
              refine g_get (own := "GroupBitmapsModel") (C := R_MD) (T := F_MD) (N := 11) (ci := 3) (v := .int (nI (mGr (tk2 σ (tk1 σ (vTh (vTh τ 0) 0) (goal / 256) (Nat.min nn (sMay σ al)) (sCnt σ)) (goal / 256) k)))) hx hb hg ku_MD hown hK hI (0) (wm_0) rfl 1 (by decide) kw_471 rfl d_MD_take_201 ?_
              rw [hgrk]
              refine r_irem (a := (goal / 256) + k) (b := sCnt σ) hx hb (by omega) (by omega) (by omega) d_MD_take_204 ?_
              rw [show (goal / 256 + k) % sCnt σ = sNx σ (goal / 256) k from rfl]
              refine lv_iconst (v := nI 0) hx hb d_MD_take_205 (by decide) ?_
              refine g_callV (own := "GroupBitmapsModel") (C := "GroupBitmapsModel") (T := F_MD) (N := 11) (k := 2) (q0 := 0) (ci := 3) (a := am 0) (As := [.int (nI (sNx σ (goal / 256) k)), .int (nI 0)]) (rest := []) (c_MD_findRun0 (tk2 σ (tk1 σ (vTh (vTh τ 0) 0) (goal / 256) (Nat.min nn (sMay σ al)) (sCnt σ)) (goal / 256) k) hRk.ok (sNx σ (goal / 256) k) hx4) hx hb hml hown hg hK hI hA kw_537 kw_539 kp_26 kw_4 kw_540 ky_MD_findRun ⟨Nat.le_of_ble_eq_true rfl, Nat.le_of_ble_eq_true rfl⟩ rfl rfl (wm_0) rfl rfl hl.1 (Nat.le_of_ble_eq_true rfl) ⟨Nat.zero_le _, Nat.zero_le _⟩ d_MD_take_206 rfl rfl (fun H locs hI => ?_)
              have hz : mRz (tk2 σ (tk1 σ (vTh (vTh τ 0) 0) (goal / 256) (Nat.min nn (sMay σ al)) (sCnt σ)) (goal / 256) (k + 1)) = sLen5 σ (sNx σ (goal / 256) k) := hRk.rz0 hx4
              refine lv_aload_n hx hb d_MD_take_209 rfl (lv_at hl 0 rfl) ?_
              refine g_get (own := "GroupBitmapsModel") (C := R_MD) (T := F_MD) (N := 11) (ci := 3) (v := .int (nI (mRz (tk2 σ (tk1 σ (vTh (vTh τ 0) 0) (goal / 256) (Nat.min nn (sMay σ al)) (sCnt σ)) (goal / 256) (k + 1))))) hx hb hg ku_MD hown hK hI (0) (wm_0) rfl 10 (by decide) kw_480 rfl d_MD_take_210 ?_
              rw [hz]
              refine lv_iload hx hb d_MD_take_213 (lv_at hl 4 rfl) ?_
              refine r_le (a := sLen5 σ (sNx σ (goal / 256) k)) (b := (bst σ (goal / 256) k).1) (tgt := 225) hx hb d_MD_take_215 (by decide) (by omega) (by omega) (fun h6 => ?_) (fun h6 => ?_)
              · have e1 : bst σ (goal / 256) (k + 1) = bst σ (goal / 256) k := if_neg (Nat.not_lt.mpr h6)
                refine lv_iload hx hb d_MD_take_225 (lv_at hl 3 rfl) ?_
                refine lv_istore (lv' := [(6, .int (atI (bst σ (goal / 256) k))), (0, .ref (am 0)), (1, .int (nI goal)), (5, .int (nI (Nat.min nn (sMay σ al)))), (7, .int (nI ((bst σ (goal / 256) k).1))), (8, .int (nI k))]) hx hb d_MD_take_227 hl (by decide) rfl (fun ls hl => ?_)
                refine lv_aload_n hx hb d_MD_take_229 rfl (lv_at hl 1 rfl) ?_
                refine g_get (own := "GroupBitmapsModel") (C := R_MD) (T := F_MD) (N := 11) (ci := 3) (v := .int (nI (mRz (tk2 σ (tk1 σ (vTh (vTh τ 0) 0) (goal / 256) (Nat.min nn (sMay σ al)) (sCnt σ)) (goal / 256) (k + 1))))) hx hb hg ku_MD hown hK hI (0) (wm_0) rfl 10 (by decide) kw_480 rfl d_MD_take_230 ?_
                rw [hz]
                refine lv_iload hx hb d_MD_take_233 (lv_at hl 4 rfl) ?_
                refine r_le (a := sLen5 σ (sNx σ (goal / 256) k)) (b := (bst σ (goal / 256) k).1) (tgt := 245) hx hb d_MD_take_235 (by decide) (by omega) (by omega) (fun h9 => ?_) (fun h9 => ?_)
                · refine lv_iload hx hb d_MD_take_245 (lv_at hl 4 rfl) ?_
                  refine lv_istore (lv' := [(7, .int (nI ((bst σ (goal / 256) k).1))), (6, .int (atI (bst σ (goal / 256) k))), (0, .ref (am 0)), (1, .int (nI goal)), (5, .int (nI (Nat.min nn (sMay σ al)))), (8, .int (nI k))]) hx hb d_MD_take_247 hl (by decide) rfl (fun ls hl => ?_)
                  refine lv_iinc (v := nI (k + 1)) (lv' := [(8, .int (nI (k + 1))), (7, .int (nI ((bst σ (goal / 256) k).1))), (6, .int (atI (bst σ (goal / 256) k))), (0, .ref (am 0)), (1, .int (nI goal)), (5, .int (nI (Nat.min nn (sMay σ al))))]) hx hb d_MD_take_249 hl (k := 5) rfl (nI_1 _) (by decide) rfl (fun ls hl => ?_)
                  refine lv_goto (tgt := 182) hx hb d_MD_take_252 (by decide) ?_
                  exact ih2 (k + 1) (by omega) (by omega) _ _ _ hI (by rw [e1]; exact lv_sub hl [3, 4, 5, 2, 1, 0] rfl)
                · exact absurd h9 (by omega)
              · have e1 : bst σ (goal / 256) (k + 1) = (sLen5 σ (sNx σ (goal / 256) k), 256 * (sNx σ (goal / 256) k) + sLp σ (sNx σ (goal / 256) k)) := if_pos h6
                have hra : mRa (tk2 σ (tk1 σ (vTh (vTh τ 0) 0) (goal / 256) (Nat.min nn (sMay σ al)) (sCnt σ)) (goal / 256) (k + 1)) = 256 * (sNx σ (goal / 256) k) + sLp σ (sNx σ (goal / 256) k) := hRk.ra0 hx4 (by omega)
                have hat : atI (sLen5 σ (sNx σ (goal / 256) k), 256 * (sNx σ (goal / 256) k) + sLp σ (sNx σ (goal / 256) k)) = nI (256 * (sNx σ (goal / 256) k) + sLp σ (sNx σ (goal / 256) k)) := if_neg (by dsimp only; omega)
                refine lv_aload_n hx hb d_MD_take_218 rfl (lv_at hl 0 rfl) ?_
                refine g_get (own := "GroupBitmapsModel") (C := R_MD) (T := F_MD) (N := 11) (ci := 3) (v := .int (nI (mRa (tk2 σ (tk1 σ (vTh (vTh τ 0) 0) (goal / 256) (Nat.min nn (sMay σ al)) (sCnt σ)) (goal / 256) (k + 1))))) hx hb hg ku_MD hown hK hI (0) (wm_0) rfl 9 (by decide) kw_479 rfl d_MD_take_219 ?_
                rw [hra]
                refine lv_goto (tgt := 227) hx hb d_MD_take_222 (by decide) ?_
                refine lv_istore (lv' := [(6, .int (nI (256 * (sNx σ (goal / 256) k) + sLp σ (sNx σ (goal / 256) k)))), (0, .ref (am 0)), (1, .int (nI goal)), (5, .int (nI (Nat.min nn (sMay σ al)))), (7, .int (nI ((bst σ (goal / 256) k).1))), (8, .int (nI k))]) hx hb d_MD_take_227 hl (by decide) rfl (fun ls hl => ?_)
                refine lv_aload_n hx hb d_MD_take_229 rfl (lv_at hl 1 rfl) ?_
                refine g_get (own := "GroupBitmapsModel") (C := R_MD) (T := F_MD) (N := 11) (ci := 3) (v := .int (nI (mRz (tk2 σ (tk1 σ (vTh (vTh τ 0) 0) (goal / 256) (Nat.min nn (sMay σ al)) (sCnt σ)) (goal / 256) (k + 1))))) hx hb hg ku_MD hown hK hI (0) (wm_0) rfl 10 (by decide) kw_480 rfl d_MD_take_230 ?_
                rw [hz]
                refine lv_iload hx hb d_MD_take_233 (lv_at hl 4 rfl) ?_
                refine r_le (a := sLen5 σ (sNx σ (goal / 256) k)) (b := (bst σ (goal / 256) k).1) (tgt := 245) hx hb d_MD_take_235 (by decide) (by omega) (by omega) (fun h9 => ?_) (fun h9 => ?_)
                · exact absurd h9 (by omega)
                · refine lv_aload_n hx hb d_MD_take_238 rfl (lv_at hl 1 rfl) ?_
                  refine g_get (own := "GroupBitmapsModel") (C := R_MD) (T := F_MD) (N := 11) (ci := 3) (v := .int (nI (mRz (tk2 σ (tk1 σ (vTh (vTh τ 0) 0) (goal / 256) (Nat.min nn (sMay σ al)) (sCnt σ)) (goal / 256) (k + 1))))) hx hb hg ku_MD hown hK hI (0) (wm_0) rfl 10 (by decide) kw_480 rfl d_MD_take_239 ?_
                  rw [hz]
                  refine lv_goto (tgt := 247) hx hb d_MD_take_242 (by decide) ?_
                  refine lv_istore (lv' := [(7, .int (nI (sLen5 σ (sNx σ (goal / 256) k)))), (6, .int (nI (256 * (sNx σ (goal / 256) k) + sLp σ (sNx σ (goal / 256) k)))), (0, .ref (am 0)), (1, .int (nI goal)), (5, .int (nI (Nat.min nn (sMay σ al)))), (8, .int (nI k))]) hx hb d_MD_take_247 hl (by decide) rfl (fun ls hl => ?_)
                  refine lv_iinc (v := nI (k + 1)) (lv' := [(8, .int (nI (k + 1))), (7, .int (nI (sLen5 σ (sNx σ (goal / 256) k)))), (6, .int (nI (256 * (sNx σ (goal / 256) k) + sLp σ (sNx σ (goal / 256) k)))), (0, .ref (am 0)), (1, .int (nI goal)), (5, .int (nI (Nat.min nn (sMay σ al))))]) hx hb d_MD_take_249 hl (k := 5) rfl (nI_1 _) (by decide) rfl (fun ls hl => ?_)
                  refine lv_goto (tgt := 182) hx hb d_MD_take_252 (by decide) ?_
                  exact ih2 (k + 1) (by omega) (by omega) _ _ _ hI (by rw [e1, hat]; exact lv_sub hl [3, 4, 5, 2, 1, 0] rfl)
        exact loop2 (sCnt σ + 1) 0 (by omega) (Nat.zero_le _) _ _ _ hI (lv_sub hl [2, 3, 4, 5, 1, 0] rfl)
      refine lv_iconst (v := nI 0) hx hb d_MD_take_112 (by decide) ?_
      refine lv_istore (lv' := [(7, .int (nI 0)), (6, .int ((-1))), (0, .ref (am 0)), (1, .int (nI goal)), (5, .int (nI (Nat.min nn (sMay σ al))))]) hx hb d_MD_take_113 hl (by decide) rfl (fun ls hl => ?_)
      have loop : ∀ (fuel : Nat) (k : Nat), sCnt σ + 1 ≤ fuel + k → (k ≤ sCnt σ) → ∀ (H : Heap) (locs : List Loc) (ls : Array Slot), gI D A s.heap (wm am cI cZ (tk1 σ (vTh (vTh τ 0) 0) (goal / 256) (Nat.min nn (sMay σ al)) k)) H locs → lv_has ls 9 [(0, .ref (am 0)), (1, .int (nI goal)), (5, .int (nI (Nat.min nn (sMay σ al)))), (6, .int ((-1))), (7, .int (nI k))] → W p l e ({ frames := 3, cells := 0, slots := 0, locals := 64 }) s m ([.ref (am 0), .int (nI goal), .int (nI nn), .int (bI al)] : List Value).toArray below meth c H locs 0 0 (gQ D below ([.ref (am 0), .int (nI goal), .int (nI nn), .int (bI al)] : List Value).toArray s A (wm am cI cZ (vLt (mMark (tk2 σ (tk1 σ (vTh (vTh τ 0) 0) (goal / 256) (Nat.min nn (sMay σ al)) (sCnt σ)) (goal / 256) (sCnt σ)) (bst σ (goal / 256) (sCnt σ)).2 true (bst σ (goal / 256) (sCnt σ)).1) (bst σ (goal / 256) (sCnt σ)).1)) (some (.int (nI (bst σ (goal / 256) (sCnt σ)).2)))) (F0 m 115 ls []) := by
        intro fuel
        induction fuel with
        | zero => intro k hfu hk; exact absurd hfu (by omega)
        | succ fuel ih =>
          intro k hfu hk H locs ls hI hl
          have hKk := hK1.tk1 (goal / 256) (Nat.min nn (sMay σ al)) k
          have hRk := hKk.ri hN
          have hgrk : mGr (tk1 σ (vTh (vTh τ 0) 0) (goal / 256) (Nat.min nn (sMay σ al)) k) = sCnt σ := hRk.gr
          refine lv_iload hx hb d_MD_take_115 (lv_at hl 4 rfl) ?_
          refine lv_aload_n hx hb d_MD_take_117 rfl (lv_at hl 0 rfl) ?_
          refine g_get (own := "GroupBitmapsModel") (C := R_MD) (T := F_MD) (N := 11) (ci := 3) (v := .int (nI (mGr (tk1 σ (vTh (vTh τ 0) 0) (goal / 256) (Nat.min nn (sMay σ al)) k)))) hx hb hg ku_MD hown hK hI (0) (wm_0) rfl 1 (by decide) kw_471 rfl d_MD_take_118 ?_
          rw [hgrk]
          refine r_ge (a := k) (b := sCnt σ) (tgt := 171) hx hb d_MD_take_121 (by decide) (by omega) (by omega) (fun h => ?_) (fun h => ?_)
          · obtain rfl : k = sCnt σ := by omega
            exact t171 () _ _ _ hI (lv_sub hl [0, 1, 2, 3] rfl)
          · have hx4 := sNx_lt hσ (goal / 256) k
            refine lv_iload hx hb d_MD_take_124 (lv_at hl 3 rfl) ?_
            refine lv_if_ge (tgt := 171) hx hb d_MD_take_126 (by decide) (fun h9 => absurd h9 (by decide)) (fun _ => ?_)
            refine lv_aload_n hx hb d_MD_take_129 rfl (lv_at hl 0 rfl) ?_
            refine lv_iload_n hx hb d_MD_take_130 rfl (lv_at hl 1 rfl) ?_
            refine lv_sipush (v := nI 256) hx hb d_MD_take_131 (by decide) ?_
            refine r_idiv (a := goal) (b := 256) hx hb (by omega) (by omega) (by omega) d_MD_take_134 ?_
            refine lv_iload hx hb d_MD_take_135 (lv_at hl 4 rfl) ?_
            refine r_iadd (a := goal / 256) (b := k) hx hb d_MD_take_137 ?_
            refine lv_aload_n hx hb d_MD_take_138 rfl (lv_at hl 0 rfl) ?_
            refine g_get (own := "GroupBitmapsModel") (C := R_MD) (T := F_MD) (N := 11) (ci := 3) (v := .int (nI (mGr (tk1 σ (vTh (vTh τ 0) 0) (goal / 256) (Nat.min nn (sMay σ al)) k)))) hx hb hg ku_MD hown hK hI (0) (wm_0) rfl 1 (by decide) kw_471 rfl d_MD_take_139 ?_
            rw [hgrk]
            refine r_irem (a := (goal / 256) + k) (b := sCnt σ) hx hb (by omega) (by omega) (by omega) d_MD_take_142 ?_
            rw [show (goal / 256 + k) % sCnt σ = sNx σ (goal / 256) k from rfl]
            refine lv_iload hx hb d_MD_take_143 (lv_at hl 2 rfl) ?_
            refine g_callV (own := "GroupBitmapsModel") (C := "GroupBitmapsModel") (T := F_MD) (N := 11) (k := 2) (q0 := 0) (ci := 3) (a := am 0) (As := [.int (nI (sNx σ (goal / 256) k)), .int (nI (Nat.min nn (sMay σ al)))]) (rest := []) (c_MD_findRunq (tk1 σ (vTh (vTh τ 0) 0) (goal / 256) (Nat.min nn (sMay σ al)) k) hRk.ok (sNx σ (goal / 256) k) hx4 (Nat.min nn (sMay σ al)) hw1 (by omega)) hx hb hml hown hg hK hI hA kw_537 kw_539 kp_26 kw_4 kw_540 ky_MD_findRun ⟨Nat.le_of_ble_eq_true rfl, Nat.le_of_ble_eq_true rfl⟩ rfl rfl (wm_0) rfl rfl hl.1 (Nat.le_of_ble_eq_true rfl) ⟨Nat.zero_le _, Nat.zero_le _⟩ d_MD_take_145 rfl rfl (fun H locs hI => ?_)
            refine lv_aload_n hx hb d_MD_take_148 rfl (lv_at hl 0 rfl) ?_
            refine g_get (own := "GroupBitmapsModel") (C := R_MD) (T := F_MD) (N := 11) (ci := 3) (v := .int (nI (mRz (tk1 σ (vTh (vTh τ 0) 0) (goal / 256) (Nat.min nn (sMay σ al)) (k + 1))))) hx hb hg ku_MD hown hK hI (0) (wm_0) rfl 10 (by decide) kw_480 rfl d_MD_take_149 ?_
            have hz : mRz (tk1 σ (vTh (vTh τ 0) 0) (goal / 256) (Nat.min nn (sMay σ al)) (k + 1)) = 0 := hRk.rzn hx4 (sFind_none hfn k h).1
            rw [hz]
            refine r_zle (a := 0) (tgt := 162) hx hb d_MD_take_152 (by decide) (by omega) (fun h9 => ?_) (fun h9 => ?_)
            · refine lv_iconst (v := (-1)) hx hb d_MD_take_162 (by decide) ?_
              refine lv_istore (lv' := [(6, .int ((-1))), (0, .ref (am 0)), (1, .int (nI goal)), (5, .int (nI (Nat.min nn (sMay σ al)))), (7, .int (nI k))]) hx hb d_MD_take_163 hl (by decide) rfl (fun ls hl => ?_)
              refine lv_iinc (v := nI (k + 1)) (lv' := [(7, .int (nI (k + 1))), (6, .int ((-1))), (0, .ref (am 0)), (1, .int (nI goal)), (5, .int (nI (Nat.min nn (sMay σ al))))]) hx hb d_MD_take_165 hl (k := 4) rfl (nI_1 _) (by decide) rfl (fun ls hl => ?_)
              refine lv_goto (tgt := 115) hx hb d_MD_take_168 (by decide) ?_
              exact ih (k + 1) (by omega) (by omega) _ _ _ hI (lv_sub hl [2, 3, 4, 1, 0] rfl)
            · exact absurd h9 (by omega)
      exact loop (sCnt σ + 1) 0 (by omega) (Nat.zero_le _) _ _ _ hI (lv_sub hl [2, 3, 4, 1, 0] rfl)
    · exact absurd (haf.symm.trans h3) (by decide)
  have hal := sAll_le hσ
  have hfb := sFB_le hσ (sCnt σ) hc2
  have hrs := hσ.2.2.1
  have hme : al = true → sMay σ al = sFB σ (sCnt σ) := fun z => by rw [sMay, z]; rfl
  have hmf : al = false → sMay σ al = sFB σ (sCnt σ) - sRsv σ := fun z => by rw [sMay, z]; rfl
  refine lv_aload_n hx hb d_MD_take_0 rfl (lv_at hl 0 rfl) ?_
  refine lv_aload_n hx hb d_MD_take_1 rfl (lv_at hl 0 rfl) ?_
  refine lv_iload_n hx hb d_MD_take_2 rfl (lv_at hl 1 rfl) ?_
  refine g_callV (own := "GroupBitmapsModel") (C := "GroupBitmapsModel") (T := F_MD) (N := 11) (k := 1) (q0 := 0) (ci := 3) (a := am 0) (As := [.int (nI goal)]) (rest := [.ref (am 0)]) (k_ib σ τ hR (nI goal)) hx hb hml hown hg hK hI hA kw_529 kw_531 kp_24 kw_4 kw_532 ky_MD_isBlock ⟨Nat.le_of_ble_eq_true rfl, Nat.le_of_ble_eq_true rfl⟩ rfl rfl (wm_0) rfl rfl hl.1 (Nat.le_of_ble_eq_true rfl) ⟨Nat.zero_le _, Nat.zero_le _⟩ d_MD_take_3 rfl rfl (fun H locs hI => ?_)
  refine r_bz (b := sHasB σ (nI goal)) (tgt := 21) hx hb d_MD_take_6 (by decide) (fun h => ?_) (fun h => ?_)
  · exact absurd ((sHasB_nI hσ hgo).symm.trans h) (by decide)
  · refine lv_iload_n hx hb d_MD_take_9 rfl (lv_at hl 2 rfl) ?_
    refine lv_iconst (v := nI 1) hx hb d_MD_take_10 (by decide) ?_
    refine r_lt (a := nn) (b := 1) (tgt := 21) hx hb d_MD_take_11 (by decide) (by omega) (by omega) (fun h9 => ?_) (fun h9 => ?_)
    · exact absurd h9 (by omega)
    · refine lv_iload_n hx hb d_MD_take_14 rfl (lv_at hl 2 rfl) ?_
      refine lv_sipush (v := nI 256) hx hb d_MD_take_15 (by decide) ?_
      refine r_le (a := nn) (b := 256) (tgt := 25) hx hb d_MD_take_18 (by decide) (by omega) (by omega) (fun h9 => ?_) (fun h9 => ?_)
      · refine lv_iconst (v := nI 0) hx hb d_MD_take_25 (by decide) ?_
        refine g_put (ws' := (wm am cI cZ (vTh τ 0))) (own := "GroupBitmapsModel") (C := R_MD) (T := F_MD) (N := 11) (ci := 3) (v := .int (nI 0)) hx hb hg ku_MD t_MD t_MD_ok n_MD hown hK hI (0) (wm_0) rfl 0 (by decide) kw_470 rfl rfl (rfl) (rfl) (Nat.le_of_ble_eq_true rfl) (wm_vTh) d_MD_take_26 (fun H locs hI => ?_)
        refine lv_aload_n hx hb d_MD_take_29 rfl (lv_at hl 0 rfl) ?_
        refine g_get (own := "GroupBitmapsModel") (C := R_MD) (T := F_MD) (N := 11) (ci := 3) (v := .int (nI 0)) hx hb hg ku_MD hown hK hI (0) (wm_0) rfl 0 (by decide) kw_470 rfl d_MD_take_30 ?_
        refine r_zle (a := 0) (tgt := 38) hx hb d_MD_take_33 (by decide) (by omega) (fun h9 => ?_) (fun h9 => ?_)
        · refine lv_aload_n hx hb d_MD_take_38 rfl (lv_at hl 0 rfl) ?_
          refine g_callV (own := "GroupBitmapsModel") (C := "GroupBitmapsModel") (T := F_MD) (N := 11) (k := 0) (q0 := 0) (ci := 3) (a := am 0) (As := []) (rest := []) (k_ab σ (vTh τ 0) (hR.th 0)) hx hb hml hown hg hK hI hA kw_513 kw_515 kp_22 kw_4 kw_516 ky_MD_allBlocks ⟨Nat.le_of_ble_eq_true rfl, Nat.le_of_ble_eq_true rfl⟩ rfl rfl (wm_0) rfl rfl hl.1 (Nat.le_of_ble_eq_true rfl) ⟨Nat.zero_le _, Nat.zero_le _⟩ d_MD_take_39 rfl rfl (fun H locs hI => ?_)
          refine lv_iload_n hx hb d_MD_take_42 rfl (lv_at hl 3 rfl) ?_
          refine r_bz (b := al) (tgt := 50) hx hb d_MD_take_43 (by decide) (fun h2 => ?_) (fun h2 => ?_)
          · have hmay := hmf h2
            refine lv_aload_n hx hb d_MD_take_50 rfl (lv_at hl 0 rfl) ?_
            refine g_get (own := "GroupBitmapsModel") (C := R_MD) (T := F_MD) (N := 11) (ci := 3) (v := .int (nI (mRs (vTh τ 0)))) hx hb hg ku_MD hown hK hI (0) (wm_0) rfl 6 (by decide) kw_476 rfl d_MD_take_51 ?_
            rw [show mRs (vTh τ 0) = sRsv σ from hR.rs]
            refine r_isub (a := sFB σ (sCnt σ)) (b := sRsv σ) hx hb (by omega) d_MD_take_54 ?_
            rw [← hmay]
            refine lv_istore (lv' := [(4, .int (nI (sMay σ al))), (0, .ref (am 0)), (1, .int (nI goal)), (2, .int (nI nn)), (3, .int (bI al))]) hx hb d_MD_take_55 hl (by decide) rfl (fun ls hl => ?_)
            refine lv_aload_n hx hb d_MD_take_57 rfl (lv_at hl 1 rfl) ?_
            refine lv_iload hx hb d_MD_take_58 (lv_at hl 0 rfl) ?_
            refine lv_iconst (v := nI 1) hx hb d_MD_take_60 (by decide) ?_
            refine r_ge (a := sMay σ al) (b := 1) (tgt := 68) hx hb d_MD_take_61 (by decide) (by omega) (by omega) (fun h9 => ?_) (fun h9 => ?_)
            · refine lv_iconst (v := nI 0) hx hb d_MD_take_68 (by decide) ?_
              refine g_put (ws' := (wm am cI cZ (vTh (vTh τ 0) 0))) (own := "GroupBitmapsModel") (C := R_MD) (T := F_MD) (N := 11) (ci := 3) (v := .int (nI 0)) hx hb hg ku_MD t_MD t_MD_ok n_MD hown hK hI (0) (wm_0) rfl 0 (by decide) kw_470 rfl rfl (rfl) (rfl) (Nat.le_of_ble_eq_true rfl) (wm_vTh) d_MD_take_69 (fun H locs hI => ?_)
              refine lv_aload_n hx hb d_MD_take_72 rfl (lv_at hl 1 rfl) ?_
              refine g_get (own := "GroupBitmapsModel") (C := R_MD) (T := F_MD) (N := 11) (ci := 3) (v := .int (nI 0)) hx hb hg ku_MD hown hK hI (0) (wm_0) rfl 0 (by decide) kw_470 rfl d_MD_take_73 ?_
              refine r_zle (a := 0) (tgt := 81) hx hb d_MD_take_76 (by decide) (by omega) (fun h9 => ?_) (fun h9 => ?_)
              · refine lv_iload_n hx hb d_MD_take_81 rfl (lv_at hl 3 rfl) ?_
                refine lv_iload hx hb d_MD_take_82 (lv_at hl 0 rfl) ?_
                refine r_ge (a := nn) (b := sMay σ al) (tgt := 91) hx hb d_MD_take_84 (by decide) (by omega) (by omega) (fun h4 => ?_) (fun h4 => ?_)
                · refine lv_iload hx hb d_MD_take_91 (lv_at hl 0 rfl) ?_
                  have hwn : Nat.min nn (sMay σ al) = sMay σ al := Nat.min_eq_right (by omega)
                  refine lv_istore (lv' := [(5, .int (nI (sMay σ al))), (4, .int (nI (sMay σ al))), (0, .ref (am 0)), (1, .int (nI goal)), (2, .int (nI nn)), (3, .int (bI al))]) hx hb d_MD_take_93 hl (by decide) rfl (fun ls hl => ?_)
                  exact t95 () _ _ _ hI (by rw [hwn]; exact lv_sub hl [2, 3, 0] rfl)
                · refine lv_iload_n hx hb d_MD_take_87 rfl (lv_at hl 3 rfl) ?_
                  refine lv_goto (tgt := 93) hx hb d_MD_take_88 (by decide) ?_
                  have hwn : Nat.min nn (sMay σ al) = nn := Nat.min_eq_left (by omega)
                  refine lv_istore (lv' := [(5, .int (nI nn)), (4, .int (nI (sMay σ al))), (0, .ref (am 0)), (1, .int (nI goal)), (2, .int (nI nn)), (3, .int (bI al))]) hx hb d_MD_take_93 hl (by decide) rfl (fun ls hl => ?_)
                  exact t95 () _ _ _ hI (by rw [hwn]; exact lv_sub hl [2, 3, 0] rfl)
              · exact absurd h9 (by omega)
            · exact absurd h9 (by omega)
          · have hmay := hme h2
            refine lv_iconst (v := nI 0) hx hb d_MD_take_46 (by decide) ?_
            refine lv_goto (tgt := 54) hx hb d_MD_take_47 (by decide) ?_
            refine r_isub (a := sFB σ (sCnt σ)) (b := 0) hx hb (by omega) d_MD_take_54 ?_
            rw [Nat.sub_zero, ← hmay]
            refine lv_istore (lv' := [(4, .int (nI (sMay σ al))), (0, .ref (am 0)), (1, .int (nI goal)), (2, .int (nI nn)), (3, .int (bI al))]) hx hb d_MD_take_55 hl (by decide) rfl (fun ls hl => ?_)
            refine lv_aload_n hx hb d_MD_take_57 rfl (lv_at hl 1 rfl) ?_
            refine lv_iload hx hb d_MD_take_58 (lv_at hl 0 rfl) ?_
            refine lv_iconst (v := nI 1) hx hb d_MD_take_60 (by decide) ?_
            refine r_ge (a := sMay σ al) (b := 1) (tgt := 68) hx hb d_MD_take_61 (by decide) (by omega) (by omega) (fun h9 => ?_) (fun h9 => ?_)
            · refine lv_iconst (v := nI 0) hx hb d_MD_take_68 (by decide) ?_
              refine g_put (ws' := (wm am cI cZ (vTh (vTh τ 0) 0))) (own := "GroupBitmapsModel") (C := R_MD) (T := F_MD) (N := 11) (ci := 3) (v := .int (nI 0)) hx hb hg ku_MD t_MD t_MD_ok n_MD hown hK hI (0) (wm_0) rfl 0 (by decide) kw_470 rfl rfl (rfl) (rfl) (Nat.le_of_ble_eq_true rfl) (wm_vTh) d_MD_take_69 (fun H locs hI => ?_)
              refine lv_aload_n hx hb d_MD_take_72 rfl (lv_at hl 1 rfl) ?_
              refine g_get (own := "GroupBitmapsModel") (C := R_MD) (T := F_MD) (N := 11) (ci := 3) (v := .int (nI 0)) hx hb hg ku_MD hown hK hI (0) (wm_0) rfl 0 (by decide) kw_470 rfl d_MD_take_73 ?_
              refine r_zle (a := 0) (tgt := 81) hx hb d_MD_take_76 (by decide) (by omega) (fun h9 => ?_) (fun h9 => ?_)
              · refine lv_iload_n hx hb d_MD_take_81 rfl (lv_at hl 3 rfl) ?_
                refine lv_iload hx hb d_MD_take_82 (lv_at hl 0 rfl) ?_
                refine r_ge (a := nn) (b := sMay σ al) (tgt := 91) hx hb d_MD_take_84 (by decide) (by omega) (by omega) (fun h4 => ?_) (fun h4 => ?_)
                · refine lv_iload hx hb d_MD_take_91 (lv_at hl 0 rfl) ?_
                  have hwn : Nat.min nn (sMay σ al) = sMay σ al := Nat.min_eq_right (by omega)
                  refine lv_istore (lv' := [(5, .int (nI (sMay σ al))), (4, .int (nI (sMay σ al))), (0, .ref (am 0)), (1, .int (nI goal)), (2, .int (nI nn)), (3, .int (bI al))]) hx hb d_MD_take_93 hl (by decide) rfl (fun ls hl => ?_)
                  exact t95 () _ _ _ hI (by rw [hwn]; exact lv_sub hl [2, 3, 0] rfl)
                · refine lv_iload_n hx hb d_MD_take_87 rfl (lv_at hl 3 rfl) ?_
                  refine lv_goto (tgt := 93) hx hb d_MD_take_88 (by decide) ?_
                  have hwn : Nat.min nn (sMay σ al) = nn := Nat.min_eq_left (by omega)
                  refine lv_istore (lv' := [(5, .int (nI nn)), (4, .int (nI (sMay σ al))), (0, .ref (am 0)), (1, .int (nI goal)), (2, .int (nI nn)), (3, .int (bI al))]) hx hb d_MD_take_93 hl (by decide) rfl (fun ls hl => ?_)
                  exact t95 () _ _ _ hI (by rw [hwn]; exact lv_sub hl [2, 3, 0] rfl)
              · exact absurd h9 (by omega)
            · exact absurd h9 (by omega)
        · exact absurd h9 (by omega)
      · exact absurd h9 (by omega)
set_option maxHeartbeats 4000000 in
set_option maxRecDepth 100000 in
theorem c_MD_take_no {l : Launch} {D : va_G} {cG cZ cI cJ : ClassId} {am : Nat → Nat} (σ : gS) (τ : mS) (N : Nat) (hK0 : RK N σ τ) (hN : N < 65536) (goal nn : Nat) (al : Bool) (hgo : goal < sAll σ) (hn1 : 1 ≤ nn) (hn2 : nn ≤ 256) (hmy : sMay σ al = 0) : gMet l D (gT cG cZ cI cJ) y_MD_take b_MD_take 9 (some .int) ({ frames := 3, cells := 0, slots := 0, locals := 64 }) (wm am cI cZ τ) [.ref (am 0), .int (nI goal), .int (nI nn), .int (bI al)] (wm am cI cZ (vTh (vTh τ 0) 2)) (some (.int (nI 0))) := by
  refine gMet_of (by decide) (Nat.le_of_ble_eq_true rfl) ?_
  intro p e s m below meth c A ls hC hA hI hl
  obtain ⟨hx, hb, hr, hlk, hown, hml, hg, hK⟩ := hC
  have hown : s.vm.findClass "GroupBitmapsModel" = some m.cls := hown
  have hl : lv_has ls 9 [(0, .ref (am 0)), (1, .int (nI goal)), (2, .int (nI nn)), (3, .int (bI al))] := hl
  have hR := hK0.ri hN
  have hτ := hR.ok
  have hσ := hR.sb
  have hgr := hR.gr
  have hc1 := hσ.1
  have hc2 := hσ.2.1
  have hal := sAll_le hσ
  have hfb := sFB_le hσ (sCnt σ) hc2
  have hrs := hσ.2.2.1
  have hme : al = true → sMay σ al = sFB σ (sCnt σ) := fun z => by rw [sMay, z]; rfl
  have hmf : al = false → sMay σ al = sFB σ (sCnt σ) - sRsv σ := fun z => by rw [sMay, z]; rfl
  refine lv_aload_n hx hb d_MD_take_0 rfl (lv_at hl 0 rfl) ?_
  refine lv_aload_n hx hb d_MD_take_1 rfl (lv_at hl 0 rfl) ?_
  refine lv_iload_n hx hb d_MD_take_2 rfl (lv_at hl 1 rfl) ?_
  refine g_callV (own := "GroupBitmapsModel") (C := "GroupBitmapsModel") (T := F_MD) (N := 11) (k := 1) (q0 := 0) (ci := 3) (a := am 0) (As := [.int (nI goal)]) (rest := [.ref (am 0)]) (k_ib σ τ hR (nI goal)) hx hb hml hown hg hK hI hA kw_529 kw_531 kp_24 kw_4 kw_532 ky_MD_isBlock ⟨Nat.le_of_ble_eq_true rfl, Nat.le_of_ble_eq_true rfl⟩ rfl rfl (wm_0) rfl rfl hl.1 (Nat.le_of_ble_eq_true rfl) ⟨Nat.zero_le _, Nat.zero_le _⟩ d_MD_take_3 rfl rfl (fun H locs hI => ?_)
  refine r_bz (b := sHasB σ (nI goal)) (tgt := 21) hx hb d_MD_take_6 (by decide) (fun h => ?_) (fun h => ?_)
  · exact absurd ((sHasB_nI hσ hgo).symm.trans h) (by decide)
  · refine lv_iload_n hx hb d_MD_take_9 rfl (lv_at hl 2 rfl) ?_
    refine lv_iconst (v := nI 1) hx hb d_MD_take_10 (by decide) ?_
    refine r_lt (a := nn) (b := 1) (tgt := 21) hx hb d_MD_take_11 (by decide) (by omega) (by omega) (fun h9 => ?_) (fun h9 => ?_)
    · exact absurd h9 (by omega)
    · refine lv_iload_n hx hb d_MD_take_14 rfl (lv_at hl 2 rfl) ?_
      refine lv_sipush (v := nI 256) hx hb d_MD_take_15 (by decide) ?_
      refine r_le (a := nn) (b := 256) (tgt := 25) hx hb d_MD_take_18 (by decide) (by omega) (by omega) (fun h9 => ?_) (fun h9 => ?_)
      · refine lv_iconst (v := nI 0) hx hb d_MD_take_25 (by decide) ?_
        refine g_put (ws' := (wm am cI cZ (vTh τ 0))) (own := "GroupBitmapsModel") (C := R_MD) (T := F_MD) (N := 11) (ci := 3) (v := .int (nI 0)) hx hb hg ku_MD t_MD t_MD_ok n_MD hown hK hI (0) (wm_0) rfl 0 (by decide) kw_470 rfl rfl (rfl) (rfl) (Nat.le_of_ble_eq_true rfl) (wm_vTh) d_MD_take_26 (fun H locs hI => ?_)
        refine lv_aload_n hx hb d_MD_take_29 rfl (lv_at hl 0 rfl) ?_
        refine g_get (own := "GroupBitmapsModel") (C := R_MD) (T := F_MD) (N := 11) (ci := 3) (v := .int (nI 0)) hx hb hg ku_MD hown hK hI (0) (wm_0) rfl 0 (by decide) kw_470 rfl d_MD_take_30 ?_
        refine r_zle (a := 0) (tgt := 38) hx hb d_MD_take_33 (by decide) (by omega) (fun h9 => ?_) (fun h9 => ?_)
        · refine lv_aload_n hx hb d_MD_take_38 rfl (lv_at hl 0 rfl) ?_
          refine g_callV (own := "GroupBitmapsModel") (C := "GroupBitmapsModel") (T := F_MD) (N := 11) (k := 0) (q0 := 0) (ci := 3) (a := am 0) (As := []) (rest := []) (k_ab σ (vTh τ 0) (hR.th 0)) hx hb hml hown hg hK hI hA kw_513 kw_515 kp_22 kw_4 kw_516 ky_MD_allBlocks ⟨Nat.le_of_ble_eq_true rfl, Nat.le_of_ble_eq_true rfl⟩ rfl rfl (wm_0) rfl rfl hl.1 (Nat.le_of_ble_eq_true rfl) ⟨Nat.zero_le _, Nat.zero_le _⟩ d_MD_take_39 rfl rfl (fun H locs hI => ?_)
          refine lv_iload_n hx hb d_MD_take_42 rfl (lv_at hl 3 rfl) ?_
          refine r_bz (b := al) (tgt := 50) hx hb d_MD_take_43 (by decide) (fun h2 => ?_) (fun h2 => ?_)
          · have hmay := hmf h2
            refine lv_aload_n hx hb d_MD_take_50 rfl (lv_at hl 0 rfl) ?_
            refine g_get (own := "GroupBitmapsModel") (C := R_MD) (T := F_MD) (N := 11) (ci := 3) (v := .int (nI (mRs (vTh τ 0)))) hx hb hg ku_MD hown hK hI (0) (wm_0) rfl 6 (by decide) kw_476 rfl d_MD_take_51 ?_
            rw [show mRs (vTh τ 0) = sRsv σ from hR.rs]
            refine lv_isub hx hb d_MD_take_54 ?_
            refine lv_istore (lv' := [(4, .int (nI (sFB σ (sCnt σ)) - nI (sRsv σ))), (0, .ref (am 0)), (1, .int (nI goal)), (2, .int (nI nn)), (3, .int (bI al))]) hx hb d_MD_take_55 hl (by decide) rfl (fun ls hl => ?_)
            refine lv_aload_n hx hb d_MD_take_57 rfl (lv_at hl 1 rfl) ?_
            refine lv_iload hx hb d_MD_take_58 (lv_at hl 0 rfl) ?_
            refine lv_iconst (v := nI 1) hx hb d_MD_take_60 (by decide) ?_
            refine lv_icmp_ge (tgt := 68) hx hb d_MD_take_61 (by decide) (fun h9 => ?_) (fun h9 => ?_)
            · exact absurd h9 (may_neg (by omega) (by omega) (by omega))
            · refine lv_iconst (v := nI 2) hx hb d_MD_take_64 (by decide) ?_
              refine lv_goto (tgt := 69) hx hb d_MD_take_65 (by decide) ?_
              refine g_put (ws' := (wm am cI cZ (vTh (vTh τ 0) 2))) (own := "GroupBitmapsModel") (C := R_MD) (T := F_MD) (N := 11) (ci := 3) (v := .int (nI 2)) hx hb hg ku_MD t_MD t_MD_ok n_MD hown hK hI (0) (wm_0) rfl 0 (by decide) kw_470 rfl rfl (rfl) (rfl) (Nat.le_of_ble_eq_true rfl) (wm_vTh) d_MD_take_69 (fun H locs hI => ?_)
              refine lv_aload_n hx hb d_MD_take_72 rfl (lv_at hl 1 rfl) ?_
              refine g_get (own := "GroupBitmapsModel") (C := R_MD) (T := F_MD) (N := 11) (ci := 3) (v := .int (nI 2)) hx hb hg ku_MD hown hK hI (0) (wm_0) rfl 0 (by decide) kw_470 rfl d_MD_take_73 ?_
              refine r_zle (a := 2) (tgt := 81) hx hb d_MD_take_76 (by decide) (by omega) (fun h9 => ?_) (fun h9 => ?_)
              · exact absurd h9 (by omega)
              · refine lv_iconst (v := nI 0) hx hb d_MD_take_79 (by decide) ?_
                exact g_ri hx hb hr hlk hI (rfl) d_MD_take_80
          · have hmay := hme h2
            refine lv_iconst (v := nI 0) hx hb d_MD_take_46 (by decide) ?_
            refine lv_goto (tgt := 54) hx hb d_MD_take_47 (by decide) ?_
            refine r_isub (a := sFB σ (sCnt σ)) (b := 0) hx hb (by omega) d_MD_take_54 ?_
            refine lv_istore (lv' := [(4, .int (nI ((sFB σ (sCnt σ)) - 0))), (0, .ref (am 0)), (1, .int (nI goal)), (2, .int (nI nn)), (3, .int (bI al))]) hx hb d_MD_take_55 hl (by decide) rfl (fun ls hl => ?_)
            refine lv_aload_n hx hb d_MD_take_57 rfl (lv_at hl 1 rfl) ?_
            refine lv_iload hx hb d_MD_take_58 (lv_at hl 0 rfl) ?_
            refine lv_iconst (v := nI 1) hx hb d_MD_take_60 (by decide) ?_
            refine r_ge (a := (sFB σ (sCnt σ)) - 0) (b := 1) (tgt := 68) hx hb d_MD_take_61 (by decide) (by omega) (by omega) (fun h9 => ?_) (fun h9 => ?_)
            · exact absurd h9 (by omega)
            · refine lv_iconst (v := nI 2) hx hb d_MD_take_64 (by decide) ?_
              refine lv_goto (tgt := 69) hx hb d_MD_take_65 (by decide) ?_
              refine g_put (ws' := (wm am cI cZ (vTh (vTh τ 0) 2))) (own := "GroupBitmapsModel") (C := R_MD) (T := F_MD) (N := 11) (ci := 3) (v := .int (nI 2)) hx hb hg ku_MD t_MD t_MD_ok n_MD hown hK hI (0) (wm_0) rfl 0 (by decide) kw_470 rfl rfl (rfl) (rfl) (Nat.le_of_ble_eq_true rfl) (wm_vTh) d_MD_take_69 (fun H locs hI => ?_)
              refine lv_aload_n hx hb d_MD_take_72 rfl (lv_at hl 1 rfl) ?_
              refine g_get (own := "GroupBitmapsModel") (C := R_MD) (T := F_MD) (N := 11) (ci := 3) (v := .int (nI 2)) hx hb hg ku_MD hown hK hI (0) (wm_0) rfl 0 (by decide) kw_470 rfl d_MD_take_73 ?_
              refine r_zle (a := 2) (tgt := 81) hx hb d_MD_take_76 (by decide) (by omega) (fun h9 => ?_) (fun h9 => ?_)
              · exact absurd h9 (by omega)
              · refine lv_iconst (v := nI 0) hx hb d_MD_take_79 (by decide) ?_
                exact g_ri hx hb hr hlk hI (rfl) d_MD_take_80
        · exact absurd h9 (by omega)
      · exact absurd h9 (by omega)
set_option maxHeartbeats 4000000 in
set_option maxRecDepth 100000 in
theorem c_MD_take_bad {l : Launch} {D : va_G} {cG cZ cI cJ : ClassId} {am : Nat → Nat} (σ : gS) (τ : mS) (N : Nat) (hK0 : RK N σ τ) (hN : N < 65536) (x y : Int32) (al : Bool) (hbad : ¬ (sHasB σ x = true ∧ ¬ y < nI 1 ∧ y ≤ nI 256)) : gMet l D (gT cG cZ cI cJ) y_MD_take b_MD_take 9 (some .int) ({ frames := 3, cells := 0, slots := 0, locals := 64 }) (wm am cI cZ τ) [.ref (am 0), .int x, .int y, .int (bI al)] (wm am cI cZ (vTh τ 1)) (some (.int (nI 0))) := by
  refine gMet_of (by decide) (Nat.le_of_ble_eq_true rfl) ?_
  intro p e s m below meth c A ls hC hA hI hl
  obtain ⟨hx, hb, hr, hlk, hown, hml, hg, hK⟩ := hC
  have hown : s.vm.findClass "GroupBitmapsModel" = some m.cls := hown
  have hl : lv_has ls 9 [(0, .ref (am 0)), (1, .int x), (2, .int y), (3, .int (bI al))] := hl
  have hR := hK0.ri hN
  have hτ := hR.ok
  have hσ := hR.sb
  have hgr := hR.gr
  have hc1 := hσ.1
  have hc2 := hσ.2.1
  refine lv_aload_n hx hb d_MD_take_0 rfl (lv_at hl 0 rfl) ?_
  refine lv_aload_n hx hb d_MD_take_1 rfl (lv_at hl 0 rfl) ?_
  refine lv_iload_n hx hb d_MD_take_2 rfl (lv_at hl 1 rfl) ?_
  refine g_callV (own := "GroupBitmapsModel") (C := "GroupBitmapsModel") (T := F_MD) (N := 11) (k := 1) (q0 := 0) (ci := 3) (a := am 0) (As := [.int x]) (rest := [.ref (am 0)]) (k_ib σ τ hR x) hx hb hml hown hg hK hI hA kw_529 kw_531 kp_24 kw_4 kw_532 ky_MD_isBlock ⟨Nat.le_of_ble_eq_true rfl, Nat.le_of_ble_eq_true rfl⟩ rfl rfl (wm_0) rfl rfl hl.1 (Nat.le_of_ble_eq_true rfl) ⟨Nat.zero_le _, Nat.zero_le _⟩ d_MD_take_3 rfl rfl (fun H locs hI => ?_)
  refine r_bz (b := sHasB σ x) (tgt := 21) hx hb d_MD_take_6 (by decide) (fun h => ?_) (fun h => ?_)
  · refine lv_iconst (v := nI 1) hx hb d_MD_take_21 (by decide) ?_
    refine lv_goto (tgt := 26) hx hb d_MD_take_22 (by decide) ?_
    refine g_put (ws' := (wm am cI cZ (vTh τ 1))) (own := "GroupBitmapsModel") (C := R_MD) (T := F_MD) (N := 11) (ci := 3) (v := .int (nI 1)) hx hb hg ku_MD t_MD t_MD_ok n_MD hown hK hI (0) (wm_0) rfl 0 (by decide) kw_470 rfl rfl (rfl) (rfl) (Nat.le_of_ble_eq_true rfl) (wm_vTh) d_MD_take_26 (fun H locs hI => ?_)
    refine lv_aload_n hx hb d_MD_take_29 rfl (lv_at hl 0 rfl) ?_
    refine g_get (own := "GroupBitmapsModel") (C := R_MD) (T := F_MD) (N := 11) (ci := 3) (v := .int (nI 1)) hx hb hg ku_MD hown hK hI (0) (wm_0) rfl 0 (by decide) kw_470 rfl d_MD_take_30 ?_
    refine r_zle (a := 1) (tgt := 38) hx hb d_MD_take_33 (by decide) (by omega) (fun h9 => ?_) (fun h9 => ?_)
    · exact absurd h9 (by omega)
    · refine lv_iconst (v := nI 0) hx hb d_MD_take_36 (by decide) ?_
      exact g_ri hx hb hr hlk hI (rfl) d_MD_take_37
  · refine lv_iload_n hx hb d_MD_take_9 rfl (lv_at hl 2 rfl) ?_
    refine lv_iconst (v := nI 1) hx hb d_MD_take_10 (by decide) ?_
    refine lv_icmp_lt (tgt := 21) hx hb d_MD_take_11 (by decide) (fun h2 => ?_) (fun h2 => ?_)
    · refine lv_iconst (v := nI 1) hx hb d_MD_take_21 (by decide) ?_
      refine lv_goto (tgt := 26) hx hb d_MD_take_22 (by decide) ?_
      refine g_put (ws' := (wm am cI cZ (vTh τ 1))) (own := "GroupBitmapsModel") (C := R_MD) (T := F_MD) (N := 11) (ci := 3) (v := .int (nI 1)) hx hb hg ku_MD t_MD t_MD_ok n_MD hown hK hI (0) (wm_0) rfl 0 (by decide) kw_470 rfl rfl (rfl) (rfl) (Nat.le_of_ble_eq_true rfl) (wm_vTh) d_MD_take_26 (fun H locs hI => ?_)
      refine lv_aload_n hx hb d_MD_take_29 rfl (lv_at hl 0 rfl) ?_
      refine g_get (own := "GroupBitmapsModel") (C := R_MD) (T := F_MD) (N := 11) (ci := 3) (v := .int (nI 1)) hx hb hg ku_MD hown hK hI (0) (wm_0) rfl 0 (by decide) kw_470 rfl d_MD_take_30 ?_
      refine r_zle (a := 1) (tgt := 38) hx hb d_MD_take_33 (by decide) (by omega) (fun h9 => ?_) (fun h9 => ?_)
      · exact absurd h9 (by omega)
      · refine lv_iconst (v := nI 0) hx hb d_MD_take_36 (by decide) ?_
        exact g_ri hx hb hr hlk hI (rfl) d_MD_take_37
    · refine lv_iload_n hx hb d_MD_take_14 rfl (lv_at hl 2 rfl) ?_
      refine lv_sipush (v := nI 256) hx hb d_MD_take_15 (by decide) ?_
      refine lv_icmp_le (tgt := 25) hx hb d_MD_take_18 (by decide) (fun h3 => ?_) (fun h3 => ?_)
      · exact absurd ⟨h, h2, h3⟩ hbad
      · refine lv_iconst (v := nI 1) hx hb d_MD_take_21 (by decide) ?_
        refine lv_goto (tgt := 26) hx hb d_MD_take_22 (by decide) ?_
        refine g_put (ws' := (wm am cI cZ (vTh τ 1))) (own := "GroupBitmapsModel") (C := R_MD) (T := F_MD) (N := 11) (ci := 3) (v := .int (nI 1)) hx hb hg ku_MD t_MD t_MD_ok n_MD hown hK hI (0) (wm_0) rfl 0 (by decide) kw_470 rfl rfl (rfl) (rfl) (Nat.le_of_ble_eq_true rfl) (wm_vTh) d_MD_take_26 (fun H locs hI => ?_)
        refine lv_aload_n hx hb d_MD_take_29 rfl (lv_at hl 0 rfl) ?_
        refine g_get (own := "GroupBitmapsModel") (C := R_MD) (T := F_MD) (N := 11) (ci := 3) (v := .int (nI 1)) hx hb hg ku_MD hown hK hI (0) (wm_0) rfl 0 (by decide) kw_470 rfl d_MD_take_30 ?_
        refine r_zle (a := 1) (tgt := 38) hx hb d_MD_take_33 (by decide) (by omega) (fun h9 => ?_) (fun h9 => ?_)
        · exact absurd h9 (by omega)
        · refine lv_iconst (v := nI 0) hx hb d_MD_take_36 (by decide) ?_
          exact g_ri hx hb hr hlk hI (rfl) d_MD_take_37
