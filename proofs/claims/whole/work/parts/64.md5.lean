set_option maxHeartbeats 4000000 in
set_option maxRecDepth 100000 in
theorem c_MD_descriptor {l : Launch} {D : va_G} {cG cZ cI cJ : ClassId} {am : Nat → Nat} (σ : gS) (τ : mS) (hR : RI σ τ) (t : Nat) (ht : t < 4096) : gMet l D (gT cG cZ cI cJ) y_MD_descriptor b_MD_descriptor 6 (some .int) ({ frames := 2, cells := 0, slots := 0, locals := 40 }) (wm am cI cZ τ) [.ref (am 0), .int (nI t)] (wm am cI cZ τ) (some (.int (nI (sTb σ t)))) := by
  refine gMet_of (by decide) (Nat.le_of_ble_eq_true rfl) ?_
  intro p e s m below meth c A ls hC hA hI hl
  obtain ⟨hx, hb, hr, hlk, hown, hml, hg, hK⟩ := hC
  have hown : s.vm.findClass "GroupBitmapsModel" = some m.cls := hown
  have hl : lv_has ls 6 [(0, .ref (am 0)), (1, .int (nI t))] := hl
  have hτ := hR.ok
  have hσ := hR.sb
  have hgr := hR.gr
  have hc1 := hσ.1
  have hc2 := hσ.2.1
  refine lv_iload_n hx hb d_MD_descriptor_0 rfl (lv_at hl 1 rfl) ?_
  refine lv_bipush (v := nI 32) hx hb d_MD_descriptor_1 (by decide) ?_
  refine r_idiv (a := t) (b := 32) hx hb (by omega) (by omega) (by omega) d_MD_descriptor_3 ?_
  refine lv_istore_n (lv' := [(2, .int (nI (t / 32))), (0, .ref (am 0)), (1, .int (nI t))]) hx hb d_MD_descriptor_4 rfl hl (by decide) rfl (fun ls hl => ?_)
  refine lv_iload_n hx hb d_MD_descriptor_5 rfl (lv_at hl 0 rfl) ?_
  refine lv_aload_n hx hb d_MD_descriptor_6 rfl (lv_at hl 1 rfl) ?_
  refine g_get (own := "GroupBitmapsModel") (C := R_MD) (T := F_MD) (N := 11) (ci := 3) (v := .int (nI (mGr τ))) hx hb hg ku_MD hown hK hI (0) (wm_0) rfl 1 (by decide) kw_471 rfl d_MD_descriptor_7 ?_
  rw [show mGr τ = sCnt σ from hgr]
  refine r_lt (a := t / 32) (b := sCnt σ) (tgt := 15) hx hb d_MD_descriptor_10 (by decide) (by omega) (by omega) (fun h => ?_) (fun h => ?_)
  · have hg4 : t / 32 < 4 := by omega
    have hhd := gHd_le (t / 32)
    have hfa := (hσ.2.2.2.1 (2 * (t / 32)) (by omega)).2
    have hfb := (hσ.2.2.2.1 (2 * (t / 32) + 1) (by omega)).2
    have hfd := hσ.2.2.2.2 _ hg4
    refine lv_iload_n hx hb d_MD_descriptor_15 rfl (lv_at hl 2 rfl) ?_
    refine lv_bipush (v := nI 32) hx hb d_MD_descriptor_16 (by decide) ?_
    refine r_irem (a := t) (b := 32) hx hb (by omega) (by omega) (by omega) d_MD_descriptor_18 ?_
    refine lv_istore_n (lv' := [(3, .int (nI (t % 32))), (2, .int (nI (t / 32))), (0, .ref (am 0)), (1, .int (nI t))]) hx hb d_MD_descriptor_19 rfl hl (by decide) rfl (fun ls hl => ?_)
    refine lv_iconst (v := nI 0) hx hb d_MD_descriptor_20 (by decide) ?_
    refine lv_istore (lv' := [(4, .int (nI 0)), (3, .int (nI (t % 32))), (2, .int (nI (t / 32))), (0, .ref (am 0)), (1, .int (nI t))]) hx hb d_MD_descriptor_21 hl (by decide) rfl (fun ls hl => ?_)
    refine lv_iload_n hx hb d_MD_descriptor_23 rfl (lv_at hl 1 rfl) ?_
    refine lv_bipush (v := nI 12) hx hb d_MD_descriptor_24 (by decide) ?_
    refine r_ge (a := t % 32) (b := 12) (tgt := 35) hx hb d_MD_descriptor_26 (by decide) (by omega) (by omega) (fun h2 => ?_) (fun h2 => ?_)
    · refine lv_iload_n hx hb d_MD_descriptor_35 rfl (lv_at hl 1 rfl) ?_
      refine lv_iconst (v := nI 2) hx hb d_MD_descriptor_36 (by decide) ?_
      refine r_irem (a := t % 32) (b := 2) hx hb (by omega) (by omega) (by omega) d_MD_descriptor_37 ?_
      refine lv_istore (lv' := [(5, .int (nI ((t % 32) % 2))), (4, .int (nI 0)), (3, .int (nI (t % 32))), (2, .int (nI (t / 32))), (0, .ref (am 0)), (1, .int (nI t))]) hx hb d_MD_descriptor_38 hl (by decide) rfl (fun ls hl => ?_)
      refine lv_iload_n hx hb d_MD_descriptor_40 rfl (lv_at hl 2 rfl) ?_
      refine lv_bipush (v := nI 12) hx hb d_MD_descriptor_41 (by decide) ?_
      refine r_ge (a := t % 32) (b := 12) (tgt := 84) hx hb d_MD_descriptor_43 (by decide) (by omega) (by omega) (fun h3 => ?_) (fun h3 => ?_)
      · refine lv_iload_n hx hb d_MD_descriptor_84 rfl (lv_at hl 2 rfl) ?_
        refine lv_bipush (v := nI 18) hx hb d_MD_descriptor_85 (by decide) ?_
        refine r_ge (a := t % 32) (b := 18) (tgt := 126) hx hb d_MD_descriptor_87 (by decide) (by omega) (by omega) (fun h4 => ?_) (fun h4 => ?_)
        · refine lv_iload hx hb d_MD_descriptor_126 (lv_at hl 1 rfl) ?_
          refine lv_bipush (v := nI 8) hx hb d_MD_descriptor_128 (by decide) ?_
          refine lv_iload hx hb d_MD_descriptor_130 (lv_at hl 0 rfl) ?_
          refine r_imul (a := 8) (b := (t % 32) % 2) hx hb d_MD_descriptor_132 ?_
          refine lv_ishr hx hb d_MD_descriptor_133 ?_
          refine lv_sipush (v := nI 255) hx hb d_MD_descriptor_134 (by decide) ?_
          refine lv_iand hx hb d_MD_descriptor_137 ?_
          rw [byN_eq (x := 0) (k := t % 32 % 2) (by omega) (by omega)]
          exact g_ri hx hb hr hlk hI (by rw [sTb, if_pos h, gTb, if_neg (by omega), if_neg (by omega), if_neg (by omega), if_neg (by omega), if_neg (by omega), if_neg (by omega)]; simp [byN]) d_MD_descriptor_138
        · refine lv_iload_n hx hb d_MD_descriptor_90 rfl (lv_at hl 2 rfl) ?_
          refine lv_bipush (v := nI 14) hx hb d_MD_descriptor_91 (by decide) ?_
          refine r_ge (a := t % 32) (b := 14) (tgt := 104) hx hb d_MD_descriptor_93 (by decide) (by omega) (by omega) (fun h5 => ?_) (fun h5 => ?_)
          · refine lv_iload_n hx hb d_MD_descriptor_104 rfl (lv_at hl 2 rfl) ?_
            refine lv_bipush (v := nI 16) hx hb d_MD_descriptor_105 (by decide) ?_
            refine r_ge (a := t % 32) (b := 16) (tgt := 118) hx hb d_MD_descriptor_107 (by decide) (by omega) (by omega) (fun h6 => ?_) (fun h6 => ?_)
            · refine lv_aload_n hx hb d_MD_descriptor_118 rfl (lv_at hl 4 rfl) ?_
              refine g_get (own := "GroupBitmapsModel") (C := R_MD) (T := F_MD) (N := 11) (ci := 3) (v := .ref (am 4)) hx hb hg ku_MD hown hK hI (0) (wm_0) rfl 5 (by decide) kw_475 rfl d_MD_descriptor_119 ?_
              refine lv_iload_n hx hb d_MD_descriptor_122 rfl (lv_at hl 3 rfl) ?_
              refine g_iald (F := (mFd τ)) (i := t / 32) hx hb hK hI (4) 2 (wm_Fd) rfl (hg4) (by omega) d_MD_descriptor_123 ?_
              rw [show (mFd τ) (t / 32) = sFd σ (t / 32) from hR.fd hg4]
              refine lv_istore (lv' := [(4, .int (nI (sFd σ (t / 32)))), (5, .int (nI ((t % 32) % 2))), (3, .int (nI (t % 32))), (2, .int (nI (t / 32))), (0, .ref (am 0)), (1, .int (nI t))]) hx hb d_MD_descriptor_124 hl (by decide) rfl (fun ls hl => ?_)
              refine lv_iload hx hb d_MD_descriptor_126 (lv_at hl 0 rfl) ?_
              refine lv_bipush (v := nI 8) hx hb d_MD_descriptor_128 (by decide) ?_
              refine lv_iload hx hb d_MD_descriptor_130 (lv_at hl 1 rfl) ?_
              refine r_imul (a := 8) (b := (t % 32) % 2) hx hb d_MD_descriptor_132 ?_
              refine lv_ishr hx hb d_MD_descriptor_133 ?_
              refine lv_sipush (v := nI 255) hx hb d_MD_descriptor_134 (by decide) ?_
              refine lv_iand hx hb d_MD_descriptor_137 ?_
              rw [byN_eq (x := sFd σ (t / 32)) (k := t % 32 % 2) (by omega) (by omega)]
              exact g_ri hx hb hr hlk hI (by rw [sTb, if_pos h, gTb, if_neg (by omega), if_neg (by omega), if_neg (by omega), if_neg (by omega), if_neg (by omega), if_pos (by omega), show t % 32 % 2 = t % 32 - 16 by omega]) d_MD_descriptor_138
            · refine lv_aload_n hx hb d_MD_descriptor_110 rfl (lv_at hl 4 rfl) ?_
              refine lv_iload_n hx hb d_MD_descriptor_111 rfl (lv_at hl 3 rfl) ?_
              refine g_callV (own := "GroupBitmapsModel") (C := "GroupBitmapsModel") (T := F_MD) (N := 11) (k := 1) (q0 := 0) (ci := 3) (a := am 0) (As := [.int (nI (t / 32))]) (rest := []) (k_ff σ τ hR (t / 32) hg4) hx hb hml hown hg hK hI hA kw_565 kw_567 kp_30 kw_4 kw_568 ky_MD_freeFiles ⟨Nat.le_of_ble_eq_true rfl, Nat.le_of_ble_eq_true rfl⟩ rfl rfl (wm_0) rfl rfl hl.1 (Nat.le_of_ble_eq_true rfl) ⟨Nat.zero_le _, Nat.zero_le _⟩ d_MD_descriptor_112 rfl rfl (fun H locs hI => ?_)
              refine lv_goto (tgt := 124) hx hb d_MD_descriptor_115 (by decide) ?_
              refine lv_istore (lv' := [(4, .int (nI (sFr σ (2 * (t / 32) + 1)))), (5, .int (nI ((t % 32) % 2))), (3, .int (nI (t % 32))), (2, .int (nI (t / 32))), (0, .ref (am 0)), (1, .int (nI t))]) hx hb d_MD_descriptor_124 hl (by decide) rfl (fun ls hl => ?_)
              refine lv_iload hx hb d_MD_descriptor_126 (lv_at hl 0 rfl) ?_
              refine lv_bipush (v := nI 8) hx hb d_MD_descriptor_128 (by decide) ?_
              refine lv_iload hx hb d_MD_descriptor_130 (lv_at hl 1 rfl) ?_
              refine r_imul (a := 8) (b := (t % 32) % 2) hx hb d_MD_descriptor_132 ?_
              refine lv_ishr hx hb d_MD_descriptor_133 ?_
              refine lv_sipush (v := nI 255) hx hb d_MD_descriptor_134 (by decide) ?_
              refine lv_iand hx hb d_MD_descriptor_137 ?_
              rw [byN_eq (x := sFr σ (2 * (t / 32) + 1)) (k := t % 32 % 2) (by omega) (by omega)]
              exact g_ri hx hb hr hlk hI (by rw [sTb, if_pos h, gTb, if_neg (by omega), if_neg (by omega), if_neg (by omega), if_neg (by omega), if_pos h6, show t % 32 % 2 = t % 32 - 14 by omega]) d_MD_descriptor_138
          · refine lv_aload_n hx hb d_MD_descriptor_96 rfl (lv_at hl 4 rfl) ?_
            refine lv_iload_n hx hb d_MD_descriptor_97 rfl (lv_at hl 3 rfl) ?_
            refine g_callV (own := "GroupBitmapsModel") (C := "GroupBitmapsModel") (T := F_MD) (N := 11) (k := 1) (q0 := 0) (ci := 3) (a := am 0) (As := [.int (nI (t / 32))]) (rest := []) (k_fb σ τ hR (t / 32) hg4) hx hb hml hown hg hK hI hA kw_517 kw_519 kp_23 kw_4 kw_520 ky_MD_freeBlocks ⟨Nat.le_of_ble_eq_true rfl, Nat.le_of_ble_eq_true rfl⟩ rfl rfl (wm_0) rfl rfl hl.1 (Nat.le_of_ble_eq_true rfl) ⟨Nat.zero_le _, Nat.zero_le _⟩ d_MD_descriptor_98 rfl rfl (fun H locs hI => ?_)
            refine lv_goto (tgt := 124) hx hb d_MD_descriptor_101 (by decide) ?_
            refine lv_istore (lv' := [(4, .int (nI (sFr σ (2 * (t / 32))))), (5, .int (nI ((t % 32) % 2))), (3, .int (nI (t % 32))), (2, .int (nI (t / 32))), (0, .ref (am 0)), (1, .int (nI t))]) hx hb d_MD_descriptor_124 hl (by decide) rfl (fun ls hl => ?_)
            refine lv_iload hx hb d_MD_descriptor_126 (lv_at hl 0 rfl) ?_
            refine lv_bipush (v := nI 8) hx hb d_MD_descriptor_128 (by decide) ?_
            refine lv_iload hx hb d_MD_descriptor_130 (lv_at hl 1 rfl) ?_
            refine r_imul (a := 8) (b := (t % 32) % 2) hx hb d_MD_descriptor_132 ?_
            refine lv_ishr hx hb d_MD_descriptor_133 ?_
            refine lv_sipush (v := nI 255) hx hb d_MD_descriptor_134 (by decide) ?_
            refine lv_iand hx hb d_MD_descriptor_137 ?_
            rw [byN_eq (x := sFr σ (2 * (t / 32))) (k := t % 32 % 2) (by omega) (by omega)]
            exact g_ri hx hb hr hlk hI (by rw [sTb, if_pos h, gTb, if_neg (by omega), if_neg (by omega), if_neg (by omega), if_pos h5, show t % 32 % 2 = t % 32 - 12 by omega]) d_MD_descriptor_138
      · exact absurd h3 (by omega)
    · refine lv_iload_n hx hb d_MD_descriptor_29 rfl (lv_at hl 1 rfl) ?_
      refine lv_iconst (v := nI 4) hx hb d_MD_descriptor_30 (by decide) ?_
      refine r_irem (a := t % 32) (b := 4) hx hb (by omega) (by omega) (by omega) d_MD_descriptor_31 ?_
      refine lv_goto (tgt := 38) hx hb d_MD_descriptor_32 (by decide) ?_
      refine lv_istore (lv' := [(5, .int (nI ((t % 32) % 4))), (4, .int (nI 0)), (3, .int (nI (t % 32))), (2, .int (nI (t / 32))), (0, .ref (am 0)), (1, .int (nI t))]) hx hb d_MD_descriptor_38 hl (by decide) rfl (fun ls hl => ?_)
      refine lv_iload_n hx hb d_MD_descriptor_40 rfl (lv_at hl 2 rfl) ?_
      refine lv_bipush (v := nI 12) hx hb d_MD_descriptor_41 (by decide) ?_
      refine r_ge (a := t % 32) (b := 12) (tgt := 84) hx hb d_MD_descriptor_43 (by decide) (by omega) (by omega) (fun h3 => ?_) (fun h3 => ?_)
      · exact absurd h3 (by omega)
      · refine lv_iload_n hx hb d_MD_descriptor_46 rfl (lv_at hl 2 rfl) ?_
        refine lv_iconst (v := nI 4) hx hb d_MD_descriptor_47 (by decide) ?_
        refine r_ge (a := t % 32) (b := 4) (tgt := 58) hx hb d_MD_descriptor_48 (by decide) (by omega) (by omega) (fun h4 => ?_) (fun h4 => ?_)
        · refine lv_iload_n hx hb d_MD_descriptor_58 rfl (lv_at hl 2 rfl) ?_
          refine lv_bipush (v := nI 8) hx hb d_MD_descriptor_59 (by decide) ?_
          refine r_ge (a := t % 32) (b := 8) (tgt := 73) hx hb d_MD_descriptor_61 (by decide) (by omega) (by omega) (fun h5 => ?_) (fun h5 => ?_)
          · refine lv_iload_n hx hb d_MD_descriptor_73 rfl (lv_at hl 3 rfl) ?_
            refine g_callS (own := "GroupBitmapsModel") (k := 1) (As := [.int (nI (t / 32))]) (rest := []) (c_MD_bitmap τ (t / 32) (by omega)) hx hb hml hown hg hK hI hA kw_461 kw_462 kw_4 kw_463 ky_MD_bitmap ⟨Nat.le_of_ble_eq_true rfl, Nat.le_of_ble_eq_true rfl⟩ rfl rfl rfl hl.1 (Nat.le_of_ble_eq_true rfl) ⟨Nat.zero_le _, Nat.zero_le _⟩ d_MD_descriptor_74 rfl rfl (fun H locs hI => ?_)
            refine lv_iconst (v := nI 2) hx hb d_MD_descriptor_77 (by decide) ?_
            refine r_iadd (a := 256 * (t / 32) + gHd (t / 32)) (b := 2) hx hb d_MD_descriptor_78 ?_
            refine lv_istore (lv' := [(4, .int (nI ((256 * (t / 32) + gHd (t / 32)) + 2))), (5, .int (nI ((t % 32) % 4))), (3, .int (nI (t % 32))), (2, .int (nI (t / 32))), (0, .ref (am 0)), (1, .int (nI t))]) hx hb d_MD_descriptor_79 hl (by decide) rfl (fun ls hl => ?_)
            refine lv_goto (tgt := 126) hx hb d_MD_descriptor_81 (by decide) ?_
            refine lv_iload hx hb d_MD_descriptor_126 (lv_at hl 0 rfl) ?_
            refine lv_bipush (v := nI 8) hx hb d_MD_descriptor_128 (by decide) ?_
            refine lv_iload hx hb d_MD_descriptor_130 (lv_at hl 1 rfl) ?_
            refine r_imul (a := 8) (b := (t % 32) % 4) hx hb d_MD_descriptor_132 ?_
            refine lv_ishr hx hb d_MD_descriptor_133 ?_
            refine lv_sipush (v := nI 255) hx hb d_MD_descriptor_134 (by decide) ?_
            refine lv_iand hx hb d_MD_descriptor_137 ?_
            rw [byN_eq (x := 256 * (t / 32) + gHd (t / 32) + 2) (k := t % 32 % 4) (by omega) (by omega)]
            exact g_ri hx hb hr hlk hI (by rw [sTb, if_pos h, gTb, if_neg (by omega), if_neg (by omega), if_pos (by omega), show t % 32 % 4 = t % 32 - 8 by omega]) d_MD_descriptor_138
          · refine lv_iload_n hx hb d_MD_descriptor_64 rfl (lv_at hl 3 rfl) ?_
            refine g_callS (own := "GroupBitmapsModel") (k := 1) (As := [.int (nI (t / 32))]) (rest := []) (c_MD_bitmap τ (t / 32) (by omega)) hx hb hml hown hg hK hI hA kw_461 kw_462 kw_4 kw_463 ky_MD_bitmap ⟨Nat.le_of_ble_eq_true rfl, Nat.le_of_ble_eq_true rfl⟩ rfl rfl rfl hl.1 (Nat.le_of_ble_eq_true rfl) ⟨Nat.zero_le _, Nat.zero_le _⟩ d_MD_descriptor_65 rfl rfl (fun H locs hI => ?_)
            refine lv_iconst (v := nI 1) hx hb d_MD_descriptor_68 (by decide) ?_
            refine r_iadd (a := 256 * (t / 32) + gHd (t / 32)) (b := 1) hx hb d_MD_descriptor_69 ?_
            refine lv_goto (tgt := 79) hx hb d_MD_descriptor_70 (by decide) ?_
            refine lv_istore (lv' := [(4, .int (nI ((256 * (t / 32) + gHd (t / 32)) + 1))), (5, .int (nI ((t % 32) % 4))), (3, .int (nI (t % 32))), (2, .int (nI (t / 32))), (0, .ref (am 0)), (1, .int (nI t))]) hx hb d_MD_descriptor_79 hl (by decide) rfl (fun ls hl => ?_)
            refine lv_goto (tgt := 126) hx hb d_MD_descriptor_81 (by decide) ?_
            refine lv_iload hx hb d_MD_descriptor_126 (lv_at hl 0 rfl) ?_
            refine lv_bipush (v := nI 8) hx hb d_MD_descriptor_128 (by decide) ?_
            refine lv_iload hx hb d_MD_descriptor_130 (lv_at hl 1 rfl) ?_
            refine r_imul (a := 8) (b := (t % 32) % 4) hx hb d_MD_descriptor_132 ?_
            refine lv_ishr hx hb d_MD_descriptor_133 ?_
            refine lv_sipush (v := nI 255) hx hb d_MD_descriptor_134 (by decide) ?_
            refine lv_iand hx hb d_MD_descriptor_137 ?_
            rw [byN_eq (x := 256 * (t / 32) + gHd (t / 32) + 1) (k := t % 32 % 4) (by omega) (by omega)]
            exact g_ri hx hb hr hlk hI (by rw [sTb, if_pos h, gTb, if_neg (by omega), if_pos h5, gPl_o, show t % 32 % 4 = t % 32 - 4 by omega]) d_MD_descriptor_138
        · refine lv_iload_n hx hb d_MD_descriptor_51 rfl (lv_at hl 3 rfl) ?_
          refine g_callS (own := "GroupBitmapsModel") (k := 1) (As := [.int (nI (t / 32))]) (rest := []) (c_MD_bitmap τ (t / 32) (by omega)) hx hb hml hown hg hK hI hA kw_461 kw_462 kw_4 kw_463 ky_MD_bitmap ⟨Nat.le_of_ble_eq_true rfl, Nat.le_of_ble_eq_true rfl⟩ rfl rfl rfl hl.1 (Nat.le_of_ble_eq_true rfl) ⟨Nat.zero_le _, Nat.zero_le _⟩ d_MD_descriptor_52 rfl rfl (fun H locs hI => ?_)
          refine lv_goto (tgt := 79) hx hb d_MD_descriptor_55 (by decide) ?_
          refine lv_istore (lv' := [(4, .int (nI (256 * (t / 32) + gHd (t / 32)))), (5, .int (nI ((t % 32) % 4))), (3, .int (nI (t % 32))), (2, .int (nI (t / 32))), (0, .ref (am 0)), (1, .int (nI t))]) hx hb d_MD_descriptor_79 hl (by decide) rfl (fun ls hl => ?_)
          refine lv_goto (tgt := 126) hx hb d_MD_descriptor_81 (by decide) ?_
          refine lv_iload hx hb d_MD_descriptor_126 (lv_at hl 0 rfl) ?_
          refine lv_bipush (v := nI 8) hx hb d_MD_descriptor_128 (by decide) ?_
          refine lv_iload hx hb d_MD_descriptor_130 (lv_at hl 1 rfl) ?_
          refine r_imul (a := 8) (b := (t % 32) % 4) hx hb d_MD_descriptor_132 ?_
          refine lv_ishr hx hb d_MD_descriptor_133 ?_
          refine lv_sipush (v := nI 255) hx hb d_MD_descriptor_134 (by decide) ?_
          refine lv_iand hx hb d_MD_descriptor_137 ?_
          rw [byN_eq (x := 256 * (t / 32) + gHd (t / 32)) (k := t % 32 % 4) (by omega) (by omega)]
          exact g_ri hx hb hr hlk hI (by rw [sTb, if_pos h, gTb, if_pos h4, gPl_e, show t % 32 % 4 = t % 32 by omega]) d_MD_descriptor_138
  · refine lv_iconst (v := nI 0) hx hb d_MD_descriptor_13 (by decide) ?_
    exact g_ri hx hb hr hlk hI (by rw [sTb, if_neg (Nat.not_lt.mpr h)]) d_MD_descriptor_14
set_option maxHeartbeats 4000000 in
set_option maxRecDepth 100000 in
theorem c_MD_byteOf {l : Launch} {D : va_G} {cG cZ cI cJ : ClassId} {am : Nat → Nat} (σ : gS) (τ : mS) (hR : RI σ τ) (q i : Nat) (hq : q < 1024) (hi : i < 4096) : gMet l D (gT cG cZ cI cJ) y_MD_byteOf b_MD_byteOf 9 (some .int) ({ frames := 3, cells := 0, slots := 0, locals := 65 }) (wm am cI cZ τ) [.ref (am 0), .int (nI q), .int (nI i)] (wm am cI cZ (vTh τ 0)) (some (.int (nI (sByteOf σ q i)))) := by
  refine gMet_of (by decide) (Nat.le_of_ble_eq_true rfl) ?_
  intro p e s m below meth c A ls hC hA hI hl
  obtain ⟨hx, hb, hr, hlk, hown, hml, hg, hK⟩ := hC
  have hown : s.vm.findClass "GroupBitmapsModel" = some m.cls := hown
  have hl : lv_has ls 9 [(0, .ref (am 0)), (1, .int (nI q)), (2, .int (nI i))] := hl
  have hτ := hR.ok
  have hσ := hR.sb
  have hgr := hR.gr
  have hc1 := hσ.1
  have hc2 := hσ.2.1
  have hg4 : q / 256 < 4 := by omega
  have hhd := gHd_le (q / 256)
  have hszg := hR.szle hg4
  refine lv_aload_n hx hb d_MD_byteOf_0 rfl (lv_at hl 0 rfl) ?_
  refine lv_iload_n hx hb d_MD_byteOf_1 rfl (lv_at hl 1 rfl) ?_
  refine r_zlt (a := q) (tgt := 23) hx hb d_MD_byteOf_2 (by decide) (by omega) ?_
  refine lv_iload_n hx hb d_MD_byteOf_5 rfl (lv_at hl 1 rfl) ?_
  refine lv_sipush (v := nI 1023) hx hb d_MD_byteOf_6 (by decide) ?_
  refine r_gt (a := q) (b := 1023) (tgt := 23) hx hb d_MD_byteOf_9 (by decide) (by omega) (by omega) (fun h9 => ?_) (fun h9 => ?_)
  · exact absurd h9 (by omega)
  · refine lv_iload_n hx hb d_MD_byteOf_12 rfl (lv_at hl 2 rfl) ?_
    refine r_zlt (a := i) (tgt := 23) hx hb d_MD_byteOf_13 (by decide) (by omega) ?_
    refine lv_iload_n hx hb d_MD_byteOf_16 rfl (lv_at hl 2 rfl) ?_
    refine lv_sipush (v := nI 4095) hx hb d_MD_byteOf_17 (by decide) ?_
    refine r_le (a := i) (b := 4095) (tgt := 27) hx hb d_MD_byteOf_20 (by decide) (by omega) (by omega) (fun h9 => ?_) (fun h9 => ?_)
    · refine lv_iconst (v := nI 0) hx hb d_MD_byteOf_27 (by decide) ?_
      refine g_put (ws' := (wm am cI cZ (vTh τ 0))) (own := "GroupBitmapsModel") (C := R_MD) (T := F_MD) (N := 11) (ci := 3) (v := .int (nI 0)) hx hb hg ku_MD t_MD t_MD_ok n_MD hown hK hI (0) (wm_0) rfl 0 (by decide) kw_470 rfl rfl (rfl) (rfl) (Nat.le_of_ble_eq_true rfl) (wm_vTh) d_MD_byteOf_28 (fun H locs hI => ?_)
      refine lv_aload_n hx hb d_MD_byteOf_31 rfl (lv_at hl 0 rfl) ?_
      refine g_get (own := "GroupBitmapsModel") (C := R_MD) (T := F_MD) (N := 11) (ci := 3) (v := .int (nI 0)) hx hb hg ku_MD hown hK hI (0) (wm_0) rfl 0 (by decide) kw_470 rfl d_MD_byteOf_32 ?_
      refine r_zle (a := 0) (tgt := 40) hx hb d_MD_byteOf_35 (by decide) (by omega) (fun h9 => ?_) (fun h9 => ?_)
      · refine lv_iload_n hx hb d_MD_byteOf_40 rfl (lv_at hl 1 rfl) ?_
        refine lv_iconst (v := nI 1) hx hb d_MD_byteOf_41 (by decide) ?_
        refine r_ne (a := q) (b := 1) (tgt := 51) hx hb d_MD_byteOf_42 (by decide) (by omega) (by omega) (fun h => ?_) (fun h => ?_)
        · refine lv_iload_n hx hb d_MD_byteOf_51 rfl (lv_at hl 1 rfl) ?_
          refine lv_sipush (v := nI 256) hx hb d_MD_byteOf_52 (by decide) ?_
          refine r_idiv (a := q) (b := 256) hx hb (by omega) (by omega) (by omega) d_MD_byteOf_55 ?_
          refine lv_istore_n (lv' := [(3, .int (nI (q / 256))), (0, .ref (am 0)), (1, .int (nI q)), (2, .int (nI i))]) hx hb d_MD_byteOf_56 rfl hl (by decide) rfl (fun ls hl => ?_)
          refine lv_iload_n hx hb d_MD_byteOf_57 rfl (lv_at hl 2 rfl) ?_
          refine lv_iload_n hx hb d_MD_byteOf_58 rfl (lv_at hl 0 rfl) ?_
          refine g_callS (own := "GroupBitmapsModel") (k := 1) (As := [.int (nI (q / 256))]) (rest := [.int (nI q)]) (c_MD_bitmap (vTh τ 0) (q / 256) (by omega)) hx hb hml hown hg hK hI hA kw_461 kw_462 kw_4 kw_463 ky_MD_bitmap ⟨Nat.le_of_ble_eq_true rfl, Nat.le_of_ble_eq_true rfl⟩ rfl rfl rfl hl.1 (Nat.le_of_ble_eq_true rfl) ⟨Nat.zero_le _, Nat.zero_le _⟩ d_MD_byteOf_59 rfl rfl (fun H locs hI => ?_)
          refine r_ne (a := q) (b := 256 * (q / 256) + gHd (q / 256)) (tgt := 69) hx hb d_MD_byteOf_62 (by decide) (by omega) (by omega) (fun h2 => ?_) (fun h2 => ?_)
          · refine lv_iconst (v := bI false) hx hb d_MD_byteOf_69 (by decide) ?_
            refine lv_istore (lv' := [(4, .int (bI false)), (3, .int (nI (q / 256))), (0, .ref (am 0)), (1, .int (nI q)), (2, .int (nI i))]) hx hb d_MD_byteOf_70 hl (by decide) rfl (fun ls hl => ?_)
            refine lv_iload hx hb d_MD_byteOf_72 (lv_at hl 0 rfl) ?_
            refine r_bnz (b := false) (tgt := 89) hx hb d_MD_byteOf_74 (by decide) (fun h9 => ?_) (fun h9 => ?_)
            · exact absurd h9 (by decide)
            · refine lv_iload_n hx hb d_MD_byteOf_77 rfl (lv_at hl 3 rfl) ?_
              refine lv_iload_n hx hb d_MD_byteOf_78 rfl (lv_at hl 1 rfl) ?_
              refine g_callS (own := "GroupBitmapsModel") (k := 1) (As := [.int (nI (q / 256))]) (rest := [.int (nI q)]) (c_MD_bitmap (vTh τ 0) (q / 256) (by omega)) hx hb hml hown hg hK hI hA kw_461 kw_462 kw_4 kw_463 ky_MD_bitmap ⟨Nat.le_of_ble_eq_true rfl, Nat.le_of_ble_eq_true rfl⟩ rfl rfl rfl hl.1 (Nat.le_of_ble_eq_true rfl) ⟨Nat.zero_le _, Nat.zero_le _⟩ d_MD_byteOf_79 rfl rfl (fun H locs hI => ?_)
              refine lv_iconst (v := nI 1) hx hb d_MD_byteOf_82 (by decide) ?_
              refine r_iadd (a := 256 * (q / 256) + gHd (q / 256)) (b := 1) hx hb d_MD_byteOf_83 ?_
              refine r_eq (a := q) (b := (256 * (q / 256) + gHd (q / 256)) + 1) (tgt := 89) hx hb d_MD_byteOf_84 (by decide) (by omega) (by omega) (fun h3 => ?_) (fun h3 => ?_)
              · refine lv_iconst (v := nI 0) hx hb d_MD_byteOf_89 (by decide) ?_
                refine lv_istore (lv' := [(5, .int (nI 0)), (4, .int (bI false)), (3, .int (nI (q / 256))), (0, .ref (am 0)), (1, .int (nI q)), (2, .int (nI i))]) hx hb d_MD_byteOf_90 hl (by decide) rfl (fun ls hl => ?_)
                refine lv_iconst (v := nI 0) hx hb d_MD_byteOf_92 (by decide) ?_
                refine lv_istore (lv' := [(6, .int (nI 0)), (5, .int (nI 0)), (4, .int (bI false)), (3, .int (nI (q / 256))), (0, .ref (am 0)), (1, .int (nI q)), (2, .int (nI i))]) hx hb d_MD_byteOf_93 hl (by decide) rfl (fun ls hl => ?_)
                have loop : ∀ (fuel : Nat) (k : Nat), 9 ≤ fuel + k → (k ≤ 8) → ∀ (H : Heap) (locs : List Loc) (ls : Array Slot), gI D A s.heap (wm am cI cZ (vTh τ 0)) H locs → lv_has ls 9 [(0, .ref (am 0)), (1, .int (nI q)), (2, .int (nI i)), (3, .int (nI (q / 256))), (4, .int (bI false)), (5, .int (nI (sBy σ (2 * (q / 256) + 1) i k))), (6, .int (nI k))] → W p l e ({ frames := 3, cells := 0, slots := 0, locals := 65 }) s m ([.ref (am 0), .int (nI q), .int (nI i)] : List Value).toArray below meth c H locs 0 0 (gQ D below ([.ref (am 0), .int (nI q), .int (nI i)] : List Value).toArray s A (wm am cI cZ (vTh τ 0)) (some (.int (nI (sByteOf σ q i))))) (F0 m 95 ls []) := by
                  intro fuel
                  induction fuel with
                  | zero => intro k hfu hk; exact absurd hfu (by omega)
                  | succ fuel ih =>
                    intro k hfu hk H locs ls hI hl
                    have hby := sBy8_lt (σ := σ) (j := 2 * (q / 256) + 1) (i := i) hk
                    refine lv_iload hx hb d_MD_byteOf_95 (lv_at hl 6 rfl) ?_
                    refine lv_bipush (v := nI 8) hx hb d_MD_byteOf_97 (by decide) ?_
                    refine r_ge (a := k) (b := 8) (tgt := 207) hx hb d_MD_byteOf_99 (by decide) (by omega) (by omega) (fun h5 => ?_) (fun h5 => ?_)
                    · obtain rfl : k = 8 := by omega
                      refine lv_iload hx hb d_MD_byteOf_207 (lv_at hl 5 rfl) ?_
                      exact g_ri hx hb hr hlk hI (by rw [sByteOf, if_neg h, if_neg (by rw [gPl_e]; exact h2), if_pos (by rw [gPl_o]; exact h3)]) d_MD_byteOf_209
                    · have hp2 := p2_8 k (by omega)
                      refine lv_bipush (v := nI 8) hx hb d_MD_byteOf_102 (by decide) ?_
                      refine lv_iload_n hx hb d_MD_byteOf_104 rfl (lv_at hl 2 rfl) ?_
                      refine r_imul (a := 8) (b := i) hx hb d_MD_byteOf_105 ?_
                      refine lv_iload hx hb d_MD_byteOf_106 (lv_at hl 6 rfl) ?_
                      refine r_iadd (a := 8 * i) (b := k) hx hb d_MD_byteOf_108 ?_
                      refine lv_istore (lv' := [(7, .int (nI ((8 * i) + k))), (0, .ref (am 0)), (1, .int (nI q)), (2, .int (nI i)), (3, .int (nI (q / 256))), (4, .int (bI false)), (5, .int (nI (sBy σ (2 * (q / 256) + 1) i k))), (6, .int (nI k))]) hx hb d_MD_byteOf_109 hl (by decide) rfl (fun ls hl => ?_)
                      refine lv_iload hx hb d_MD_byteOf_111 (lv_at hl 5 rfl) ?_
                      refine r_bz (b := false) (tgt := 151) hx hb d_MD_byteOf_113 (by decide) (fun h6 => ?_) (fun h6 => ?_)
                      · refine lv_iload hx hb d_MD_byteOf_151 (lv_at hl 0 rfl) ?_
                        refine lv_sipush (v := nI 128) hx hb d_MD_byteOf_153 (by decide) ?_
                        refine r_ge (a := (8 * i) + k) (b := 128) (tgt := 175) hx hb d_MD_byteOf_156 (by decide) (by omega) (by omega) (fun h7 => ?_) (fun h7 => ?_)
                        · have hset : sSet σ (2 * (q / 256) + 1) (8 * i + k) = true := RI.sfg h7
                          refine lv_iconst (v := bI true) hx hb d_MD_byteOf_175 (by decide) ?_
                          refine lv_goto (tgt := 180) hx hb d_MD_byteOf_176 (by decide) ?_
                          refine lv_istore (lv' := [(8, .int (bI true)), (7, .int (nI ((8 * i) + k))), (0, .ref (am 0)), (1, .int (nI q)), (2, .int (nI i)), (3, .int (nI (q / 256))), (4, .int (bI false)), (5, .int (nI (sBy σ (2 * (q / 256) + 1) i k))), (6, .int (nI k))]) hx hb d_MD_byteOf_180 hl (by decide) rfl (fun ls hl => ?_)
                          refine lv_iload hx hb d_MD_byteOf_182 (lv_at hl 0 rfl) ?_
                          refine r_bz (b := true) (tgt := 197) hx hb d_MD_byteOf_184 (by decide) (fun h9 => ?_) (fun h9 => ?_)
                          · exact absurd h9 (by decide)
                          · refine lv_iload hx hb d_MD_byteOf_187 (lv_at hl 7 rfl) ?_
                            refine lv_iconst (v := nI 1) hx hb d_MD_byteOf_189 (by decide) ?_
                            refine lv_iload hx hb d_MD_byteOf_190 (lv_at hl 8 rfl) ?_
                            refine lv_ishl hx hb d_MD_byteOf_192 ?_
                            rw [shl1 k (by omega)]
                            refine r_iadd (a := sBy σ (2 * (q / 256) + 1) i k) (b := 2 ^ k) hx hb d_MD_byteOf_193 ?_
                            refine lv_goto (tgt := 199) hx hb d_MD_byteOf_194 (by decide) ?_
                            refine lv_istore (lv' := [(5, .int (nI ((sBy σ (2 * (q / 256) + 1) i k) + (2 ^ k)))), (8, .int (bI true)), (7, .int (nI ((8 * i) + k))), (0, .ref (am 0)), (1, .int (nI q)), (2, .int (nI i)), (3, .int (nI (q / 256))), (4, .int (bI false)), (6, .int (nI k))]) hx hb d_MD_byteOf_199 hl (by decide) rfl (fun ls hl => ?_)
                            refine lv_iinc (v := nI (k + 1)) (lv' := [(6, .int (nI (k + 1))), (5, .int (nI ((sBy σ (2 * (q / 256) + 1) i k) + (2 ^ k)))), (8, .int (bI true)), (7, .int (nI ((8 * i) + k))), (0, .ref (am 0)), (1, .int (nI q)), (2, .int (nI i)), (3, .int (nI (q / 256))), (4, .int (bI false))]) hx hb d_MD_byteOf_201 hl (k := 8) rfl (nI_1 _) (by decide) rfl (fun ls hl => ?_)
                            refine lv_goto (tgt := 95) hx hb d_MD_byteOf_204 (by decide) ?_
                            exact ih (k + 1) (by omega) (by omega) _ _ _ hI (by rw [sBy_t hset]; exact lv_sub hl [4, 5, 6, 7, 8, 1, 0] rfl)
                        · refine lv_aload_n hx hb d_MD_byteOf_159 rfl (lv_at hl 1 rfl) ?_
                          refine g_get (own := "GroupBitmapsModel") (C := R_MD) (T := F_MD) (N := 11) (ci := 3) (v := .ref (am 3)) hx hb hg ku_MD hown hK hI (0) (wm_0) rfl 4 (by decide) kw_474 rfl d_MD_byteOf_160 ?_
                          refine lv_sipush (v := nI 128) hx hb d_MD_byteOf_163 (by decide) ?_
                          refine lv_iload_n hx hb d_MD_byteOf_166 rfl (lv_at hl 4 rfl) ?_
                          refine r_imul (a := 128) (b := q / 256) hx hb d_MD_byteOf_167 ?_
                          refine lv_iload hx hb d_MD_byteOf_168 (lv_at hl 0 rfl) ?_
                          refine r_iadd (a := 128 * (q / 256)) (b := (8 * i) + k) hx hb d_MD_byteOf_170 ?_
                          refine g_zald (B := (mFl (vTh τ 0))) (i := (128 * (q / 256)) + ((8 * i) + k)) hx hb hK hI (3) 1 (wm_Fl) rfl (by omega) (by omega) d_MD_byteOf_171 ?_
                          refine r_bz (b := (mFl (vTh τ 0)) ((128 * (q / 256)) + ((8 * i) + k))) (tgt := 179) hx hb d_MD_byteOf_172 (by decide) (fun h8 => ?_) (fun h8 => ?_)
                          · have hset : sSet σ (2 * (q / 256) + 1) (8 * i + k) = false := (hR.sf hg4 h7).trans h8
                            refine lv_iconst (v := bI false) hx hb d_MD_byteOf_179 (by decide) ?_
                            refine lv_istore (lv' := [(8, .int (bI false)), (7, .int (nI ((8 * i) + k))), (0, .ref (am 0)), (1, .int (nI q)), (2, .int (nI i)), (3, .int (nI (q / 256))), (4, .int (bI false)), (5, .int (nI (sBy σ (2 * (q / 256) + 1) i k))), (6, .int (nI k))]) hx hb d_MD_byteOf_180 hl (by decide) rfl (fun ls hl => ?_)
                            refine lv_iload hx hb d_MD_byteOf_182 (lv_at hl 0 rfl) ?_
                            refine r_bz (b := false) (tgt := 197) hx hb d_MD_byteOf_184 (by decide) (fun h9 => ?_) (fun h9 => ?_)
                            · refine lv_iload hx hb d_MD_byteOf_197 (lv_at hl 7 rfl) ?_
                              refine lv_istore (lv' := [(5, .int (nI (sBy σ (2 * (q / 256) + 1) i k))), (8, .int (bI false)), (7, .int (nI ((8 * i) + k))), (0, .ref (am 0)), (1, .int (nI q)), (2, .int (nI i)), (3, .int (nI (q / 256))), (4, .int (bI false)), (6, .int (nI k))]) hx hb d_MD_byteOf_199 hl (by decide) rfl (fun ls hl => ?_)
                              refine lv_iinc (v := nI (k + 1)) (lv' := [(6, .int (nI (k + 1))), (5, .int (nI (sBy σ (2 * (q / 256) + 1) i k))), (8, .int (bI false)), (7, .int (nI ((8 * i) + k))), (0, .ref (am 0)), (1, .int (nI q)), (2, .int (nI i)), (3, .int (nI (q / 256))), (4, .int (bI false))]) hx hb d_MD_byteOf_201 hl (k := 8) rfl (nI_1 _) (by decide) rfl (fun ls hl => ?_)
                              refine lv_goto (tgt := 95) hx hb d_MD_byteOf_204 (by decide) ?_
                              exact ih (k + 1) (by omega) (by omega) _ _ _ hI (by rw [sBy_f hset]; exact lv_sub hl [4, 5, 6, 7, 8, 1, 0] rfl)
                            · exact absurd h9 (by decide)
                          · have hset : sSet σ (2 * (q / 256) + 1) (8 * i + k) = true := (hR.sf hg4 h7).trans h8
                            refine lv_iconst (v := bI true) hx hb d_MD_byteOf_175 (by decide) ?_
                            refine lv_goto (tgt := 180) hx hb d_MD_byteOf_176 (by decide) ?_
                            refine lv_istore (lv' := [(8, .int (bI true)), (7, .int (nI ((8 * i) + k))), (0, .ref (am 0)), (1, .int (nI q)), (2, .int (nI i)), (3, .int (nI (q / 256))), (4, .int (bI false)), (5, .int (nI (sBy σ (2 * (q / 256) + 1) i k))), (6, .int (nI k))]) hx hb d_MD_byteOf_180 hl (by decide) rfl (fun ls hl => ?_)
                            refine lv_iload hx hb d_MD_byteOf_182 (lv_at hl 0 rfl) ?_
                            refine r_bz (b := true) (tgt := 197) hx hb d_MD_byteOf_184 (by decide) (fun h9 => ?_) (fun h9 => ?_)
                            · exact absurd h9 (by decide)
                            · refine lv_iload hx hb d_MD_byteOf_187 (lv_at hl 7 rfl) ?_
                              refine lv_iconst (v := nI 1) hx hb d_MD_byteOf_189 (by decide) ?_
                              refine lv_iload hx hb d_MD_byteOf_190 (lv_at hl 8 rfl) ?_
                              refine lv_ishl hx hb d_MD_byteOf_192 ?_
                              rw [shl1 k (by omega)]
                              refine r_iadd (a := sBy σ (2 * (q / 256) + 1) i k) (b := 2 ^ k) hx hb d_MD_byteOf_193 ?_
                              refine lv_goto (tgt := 199) hx hb d_MD_byteOf_194 (by decide) ?_
                              refine lv_istore (lv' := [(5, .int (nI ((sBy σ (2 * (q / 256) + 1) i k) + (2 ^ k)))), (8, .int (bI true)), (7, .int (nI ((8 * i) + k))), (0, .ref (am 0)), (1, .int (nI q)), (2, .int (nI i)), (3, .int (nI (q / 256))), (4, .int (bI false)), (6, .int (nI k))]) hx hb d_MD_byteOf_199 hl (by decide) rfl (fun ls hl => ?_)
                              refine lv_iinc (v := nI (k + 1)) (lv' := [(6, .int (nI (k + 1))), (5, .int (nI ((sBy σ (2 * (q / 256) + 1) i k) + (2 ^ k)))), (8, .int (bI true)), (7, .int (nI ((8 * i) + k))), (0, .ref (am 0)), (1, .int (nI q)), (2, .int (nI i)), (3, .int (nI (q / 256))), (4, .int (bI false))]) hx hb d_MD_byteOf_201 hl (k := 8) rfl (nI_1 _) (by decide) rfl (fun ls hl => ?_)
                              refine lv_goto (tgt := 95) hx hb d_MD_byteOf_204 (by decide) ?_
                              exact ih (k + 1) (by omega) (by omega) _ _ _ hI (by rw [sBy_t hset]; exact lv_sub hl [4, 5, 6, 7, 8, 1, 0] rfl)
                      · exact absurd h6 (by decide)
                exact loop 9 0 (by omega) (by omega) _ _ _ hI (lv_sub hl [4, 5, 6, 3, 2, 1, 0] rfl)
              · refine lv_iconst (v := nI 0) hx hb d_MD_byteOf_87 (by decide) ?_
                exact g_ri hx hb hr hlk hI (by rw [sByteOf, if_neg h, if_neg (by rw [gPl_e]; exact h2), if_neg (by rw [gPl_o]; exact h3)]) d_MD_byteOf_88
          · refine lv_iconst (v := bI true) hx hb d_MD_byteOf_65 (by decide) ?_
            refine lv_goto (tgt := 70) hx hb d_MD_byteOf_66 (by decide) ?_
            refine lv_istore (lv' := [(4, .int (bI true)), (3, .int (nI (q / 256))), (0, .ref (am 0)), (1, .int (nI q)), (2, .int (nI i))]) hx hb d_MD_byteOf_70 hl (by decide) rfl (fun ls hl => ?_)
            refine lv_iload hx hb d_MD_byteOf_72 (lv_at hl 0 rfl) ?_
            refine r_bnz (b := true) (tgt := 89) hx hb d_MD_byteOf_74 (by decide) (fun h9 => ?_) (fun h9 => ?_)
            · refine lv_iconst (v := nI 0) hx hb d_MD_byteOf_89 (by decide) ?_
              refine lv_istore (lv' := [(5, .int (nI 0)), (4, .int (bI true)), (3, .int (nI (q / 256))), (0, .ref (am 0)), (1, .int (nI q)), (2, .int (nI i))]) hx hb d_MD_byteOf_90 hl (by decide) rfl (fun ls hl => ?_)
              refine lv_iconst (v := nI 0) hx hb d_MD_byteOf_92 (by decide) ?_
              refine lv_istore (lv' := [(6, .int (nI 0)), (5, .int (nI 0)), (4, .int (bI true)), (3, .int (nI (q / 256))), (0, .ref (am 0)), (1, .int (nI q)), (2, .int (nI i))]) hx hb d_MD_byteOf_93 hl (by decide) rfl (fun ls hl => ?_)
              have loop : ∀ (fuel : Nat) (k : Nat), 9 ≤ fuel + k → (k ≤ 8) → ∀ (H : Heap) (locs : List Loc) (ls : Array Slot), gI D A s.heap (wm am cI cZ (vTh τ 0)) H locs → lv_has ls 9 [(0, .ref (am 0)), (1, .int (nI q)), (2, .int (nI i)), (3, .int (nI (q / 256))), (4, .int (bI true)), (5, .int (nI (sBy σ (2 * (q / 256)) i k))), (6, .int (nI k))] → W p l e ({ frames := 3, cells := 0, slots := 0, locals := 65 }) s m ([.ref (am 0), .int (nI q), .int (nI i)] : List Value).toArray below meth c H locs 0 0 (gQ D below ([.ref (am 0), .int (nI q), .int (nI i)] : List Value).toArray s A (wm am cI cZ (vTh τ 0)) (some (.int (nI (sByteOf σ q i))))) (F0 m 95 ls []) := by
                intro fuel
                induction fuel with
                | zero => intro k hfu hk; exact absurd hfu (by omega)
                | succ fuel ih =>
                  intro k hfu hk H locs ls hI hl
                  have hby := sBy8_lt (σ := σ) (j := 2 * (q / 256)) (i := i) hk
                  refine lv_iload hx hb d_MD_byteOf_95 (lv_at hl 6 rfl) ?_
                  refine lv_bipush (v := nI 8) hx hb d_MD_byteOf_97 (by decide) ?_
                  refine r_ge (a := k) (b := 8) (tgt := 207) hx hb d_MD_byteOf_99 (by decide) (by omega) (by omega) (fun h5 => ?_) (fun h5 => ?_)
                  · obtain rfl : k = 8 := by omega
                    refine lv_iload hx hb d_MD_byteOf_207 (lv_at hl 5 rfl) ?_
                    exact g_ri hx hb hr hlk hI (by rw [sByteOf, if_neg h, if_pos (by rw [gPl_e]; exact h2)]) d_MD_byteOf_209
                  · have hp2 := p2_8 k (by omega)
                    refine lv_bipush (v := nI 8) hx hb d_MD_byteOf_102 (by decide) ?_
                    refine lv_iload_n hx hb d_MD_byteOf_104 rfl (lv_at hl 2 rfl) ?_
                    refine r_imul (a := 8) (b := i) hx hb d_MD_byteOf_105 ?_
                    refine lv_iload hx hb d_MD_byteOf_106 (lv_at hl 6 rfl) ?_
                    refine r_iadd (a := 8 * i) (b := k) hx hb d_MD_byteOf_108 ?_
                    refine lv_istore (lv' := [(7, .int (nI ((8 * i) + k))), (0, .ref (am 0)), (1, .int (nI q)), (2, .int (nI i)), (3, .int (nI (q / 256))), (4, .int (bI true)), (5, .int (nI (sBy σ (2 * (q / 256)) i k))), (6, .int (nI k))]) hx hb d_MD_byteOf_109 hl (by decide) rfl (fun ls hl => ?_)
                    refine lv_iload hx hb d_MD_byteOf_111 (lv_at hl 5 rfl) ?_
                    refine r_bz (b := true) (tgt := 151) hx hb d_MD_byteOf_113 (by decide) (fun h6 => ?_) (fun h6 => ?_)
                    · exact absurd h6 (by decide)
                    · refine lv_iload hx hb d_MD_byteOf_116 (lv_at hl 0 rfl) ?_
                      refine lv_aload_n hx hb d_MD_byteOf_118 rfl (lv_at hl 1 rfl) ?_
                      refine g_get (own := "GroupBitmapsModel") (C := R_MD) (T := F_MD) (N := 11) (ci := 3) (v := .ref (am 1)) hx hb hg ku_MD hown hK hI (0) (wm_0) rfl 2 (by decide) kw_472 rfl d_MD_byteOf_119 ?_
                      refine lv_iload_n hx hb d_MD_byteOf_122 rfl (lv_at hl 4 rfl) ?_
                      refine g_iald (F := (mSz (vTh τ 0))) (i := q / 256) hx hb hK hI (1) 2 (wm_Sz) rfl (hg4) (by omega) d_MD_byteOf_123 ?_
                      rw [show (mSz (vTh τ 0)) (q / 256) = sSz σ (2 * (q / 256)) from hR.sz hg4]
                      refine r_ge (a := (8 * i) + k) (b := sSz σ (2 * (q / 256))) (tgt := 143) hx hb d_MD_byteOf_124 (by decide) (by omega) (by omega) (fun h7 => ?_) (fun h7 => ?_)
                      · have hset : sSet σ (2 * (q / 256)) (8 * i + k) = true := hR.ssg hg4 h7
                        refine lv_iconst (v := bI true) hx hb d_MD_byteOf_143 (by decide) ?_
                        refine lv_goto (tgt := 180) hx hb d_MD_byteOf_144 (by decide) ?_
                        refine lv_istore (lv' := [(8, .int (bI true)), (7, .int (nI ((8 * i) + k))), (0, .ref (am 0)), (1, .int (nI q)), (2, .int (nI i)), (3, .int (nI (q / 256))), (4, .int (bI true)), (5, .int (nI (sBy σ (2 * (q / 256)) i k))), (6, .int (nI k))]) hx hb d_MD_byteOf_180 hl (by decide) rfl (fun ls hl => ?_)
                        refine lv_iload hx hb d_MD_byteOf_182 (lv_at hl 0 rfl) ?_
                        refine r_bz (b := true) (tgt := 197) hx hb d_MD_byteOf_184 (by decide) (fun h9 => ?_) (fun h9 => ?_)
                        · exact absurd h9 (by decide)
                        · refine lv_iload hx hb d_MD_byteOf_187 (lv_at hl 7 rfl) ?_
                          refine lv_iconst (v := nI 1) hx hb d_MD_byteOf_189 (by decide) ?_
                          refine lv_iload hx hb d_MD_byteOf_190 (lv_at hl 8 rfl) ?_
                          refine lv_ishl hx hb d_MD_byteOf_192 ?_
                          rw [shl1 k (by omega)]
                          refine r_iadd (a := sBy σ (2 * (q / 256)) i k) (b := 2 ^ k) hx hb d_MD_byteOf_193 ?_
                          refine lv_goto (tgt := 199) hx hb d_MD_byteOf_194 (by decide) ?_
                          refine lv_istore (lv' := [(5, .int (nI ((sBy σ (2 * (q / 256)) i k) + (2 ^ k)))), (8, .int (bI true)), (7, .int (nI ((8 * i) + k))), (0, .ref (am 0)), (1, .int (nI q)), (2, .int (nI i)), (3, .int (nI (q / 256))), (4, .int (bI true)), (6, .int (nI k))]) hx hb d_MD_byteOf_199 hl (by decide) rfl (fun ls hl => ?_)
                          refine lv_iinc (v := nI (k + 1)) (lv' := [(6, .int (nI (k + 1))), (5, .int (nI ((sBy σ (2 * (q / 256)) i k) + (2 ^ k)))), (8, .int (bI true)), (7, .int (nI ((8 * i) + k))), (0, .ref (am 0)), (1, .int (nI q)), (2, .int (nI i)), (3, .int (nI (q / 256))), (4, .int (bI true))]) hx hb d_MD_byteOf_201 hl (k := 8) rfl (nI_1 _) (by decide) rfl (fun ls hl => ?_)
                          refine lv_goto (tgt := 95) hx hb d_MD_byteOf_204 (by decide) ?_
                          exact ih (k + 1) (by omega) (by omega) _ _ _ hI (by rw [sBy_t hset]; exact lv_sub hl [4, 5, 6, 7, 8, 1, 0] rfl)
                      · refine lv_aload_n hx hb d_MD_byteOf_127 rfl (lv_at hl 1 rfl) ?_
                        refine g_get (own := "GroupBitmapsModel") (C := R_MD) (T := F_MD) (N := 11) (ci := 3) (v := .ref (am 2)) hx hb hg ku_MD hown hK hI (0) (wm_0) rfl 3 (by decide) kw_473 rfl d_MD_byteOf_128 ?_
                        refine lv_sipush (v := nI 256) hx hb d_MD_byteOf_131 (by decide) ?_
                        refine lv_iload_n hx hb d_MD_byteOf_134 rfl (lv_at hl 4 rfl) ?_
                        refine r_imul (a := 256) (b := q / 256) hx hb d_MD_byteOf_135 ?_
                        refine lv_iload hx hb d_MD_byteOf_136 (lv_at hl 0 rfl) ?_
                        refine r_iadd (a := 256 * (q / 256)) (b := (8 * i) + k) hx hb d_MD_byteOf_138 ?_
                        refine g_zald (B := (mBk (vTh τ 0))) (i := (256 * (q / 256)) + ((8 * i) + k)) hx hb hK hI (2) 1 (wm_Bk) rfl (by omega) (by omega) d_MD_byteOf_139 ?_
                        refine r_bz (b := (mBk (vTh τ 0)) ((256 * (q / 256)) + ((8 * i) + k))) (tgt := 147) hx hb d_MD_byteOf_140 (by decide) (fun h8 => ?_) (fun h8 => ?_)
                        · have hset : sSet σ (2 * (q / 256)) (8 * i + k) = false := (hR.ss hg4 h7).trans h8
                          refine lv_iconst (v := bI false) hx hb d_MD_byteOf_147 (by decide) ?_
                          refine lv_goto (tgt := 180) hx hb d_MD_byteOf_148 (by decide) ?_
                          refine lv_istore (lv' := [(8, .int (bI false)), (7, .int (nI ((8 * i) + k))), (0, .ref (am 0)), (1, .int (nI q)), (2, .int (nI i)), (3, .int (nI (q / 256))), (4, .int (bI true)), (5, .int (nI (sBy σ (2 * (q / 256)) i k))), (6, .int (nI k))]) hx hb d_MD_byteOf_180 hl (by decide) rfl (fun ls hl => ?_)
                          refine lv_iload hx hb d_MD_byteOf_182 (lv_at hl 0 rfl) ?_
                          refine r_bz (b := false) (tgt := 197) hx hb d_MD_byteOf_184 (by decide) (fun h9 => ?_) (fun h9 => ?_)
                          · refine lv_iload hx hb d_MD_byteOf_197 (lv_at hl 7 rfl) ?_
                            refine lv_istore (lv' := [(5, .int (nI (sBy σ (2 * (q / 256)) i k))), (8, .int (bI false)), (7, .int (nI ((8 * i) + k))), (0, .ref (am 0)), (1, .int (nI q)), (2, .int (nI i)), (3, .int (nI (q / 256))), (4, .int (bI true)), (6, .int (nI k))]) hx hb d_MD_byteOf_199 hl (by decide) rfl (fun ls hl => ?_)
                            refine lv_iinc (v := nI (k + 1)) (lv' := [(6, .int (nI (k + 1))), (5, .int (nI (sBy σ (2 * (q / 256)) i k))), (8, .int (bI false)), (7, .int (nI ((8 * i) + k))), (0, .ref (am 0)), (1, .int (nI q)), (2, .int (nI i)), (3, .int (nI (q / 256))), (4, .int (bI true))]) hx hb d_MD_byteOf_201 hl (k := 8) rfl (nI_1 _) (by decide) rfl (fun ls hl => ?_)
                            refine lv_goto (tgt := 95) hx hb d_MD_byteOf_204 (by decide) ?_
                            exact ih (k + 1) (by omega) (by omega) _ _ _ hI (by rw [sBy_f hset]; exact lv_sub hl [4, 5, 6, 7, 8, 1, 0] rfl)
                          · exact absurd h9 (by decide)
                        · have hset : sSet σ (2 * (q / 256)) (8 * i + k) = true := (hR.ss hg4 h7).trans h8
                          refine lv_iconst (v := bI true) hx hb d_MD_byteOf_143 (by decide) ?_
                          refine lv_goto (tgt := 180) hx hb d_MD_byteOf_144 (by decide) ?_
                          refine lv_istore (lv' := [(8, .int (bI true)), (7, .int (nI ((8 * i) + k))), (0, .ref (am 0)), (1, .int (nI q)), (2, .int (nI i)), (3, .int (nI (q / 256))), (4, .int (bI true)), (5, .int (nI (sBy σ (2 * (q / 256)) i k))), (6, .int (nI k))]) hx hb d_MD_byteOf_180 hl (by decide) rfl (fun ls hl => ?_)
                          refine lv_iload hx hb d_MD_byteOf_182 (lv_at hl 0 rfl) ?_
                          refine r_bz (b := true) (tgt := 197) hx hb d_MD_byteOf_184 (by decide) (fun h9 => ?_) (fun h9 => ?_)
                          · exact absurd h9 (by decide)
                          · refine lv_iload hx hb d_MD_byteOf_187 (lv_at hl 7 rfl) ?_
                            refine lv_iconst (v := nI 1) hx hb d_MD_byteOf_189 (by decide) ?_
                            refine lv_iload hx hb d_MD_byteOf_190 (lv_at hl 8 rfl) ?_
                            refine lv_ishl hx hb d_MD_byteOf_192 ?_
                            rw [shl1 k (by omega)]
                            refine r_iadd (a := sBy σ (2 * (q / 256)) i k) (b := 2 ^ k) hx hb d_MD_byteOf_193 ?_
                            refine lv_goto (tgt := 199) hx hb d_MD_byteOf_194 (by decide) ?_
                            refine lv_istore (lv' := [(5, .int (nI ((sBy σ (2 * (q / 256)) i k) + (2 ^ k)))), (8, .int (bI true)), (7, .int (nI ((8 * i) + k))), (0, .ref (am 0)), (1, .int (nI q)), (2, .int (nI i)), (3, .int (nI (q / 256))), (4, .int (bI true)), (6, .int (nI k))]) hx hb d_MD_byteOf_199 hl (by decide) rfl (fun ls hl => ?_)
                            refine lv_iinc (v := nI (k + 1)) (lv' := [(6, .int (nI (k + 1))), (5, .int (nI ((sBy σ (2 * (q / 256)) i k) + (2 ^ k)))), (8, .int (bI true)), (7, .int (nI ((8 * i) + k))), (0, .ref (am 0)), (1, .int (nI q)), (2, .int (nI i)), (3, .int (nI (q / 256))), (4, .int (bI true))]) hx hb d_MD_byteOf_201 hl (k := 8) rfl (nI_1 _) (by decide) rfl (fun ls hl => ?_)
                            refine lv_goto (tgt := 95) hx hb d_MD_byteOf_204 (by decide) ?_
                            exact ih (k + 1) (by omega) (by omega) _ _ _ hI (by rw [sBy_t hset]; exact lv_sub hl [4, 5, 6, 7, 8, 1, 0] rfl)
              exact loop 9 0 (by omega) (by omega) _ _ _ hI (lv_sub hl [4, 5, 6, 3, 2, 1, 0] rfl)
            · exact absurd h9 (by decide)
        · refine lv_aload_n hx hb d_MD_byteOf_45 rfl (lv_at hl 0 rfl) ?_
          refine lv_iload_n hx hb d_MD_byteOf_46 rfl (lv_at hl 2 rfl) ?_
          refine g_callV (own := "GroupBitmapsModel") (C := "GroupBitmapsModel") (T := F_MD) (N := 11) (k := 1) (q0 := 0) (ci := 3) (a := am 0) (As := [.int (nI i)]) (rest := []) (c_MD_descriptor σ (vTh τ 0) (hR.th 0) i hi) hx hb hml hown hg hK hI hA kw_601 kw_603 kp_35 kw_4 kw_604 ky_MD_descriptor ⟨Nat.le_of_ble_eq_true rfl, Nat.le_of_ble_eq_true rfl⟩ rfl rfl (wm_0) rfl rfl hl.1 (Nat.le_of_ble_eq_true rfl) ⟨Nat.zero_le _, Nat.zero_le _⟩ d_MD_byteOf_47 rfl rfl (fun H locs hI => ?_)
          exact g_ri hx hb hr hlk hI (by rw [sByteOf, if_pos h]) d_MD_byteOf_50
      · exact absurd h9 (by omega)
    · exact absurd h9 (by omega)
set_option maxHeartbeats 4000000 in
set_option maxRecDepth 100000 in
theorem c_MD_byteOf_bad {l : Launch} {D : va_G} {cG cZ cI cJ : ClassId} {am : Nat → Nat} (σ : gS) (τ : mS) (hR : RI σ τ) (x y : Int32) (hbad : ¬ (¬ x < 0 ∧ ¬ nI 1023 < x ∧ ¬ y < 0 ∧ y ≤ nI 4095)) : gMet l D (gT cG cZ cI cJ) y_MD_byteOf b_MD_byteOf 9 (some .int) ({ frames := 3, cells := 0, slots := 0, locals := 65 }) (wm am cI cZ τ) [.ref (am 0), .int x, .int y] (wm am cI cZ (vTh τ 1)) (some (.int (nI 0))) := by
  refine gMet_of (by decide) (Nat.le_of_ble_eq_true rfl) ?_
  intro p e s m below meth c A ls hC hA hI hl
  obtain ⟨hx, hb, hr, hlk, hown, hml, hg, hK⟩ := hC
  have hown : s.vm.findClass "GroupBitmapsModel" = some m.cls := hown
  have hl : lv_has ls 9 [(0, .ref (am 0)), (1, .int x), (2, .int y)] := hl
  have hτ := hR.ok
  have hσ := hR.sb
  have hgr := hR.gr
  have hc1 := hσ.1
  have hc2 := hσ.2.1
  refine lv_aload_n hx hb d_MD_byteOf_0 rfl (lv_at hl 0 rfl) ?_
  refine lv_iload_n hx hb d_MD_byteOf_1 rfl (lv_at hl 1 rfl) ?_
  refine lv_if_lt (tgt := 23) hx hb d_MD_byteOf_2 (by decide) (fun h => ?_) (fun h => ?_)
  · refine lv_iconst (v := nI 1) hx hb d_MD_byteOf_23 (by decide) ?_
    refine lv_goto (tgt := 28) hx hb d_MD_byteOf_24 (by decide) ?_
    refine g_put (ws' := (wm am cI cZ (vTh τ 1))) (own := "GroupBitmapsModel") (C := R_MD) (T := F_MD) (N := 11) (ci := 3) (v := .int (nI 1)) hx hb hg ku_MD t_MD t_MD_ok n_MD hown hK hI (0) (wm_0) rfl 0 (by decide) kw_470 rfl rfl (rfl) (rfl) (Nat.le_of_ble_eq_true rfl) (wm_vTh) d_MD_byteOf_28 (fun H locs hI => ?_)
    refine lv_aload_n hx hb d_MD_byteOf_31 rfl (lv_at hl 0 rfl) ?_
    refine g_get (own := "GroupBitmapsModel") (C := R_MD) (T := F_MD) (N := 11) (ci := 3) (v := .int (nI 1)) hx hb hg ku_MD hown hK hI (0) (wm_0) rfl 0 (by decide) kw_470 rfl d_MD_byteOf_32 ?_
    refine r_zle (a := 1) (tgt := 40) hx hb d_MD_byteOf_35 (by decide) (by omega) (fun h9 => ?_) (fun h9 => ?_)
    · exact absurd h9 (by omega)
    · refine lv_iconst (v := nI 0) hx hb d_MD_byteOf_38 (by decide) ?_
      exact g_ri hx hb hr hlk hI (rfl) d_MD_byteOf_39
  · refine lv_iload_n hx hb d_MD_byteOf_5 rfl (lv_at hl 1 rfl) ?_
    refine lv_sipush (v := nI 1023) hx hb d_MD_byteOf_6 (by decide) ?_
    refine lv_icmp_gt (tgt := 23) hx hb d_MD_byteOf_9 (by decide) (fun h2 => ?_) (fun h2 => ?_)
    · refine lv_iconst (v := nI 1) hx hb d_MD_byteOf_23 (by decide) ?_
      refine lv_goto (tgt := 28) hx hb d_MD_byteOf_24 (by decide) ?_
      refine g_put (ws' := (wm am cI cZ (vTh τ 1))) (own := "GroupBitmapsModel") (C := R_MD) (T := F_MD) (N := 11) (ci := 3) (v := .int (nI 1)) hx hb hg ku_MD t_MD t_MD_ok n_MD hown hK hI (0) (wm_0) rfl 0 (by decide) kw_470 rfl rfl (rfl) (rfl) (Nat.le_of_ble_eq_true rfl) (wm_vTh) d_MD_byteOf_28 (fun H locs hI => ?_)
      refine lv_aload_n hx hb d_MD_byteOf_31 rfl (lv_at hl 0 rfl) ?_
      refine g_get (own := "GroupBitmapsModel") (C := R_MD) (T := F_MD) (N := 11) (ci := 3) (v := .int (nI 1)) hx hb hg ku_MD hown hK hI (0) (wm_0) rfl 0 (by decide) kw_470 rfl d_MD_byteOf_32 ?_
      refine r_zle (a := 1) (tgt := 40) hx hb d_MD_byteOf_35 (by decide) (by omega) (fun h9 => ?_) (fun h9 => ?_)
      · exact absurd h9 (by omega)
      · refine lv_iconst (v := nI 0) hx hb d_MD_byteOf_38 (by decide) ?_
        exact g_ri hx hb hr hlk hI (rfl) d_MD_byteOf_39
    · refine lv_iload_n hx hb d_MD_byteOf_12 rfl (lv_at hl 2 rfl) ?_
      refine lv_if_lt (tgt := 23) hx hb d_MD_byteOf_13 (by decide) (fun h3 => ?_) (fun h3 => ?_)
      · refine lv_iconst (v := nI 1) hx hb d_MD_byteOf_23 (by decide) ?_
        refine lv_goto (tgt := 28) hx hb d_MD_byteOf_24 (by decide) ?_
        refine g_put (ws' := (wm am cI cZ (vTh τ 1))) (own := "GroupBitmapsModel") (C := R_MD) (T := F_MD) (N := 11) (ci := 3) (v := .int (nI 1)) hx hb hg ku_MD t_MD t_MD_ok n_MD hown hK hI (0) (wm_0) rfl 0 (by decide) kw_470 rfl rfl (rfl) (rfl) (Nat.le_of_ble_eq_true rfl) (wm_vTh) d_MD_byteOf_28 (fun H locs hI => ?_)
        refine lv_aload_n hx hb d_MD_byteOf_31 rfl (lv_at hl 0 rfl) ?_
        refine g_get (own := "GroupBitmapsModel") (C := R_MD) (T := F_MD) (N := 11) (ci := 3) (v := .int (nI 1)) hx hb hg ku_MD hown hK hI (0) (wm_0) rfl 0 (by decide) kw_470 rfl d_MD_byteOf_32 ?_
        refine r_zle (a := 1) (tgt := 40) hx hb d_MD_byteOf_35 (by decide) (by omega) (fun h9 => ?_) (fun h9 => ?_)
        · exact absurd h9 (by omega)
        · refine lv_iconst (v := nI 0) hx hb d_MD_byteOf_38 (by decide) ?_
          exact g_ri hx hb hr hlk hI (rfl) d_MD_byteOf_39
      · refine lv_iload_n hx hb d_MD_byteOf_16 rfl (lv_at hl 2 rfl) ?_
        refine lv_sipush (v := nI 4095) hx hb d_MD_byteOf_17 (by decide) ?_
        refine lv_icmp_le (tgt := 27) hx hb d_MD_byteOf_20 (by decide) (fun h4 => ?_) (fun h4 => ?_)
        · exact absurd ⟨h, h2, h3, h4⟩ hbad
        · refine lv_iconst (v := nI 1) hx hb d_MD_byteOf_23 (by decide) ?_
          refine lv_goto (tgt := 28) hx hb d_MD_byteOf_24 (by decide) ?_
          refine g_put (ws' := (wm am cI cZ (vTh τ 1))) (own := "GroupBitmapsModel") (C := R_MD) (T := F_MD) (N := 11) (ci := 3) (v := .int (nI 1)) hx hb hg ku_MD t_MD t_MD_ok n_MD hown hK hI (0) (wm_0) rfl 0 (by decide) kw_470 rfl rfl (rfl) (rfl) (Nat.le_of_ble_eq_true rfl) (wm_vTh) d_MD_byteOf_28 (fun H locs hI => ?_)
          refine lv_aload_n hx hb d_MD_byteOf_31 rfl (lv_at hl 0 rfl) ?_
          refine g_get (own := "GroupBitmapsModel") (C := R_MD) (T := F_MD) (N := 11) (ci := 3) (v := .int (nI 1)) hx hb hg ku_MD hown hK hI (0) (wm_0) rfl 0 (by decide) kw_470 rfl d_MD_byteOf_32 ?_
          refine r_zle (a := 1) (tgt := 40) hx hb d_MD_byteOf_35 (by decide) (by omega) (fun h9 => ?_) (fun h9 => ?_)
          · exact absurd h9 (by omega)
          · refine lv_iconst (v := nI 0) hx hb d_MD_byteOf_38 (by decide) ?_
            exact g_ri hx hb hr hlk hI (rfl) d_MD_byteOf_39
set_option maxHeartbeats 4000000 in
set_option maxRecDepth 100000 in
theorem c_MD_group0 {l : Launch} {D : va_G} {cG cZ cI cJ : ClassId} {am : Nat → Nat} (σ : gS) (τ : mS) (hR : RI σ τ) (g : Nat) (hgc : g < sCnt σ) : gMet l D (gT cG cZ cI cJ) y_MD_group b_MD_group 3 (some .int) ({ frames := 1, cells := 0, slots := 0, locals := 26 }) (wm am cI cZ τ) [.ref (am 0), .int (nI g), .int (nI 0)] (wm am cI cZ (mGrp τ g 0)) (some (.int (nI (sGrp σ g 0)))) := by
  refine gMet_of (by decide) (Nat.le_of_ble_eq_true rfl) ?_
  intro p e s m below meth c A ls hC hA hI hl
  obtain ⟨hx, hb, hr, hlk, hown, hml, hg, hK⟩ := hC
  have hown : s.vm.findClass "GroupBitmapsModel" = some m.cls := hown
  have hl : lv_has ls 3 [(0, .ref (am 0)), (1, .int (nI g)), (2, .int (nI 0))] := hl
  have hτ := hR.ok
  have hσ := hR.sb
  have hgr := hR.gr
  have hc1 := hσ.1
  have hc2 := hσ.2.1
  have hg4 : g < 4 := by omega
  refine lv_aload_n hx hb d_MD_group_0 rfl (lv_at hl 0 rfl) ?_
  refine lv_iload_n hx hb d_MD_group_1 rfl (lv_at hl 1 rfl) ?_
  refine r_zlt (a := g) (tgt := 22) hx hb d_MD_group_2 (by decide) (by omega) ?_
  refine lv_iload_n hx hb d_MD_group_5 rfl (lv_at hl 1 rfl) ?_
  refine lv_aload_n hx hb d_MD_group_6 rfl (lv_at hl 0 rfl) ?_
  refine g_get (own := "GroupBitmapsModel") (C := R_MD) (T := F_MD) (N := 11) (ci := 3) (v := .int (nI (mGr τ))) hx hb hg ku_MD hown hK hI (0) (wm_0) rfl 1 (by decide) kw_471 rfl d_MD_group_7 ?_
  rw [show mGr τ = sCnt σ from hgr]
  refine r_ge (a := g) (b := sCnt σ) (tgt := 22) hx hb d_MD_group_10 (by decide) (by omega) (by omega) (fun h9 => ?_) (fun h9 => ?_)
  · exact absurd h9 (by omega)
  · refine lv_iload_n hx hb d_MD_group_13 rfl (lv_at hl 2 rfl) ?_
    refine r_zlt (a := 0) (tgt := 22) hx hb d_MD_group_14 (by decide) (by omega) ?_
    refine lv_iload_n hx hb d_MD_group_17 rfl (lv_at hl 2 rfl) ?_
    refine lv_iconst (v := nI 5) hx hb d_MD_group_18 (by decide) ?_
    refine r_le (a := 0) (b := 5) (tgt := 26) hx hb d_MD_group_19 (by decide) (by omega) (by omega) (fun h9 => ?_) (fun h9 => ?_)
    · refine lv_iconst (v := nI 0) hx hb d_MD_group_26 (by decide) ?_
      refine g_put (ws' := (wm am cI cZ (vTh τ 0))) (own := "GroupBitmapsModel") (C := R_MD) (T := F_MD) (N := 11) (ci := 3) (v := .int (nI 0)) hx hb hg ku_MD t_MD t_MD_ok n_MD hown hK hI (0) (wm_0) rfl 0 (by decide) kw_470 rfl rfl (rfl) (rfl) (Nat.le_of_ble_eq_true rfl) (wm_vTh) d_MD_group_27 (fun H locs hI => ?_)
      refine lv_aload_n hx hb d_MD_group_30 rfl (lv_at hl 0 rfl) ?_
      refine g_get (own := "GroupBitmapsModel") (C := R_MD) (T := F_MD) (N := 11) (ci := 3) (v := .int (nI 0)) hx hb hg ku_MD hown hK hI (0) (wm_0) rfl 0 (by decide) kw_470 rfl d_MD_group_31 ?_
      refine r_zle (a := 0) (tgt := 39) hx hb d_MD_group_34 (by decide) (by omega) (fun h9 => ?_) (fun h9 => ?_)
      · refine lv_iload_n hx hb d_MD_group_39 rfl (lv_at hl 2 rfl) ?_
        refine lv_tableIn (x := nI 0) (off := 36) (tgt := 76) hx hb d_MD_group_40 (by decide) (by decide) (by decide) (by decide) ?_
        refine lv_sipush (v := nI 256) hx hb d_MD_group_76 (by decide) ?_
        refine lv_iload_n hx hb d_MD_group_79 rfl (lv_at hl 1 rfl) ?_
        refine r_imul (a := 256) (b := g) hx hb d_MD_group_80 ?_
        exact g_ri hx hb hr hlk hI (rfl) d_MD_group_81
      · exact absurd h9 (by omega)
    · exact absurd h9 (by omega)
set_option maxHeartbeats 4000000 in
set_option maxRecDepth 100000 in
theorem c_MD_group1 {l : Launch} {D : va_G} {cG cZ cI cJ : ClassId} {am : Nat → Nat} (σ : gS) (τ : mS) (hR : RI σ τ) (g : Nat) (hgc : g < sCnt σ) : gMet l D (gT cG cZ cI cJ) y_MD_group b_MD_group 3 (some .int) ({ frames := 1, cells := 0, slots := 0, locals := 26 }) (wm am cI cZ τ) [.ref (am 0), .int (nI g), .int (nI 1)] (wm am cI cZ (mGrp τ g 1)) (some (.int (nI (sGrp σ g 1)))) := by
  refine gMet_of (by decide) (Nat.le_of_ble_eq_true rfl) ?_
  intro p e s m below meth c A ls hC hA hI hl
  obtain ⟨hx, hb, hr, hlk, hown, hml, hg, hK⟩ := hC
  have hown : s.vm.findClass "GroupBitmapsModel" = some m.cls := hown
  have hl : lv_has ls 3 [(0, .ref (am 0)), (1, .int (nI g)), (2, .int (nI 1))] := hl
  have hτ := hR.ok
  have hσ := hR.sb
  have hgr := hR.gr
  have hc1 := hσ.1
  have hc2 := hσ.2.1
  have hg4 : g < 4 := by omega
  refine lv_aload_n hx hb d_MD_group_0 rfl (lv_at hl 0 rfl) ?_
  refine lv_iload_n hx hb d_MD_group_1 rfl (lv_at hl 1 rfl) ?_
  refine r_zlt (a := g) (tgt := 22) hx hb d_MD_group_2 (by decide) (by omega) ?_
  refine lv_iload_n hx hb d_MD_group_5 rfl (lv_at hl 1 rfl) ?_
  refine lv_aload_n hx hb d_MD_group_6 rfl (lv_at hl 0 rfl) ?_
  refine g_get (own := "GroupBitmapsModel") (C := R_MD) (T := F_MD) (N := 11) (ci := 3) (v := .int (nI (mGr τ))) hx hb hg ku_MD hown hK hI (0) (wm_0) rfl 1 (by decide) kw_471 rfl d_MD_group_7 ?_
  rw [show mGr τ = sCnt σ from hgr]
  refine r_ge (a := g) (b := sCnt σ) (tgt := 22) hx hb d_MD_group_10 (by decide) (by omega) (by omega) (fun h9 => ?_) (fun h9 => ?_)
  · exact absurd h9 (by omega)
  · refine lv_iload_n hx hb d_MD_group_13 rfl (lv_at hl 2 rfl) ?_
    refine r_zlt (a := 1) (tgt := 22) hx hb d_MD_group_14 (by decide) (by omega) ?_
    refine lv_iload_n hx hb d_MD_group_17 rfl (lv_at hl 2 rfl) ?_
    refine lv_iconst (v := nI 5) hx hb d_MD_group_18 (by decide) ?_
    refine r_le (a := 1) (b := 5) (tgt := 26) hx hb d_MD_group_19 (by decide) (by omega) (by omega) (fun h9 => ?_) (fun h9 => ?_)
    · refine lv_iconst (v := nI 0) hx hb d_MD_group_26 (by decide) ?_
      refine g_put (ws' := (wm am cI cZ (vTh τ 0))) (own := "GroupBitmapsModel") (C := R_MD) (T := F_MD) (N := 11) (ci := 3) (v := .int (nI 0)) hx hb hg ku_MD t_MD t_MD_ok n_MD hown hK hI (0) (wm_0) rfl 0 (by decide) kw_470 rfl rfl (rfl) (rfl) (Nat.le_of_ble_eq_true rfl) (wm_vTh) d_MD_group_27 (fun H locs hI => ?_)
      refine lv_aload_n hx hb d_MD_group_30 rfl (lv_at hl 0 rfl) ?_
      refine g_get (own := "GroupBitmapsModel") (C := R_MD) (T := F_MD) (N := 11) (ci := 3) (v := .int (nI 0)) hx hb hg ku_MD hown hK hI (0) (wm_0) rfl 0 (by decide) kw_470 rfl d_MD_group_31 ?_
      refine r_zle (a := 0) (tgt := 39) hx hb d_MD_group_34 (by decide) (by omega) (fun h9 => ?_) (fun h9 => ?_)
      · refine lv_iload_n hx hb d_MD_group_39 rfl (lv_at hl 2 rfl) ?_
        refine lv_tableIn (x := nI 1) (off := 42) (tgt := 82) hx hb d_MD_group_40 (by decide) (by decide) (by decide) (by decide) ?_
        refine lv_aload_n hx hb d_MD_group_82 rfl (lv_at hl 0 rfl) ?_
        refine g_get (own := "GroupBitmapsModel") (C := R_MD) (T := F_MD) (N := 11) (ci := 3) (v := .ref (am 1)) hx hb hg ku_MD hown hK hI (0) (wm_0) rfl 2 (by decide) kw_472 rfl d_MD_group_83 ?_
        refine lv_iload_n hx hb d_MD_group_86 rfl (lv_at hl 1 rfl) ?_
        refine g_iald (F := (mSz (vTh τ 0))) (i := g) hx hb hK hI (1) 2 (wm_Sz) rfl (hg4) (by omega) d_MD_group_87 ?_
        rw [show mSz (vTh τ 0) g = sSz σ (2 * g) from hR.sz hg4]
        exact g_ri hx hb hr hlk hI (rfl) d_MD_group_88
      · exact absurd h9 (by omega)
    · exact absurd h9 (by omega)
set_option maxHeartbeats 4000000 in
set_option maxRecDepth 100000 in
theorem c_MD_group2 {l : Launch} {D : va_G} {cG cZ cI cJ : ClassId} {am : Nat → Nat} (σ : gS) (τ : mS) (hR : RI σ τ) (g : Nat) (hgc : g < sCnt σ) : gMet l D (gT cG cZ cI cJ) y_MD_group b_MD_group 3 (some .int) ({ frames := 1, cells := 0, slots := 0, locals := 26 }) (wm am cI cZ τ) [.ref (am 0), .int (nI g), .int (nI 2)] (wm am cI cZ (mGrp τ g 2)) (some (.int (nI (sGrp σ g 2)))) := by
  refine gMet_of (by decide) (Nat.le_of_ble_eq_true rfl) ?_
  intro p e s m below meth c A ls hC hA hI hl
  obtain ⟨hx, hb, hr, hlk, hown, hml, hg, hK⟩ := hC
  have hown : s.vm.findClass "GroupBitmapsModel" = some m.cls := hown
  have hl : lv_has ls 3 [(0, .ref (am 0)), (1, .int (nI g)), (2, .int (nI 2))] := hl
  have hτ := hR.ok
  have hσ := hR.sb
  have hgr := hR.gr
  have hc1 := hσ.1
  have hc2 := hσ.2.1
  have hg4 : g < 4 := by omega
  refine lv_aload_n hx hb d_MD_group_0 rfl (lv_at hl 0 rfl) ?_
  refine lv_iload_n hx hb d_MD_group_1 rfl (lv_at hl 1 rfl) ?_
  refine r_zlt (a := g) (tgt := 22) hx hb d_MD_group_2 (by decide) (by omega) ?_
  refine lv_iload_n hx hb d_MD_group_5 rfl (lv_at hl 1 rfl) ?_
  refine lv_aload_n hx hb d_MD_group_6 rfl (lv_at hl 0 rfl) ?_
  refine g_get (own := "GroupBitmapsModel") (C := R_MD) (T := F_MD) (N := 11) (ci := 3) (v := .int (nI (mGr τ))) hx hb hg ku_MD hown hK hI (0) (wm_0) rfl 1 (by decide) kw_471 rfl d_MD_group_7 ?_
  rw [show mGr τ = sCnt σ from hgr]
  refine r_ge (a := g) (b := sCnt σ) (tgt := 22) hx hb d_MD_group_10 (by decide) (by omega) (by omega) (fun h9 => ?_) (fun h9 => ?_)
  · exact absurd h9 (by omega)
  · refine lv_iload_n hx hb d_MD_group_13 rfl (lv_at hl 2 rfl) ?_
    refine r_zlt (a := 2) (tgt := 22) hx hb d_MD_group_14 (by decide) (by omega) ?_
    refine lv_iload_n hx hb d_MD_group_17 rfl (lv_at hl 2 rfl) ?_
    refine lv_iconst (v := nI 5) hx hb d_MD_group_18 (by decide) ?_
    refine r_le (a := 2) (b := 5) (tgt := 26) hx hb d_MD_group_19 (by decide) (by omega) (by omega) (fun h9 => ?_) (fun h9 => ?_)
    · refine lv_iconst (v := nI 0) hx hb d_MD_group_26 (by decide) ?_
      refine g_put (ws' := (wm am cI cZ (vTh τ 0))) (own := "GroupBitmapsModel") (C := R_MD) (T := F_MD) (N := 11) (ci := 3) (v := .int (nI 0)) hx hb hg ku_MD t_MD t_MD_ok n_MD hown hK hI (0) (wm_0) rfl 0 (by decide) kw_470 rfl rfl (rfl) (rfl) (Nat.le_of_ble_eq_true rfl) (wm_vTh) d_MD_group_27 (fun H locs hI => ?_)
      refine lv_aload_n hx hb d_MD_group_30 rfl (lv_at hl 0 rfl) ?_
      refine g_get (own := "GroupBitmapsModel") (C := R_MD) (T := F_MD) (N := 11) (ci := 3) (v := .int (nI 0)) hx hb hg ku_MD hown hK hI (0) (wm_0) rfl 0 (by decide) kw_470 rfl d_MD_group_31 ?_
      refine r_zle (a := 0) (tgt := 39) hx hb d_MD_group_34 (by decide) (by omega) (fun h9 => ?_) (fun h9 => ?_)
      · refine lv_iload_n hx hb d_MD_group_39 rfl (lv_at hl 2 rfl) ?_
        refine lv_tableIn (x := nI 2) (off := 49) (tgt := 89) hx hb d_MD_group_40 (by decide) (by decide) (by decide) (by decide) ?_
        refine lv_aload_n hx hb d_MD_group_89 rfl (lv_at hl 0 rfl) ?_
        refine lv_iload_n hx hb d_MD_group_90 rfl (lv_at hl 1 rfl) ?_
        refine g_callV (own := "GroupBitmapsModel") (C := "GroupBitmapsModel") (T := F_MD) (N := 11) (k := 1) (q0 := 0) (ci := 3) (a := am 0) (As := [.int (nI g)]) (rest := []) (k_fb σ (vTh τ 0) (hR.th 0) g hg4) hx hb hml hown hg hK hI hA kw_517 kw_519 kp_23 kw_4 kw_520 ky_MD_freeBlocks ⟨Nat.le_of_ble_eq_true rfl, Nat.le_of_ble_eq_true rfl⟩ rfl rfl (wm_0) rfl rfl hl.1 (Nat.le_of_ble_eq_true rfl) ⟨Nat.zero_le _, Nat.zero_le _⟩ d_MD_group_91 rfl rfl (fun H locs hI => ?_)
        exact g_ri hx hb hr hlk hI (rfl) d_MD_group_94
      · exact absurd h9 (by omega)
    · exact absurd h9 (by omega)
set_option maxHeartbeats 4000000 in
set_option maxRecDepth 100000 in
theorem c_MD_group3 {l : Launch} {D : va_G} {cG cZ cI cJ : ClassId} {am : Nat → Nat} (σ : gS) (τ : mS) (hR : RI σ τ) (g : Nat) (hgc : g < sCnt σ) : gMet l D (gT cG cZ cI cJ) y_MD_group b_MD_group 3 (some .int) ({ frames := 1, cells := 0, slots := 0, locals := 26 }) (wm am cI cZ τ) [.ref (am 0), .int (nI g), .int (nI 3)] (wm am cI cZ (mGrp τ g 3)) (some (.int (nI (sGrp σ g 3)))) := by
  refine gMet_of (by decide) (Nat.le_of_ble_eq_true rfl) ?_
  intro p e s m below meth c A ls hC hA hI hl
  obtain ⟨hx, hb, hr, hlk, hown, hml, hg, hK⟩ := hC
  have hown : s.vm.findClass "GroupBitmapsModel" = some m.cls := hown
  have hl : lv_has ls 3 [(0, .ref (am 0)), (1, .int (nI g)), (2, .int (nI 3))] := hl
  have hτ := hR.ok
  have hσ := hR.sb
  have hgr := hR.gr
  have hc1 := hσ.1
  have hc2 := hσ.2.1
  have hg4 : g < 4 := by omega
  refine lv_aload_n hx hb d_MD_group_0 rfl (lv_at hl 0 rfl) ?_
  refine lv_iload_n hx hb d_MD_group_1 rfl (lv_at hl 1 rfl) ?_
  refine r_zlt (a := g) (tgt := 22) hx hb d_MD_group_2 (by decide) (by omega) ?_
  refine lv_iload_n hx hb d_MD_group_5 rfl (lv_at hl 1 rfl) ?_
  refine lv_aload_n hx hb d_MD_group_6 rfl (lv_at hl 0 rfl) ?_
  refine g_get (own := "GroupBitmapsModel") (C := R_MD) (T := F_MD) (N := 11) (ci := 3) (v := .int (nI (mGr τ))) hx hb hg ku_MD hown hK hI (0) (wm_0) rfl 1 (by decide) kw_471 rfl d_MD_group_7 ?_
  rw [show mGr τ = sCnt σ from hgr]
  refine r_ge (a := g) (b := sCnt σ) (tgt := 22) hx hb d_MD_group_10 (by decide) (by omega) (by omega) (fun h9 => ?_) (fun h9 => ?_)
  · exact absurd h9 (by omega)
  · refine lv_iload_n hx hb d_MD_group_13 rfl (lv_at hl 2 rfl) ?_
    refine r_zlt (a := 3) (tgt := 22) hx hb d_MD_group_14 (by decide) (by omega) ?_
    refine lv_iload_n hx hb d_MD_group_17 rfl (lv_at hl 2 rfl) ?_
    refine lv_iconst (v := nI 5) hx hb d_MD_group_18 (by decide) ?_
    refine r_le (a := 3) (b := 5) (tgt := 26) hx hb d_MD_group_19 (by decide) (by omega) (by omega) (fun h9 => ?_) (fun h9 => ?_)
    · refine lv_iconst (v := nI 0) hx hb d_MD_group_26 (by decide) ?_
      refine g_put (ws' := (wm am cI cZ (vTh τ 0))) (own := "GroupBitmapsModel") (C := R_MD) (T := F_MD) (N := 11) (ci := 3) (v := .int (nI 0)) hx hb hg ku_MD t_MD t_MD_ok n_MD hown hK hI (0) (wm_0) rfl 0 (by decide) kw_470 rfl rfl (rfl) (rfl) (Nat.le_of_ble_eq_true rfl) (wm_vTh) d_MD_group_27 (fun H locs hI => ?_)
      refine lv_aload_n hx hb d_MD_group_30 rfl (lv_at hl 0 rfl) ?_
      refine g_get (own := "GroupBitmapsModel") (C := R_MD) (T := F_MD) (N := 11) (ci := 3) (v := .int (nI 0)) hx hb hg ku_MD hown hK hI (0) (wm_0) rfl 0 (by decide) kw_470 rfl d_MD_group_31 ?_
      refine r_zle (a := 0) (tgt := 39) hx hb d_MD_group_34 (by decide) (by omega) (fun h9 => ?_) (fun h9 => ?_)
      · refine lv_iload_n hx hb d_MD_group_39 rfl (lv_at hl 2 rfl) ?_
        refine lv_tableIn (x := nI 3) (off := 55) (tgt := 95) hx hb d_MD_group_40 (by decide) (by decide) (by decide) (by decide) ?_
        refine lv_aload_n hx hb d_MD_group_95 rfl (lv_at hl 0 rfl) ?_
        refine lv_iload_n hx hb d_MD_group_96 rfl (lv_at hl 1 rfl) ?_
        refine g_callV (own := "GroupBitmapsModel") (C := "GroupBitmapsModel") (T := F_MD) (N := 11) (k := 1) (q0 := 0) (ci := 3) (a := am 0) (As := [.int (nI g)]) (rest := []) (k_ff σ (vTh τ 0) (hR.th 0) g hg4) hx hb hml hown hg hK hI hA kw_565 kw_567 kp_30 kw_4 kw_568 ky_MD_freeFiles ⟨Nat.le_of_ble_eq_true rfl, Nat.le_of_ble_eq_true rfl⟩ rfl rfl (wm_0) rfl rfl hl.1 (Nat.le_of_ble_eq_true rfl) ⟨Nat.zero_le _, Nat.zero_le _⟩ d_MD_group_97 rfl rfl (fun H locs hI => ?_)
        exact g_ri hx hb hr hlk hI (rfl) d_MD_group_100
      · exact absurd h9 (by omega)
    · exact absurd h9 (by omega)
set_option maxHeartbeats 4000000 in
set_option maxRecDepth 100000 in
theorem c_MD_group4 {l : Launch} {D : va_G} {cG cZ cI cJ : ClassId} {am : Nat → Nat} (σ : gS) (τ : mS) (hR : RI σ τ) (g : Nat) (hgc : g < sCnt σ) : gMet l D (gT cG cZ cI cJ) y_MD_group b_MD_group 3 (some .int) ({ frames := 1, cells := 0, slots := 0, locals := 26 }) (wm am cI cZ τ) [.ref (am 0), .int (nI g), .int (nI 4)] (wm am cI cZ (mGrp τ g 4)) (some (.int (nI (sGrp σ g 4)))) := by
  refine gMet_of (by decide) (Nat.le_of_ble_eq_true rfl) ?_
  intro p e s m below meth c A ls hC hA hI hl
  obtain ⟨hx, hb, hr, hlk, hown, hml, hg, hK⟩ := hC
  have hown : s.vm.findClass "GroupBitmapsModel" = some m.cls := hown
  have hl : lv_has ls 3 [(0, .ref (am 0)), (1, .int (nI g)), (2, .int (nI 4))] := hl
  have hτ := hR.ok
  have hσ := hR.sb
  have hgr := hR.gr
  have hc1 := hσ.1
  have hc2 := hσ.2.1
  have hg4 : g < 4 := by omega
  refine lv_aload_n hx hb d_MD_group_0 rfl (lv_at hl 0 rfl) ?_
  refine lv_iload_n hx hb d_MD_group_1 rfl (lv_at hl 1 rfl) ?_
  refine r_zlt (a := g) (tgt := 22) hx hb d_MD_group_2 (by decide) (by omega) ?_
  refine lv_iload_n hx hb d_MD_group_5 rfl (lv_at hl 1 rfl) ?_
  refine lv_aload_n hx hb d_MD_group_6 rfl (lv_at hl 0 rfl) ?_
  refine g_get (own := "GroupBitmapsModel") (C := R_MD) (T := F_MD) (N := 11) (ci := 3) (v := .int (nI (mGr τ))) hx hb hg ku_MD hown hK hI (0) (wm_0) rfl 1 (by decide) kw_471 rfl d_MD_group_7 ?_
  rw [show mGr τ = sCnt σ from hgr]
  refine r_ge (a := g) (b := sCnt σ) (tgt := 22) hx hb d_MD_group_10 (by decide) (by omega) (by omega) (fun h9 => ?_) (fun h9 => ?_)
  · exact absurd h9 (by omega)
  · refine lv_iload_n hx hb d_MD_group_13 rfl (lv_at hl 2 rfl) ?_
    refine r_zlt (a := 4) (tgt := 22) hx hb d_MD_group_14 (by decide) (by omega) ?_
    refine lv_iload_n hx hb d_MD_group_17 rfl (lv_at hl 2 rfl) ?_
    refine lv_iconst (v := nI 5) hx hb d_MD_group_18 (by decide) ?_
    refine r_le (a := 4) (b := 5) (tgt := 26) hx hb d_MD_group_19 (by decide) (by omega) (by omega) (fun h9 => ?_) (fun h9 => ?_)
    · refine lv_iconst (v := nI 0) hx hb d_MD_group_26 (by decide) ?_
      refine g_put (ws' := (wm am cI cZ (vTh τ 0))) (own := "GroupBitmapsModel") (C := R_MD) (T := F_MD) (N := 11) (ci := 3) (v := .int (nI 0)) hx hb hg ku_MD t_MD t_MD_ok n_MD hown hK hI (0) (wm_0) rfl 0 (by decide) kw_470 rfl rfl (rfl) (rfl) (Nat.le_of_ble_eq_true rfl) (wm_vTh) d_MD_group_27 (fun H locs hI => ?_)
      refine lv_aload_n hx hb d_MD_group_30 rfl (lv_at hl 0 rfl) ?_
      refine g_get (own := "GroupBitmapsModel") (C := R_MD) (T := F_MD) (N := 11) (ci := 3) (v := .int (nI 0)) hx hb hg ku_MD hown hK hI (0) (wm_0) rfl 0 (by decide) kw_470 rfl d_MD_group_31 ?_
      refine r_zle (a := 0) (tgt := 39) hx hb d_MD_group_34 (by decide) (by omega) (fun h9 => ?_) (fun h9 => ?_)
      · refine lv_iload_n hx hb d_MD_group_39 rfl (lv_at hl 2 rfl) ?_
        refine lv_tableIn (x := nI 4) (off := 61) (tgt := 101) hx hb d_MD_group_40 (by decide) (by decide) (by decide) (by decide) ?_
        refine lv_aload_n hx hb d_MD_group_101 rfl (lv_at hl 0 rfl) ?_
        refine g_get (own := "GroupBitmapsModel") (C := R_MD) (T := F_MD) (N := 11) (ci := 3) (v := .ref (am 4)) hx hb hg ku_MD hown hK hI (0) (wm_0) rfl 5 (by decide) kw_475 rfl d_MD_group_102 ?_
        refine lv_iload_n hx hb d_MD_group_105 rfl (lv_at hl 1 rfl) ?_
        refine g_iald (F := (mFd (vTh τ 0))) (i := g) hx hb hK hI (4) 2 (wm_Fd) rfl (hg4) (by omega) d_MD_group_106 ?_
        rw [show mFd (vTh τ 0) g = sFd σ g from hR.fd hg4]
        exact g_ri hx hb hr hlk hI (rfl) d_MD_group_107
      · exact absurd h9 (by omega)
    · exact absurd h9 (by omega)
set_option maxHeartbeats 4000000 in
set_option maxRecDepth 100000 in
theorem c_MD_group5 {l : Launch} {D : va_G} {cG cZ cI cJ : ClassId} {am : Nat → Nat} (σ : gS) (τ : mS) (hR : RI σ τ) (g : Nat) (hgc : g < sCnt σ) : gMet l D (gT cG cZ cI cJ) y_MD_group b_MD_group 3 (some .int) ({ frames := 1, cells := 0, slots := 0, locals := 26 }) (wm am cI cZ τ) [.ref (am 0), .int (nI g), .int (nI 5)] (wm am cI cZ (mGrp τ g 5)) (some (.int (nI (sGrp σ g 5)))) := by
  refine gMet_of (by decide) (Nat.le_of_ble_eq_true rfl) ?_
  intro p e s m below meth c A ls hC hA hI hl
  obtain ⟨hx, hb, hr, hlk, hown, hml, hg, hK⟩ := hC
  have hown : s.vm.findClass "GroupBitmapsModel" = some m.cls := hown
  have hl : lv_has ls 3 [(0, .ref (am 0)), (1, .int (nI g)), (2, .int (nI 5))] := hl
  have hτ := hR.ok
  have hσ := hR.sb
  have hgr := hR.gr
  have hc1 := hσ.1
  have hc2 := hσ.2.1
  have hg4 : g < 4 := by omega
  refine lv_aload_n hx hb d_MD_group_0 rfl (lv_at hl 0 rfl) ?_
  refine lv_iload_n hx hb d_MD_group_1 rfl (lv_at hl 1 rfl) ?_
  refine r_zlt (a := g) (tgt := 22) hx hb d_MD_group_2 (by decide) (by omega) ?_
  refine lv_iload_n hx hb d_MD_group_5 rfl (lv_at hl 1 rfl) ?_
  refine lv_aload_n hx hb d_MD_group_6 rfl (lv_at hl 0 rfl) ?_
  refine g_get (own := "GroupBitmapsModel") (C := R_MD) (T := F_MD) (N := 11) (ci := 3) (v := .int (nI (mGr τ))) hx hb hg ku_MD hown hK hI (0) (wm_0) rfl 1 (by decide) kw_471 rfl d_MD_group_7 ?_
  rw [show mGr τ = sCnt σ from hgr]
  refine r_ge (a := g) (b := sCnt σ) (tgt := 22) hx hb d_MD_group_10 (by decide) (by omega) (by omega) (fun h9 => ?_) (fun h9 => ?_)
  · exact absurd h9 (by omega)
  · refine lv_iload_n hx hb d_MD_group_13 rfl (lv_at hl 2 rfl) ?_
    refine r_zlt (a := 5) (tgt := 22) hx hb d_MD_group_14 (by decide) (by omega) ?_
    refine lv_iload_n hx hb d_MD_group_17 rfl (lv_at hl 2 rfl) ?_
    refine lv_iconst (v := nI 5) hx hb d_MD_group_18 (by decide) ?_
    refine r_le (a := 5) (b := 5) (tgt := 26) hx hb d_MD_group_19 (by decide) (by omega) (by omega) (fun h9 => ?_) (fun h9 => ?_)
    · refine lv_iconst (v := nI 0) hx hb d_MD_group_26 (by decide) ?_
      refine g_put (ws' := (wm am cI cZ (vTh τ 0))) (own := "GroupBitmapsModel") (C := R_MD) (T := F_MD) (N := 11) (ci := 3) (v := .int (nI 0)) hx hb hg ku_MD t_MD t_MD_ok n_MD hown hK hI (0) (wm_0) rfl 0 (by decide) kw_470 rfl rfl (rfl) (rfl) (Nat.le_of_ble_eq_true rfl) (wm_vTh) d_MD_group_27 (fun H locs hI => ?_)
      refine lv_aload_n hx hb d_MD_group_30 rfl (lv_at hl 0 rfl) ?_
      refine g_get (own := "GroupBitmapsModel") (C := R_MD) (T := F_MD) (N := 11) (ci := 3) (v := .int (nI 0)) hx hb hg ku_MD hown hK hI (0) (wm_0) rfl 0 (by decide) kw_470 rfl d_MD_group_31 ?_
      refine r_zle (a := 0) (tgt := 39) hx hb d_MD_group_34 (by decide) (by omega) (fun h9 => ?_) (fun h9 => ?_)
      · refine lv_iload_n hx hb d_MD_group_39 rfl (lv_at hl 2 rfl) ?_
        refine lv_tableOut (x := nI 5) (tgt := 108) hx hb d_MD_group_40 (by decide) (by decide) ?_
        refine lv_aload_n hx hb d_MD_group_108 rfl (lv_at hl 0 rfl) ?_
        refine lv_iload_n hx hb d_MD_group_109 rfl (lv_at hl 1 rfl) ?_
        refine lv_iconst (v := nI 0) hx hb d_MD_group_110 (by decide) ?_
        refine g_callV (own := "GroupBitmapsModel") (C := "GroupBitmapsModel") (T := F_MD) (N := 11) (k := 2) (q0 := 0) (ci := 3) (a := am 0) (As := [.int (nI g), .int (nI 0)]) (rest := []) (c_MD_findRun0 (vTh τ 0) hτ g hg4) hx hb hml hown hg hK hI hA kw_537 kw_539 kp_26 kw_4 kw_540 ky_MD_findRun ⟨Nat.le_of_ble_eq_true rfl, Nat.le_of_ble_eq_true rfl⟩ rfl rfl (wm_0) rfl rfl hl.1 (Nat.le_of_ble_eq_true rfl) ⟨Nat.zero_le _, Nat.zero_le _⟩ d_MD_group_111 rfl rfl (fun H locs hI => ?_)
        refine lv_aload_n hx hb d_MD_group_114 rfl (lv_at hl 0 rfl) ?_
        refine g_get (own := "GroupBitmapsModel") (C := R_MD) (T := F_MD) (N := 11) (ci := 3) (v := .int (nI (mRz (mFr0 (vTh τ 0) g (mSz τ g))))) hx hb hg ku_MD hown hK hI (0) (wm_0) rfl 10 (by decide) kw_480 rfl d_MD_group_115 ?_
        exact g_ri hx hb hr hlk hI (by rw [show sGrp σ g 5 = sLen5 σ g from rfl, ← hR.l5 hg4]; rfl) d_MD_group_118
      · exact absurd h9 (by omega)
    · exact absurd h9 (by omega)
set_option maxHeartbeats 4000000 in
set_option maxRecDepth 100000 in
theorem c_MD_group_bad {l : Launch} {D : va_G} {cG cZ cI cJ : ClassId} {am : Nat → Nat} (σ : gS) (τ : mS) (hR : RI σ τ) (x y : Int32) (hbad : ¬ (¬ x < 0 ∧ ¬ nI (sCnt σ) ≤ x ∧ ¬ y < 0 ∧ y ≤ nI 5)) : gMet l D (gT cG cZ cI cJ) y_MD_group b_MD_group 3 (some .int) ({ frames := 1, cells := 0, slots := 0, locals := 26 }) (wm am cI cZ τ) [.ref (am 0), .int x, .int y] (wm am cI cZ (vTh τ 1)) (some (.int (nI 0))) := by
  refine gMet_of (by decide) (Nat.le_of_ble_eq_true rfl) ?_
  intro p e s m below meth c A ls hC hA hI hl
  obtain ⟨hx, hb, hr, hlk, hown, hml, hg, hK⟩ := hC
  have hown : s.vm.findClass "GroupBitmapsModel" = some m.cls := hown
  have hl : lv_has ls 3 [(0, .ref (am 0)), (1, .int x), (2, .int y)] := hl
  have hτ := hR.ok
  have hσ := hR.sb
  have hgr := hR.gr
  have hc1 := hσ.1
  have hc2 := hσ.2.1
  refine lv_aload_n hx hb d_MD_group_0 rfl (lv_at hl 0 rfl) ?_
  refine lv_iload_n hx hb d_MD_group_1 rfl (lv_at hl 1 rfl) ?_
  refine lv_if_lt (tgt := 22) hx hb d_MD_group_2 (by decide) (fun h => ?_) (fun h => ?_)
  · refine lv_iconst (v := nI 1) hx hb d_MD_group_22 (by decide) ?_
    refine lv_goto (tgt := 27) hx hb d_MD_group_23 (by decide) ?_
    refine g_put (ws' := (wm am cI cZ (vTh τ 1))) (own := "GroupBitmapsModel") (C := R_MD) (T := F_MD) (N := 11) (ci := 3) (v := .int (nI 1)) hx hb hg ku_MD t_MD t_MD_ok n_MD hown hK hI (0) (wm_0) rfl 0 (by decide) kw_470 rfl rfl (rfl) (rfl) (Nat.le_of_ble_eq_true rfl) (wm_vTh) d_MD_group_27 (fun H locs hI => ?_)
    refine lv_aload_n hx hb d_MD_group_30 rfl (lv_at hl 0 rfl) ?_
    refine g_get (own := "GroupBitmapsModel") (C := R_MD) (T := F_MD) (N := 11) (ci := 3) (v := .int (nI 1)) hx hb hg ku_MD hown hK hI (0) (wm_0) rfl 0 (by decide) kw_470 rfl d_MD_group_31 ?_
    refine r_zle (a := 1) (tgt := 39) hx hb d_MD_group_34 (by decide) (by omega) (fun h9 => ?_) (fun h9 => ?_)
    · exact absurd h9 (by omega)
    · refine lv_iconst (v := nI 0) hx hb d_MD_group_37 (by decide) ?_
      exact g_ri hx hb hr hlk hI (rfl) d_MD_group_38
  · refine lv_iload_n hx hb d_MD_group_5 rfl (lv_at hl 1 rfl) ?_
    refine lv_aload_n hx hb d_MD_group_6 rfl (lv_at hl 0 rfl) ?_
    refine g_get (own := "GroupBitmapsModel") (C := R_MD) (T := F_MD) (N := 11) (ci := 3) (v := .int (nI (mGr τ))) hx hb hg ku_MD hown hK hI (0) (wm_0) rfl 1 (by decide) kw_471 rfl d_MD_group_7 ?_
    rw [show mGr τ = sCnt σ from hgr]
    refine lv_icmp_ge (tgt := 22) hx hb d_MD_group_10 (by decide) (fun h2 => ?_) (fun h2 => ?_)
    · refine lv_iconst (v := nI 1) hx hb d_MD_group_22 (by decide) ?_
      refine lv_goto (tgt := 27) hx hb d_MD_group_23 (by decide) ?_
      refine g_put (ws' := (wm am cI cZ (vTh τ 1))) (own := "GroupBitmapsModel") (C := R_MD) (T := F_MD) (N := 11) (ci := 3) (v := .int (nI 1)) hx hb hg ku_MD t_MD t_MD_ok n_MD hown hK hI (0) (wm_0) rfl 0 (by decide) kw_470 rfl rfl (rfl) (rfl) (Nat.le_of_ble_eq_true rfl) (wm_vTh) d_MD_group_27 (fun H locs hI => ?_)
      refine lv_aload_n hx hb d_MD_group_30 rfl (lv_at hl 0 rfl) ?_
      refine g_get (own := "GroupBitmapsModel") (C := R_MD) (T := F_MD) (N := 11) (ci := 3) (v := .int (nI 1)) hx hb hg ku_MD hown hK hI (0) (wm_0) rfl 0 (by decide) kw_470 rfl d_MD_group_31 ?_
      refine r_zle (a := 1) (tgt := 39) hx hb d_MD_group_34 (by decide) (by omega) (fun h9 => ?_) (fun h9 => ?_)
      · exact absurd h9 (by omega)
      · refine lv_iconst (v := nI 0) hx hb d_MD_group_37 (by decide) ?_
        exact g_ri hx hb hr hlk hI (rfl) d_MD_group_38
    · refine lv_iload_n hx hb d_MD_group_13 rfl (lv_at hl 2 rfl) ?_
      refine lv_if_lt (tgt := 22) hx hb d_MD_group_14 (by decide) (fun h3 => ?_) (fun h3 => ?_)
      · refine lv_iconst (v := nI 1) hx hb d_MD_group_22 (by decide) ?_
        refine lv_goto (tgt := 27) hx hb d_MD_group_23 (by decide) ?_
        refine g_put (ws' := (wm am cI cZ (vTh τ 1))) (own := "GroupBitmapsModel") (C := R_MD) (T := F_MD) (N := 11) (ci := 3) (v := .int (nI 1)) hx hb hg ku_MD t_MD t_MD_ok n_MD hown hK hI (0) (wm_0) rfl 0 (by decide) kw_470 rfl rfl (rfl) (rfl) (Nat.le_of_ble_eq_true rfl) (wm_vTh) d_MD_group_27 (fun H locs hI => ?_)
        refine lv_aload_n hx hb d_MD_group_30 rfl (lv_at hl 0 rfl) ?_
        refine g_get (own := "GroupBitmapsModel") (C := R_MD) (T := F_MD) (N := 11) (ci := 3) (v := .int (nI 1)) hx hb hg ku_MD hown hK hI (0) (wm_0) rfl 0 (by decide) kw_470 rfl d_MD_group_31 ?_
        refine r_zle (a := 1) (tgt := 39) hx hb d_MD_group_34 (by decide) (by omega) (fun h9 => ?_) (fun h9 => ?_)
        · exact absurd h9 (by omega)
        · refine lv_iconst (v := nI 0) hx hb d_MD_group_37 (by decide) ?_
          exact g_ri hx hb hr hlk hI (rfl) d_MD_group_38
      · refine lv_iload_n hx hb d_MD_group_17 rfl (lv_at hl 2 rfl) ?_
        refine lv_iconst (v := nI 5) hx hb d_MD_group_18 (by decide) ?_
        refine lv_icmp_le (tgt := 26) hx hb d_MD_group_19 (by decide) (fun h4 => ?_) (fun h4 => ?_)
        · exact absurd ⟨h, h2, h3, h4⟩ hbad
        · refine lv_iconst (v := nI 1) hx hb d_MD_group_22 (by decide) ?_
          refine lv_goto (tgt := 27) hx hb d_MD_group_23 (by decide) ?_
          refine g_put (ws' := (wm am cI cZ (vTh τ 1))) (own := "GroupBitmapsModel") (C := R_MD) (T := F_MD) (N := 11) (ci := 3) (v := .int (nI 1)) hx hb hg ku_MD t_MD t_MD_ok n_MD hown hK hI (0) (wm_0) rfl 0 (by decide) kw_470 rfl rfl (rfl) (rfl) (Nat.le_of_ble_eq_true rfl) (wm_vTh) d_MD_group_27 (fun H locs hI => ?_)
          refine lv_aload_n hx hb d_MD_group_30 rfl (lv_at hl 0 rfl) ?_
          refine g_get (own := "GroupBitmapsModel") (C := R_MD) (T := F_MD) (N := 11) (ci := 3) (v := .int (nI 1)) hx hb hg ku_MD hown hK hI (0) (wm_0) rfl 0 (by decide) kw_470 rfl d_MD_group_31 ?_
          refine r_zle (a := 1) (tgt := 39) hx hb d_MD_group_34 (by decide) (by omega) (fun h9 => ?_) (fun h9 => ?_)
          · exact absurd h9 (by omega)
          · refine lv_iconst (v := nI 0) hx hb d_MD_group_37 (by decide) ?_
            exact g_ri hx hb hr hlk hI (rfl) d_MD_group_38
set_option maxHeartbeats 4000000 in
set_option maxRecDepth 100000 in
theorem c_MD_isTaken_b {l : Launch} {D : va_G} {cG cZ cI cJ : ClassId} {am : Nat → Nat} (σ : gS) (τ : mS) (hR : RI σ τ) (q : Nat) (hq : q < sAll σ) : gMet l D (gT cG cZ cI cJ) y_MD_isTaken b_MD_isTaken 3 (some .boolean) ({ frames := 1, cells := 0, slots := 0, locals := 21 }) (wm am cI cZ τ) [.ref (am 0), .int (nI 0), .int (nI q)] (wm am cI cZ (vTh τ 0)) (some (.int (bI (sSet σ (2 * (q / 256)) (q % 256))))) := by
  refine gMet_of (by decide) (Nat.le_of_ble_eq_true rfl) ?_
  intro p e s m below meth c A ls hC hA hI hl
  obtain ⟨hx, hb, hr, hlk, hown, hml, hg, hK⟩ := hC
  have hown : s.vm.findClass "GroupBitmapsModel" = some m.cls := hown
  have hl : lv_has ls 3 [(0, .ref (am 0)), (1, .int (nI 0)), (2, .int (nI q))] := hl
  have hτ := hR.ok
  have hσ := hR.sb
  have hgr := hR.gr
  have hc1 := hσ.1
  have hc2 := hσ.2.1
  have hq2 := sAll_le hσ
  have htk := hR.tk hq
  refine lv_aload_n hx hb d_MD_isTaken_0 rfl (lv_at hl 0 rfl) ?_
  refine lv_iload_n hx hb d_MD_isTaken_1 rfl (lv_at hl 1 rfl) ?_
  refine r_zne (a := 0) (tgt := 13) hx hb d_MD_isTaken_2 (by decide) (by omega) (fun h9 => ?_) (fun h9 => ?_)
  · exact absurd h9 (by omega)
  · refine lv_aload_n hx hb d_MD_isTaken_5 rfl (lv_at hl 0 rfl) ?_
    refine lv_iload_n hx hb d_MD_isTaken_6 rfl (lv_at hl 2 rfl) ?_
    refine g_callV (own := "GroupBitmapsModel") (C := "GroupBitmapsModel") (T := F_MD) (N := 11) (k := 1) (q0 := 0) (ci := 3) (a := am 0) (As := [.int (nI q)]) (rest := [.ref (am 0)]) (k_ib σ τ hR (nI q)) hx hb hml hown hg hK hI hA kw_529 kw_531 kp_24 kw_4 kw_532 ky_MD_isBlock ⟨Nat.le_of_ble_eq_true rfl, Nat.le_of_ble_eq_true rfl⟩ rfl rfl (wm_0) rfl rfl hl.1 (Nat.le_of_ble_eq_true rfl) ⟨Nat.zero_le _, Nat.zero_le _⟩ d_MD_isTaken_7 rfl rfl (fun H locs hI => ?_)
    refine r_bnz (b := sHasB σ (nI q)) (tgt := 26) hx hb d_MD_isTaken_10 (by decide) (fun h => ?_) (fun h => ?_)
    · refine lv_iconst (v := nI 0) hx hb d_MD_isTaken_26 (by decide) ?_
      refine lv_goto (tgt := 31) hx hb d_MD_isTaken_27 (by decide) ?_
      refine g_put (ws' := (wm am cI cZ (vTh τ 0))) (own := "GroupBitmapsModel") (C := R_MD) (T := F_MD) (N := 11) (ci := 3) (v := .int (nI 0)) hx hb hg ku_MD t_MD t_MD_ok n_MD hown hK hI (0) (wm_0) rfl 0 (by decide) kw_470 rfl rfl (rfl) (rfl) (Nat.le_of_ble_eq_true rfl) (wm_vTh) d_MD_isTaken_31 (fun H locs hI => ?_)
      refine lv_aload_n hx hb d_MD_isTaken_34 rfl (lv_at hl 0 rfl) ?_
      refine g_get (own := "GroupBitmapsModel") (C := R_MD) (T := F_MD) (N := 11) (ci := 3) (v := .int (nI 0)) hx hb hg ku_MD hown hK hI (0) (wm_0) rfl 0 (by decide) kw_470 rfl d_MD_isTaken_35 ?_
      refine r_zne (a := 0) (tgt := 72) hx hb d_MD_isTaken_38 (by decide) (by omega) (fun h9 => ?_) (fun h9 => ?_)
      · exact absurd h9 (by omega)
      · refine lv_iload_n hx hb d_MD_isTaken_41 rfl (lv_at hl 1 rfl) ?_
        refine r_zne (a := 0) (tgt := 57) hx hb d_MD_isTaken_42 (by decide) (by omega) (fun h9 => ?_) (fun h9 => ?_)
        · exact absurd h9 (by omega)
        · refine lv_aload_n hx hb d_MD_isTaken_45 rfl (lv_at hl 0 rfl) ?_
          refine g_get (own := "GroupBitmapsModel") (C := R_MD) (T := F_MD) (N := 11) (ci := 3) (v := .ref (am 2)) hx hb hg ku_MD hown hK hI (0) (wm_0) rfl 3 (by decide) kw_473 rfl d_MD_isTaken_46 ?_
          refine lv_iload_n hx hb d_MD_isTaken_49 rfl (lv_at hl 2 rfl) ?_
          refine g_zald (B := (mBk (vTh τ 0))) (i := q) hx hb hK hI (2) 1 (wm_Bk) rfl (by omega) (by omega) d_MD_isTaken_50 ?_
          refine r_bz (b := (mBk (vTh τ 0)) q) (tgt := 72) hx hb d_MD_isTaken_51 (by decide) (fun h2 => ?_) (fun h2 => ?_)
          · refine lv_iconst (v := bI false) hx hb d_MD_isTaken_72 (by decide) ?_
            exact g_rz hx hb hr hlk hI (by rw [htk, show mBk τ q = false from h2]) d_MD_isTaken_73
          · refine lv_goto (tgt := 68) hx hb d_MD_isTaken_54 (by decide) ?_
            refine lv_iconst (v := bI true) hx hb d_MD_isTaken_68 (by decide) ?_
            refine lv_goto (tgt := 73) hx hb d_MD_isTaken_69 (by decide) ?_
            exact g_rz hx hb hr hlk hI (by rw [htk, show mBk τ q = true from h2]) d_MD_isTaken_73
    · exact absurd ((sHasB_nI hσ hq).symm.trans h) (by decide)
set_option maxHeartbeats 4000000 in
set_option maxRecDepth 100000 in
theorem c_MD_isTaken_f {l : Launch} {D : va_G} {cG cZ cI cJ : ClassId} {am : Nat → Nat} (σ : gS) (τ : mS) (hR : RI σ τ) (f : Nat) (hf1 : 1 ≤ f) (hf : f ≤ sCnt σ * 128) : gMet l D (gT cG cZ cI cJ) y_MD_isTaken b_MD_isTaken 3 (some .boolean) ({ frames := 1, cells := 0, slots := 0, locals := 21 }) (wm am cI cZ τ) [.ref (am 0), .int (nI 1), .int (nI f)] (wm am cI cZ (vTh τ 0)) (some (.int (bI (sSet σ (2 * ((f - 1) / 128) + 1) ((f - 1) % 128))))) := by
  refine gMet_of (by decide) (Nat.le_of_ble_eq_true rfl) ?_
  intro p e s m below meth c A ls hC hA hI hl
  obtain ⟨hx, hb, hr, hlk, hown, hml, hg, hK⟩ := hC
  have hown : s.vm.findClass "GroupBitmapsModel" = some m.cls := hown
  have hl : lv_has ls 3 [(0, .ref (am 0)), (1, .int (nI 1)), (2, .int (nI f))] := hl
  have hτ := hR.ok
  have hσ := hR.sb
  have hgr := hR.gr
  have hc1 := hσ.1
  have hc2 := hσ.2.1
  have htk := hR.tf hf1 (by omega)
  refine lv_aload_n hx hb d_MD_isTaken_0 rfl (lv_at hl 0 rfl) ?_
  refine lv_iload_n hx hb d_MD_isTaken_1 rfl (lv_at hl 1 rfl) ?_
  refine r_zne (a := 1) (tgt := 13) hx hb d_MD_isTaken_2 (by decide) (by omega) (fun h9 => ?_) (fun h9 => ?_)
  · refine lv_iload_n hx hb d_MD_isTaken_13 rfl (lv_at hl 1 rfl) ?_
    refine lv_iconst (v := nI 1) hx hb d_MD_isTaken_14 (by decide) ?_
    refine r_ne (a := 1) (b := 1) (tgt := 30) hx hb d_MD_isTaken_15 (by decide) (by omega) (by omega) (fun h9 => ?_) (fun h9 => ?_)
    · exact absurd h9 (by omega)
    · refine lv_aload_n hx hb d_MD_isTaken_18 rfl (lv_at hl 0 rfl) ?_
      refine lv_iload_n hx hb d_MD_isTaken_19 rfl (lv_at hl 2 rfl) ?_
      refine g_callV (own := "GroupBitmapsModel") (C := "GroupBitmapsModel") (T := F_MD) (N := 11) (k := 1) (q0 := 0) (ci := 3) (a := am 0) (As := [.int (nI f)]) (rest := [.ref (am 0)]) (k_if σ τ hR (nI f)) hx hb hml hown hg hK hI hA kw_557 kw_559 kp_28 kw_4 kw_560 ky_MD_isFile ⟨Nat.le_of_ble_eq_true rfl, Nat.le_of_ble_eq_true rfl⟩ rfl rfl (wm_0) rfl rfl hl.1 (Nat.le_of_ble_eq_true rfl) ⟨Nat.zero_le _, Nat.zero_le _⟩ d_MD_isTaken_20 rfl rfl (fun H locs hI => ?_)
      refine r_bz (b := sHasF σ (nI f)) (tgt := 30) hx hb d_MD_isTaken_23 (by decide) (fun h => ?_) (fun h => ?_)
      · exact absurd ((sHasF_nI hσ hf1 hf).symm.trans h) (by decide)
      · refine lv_iconst (v := nI 0) hx hb d_MD_isTaken_26 (by decide) ?_
        refine lv_goto (tgt := 31) hx hb d_MD_isTaken_27 (by decide) ?_
        refine g_put (ws' := (wm am cI cZ (vTh τ 0))) (own := "GroupBitmapsModel") (C := R_MD) (T := F_MD) (N := 11) (ci := 3) (v := .int (nI 0)) hx hb hg ku_MD t_MD t_MD_ok n_MD hown hK hI (0) (wm_0) rfl 0 (by decide) kw_470 rfl rfl (rfl) (rfl) (Nat.le_of_ble_eq_true rfl) (wm_vTh) d_MD_isTaken_31 (fun H locs hI => ?_)
        refine lv_aload_n hx hb d_MD_isTaken_34 rfl (lv_at hl 0 rfl) ?_
        refine g_get (own := "GroupBitmapsModel") (C := R_MD) (T := F_MD) (N := 11) (ci := 3) (v := .int (nI 0)) hx hb hg ku_MD hown hK hI (0) (wm_0) rfl 0 (by decide) kw_470 rfl d_MD_isTaken_35 ?_
        refine r_zne (a := 0) (tgt := 72) hx hb d_MD_isTaken_38 (by decide) (by omega) (fun h9 => ?_) (fun h9 => ?_)
        · exact absurd h9 (by omega)
        · refine lv_iload_n hx hb d_MD_isTaken_41 rfl (lv_at hl 1 rfl) ?_
          refine r_zne (a := 1) (tgt := 57) hx hb d_MD_isTaken_42 (by decide) (by omega) (fun h9 => ?_) (fun h9 => ?_)
          · refine lv_aload_n hx hb d_MD_isTaken_57 rfl (lv_at hl 0 rfl) ?_
            refine g_get (own := "GroupBitmapsModel") (C := R_MD) (T := F_MD) (N := 11) (ci := 3) (v := .ref (am 3)) hx hb hg ku_MD hown hK hI (0) (wm_0) rfl 4 (by decide) kw_474 rfl d_MD_isTaken_58 ?_
            refine lv_iload_n hx hb d_MD_isTaken_61 rfl (lv_at hl 2 rfl) ?_
            refine lv_iconst (v := nI 1) hx hb d_MD_isTaken_62 (by decide) ?_
            refine r_isub (a := f) (b := 1) hx hb (by omega) d_MD_isTaken_63 ?_
            refine g_zald (B := (mFl (vTh τ 0))) (i := f - 1) hx hb hK hI (3) 1 (wm_Fl) rfl (by omega) (by omega) d_MD_isTaken_64 ?_
            refine r_bz (b := (mFl (vTh τ 0)) (f - 1)) (tgt := 72) hx hb d_MD_isTaken_65 (by decide) (fun h2 => ?_) (fun h2 => ?_)
            · refine lv_iconst (v := bI false) hx hb d_MD_isTaken_72 (by decide) ?_
              exact g_rz hx hb hr hlk hI (by rw [htk, show mFl τ (f - 1) = false from h2]) d_MD_isTaken_73
            · refine lv_iconst (v := bI true) hx hb d_MD_isTaken_68 (by decide) ?_
              refine lv_goto (tgt := 73) hx hb d_MD_isTaken_69 (by decide) ?_
              exact g_rz hx hb hr hlk hI (by rw [htk, show mFl τ (f - 1) = true from h2]) d_MD_isTaken_73
          · exact absurd h9 (by omega)
  · exact absurd h9 (by omega)
set_option maxHeartbeats 4000000 in
set_option maxRecDepth 100000 in
theorem c_MD_isTaken_bad {l : Launch} {D : va_G} {cG cZ cI cJ : ClassId} {am : Nat → Nat} (σ : gS) (τ : mS) (hR : RI σ τ) (x y : Int32) (hbad : ¬ (x = 0 ∧ sHasB σ y = true)) (hbad2 : ¬ (x = nI 1 ∧ sHasF σ y = true)) : gMet l D (gT cG cZ cI cJ) y_MD_isTaken b_MD_isTaken 3 (some .boolean) ({ frames := 1, cells := 0, slots := 0, locals := 21 }) (wm am cI cZ τ) [.ref (am 0), .int x, .int y] (wm am cI cZ (vTh τ 1)) (some (.int (bI false))) := by
  refine gMet_of (by decide) (Nat.le_of_ble_eq_true rfl) ?_
  intro p e s m below meth c A ls hC hA hI hl
  obtain ⟨hx, hb, hr, hlk, hown, hml, hg, hK⟩ := hC
  have hown : s.vm.findClass "GroupBitmapsModel" = some m.cls := hown
  have hl : lv_has ls 3 [(0, .ref (am 0)), (1, .int x), (2, .int y)] := hl
  have hτ := hR.ok
  have hσ := hR.sb
  have hgr := hR.gr
  have hc1 := hσ.1
  have hc2 := hσ.2.1
  refine lv_aload_n hx hb d_MD_isTaken_0 rfl (lv_at hl 0 rfl) ?_
  refine lv_iload_n hx hb d_MD_isTaken_1 rfl (lv_at hl 1 rfl) ?_
  refine lv_if_ne (tgt := 13) hx hb d_MD_isTaken_2 (by decide) (fun h => ?_) (fun h => ?_)
  · refine lv_iload_n hx hb d_MD_isTaken_13 rfl (lv_at hl 1 rfl) ?_
    refine lv_iconst (v := nI 1) hx hb d_MD_isTaken_14 (by decide) ?_
    refine lv_icmp_ne (tgt := 30) hx hb d_MD_isTaken_15 (by decide) (fun h3 => ?_) (fun h3 => ?_)
    · refine lv_iconst (v := nI 1) hx hb d_MD_isTaken_30 (by decide) ?_
      refine g_put (ws' := (wm am cI cZ (vTh τ 1))) (own := "GroupBitmapsModel") (C := R_MD) (T := F_MD) (N := 11) (ci := 3) (v := .int (nI 1)) hx hb hg ku_MD t_MD t_MD_ok n_MD hown hK hI (0) (wm_0) rfl 0 (by decide) kw_470 rfl rfl (rfl) (rfl) (Nat.le_of_ble_eq_true rfl) (wm_vTh) d_MD_isTaken_31 (fun H locs hI => ?_)
      refine lv_aload_n hx hb d_MD_isTaken_34 rfl (lv_at hl 0 rfl) ?_
      refine g_get (own := "GroupBitmapsModel") (C := R_MD) (T := F_MD) (N := 11) (ci := 3) (v := .int (nI 1)) hx hb hg ku_MD hown hK hI (0) (wm_0) rfl 0 (by decide) kw_470 rfl d_MD_isTaken_35 ?_
      refine r_zne (a := 1) (tgt := 72) hx hb d_MD_isTaken_38 (by decide) (by omega) (fun h9 => ?_) (fun h9 => ?_)
      · refine lv_iconst (v := bI false) hx hb d_MD_isTaken_72 (by decide) ?_
        exact g_rz hx hb hr hlk hI (rfl) d_MD_isTaken_73
      · exact absurd h9 (by omega)
    · refine lv_aload_n hx hb d_MD_isTaken_18 rfl (lv_at hl 0 rfl) ?_
      refine lv_iload_n hx hb d_MD_isTaken_19 rfl (lv_at hl 2 rfl) ?_
      refine g_callV (own := "GroupBitmapsModel") (C := "GroupBitmapsModel") (T := F_MD) (N := 11) (k := 1) (q0 := 0) (ci := 3) (a := am 0) (As := [.int y]) (rest := [.ref (am 0)]) (k_if σ τ hR y) hx hb hml hown hg hK hI hA kw_557 kw_559 kp_28 kw_4 kw_560 ky_MD_isFile ⟨Nat.le_of_ble_eq_true rfl, Nat.le_of_ble_eq_true rfl⟩ rfl rfl (wm_0) rfl rfl hl.1 (Nat.le_of_ble_eq_true rfl) ⟨Nat.zero_le _, Nat.zero_le _⟩ d_MD_isTaken_20 rfl rfl (fun H locs hI => ?_)
      refine r_bz (b := sHasF σ y) (tgt := 30) hx hb d_MD_isTaken_23 (by decide) (fun h4 => ?_) (fun h4 => ?_)
      · refine lv_iconst (v := nI 1) hx hb d_MD_isTaken_30 (by decide) ?_
        refine g_put (ws' := (wm am cI cZ (vTh τ 1))) (own := "GroupBitmapsModel") (C := R_MD) (T := F_MD) (N := 11) (ci := 3) (v := .int (nI 1)) hx hb hg ku_MD t_MD t_MD_ok n_MD hown hK hI (0) (wm_0) rfl 0 (by decide) kw_470 rfl rfl (rfl) (rfl) (Nat.le_of_ble_eq_true rfl) (wm_vTh) d_MD_isTaken_31 (fun H locs hI => ?_)
        refine lv_aload_n hx hb d_MD_isTaken_34 rfl (lv_at hl 0 rfl) ?_
        refine g_get (own := "GroupBitmapsModel") (C := R_MD) (T := F_MD) (N := 11) (ci := 3) (v := .int (nI 1)) hx hb hg ku_MD hown hK hI (0) (wm_0) rfl 0 (by decide) kw_470 rfl d_MD_isTaken_35 ?_
        refine r_zne (a := 1) (tgt := 72) hx hb d_MD_isTaken_38 (by decide) (by omega) (fun h9 => ?_) (fun h9 => ?_)
        · refine lv_iconst (v := bI false) hx hb d_MD_isTaken_72 (by decide) ?_
          exact g_rz hx hb hr hlk hI (rfl) d_MD_isTaken_73
        · exact absurd h9 (by omega)
      · exact absurd ⟨by first | exact h3 | exact Classical.not_not.mp h3, h4⟩ hbad2
  · refine lv_aload_n hx hb d_MD_isTaken_5 rfl (lv_at hl 0 rfl) ?_
    refine lv_iload_n hx hb d_MD_isTaken_6 rfl (lv_at hl 2 rfl) ?_
    refine g_callV (own := "GroupBitmapsModel") (C := "GroupBitmapsModel") (T := F_MD) (N := 11) (k := 1) (q0 := 0) (ci := 3) (a := am 0) (As := [.int y]) (rest := [.ref (am 0)]) (k_ib σ τ hR y) hx hb hml hown hg hK hI hA kw_529 kw_531 kp_24 kw_4 kw_532 ky_MD_isBlock ⟨Nat.le_of_ble_eq_true rfl, Nat.le_of_ble_eq_true rfl⟩ rfl rfl (wm_0) rfl rfl hl.1 (Nat.le_of_ble_eq_true rfl) ⟨Nat.zero_le _, Nat.zero_le _⟩ d_MD_isTaken_7 rfl rfl (fun H locs hI => ?_)
    refine r_bnz (b := sHasB σ y) (tgt := 26) hx hb d_MD_isTaken_10 (by decide) (fun h2 => ?_) (fun h2 => ?_)
    · exact absurd ⟨by first | exact h | exact Classical.not_not.mp h, h2⟩ hbad
    · refine lv_iload_n hx hb d_MD_isTaken_13 rfl (lv_at hl 1 rfl) ?_
      refine lv_iconst (v := nI 1) hx hb d_MD_isTaken_14 (by decide) ?_
      refine lv_icmp_ne (tgt := 30) hx hb d_MD_isTaken_15 (by decide) (fun h3 => ?_) (fun h3 => ?_)
      · refine lv_iconst (v := nI 1) hx hb d_MD_isTaken_30 (by decide) ?_
        refine g_put (ws' := (wm am cI cZ (vTh τ 1))) (own := "GroupBitmapsModel") (C := R_MD) (T := F_MD) (N := 11) (ci := 3) (v := .int (nI 1)) hx hb hg ku_MD t_MD t_MD_ok n_MD hown hK hI (0) (wm_0) rfl 0 (by decide) kw_470 rfl rfl (rfl) (rfl) (Nat.le_of_ble_eq_true rfl) (wm_vTh) d_MD_isTaken_31 (fun H locs hI => ?_)
        refine lv_aload_n hx hb d_MD_isTaken_34 rfl (lv_at hl 0 rfl) ?_
        refine g_get (own := "GroupBitmapsModel") (C := R_MD) (T := F_MD) (N := 11) (ci := 3) (v := .int (nI 1)) hx hb hg ku_MD hown hK hI (0) (wm_0) rfl 0 (by decide) kw_470 rfl d_MD_isTaken_35 ?_
        refine r_zne (a := 1) (tgt := 72) hx hb d_MD_isTaken_38 (by decide) (by omega) (fun h9 => ?_) (fun h9 => ?_)
        · refine lv_iconst (v := bI false) hx hb d_MD_isTaken_72 (by decide) ?_
          exact g_rz hx hb hr hlk hI (rfl) d_MD_isTaken_73
        · exact absurd h9 (by omega)
      · refine lv_aload_n hx hb d_MD_isTaken_18 rfl (lv_at hl 0 rfl) ?_
        refine lv_iload_n hx hb d_MD_isTaken_19 rfl (lv_at hl 2 rfl) ?_
        refine g_callV (own := "GroupBitmapsModel") (C := "GroupBitmapsModel") (T := F_MD) (N := 11) (k := 1) (q0 := 0) (ci := 3) (a := am 0) (As := [.int y]) (rest := [.ref (am 0)]) (k_if σ τ hR y) hx hb hml hown hg hK hI hA kw_557 kw_559 kp_28 kw_4 kw_560 ky_MD_isFile ⟨Nat.le_of_ble_eq_true rfl, Nat.le_of_ble_eq_true rfl⟩ rfl rfl (wm_0) rfl rfl hl.1 (Nat.le_of_ble_eq_true rfl) ⟨Nat.zero_le _, Nat.zero_le _⟩ d_MD_isTaken_20 rfl rfl (fun H locs hI => ?_)
        refine r_bz (b := sHasF σ y) (tgt := 30) hx hb d_MD_isTaken_23 (by decide) (fun h4 => ?_) (fun h4 => ?_)
        · refine lv_iconst (v := nI 1) hx hb d_MD_isTaken_30 (by decide) ?_
          refine g_put (ws' := (wm am cI cZ (vTh τ 1))) (own := "GroupBitmapsModel") (C := R_MD) (T := F_MD) (N := 11) (ci := 3) (v := .int (nI 1)) hx hb hg ku_MD t_MD t_MD_ok n_MD hown hK hI (0) (wm_0) rfl 0 (by decide) kw_470 rfl rfl (rfl) (rfl) (Nat.le_of_ble_eq_true rfl) (wm_vTh) d_MD_isTaken_31 (fun H locs hI => ?_)
          refine lv_aload_n hx hb d_MD_isTaken_34 rfl (lv_at hl 0 rfl) ?_
          refine g_get (own := "GroupBitmapsModel") (C := R_MD) (T := F_MD) (N := 11) (ci := 3) (v := .int (nI 1)) hx hb hg ku_MD hown hK hI (0) (wm_0) rfl 0 (by decide) kw_470 rfl d_MD_isTaken_35 ?_
          refine r_zne (a := 1) (tgt := 72) hx hb d_MD_isTaken_38 (by decide) (by omega) (fun h9 => ?_) (fun h9 => ?_)
          · refine lv_iconst (v := bI false) hx hb d_MD_isTaken_72 (by decide) ?_
            exact g_rz hx hb hr hlk hI (rfl) d_MD_isTaken_73
          · exact absurd h9 (by omega)
        · exact absurd ⟨by first | exact h3 | exact Classical.not_not.mp h3, h4⟩ hbad2
