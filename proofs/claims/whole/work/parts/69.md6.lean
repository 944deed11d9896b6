set_option maxHeartbeats 4000000 in
set_option maxRecDepth 100000 in
theorem c_MD_lay {l : Launch} {D : va_G} {cG cZ cI cJ : ClassId} {am : Nat → Nat} (σ : gS) (τ : mS) (N : Nat) (hK0 : RK N σ τ) (hN : N < 65536) (a la : Nat) (h1 : 1 ≤ a) (h4 : a ≤ 4) (hla : 16 ≤ la) (hla2 : la ≤ 256) : gMet l D (gT cG cZ cI cJ) y_MD_lay b_MD_lay 3 (some .int) ({ frames := 3, cells := 0, slots := 0, locals := 64 }) (wm am cI cZ τ) [.ref (am 0), .int (nI a), .int (nI la)] (wm am cI cZ (mLays (mLay0 (vTh τ 0) a) a la a)) (some (.int (nI (sFB (sLayAll σ a la) (sCnt (sLayAll σ a la)))))) := by
  refine gMet_of (by decide) (Nat.le_of_ble_eq_true rfl) ?_
  intro p e s m below meth c A ls hC hA hI hl
  obtain ⟨hx, hb, hr, hlk, hown, hml, hg, hK⟩ := hC
  have hown : s.vm.findClass "GroupBitmapsModel" = some m.cls := hown
  have hl : lv_has ls 3 [(0, .ref (am 0)), (1, .int (nI a)), (2, .int (nI la))] := hl
  have hR := hK0.ri hN
  have hτ := hR.ok
  have hσ := hR.sb
  have hgr := hR.gr
  have hc1 := hσ.1
  have hc2 := hσ.2.1
  have hK1 := (hK0.th 0).lay h1 h4 hla hla2
  have hR1 := hK1.ri hN
  refine lv_aload_n hx hb d_MD_lay_0 rfl (lv_at hl 0 rfl) ?_
  refine lv_iload_n hx hb d_MD_lay_1 rfl (lv_at hl 1 rfl) ?_
  refine lv_iconst (v := nI 1) hx hb d_MD_lay_2 (by decide) ?_
  refine r_lt (a := a) (b := 1) (tgt := 24) hx hb d_MD_lay_3 (by decide) (by omega) (by omega) (fun h9 => ?_) (fun h9 => ?_)
  · exact absurd h9 (by omega)
  · refine lv_iload_n hx hb d_MD_lay_6 rfl (lv_at hl 1 rfl) ?_
    refine lv_iconst (v := nI 4) hx hb d_MD_lay_7 (by decide) ?_
    refine r_gt (a := a) (b := 4) (tgt := 24) hx hb d_MD_lay_8 (by decide) (by omega) (by omega) (fun h9 => ?_) (fun h9 => ?_)
    · exact absurd h9 (by omega)
    · refine lv_iload_n hx hb d_MD_lay_11 rfl (lv_at hl 2 rfl) ?_
      refine lv_bipush (v := nI 16) hx hb d_MD_lay_12 (by decide) ?_
      refine r_lt (a := la) (b := 16) (tgt := 24) hx hb d_MD_lay_14 (by decide) (by omega) (by omega) (fun h9 => ?_) (fun h9 => ?_)
      · exact absurd h9 (by omega)
      · refine lv_iload_n hx hb d_MD_lay_17 rfl (lv_at hl 2 rfl) ?_
        refine lv_sipush (v := nI 256) hx hb d_MD_lay_18 (by decide) ?_
        refine r_le (a := la) (b := 256) (tgt := 28) hx hb d_MD_lay_21 (by decide) (by omega) (by omega) (fun h9 => ?_) (fun h9 => ?_)
        · refine lv_iconst (v := nI 0) hx hb d_MD_lay_28 (by decide) ?_
          refine g_put (ws' := (wm am cI cZ (vTh τ 0))) (own := "GroupBitmapsModel") (C := R_MD) (T := F_MD) (N := 11) (ci := 3) (v := .int (nI 0)) hx hb hg ku_MD t_MD t_MD_ok n_MD hown hK hI (0) (wm_0) rfl 0 (by decide) kw_470 rfl rfl (rfl) (rfl) (Nat.le_of_ble_eq_true rfl) (wm_vTh) d_MD_lay_29 (fun H locs hI => ?_)
          refine lv_aload_n hx hb d_MD_lay_32 rfl (lv_at hl 0 rfl) ?_
          refine g_get (own := "GroupBitmapsModel") (C := R_MD) (T := F_MD) (N := 11) (ci := 3) (v := .int (nI 0)) hx hb hg ku_MD hown hK hI (0) (wm_0) rfl 0 (by decide) kw_470 rfl d_MD_lay_33 ?_
          refine r_zle (a := 0) (tgt := 41) hx hb d_MD_lay_36 (by decide) (by omega) (fun h9 => ?_) (fun h9 => ?_)
          · refine lv_aload_n hx hb d_MD_lay_41 rfl (lv_at hl 0 rfl) ?_
            refine lv_iload_n hx hb d_MD_lay_42 rfl (lv_at hl 1 rfl) ?_
            refine lv_iload_n hx hb d_MD_lay_43 rfl (lv_at hl 2 rfl) ?_
            refine g_callV (own := "GroupBitmapsModel") (C := "GroupBitmapsModel") (T := F_MD) (N := 11) (k := 2) (q0 := 0) (ci := 3) (a := am 0) (As := [.int (nI a), .int (nI la)]) (rest := []) (c_MD_layOut (vTh τ 0) a la h1 h4 hla2) hx hb hml hown hg hK hI hA kw_457 kw_459 kp_21 kw_4 kw_460 ky_MD_layOut ⟨Nat.le_of_ble_eq_true rfl, Nat.le_of_ble_eq_true rfl⟩ rfl rfl (wm_0) rfl rfl hl.1 (Nat.le_of_ble_eq_true rfl) ⟨Nat.zero_le _, Nat.zero_le _⟩ d_MD_lay_44 rfl rfl (fun H locs hI => ?_)
            refine lv_aload_n hx hb d_MD_lay_47 rfl (lv_at hl 0 rfl) ?_
            refine g_callV (own := "GroupBitmapsModel") (C := "GroupBitmapsModel") (T := F_MD) (N := 11) (k := 0) (q0 := 0) (ci := 3) (a := am 0) (As := []) (rest := []) (k_ab (sLayAll σ a la) (mLays (mLay0 (vTh τ 0) a) a la a) hR1) hx hb hml hown hg hK hI hA kw_513 kw_515 kp_22 kw_4 kw_516 ky_MD_allBlocks ⟨Nat.le_of_ble_eq_true rfl, Nat.le_of_ble_eq_true rfl⟩ rfl rfl (wm_0) rfl rfl hl.1 (Nat.le_of_ble_eq_true rfl) ⟨Nat.zero_le _, Nat.zero_le _⟩ d_MD_lay_48 rfl rfl (fun H locs hI => ?_)
            exact g_ri hx hb hr hlk hI (rfl) d_MD_lay_51
          · exact absurd h9 (by omega)
        · exact absurd h9 (by omega)
set_option maxHeartbeats 4000000 in
set_option maxRecDepth 100000 in
theorem c_MD_lay_bad {l : Launch} {D : va_G} {cG cZ cI cJ : ClassId} {am : Nat → Nat} (σ : gS) (τ : mS) (N : Nat) (hK0 : RK N σ τ) (hN : N < 65536) (x y : Int32) (hbad : ¬ (¬ x < nI 1 ∧ ¬ nI 4 < x ∧ ¬ y < nI 16 ∧ y ≤ nI 256)) : gMet l D (gT cG cZ cI cJ) y_MD_lay b_MD_lay 3 (some .int) ({ frames := 3, cells := 0, slots := 0, locals := 64 }) (wm am cI cZ τ) [.ref (am 0), .int x, .int y] (wm am cI cZ (vTh τ 1)) (some (.int (nI 0))) := by
  refine gMet_of (by decide) (Nat.le_of_ble_eq_true rfl) ?_
  intro p e s m below meth c A ls hC hA hI hl
  obtain ⟨hx, hb, hr, hlk, hown, hml, hg, hK⟩ := hC
  have hown : s.vm.findClass "GroupBitmapsModel" = some m.cls := hown
  have hl : lv_has ls 3 [(0, .ref (am 0)), (1, .int x), (2, .int y)] := hl
  have hR := hK0.ri hN
  have hτ := hR.ok
  have hσ := hR.sb
  have hgr := hR.gr
  have hc1 := hσ.1
  have hc2 := hσ.2.1
  refine lv_aload_n hx hb d_MD_lay_0 rfl (lv_at hl 0 rfl) ?_
  refine lv_iload_n hx hb d_MD_lay_1 rfl (lv_at hl 1 rfl) ?_
  refine lv_iconst (v := nI 1) hx hb d_MD_lay_2 (by decide) ?_
  refine lv_icmp_lt (tgt := 24) hx hb d_MD_lay_3 (by decide) (fun h => ?_) (fun h => ?_)
  · refine lv_iconst (v := nI 1) hx hb d_MD_lay_24 (by decide) ?_
    refine lv_goto (tgt := 29) hx hb d_MD_lay_25 (by decide) ?_
    refine g_put (ws' := (wm am cI cZ (vTh τ 1))) (own := "GroupBitmapsModel") (C := R_MD) (T := F_MD) (N := 11) (ci := 3) (v := .int (nI 1)) hx hb hg ku_MD t_MD t_MD_ok n_MD hown hK hI (0) (wm_0) rfl 0 (by decide) kw_470 rfl rfl (rfl) (rfl) (Nat.le_of_ble_eq_true rfl) (wm_vTh) d_MD_lay_29 (fun H locs hI => ?_)
    refine lv_aload_n hx hb d_MD_lay_32 rfl (lv_at hl 0 rfl) ?_
    refine g_get (own := "GroupBitmapsModel") (C := R_MD) (T := F_MD) (N := 11) (ci := 3) (v := .int (nI 1)) hx hb hg ku_MD hown hK hI (0) (wm_0) rfl 0 (by decide) kw_470 rfl d_MD_lay_33 ?_
    refine r_zle (a := 1) (tgt := 41) hx hb d_MD_lay_36 (by decide) (by omega) (fun h9 => ?_) (fun h9 => ?_)
    · exact absurd h9 (by omega)
    · refine lv_iconst (v := nI 0) hx hb d_MD_lay_39 (by decide) ?_
      exact g_ri hx hb hr hlk hI (rfl) d_MD_lay_40
  · refine lv_iload_n hx hb d_MD_lay_6 rfl (lv_at hl 1 rfl) ?_
    refine lv_iconst (v := nI 4) hx hb d_MD_lay_7 (by decide) ?_
    refine lv_icmp_gt (tgt := 24) hx hb d_MD_lay_8 (by decide) (fun h2 => ?_) (fun h2 => ?_)
    · refine lv_iconst (v := nI 1) hx hb d_MD_lay_24 (by decide) ?_
      refine lv_goto (tgt := 29) hx hb d_MD_lay_25 (by decide) ?_
      refine g_put (ws' := (wm am cI cZ (vTh τ 1))) (own := "GroupBitmapsModel") (C := R_MD) (T := F_MD) (N := 11) (ci := 3) (v := .int (nI 1)) hx hb hg ku_MD t_MD t_MD_ok n_MD hown hK hI (0) (wm_0) rfl 0 (by decide) kw_470 rfl rfl (rfl) (rfl) (Nat.le_of_ble_eq_true rfl) (wm_vTh) d_MD_lay_29 (fun H locs hI => ?_)
      refine lv_aload_n hx hb d_MD_lay_32 rfl (lv_at hl 0 rfl) ?_
      refine g_get (own := "GroupBitmapsModel") (C := R_MD) (T := F_MD) (N := 11) (ci := 3) (v := .int (nI 1)) hx hb hg ku_MD hown hK hI (0) (wm_0) rfl 0 (by decide) kw_470 rfl d_MD_lay_33 ?_
      refine r_zle (a := 1) (tgt := 41) hx hb d_MD_lay_36 (by decide) (by omega) (fun h9 => ?_) (fun h9 => ?_)
      · exact absurd h9 (by omega)
      · refine lv_iconst (v := nI 0) hx hb d_MD_lay_39 (by decide) ?_
        exact g_ri hx hb hr hlk hI (rfl) d_MD_lay_40
    · refine lv_iload_n hx hb d_MD_lay_11 rfl (lv_at hl 2 rfl) ?_
      refine lv_bipush (v := nI 16) hx hb d_MD_lay_12 (by decide) ?_
      refine lv_icmp_lt (tgt := 24) hx hb d_MD_lay_14 (by decide) (fun h3 => ?_) (fun h3 => ?_)
      · refine lv_iconst (v := nI 1) hx hb d_MD_lay_24 (by decide) ?_
        refine lv_goto (tgt := 29) hx hb d_MD_lay_25 (by decide) ?_
        refine g_put (ws' := (wm am cI cZ (vTh τ 1))) (own := "GroupBitmapsModel") (C := R_MD) (T := F_MD) (N := 11) (ci := 3) (v := .int (nI 1)) hx hb hg ku_MD t_MD t_MD_ok n_MD hown hK hI (0) (wm_0) rfl 0 (by decide) kw_470 rfl rfl (rfl) (rfl) (Nat.le_of_ble_eq_true rfl) (wm_vTh) d_MD_lay_29 (fun H locs hI => ?_)
        refine lv_aload_n hx hb d_MD_lay_32 rfl (lv_at hl 0 rfl) ?_
        refine g_get (own := "GroupBitmapsModel") (C := R_MD) (T := F_MD) (N := 11) (ci := 3) (v := .int (nI 1)) hx hb hg ku_MD hown hK hI (0) (wm_0) rfl 0 (by decide) kw_470 rfl d_MD_lay_33 ?_
        refine r_zle (a := 1) (tgt := 41) hx hb d_MD_lay_36 (by decide) (by omega) (fun h9 => ?_) (fun h9 => ?_)
        · exact absurd h9 (by omega)
        · refine lv_iconst (v := nI 0) hx hb d_MD_lay_39 (by decide) ?_
          exact g_ri hx hb hr hlk hI (rfl) d_MD_lay_40
      · refine lv_iload_n hx hb d_MD_lay_17 rfl (lv_at hl 2 rfl) ?_
        refine lv_sipush (v := nI 256) hx hb d_MD_lay_18 (by decide) ?_
        refine lv_icmp_le (tgt := 28) hx hb d_MD_lay_21 (by decide) (fun h4 => ?_) (fun h4 => ?_)
        · exact absurd ⟨h, h2, h3, h4⟩ hbad
        · refine lv_iconst (v := nI 1) hx hb d_MD_lay_24 (by decide) ?_
          refine lv_goto (tgt := 29) hx hb d_MD_lay_25 (by decide) ?_
          refine g_put (ws' := (wm am cI cZ (vTh τ 1))) (own := "GroupBitmapsModel") (C := R_MD) (T := F_MD) (N := 11) (ci := 3) (v := .int (nI 1)) hx hb hg ku_MD t_MD t_MD_ok n_MD hown hK hI (0) (wm_0) rfl 0 (by decide) kw_470 rfl rfl (rfl) (rfl) (Nat.le_of_ble_eq_true rfl) (wm_vTh) d_MD_lay_29 (fun H locs hI => ?_)
          refine lv_aload_n hx hb d_MD_lay_32 rfl (lv_at hl 0 rfl) ?_
          refine g_get (own := "GroupBitmapsModel") (C := R_MD) (T := F_MD) (N := 11) (ci := 3) (v := .int (nI 1)) hx hb hg ku_MD hown hK hI (0) (wm_0) rfl 0 (by decide) kw_470 rfl d_MD_lay_33 ?_
          refine r_zle (a := 1) (tgt := 41) hx hb d_MD_lay_36 (by decide) (by omega) (fun h9 => ?_) (fun h9 => ?_)
          · exact absurd h9 (by omega)
          · refine lv_iconst (v := nI 0) hx hb d_MD_lay_39 (by decide) ?_
            exact g_ri hx hb hr hlk hI (rfl) d_MD_lay_40
set_option maxHeartbeats 4000000 in
set_option maxRecDepth 100000 in
theorem c_MD_reserve {l : Launch} {D : va_G} {cG cZ cI cJ : ClassId} {am : Nat → Nat} (σ : gS) (τ : mS) (N : Nat) (hK0 : RK N σ τ) (hN : N < 65536) (q : Nat) (hq : q ≤ 100) : gMet l D (gT cG cZ cI cJ) y_MD_reserve b_MD_reserve 3 (some .int) ({ frames := 2, cells := 0, slots := 0, locals := 45 }) (wm am cI cZ τ) [.ref (am 0), .int (nI q)] (wm am cI cZ (vRs (vTh τ 0) q)) (some (.int (nI (sFB (uRsv σ q) (sCnt (uRsv σ q)) - q)))) := by
  refine gMet_of (by decide) (Nat.le_of_ble_eq_true rfl) ?_
  intro p e s m below meth c A ls hC hA hI hl
  obtain ⟨hx, hb, hr, hlk, hown, hml, hg, hK⟩ := hC
  have hown : s.vm.findClass "GroupBitmapsModel" = some m.cls := hown
  have hl : lv_has ls 3 [(0, .ref (am 0)), (1, .int (nI q))] := hl
  have hR := hK0.ri hN
  have hτ := hR.ok
  have hσ := hR.sb
  have hgr := hR.gr
  have hc1 := hσ.1
  have hc2 := hσ.2.1
  have hR1 := ((hK0.th 0).rsv hq).ri hN
  have hAl : sFB (uRsv σ q) (sCnt (uRsv σ q)) ≤ 1024 := by have := sFB_le hR1.sb _ hR1.sb.2.1; have := hR1.sb.2.1; omega
  refine lv_aload_n hx hb d_MD_reserve_0 rfl (lv_at hl 0 rfl) ?_
  refine lv_iload_n hx hb d_MD_reserve_1 rfl (lv_at hl 1 rfl) ?_
  refine r_zlt (a := q) (tgt := 11) hx hb d_MD_reserve_2 (by decide) (by omega) ?_
  refine lv_iload_n hx hb d_MD_reserve_5 rfl (lv_at hl 1 rfl) ?_
  refine lv_bipush (v := nI 100) hx hb d_MD_reserve_6 (by decide) ?_
  refine r_le (a := q) (b := 100) (tgt := 15) hx hb d_MD_reserve_8 (by decide) (by omega) (by omega) (fun h9 => ?_) (fun h9 => ?_)
  · refine lv_iconst (v := nI 0) hx hb d_MD_reserve_15 (by decide) ?_
    refine g_put (ws' := (wm am cI cZ (vTh τ 0))) (own := "GroupBitmapsModel") (C := R_MD) (T := F_MD) (N := 11) (ci := 3) (v := .int (nI 0)) hx hb hg ku_MD t_MD t_MD_ok n_MD hown hK hI (0) (wm_0) rfl 0 (by decide) kw_470 rfl rfl (rfl) (rfl) (Nat.le_of_ble_eq_true rfl) (wm_vTh) d_MD_reserve_16 (fun H locs hI => ?_)
    refine lv_aload_n hx hb d_MD_reserve_19 rfl (lv_at hl 0 rfl) ?_
    refine g_get (own := "GroupBitmapsModel") (C := R_MD) (T := F_MD) (N := 11) (ci := 3) (v := .int (nI 0)) hx hb hg ku_MD hown hK hI (0) (wm_0) rfl 0 (by decide) kw_470 rfl d_MD_reserve_20 ?_
    refine r_zle (a := 0) (tgt := 28) hx hb d_MD_reserve_23 (by decide) (by omega) (fun h9 => ?_) (fun h9 => ?_)
    · refine lv_aload_n hx hb d_MD_reserve_28 rfl (lv_at hl 0 rfl) ?_
      refine lv_iload_n hx hb d_MD_reserve_29 rfl (lv_at hl 1 rfl) ?_
      refine g_put (ws' := (wm am cI cZ (vRs (vTh τ 0) q))) (own := "GroupBitmapsModel") (C := R_MD) (T := F_MD) (N := 11) (ci := 3) (v := .int (nI q)) hx hb hg ku_MD t_MD t_MD_ok n_MD hown hK hI (0) (wm_0) rfl 6 (by decide) kw_476 rfl rfl (rfl) (rfl) (Nat.le_of_ble_eq_true rfl) (wm_vRs) d_MD_reserve_30 (fun H locs hI => ?_)
      refine lv_aload_n hx hb d_MD_reserve_33 rfl (lv_at hl 0 rfl) ?_
      refine g_callV (own := "GroupBitmapsModel") (C := "GroupBitmapsModel") (T := F_MD) (N := 11) (k := 0) (q0 := 0) (ci := 3) (a := am 0) (As := []) (rest := []) (k_ab (uRsv σ q) (vRs (vTh τ 0) q) hR1) hx hb hml hown hg hK hI hA kw_513 kw_515 kp_22 kw_4 kw_516 ky_MD_allBlocks ⟨Nat.le_of_ble_eq_true rfl, Nat.le_of_ble_eq_true rfl⟩ rfl rfl (wm_0) rfl rfl hl.1 (Nat.le_of_ble_eq_true rfl) ⟨Nat.zero_le _, Nat.zero_le _⟩ d_MD_reserve_34 rfl rfl (fun H locs hI => ?_)
      refine lv_iload_n hx hb d_MD_reserve_37 rfl (lv_at hl 1 rfl) ?_
      rcases Nat.lt_or_ge (sFB (uRsv σ q) (sCnt (uRsv σ q))) q with hlt | hge
      · refine lv_isub hx hb d_MD_reserve_38 ?_
        refine lv_istore_n (lv' := [(2, .int (nI (sFB (uRsv σ q) (sCnt (uRsv σ q))) - nI q)), (0, .ref (am 0)), (1, .int (nI q))]) hx hb d_MD_reserve_39 rfl hl (by decide) rfl (fun ls hl => ?_)
        refine lv_iload_n hx hb d_MD_reserve_40 rfl (lv_at hl 0 rfl) ?_
        refine lv_if_ge (tgt := 48) hx hb d_MD_reserve_41 (by decide) (fun h9 => absurd (pk_sneg (by omega) hlt) (fun h8 => absurd (Int32.lt_of_lt_of_le h8 h9) Int32.lt_irrefl)) (fun _ => ?_)
        refine lv_iconst (v := nI 0) hx hb d_MD_reserve_44 (by decide) ?_
        refine lv_goto (tgt := 49) hx hb d_MD_reserve_45 (by decide) ?_
        exact g_ri hx hb hr hlk hI (by rw [show sFB (uRsv σ q) (sCnt (uRsv σ q)) - q = 0 by omega]) d_MD_reserve_49
      · refine r_isub (a := sFB (uRsv σ q) (sCnt (uRsv σ q))) (b := q) hx hb (by omega) d_MD_reserve_38 ?_
        refine lv_istore_n (lv' := [(2, .int (nI ((sFB (uRsv σ q) (sCnt (uRsv σ q))) - q))), (0, .ref (am 0)), (1, .int (nI q))]) hx hb d_MD_reserve_39 rfl hl (by decide) rfl (fun ls hl => ?_)
        refine lv_iload_n hx hb d_MD_reserve_40 rfl (lv_at hl 0 rfl) ?_
        refine r_zge (a := (sFB (uRsv σ q) (sCnt (uRsv σ q))) - q) (tgt := 48) hx hb d_MD_reserve_41 (by decide) (by omega) ?_
        refine lv_iload_n hx hb d_MD_reserve_48 rfl (lv_at hl 0 rfl) ?_
        exact g_ri hx hb hr hlk hI (rfl) d_MD_reserve_49
    · exact absurd h9 (by omega)
  · exact absurd h9 (by omega)
set_option maxHeartbeats 4000000 in
set_option maxRecDepth 100000 in
theorem c_MD_reserve_bad {l : Launch} {D : va_G} {cG cZ cI cJ : ClassId} {am : Nat → Nat} (σ : gS) (τ : mS) (N : Nat) (hK0 : RK N σ τ) (hN : N < 65536) (x : Int32) (hbad : ¬ (¬ x < 0 ∧ x ≤ nI 100)) : gMet l D (gT cG cZ cI cJ) y_MD_reserve b_MD_reserve 3 (some .int) ({ frames := 2, cells := 0, slots := 0, locals := 45 }) (wm am cI cZ τ) [.ref (am 0), .int x] (wm am cI cZ (vTh τ 1)) (some (.int (nI 0))) := by
  refine gMet_of (by decide) (Nat.le_of_ble_eq_true rfl) ?_
  intro p e s m below meth c A ls hC hA hI hl
  obtain ⟨hx, hb, hr, hlk, hown, hml, hg, hK⟩ := hC
  have hown : s.vm.findClass "GroupBitmapsModel" = some m.cls := hown
  have hl : lv_has ls 3 [(0, .ref (am 0)), (1, .int x)] := hl
  have hR := hK0.ri hN
  have hτ := hR.ok
  have hσ := hR.sb
  have hgr := hR.gr
  have hc1 := hσ.1
  have hc2 := hσ.2.1
  refine lv_aload_n hx hb d_MD_reserve_0 rfl (lv_at hl 0 rfl) ?_
  refine lv_iload_n hx hb d_MD_reserve_1 rfl (lv_at hl 1 rfl) ?_
  refine lv_if_lt (tgt := 11) hx hb d_MD_reserve_2 (by decide) (fun h => ?_) (fun h => ?_)
  · refine lv_iconst (v := nI 1) hx hb d_MD_reserve_11 (by decide) ?_
    refine lv_goto (tgt := 16) hx hb d_MD_reserve_12 (by decide) ?_
    refine g_put (ws' := (wm am cI cZ (vTh τ 1))) (own := "GroupBitmapsModel") (C := R_MD) (T := F_MD) (N := 11) (ci := 3) (v := .int (nI 1)) hx hb hg ku_MD t_MD t_MD_ok n_MD hown hK hI (0) (wm_0) rfl 0 (by decide) kw_470 rfl rfl (rfl) (rfl) (Nat.le_of_ble_eq_true rfl) (wm_vTh) d_MD_reserve_16 (fun H locs hI => ?_)
    refine lv_aload_n hx hb d_MD_reserve_19 rfl (lv_at hl 0 rfl) ?_
    refine g_get (own := "GroupBitmapsModel") (C := R_MD) (T := F_MD) (N := 11) (ci := 3) (v := .int (nI 1)) hx hb hg ku_MD hown hK hI (0) (wm_0) rfl 0 (by decide) kw_470 rfl d_MD_reserve_20 ?_
    refine r_zle (a := 1) (tgt := 28) hx hb d_MD_reserve_23 (by decide) (by omega) (fun h9 => ?_) (fun h9 => ?_)
    · exact absurd h9 (by omega)
    · refine lv_iconst (v := nI 0) hx hb d_MD_reserve_26 (by decide) ?_
      exact g_ri hx hb hr hlk hI (rfl) d_MD_reserve_27
  · refine lv_iload_n hx hb d_MD_reserve_5 rfl (lv_at hl 1 rfl) ?_
    refine lv_bipush (v := nI 100) hx hb d_MD_reserve_6 (by decide) ?_
    refine lv_icmp_le (tgt := 15) hx hb d_MD_reserve_8 (by decide) (fun h2 => ?_) (fun h2 => ?_)
    · exact absurd ⟨h, h2⟩ hbad
    · refine lv_iconst (v := nI 1) hx hb d_MD_reserve_11 (by decide) ?_
      refine lv_goto (tgt := 16) hx hb d_MD_reserve_12 (by decide) ?_
      refine g_put (ws' := (wm am cI cZ (vTh τ 1))) (own := "GroupBitmapsModel") (C := R_MD) (T := F_MD) (N := 11) (ci := 3) (v := .int (nI 1)) hx hb hg ku_MD t_MD t_MD_ok n_MD hown hK hI (0) (wm_0) rfl 0 (by decide) kw_470 rfl rfl (rfl) (rfl) (Nat.le_of_ble_eq_true rfl) (wm_vTh) d_MD_reserve_16 (fun H locs hI => ?_)
      refine lv_aload_n hx hb d_MD_reserve_19 rfl (lv_at hl 0 rfl) ?_
      refine g_get (own := "GroupBitmapsModel") (C := R_MD) (T := F_MD) (N := 11) (ci := 3) (v := .int (nI 1)) hx hb hg ku_MD hown hK hI (0) (wm_0) rfl 0 (by decide) kw_470 rfl d_MD_reserve_20 ?_
      refine r_zle (a := 1) (tgt := 28) hx hb d_MD_reserve_23 (by decide) (by omega) (fun h9 => ?_) (fun h9 => ?_)
      · exact absurd h9 (by omega)
      · refine lv_iconst (v := nI 0) hx hb d_MD_reserve_26 (by decide) ?_
        exact g_ri hx hb hr hlk hI (rfl) d_MD_reserve_27
set_option maxHeartbeats 4000000 in
set_option maxRecDepth 100000 in
theorem c_MD_giveFile {l : Launch} {D : va_G} {cG cZ cI cJ : ClassId} {am : Nat → Nat} (σ : gS) (τ : mS) (N : Nat) (hK0 : RK N σ τ) (hN : N < 65536) (f : Nat) (fo : Bool) (hf1 : 11 ≤ f) (hf : f ≤ sCnt σ * 128) (hset : sBt σ (2 * ((f - 1) / 128) + 1) ((f - 1) % 128) = true) (hfo : fo = true → 1 ≤ sFd σ ((f - 1) / 128)) : gMet l D (gT cG cZ cI cJ) y_MD_giveFile b_MD_giveFile 4 (some .int) ({ frames := 3, cells := 0, slots := 0, locals := 64 }) (wm am cI cZ τ) [.ref (am 0), .int (nI f), .int (bI fo)] (wm am cI cZ (mMkF (vTh (vTh τ 0) 0) ((f - 1) / 128) ((f - 1) % 128) false fo)) (some (.int (nI (sFF (uTT (sFreF σ ((f - 1) / 128) ((f - 1) % 128) fo) true) (sCnt (uTT (sFreF σ ((f - 1) / 128) ((f - 1) % 128) fo) true)))))) := by
  refine gMet_of (by decide) (Nat.le_of_ble_eq_true rfl) ?_
  intro p e s m below meth c A ls hC hA hI hl
  obtain ⟨hx, hb, hr, hlk, hown, hml, hg, hK⟩ := hC
  have hown : s.vm.findClass "GroupBitmapsModel" = some m.cls := hown
  have hl : lv_has ls 4 [(0, .ref (am 0)), (1, .int (nI f)), (2, .int (bI fo))] := hl
  have hR := hK0.ri hN
  have hτ := hR.ok
  have hσ := hR.sb
  have hgr := hR.gr
  have hc1 := hσ.1
  have hc2 := hσ.2.1
  have hg4 : (f - 1) / 128 < 4 := by omega
  have hk : (f - 1) % 128 < 128 := by omega
  have htf : mFl τ (f - 1) = sBt σ (2 * ((f - 1) / 128) + 1) ((f - 1) % 128) := by rw [← hR.tf (by omega) (by omega), sSet_lt (by rw [gLen_odd]; exact hk)]
  have hfd := hR.fd hg4
  have hfdb := hσ.2.2.2.2 _ hg4
  have hK2 : LK N (sFreF σ ((f - 1) / 128) ((f - 1) % 128) fo) (mMkF (vTh (vTh τ 0) 0) ((f - 1) / 128) ((f - 1) % 128) false fo) := freF_LK ((hK0.th 0).th 0).2 hg4 hk hset
  have hR2 := (show RK N (uTT (sFreF σ ((f - 1) / 128) ((f - 1) % 128) fo) true) (mMkF (vTh (vTh τ 0) 0) ((f - 1) / 128) ((f - 1) % 128) false fo) from ⟨by obtain ⟨⟨a1, a2, a3, a4, a5, a6, a7, a8⟩, -⟩ := hK0; obtain ⟨q1, q2, q3, q4, q5, q6⟩ := sFreF_o σ ((f - 1) / 128) ((f - 1) % 128) fo; exact ⟨by rw [q_Cnt_TT, q1]; exact a1, by rw [q_Cnt_TT, q1]; exact a2, by rw [q_Cnt_TT, q1]; exact a3, by rw [q_Rsv_TT, q2]; exact a4, by rw [q_Rsv_TT, q2]; exact a5, by rw [q_Lat_TT, q3]; exact a6, fun g hg => by rw [q_Cnt_TT, q1] at hg; rw [q_Sz_TT, q4]; exact a7 g hg, mMkF_1 _ _ _ _ _⟩, hK2⟩).ri hN
  refine lv_aload_n hx hb d_MD_giveFile_0 rfl (lv_at hl 0 rfl) ?_
  refine lv_aload_n hx hb d_MD_giveFile_1 rfl (lv_at hl 0 rfl) ?_
  refine lv_iload_n hx hb d_MD_giveFile_2 rfl (lv_at hl 1 rfl) ?_
  refine g_callV (own := "GroupBitmapsModel") (C := "GroupBitmapsModel") (T := F_MD) (N := 11) (k := 1) (q0 := 0) (ci := 3) (a := am 0) (As := [.int (nI f)]) (rest := [.ref (am 0)]) (k_if σ τ hR (nI f)) hx hb hml hown hg hK hI hA kw_557 kw_559 kp_28 kw_4 kw_560 ky_MD_isFile ⟨Nat.le_of_ble_eq_true rfl, Nat.le_of_ble_eq_true rfl⟩ rfl rfl (wm_0) rfl rfl hl.1 (Nat.le_of_ble_eq_true rfl) ⟨Nat.zero_le _, Nat.zero_le _⟩ d_MD_giveFile_3 rfl rfl (fun H locs hI => ?_)
  refine r_bz (b := sHasF σ (nI f)) (tgt := 15) hx hb d_MD_giveFile_6 (by decide) (fun h => ?_) (fun h => ?_)
  · exact absurd ((sHasF_nI hσ (by omega) hf).symm.trans h) (by decide)
  · refine lv_iload_n hx hb d_MD_giveFile_9 rfl (lv_at hl 1 rfl) ?_
    refine lv_bipush (v := nI 11) hx hb d_MD_giveFile_10 (by decide) ?_
    refine r_ge (a := f) (b := 11) (tgt := 19) hx hb d_MD_giveFile_12 (by decide) (by omega) (by omega) (fun h9 => ?_) (fun h9 => ?_)
    · refine lv_iconst (v := nI 0) hx hb d_MD_giveFile_19 (by decide) ?_
      refine g_put (ws' := (wm am cI cZ (vTh τ 0))) (own := "GroupBitmapsModel") (C := R_MD) (T := F_MD) (N := 11) (ci := 3) (v := .int (nI 0)) hx hb hg ku_MD t_MD t_MD_ok n_MD hown hK hI (0) (wm_0) rfl 0 (by decide) kw_470 rfl rfl (rfl) (rfl) (Nat.le_of_ble_eq_true rfl) (wm_vTh) d_MD_giveFile_20 (fun H locs hI => ?_)
      refine lv_aload_n hx hb d_MD_giveFile_23 rfl (lv_at hl 0 rfl) ?_
      refine g_get (own := "GroupBitmapsModel") (C := R_MD) (T := F_MD) (N := 11) (ci := 3) (v := .int (nI 0)) hx hb hg ku_MD hown hK hI (0) (wm_0) rfl 0 (by decide) kw_470 rfl d_MD_giveFile_24 ?_
      refine r_zle (a := 0) (tgt := 32) hx hb d_MD_giveFile_27 (by decide) (by omega) (fun h9 => ?_) (fun h9 => ?_)
      · refine lv_iload_n hx hb d_MD_giveFile_32 rfl (lv_at hl 1 rfl) ?_
        refine lv_iconst (v := nI 1) hx hb d_MD_giveFile_33 (by decide) ?_
        refine r_isub (a := f) (b := 1) hx hb (by omega) d_MD_giveFile_34 ?_
        refine lv_sipush (v := nI 128) hx hb d_MD_giveFile_35 (by decide) ?_
        refine r_idiv (a := f - 1) (b := 128) hx hb (by omega) (by omega) (by omega) d_MD_giveFile_38 ?_
        refine lv_istore_n (lv' := [(3, .int (nI ((f - 1) / 128))), (0, .ref (am 0)), (1, .int (nI f)), (2, .int (bI fo))]) hx hb d_MD_giveFile_39 rfl hl (by decide) rfl (fun ls hl => ?_)
        refine lv_aload_n hx hb d_MD_giveFile_40 rfl (lv_at hl 1 rfl) ?_
        refine lv_aload_n hx hb d_MD_giveFile_41 rfl (lv_at hl 1 rfl) ?_
        refine g_get (own := "GroupBitmapsModel") (C := R_MD) (T := F_MD) (N := 11) (ci := 3) (v := .ref (am 3)) hx hb hg ku_MD hown hK hI (0) (wm_0) rfl 4 (by decide) kw_474 rfl d_MD_giveFile_42 ?_
        refine lv_iload_n hx hb d_MD_giveFile_45 rfl (lv_at hl 2 rfl) ?_
        refine lv_iconst (v := nI 1) hx hb d_MD_giveFile_46 (by decide) ?_
        refine r_isub (a := f) (b := 1) hx hb (by omega) d_MD_giveFile_47 ?_
        refine g_zald (B := (mFl (vTh τ 0))) (i := f - 1) hx hb hK hI (3) 1 (wm_Fl) rfl (by omega) (by omega) d_MD_giveFile_48 ?_
        refine r_bz (b := (mFl (vTh τ 0)) (f - 1)) (tgt := 65) hx hb d_MD_giveFile_49 (by decide) (fun h2 => ?_) (fun h2 => ?_)
        · exact absurd (hset.symm.trans (htf.symm.trans h2)) (by decide)
        · refine lv_iload_n hx hb d_MD_giveFile_52 rfl (lv_at hl 3 rfl) ?_
          refine r_bz (b := fo) (tgt := 69) hx hb d_MD_giveFile_53 (by decide) (fun h3 => ?_) (fun h3 => ?_)
          · refine lv_iconst (v := nI 0) hx hb d_MD_giveFile_69 (by decide) ?_
            refine g_put (ws' := (wm am cI cZ (vTh (vTh τ 0) 0))) (own := "GroupBitmapsModel") (C := R_MD) (T := F_MD) (N := 11) (ci := 3) (v := .int (nI 0)) hx hb hg ku_MD t_MD t_MD_ok n_MD hown hK hI (0) (wm_0) rfl 0 (by decide) kw_470 rfl rfl (rfl) (rfl) (Nat.le_of_ble_eq_true rfl) (wm_vTh) d_MD_giveFile_70 (fun H locs hI => ?_)
            refine lv_aload_n hx hb d_MD_giveFile_73 rfl (lv_at hl 1 rfl) ?_
            refine g_get (own := "GroupBitmapsModel") (C := R_MD) (T := F_MD) (N := 11) (ci := 3) (v := .int (nI 0)) hx hb hg ku_MD hown hK hI (0) (wm_0) rfl 0 (by decide) kw_470 rfl d_MD_giveFile_74 ?_
            refine r_zle (a := 0) (tgt := 82) hx hb d_MD_giveFile_77 (by decide) (by omega) (fun h9 => ?_) (fun h9 => ?_)
            · refine lv_aload_n hx hb d_MD_giveFile_82 rfl (lv_at hl 1 rfl) ?_
              refine lv_iload_n hx hb d_MD_giveFile_83 rfl (lv_at hl 0 rfl) ?_
              refine lv_iload_n hx hb d_MD_giveFile_84 rfl (lv_at hl 2 rfl) ?_
              refine lv_iconst (v := nI 1) hx hb d_MD_giveFile_85 (by decide) ?_
              refine r_isub (a := f) (b := 1) hx hb (by omega) d_MD_giveFile_86 ?_
              refine lv_sipush (v := nI 128) hx hb d_MD_giveFile_87 (by decide) ?_
              refine r_irem (a := f - 1) (b := 128) hx hb (by omega) (by omega) (by omega) d_MD_giveFile_90 ?_
              refine lv_iconst (v := bI false) hx hb d_MD_giveFile_91 (by decide) ?_
              refine lv_iload_n hx hb d_MD_giveFile_92 rfl (lv_at hl 3 rfl) ?_
              refine g_callV (own := "GroupBitmapsModel") (C := "GroupBitmapsModel") (T := F_MD) (N := 11) (k := 4) (q0 := 0) (ci := 3) (a := am 0) (As := [.int (nI ((f - 1) / 128)), .int (nI ((f - 1) % 128)), .int (bI false), .int (bI fo)]) (rest := []) (c_MD_markFile (vTh (vTh τ 0) 0) hτ ((f - 1) / 128) ((f - 1) % 128) false fo hg4 hk (fun z _ => by show 1 ≤ mFd τ _; rw [hfd]; exact hfo z)) hx hb hml hown hg hK hI hA kw_581 kw_583 kp_34 kw_4 kw_584 ky_MD_markFile ⟨Nat.le_of_ble_eq_true rfl, Nat.le_of_ble_eq_true rfl⟩ rfl rfl (wm_0) rfl rfl hl.1 (Nat.le_of_ble_eq_true rfl) ⟨Nat.zero_le _, Nat.zero_le _⟩ d_MD_giveFile_93 rfl rfl (fun H locs hI => ?_)
              refine lv_aload_n hx hb d_MD_giveFile_96 rfl (lv_at hl 1 rfl) ?_
              refine g_callV (own := "GroupBitmapsModel") (C := "GroupBitmapsModel") (T := F_MD) (N := 11) (k := 0) (q0 := 0) (ci := 3) (a := am 0) (As := []) (rest := []) (k_af (uTT (sFreF σ ((f - 1) / 128) ((f - 1) % 128) fo) true) (mMkF (vTh (vTh τ 0) 0) ((f - 1) / 128) ((f - 1) % 128) false fo) hR2) hx hb hml hown hg hK hI hA kw_561 kw_563 kp_29 kw_4 kw_564 ky_MD_allFiles ⟨Nat.le_of_ble_eq_true rfl, Nat.le_of_ble_eq_true rfl⟩ rfl rfl (wm_0) rfl rfl hl.1 (Nat.le_of_ble_eq_true rfl) ⟨Nat.zero_le _, Nat.zero_le _⟩ d_MD_giveFile_97 rfl rfl (fun H locs hI => ?_)
              exact g_ri hx hb hr hlk hI (rfl) d_MD_giveFile_100
            · exact absurd h9 (by omega)
          · refine lv_aload_n hx hb d_MD_giveFile_56 rfl (lv_at hl 1 rfl) ?_
            refine g_get (own := "GroupBitmapsModel") (C := R_MD) (T := F_MD) (N := 11) (ci := 3) (v := .ref (am 4)) hx hb hg ku_MD hown hK hI (0) (wm_0) rfl 5 (by decide) kw_475 rfl d_MD_giveFile_57 ?_
            refine lv_iload_n hx hb d_MD_giveFile_60 rfl (lv_at hl 0 rfl) ?_
            refine g_iald (F := (mFd (vTh τ 0))) (i := (f - 1) / 128) hx hb hK hI (4) 2 (wm_Fd) rfl (hg4) (by omega) d_MD_giveFile_61 ?_
            rw [show (mFd (vTh τ 0)) ((f - 1) / 128) = sFd σ ((f - 1) / 128) from hfd]
            refine r_zne (a := sFd σ ((f - 1) / 128)) (tgt := 69) hx hb d_MD_giveFile_62 (by decide) (by omega) (fun h4 => ?_) (fun h4 => ?_)
            · refine lv_iconst (v := nI 0) hx hb d_MD_giveFile_69 (by decide) ?_
              refine g_put (ws' := (wm am cI cZ (vTh (vTh τ 0) 0))) (own := "GroupBitmapsModel") (C := R_MD) (T := F_MD) (N := 11) (ci := 3) (v := .int (nI 0)) hx hb hg ku_MD t_MD t_MD_ok n_MD hown hK hI (0) (wm_0) rfl 0 (by decide) kw_470 rfl rfl (rfl) (rfl) (Nat.le_of_ble_eq_true rfl) (wm_vTh) d_MD_giveFile_70 (fun H locs hI => ?_)
              refine lv_aload_n hx hb d_MD_giveFile_73 rfl (lv_at hl 1 rfl) ?_
              refine g_get (own := "GroupBitmapsModel") (C := R_MD) (T := F_MD) (N := 11) (ci := 3) (v := .int (nI 0)) hx hb hg ku_MD hown hK hI (0) (wm_0) rfl 0 (by decide) kw_470 rfl d_MD_giveFile_74 ?_
              refine r_zle (a := 0) (tgt := 82) hx hb d_MD_giveFile_77 (by decide) (by omega) (fun h9 => ?_) (fun h9 => ?_)
              · refine lv_aload_n hx hb d_MD_giveFile_82 rfl (lv_at hl 1 rfl) ?_
                refine lv_iload_n hx hb d_MD_giveFile_83 rfl (lv_at hl 0 rfl) ?_
                refine lv_iload_n hx hb d_MD_giveFile_84 rfl (lv_at hl 2 rfl) ?_
                refine lv_iconst (v := nI 1) hx hb d_MD_giveFile_85 (by decide) ?_
                refine r_isub (a := f) (b := 1) hx hb (by omega) d_MD_giveFile_86 ?_
                refine lv_sipush (v := nI 128) hx hb d_MD_giveFile_87 (by decide) ?_
                refine r_irem (a := f - 1) (b := 128) hx hb (by omega) (by omega) (by omega) d_MD_giveFile_90 ?_
                refine lv_iconst (v := bI false) hx hb d_MD_giveFile_91 (by decide) ?_
                refine lv_iload_n hx hb d_MD_giveFile_92 rfl (lv_at hl 3 rfl) ?_
                refine g_callV (own := "GroupBitmapsModel") (C := "GroupBitmapsModel") (T := F_MD) (N := 11) (k := 4) (q0 := 0) (ci := 3) (a := am 0) (As := [.int (nI ((f - 1) / 128)), .int (nI ((f - 1) % 128)), .int (bI false), .int (bI fo)]) (rest := []) (c_MD_markFile (vTh (vTh τ 0) 0) hτ ((f - 1) / 128) ((f - 1) % 128) false fo hg4 hk (fun z _ => by show 1 ≤ mFd τ _; rw [hfd]; exact hfo z)) hx hb hml hown hg hK hI hA kw_581 kw_583 kp_34 kw_4 kw_584 ky_MD_markFile ⟨Nat.le_of_ble_eq_true rfl, Nat.le_of_ble_eq_true rfl⟩ rfl rfl (wm_0) rfl rfl hl.1 (Nat.le_of_ble_eq_true rfl) ⟨Nat.zero_le _, Nat.zero_le _⟩ d_MD_giveFile_93 rfl rfl (fun H locs hI => ?_)
                refine lv_aload_n hx hb d_MD_giveFile_96 rfl (lv_at hl 1 rfl) ?_
                refine g_callV (own := "GroupBitmapsModel") (C := "GroupBitmapsModel") (T := F_MD) (N := 11) (k := 0) (q0 := 0) (ci := 3) (a := am 0) (As := []) (rest := []) (k_af (uTT (sFreF σ ((f - 1) / 128) ((f - 1) % 128) fo) true) (mMkF (vTh (vTh τ 0) 0) ((f - 1) / 128) ((f - 1) % 128) false fo) hR2) hx hb hml hown hg hK hI hA kw_561 kw_563 kp_29 kw_4 kw_564 ky_MD_allFiles ⟨Nat.le_of_ble_eq_true rfl, Nat.le_of_ble_eq_true rfl⟩ rfl rfl (wm_0) rfl rfl hl.1 (Nat.le_of_ble_eq_true rfl) ⟨Nat.zero_le _, Nat.zero_le _⟩ d_MD_giveFile_97 rfl rfl (fun H locs hI => ?_)
                exact g_ri hx hb hr hlk hI (rfl) d_MD_giveFile_100
              · exact absurd h9 (by omega)
            · exact absurd (hfo h3) (by omega)
      · exact absurd h9 (by omega)
    · exact absurd h9 (by omega)
set_option maxHeartbeats 4000000 in
set_option maxRecDepth 100000 in
theorem c_MD_giveFile_no {l : Launch} {D : va_G} {cG cZ cI cJ : ClassId} {am : Nat → Nat} (σ : gS) (τ : mS) (N : Nat) (hK0 : RK N σ τ) (hN : N < 65536) (f : Nat) (fo : Bool) (hf1 : 11 ≤ f) (hf : f ≤ sCnt σ * 128) (hno : sBt σ (2 * ((f - 1) / 128) + 1) ((f - 1) % 128) = false ∨ (fo = true ∧ sFd σ ((f - 1) / 128) = 0)) : gMet l D (gT cG cZ cI cJ) y_MD_giveFile b_MD_giveFile 4 (some .int) ({ frames := 3, cells := 0, slots := 0, locals := 64 }) (wm am cI cZ τ) [.ref (am 0), .int (nI f), .int (bI fo)] (wm am cI cZ (vTh (vTh τ 0) 2)) (some (.int (nI 0))) := by
  refine gMet_of (by decide) (Nat.le_of_ble_eq_true rfl) ?_
  intro p e s m below meth c A ls hC hA hI hl
  obtain ⟨hx, hb, hr, hlk, hown, hml, hg, hK⟩ := hC
  have hown : s.vm.findClass "GroupBitmapsModel" = some m.cls := hown
  have hl : lv_has ls 4 [(0, .ref (am 0)), (1, .int (nI f)), (2, .int (bI fo))] := hl
  have hR := hK0.ri hN
  have hτ := hR.ok
  have hσ := hR.sb
  have hgr := hR.gr
  have hc1 := hσ.1
  have hc2 := hσ.2.1
  have hg4 : (f - 1) / 128 < 4 := by omega
  have hk : (f - 1) % 128 < 128 := by omega
  have htf : mFl τ (f - 1) = sBt σ (2 * ((f - 1) / 128) + 1) ((f - 1) % 128) := by rw [← hR.tf (by omega) (by omega), sSet_lt (by rw [gLen_odd]; exact hk)]
  have hfd := hR.fd hg4
  have hfdb := hσ.2.2.2.2 _ hg4
  refine lv_aload_n hx hb d_MD_giveFile_0 rfl (lv_at hl 0 rfl) ?_
  refine lv_aload_n hx hb d_MD_giveFile_1 rfl (lv_at hl 0 rfl) ?_
  refine lv_iload_n hx hb d_MD_giveFile_2 rfl (lv_at hl 1 rfl) ?_
  refine g_callV (own := "GroupBitmapsModel") (C := "GroupBitmapsModel") (T := F_MD) (N := 11) (k := 1) (q0 := 0) (ci := 3) (a := am 0) (As := [.int (nI f)]) (rest := [.ref (am 0)]) (k_if σ τ hR (nI f)) hx hb hml hown hg hK hI hA kw_557 kw_559 kp_28 kw_4 kw_560 ky_MD_isFile ⟨Nat.le_of_ble_eq_true rfl, Nat.le_of_ble_eq_true rfl⟩ rfl rfl (wm_0) rfl rfl hl.1 (Nat.le_of_ble_eq_true rfl) ⟨Nat.zero_le _, Nat.zero_le _⟩ d_MD_giveFile_3 rfl rfl (fun H locs hI => ?_)
  refine r_bz (b := sHasF σ (nI f)) (tgt := 15) hx hb d_MD_giveFile_6 (by decide) (fun h => ?_) (fun h => ?_)
  · exact absurd ((sHasF_nI hσ (by omega) hf).symm.trans h) (by decide)
  · refine lv_iload_n hx hb d_MD_giveFile_9 rfl (lv_at hl 1 rfl) ?_
    refine lv_bipush (v := nI 11) hx hb d_MD_giveFile_10 (by decide) ?_
    refine r_ge (a := f) (b := 11) (tgt := 19) hx hb d_MD_giveFile_12 (by decide) (by omega) (by omega) (fun h9 => ?_) (fun h9 => ?_)
    · refine lv_iconst (v := nI 0) hx hb d_MD_giveFile_19 (by decide) ?_
      refine g_put (ws' := (wm am cI cZ (vTh τ 0))) (own := "GroupBitmapsModel") (C := R_MD) (T := F_MD) (N := 11) (ci := 3) (v := .int (nI 0)) hx hb hg ku_MD t_MD t_MD_ok n_MD hown hK hI (0) (wm_0) rfl 0 (by decide) kw_470 rfl rfl (rfl) (rfl) (Nat.le_of_ble_eq_true rfl) (wm_vTh) d_MD_giveFile_20 (fun H locs hI => ?_)
      refine lv_aload_n hx hb d_MD_giveFile_23 rfl (lv_at hl 0 rfl) ?_
      refine g_get (own := "GroupBitmapsModel") (C := R_MD) (T := F_MD) (N := 11) (ci := 3) (v := .int (nI 0)) hx hb hg ku_MD hown hK hI (0) (wm_0) rfl 0 (by decide) kw_470 rfl d_MD_giveFile_24 ?_
      refine r_zle (a := 0) (tgt := 32) hx hb d_MD_giveFile_27 (by decide) (by omega) (fun h9 => ?_) (fun h9 => ?_)
      · refine lv_iload_n hx hb d_MD_giveFile_32 rfl (lv_at hl 1 rfl) ?_
        refine lv_iconst (v := nI 1) hx hb d_MD_giveFile_33 (by decide) ?_
        refine r_isub (a := f) (b := 1) hx hb (by omega) d_MD_giveFile_34 ?_
        refine lv_sipush (v := nI 128) hx hb d_MD_giveFile_35 (by decide) ?_
        refine r_idiv (a := f - 1) (b := 128) hx hb (by omega) (by omega) (by omega) d_MD_giveFile_38 ?_
        refine lv_istore_n (lv' := [(3, .int (nI ((f - 1) / 128))), (0, .ref (am 0)), (1, .int (nI f)), (2, .int (bI fo))]) hx hb d_MD_giveFile_39 rfl hl (by decide) rfl (fun ls hl => ?_)
        refine lv_aload_n hx hb d_MD_giveFile_40 rfl (lv_at hl 1 rfl) ?_
        refine lv_aload_n hx hb d_MD_giveFile_41 rfl (lv_at hl 1 rfl) ?_
        refine g_get (own := "GroupBitmapsModel") (C := R_MD) (T := F_MD) (N := 11) (ci := 3) (v := .ref (am 3)) hx hb hg ku_MD hown hK hI (0) (wm_0) rfl 4 (by decide) kw_474 rfl d_MD_giveFile_42 ?_
        refine lv_iload_n hx hb d_MD_giveFile_45 rfl (lv_at hl 2 rfl) ?_
        refine lv_iconst (v := nI 1) hx hb d_MD_giveFile_46 (by decide) ?_
        refine r_isub (a := f) (b := 1) hx hb (by omega) d_MD_giveFile_47 ?_
        refine g_zald (B := (mFl (vTh τ 0))) (i := f - 1) hx hb hK hI (3) 1 (wm_Fl) rfl (by omega) (by omega) d_MD_giveFile_48 ?_
        refine r_bz (b := (mFl (vTh τ 0)) (f - 1)) (tgt := 65) hx hb d_MD_giveFile_49 (by decide) (fun h2 => ?_) (fun h2 => ?_)
        · refine lv_iconst (v := nI 2) hx hb d_MD_giveFile_65 (by decide) ?_
          refine lv_goto (tgt := 70) hx hb d_MD_giveFile_66 (by decide) ?_
          refine g_put (ws' := (wm am cI cZ (vTh (vTh τ 0) 2))) (own := "GroupBitmapsModel") (C := R_MD) (T := F_MD) (N := 11) (ci := 3) (v := .int (nI 2)) hx hb hg ku_MD t_MD t_MD_ok n_MD hown hK hI (0) (wm_0) rfl 0 (by decide) kw_470 rfl rfl (rfl) (rfl) (Nat.le_of_ble_eq_true rfl) (wm_vTh) d_MD_giveFile_70 (fun H locs hI => ?_)
          refine lv_aload_n hx hb d_MD_giveFile_73 rfl (lv_at hl 1 rfl) ?_
          refine g_get (own := "GroupBitmapsModel") (C := R_MD) (T := F_MD) (N := 11) (ci := 3) (v := .int (nI 2)) hx hb hg ku_MD hown hK hI (0) (wm_0) rfl 0 (by decide) kw_470 rfl d_MD_giveFile_74 ?_
          refine r_zle (a := 2) (tgt := 82) hx hb d_MD_giveFile_77 (by decide) (by omega) (fun h9 => ?_) (fun h9 => ?_)
          · exact absurd h9 (by omega)
          · refine lv_iconst (v := nI 0) hx hb d_MD_giveFile_80 (by decide) ?_
            exact g_ri hx hb hr hlk hI (rfl) d_MD_giveFile_81
        · refine lv_iload_n hx hb d_MD_giveFile_52 rfl (lv_at hl 3 rfl) ?_
          refine r_bz (b := fo) (tgt := 69) hx hb d_MD_giveFile_53 (by decide) (fun h3 => ?_) (fun h3 => ?_)
          · exact absurd hno (by rw [← htf, show mFl τ (f - 1) = true from h2, h3]; rintro (q | q); exact absurd q (by decide); exact absurd q.1 (by decide))
          · refine lv_aload_n hx hb d_MD_giveFile_56 rfl (lv_at hl 1 rfl) ?_
            refine g_get (own := "GroupBitmapsModel") (C := R_MD) (T := F_MD) (N := 11) (ci := 3) (v := .ref (am 4)) hx hb hg ku_MD hown hK hI (0) (wm_0) rfl 5 (by decide) kw_475 rfl d_MD_giveFile_57 ?_
            refine lv_iload_n hx hb d_MD_giveFile_60 rfl (lv_at hl 0 rfl) ?_
            refine g_iald (F := (mFd (vTh τ 0))) (i := (f - 1) / 128) hx hb hK hI (4) 2 (wm_Fd) rfl (hg4) (by omega) d_MD_giveFile_61 ?_
            rw [show (mFd (vTh τ 0)) ((f - 1) / 128) = sFd σ ((f - 1) / 128) from hfd]
            refine r_zne (a := sFd σ ((f - 1) / 128)) (tgt := 69) hx hb d_MD_giveFile_62 (by decide) (by omega) (fun h4 => ?_) (fun h4 => ?_)
            · exact absurd hno (by rw [← htf, show mFl τ (f - 1) = true from h2]; rintro (q | q); exact absurd q (by decide); exact absurd q.2 (by omega))
            · refine lv_iconst (v := nI 2) hx hb d_MD_giveFile_65 (by decide) ?_
              refine lv_goto (tgt := 70) hx hb d_MD_giveFile_66 (by decide) ?_
              refine g_put (ws' := (wm am cI cZ (vTh (vTh τ 0) 2))) (own := "GroupBitmapsModel") (C := R_MD) (T := F_MD) (N := 11) (ci := 3) (v := .int (nI 2)) hx hb hg ku_MD t_MD t_MD_ok n_MD hown hK hI (0) (wm_0) rfl 0 (by decide) kw_470 rfl rfl (rfl) (rfl) (Nat.le_of_ble_eq_true rfl) (wm_vTh) d_MD_giveFile_70 (fun H locs hI => ?_)
              refine lv_aload_n hx hb d_MD_giveFile_73 rfl (lv_at hl 1 rfl) ?_
              refine g_get (own := "GroupBitmapsModel") (C := R_MD) (T := F_MD) (N := 11) (ci := 3) (v := .int (nI 2)) hx hb hg ku_MD hown hK hI (0) (wm_0) rfl 0 (by decide) kw_470 rfl d_MD_giveFile_74 ?_
              refine r_zle (a := 2) (tgt := 82) hx hb d_MD_giveFile_77 (by decide) (by omega) (fun h9 => ?_) (fun h9 => ?_)
              · exact absurd h9 (by omega)
              · refine lv_iconst (v := nI 0) hx hb d_MD_giveFile_80 (by decide) ?_
                exact g_ri hx hb hr hlk hI (rfl) d_MD_giveFile_81
      · exact absurd h9 (by omega)
    · exact absurd h9 (by omega)
set_option maxHeartbeats 4000000 in
set_option maxRecDepth 100000 in
theorem c_MD_giveFile_bad {l : Launch} {D : va_G} {cG cZ cI cJ : ClassId} {am : Nat → Nat} (σ : gS) (τ : mS) (N : Nat) (hK0 : RK N σ τ) (hN : N < 65536) (x : Int32) (fo : Bool) (hbad : ¬ (sHasF σ x = true ∧ nI 11 ≤ x)) : gMet l D (gT cG cZ cI cJ) y_MD_giveFile b_MD_giveFile 4 (some .int) ({ frames := 3, cells := 0, slots := 0, locals := 64 }) (wm am cI cZ τ) [.ref (am 0), .int x, .int (bI fo)] (wm am cI cZ (vTh τ 1)) (some (.int (nI 0))) := by
  refine gMet_of (by decide) (Nat.le_of_ble_eq_true rfl) ?_
  intro p e s m below meth c A ls hC hA hI hl
  obtain ⟨hx, hb, hr, hlk, hown, hml, hg, hK⟩ := hC
  have hown : s.vm.findClass "GroupBitmapsModel" = some m.cls := hown
  have hl : lv_has ls 4 [(0, .ref (am 0)), (1, .int x), (2, .int (bI fo))] := hl
  have hR := hK0.ri hN
  have hτ := hR.ok
  have hσ := hR.sb
  have hgr := hR.gr
  have hc1 := hσ.1
  have hc2 := hσ.2.1
  refine lv_aload_n hx hb d_MD_giveFile_0 rfl (lv_at hl 0 rfl) ?_
  refine lv_aload_n hx hb d_MD_giveFile_1 rfl (lv_at hl 0 rfl) ?_
  refine lv_iload_n hx hb d_MD_giveFile_2 rfl (lv_at hl 1 rfl) ?_
  refine g_callV (own := "GroupBitmapsModel") (C := "GroupBitmapsModel") (T := F_MD) (N := 11) (k := 1) (q0 := 0) (ci := 3) (a := am 0) (As := [.int x]) (rest := [.ref (am 0)]) (k_if σ τ hR x) hx hb hml hown hg hK hI hA kw_557 kw_559 kp_28 kw_4 kw_560 ky_MD_isFile ⟨Nat.le_of_ble_eq_true rfl, Nat.le_of_ble_eq_true rfl⟩ rfl rfl (wm_0) rfl rfl hl.1 (Nat.le_of_ble_eq_true rfl) ⟨Nat.zero_le _, Nat.zero_le _⟩ d_MD_giveFile_3 rfl rfl (fun H locs hI => ?_)
  refine r_bz (b := sHasF σ x) (tgt := 15) hx hb d_MD_giveFile_6 (by decide) (fun h => ?_) (fun h => ?_)
  · refine lv_iconst (v := nI 1) hx hb d_MD_giveFile_15 (by decide) ?_
    refine lv_goto (tgt := 20) hx hb d_MD_giveFile_16 (by decide) ?_
    refine g_put (ws' := (wm am cI cZ (vTh τ 1))) (own := "GroupBitmapsModel") (C := R_MD) (T := F_MD) (N := 11) (ci := 3) (v := .int (nI 1)) hx hb hg ku_MD t_MD t_MD_ok n_MD hown hK hI (0) (wm_0) rfl 0 (by decide) kw_470 rfl rfl (rfl) (rfl) (Nat.le_of_ble_eq_true rfl) (wm_vTh) d_MD_giveFile_20 (fun H locs hI => ?_)
    refine lv_aload_n hx hb d_MD_giveFile_23 rfl (lv_at hl 0 rfl) ?_
    refine g_get (own := "GroupBitmapsModel") (C := R_MD) (T := F_MD) (N := 11) (ci := 3) (v := .int (nI 1)) hx hb hg ku_MD hown hK hI (0) (wm_0) rfl 0 (by decide) kw_470 rfl d_MD_giveFile_24 ?_
    refine r_zle (a := 1) (tgt := 32) hx hb d_MD_giveFile_27 (by decide) (by omega) (fun h9 => ?_) (fun h9 => ?_)
    · exact absurd h9 (by omega)
    · refine lv_iconst (v := nI 0) hx hb d_MD_giveFile_30 (by decide) ?_
      exact g_ri hx hb hr hlk hI (rfl) d_MD_giveFile_31
  · refine lv_iload_n hx hb d_MD_giveFile_9 rfl (lv_at hl 1 rfl) ?_
    refine lv_bipush (v := nI 11) hx hb d_MD_giveFile_10 (by decide) ?_
    refine lv_icmp_ge (tgt := 19) hx hb d_MD_giveFile_12 (by decide) (fun h2 => ?_) (fun h2 => ?_)
    · exact absurd ⟨h, h2⟩ hbad
    · refine lv_iconst (v := nI 1) hx hb d_MD_giveFile_15 (by decide) ?_
      refine lv_goto (tgt := 20) hx hb d_MD_giveFile_16 (by decide) ?_
      refine g_put (ws' := (wm am cI cZ (vTh τ 1))) (own := "GroupBitmapsModel") (C := R_MD) (T := F_MD) (N := 11) (ci := 3) (v := .int (nI 1)) hx hb hg ku_MD t_MD t_MD_ok n_MD hown hK hI (0) (wm_0) rfl 0 (by decide) kw_470 rfl rfl (rfl) (rfl) (Nat.le_of_ble_eq_true rfl) (wm_vTh) d_MD_giveFile_20 (fun H locs hI => ?_)
      refine lv_aload_n hx hb d_MD_giveFile_23 rfl (lv_at hl 0 rfl) ?_
      refine g_get (own := "GroupBitmapsModel") (C := R_MD) (T := F_MD) (N := 11) (ci := 3) (v := .int (nI 1)) hx hb hg ku_MD hown hK hI (0) (wm_0) rfl 0 (by decide) kw_470 rfl d_MD_giveFile_24 ?_
      refine r_zle (a := 1) (tgt := 32) hx hb d_MD_giveFile_27 (by decide) (by omega) (fun h9 => ?_) (fun h9 => ?_)
      · exact absurd h9 (by omega)
      · refine lv_iconst (v := nI 0) hx hb d_MD_giveFile_30 (by decide) ?_
        exact g_ri hx hb hr hlk hI (rfl) d_MD_giveFile_31
set_option maxHeartbeats 4000000 in
set_option maxRecDepth 100000 in
theorem c_MD_takeFile {l : Launch} {D : va_G} {cG cZ cI cJ : ClassId} {am : Nat → Nat} (σ : gS) (τ : mS) (N : Nat) (hK0 : RK N σ τ) (hN : N < 65536) (f : Nat) (fo : Bool) (g k : Nat) (hf1 : 1 ≤ f) (hf : f ≤ sCnt σ * 128) (hff : 0 < sFF σ (sCnt σ)) (hgg : (if fo = true then sFolder σ f else sPlain σ ((f - 1) / 128)) = some g) (hg4 : g < 4) (hk : sLf σ (2 * g + 1) 128 = some k) : gMet l D (gT cG cZ cI cJ) y_MD_takeFile b_MD_takeFile 6 (some .int) ({ frames := 3, cells := 0, slots := 0, locals := 73 }) (wm am cI cZ τ) [.ref (am 0), .int (nI f), .int (bI fo)] (wm am cI cZ (mMkF (vTh τ 0) g k true fo)) (some (.int (nI (128 * g + k + 1)))) := by
  refine gMet_of (by decide) (Nat.le_of_ble_eq_true rfl) ?_
  intro p e s m below meth c A ls hC hA hI hl
  obtain ⟨hx, hb, hr, hlk, hown, hml, hg, hK⟩ := hC
  have hown : s.vm.findClass "GroupBitmapsModel" = some m.cls := hown
  have hl : lv_has ls 6 [(0, .ref (am 0)), (1, .int (nI f)), (2, .int (bI fo))] := hl
  have hR := hK0.ri hN
  have hτ := hR.ok
  have hσ := hR.sb
  have hgr := hR.gr
  have hc1 := hσ.1
  have hc2 := hσ.2.1
  obtain ⟨k1, k2, k3⟩ := sLf_spec hk
  have hfl := sFF_le hσ (sCnt σ) hc2
  refine lv_aload_n hx hb d_MD_takeFile_0 rfl (lv_at hl 0 rfl) ?_
  refine lv_aload_n hx hb d_MD_takeFile_1 rfl (lv_at hl 0 rfl) ?_
  refine lv_iload_n hx hb d_MD_takeFile_2 rfl (lv_at hl 1 rfl) ?_
  refine g_callV (own := "GroupBitmapsModel") (C := "GroupBitmapsModel") (T := F_MD) (N := 11) (k := 1) (q0 := 0) (ci := 3) (a := am 0) (As := [.int (nI f)]) (rest := [.ref (am 0)]) (k_if σ τ hR (nI f)) hx hb hml hown hg hK hI hA kw_557 kw_559 kp_28 kw_4 kw_560 ky_MD_isFile ⟨Nat.le_of_ble_eq_true rfl, Nat.le_of_ble_eq_true rfl⟩ rfl rfl (wm_0) rfl rfl hl.1 (Nat.le_of_ble_eq_true rfl) ⟨Nat.zero_le _, Nat.zero_le _⟩ d_MD_takeFile_3 rfl rfl (fun H locs hI => ?_)
  refine r_bnz (b := sHasF σ (nI f)) (tgt := 13) hx hb d_MD_takeFile_6 (by decide) (fun h => ?_) (fun h => ?_)
  · refine lv_aload_n hx hb d_MD_takeFile_13 rfl (lv_at hl 0 rfl) ?_
    refine g_callV (own := "GroupBitmapsModel") (C := "GroupBitmapsModel") (T := F_MD) (N := 11) (k := 0) (q0 := 0) (ci := 3) (a := am 0) (As := []) (rest := [.ref (am 0)]) (k_af σ τ hR) hx hb hml hown hg hK hI hA kw_561 kw_563 kp_29 kw_4 kw_564 ky_MD_allFiles ⟨Nat.le_of_ble_eq_true rfl, Nat.le_of_ble_eq_true rfl⟩ rfl rfl (wm_0) rfl rfl hl.1 (Nat.le_of_ble_eq_true rfl) ⟨Nat.zero_le _, Nat.zero_le _⟩ d_MD_takeFile_14 rfl rfl (fun H locs hI => ?_)
    refine r_zne (a := sFF σ (sCnt σ)) (tgt := 24) hx hb d_MD_takeFile_17 (by decide) (by omega) (fun h9 => ?_) (fun h9 => ?_)
    · refine lv_iconst (v := nI 0) hx hb d_MD_takeFile_24 (by decide) ?_
      refine g_put (ws' := (wm am cI cZ (vTh τ 0))) (own := "GroupBitmapsModel") (C := R_MD) (T := F_MD) (N := 11) (ci := 3) (v := .int (nI 0)) hx hb hg ku_MD t_MD t_MD_ok n_MD hown hK hI (0) (wm_0) rfl 0 (by decide) kw_470 rfl rfl (rfl) (rfl) (Nat.le_of_ble_eq_true rfl) (wm_vTh) d_MD_takeFile_25 (fun H locs hI => ?_)
      refine lv_aload_n hx hb d_MD_takeFile_28 rfl (lv_at hl 0 rfl) ?_
      refine g_get (own := "GroupBitmapsModel") (C := R_MD) (T := F_MD) (N := 11) (ci := 3) (v := .int (nI 0)) hx hb hg ku_MD hown hK hI (0) (wm_0) rfl 0 (by decide) kw_470 rfl d_MD_takeFile_29 ?_
      refine r_zle (a := 0) (tgt := 37) hx hb d_MD_takeFile_32 (by decide) (by omega) (fun h9 => ?_) (fun h9 => ?_)
      · refine lv_iload_n hx hb d_MD_takeFile_37 rfl (lv_at hl 1 rfl) ?_
        refine lv_iconst (v := nI 1) hx hb d_MD_takeFile_38 (by decide) ?_
        refine r_isub (a := f) (b := 1) hx hb (by omega) d_MD_takeFile_39 ?_
        refine lv_sipush (v := nI 128) hx hb d_MD_takeFile_40 (by decide) ?_
        refine r_idiv (a := f - 1) (b := 128) hx hb (by omega) (by omega) (by omega) d_MD_takeFile_43 ?_
        refine lv_istore_n (lv' := [(3, .int (nI ((f - 1) / 128))), (0, .ref (am 0)), (1, .int (nI f)), (2, .int (bI fo))]) hx hb d_MD_takeFile_44 rfl hl (by decide) rfl (fun ls hl => ?_)
        refine lv_iload_n hx hb d_MD_takeFile_45 rfl (lv_at hl 3 rfl) ?_
        refine r_bz (b := fo) (tgt := 67) hx hb d_MD_takeFile_46 (by decide) (fun h3 => ?_) (fun h3 => ?_)
        · rw [h3, if_neg (by decide)] at hgg
          refine lv_aload_n hx hb d_MD_takeFile_67 rfl (lv_at hl 1 rfl) ?_
          refine lv_iload_n hx hb d_MD_takeFile_68 rfl (lv_at hl 0 rfl) ?_
          refine g_callV (own := "GroupBitmapsModel") (C := "GroupBitmapsModel") (T := F_MD) (N := 11) (k := 1) (q0 := 0) (ci := 3) (a := am 0) (As := [.int (nI ((f - 1) / 128))]) (rest := []) (c_MD_groupOfPlain σ (vTh τ 0) (hR.th 0) ((f - 1) / 128) (by omega)) hx hb hml hown hg hK hI hA kw_577 kw_579 kp_33 kw_4 kw_580 ky_MD_groupOfPlain ⟨Nat.le_of_ble_eq_true rfl, Nat.le_of_ble_eq_true rfl⟩ rfl rfl (wm_0) rfl rfl hl.1 (Nat.le_of_ble_eq_true rfl) ⟨Nat.zero_le _, Nat.zero_le _⟩ d_MD_takeFile_69 rfl rfl (fun H locs hI => ?_)
          rw [hgg]
          refine lv_istore (lv' := [(4, .int (nI g)), (3, .int (nI ((f - 1) / 128))), (0, .ref (am 0)), (1, .int (nI f)), (2, .int (bI fo))]) hx hb d_MD_takeFile_72 hl (by decide) rfl (fun ls hl => ?_)
          refine lv_iconst (v := nI 0) hx hb d_MD_takeFile_74 (by decide) ?_
          refine lv_istore (lv' := [(5, .int (nI 0)), (4, .int (nI g)), (3, .int (nI ((f - 1) / 128))), (0, .ref (am 0)), (1, .int (nI f)), (2, .int (bI fo))]) hx hb d_MD_takeFile_75 hl (by decide) rfl (fun ls hl => ?_)
          have loop : ∀ (fuel : Nat) (t : Nat), k + 1 ≤ fuel + t → (t ≤ k) → ∀ (H : Heap) (locs : List Loc) (ls : Array Slot), gI D A s.heap (wm am cI cZ (vTh τ 0)) H locs → lv_has ls 6 [(0, .ref (am 0)), (1, .int (nI f)), (2, .int (bI fo)), (3, .int (nI ((f - 1) / 128))), (4, .int (nI g)), (5, .int (nI t))] → W p l e ({ frames := 3, cells := 0, slots := 0, locals := 73 }) s m ([.ref (am 0), .int (nI f), .int (bI fo)] : List Value).toArray below meth c H locs 0 0 (gQ D below ([.ref (am 0), .int (nI f), .int (bI fo)] : List Value).toArray s A (wm am cI cZ (mMkF (vTh τ 0) g k true fo)) (some (.int (nI (128 * g + k + 1))))) (F0 m 77 ls []) := by
            intro fuel
            induction fuel with
            | zero => intro t hfu ht; exact absurd hfu (by omega)
            | succ fuel ih =>
              intro t hfu ht H locs ls hI hl
              refine lv_aload_n hx hb d_MD_takeFile_77 rfl (lv_at hl 0 rfl) ?_
              refine g_get (own := "GroupBitmapsModel") (C := R_MD) (T := F_MD) (N := 11) (ci := 3) (v := .ref (am 3)) hx hb hg ku_MD hown hK hI (0) (wm_0) rfl 4 (by decide) kw_474 rfl d_MD_takeFile_78 ?_
              refine lv_sipush (v := nI 128) hx hb d_MD_takeFile_81 (by decide) ?_
              refine lv_iload hx hb d_MD_takeFile_84 (lv_at hl 4 rfl) ?_
              refine r_imul (a := 128) (b := g) hx hb d_MD_takeFile_86 ?_
              refine lv_iload hx hb d_MD_takeFile_87 (lv_at hl 5 rfl) ?_
              refine r_iadd (a := 128 * g) (b := t) hx hb d_MD_takeFile_89 ?_
              refine g_zald (B := (mFl (vTh τ 0))) (i := (128 * g) + t) hx hb hK hI (3) 1 (wm_Fl) rfl (by omega) (by omega) d_MD_takeFile_90 ?_
              have hst : mFl τ (128 * g + t) = sSet σ (2 * g + 1) t := (hR.sf hg4 (by omega)).symm
              refine r_bz (b := (mFl (vTh τ 0)) ((128 * g) + t)) (tgt := 100) hx hb d_MD_takeFile_91 (by decide) (fun h5 => ?_) (fun h5 => ?_)
              · obtain rfl : k = t := by rcases Nat.lt_or_ge t k with q | q; exact absurd ((k3 t q).symm.trans (hst.symm.trans h5)) (by decide); omega
                refine lv_aload_n hx hb d_MD_takeFile_100 rfl (lv_at hl 0 rfl) ?_
                refine lv_iload hx hb d_MD_takeFile_101 (lv_at hl 4 rfl) ?_
                refine lv_iload hx hb d_MD_takeFile_103 (lv_at hl 5 rfl) ?_
                refine lv_iconst (v := bI true) hx hb d_MD_takeFile_105 (by decide) ?_
                refine lv_iload_n hx hb d_MD_takeFile_106 rfl (lv_at hl 2 rfl) ?_
                refine g_callV (own := "GroupBitmapsModel") (C := "GroupBitmapsModel") (T := F_MD) (N := 11) (k := 4) (q0 := 0) (ci := 3) (a := am 0) (As := [.int (nI g), .int (nI k), .int (bI true), .int (bI fo)]) (rest := []) (c_MD_markFile (vTh τ 0) hτ g k true fo hg4 k1 (fun _ z => absurd z (by decide))) hx hb hml hown hg hK hI hA kw_581 kw_583 kp_34 kw_4 kw_584 ky_MD_markFile ⟨Nat.le_of_ble_eq_true rfl, Nat.le_of_ble_eq_true rfl⟩ rfl rfl (wm_0) rfl rfl hl.1 (Nat.le_of_ble_eq_true rfl) ⟨Nat.zero_le _, Nat.zero_le _⟩ d_MD_takeFile_107 rfl rfl (fun H locs hI => ?_)
                refine lv_sipush (v := nI 128) hx hb d_MD_takeFile_110 (by decide) ?_
                refine lv_iload hx hb d_MD_takeFile_113 (lv_at hl 4 rfl) ?_
                refine r_imul (a := 128) (b := g) hx hb d_MD_takeFile_115 ?_
                refine lv_iload hx hb d_MD_takeFile_116 (lv_at hl 5 rfl) ?_
                refine r_iadd (a := 128 * g) (b := k) hx hb d_MD_takeFile_118 ?_
                refine lv_iconst (v := nI 1) hx hb d_MD_takeFile_119 (by decide) ?_
                refine r_iadd (a := (128 * g) + k) (b := 1) hx hb d_MD_takeFile_120 ?_
                exact g_ri hx hb hr hlk hI (rfl) d_MD_takeFile_121
              · have hlt : t < k := by rcases Nat.lt_or_ge t k with q | q; exact q; exact absurd (k2.symm.trans ((show k = t by omega) ▸ (hst.symm.trans h5))) (by decide)
                refine lv_iinc (v := nI (t + 1)) (lv' := [(5, .int (nI (t + 1))), (0, .ref (am 0)), (1, .int (nI f)), (2, .int (bI fo)), (3, .int (nI ((f - 1) / 128))), (4, .int (nI g))]) hx hb d_MD_takeFile_94 hl (k := 5) rfl (nI_1 _) (by decide) rfl (fun ls hl => ?_)
                refine lv_goto (tgt := 77) hx hb d_MD_takeFile_97 (by decide) ?_
                exact ih (t + 1) (by omega) (by omega) _ _ _ hI (lv_sub hl [1, 2, 3, 4, 5, 0] rfl)
          exact loop (k + 1) 0 (by omega) (Nat.zero_le _) _ _ _ hI (lv_sub hl [3, 4, 5, 2, 1, 0] rfl)
        · rw [h3, if_pos rfl, sFolder_eq] at hgg
          refine lv_aload_n hx hb d_MD_takeFile_49 rfl (lv_at hl 1 rfl) ?_
          refine lv_iload_n hx hb d_MD_takeFile_50 rfl (lv_at hl 0 rfl) ?_
          refine lv_iload_n hx hb d_MD_takeFile_51 rfl (lv_at hl 2 rfl) ?_
          refine lv_iconst (v := nI 2) hx hb d_MD_takeFile_52 (by decide) ?_
          refine r_ne (a := f) (b := 2) (tgt := 60) hx hb d_MD_takeFile_53 (by decide) (by omega) (by omega) (fun h4 => ?_) (fun h4 => ?_)
          · rw [show decide (f = 2) = false from decide_eq_false h4] at hgg
            refine lv_iconst (v := bI false) hx hb d_MD_takeFile_60 (by decide) ?_
            refine g_callV (own := "GroupBitmapsModel") (C := "GroupBitmapsModel") (T := F_MD) (N := 11) (k := 2) (q0 := 0) (ci := 3) (a := am 0) (As := [.int (nI ((f - 1) / 128)), .int (bI false)]) (rest := []) (c_MD_groupOfFolder σ (vTh τ 0) (hR.th 0) ((f - 1) / 128) (by omega) false) hx hb hml hown hg hK hI hA kw_569 kw_571 kp_31 kw_4 kw_572 ky_MD_groupOfFolder ⟨Nat.le_of_ble_eq_true rfl, Nat.le_of_ble_eq_true rfl⟩ rfl rfl (wm_0) rfl rfl hl.1 (Nat.le_of_ble_eq_true rfl) ⟨Nat.zero_le _, Nat.zero_le _⟩ d_MD_takeFile_61 rfl rfl (fun H locs hI => ?_)
            rw [hgg]
            refine lv_goto (tgt := 72) hx hb d_MD_takeFile_64 (by decide) ?_
            refine lv_istore (lv' := [(4, .int (nI g)), (3, .int (nI ((f - 1) / 128))), (0, .ref (am 0)), (1, .int (nI f)), (2, .int (bI fo))]) hx hb d_MD_takeFile_72 hl (by decide) rfl (fun ls hl => ?_)
            refine lv_iconst (v := nI 0) hx hb d_MD_takeFile_74 (by decide) ?_
            refine lv_istore (lv' := [(5, .int (nI 0)), (4, .int (nI g)), (3, .int (nI ((f - 1) / 128))), (0, .ref (am 0)), (1, .int (nI f)), (2, .int (bI fo))]) hx hb d_MD_takeFile_75 hl (by decide) rfl (fun ls hl => ?_)
            have loop : ∀ (fuel : Nat) (t : Nat), k + 1 ≤ fuel + t → (t ≤ k) → ∀ (H : Heap) (locs : List Loc) (ls : Array Slot), gI D A s.heap (wm am cI cZ (vTh τ 0)) H locs → lv_has ls 6 [(0, .ref (am 0)), (1, .int (nI f)), (2, .int (bI fo)), (3, .int (nI ((f - 1) / 128))), (4, .int (nI g)), (5, .int (nI t))] → W p l e ({ frames := 3, cells := 0, slots := 0, locals := 73 }) s m ([.ref (am 0), .int (nI f), .int (bI fo)] : List Value).toArray below meth c H locs 0 0 (gQ D below ([.ref (am 0), .int (nI f), .int (bI fo)] : List Value).toArray s A (wm am cI cZ (mMkF (vTh τ 0) g k true fo)) (some (.int (nI (128 * g + k + 1))))) (F0 m 77 ls []) := by
              intro fuel
              induction fuel with
              | zero => intro t hfu ht; exact absurd hfu (by omega)
              | succ fuel ih =>
                intro t hfu ht H locs ls hI hl
                refine lv_aload_n hx hb d_MD_takeFile_77 rfl (lv_at hl 0 rfl) ?_
                refine g_get (own := "GroupBitmapsModel") (C := R_MD) (T := F_MD) (N := 11) (ci := 3) (v := .ref (am 3)) hx hb hg ku_MD hown hK hI (0) (wm_0) rfl 4 (by decide) kw_474 rfl d_MD_takeFile_78 ?_
                refine lv_sipush (v := nI 128) hx hb d_MD_takeFile_81 (by decide) ?_
                refine lv_iload hx hb d_MD_takeFile_84 (lv_at hl 4 rfl) ?_
                refine r_imul (a := 128) (b := g) hx hb d_MD_takeFile_86 ?_
                refine lv_iload hx hb d_MD_takeFile_87 (lv_at hl 5 rfl) ?_
                refine r_iadd (a := 128 * g) (b := t) hx hb d_MD_takeFile_89 ?_
                refine g_zald (B := (mFl (vTh τ 0))) (i := (128 * g) + t) hx hb hK hI (3) 1 (wm_Fl) rfl (by omega) (by omega) d_MD_takeFile_90 ?_
                have hst : mFl τ (128 * g + t) = sSet σ (2 * g + 1) t := (hR.sf hg4 (by omega)).symm
                refine r_bz (b := (mFl (vTh τ 0)) ((128 * g) + t)) (tgt := 100) hx hb d_MD_takeFile_91 (by decide) (fun h5 => ?_) (fun h5 => ?_)
                · obtain rfl : k = t := by rcases Nat.lt_or_ge t k with q | q; exact absurd ((k3 t q).symm.trans (hst.symm.trans h5)) (by decide); omega
                  refine lv_aload_n hx hb d_MD_takeFile_100 rfl (lv_at hl 0 rfl) ?_
                  refine lv_iload hx hb d_MD_takeFile_101 (lv_at hl 4 rfl) ?_
                  refine lv_iload hx hb d_MD_takeFile_103 (lv_at hl 5 rfl) ?_
                  refine lv_iconst (v := bI true) hx hb d_MD_takeFile_105 (by decide) ?_
                  refine lv_iload_n hx hb d_MD_takeFile_106 rfl (lv_at hl 2 rfl) ?_
                  refine g_callV (own := "GroupBitmapsModel") (C := "GroupBitmapsModel") (T := F_MD) (N := 11) (k := 4) (q0 := 0) (ci := 3) (a := am 0) (As := [.int (nI g), .int (nI k), .int (bI true), .int (bI fo)]) (rest := []) (c_MD_markFile (vTh τ 0) hτ g k true fo hg4 k1 (fun _ z => absurd z (by decide))) hx hb hml hown hg hK hI hA kw_581 kw_583 kp_34 kw_4 kw_584 ky_MD_markFile ⟨Nat.le_of_ble_eq_true rfl, Nat.le_of_ble_eq_true rfl⟩ rfl rfl (wm_0) rfl rfl hl.1 (Nat.le_of_ble_eq_true rfl) ⟨Nat.zero_le _, Nat.zero_le _⟩ d_MD_takeFile_107 rfl rfl (fun H locs hI => ?_)
                  refine lv_sipush (v := nI 128) hx hb d_MD_takeFile_110 (by decide) ?_
                  refine lv_iload hx hb d_MD_takeFile_113 (lv_at hl 4 rfl) ?_
                  refine r_imul (a := 128) (b := g) hx hb d_MD_takeFile_115 ?_
                  refine lv_iload hx hb d_MD_takeFile_116 (lv_at hl 5 rfl) ?_
                  refine r_iadd (a := 128 * g) (b := k) hx hb d_MD_takeFile_118 ?_
                  refine lv_iconst (v := nI 1) hx hb d_MD_takeFile_119 (by decide) ?_
                  refine r_iadd (a := (128 * g) + k) (b := 1) hx hb d_MD_takeFile_120 ?_
                  exact g_ri hx hb hr hlk hI (rfl) d_MD_takeFile_121
                · have hlt : t < k := by rcases Nat.lt_or_ge t k with q | q; exact q; exact absurd (k2.symm.trans ((show k = t by omega) ▸ (hst.symm.trans h5))) (by decide)
                  refine lv_iinc (v := nI (t + 1)) (lv' := [(5, .int (nI (t + 1))), (0, .ref (am 0)), (1, .int (nI f)), (2, .int (bI fo)), (3, .int (nI ((f - 1) / 128))), (4, .int (nI g))]) hx hb d_MD_takeFile_94 hl (k := 5) rfl (nI_1 _) (by decide) rfl (fun ls hl => ?_)
                  refine lv_goto (tgt := 77) hx hb d_MD_takeFile_97 (by decide) ?_
                  exact ih (t + 1) (by omega) (by omega) _ _ _ hI (lv_sub hl [1, 2, 3, 4, 5, 0] rfl)
            exact loop (k + 1) 0 (by omega) (Nat.zero_le _) _ _ _ hI (lv_sub hl [3, 4, 5, 2, 1, 0] rfl)
          · rw [show decide (f = 2) = true from decide_eq_true h4] at hgg
            refine lv_iconst (v := bI true) hx hb d_MD_takeFile_56 (by decide) ?_
            refine lv_goto (tgt := 61) hx hb d_MD_takeFile_57 (by decide) ?_
            refine g_callV (own := "GroupBitmapsModel") (C := "GroupBitmapsModel") (T := F_MD) (N := 11) (k := 2) (q0 := 0) (ci := 3) (a := am 0) (As := [.int (nI ((f - 1) / 128)), .int (bI true)]) (rest := []) (c_MD_groupOfFolder σ (vTh τ 0) (hR.th 0) ((f - 1) / 128) (by omega) true) hx hb hml hown hg hK hI hA kw_569 kw_571 kp_31 kw_4 kw_572 ky_MD_groupOfFolder ⟨Nat.le_of_ble_eq_true rfl, Nat.le_of_ble_eq_true rfl⟩ rfl rfl (wm_0) rfl rfl hl.1 (Nat.le_of_ble_eq_true rfl) ⟨Nat.zero_le _, Nat.zero_le _⟩ d_MD_takeFile_61 rfl rfl (fun H locs hI => ?_)
            rw [hgg]
            refine lv_goto (tgt := 72) hx hb d_MD_takeFile_64 (by decide) ?_
            refine lv_istore (lv' := [(4, .int (nI g)), (3, .int (nI ((f - 1) / 128))), (0, .ref (am 0)), (1, .int (nI f)), (2, .int (bI fo))]) hx hb d_MD_takeFile_72 hl (by decide) rfl (fun ls hl => ?_)
            refine lv_iconst (v := nI 0) hx hb d_MD_takeFile_74 (by decide) ?_
            refine lv_istore (lv' := [(5, .int (nI 0)), (4, .int (nI g)), (3, .int (nI ((f - 1) / 128))), (0, .ref (am 0)), (1, .int (nI f)), (2, .int (bI fo))]) hx hb d_MD_takeFile_75 hl (by decide) rfl (fun ls hl => ?_)
            have loop : ∀ (fuel : Nat) (t : Nat), k + 1 ≤ fuel + t → (t ≤ k) → ∀ (H : Heap) (locs : List Loc) (ls : Array Slot), gI D A s.heap (wm am cI cZ (vTh τ 0)) H locs → lv_has ls 6 [(0, .ref (am 0)), (1, .int (nI f)), (2, .int (bI fo)), (3, .int (nI ((f - 1) / 128))), (4, .int (nI g)), (5, .int (nI t))] → W p l e ({ frames := 3, cells := 0, slots := 0, locals := 73 }) s m ([.ref (am 0), .int (nI f), .int (bI fo)] : List Value).toArray below meth c H locs 0 0 (gQ D below ([.ref (am 0), .int (nI f), .int (bI fo)] : List Value).toArray s A (wm am cI cZ (mMkF (vTh τ 0) g k true fo)) (some (.int (nI (128 * g + k + 1))))) (F0 m 77 ls []) := by
              intro fuel
              induction fuel with
              | zero => intro t hfu ht; exact absurd hfu (by omega)
              | succ fuel ih =>
                intro t hfu ht H locs ls hI hl
                refine lv_aload_n hx hb d_MD_takeFile_77 rfl (lv_at hl 0 rfl) ?_
                refine g_get (own := "GroupBitmapsModel") (C := R_MD) (T := F_MD) (N := 11) (ci := 3) (v := .ref (am 3)) hx hb hg ku_MD hown hK hI (0) (wm_0) rfl 4 (by decide) kw_474 rfl d_MD_takeFile_78 ?_
                refine lv_sipush (v := nI 128) hx hb d_MD_takeFile_81 (by decide) ?_
                refine lv_iload hx hb d_MD_takeFile_84 (lv_at hl 4 rfl) ?_
                refine r_imul (a := 128) (b := g) hx hb d_MD_takeFile_86 ?_
                refine lv_iload hx hb d_MD_takeFile_87 (lv_at hl 5 rfl) ?_
                refine r_iadd (a := 128 * g) (b := t) hx hb d_MD_takeFile_89 ?_
                refine g_zald (B := (mFl (vTh τ 0))) (i := (128 * g) + t) hx hb hK hI (3) 1 (wm_Fl) rfl (by omega) (by omega) d_MD_takeFile_90 ?_
                have hst : mFl τ (128 * g + t) = sSet σ (2 * g + 1) t := (hR.sf hg4 (by omega)).symm
                refine r_bz (b := (mFl (vTh τ 0)) ((128 * g) + t)) (tgt := 100) hx hb d_MD_takeFile_91 (by decide) (fun h5 => ?_) (fun h5 => ?_)
                · obtain rfl : k = t := by rcases Nat.lt_or_ge t k with q | q; exact absurd ((k3 t q).symm.trans (hst.symm.trans h5)) (by decide); omega
                  refine lv_aload_n hx hb d_MD_takeFile_100 rfl (lv_at hl 0 rfl) ?_
                  refine lv_iload hx hb d_MD_takeFile_101 (lv_at hl 4 rfl) ?_
                  refine lv_iload hx hb d_MD_takeFile_103 (lv_at hl 5 rfl) ?_
                  refine lv_iconst (v := bI true) hx hb d_MD_takeFile_105 (by decide) ?_
                  refine lv_iload_n hx hb d_MD_takeFile_106 rfl (lv_at hl 2 rfl) ?_
                  refine g_callV (own := "GroupBitmapsModel") (C := "GroupBitmapsModel") (T := F_MD) (N := 11) (k := 4) (q0 := 0) (ci := 3) (a := am 0) (As := [.int (nI g), .int (nI k), .int (bI true), .int (bI fo)]) (rest := []) (c_MD_markFile (vTh τ 0) hτ g k true fo hg4 k1 (fun _ z => absurd z (by decide))) hx hb hml hown hg hK hI hA kw_581 kw_583 kp_34 kw_4 kw_584 ky_MD_markFile ⟨Nat.le_of_ble_eq_true rfl, Nat.le_of_ble_eq_true rfl⟩ rfl rfl (wm_0) rfl rfl hl.1 (Nat.le_of_ble_eq_true rfl) ⟨Nat.zero_le _, Nat.zero_le _⟩ d_MD_takeFile_107 rfl rfl (fun H locs hI => ?_)
                  refine lv_sipush (v := nI 128) hx hb d_MD_takeFile_110 (by decide) ?_
                  refine lv_iload hx hb d_MD_takeFile_113 (lv_at hl 4 rfl) ?_
                  refine r_imul (a := 128) (b := g) hx hb d_MD_takeFile_115 ?_
                  refine lv_iload hx hb d_MD_takeFile_116 (lv_at hl 5 rfl) ?_
                  refine r_iadd (a := 128 * g) (b := k) hx hb d_MD_takeFile_118 ?_
                  refine lv_iconst (v := nI 1) hx hb d_MD_takeFile_119 (by decide) ?_
                  refine r_iadd (a := (128 * g) + k) (b := 1) hx hb d_MD_takeFile_120 ?_
                  exact g_ri hx hb hr hlk hI (rfl) d_MD_takeFile_121
                · have hlt : t < k := by rcases Nat.lt_or_ge t k with q | q; exact q; exact absurd (k2.symm.trans ((show k = t by omega) ▸ (hst.symm.trans h5))) (by decide)
                  refine lv_iinc (v := nI (t + 1)) (lv' := [(5, .int (nI (t + 1))), (0, .ref (am 0)), (1, .int (nI f)), (2, .int (bI fo)), (3, .int (nI ((f - 1) / 128))), (4, .int (nI g))]) hx hb d_MD_takeFile_94 hl (k := 5) rfl (nI_1 _) (by decide) rfl (fun ls hl => ?_)
                  refine lv_goto (tgt := 77) hx hb d_MD_takeFile_97 (by decide) ?_
                  exact ih (t + 1) (by omega) (by omega) _ _ _ hI (lv_sub hl [1, 2, 3, 4, 5, 0] rfl)
            exact loop (k + 1) 0 (by omega) (Nat.zero_le _) _ _ _ hI (lv_sub hl [3, 4, 5, 2, 1, 0] rfl)
      · exact absurd h9 (by omega)
    · exact absurd h9 (by omega)
  · exact absurd ((sHasF_nI hσ (by omega) hf).symm.trans h) (by decide)
set_option maxHeartbeats 4000000 in
set_option maxRecDepth 100000 in
theorem c_MD_takeFile_no {l : Launch} {D : va_G} {cG cZ cI cJ : ClassId} {am : Nat → Nat} (σ : gS) (τ : mS) (N : Nat) (hK0 : RK N σ τ) (hN : N < 65536) (f : Nat) (fo : Bool) (hf1 : 1 ≤ f) (hf : f ≤ sCnt σ * 128) (hff : sFF σ (sCnt σ) = 0) : gMet l D (gT cG cZ cI cJ) y_MD_takeFile b_MD_takeFile 6 (some .int) ({ frames := 3, cells := 0, slots := 0, locals := 73 }) (wm am cI cZ τ) [.ref (am 0), .int (nI f), .int (bI fo)] (wm am cI cZ (vTh τ 2)) (some (.int (nI 0))) := by
  refine gMet_of (by decide) (Nat.le_of_ble_eq_true rfl) ?_
  intro p e s m below meth c A ls hC hA hI hl
  obtain ⟨hx, hb, hr, hlk, hown, hml, hg, hK⟩ := hC
  have hown : s.vm.findClass "GroupBitmapsModel" = some m.cls := hown
  have hl : lv_has ls 6 [(0, .ref (am 0)), (1, .int (nI f)), (2, .int (bI fo))] := hl
  have hR := hK0.ri hN
  have hτ := hR.ok
  have hσ := hR.sb
  have hgr := hR.gr
  have hc1 := hσ.1
  have hc2 := hσ.2.1
  refine lv_aload_n hx hb d_MD_takeFile_0 rfl (lv_at hl 0 rfl) ?_
  refine lv_aload_n hx hb d_MD_takeFile_1 rfl (lv_at hl 0 rfl) ?_
  refine lv_iload_n hx hb d_MD_takeFile_2 rfl (lv_at hl 1 rfl) ?_
  refine g_callV (own := "GroupBitmapsModel") (C := "GroupBitmapsModel") (T := F_MD) (N := 11) (k := 1) (q0 := 0) (ci := 3) (a := am 0) (As := [.int (nI f)]) (rest := [.ref (am 0)]) (k_if σ τ hR (nI f)) hx hb hml hown hg hK hI hA kw_557 kw_559 kp_28 kw_4 kw_560 ky_MD_isFile ⟨Nat.le_of_ble_eq_true rfl, Nat.le_of_ble_eq_true rfl⟩ rfl rfl (wm_0) rfl rfl hl.1 (Nat.le_of_ble_eq_true rfl) ⟨Nat.zero_le _, Nat.zero_le _⟩ d_MD_takeFile_3 rfl rfl (fun H locs hI => ?_)
  refine r_bnz (b := sHasF σ (nI f)) (tgt := 13) hx hb d_MD_takeFile_6 (by decide) (fun h => ?_) (fun h => ?_)
  · refine lv_aload_n hx hb d_MD_takeFile_13 rfl (lv_at hl 0 rfl) ?_
    refine g_callV (own := "GroupBitmapsModel") (C := "GroupBitmapsModel") (T := F_MD) (N := 11) (k := 0) (q0 := 0) (ci := 3) (a := am 0) (As := []) (rest := [.ref (am 0)]) (k_af σ τ hR) hx hb hml hown hg hK hI hA kw_561 kw_563 kp_29 kw_4 kw_564 ky_MD_allFiles ⟨Nat.le_of_ble_eq_true rfl, Nat.le_of_ble_eq_true rfl⟩ rfl rfl (wm_0) rfl rfl hl.1 (Nat.le_of_ble_eq_true rfl) ⟨Nat.zero_le _, Nat.zero_le _⟩ d_MD_takeFile_14 rfl rfl (fun H locs hI => ?_)
    refine r_zne (a := sFF σ (sCnt σ)) (tgt := 24) hx hb d_MD_takeFile_17 (by decide) (by omega) (fun h9 => ?_) (fun h9 => ?_)
    · exact absurd h9 (by omega)
    · refine lv_iconst (v := nI 2) hx hb d_MD_takeFile_20 (by decide) ?_
      refine lv_goto (tgt := 25) hx hb d_MD_takeFile_21 (by decide) ?_
      refine g_put (ws' := (wm am cI cZ (vTh τ 2))) (own := "GroupBitmapsModel") (C := R_MD) (T := F_MD) (N := 11) (ci := 3) (v := .int (nI 2)) hx hb hg ku_MD t_MD t_MD_ok n_MD hown hK hI (0) (wm_0) rfl 0 (by decide) kw_470 rfl rfl (rfl) (rfl) (Nat.le_of_ble_eq_true rfl) (wm_vTh) d_MD_takeFile_25 (fun H locs hI => ?_)
      refine lv_aload_n hx hb d_MD_takeFile_28 rfl (lv_at hl 0 rfl) ?_
      refine g_get (own := "GroupBitmapsModel") (C := R_MD) (T := F_MD) (N := 11) (ci := 3) (v := .int (nI 2)) hx hb hg ku_MD hown hK hI (0) (wm_0) rfl 0 (by decide) kw_470 rfl d_MD_takeFile_29 ?_
      refine r_zle (a := 2) (tgt := 37) hx hb d_MD_takeFile_32 (by decide) (by omega) (fun h9 => ?_) (fun h9 => ?_)
      · exact absurd h9 (by omega)
      · refine lv_iconst (v := nI 0) hx hb d_MD_takeFile_35 (by decide) ?_
        exact g_ri hx hb hr hlk hI (rfl) d_MD_takeFile_36
  · exact absurd ((sHasF_nI hσ (by omega) hf).symm.trans h) (by decide)
set_option maxHeartbeats 4000000 in
set_option maxRecDepth 100000 in
theorem c_MD_takeFile_bad {l : Launch} {D : va_G} {cG cZ cI cJ : ClassId} {am : Nat → Nat} (σ : gS) (τ : mS) (N : Nat) (hK0 : RK N σ τ) (hN : N < 65536) (x : Int32) (fo : Bool) (hbad : sHasF σ x = false) : gMet l D (gT cG cZ cI cJ) y_MD_takeFile b_MD_takeFile 6 (some .int) ({ frames := 3, cells := 0, slots := 0, locals := 73 }) (wm am cI cZ τ) [.ref (am 0), .int x, .int (bI fo)] (wm am cI cZ (vTh τ 1)) (some (.int (nI 0))) := by
  refine gMet_of (by decide) (Nat.le_of_ble_eq_true rfl) ?_
  intro p e s m below meth c A ls hC hA hI hl
  obtain ⟨hx, hb, hr, hlk, hown, hml, hg, hK⟩ := hC
  have hown : s.vm.findClass "GroupBitmapsModel" = some m.cls := hown
  have hl : lv_has ls 6 [(0, .ref (am 0)), (1, .int x), (2, .int (bI fo))] := hl
  have hR := hK0.ri hN
  have hτ := hR.ok
  have hσ := hR.sb
  have hgr := hR.gr
  have hc1 := hσ.1
  have hc2 := hσ.2.1
  refine lv_aload_n hx hb d_MD_takeFile_0 rfl (lv_at hl 0 rfl) ?_
  refine lv_aload_n hx hb d_MD_takeFile_1 rfl (lv_at hl 0 rfl) ?_
  refine lv_iload_n hx hb d_MD_takeFile_2 rfl (lv_at hl 1 rfl) ?_
  refine g_callV (own := "GroupBitmapsModel") (C := "GroupBitmapsModel") (T := F_MD) (N := 11) (k := 1) (q0 := 0) (ci := 3) (a := am 0) (As := [.int x]) (rest := [.ref (am 0)]) (k_if σ τ hR x) hx hb hml hown hg hK hI hA kw_557 kw_559 kp_28 kw_4 kw_560 ky_MD_isFile ⟨Nat.le_of_ble_eq_true rfl, Nat.le_of_ble_eq_true rfl⟩ rfl rfl (wm_0) rfl rfl hl.1 (Nat.le_of_ble_eq_true rfl) ⟨Nat.zero_le _, Nat.zero_le _⟩ d_MD_takeFile_3 rfl rfl (fun H locs hI => ?_)
  refine r_bnz (b := sHasF σ x) (tgt := 13) hx hb d_MD_takeFile_6 (by decide) (fun h => ?_) (fun h => ?_)
  · exact absurd (hbad.symm.trans h) (by decide)
  · refine lv_iconst (v := nI 1) hx hb d_MD_takeFile_9 (by decide) ?_
    refine lv_goto (tgt := 25) hx hb d_MD_takeFile_10 (by decide) ?_
    refine g_put (ws' := (wm am cI cZ (vTh τ 1))) (own := "GroupBitmapsModel") (C := R_MD) (T := F_MD) (N := 11) (ci := 3) (v := .int (nI 1)) hx hb hg ku_MD t_MD t_MD_ok n_MD hown hK hI (0) (wm_0) rfl 0 (by decide) kw_470 rfl rfl (rfl) (rfl) (Nat.le_of_ble_eq_true rfl) (wm_vTh) d_MD_takeFile_25 (fun H locs hI => ?_)
    refine lv_aload_n hx hb d_MD_takeFile_28 rfl (lv_at hl 0 rfl) ?_
    refine g_get (own := "GroupBitmapsModel") (C := R_MD) (T := F_MD) (N := 11) (ci := 3) (v := .int (nI 1)) hx hb hg ku_MD hown hK hI (0) (wm_0) rfl 0 (by decide) kw_470 rfl d_MD_takeFile_29 ?_
    refine r_zle (a := 1) (tgt := 37) hx hb d_MD_takeFile_32 (by decide) (by omega) (fun h9 => ?_) (fun h9 => ?_)
    · exact absurd h9 (by omega)
    · refine lv_iconst (v := nI 0) hx hb d_MD_takeFile_35 (by decide) ?_
      exact g_ri hx hb hr hlk hI (rfl) d_MD_takeFile_36
