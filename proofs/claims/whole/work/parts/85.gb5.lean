theorem pst_lt (i : Nat) : pst i < 65536 := by unfold pst; split <;> first | omega | (split <;> first | omega | (split <;> omega))
set_option maxHeartbeats 4000000 in
set_option maxRecDepth 100000 in
theorem c_GB_groupForPlain {l : Launch} {D : va_G} {cG cZ cI cJ : ClassId} {ad : Nat → Nat} (σ : gS) (hσ : sB σ) (f : Nat) (hf1 : 1 ≤ f) (hf : f ≤ 512) : gMetE l D (gT cG cZ cI cJ) y_GB_groupForPlain b_GB_groupForPlain 8 (some (.object "GroupBitmaps$Group")) ({ frames := 2, cells := 0, slots := 0, locals := 45 }) (wd ad cG cZ σ) [.ref (ad 0), .int (nI f)] (wd ad cG cZ σ) (some (gR ad (sPlain σ ((f - 1) / 128)))) := by
  refine gMetE_of (by decide) (Nat.le_of_ble_eq_true rfl) ?_
  intro p e s m below meth c A ls hC hA hE hI hl
  obtain ⟨hx, hb, hr, hlk, hown, hml, hg, hK⟩ := hC
  have hown : s.vm.findClass "GroupBitmaps" = some m.cls := hown
  have hl : lv_has ls 8 [(0, .ref (ad 0)), (1, .int (nI f))] := hl
  have hc1 := hσ.1
  have hc2 := hσ.2.1
  obtain ⟨tP, hZP, hTP⟩ := hE.2.2.2.2.1
  have hp4 : (f - 1) / 128 < 4 := by omega
  refine lv_aload_n hx hb d_GB_groupForPlain_0 rfl (lv_at hl 0 rfl) ?_
  refine lv_iload_n hx hb d_GB_groupForPlain_1 rfl (lv_at hl 1 rfl) ?_
  refine g_callV (own := "GroupBitmaps") (C := "GroupBitmaps") (T := F_GB) (N := 5) (k := 1) (q0 := 0) (ci := 0) (a := ad 0) (As := [.int (nI f)]) (rest := []) (c_GB_groupOfFile σ f hf hf1) hx hb hml hown hg hK hI hA kw_328 kw_330 kp_14 kw_1 kw_331 ky_GB_groupOfFile ⟨Nat.le_of_ble_eq_true rfl, Nat.le_of_ble_eq_true rfl⟩ rfl rfl (wd_GB) rfl rfl hl.1 (Nat.le_of_ble_eq_true rfl) ⟨Nat.zero_le _, Nat.zero_le _⟩ d_GB_groupForPlain_2 rfl rfl (fun H locs hI => ?_)
  refine lv_astore_n (lv' := [(2, .ref (ad (2 + ((f - 1) / 128)))), (0, .ref (ad 0)), (1, .int (nI f))]) hx hb d_GB_groupForPlain_5 rfl hl (by decide) rfl (fun ls hl => ?_)
  refine va_gets (C := "GroupBitmaps") (n := "PLAIN_STEPS") (d := "[I") (own := "GroupBitmaps") (v := .ref tP) hx hb hZP hI.2.2 hown (hg _ kw_356) (fun _ h => h) d_GB_groupForPlain_6 ?_
  refine lv_astore_n (lv' := [(3, .ref tP), (2, .ref (ad (2 + ((f - 1) / 128)))), (0, .ref (ad 0)), (1, .int (nI f))]) hx hb d_GB_groupForPlain_9 rfl hl (by decide) rfl (fun ls hl => ?_)
  refine lv_aload_n hx hb d_GB_groupForPlain_10 rfl (lv_at hl 0 rfl) ?_
  refine va_tlen (v := nI 4) hx hb hTP hI.2.2 rfl d_GB_groupForPlain_11 ?_
  refine lv_istore (lv' := [(4, .int (nI 4)), (3, .ref tP), (2, .ref (ad (2 + ((f - 1) / 128)))), (0, .ref (ad 0)), (1, .int (nI f))]) hx hb d_GB_groupForPlain_12 hl (by decide) rfl (fun ls hl => ?_)
  refine lv_iconst (v := nI 0) hx hb d_GB_groupForPlain_14 (by decide) ?_
  refine lv_istore (lv' := [(5, .int (nI 0)), (4, .int (nI 4)), (3, .ref tP), (2, .ref (ad (2 + ((f - 1) / 128)))), (0, .ref (ad 0)), (1, .int (nI f))]) hx hb d_GB_groupForPlain_15 hl (by decide) rfl (fun ls hl => ?_)
  have loop : ∀ (fuel : Nat) (k : Nat), 4 + 1 ≤ fuel + k → (k ≤ 4) → (sPl σ ((f - 1) / 128) k = none) → ∀ (H : Heap) (locs : List Loc) (ls : Array Slot), gI D A s.heap (wd ad cG cZ σ) H locs → lv_has ls 8 [(0, .ref (ad 0)), (1, .int (nI f)), (2, .ref (ad (2 + ((f - 1) / 128)))), (3, .ref tP), (4, .int (nI 4)), (5, .int (nI k))] → W p l e ({ frames := 2, cells := 0, slots := 0, locals := 45 }) s m ([.ref (ad 0), .int (nI f)] : List Value).toArray below meth c H locs 0 0 (gQ D below ([.ref (ad 0), .int (nI f)] : List Value).toArray s A (wd ad cG cZ σ) (some (gR ad (sPlain σ ((f - 1) / 128))))) (F0 m 17 ls []) := by
    intro fuel
    induction fuel with
    | zero => intro k hfu hk hn; exact absurd hfu (by omega)
    | succ fuel ih =>
      intro k hfu hk hn H locs ls hI hl
      refine lv_iload hx hb d_GB_groupForPlain_17 (lv_at hl 5 rfl) ?_
      refine lv_iload hx hb d_GB_groupForPlain_19 (lv_at hl 4 rfl) ?_
      refine r_ge (a := k) (b := 4) (tgt := 56) hx hb d_GB_groupForPlain_21 (by decide) (by omega) (by omega) (fun h => ?_) (fun h => ?_)
      · obtain rfl : k = 4 := by omega
        refine lv_aload_n hx hb d_GB_groupForPlain_56 rfl (lv_at hl 0 rfl) ?_
        refine lv_aload_n hx hb d_GB_groupForPlain_57 rfl (lv_at hl 2 rfl) ?_
        refine g_callV (own := "GroupBitmaps") (C := "GroupBitmaps") (T := F_GB) (N := 5) (k := 1) (q0 := 0) (ci := 0) (a := ad 0) (As := [.ref (ad (2 + ((f - 1) / 128)))]) (rest := []) (c_GB_firstWithFile σ hσ ((f - 1) / 128) hp4) hx hb hml hown hg hK hI hA kw_348 kw_350 kp_18 kw_1 kw_351 ky_GB_firstWithFile ⟨Nat.le_of_ble_eq_true rfl, Nat.le_of_ble_eq_true rfl⟩ rfl rfl (wd_GB) rfl rfl hl.1 (Nat.le_of_ble_eq_true rfl) ⟨Nat.zero_le _, Nat.zero_le _⟩ d_GB_groupForPlain_58 rfl rfl (fun H locs hI => ?_)
        have hsp : sPlain σ ((f - 1) / 128) = sFst σ ((f - 1) / 128) (pFile σ) (sCnt σ) := by rw [sPlain, hn]
        rcases h9 : sFst σ ((f - 1) / 128) (pFile σ) (sCnt σ) with _ | y
        · exact g_ra hx hb hr hlk (Or.inl rfl) hI (by rw [hsp, h9]) d_GB_groupForPlain_61
        · exact g_ra hx hb hr hlk (Or.inr ⟨_, rfl⟩) hI (by rw [hsp, h9]) d_GB_groupForPlain_61
      · refine lv_aload_n hx hb d_GB_groupForPlain_24 rfl (lv_at hl 3 rfl) ?_
        refine lv_iload hx hb d_GB_groupForPlain_25 (lv_at hl 5 rfl) ?_
        refine va_ti (v := .int (nI (pst k))) hx hb hTP hI.2.2 (vp_in_nI (by omega) (by omega)) (by rw [nI_clamp (by omega)]) d_GB_groupForPlain_27 ?_
        refine lv_istore (lv' := [(6, .int (nI (pst k))), (0, .ref (ad 0)), (1, .int (nI f)), (2, .ref (ad (2 + ((f - 1) / 128)))), (3, .ref tP), (4, .int (nI 4)), (5, .int (nI k))]) hx hb d_GB_groupForPlain_28 hl (by decide) rfl (fun ls hl => ?_)
        refine lv_aload_n hx hb d_GB_groupForPlain_30 rfl (lv_at hl 1 rfl) ?_
        refine lv_aload_n hx hb d_GB_groupForPlain_31 rfl (lv_at hl 3 rfl) ?_
        refine lv_iload hx hb d_GB_groupForPlain_32 (lv_at hl 0 rfl) ?_
        refine g_callV (own := "GroupBitmaps") (C := "GroupBitmaps") (T := F_GB) (N := 5) (k := 2) (q0 := 0) (ci := 0) (a := ad 0) (As := [.ref (ad (2 + ((f - 1) / 128))), .int (nI (pst k))]) (rest := []) (c_GB_groupBehind σ hσ ((f - 1) / 128) (pst k) hp4 (pst_lt k)) hx hb hml hown hg hK hI hA kw_276 kw_278 kp_9 kw_1 kw_279 ky_GB_groupBehind ⟨Nat.le_of_ble_eq_true rfl, Nat.le_of_ble_eq_true rfl⟩ rfl rfl (wd_GB) rfl rfl hl.1 (Nat.le_of_ble_eq_true rfl) ⟨Nat.zero_le _, Nat.zero_le _⟩ d_GB_groupForPlain_34 rfl rfl (fun H locs hI => ?_)
        have hq0 := sNx_lt hσ ((f - 1) / 128) (pst k)
        have hr0 : 2 * (sNx σ ((f - 1) / 128) (pst k)) < 8 := by omega
        have hs0 : 2 * (sNx σ ((f - 1) / 128) (pst k)) + 1 < 8 := by omega
        refine lv_astore (lv' := [(7, .ref (ad (2 + (sNx σ ((f - 1) / 128) (pst k))))), (6, .int (nI (pst k))), (0, .ref (ad 0)), (1, .int (nI f)), (2, .ref (ad (2 + ((f - 1) / 128)))), (3, .ref tP), (4, .int (nI 4)), (5, .int (nI k))]) hx hb d_GB_groupForPlain_37 hl (by decide) rfl (fun ls hl => ?_)
        refine lv_aload hx hb d_GB_groupForPlain_39 (lv_at hl 0 rfl) ?_
        refine g_callV (own := "GroupBitmaps") (C := "GroupBitmaps$Group") (T := F_GR) (N := 6) (k := 0) (q0 := 2 + (sNx σ ((f - 1) / 128) (pst k))) (ci := 1) (a := ad (2 + (sNx σ ((f - 1) / 128) (pst k)))) (As := []) (rest := []) (c_GR_hasFileAndBlock σ (sNx σ ((f - 1) / 128) (pst k)) hq0 hσ) hx hb hml hown hg hK hI hA kw_344 kw_345 kw_346 kw_2 kw_347 ky_GR_hasFileAndBlock ⟨Nat.le_of_ble_eq_true rfl, Nat.le_of_ble_eq_true rfl⟩ rfl rfl (wd_GR hq0) rfl rfl hl.1 (Nat.le_of_ble_eq_true rfl) ⟨Nat.zero_le _, Nat.zero_le _⟩ d_GB_groupForPlain_41 rfl rfl (fun H locs hI => ?_)
        refine r_bz (b := sHas σ (sNx σ ((f - 1) / 128) (pst k))) (tgt := 50) hx hb d_GB_groupForPlain_44 (by decide) (fun h2 => ?_) (fun h2 => ?_)
        · refine lv_iinc (v := nI (k + 1)) (lv' := [(5, .int (nI (k + 1))), (7, .ref (ad (2 + (sNx σ ((f - 1) / 128) (pst k))))), (6, .int (nI (pst k))), (0, .ref (ad 0)), (1, .int (nI f)), (2, .ref (ad (2 + ((f - 1) / 128)))), (3, .ref tP), (4, .int (nI 4))]) hx hb d_GB_groupForPlain_50 hl (k := 7) rfl (nI_1 _) (by decide) rfl (fun ls hl => ?_)
          refine lv_goto (tgt := 17) hx hb d_GB_groupForPlain_53 (by decide) ?_
          exact ih (k + 1) (by omega) (by omega) (sPl_step hn h2) _ _ _ hI (lv_sub hl [3, 4, 5, 6, 7, 0] rfl)
        · refine lv_aload hx hb d_GB_groupForPlain_47 (lv_at hl 0 rfl) ?_
          exact g_ra hx hb hr hlk (Or.inr ⟨_, rfl⟩) hI (by rw [sPlain, sPl_some hn h2 (by omega)]; rfl) d_GB_groupForPlain_49
  exact loop 5 0 (by omega) (Nat.zero_le _) rfl _ _ _ hI (lv_sub hl [4, 5, 3, 2, 1, 0] rfl)
set_option maxHeartbeats 4000000 in
set_option maxRecDepth 100000 in
theorem c_GB_takeFile_pl {l : Launch} {D : va_G} {cG cZ cI cJ : ClassId} {ad : Nat → Nat} (σ : gS) (hσ : sB σ) (f g k : Nat) (hf1 : 1 ≤ f) (hf : f ≤ sCnt σ * 128) (hgg : sPlain σ ((f - 1) / 128) = some g) (hg4 : g < 4) (hk : sLf (uTT σ true) (2 * g + 1) (sSz (uTT σ true) (2 * g + 1)) = some k) (hk2 : k < 128) (hfr : 0 < sFr (uTT σ true) (2 * g + 1)) (hσ1 : sB (uTT σ true)) : gMetE l D (gT cG cZ cI cJ) y_GB_takeFile b_GB_takeFile 4 (some .int) ({ frames := 8, cells := 0, slots := 0, locals := 140 }) (wd ad cG cZ σ) [.ref (ad 0), .int (nI f), .int (bI false)] (wd ad cG cZ (sOccF (uTT σ true) g k false)) (some (.int (nI (128 * g + k + 1)))) := by
  refine gMetE_of (by decide) (Nat.le_of_ble_eq_true rfl) ?_
  intro p e s m below meth c A ls hC hA hE hI hl
  obtain ⟨hx, hb, hr, hlk, hown, hml, hg, hK⟩ := hC
  have hown : s.vm.findClass "GroupBitmaps" = some m.cls := hown
  have hl : lv_has ls 4 [(0, .ref (ad 0)), (1, .int (nI f)), (2, .int (bI false))] := hl
  have hc1 := hσ.1
  have hc2 := hσ.2.1
  refine lv_aload_n hx hb d_GB_takeFile_0 rfl (lv_at hl 0 rfl) ?_
  refine lv_iload_n hx hb d_GB_takeFile_1 rfl (lv_at hl 1 rfl) ?_
  refine g_callV (own := "GroupBitmaps") (C := "GroupBitmaps") (T := F_GB) (N := 5) (k := 1) (q0 := 0) (ci := 0) (a := ad 0) (As := [.int (nI f)]) (rest := []) (c_GB_hasFile σ hσ (nI f)) hx hb hml hown hg hK hI hA kw_319 kw_321 kp_12 kw_1 kw_322 ky_GB_hasFile ⟨Nat.le_of_ble_eq_true rfl, Nat.le_of_ble_eq_true rfl⟩ rfl rfl (wd_GB) rfl rfl hl.1 (Nat.le_of_ble_eq_true rfl) ⟨Nat.zero_le _, Nat.zero_le _⟩ d_GB_takeFile_2 rfl rfl (fun H locs hI => ?_)
  refine r_bnz (b := sHasF σ (nI f)) (tgt := 18) hx hb d_GB_takeFile_5 (by decide) (fun h => ?_) (fun h => ?_)
  · refine lv_iload_n hx hb d_GB_takeFile_18 rfl (lv_at hl 2 rfl) ?_
    refine r_bz (b := false) (tgt := 30) hx hb d_GB_takeFile_19 (by decide) (fun h9 => ?_) (fun h9 => ?_)
    · refine lv_aload_n hx hb d_GB_takeFile_30 rfl (lv_at hl 0 rfl) ?_
      refine lv_iload_n hx hb d_GB_takeFile_31 rfl (lv_at hl 1 rfl) ?_
      refine g_callVE (own := "GroupBitmaps") (C := "GroupBitmaps") (T := F_GB) (N := 5) (k := 1) (q0 := 0) (ci := 0) (a := ad 0) (As := [.int (nI f)]) (rest := []) (c_GB_groupForPlain σ hσ f (by omega) (by omega)) hE hx hb hml hown hg hK hI hA kw_352 kw_354 kp_19 kw_1 kw_355 ky_GB_groupForPlain ⟨Nat.le_of_ble_eq_true rfl, Nat.le_of_ble_eq_true rfl⟩ rfl rfl (wd_GB) rfl rfl hl.1 (Nat.le_of_ble_eq_true rfl) ⟨Nat.zero_le _, Nat.zero_le _⟩ d_GB_takeFile_32 rfl rfl (fun H locs hI => ?_)
      rw [hgg]
      refine lv_astore_n (lv' := [(3, .ref (ad (2 + g))), (0, .ref (ad 0)), (1, .int (nI f)), (2, .int (bI false))]) hx hb d_GB_takeFile_35 rfl hl (by decide) rfl (fun ls hl => ?_)
      refine lv_aload_n hx hb d_GB_takeFile_36 rfl (lv_at hl 0 rfl) ?_
      refine lv_ifnonnull (tgt := 50) hx hb d_GB_takeFile_37 (by decide) ?_
      have hq0 := hg4
      have hr0 : 2 * g < 8 := by omega
      have hs0 : 2 * g + 1 < 8 := by omega
      refine lv_aload_n hx hb d_GB_takeFile_50 rfl (lv_at hl 1 rfl) ?_
      refine lv_iconst (v := bI true) hx hb d_GB_takeFile_51 (by decide) ?_
      refine g_put (ws' := (wd ad cG cZ (uTT σ true))) (own := "GroupBitmaps") (C := R_GB) (T := F_GB) (N := 5) (ci := 0) (v := .int (bI true)) hx hb hg ku_GB t_GB t_GB_ok n_GB hown hK hI (0) (wd_GB) rfl 4 (by decide) kw_95 rfl rfl (bI_n _) (bI_fit _) (Nat.le_of_ble_eq_true rfl) (wd_uTT) d_GB_takeFile_52 (fun H locs hI => ?_)
      refine lv_aload_n hx hb d_GB_takeFile_55 rfl (lv_at hl 0 rfl) ?_
      refine lv_iload_n hx hb d_GB_takeFile_56 rfl (lv_at hl 3 rfl) ?_
      refine g_callV (own := "GroupBitmaps") (C := "GroupBitmaps$Group") (T := F_GR) (N := 6) (k := 1) (q0 := 2 + g) (ci := 1) (a := ad (2 + g)) (As := [.int (bI false)]) (rest := []) (c_GR_occupyFile (uTT σ true) g hg4 hσ1 k false hk hk2 hfr) hx hb hml hown hg hK hI hA kw_359 kw_360 kw_361 kw_2 kw_362 ky_GR_occupyFile ⟨Nat.le_of_ble_eq_true rfl, Nat.le_of_ble_eq_true rfl⟩ rfl rfl (wd_GR hq0) rfl rfl hl.1 (Nat.le_of_ble_eq_true rfl) ⟨Nat.zero_le _, Nat.zero_le _⟩ d_GB_takeFile_57 rfl rfl (fun H locs hI => ?_)
      exact g_ri hx hb hr hlk hI (rfl) d_GB_takeFile_60
    · exact absurd h9 (by decide)
  · exact absurd ((sHasF_nI hσ (by omega) hf).symm.trans h) (by decide)
set_option maxHeartbeats 4000000 in
set_option maxRecDepth 100000 in
theorem x_GB_takeFile_pl {l : Launch} (hfl : l.flags = flags0) {D : va_G} {cG cZ cI cJ : ClassId} {ad : Nat → Nat} (σ : gS) (hσ : sB σ) (f : Nat) (hf1 : 1 ≤ f) (hf : f ≤ sCnt σ * 128) (hgg : sPlain σ ((f - 1) / 128) = none) : gThr l D (gT cG cZ cI cJ) y_GB_takeFile b_GB_takeFile 4 (some .int) ({ frames := 8, cells := 1, slots := 6, locals := 140 }) (wd ad cG cZ σ) [.ref (ad 0), .int (nI f), .int (bI false)] "java/lang/IllegalStateException" := by
  refine gThr_of (by decide) (Nat.le_of_ble_eq_true rfl) ?_
  intro p e s m below meth c A ls hC hA hst hE hex hI hl
  obtain ⟨hx, hb, hr, hlk, hown, hml, hg, hK⟩ := hC
  have hown : s.vm.findClass "GroupBitmaps" = some m.cls := hown
  have hl : lv_has ls 4 [(0, .ref (ad 0)), (1, .int (nI f)), (2, .int (bI false))] := hl
  have hc1 := hσ.1
  have hc2 := hσ.2.1
  refine lv_aload_n hx hb d_GB_takeFile_0 rfl (lv_at hl 0 rfl) ?_
  refine lv_iload_n hx hb d_GB_takeFile_1 rfl (lv_at hl 1 rfl) ?_
  refine g_callV (own := "GroupBitmaps") (C := "GroupBitmaps") (T := F_GB) (N := 5) (k := 1) (q0 := 0) (ci := 0) (a := ad 0) (As := [.int (nI f)]) (rest := []) (c_GB_hasFile σ hσ (nI f)) hx hb hml hown hg hK hI hA kw_319 kw_321 kp_12 kw_1 kw_322 ky_GB_hasFile ⟨Nat.le_of_ble_eq_true rfl, Nat.le_of_ble_eq_true rfl⟩ rfl rfl (wd_GB) rfl rfl hl.1 (Nat.le_of_ble_eq_true rfl) ⟨Nat.zero_le _, Nat.zero_le _⟩ d_GB_takeFile_2 rfl rfl (fun H locs hI => ?_)
  refine r_bnz (b := sHasF σ (nI f)) (tgt := 18) hx hb d_GB_takeFile_5 (by decide) (fun h => ?_) (fun h => ?_)
  · refine lv_iload_n hx hb d_GB_takeFile_18 rfl (lv_at hl 2 rfl) ?_
    refine r_bz (b := false) (tgt := 30) hx hb d_GB_takeFile_19 (by decide) (fun h9 => ?_) (fun h9 => ?_)
    · refine lv_aload_n hx hb d_GB_takeFile_30 rfl (lv_at hl 0 rfl) ?_
      refine lv_iload_n hx hb d_GB_takeFile_31 rfl (lv_at hl 1 rfl) ?_
      refine g_callVE (own := "GroupBitmaps") (C := "GroupBitmaps") (T := F_GB) (N := 5) (k := 1) (q0 := 0) (ci := 0) (a := ad 0) (As := [.int (nI f)]) (rest := []) (c_GB_groupForPlain σ hσ f (by omega) (by omega)) hE hx hb hml hown hg hK hI hA kw_352 kw_354 kp_19 kw_1 kw_355 ky_GB_groupForPlain ⟨Nat.le_of_ble_eq_true rfl, Nat.le_of_ble_eq_true rfl⟩ rfl rfl (wd_GB) rfl rfl hl.1 (Nat.le_of_ble_eq_true rfl) ⟨Nat.zero_le _, Nat.zero_le _⟩ d_GB_takeFile_32 rfl rfl (fun H locs hI => ?_)
      rw [hgg]
      rw [show gR ad none = Value.null from rfl]
      refine lv_astore_nN (lv' := [(3, .null), (0, .ref (ad 0)), (1, .int (nI f)), (2, .int (bI false))]) hx hb d_GB_takeFile_35 rfl hl (by decide) rfl (fun ls hl => ?_)
      refine lv_aload_nN hx hb d_GB_takeFile_36 rfl (lv_at hl 0 rfl) ?_
      refine lv_ifnonnullN hx hb d_GB_takeFile_37 ?_
      exact g_throw (nL := 4) (own := "GroupBitmaps") (E := "java/lang/IllegalStateException") (tx := "no file is free") (names := ["java/lang/RuntimeException", "java/lang/Exception"]) (ik := 56) (is := 114) (ic := 60) hx hb hfl hml hown hlk hg hE hA hex hI (by decide +kernel) xfit kw_233 kw_10 kw_234 kx_358 rfl xat_ISE hl.1 (Nat.le_of_ble_eq_true rfl) (Nat.le_of_ble_eq_true rfl) (Nat.le_of_ble_eq_true rfl) (Nat.le_of_ble_eq_true rfl) d_GB_takeFile_40 d_GB_takeFile_43 d_GB_takeFile_44 d_GB_takeFile_46 d_GB_takeFile_49
    · exact absurd h9 (by decide)
  · exact absurd ((sHasF_nI hσ (by omega) hf).symm.trans h) (by decide)
