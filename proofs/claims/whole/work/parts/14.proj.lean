theorem q_Cnt_Cnt (σ : gS) (v : Nat) : sCnt (uCnt σ v) = v := rfl
theorem q_Cnt_Rsv (σ : gS) (v : Nat) : sCnt (uRsv σ v) = sCnt σ := rfl
theorem q_Cnt_Lat (σ : gS) (v : Nat) : sCnt (uLat σ v) = sCnt σ := rfl
theorem q_Cnt_TT (σ : gS) (v : Bool) : sCnt (uTT σ v) = sCnt σ := rfl
theorem q_Cnt_Fd (σ : gS) (g v : Nat) : sCnt (uFd σ g v) = sCnt σ := rfl
theorem q_Cnt_Sz (σ : gS) (j v : Nat) : sCnt (uSz σ j v) = sCnt σ := rfl
theorem q_Cnt_Fr (σ : gS) (j v : Nat) : sCnt (uFr σ j v) = sCnt σ := rfl
theorem q_Cnt_Td (σ : gS) (j : Nat) (v : Bool) : sCnt (uTd σ j v) = sCnt σ := rfl
theorem q_Cnt_Bt (σ : gS) (j : Nat) (v : Nat → Bool) : sCnt (uBt σ j v) = sCnt σ := rfl
theorem q_Rsv_Cnt (σ : gS) (v : Nat) : sRsv (uCnt σ v) = sRsv σ := rfl
theorem q_Rsv_Rsv (σ : gS) (v : Nat) : sRsv (uRsv σ v) = v := rfl
theorem q_Rsv_Lat (σ : gS) (v : Nat) : sRsv (uLat σ v) = sRsv σ := rfl
theorem q_Rsv_TT (σ : gS) (v : Bool) : sRsv (uTT σ v) = sRsv σ := rfl
theorem q_Rsv_Fd (σ : gS) (g v : Nat) : sRsv (uFd σ g v) = sRsv σ := rfl
theorem q_Rsv_Sz (σ : gS) (j v : Nat) : sRsv (uSz σ j v) = sRsv σ := rfl
theorem q_Rsv_Fr (σ : gS) (j v : Nat) : sRsv (uFr σ j v) = sRsv σ := rfl
theorem q_Rsv_Td (σ : gS) (j : Nat) (v : Bool) : sRsv (uTd σ j v) = sRsv σ := rfl
theorem q_Rsv_Bt (σ : gS) (j : Nat) (v : Nat → Bool) : sRsv (uBt σ j v) = sRsv σ := rfl
theorem q_Lat_Cnt (σ : gS) (v : Nat) : sLat (uCnt σ v) = sLat σ := rfl
theorem q_Lat_Rsv (σ : gS) (v : Nat) : sLat (uRsv σ v) = sLat σ := rfl
theorem q_Lat_Lat (σ : gS) (v : Nat) : sLat (uLat σ v) = v := rfl
theorem q_Lat_TT (σ : gS) (v : Bool) : sLat (uTT σ v) = sLat σ := rfl
theorem q_Lat_Fd (σ : gS) (g v : Nat) : sLat (uFd σ g v) = sLat σ := rfl
theorem q_Lat_Sz (σ : gS) (j v : Nat) : sLat (uSz σ j v) = sLat σ := rfl
theorem q_Lat_Fr (σ : gS) (j v : Nat) : sLat (uFr σ j v) = sLat σ := rfl
theorem q_Lat_Td (σ : gS) (j : Nat) (v : Bool) : sLat (uTd σ j v) = sLat σ := rfl
theorem q_Lat_Bt (σ : gS) (j : Nat) (v : Nat → Bool) : sLat (uBt σ j v) = sLat σ := rfl
theorem q_TT_Cnt (σ : gS) (v : Nat) : sTT (uCnt σ v) = sTT σ := rfl
theorem q_TT_Rsv (σ : gS) (v : Nat) : sTT (uRsv σ v) = sTT σ := rfl
theorem q_TT_Lat (σ : gS) (v : Nat) : sTT (uLat σ v) = sTT σ := rfl
theorem q_TT_TT (σ : gS) (v : Bool) : sTT (uTT σ v) = v := rfl
theorem q_TT_Fd (σ : gS) (g v : Nat) : sTT (uFd σ g v) = sTT σ := rfl
theorem q_TT_Sz (σ : gS) (j v : Nat) : sTT (uSz σ j v) = sTT σ := rfl
theorem q_TT_Fr (σ : gS) (j v : Nat) : sTT (uFr σ j v) = sTT σ := rfl
theorem q_TT_Td (σ : gS) (j : Nat) (v : Bool) : sTT (uTd σ j v) = sTT σ := rfl
theorem q_TT_Bt (σ : gS) (j : Nat) (v : Nat → Bool) : sTT (uBt σ j v) = sTT σ := rfl
theorem q_Fd_Cnt (σ : gS) (v : Nat) : sFd (uCnt σ v) = sFd σ := rfl
theorem q_Fd_Rsv (σ : gS) (v : Nat) : sFd (uRsv σ v) = sFd σ := rfl
theorem q_Fd_Lat (σ : gS) (v : Nat) : sFd (uLat σ v) = sFd σ := rfl
theorem q_Fd_TT (σ : gS) (v : Bool) : sFd (uTT σ v) = sFd σ := rfl
theorem q_Fd_Fd (σ : gS) (g v : Nat) : sFd (uFd σ g v) = va_up (sFd σ) g v := rfl
theorem q_Fd_Sz (σ : gS) (j v : Nat) : sFd (uSz σ j v) = sFd σ := rfl
theorem q_Fd_Fr (σ : gS) (j v : Nat) : sFd (uFr σ j v) = sFd σ := rfl
theorem q_Fd_Td (σ : gS) (j : Nat) (v : Bool) : sFd (uTd σ j v) = sFd σ := rfl
theorem q_Fd_Bt (σ : gS) (j : Nat) (v : Nat → Bool) : sFd (uBt σ j v) = sFd σ := rfl
theorem q_Sz_Cnt (σ : gS) (v : Nat) : sSz (uCnt σ v) = sSz σ := rfl
theorem q_Sz_Rsv (σ : gS) (v : Nat) : sSz (uRsv σ v) = sSz σ := rfl
theorem q_Sz_Lat (σ : gS) (v : Nat) : sSz (uLat σ v) = sSz σ := rfl
theorem q_Sz_TT (σ : gS) (v : Bool) : sSz (uTT σ v) = sSz σ := rfl
theorem q_Sz_Fd (σ : gS) (g v : Nat) : sSz (uFd σ g v) = sSz σ := rfl
theorem q_Sz_Sz (σ : gS) (j v : Nat) : sSz (uSz σ j v) = va_up (sSz σ) j v := rfl
theorem q_Sz_Fr (σ : gS) (j v : Nat) : sSz (uFr σ j v) = sSz σ := rfl
theorem q_Sz_Td (σ : gS) (j : Nat) (v : Bool) : sSz (uTd σ j v) = sSz σ := rfl
theorem q_Sz_Bt (σ : gS) (j : Nat) (v : Nat → Bool) : sSz (uBt σ j v) = sSz σ := rfl
theorem q_Fr_Cnt (σ : gS) (v : Nat) : sFr (uCnt σ v) = sFr σ := rfl
theorem q_Fr_Rsv (σ : gS) (v : Nat) : sFr (uRsv σ v) = sFr σ := rfl
theorem q_Fr_Lat (σ : gS) (v : Nat) : sFr (uLat σ v) = sFr σ := rfl
theorem q_Fr_TT (σ : gS) (v : Bool) : sFr (uTT σ v) = sFr σ := rfl
theorem q_Fr_Fd (σ : gS) (g v : Nat) : sFr (uFd σ g v) = sFr σ := rfl
theorem q_Fr_Sz (σ : gS) (j v : Nat) : sFr (uSz σ j v) = sFr σ := rfl
theorem q_Fr_Fr (σ : gS) (j v : Nat) : sFr (uFr σ j v) = va_up (sFr σ) j v := rfl
theorem q_Fr_Td (σ : gS) (j : Nat) (v : Bool) : sFr (uTd σ j v) = sFr σ := rfl
theorem q_Fr_Bt (σ : gS) (j : Nat) (v : Nat → Bool) : sFr (uBt σ j v) = sFr σ := rfl
theorem q_Td_Cnt (σ : gS) (v : Nat) : sTd (uCnt σ v) = sTd σ := rfl
theorem q_Td_Rsv (σ : gS) (v : Nat) : sTd (uRsv σ v) = sTd σ := rfl
theorem q_Td_Lat (σ : gS) (v : Nat) : sTd (uLat σ v) = sTd σ := rfl
theorem q_Td_TT (σ : gS) (v : Bool) : sTd (uTT σ v) = sTd σ := rfl
theorem q_Td_Fd (σ : gS) (g v : Nat) : sTd (uFd σ g v) = sTd σ := rfl
theorem q_Td_Sz (σ : gS) (j v : Nat) : sTd (uSz σ j v) = sTd σ := rfl
theorem q_Td_Fr (σ : gS) (j v : Nat) : sTd (uFr σ j v) = sTd σ := rfl
theorem q_Td_Td (σ : gS) (j : Nat) (v : Bool) : sTd (uTd σ j v) = va_up (sTd σ) j v := rfl
theorem q_Td_Bt (σ : gS) (j : Nat) (v : Nat → Bool) : sTd (uBt σ j v) = sTd σ := rfl
theorem q_Bt_Cnt (σ : gS) (v : Nat) : sBt (uCnt σ v) = sBt σ := rfl
theorem q_Bt_Rsv (σ : gS) (v : Nat) : sBt (uRsv σ v) = sBt σ := rfl
theorem q_Bt_Lat (σ : gS) (v : Nat) : sBt (uLat σ v) = sBt σ := rfl
theorem q_Bt_TT (σ : gS) (v : Bool) : sBt (uTT σ v) = sBt σ := rfl
theorem q_Bt_Fd (σ : gS) (g v : Nat) : sBt (uFd σ g v) = sBt σ := rfl
theorem q_Bt_Sz (σ : gS) (j v : Nat) : sBt (uSz σ j v) = sBt σ := rfl
theorem q_Bt_Fr (σ : gS) (j v : Nat) : sBt (uFr σ j v) = sBt σ := rfl
theorem q_Bt_Td (σ : gS) (j : Nat) (v : Bool) : sBt (uTd σ j v) = sBt σ := rfl
theorem q_Bt_Bt (σ : gS) (j : Nat) (v : Nat → Bool) : sBt (uBt σ j v) = va_up (sBt σ) j v := rfl
