/-! ===== the reference's state: thrown, groups, sizes, blocks, files, folders, reserved, latest, told, runAt, runSize ===== -/
abbrev mS : Type := Nat × Nat × (Nat → Nat) × (Nat → Bool) × (Nat → Bool) × (Nat → Nat) × Nat × Nat × (Nat → Bool) × Nat × Nat
def mTh (τ : mS) : Nat := τ.1
def mGr (τ : mS) : Nat := τ.2.1
def mSz (τ : mS) : Nat → Nat := τ.2.2.1
def mBk (τ : mS) : Nat → Bool := τ.2.2.2.1
def mFl (τ : mS) : Nat → Bool := τ.2.2.2.2.1
def mFd (τ : mS) : Nat → Nat := τ.2.2.2.2.2.1
def mRs (τ : mS) : Nat := τ.2.2.2.2.2.2.1
def mLt (τ : mS) : Nat := τ.2.2.2.2.2.2.2.1
def mTo (τ : mS) : Nat → Bool := τ.2.2.2.2.2.2.2.2.1
def mRa (τ : mS) : Nat := τ.2.2.2.2.2.2.2.2.2.1
def mRz (τ : mS) : Nat := τ.2.2.2.2.2.2.2.2.2.2
def vTh (τ : mS) (v : Nat) : mS := (v, mGr τ, mSz τ, mBk τ, mFl τ, mFd τ, mRs τ, mLt τ, mTo τ, mRa τ, mRz τ)
def vGr (τ : mS) (v : Nat) : mS := (mTh τ, v, mSz τ, mBk τ, mFl τ, mFd τ, mRs τ, mLt τ, mTo τ, mRa τ, mRz τ)
def vSz (τ : mS) (v : Nat → Nat) : mS := (mTh τ, mGr τ, v, mBk τ, mFl τ, mFd τ, mRs τ, mLt τ, mTo τ, mRa τ, mRz τ)
def vBk (τ : mS) (v : Nat → Bool) : mS := (mTh τ, mGr τ, mSz τ, v, mFl τ, mFd τ, mRs τ, mLt τ, mTo τ, mRa τ, mRz τ)
def vFl (τ : mS) (v : Nat → Bool) : mS := (mTh τ, mGr τ, mSz τ, mBk τ, v, mFd τ, mRs τ, mLt τ, mTo τ, mRa τ, mRz τ)
def vFd (τ : mS) (v : Nat → Nat) : mS := (mTh τ, mGr τ, mSz τ, mBk τ, mFl τ, v, mRs τ, mLt τ, mTo τ, mRa τ, mRz τ)
def vRs (τ : mS) (v : Nat) : mS := (mTh τ, mGr τ, mSz τ, mBk τ, mFl τ, mFd τ, v, mLt τ, mTo τ, mRa τ, mRz τ)
def vLt (τ : mS) (v : Nat) : mS := (mTh τ, mGr τ, mSz τ, mBk τ, mFl τ, mFd τ, mRs τ, v, mTo τ, mRa τ, mRz τ)
def vTo (τ : mS) (v : Nat → Bool) : mS := (mTh τ, mGr τ, mSz τ, mBk τ, mFl τ, mFd τ, mRs τ, mLt τ, v, mRa τ, mRz τ)
def vRa (τ : mS) (v : Nat) : mS := (mTh τ, mGr τ, mSz τ, mBk τ, mFl τ, mFd τ, mRs τ, mLt τ, mTo τ, v, mRz τ)
def vRz (τ : mS) (v : Nat) : mS := (mTh τ, mGr τ, mSz τ, mBk τ, mFl τ, mFd τ, mRs τ, mLt τ, mTo τ, mRa τ, v)
theorem p_Th_Th (τ : mS) (v : Nat) : mTh (vTh τ v) = v := rfl
theorem p_Th_Gr (τ : mS) (v : Nat) : mTh (vGr τ v) = mTh τ := rfl
theorem p_Th_Sz (τ : mS) (v : Nat → Nat) : mTh (vSz τ v) = mTh τ := rfl
theorem p_Th_Bk (τ : mS) (v : Nat → Bool) : mTh (vBk τ v) = mTh τ := rfl
theorem p_Th_Fl (τ : mS) (v : Nat → Bool) : mTh (vFl τ v) = mTh τ := rfl
theorem p_Th_Fd (τ : mS) (v : Nat → Nat) : mTh (vFd τ v) = mTh τ := rfl
theorem p_Th_Rs (τ : mS) (v : Nat) : mTh (vRs τ v) = mTh τ := rfl
theorem p_Th_Lt (τ : mS) (v : Nat) : mTh (vLt τ v) = mTh τ := rfl
theorem p_Th_To (τ : mS) (v : Nat → Bool) : mTh (vTo τ v) = mTh τ := rfl
theorem p_Th_Ra (τ : mS) (v : Nat) : mTh (vRa τ v) = mTh τ := rfl
theorem p_Th_Rz (τ : mS) (v : Nat) : mTh (vRz τ v) = mTh τ := rfl
theorem p_Gr_Th (τ : mS) (v : Nat) : mGr (vTh τ v) = mGr τ := rfl
theorem p_Gr_Gr (τ : mS) (v : Nat) : mGr (vGr τ v) = v := rfl
theorem p_Gr_Sz (τ : mS) (v : Nat → Nat) : mGr (vSz τ v) = mGr τ := rfl
theorem p_Gr_Bk (τ : mS) (v : Nat → Bool) : mGr (vBk τ v) = mGr τ := rfl
theorem p_Gr_Fl (τ : mS) (v : Nat → Bool) : mGr (vFl τ v) = mGr τ := rfl
theorem p_Gr_Fd (τ : mS) (v : Nat → Nat) : mGr (vFd τ v) = mGr τ := rfl
theorem p_Gr_Rs (τ : mS) (v : Nat) : mGr (vRs τ v) = mGr τ := rfl
theorem p_Gr_Lt (τ : mS) (v : Nat) : mGr (vLt τ v) = mGr τ := rfl
theorem p_Gr_To (τ : mS) (v : Nat → Bool) : mGr (vTo τ v) = mGr τ := rfl
theorem p_Gr_Ra (τ : mS) (v : Nat) : mGr (vRa τ v) = mGr τ := rfl
theorem p_Gr_Rz (τ : mS) (v : Nat) : mGr (vRz τ v) = mGr τ := rfl
theorem p_Sz_Th (τ : mS) (v : Nat) : mSz (vTh τ v) = mSz τ := rfl
theorem p_Sz_Gr (τ : mS) (v : Nat) : mSz (vGr τ v) = mSz τ := rfl
theorem p_Sz_Sz (τ : mS) (v : Nat → Nat) : mSz (vSz τ v) = v := rfl
theorem p_Sz_Bk (τ : mS) (v : Nat → Bool) : mSz (vBk τ v) = mSz τ := rfl
theorem p_Sz_Fl (τ : mS) (v : Nat → Bool) : mSz (vFl τ v) = mSz τ := rfl
theorem p_Sz_Fd (τ : mS) (v : Nat → Nat) : mSz (vFd τ v) = mSz τ := rfl
theorem p_Sz_Rs (τ : mS) (v : Nat) : mSz (vRs τ v) = mSz τ := rfl
theorem p_Sz_Lt (τ : mS) (v : Nat) : mSz (vLt τ v) = mSz τ := rfl
theorem p_Sz_To (τ : mS) (v : Nat → Bool) : mSz (vTo τ v) = mSz τ := rfl
theorem p_Sz_Ra (τ : mS) (v : Nat) : mSz (vRa τ v) = mSz τ := rfl
theorem p_Sz_Rz (τ : mS) (v : Nat) : mSz (vRz τ v) = mSz τ := rfl
theorem p_Bk_Th (τ : mS) (v : Nat) : mBk (vTh τ v) = mBk τ := rfl
theorem p_Bk_Gr (τ : mS) (v : Nat) : mBk (vGr τ v) = mBk τ := rfl
theorem p_Bk_Sz (τ : mS) (v : Nat → Nat) : mBk (vSz τ v) = mBk τ := rfl
theorem p_Bk_Bk (τ : mS) (v : Nat → Bool) : mBk (vBk τ v) = v := rfl
theorem p_Bk_Fl (τ : mS) (v : Nat → Bool) : mBk (vFl τ v) = mBk τ := rfl
theorem p_Bk_Fd (τ : mS) (v : Nat → Nat) : mBk (vFd τ v) = mBk τ := rfl
theorem p_Bk_Rs (τ : mS) (v : Nat) : mBk (vRs τ v) = mBk τ := rfl
theorem p_Bk_Lt (τ : mS) (v : Nat) : mBk (vLt τ v) = mBk τ := rfl
theorem p_Bk_To (τ : mS) (v : Nat → Bool) : mBk (vTo τ v) = mBk τ := rfl
theorem p_Bk_Ra (τ : mS) (v : Nat) : mBk (vRa τ v) = mBk τ := rfl
theorem p_Bk_Rz (τ : mS) (v : Nat) : mBk (vRz τ v) = mBk τ := rfl
theorem p_Fl_Th (τ : mS) (v : Nat) : mFl (vTh τ v) = mFl τ := rfl
theorem p_Fl_Gr (τ : mS) (v : Nat) : mFl (vGr τ v) = mFl τ := rfl
theorem p_Fl_Sz (τ : mS) (v : Nat → Nat) : mFl (vSz τ v) = mFl τ := rfl
theorem p_Fl_Bk (τ : mS) (v : Nat → Bool) : mFl (vBk τ v) = mFl τ := rfl
theorem p_Fl_Fl (τ : mS) (v : Nat → Bool) : mFl (vFl τ v) = v := rfl
theorem p_Fl_Fd (τ : mS) (v : Nat → Nat) : mFl (vFd τ v) = mFl τ := rfl
theorem p_Fl_Rs (τ : mS) (v : Nat) : mFl (vRs τ v) = mFl τ := rfl
theorem p_Fl_Lt (τ : mS) (v : Nat) : mFl (vLt τ v) = mFl τ := rfl
theorem p_Fl_To (τ : mS) (v : Nat → Bool) : mFl (vTo τ v) = mFl τ := rfl
theorem p_Fl_Ra (τ : mS) (v : Nat) : mFl (vRa τ v) = mFl τ := rfl
theorem p_Fl_Rz (τ : mS) (v : Nat) : mFl (vRz τ v) = mFl τ := rfl
theorem p_Fd_Th (τ : mS) (v : Nat) : mFd (vTh τ v) = mFd τ := rfl
theorem p_Fd_Gr (τ : mS) (v : Nat) : mFd (vGr τ v) = mFd τ := rfl
theorem p_Fd_Sz (τ : mS) (v : Nat → Nat) : mFd (vSz τ v) = mFd τ := rfl
theorem p_Fd_Bk (τ : mS) (v : Nat → Bool) : mFd (vBk τ v) = mFd τ := rfl
theorem p_Fd_Fl (τ : mS) (v : Nat → Bool) : mFd (vFl τ v) = mFd τ := rfl
theorem p_Fd_Fd (τ : mS) (v : Nat → Nat) : mFd (vFd τ v) = v := rfl
theorem p_Fd_Rs (τ : mS) (v : Nat) : mFd (vRs τ v) = mFd τ := rfl
theorem p_Fd_Lt (τ : mS) (v : Nat) : mFd (vLt τ v) = mFd τ := rfl
theorem p_Fd_To (τ : mS) (v : Nat → Bool) : mFd (vTo τ v) = mFd τ := rfl
theorem p_Fd_Ra (τ : mS) (v : Nat) : mFd (vRa τ v) = mFd τ := rfl
theorem p_Fd_Rz (τ : mS) (v : Nat) : mFd (vRz τ v) = mFd τ := rfl
theorem p_Rs_Th (τ : mS) (v : Nat) : mRs (vTh τ v) = mRs τ := rfl
theorem p_Rs_Gr (τ : mS) (v : Nat) : mRs (vGr τ v) = mRs τ := rfl
theorem p_Rs_Sz (τ : mS) (v : Nat → Nat) : mRs (vSz τ v) = mRs τ := rfl
theorem p_Rs_Bk (τ : mS) (v : Nat → Bool) : mRs (vBk τ v) = mRs τ := rfl
theorem p_Rs_Fl (τ : mS) (v : Nat → Bool) : mRs (vFl τ v) = mRs τ := rfl
theorem p_Rs_Fd (τ : mS) (v : Nat → Nat) : mRs (vFd τ v) = mRs τ := rfl
theorem p_Rs_Rs (τ : mS) (v : Nat) : mRs (vRs τ v) = v := rfl
theorem p_Rs_Lt (τ : mS) (v : Nat) : mRs (vLt τ v) = mRs τ := rfl
theorem p_Rs_To (τ : mS) (v : Nat → Bool) : mRs (vTo τ v) = mRs τ := rfl
theorem p_Rs_Ra (τ : mS) (v : Nat) : mRs (vRa τ v) = mRs τ := rfl
theorem p_Rs_Rz (τ : mS) (v : Nat) : mRs (vRz τ v) = mRs τ := rfl
theorem p_Lt_Th (τ : mS) (v : Nat) : mLt (vTh τ v) = mLt τ := rfl
theorem p_Lt_Gr (τ : mS) (v : Nat) : mLt (vGr τ v) = mLt τ := rfl
theorem p_Lt_Sz (τ : mS) (v : Nat → Nat) : mLt (vSz τ v) = mLt τ := rfl
theorem p_Lt_Bk (τ : mS) (v : Nat → Bool) : mLt (vBk τ v) = mLt τ := rfl
theorem p_Lt_Fl (τ : mS) (v : Nat → Bool) : mLt (vFl τ v) = mLt τ := rfl
theorem p_Lt_Fd (τ : mS) (v : Nat → Nat) : mLt (vFd τ v) = mLt τ := rfl
theorem p_Lt_Rs (τ : mS) (v : Nat) : mLt (vRs τ v) = mLt τ := rfl
theorem p_Lt_Lt (τ : mS) (v : Nat) : mLt (vLt τ v) = v := rfl
theorem p_Lt_To (τ : mS) (v : Nat → Bool) : mLt (vTo τ v) = mLt τ := rfl
theorem p_Lt_Ra (τ : mS) (v : Nat) : mLt (vRa τ v) = mLt τ := rfl
theorem p_Lt_Rz (τ : mS) (v : Nat) : mLt (vRz τ v) = mLt τ := rfl
theorem p_To_Th (τ : mS) (v : Nat) : mTo (vTh τ v) = mTo τ := rfl
theorem p_To_Gr (τ : mS) (v : Nat) : mTo (vGr τ v) = mTo τ := rfl
theorem p_To_Sz (τ : mS) (v : Nat → Nat) : mTo (vSz τ v) = mTo τ := rfl
theorem p_To_Bk (τ : mS) (v : Nat → Bool) : mTo (vBk τ v) = mTo τ := rfl
theorem p_To_Fl (τ : mS) (v : Nat → Bool) : mTo (vFl τ v) = mTo τ := rfl
theorem p_To_Fd (τ : mS) (v : Nat → Nat) : mTo (vFd τ v) = mTo τ := rfl
theorem p_To_Rs (τ : mS) (v : Nat) : mTo (vRs τ v) = mTo τ := rfl
theorem p_To_Lt (τ : mS) (v : Nat) : mTo (vLt τ v) = mTo τ := rfl
theorem p_To_To (τ : mS) (v : Nat → Bool) : mTo (vTo τ v) = v := rfl
theorem p_To_Ra (τ : mS) (v : Nat) : mTo (vRa τ v) = mTo τ := rfl
theorem p_To_Rz (τ : mS) (v : Nat) : mTo (vRz τ v) = mTo τ := rfl
theorem p_Ra_Th (τ : mS) (v : Nat) : mRa (vTh τ v) = mRa τ := rfl
theorem p_Ra_Gr (τ : mS) (v : Nat) : mRa (vGr τ v) = mRa τ := rfl
theorem p_Ra_Sz (τ : mS) (v : Nat → Nat) : mRa (vSz τ v) = mRa τ := rfl
theorem p_Ra_Bk (τ : mS) (v : Nat → Bool) : mRa (vBk τ v) = mRa τ := rfl
theorem p_Ra_Fl (τ : mS) (v : Nat → Bool) : mRa (vFl τ v) = mRa τ := rfl
theorem p_Ra_Fd (τ : mS) (v : Nat → Nat) : mRa (vFd τ v) = mRa τ := rfl
theorem p_Ra_Rs (τ : mS) (v : Nat) : mRa (vRs τ v) = mRa τ := rfl
theorem p_Ra_Lt (τ : mS) (v : Nat) : mRa (vLt τ v) = mRa τ := rfl
theorem p_Ra_To (τ : mS) (v : Nat → Bool) : mRa (vTo τ v) = mRa τ := rfl
theorem p_Ra_Ra (τ : mS) (v : Nat) : mRa (vRa τ v) = v := rfl
theorem p_Ra_Rz (τ : mS) (v : Nat) : mRa (vRz τ v) = mRa τ := rfl
theorem p_Rz_Th (τ : mS) (v : Nat) : mRz (vTh τ v) = mRz τ := rfl
theorem p_Rz_Gr (τ : mS) (v : Nat) : mRz (vGr τ v) = mRz τ := rfl
theorem p_Rz_Sz (τ : mS) (v : Nat → Nat) : mRz (vSz τ v) = mRz τ := rfl
theorem p_Rz_Bk (τ : mS) (v : Nat → Bool) : mRz (vBk τ v) = mRz τ := rfl
theorem p_Rz_Fl (τ : mS) (v : Nat → Bool) : mRz (vFl τ v) = mRz τ := rfl
theorem p_Rz_Fd (τ : mS) (v : Nat → Nat) : mRz (vFd τ v) = mRz τ := rfl
theorem p_Rz_Rs (τ : mS) (v : Nat) : mRz (vRs τ v) = mRz τ := rfl
theorem p_Rz_Lt (τ : mS) (v : Nat) : mRz (vLt τ v) = mRz τ := rfl
theorem p_Rz_To (τ : mS) (v : Nat → Bool) : mRz (vTo τ v) = mRz τ := rfl
theorem p_Rz_Ra (τ : mS) (v : Nat) : mRz (vRa τ v) = mRz τ := rfl
theorem p_Rz_Rz (τ : mS) (v : Nat) : mRz (vRz τ v) = v := rfl
abbrev cMO (am : Nat → Nat) (τ : mS) : Nat × va_E := (am 0, .inr (3, [.int (nI (mTh τ)), .int (nI (mGr τ)), .ref (am 1), .ref (am 2), .ref (am 3), .ref (am 4), .int (nI (mRs τ)), .int (nI (mLt τ)), .ref (am 5), .int (nI (mRa τ)), .int (nI (mRz τ))]))
abbrev cMSz (am : Nat → Nat) (cI : ClassId) (τ : mS) : Nat × va_E := (am 1, .inl (cI, 4, .inl (fun k => nI (mSz τ k))))
abbrev cMBk (am : Nat → Nat) (cZ : ClassId) (τ : mS) : Nat × va_E := (am 2, .inl (cZ, 1024, .inl (fun k => bI (mBk τ k))))
abbrev cMFl (am : Nat → Nat) (cZ : ClassId) (τ : mS) : Nat × va_E := (am 3, .inl (cZ, 512, .inl (fun k => bI (mFl τ k))))
abbrev cMFd (am : Nat → Nat) (cI : ClassId) (τ : mS) : Nat × va_E := (am 4, .inl (cI, 4, .inl (fun k => nI (mFd τ k))))
abbrev cMTo (am : Nat → Nat) (cZ : ClassId) (τ : mS) : Nat × va_E := (am 5, .inl (cZ, 1024, .inl (fun k => bI (mTo τ k))))
def wm (am : Nat → Nat) (cI cZ : ClassId) (τ : mS) : va_W := [cMO am τ, cMSz am cI τ, cMBk am cZ τ, cMFl am cZ τ, cMFd am cI τ, cMTo am cZ τ]
section WM
variable {am : Nat → Nat} {cI cZ : ClassId} {τ : mS}
theorem wm_0 : (wm am cI cZ τ)[0]? = some (cMO am τ) := rfl
theorem wm_Sz : (wm am cI cZ τ)[1]? = some (cMSz am cI τ) := rfl
theorem wm_Bk : (wm am cI cZ τ)[2]? = some (cMBk am cZ τ) := rfl
theorem wm_Fl : (wm am cI cZ τ)[3]? = some (cMFl am cZ τ) := rfl
theorem wm_Fd : (wm am cI cZ τ)[4]? = some (cMFd am cI τ) := rfl
theorem wm_To : (wm am cI cZ τ)[5]? = some (cMTo am cZ τ) := rfl
theorem wm_vTh {v : Nat} : (wm am cI cZ τ).set 0 (am 0, .inr (3, [.int (nI v), .int (nI (mGr τ)), .ref (am 1), .ref (am 2), .ref (am 3), .ref (am 4), .int (nI (mRs τ)), .int (nI (mLt τ)), .ref (am 5), .int (nI (mRa τ)), .int (nI (mRz τ))])) = wm am cI cZ (vTh τ v) := rfl
theorem wm_vGr {v : Nat} : (wm am cI cZ τ).set 0 (am 0, .inr (3, [.int (nI (mTh τ)), .int (nI v), .ref (am 1), .ref (am 2), .ref (am 3), .ref (am 4), .int (nI (mRs τ)), .int (nI (mLt τ)), .ref (am 5), .int (nI (mRa τ)), .int (nI (mRz τ))])) = wm am cI cZ (vGr τ v) := rfl
theorem wm_vRs {v : Nat} : (wm am cI cZ τ).set 0 (am 0, .inr (3, [.int (nI (mTh τ)), .int (nI (mGr τ)), .ref (am 1), .ref (am 2), .ref (am 3), .ref (am 4), .int (nI v), .int (nI (mLt τ)), .ref (am 5), .int (nI (mRa τ)), .int (nI (mRz τ))])) = wm am cI cZ (vRs τ v) := rfl
theorem wm_vLt {v : Nat} : (wm am cI cZ τ).set 0 (am 0, .inr (3, [.int (nI (mTh τ)), .int (nI (mGr τ)), .ref (am 1), .ref (am 2), .ref (am 3), .ref (am 4), .int (nI (mRs τ)), .int (nI v), .ref (am 5), .int (nI (mRa τ)), .int (nI (mRz τ))])) = wm am cI cZ (vLt τ v) := rfl
theorem wm_vRa {v : Nat} : (wm am cI cZ τ).set 0 (am 0, .inr (3, [.int (nI (mTh τ)), .int (nI (mGr τ)), .ref (am 1), .ref (am 2), .ref (am 3), .ref (am 4), .int (nI (mRs τ)), .int (nI (mLt τ)), .ref (am 5), .int (nI v), .int (nI (mRz τ))])) = wm am cI cZ (vRa τ v) := rfl
theorem wm_vRz {v : Nat} : (wm am cI cZ τ).set 0 (am 0, .inr (3, [.int (nI (mTh τ)), .int (nI (mGr τ)), .ref (am 1), .ref (am 2), .ref (am 3), .ref (am 4), .int (nI (mRs τ)), .int (nI (mLt τ)), .ref (am 5), .int (nI (mRa τ)), .int (nI v)])) = wm am cI cZ (vRz τ v) := rfl
theorem wm_vSz {f : Nat → Nat} : (wm am cI cZ τ).set 1 (am 1, .inl (cI, 4, .inl (fun k => nI (f k)))) = wm am cI cZ (vSz τ f) := rfl
theorem wm_vBk {f : Nat → Bool} : (wm am cI cZ τ).set 2 (am 2, .inl (cZ, 1024, .inl (fun k => bI (f k)))) = wm am cI cZ (vBk τ f) := rfl
theorem wm_vFl {f : Nat → Bool} : (wm am cI cZ τ).set 3 (am 3, .inl (cZ, 512, .inl (fun k => bI (f k)))) = wm am cI cZ (vFl τ f) := rfl
theorem wm_vFd {f : Nat → Nat} : (wm am cI cZ τ).set 4 (am 4, .inl (cI, 4, .inl (fun k => nI (f k)))) = wm am cI cZ (vFd τ f) := rfl
theorem wm_vTo {f : Nat → Bool} : (wm am cI cZ τ).set 5 (am 5, .inl (cZ, 1024, .inl (fun k => bI (f k)))) = wm am cI cZ (vTo τ f) := rfl
end WM
def setn (F : Nat → Nat) (k v : Nat) : Nat → Nat := fun i => if i = k then v else F i
