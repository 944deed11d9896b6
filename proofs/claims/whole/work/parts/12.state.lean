/-! ===== the class's state: how many groups, reserved, lately taken, block 1 told; folders of a group; of a bitmap (2 g: blocks of group g, 2 g + 1: its files) size, free, told, bits ===== -/
abbrev gS : Type := Nat × Nat × Nat × Bool × (Nat → Nat) × (Nat → Nat) × (Nat → Nat) × (Nat → Bool) × (Nat → Nat → Bool)
def sCnt (σ : gS) : Nat := σ.1
def sRsv (σ : gS) : Nat := σ.2.1
def sLat (σ : gS) : Nat := σ.2.2.1
def sTT (σ : gS) : Bool := σ.2.2.2.1
def sFd (σ : gS) : Nat → Nat := σ.2.2.2.2.1
def sSz (σ : gS) : Nat → Nat := σ.2.2.2.2.2.1
def sFr (σ : gS) : Nat → Nat := σ.2.2.2.2.2.2.1
def sTd (σ : gS) : Nat → Bool := σ.2.2.2.2.2.2.2.1
def sBt (σ : gS) : Nat → Nat → Bool := σ.2.2.2.2.2.2.2.2
def uCnt (σ : gS) (v : Nat) : gS := (v, sRsv σ, sLat σ, sTT σ, sFd σ, sSz σ, sFr σ, sTd σ, sBt σ)
def uRsv (σ : gS) (v : Nat) : gS := (sCnt σ, v, sLat σ, sTT σ, sFd σ, sSz σ, sFr σ, sTd σ, sBt σ)
def uLat (σ : gS) (v : Nat) : gS := (sCnt σ, sRsv σ, v, sTT σ, sFd σ, sSz σ, sFr σ, sTd σ, sBt σ)
def uTT (σ : gS) (v : Bool) : gS := (sCnt σ, sRsv σ, sLat σ, v, sFd σ, sSz σ, sFr σ, sTd σ, sBt σ)
def uFd (σ : gS) (g v : Nat) : gS := (sCnt σ, sRsv σ, sLat σ, sTT σ, va_up (sFd σ) g v, sSz σ, sFr σ, sTd σ, sBt σ)
def uSz (σ : gS) (j v : Nat) : gS := (sCnt σ, sRsv σ, sLat σ, sTT σ, sFd σ, va_up (sSz σ) j v, sFr σ, sTd σ, sBt σ)
def uFr (σ : gS) (j v : Nat) : gS := (sCnt σ, sRsv σ, sLat σ, sTT σ, sFd σ, sSz σ, va_up (sFr σ) j v, sTd σ, sBt σ)
def uTd (σ : gS) (j : Nat) (v : Bool) : gS := (sCnt σ, sRsv σ, sLat σ, sTT σ, sFd σ, sSz σ, sFr σ, va_up (sTd σ) j v, sBt σ)
def uBt (σ : gS) (j : Nat) (f : Nat → Bool) : gS := (sCnt σ, sRsv σ, sLat σ, sTT σ, sFd σ, sSz σ, sFr σ, sTd σ, va_up (sBt σ) j f)
def gHd (g : Nat) : Nat := if g = 2 then 0 else 2
def gLen (j : Nat) : Nat := if j % 2 = 0 then 256 else 128
def gPl (j : Nat) : Nat := 256 * (j / 2) + gHd (j / 2) + j % 2
abbrev cGB (ad : Nat → Nat) (σ : gS) : Nat × va_E := (ad 0, .inr (0, [.ref (ad 1), .int (nI (sCnt σ)), .int (nI (sRsv σ)), .int (nI (sLat σ)), .int (bI (sTT σ))]))
abbrev cGA (ad : Nat → Nat) (cG : ClassId) : Nat × va_E := (ad 1, .inl (cG, 4, .inr (.inr (.inr (.inr (fun k => some (ad (2 + k))))))))
abbrev cGR (ad : Nat → Nat) (σ : gS) (g : Nat) : Nat × va_E := (ad (2 + g), .inr (1, [.int (nI (256 * g)), .int (nI (gHd g + 10)), .int (nI (256 * g + gHd g + 2)), .ref (ad (6 + 2 * g)), .ref (ad (6 + (2 * g + 1))), .int (nI (sFd σ g))]))
abbrev cBM (ad : Nat → Nat) (σ : gS) (j : Nat) : Nat × va_E := (ad (6 + j), .inr (2, [.int (nI (gPl j)), .ref (ad (14 + j)), .int (nI (sSz σ j)), .int (nI (sFr σ j)), .int (bI (sTd σ j))]))
abbrev cBA (ad : Nat → Nat) (cZ : ClassId) (σ : gS) (j : Nat) : Nat × va_E := (ad (14 + j), .inl (cZ, gLen j, .inl (fun k => bI (sBt σ j k))))
def wd (ad : Nat → Nat) (cG cZ : ClassId) (σ : gS) : va_W := [cGB ad σ, cGA ad cG, cGR ad σ 0, cGR ad σ 1, cGR ad σ 2, cGR ad σ 3, cBM ad σ 0, cBM ad σ 1, cBM ad σ 2, cBM ad σ 3, cBM ad σ 4, cBM ad σ 5, cBM ad σ 6, cBM ad σ 7, cBA ad cZ σ 0, cBA ad cZ σ 1, cBA ad cZ σ 2, cBA ad cZ σ 3, cBA ad cZ σ 4, cBA ad cZ σ 5, cBA ad cZ σ 6, cBA ad cZ σ 7]
abbrev gT (cG cZ cI cJ : ClassId) : List (ClassId × FieldType) := [(cG, .object "GroupBitmaps$Group"), (cZ, .boolean), (cI, .int), (cJ, .long)]
theorem lt4 {g : Nat} (h : g < 4) : g = 0 ∨ g = 1 ∨ g = 2 ∨ g = 3 := by omega
theorem lt8 {g : Nat} (h : g < 8) : g = 0 ∨ g = 1 ∨ g = 2 ∨ g = 3 ∨ g = 4 ∨ g = 5 ∨ g = 6 ∨ g = 7 := by omega
theorem gHd_le (g : Nat) : gHd g ≤ 2 := by unfold gHd; split <;> omega
theorem gLen_le (j : Nat) : gLen j ≤ 256 := by unfold gLen; split <;> omega
theorem gLen_lt (j : Nat) : gLen j < 2 ^ 31 := by unfold gLen; split <;> omega
theorem gPl_lt {j : Nat} (h : j < 8) : gPl j < 1024 := by have := gHd_le (j / 2); unfold gPl; omega
section WD
variable {ad : Nat → Nat} {cG cZ : ClassId} {σ : gS}
theorem wd_GB : (wd ad cG cZ σ)[0]? = some (cGB ad σ) := rfl
theorem wd_GA : (wd ad cG cZ σ)[1]? = some (cGA ad cG) := rfl
theorem wd_GR {g : Nat} (h : g < 4) : (wd ad cG cZ σ)[2 + g]? = some (cGR ad σ g) := by rcases lt4 h with rfl | rfl | rfl | rfl <;> rfl
theorem wd_BM {j : Nat} (h : j < 8) : (wd ad cG cZ σ)[6 + j]? = some (cBM ad σ j) := by rcases lt8 h with rfl | rfl | rfl | rfl | rfl | rfl | rfl | rfl <;> rfl
theorem wd_BA {j : Nat} (h : j < 8) : (wd ad cG cZ σ)[14 + j]? = some (cBA ad cZ σ j) := by rcases lt8 h with rfl | rfl | rfl | rfl | rfl | rfl | rfl | rfl <;> rfl
theorem wd_uCnt {v : Nat} : (wd ad cG cZ σ).set 0 (ad 0, .inr (0, [.ref (ad 1), .int (nI v), .int (nI (sRsv σ)), .int (nI (sLat σ)), .int (bI (sTT σ))])) = wd ad cG cZ (uCnt σ v) := rfl
theorem wd_uRsv {v : Nat} : (wd ad cG cZ σ).set 0 (ad 0, .inr (0, [.ref (ad 1), .int (nI (sCnt σ)), .int (nI v), .int (nI (sLat σ)), .int (bI (sTT σ))])) = wd ad cG cZ (uRsv σ v) := rfl
theorem wd_uLat {v : Nat} : (wd ad cG cZ σ).set 0 (ad 0, .inr (0, [.ref (ad 1), .int (nI (sCnt σ)), .int (nI (sRsv σ)), .int (nI v), .int (bI (sTT σ))])) = wd ad cG cZ (uLat σ v) := rfl
theorem wd_uTT {v : Bool} : (wd ad cG cZ σ).set 0 (ad 0, .inr (0, [.ref (ad 1), .int (nI (sCnt σ)), .int (nI (sRsv σ)), .int (nI (sLat σ)), .int (bI v)])) = wd ad cG cZ (uTT σ v) := rfl
theorem wd_uFd {g v : Nat} (h : g < 4) : (wd ad cG cZ σ).set (2 + g) (ad (2 + g), .inr (1, [.int (nI (256 * g)), .int (nI (gHd g + 10)), .int (nI (256 * g + gHd g + 2)), .ref (ad (6 + 2 * g)), .ref (ad (6 + (2 * g + 1))), .int (nI v)])) = wd ad cG cZ (uFd σ g v) := by rcases lt4 h with rfl | rfl | rfl | rfl <;> rfl
theorem wd_uSz {j v : Nat} (h : j < 8) : (wd ad cG cZ σ).set (6 + j) (ad (6 + j), .inr (2, [.int (nI (gPl j)), .ref (ad (14 + j)), .int (nI v), .int (nI (sFr σ j)), .int (bI (sTd σ j))])) = wd ad cG cZ (uSz σ j v) := by rcases lt8 h with rfl | rfl | rfl | rfl | rfl | rfl | rfl | rfl <;> rfl
theorem wd_uFr {j v : Nat} (h : j < 8) : (wd ad cG cZ σ).set (6 + j) (ad (6 + j), .inr (2, [.int (nI (gPl j)), .ref (ad (14 + j)), .int (nI (sSz σ j)), .int (nI v), .int (bI (sTd σ j))])) = wd ad cG cZ (uFr σ j v) := by rcases lt8 h with rfl | rfl | rfl | rfl | rfl | rfl | rfl | rfl <;> rfl
theorem wd_uTd {j : Nat} {v : Bool} (h : j < 8) : (wd ad cG cZ σ).set (6 + j) (ad (6 + j), .inr (2, [.int (nI (gPl j)), .ref (ad (14 + j)), .int (nI (sSz σ j)), .int (nI (sFr σ j)), .int (bI v)])) = wd ad cG cZ (uTd σ j v) := by rcases lt8 h with rfl | rfl | rfl | rfl | rfl | rfl | rfl | rfl <;> rfl
theorem wd_uBt {j : Nat} {f : Nat → Bool} (h : j < 8) : (wd ad cG cZ σ).set (14 + j) (ad (14 + j), .inl (cZ, gLen j, .inl (fun k => bI (f k)))) = wd ad cG cZ (uBt σ j f) := by rcases lt8 h with rfl | rfl | rfl | rfl | rfl | rfl | rfl | rfl <;> rfl
end WD
