/-! shares (doubles), hashes -/
theorem ml_Jxe99ae_134 : Cond.methodLink RJxe99ae 134 ⟨"java/lang/Double", "doubleToRawLongBits", "(D)J"⟩ ∈ wAll := tb_5 (List.mem_of_getElem? (i := 57) rfl) rfl
theorem st_d2rl : Cond.static ⟨"java/lang/Double", "doubleToRawLongBits", "(D)J"⟩ ∈ wAll := tb_5 (List.mem_of_getElem? (i := 58) rfl) rfl
theorem na_d2rl : Cond.native ⟨"java/lang/Double", "doubleToRawLongBits", "(D)J"⟩ ∈ wAll := tb_5 (List.mem_of_getElem? (i := 59) rfl) rfl
/-- how many pages are marked, divided by six -/
def zSh (x : Int32) : UInt64 := FP.ddiv (FP.i2d x) 4618441417868443648
/-- a number that is itself -/
def zOk (v : UInt64) : Prop := vf_n64 v ∧ Op.cmpValue (FP.dcmp v v) CmpOp.l = 0
theorem zSh_ok : ∀ q, q < 7 → zOk (zSh (nI q)) := by
  intro q hq
  rcases (show q = 0 ∨ q = 1 ∨ q = 2 ∨ q = 3 ∨ q = 4 ∨ q = 5 ∨ q = 6 by omega) with rfl | rfl | rfl | rfl | rfl | rfl | rfl <;> exact ⟨by unfold vf_n64; decide +kernel, by decide +kernel⟩
def zMix (h v : Int64) : Int64 := 31 * h + v
def zfold (F : Nat → Int64) : Nat → Nat → Int64 → Int64
  | 0, _, h => h
  | f + 1, k, h => zfold F f (k + 1) (zMix h (F k))
def rHv3 (sf : Nat → Int32) (v : Int32) : Nat → Nat → Int64 → Int64
  | 0, _, h => h
  | f + 1, k, h => rHv3 sf v f (k + 1) (zMix (zMix h (rAns sf (sf 0) v k).toInt64) (rCost sf (sf 0) v k).toInt64)
def rHval (sf : Nat → Int32) (v : Int32) (h : Int64) : Int64 := zMix (zMix (rHv3 sf v 3 0 h) (rLie sf v).toInt64) (nI (rLc sf v)).toInt64
def rHvals (sf : Nat → Int32) : Nat → Nat → Int64 → Int64
  | 0, _, h => h
  | f + 1, k, h => rHvals sf f (k + 1) (rHval sf (nI k) h)
def rD1 (sf : Nat → Int32) (mm : Nat) : Int64 := zfold (fun w => (rTc sf mm w).toInt64) 13 0 3467
def rD2 (sf : Nat → Int32) (mm : Nat) : Int64 := zfold (fun k => (rTs sf (k / 4) (k % 4)).toInt64) 96 0 (rD1 sf mm)
def rD3 (sf : Nat → Int32) (mm : Nat) : Int64 := zfold (fun k => (rTp sf (k / 5) (k % 5)).toInt64) 30 0 (rD2 sf mm)
def rD4 (sf : Nat → Int32) (mm : Nat) : Int64 := zfold (fun k => (rTa sf (k / 3) (k % 3)).toInt64) 12 0 (rD3 sf mm)
def rD5 (sf : Nat → Int32) (mm : Nat) : Int64 := rHvals sf 10 0 (rD4 sf mm)
def rD6 (sf : Nat → Int32) (mm n : Nat) : Int64 := zMix (zMix (zMix (rD5 sf mm) (rHo sf).toInt64) (zSh (rMp sf)).toInt64) (nI n).toInt64
def rDig (sf : Nat → Int32) (mm : Nat) (g : Nat → Nat) (n : Nat) : Int64 := zfold (fun k => (nI (g k)).toInt64) n 0 (rD6 sf mm n)
