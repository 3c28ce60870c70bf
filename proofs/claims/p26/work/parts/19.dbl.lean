/-! shares (doubles), hashes -/
/-- how many pages are marked, divided by six -/
def zSh (x : Int32) : UInt64 := FP.ddiv (FP.i2d x) 4618441417868443648
/-- a number that is itself -/
def zOk (v : UInt64) : Prop := vf_n64 v ∧ Op.cmpValue (FP.dcmp v v) CmpOp.l = 0
theorem zSh_ok : ∀ q, q < 7 → zOk (zSh (nI q)) := by
  intro q hq
  rcases (show q = 0 ∨ q = 1 ∨ q = 2 ∨ q = 3 ∨ q = 4 ∨ q = 5 ∨ q = 6 by omega) with rfl | rfl | rfl | rfl | rfl | rfl | rfl <;> exact ⟨by unfold vf_n64; decide +kernel, by decide +kernel⟩
def zMix (h v : Int64) : Int64 := 31 * h + v
def zfold (F : Nat → Int64) : Nat → Nat → Int64 → Int64
  | 0, _, h => h
  | f + 1, k, h => zfold F f (k + 1) (zMix h (F k))
