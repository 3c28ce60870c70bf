/-! THE LAW'S OWN METHODS, as functions -/
def zlow (v : Int32) (n : Nat) : Nat := v.toBitVec.toNat % 2147483648 % n
theorem zlow_lt {v : Int32} {n : Nat} (h : 0 < n) : zlow v n < n := Nat.mod_lt _ h
theorem low_and (v : Int32) : v &&& 2147483647 = nI (v.toBitVec.toNat % 2147483648) := by
  apply Int32.toBitVec_inj.mp
  apply BitVec.eq_of_toNat_eq
  show (v &&& 2147483647).toBitVec.toNat = (v.toBitVec.toNat % 2147483648) % 2 ^ 32
  rw [Int32.toBitVec_and, BitVec.toNat_and, Nat.mod_eq_of_lt (Nat.lt_of_lt_of_le (Nat.mod_lt _ (by decide)) (by decide : (2147483648 : Nat) ≤ 2 ^ 32))]
  exact Nat.and_two_pow_sub_one_eq_mod _ 31
def zK15 (v : Int32) : Nat := (v &&& 15).toBitVec.toNat
theorem and15 (v : Int32) : v &&& 15 = nI (zK15 v) ∧ zK15 v < 16 := by
  constructor
  · apply Int32.toBitVec_inj.mp
    apply BitVec.eq_of_toNat_eq
    show _ = (v &&& 15).toBitVec.toNat % 2 ^ 32
    rw [Nat.mod_eq_of_lt (BitVec.isLt _)]
  · unfold zK15
    rw [Int32.toBitVec_and, BitVec.toNat_and]
    exact Nat.lt_succ_of_le Nat.and_le_right
def zP8 (w : Int32) : Nat := if (w >>> ((20 : Int32) &&& 31)) &&& 1 = 0 then 8 else 24
theorem zP8_b (w : Int32) : 0 < zP8 w ∧ zP8 w ≤ 24 := by unfold zP8; split <;> decide
def zcel (xs : Nat → Int32) (L k : Nat) : Int32 := if k < L then xs k else nI (7919 * (k + 3) * (k + 11))
/-- what is told of a state: the hash of its looks -/
def zT1 (Z : zSt) (sz : Nat) : Int64 := zfold (fun w => (zCo Z sz w).toInt64) 12 0 3
def zT2 (Z : zSt) (sz : Nat) : Int64 := zfold2 (fun k w => (zSl Z.1 k w).toInt64) 4 24 0 (zT1 Z sz)
def zT3 (Z : zSt) (sz : Nat) : Int64 := zfold2 (fun k w => (zPg Z k w).toInt64) 5 6 0 (zT2 Z sz)
def zTold (Z : zSt) (sz : Nat) : Int64 := zfold2 (fun k w => (zAs Z k w).toInt64) 3 4 0 (zT3 Z sz)
/-- an act: its answer and the state behind it; none, if none is made -/
def zOp (Z : zSt) (a : Nat) : zSt := (Z.1, (upd Z.2.1.1 a Z.1.2.2.2.2.1, Z.2.1.2), Z.2.2)
def zCl (Z : zSt) (a : Nat) : zSt := (Z.1, (upd Z.2.1.1 a (-1), Z.2.1.2), Z.2.2)
def zSwp (Z : zSt) (p : Nat) : zSt := ((zSweep Z.1 p (zHor Z)).2, Z.2)
def zSwpA (Z : zSt) : zSt := (zSwA (zHor Z) 6 0 Z.1, Z.2)
def zAskS (Z : zSt) (a : Nat) (u : Int32) (w : Nat) : zSt := (Z.1, (Z.2.1.1, upd Z.2.1.2 a (Z.2.1.2 a + 1)), zTly Z.2.2 w (zCost Z.1 (Z.2.1.1 a) u w) (!zTr Z.1 (Z.2.1.1 a)))
def zTkS (Z : zSt) (p : Nat) : zSt := ((zTake Z.1 p).2, Z.2)
def zChS (Z : zSt) (p : Nat) (u : Int32) : zSt := ((zChg Z.1 p u).2, Z.2)
def zPtS (Z : zSt) (u : Int32) : zSt := ((zPut Z.1 u).2, Z.2)
def zAO (Z : zSt) (k a p : Nat) (w : Int32) : Option (Int32 × zSt) :=
  if k = 0 then some (Z.1.2.2.2.2.1, zOp Z a)
  else if k = 1 then some (Z.1.2.2.2.2.1, zOp Z a)
  else if k = 2 then if 0 ≤ Z.2.1.1 a then some (Z.2.1.1 a, zCl Z a) else none
  else if k = 3 then some ((zSweep Z.1 (zlow w 6) (zHor Z)).1, zSwp Z (zlow w 6))
  else if k = 4 then some ((zSweep Z.1 (zlow w 6) (zHor Z)).1, zSwp Z (zlow w 6))
  else if k = 5 then some (zMp (zSwA (zHor Z) 6 0 Z.1), zSwpA Z)
  else if k = 6 then if 0 ≤ Z.2.1.1 a then some (zAns Z.1 (Z.2.1.1 a) (nI (zlow w 10)) (zlow (w >>> ((4 : Int32) &&& 31)) 3), zAskS Z a (nI (zlow w 10)) (zlow (w >>> ((4 : Int32) &&& 31)) 3)) else none
  else if k = 7 then if 0 ≤ Z.2.1.1 a then some (zAns Z.1 (Z.2.1.1 a) (nI (zlow w 10)) (zlow (w >>> ((4 : Int32) &&& 31)) 3), zAskS Z a (nI (zlow w 10)) (zlow (w >>> ((4 : Int32) &&& 31)) 3)) else none
  else if k = 8 then if zSeen Z.1 p Z.1.2.2.2.2.1 = true then some ((zTake Z.1 p).2.1 p, zTkS Z p) else none
  else if k = 9 then if zSeen Z.1 p Z.1.2.2.2.2.1 = true then some ((zTake Z.1 p).2.1 p, zTkS Z p) else none
  else if k = 10 then if zSeen Z.1 p Z.1.2.2.2.2.1 = true then if 24 - zVs Z.1 24 0 = 0 then none else some ((zChg Z.1 p (nI (zlow (w >>> ((5 : Int32) &&& 31)) 10))).1, zChS Z p (nI (zlow (w >>> ((5 : Int32) &&& 31)) 10))) else none
  else if k = 11 then if zSeen Z.1 p Z.1.2.2.2.2.1 = true then if 24 - zVs Z.1 24 0 = 0 then none else some ((zChg Z.1 p (nI (zlow (w >>> ((5 : Int32) &&& 31)) 10))).1, zChS Z p (nI (zlow (w >>> ((5 : Int32) &&& 31)) 10))) else none
  else if 24 - zVs Z.1 24 0 = 0 then none else some ((zPut Z.1 (nI (zlow w 10))).1, zPtS Z (nI (zlow w 10)))
def zAR (Z G : zSt) (nx sz : Nat) : Option (Int32 × zSt) → Int32 × zSt × zSt × Nat × Nat
  | none => (-9, Z, G, nx, sz)
  | some r => (r.1, r.2, Z, (nx + 1) % 6, zSz sz)
def zAct (Z G : zSt) (nx sz : Nat) (v w : Int32) : Int32 × zSt × zSt × Nat × Nat := zAR Z G nx sz (zAO Z (zK15 v) (zlow (v >>> ((4 : Int32) &&& 31)) 4) (zlow w (zP8 w)) w)
theorem zne_m1 {x : Int32} (h : 0 ≤ x) : ¬ x = -1 := fun e => by rw [e] at h; exact absurd h (by decide)
theorem zlow24 {T : zTb} (h : ¬ 24 - zVs T 24 0 = 0) : decide (zLow T < 24) = true := by
  have key : ∀ (f k c : Nat), zcnt (fun k => decide (¬ T.1 k = -1)) f k (nI c) = nI (c + f) ∨ zfst (fun k => decide (T.1 k = -1)) f k < k + f := by
    intro f
    induction f with
    | zero => intro k c; exact Or.inl rfl
    | succ f ih =>
      intro k c
      by_cases hk : T.1 k = -1
      · right
        rw [zfst_t (by simp [hk])]
        omega
      · rw [zcnt_t (by simp [hk]), zfst_f (by simp [hk]), show nI c + 1 = nI (c + 1) from nI_add c 1]
        rcases ih (k + 1) (c + 1) with h1 | h1
        · left; rw [h1]; congr 1; omega
        · right; omega
  rcases key 24 0 0 with h1 | h1
  · refine absurd ?_ h
    unfold zVs
    rw [show (0 : Int32) = nI 0 from rfl, h1]
    decide
  · exact decide_eq_true (show zfst (fun k => decide (T.1 k = -1)) 24 0 < 24 by omega)
def zlea (sn : Nat → Int32) : Nat → Nat → Int32 → Int32
  | 0, _, x => x
  | f + 1, k, x => zlea sn f (k + 1) (if sn k < 0 then x else if x ≤ sn k then x else sn k)
theorem zb_1 {b : Bool} (h : zb b = 1) : b = true := by cases b <;> first | rfl | (exact absurd h (by decide))
theorem mk_t {T : zTb} {p : Nat} (h : zMk T p = true) (e : T.2.2.2.1 p = -1) : False := by unfold zMk at h; exact absurd e (of_decide_eq_true h)
theorem mk_f {T : zTb} {p : Nat} (h : zMk T p = false) (e : ¬ T.2.2.2.1 p = -1) : False := by unfold zMk at h; exact absurd e (of_decide_eq_false h)
section LK
variable (Z : zSt) (T : zTb) (sz k p : Nat)
theorem zCo_0 : zCo Z sz 0 = Z.1.2.2.2.2.1 := by simp [zCo]
theorem zCo_1 : zCo Z sz 1 = zHor Z := by simp [zCo]
theorem zCo_2 : zCo Z sz 2 = zVs Z.1 24 0 := by simp [zCo]
theorem zCo_3 : zCo Z sz 3 = zVn Z.1 24 0 Z.1.2.2.2.2.1 := by simp [zCo]
theorem zCo_4 : zCo Z sz 4 = 24 - zVs Z.1 24 0 := by simp [zCo]
theorem zCo_5 : zCo Z sz 5 = zMp Z.1 := by simp [zCo]
theorem zCo_9 : zCo Z sz 9 = Z.2.2.2.1 := by simp [zCo]
theorem zCo_12 : zCo Z sz 12 = nI sz := by simp [zCo]
theorem zSl_0 : zSl T k 0 = T.1 k := by simp [zSl]
theorem zSl_1 : zSl T k 1 = T.2.1 k := by simp [zSl]
theorem zSl_2 : zSl T k 2 = T.2.2.1 k := by simp [zSl]
theorem zSl_3 : zSl T k 3 = zb (zSeen T k T.2.2.2.2.1) := by simp [zSl]
theorem zPg_0 : zPg Z p 0 = zb (zMk Z.1 p) := by simp [zPg]
theorem zPg_1 : zPg Z p 1 = zVs Z.1 4 (p * 4) := by simp [zPg]
theorem zPg_2 : zPg Z p 2 = zVn Z.1 4 (p * 4) Z.1.2.2.2.2.1 := by simp [zPg]
theorem zPg_3 : zPg Z p 3 = zVo Z.1 4 (p * 4) (zHor Z) := by simp [zPg]
theorem zPg_4 : zPg Z p 4 = Z.1.2.2.2.1 p := by simp [zPg]
theorem zAs_0 : zAs Z k 0 = Z.2.1.1 k := by simp [zAs]
theorem ans_10 (t v : Int32) : zAns T t v 1 = zAns T t v 0 := by
  unfold zAns
  rw [show zBm T t 1 = false by simp [zBm], show zBm T t 0 = false by simp [zBm]]
end LK
theorem zAR_some (Z G : zSt) (nx sz : Nat) (g : Int32) (Z' : zSt) : zAR Z G nx sz (some (g, Z')) = (g, Z', Z, (nx + 1) % 6, zSz sz) := rfl
theorem zAR_none (Z G : zSt) (nx sz : Nat) : zAR Z G nx sz none = (-9, Z, G, nx, sz) := rfl
