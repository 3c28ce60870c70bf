/-! WHAT THE CLASS' TABLE TELLS, as functions: values, cameBy, wentBy, markedBy, clock, takenOut -/
abbrev zTb : Type := (Nat → Int32) × (Nat → Int32) × (Nat → Int32) × (Nat → Int32) × Int32 × Int32
def zcnt (P : Nat → Bool) : Nat → Nat → Int32 → Int32
  | 0, _, a => a
  | f + 1, k, a => zcnt P f (k + 1) (if P k then a + 1 else a)
theorem zcnt_t {P : Nat → Bool} {f k : Nat} {a : Int32} (h : P k = true) : zcnt P (f + 1) k a = zcnt P f (k + 1) (a + 1) := by simp [zcnt, h]
theorem zcnt_f {P : Nat → Bool} {f k : Nat} {a : Int32} (h : P k = false) : zcnt P (f + 1) k a = zcnt P f (k + 1) a := by simp [zcnt, h]
def zall (P : Nat → Bool) : Nat → Nat → Bool
  | 0, _ => true
  | f + 1, k => P k && zall P f (k + 1)
theorem zall_t {P : Nat → Bool} {f k : Nat} (h : P k = true) : zall P (f + 1) k = zall P f (k + 1) := by simp [zall, h]
theorem zall_f {P : Nat → Bool} {f k : Nat} (h : P k = false) : zall P (f + 1) k = false := by simp [zall, h]
def zany (P : Nat → Bool) : Nat → Nat → Bool
  | 0, _ => false
  | f + 1, k => P k || zany P f (k + 1)
theorem zany_t {P : Nat → Bool} {f k : Nat} (h : P k = true) : zany P (f + 1) k = true := by simp [zany, h]
theorem zany_f {P : Nat → Bool} {f k : Nat} (h : P k = false) : zany P (f + 1) k = zany P f (k + 1) := by simp [zany, h]
def zfst (P : Nat → Bool) : Nat → Nat → Nat
  | 0, k => k
  | f + 1, k => if P k then k else zfst P f (k + 1)
theorem zfst_t {P : Nat → Bool} {f k : Nat} (h : P k = true) : zfst P (f + 1) k = k := by simp [zfst, h]
theorem zfst_f {P : Nat → Bool} {f k : Nat} (h : P k = false) : zfst P (f + 1) k = zfst P f (k + 1) := by simp [zfst, h]
theorem zfst_le (P : Nat → Bool) : ∀ f k, k ≤ zfst P f k ∧ zfst P f k ≤ k + f := by
  intro f
  induction f with
  | zero => intro k; exact ⟨Nat.le_refl _, Nat.le_refl _⟩
  | succ f ih =>
    intro k
    have h := ih (k + 1)
    by_cases hp : P k = true
    · rw [zfst_t hp]; omega
    · rw [zfst_f (by simpa using hp)]; omega
def zNo (n : Nat) : Int32 := if n < 24 then nI n else -1
theorem zinc (x n : Nat) : nI x + Int32.ofInt n = nI (x + n) := by
  rw [show Int32.ofInt (n : Int) = nI n from Int32.ofInt_eq_ofNat]
  exact nI_add x n
theorem nI_nem1 {n : Nat} (h : n < 2 ^ 31) : ¬ nI n = -1 := fun e => by
  have h1 := congrArg Int32.toInt e
  rw [nI_toInt h] at h1
  have h2 : (-1 : Int32).toInt = -1 := by decide
  rw [h2] at h1
  omega
theorem zupd_nI (g : Nat → Nat) (n c : Nat) : upd (fun k => nI (g k)) n (nI c) = fun k => nI (va_up g n c k) := by
  funext k
  unfold upd va_up
  split <;> rfl
theorem zb_fit (b : Bool) : fits .boolean (.int (zb b)) = true := by cases b <;> rfl
def zSeen (T : zTb) (k : Nat) (t : Int32) : Bool := if T.1 k = -1 then false else if t < T.2.1 k then false else if T.2.2.1 k = 0 then true else decide (t < T.2.2.1 k)
def zMk (T : zTb) (p : Nat) : Bool := decide (¬ T.2.2.2.1 p = -1)
def zLow (T : zTb) : Nat := zfst (fun k => decide (T.1 k = -1)) 24 0
def zOut (T : zTb) (k : Nat) (h : Int32) : Bool := !decide (T.2.2.1 k ≤ 0) && !decide (h < T.2.2.1 k)
def zAll (T : zTb) (k : Nat) (h : Int32) : Bool := !decide (h < T.2.1 k) && decide (T.2.2.1 k = 0)
def zVs (T : zTb) (n i : Nat) : Int32 := zcnt (fun k => decide (¬ T.1 k = -1)) n i 0
def zVn (T : zTb) (n i : Nat) (t : Int32) : Int32 := zcnt (fun k => zSeen T k t) n i 0
def zVo (T : zTb) (n i : Nat) (h : Int32) : Int32 := zcnt (fun k => zOut T k h) n i 0
def zMp (T : zTb) : Int32 := zcnt (zMk T) 6 0 0
def zTr (T : zTb) (t : Int32) : Bool := zall (fun p => decide (T.2.2.2.1 p ≤ t)) 6 0
def zBm (T : zTb) (t : Int32) (w : Nat) : Bool := decide (w = 2) && zTr T t
def zAns (T : zTb) (t v : Int32) (w : Nat) : Int32 := zcnt (fun k => decide (T.1 k = v) && ((zBm T t w && zMk T (k / 4)) || zSeen T k t)) 24 0 0
def zHas (T : zTb) (p : Nat) (v : Int32) : Bool := zany (fun k => decide (T.1 k = v)) 4 (p * 4)
def zCost (T : zTb) (t v : Int32) (w : Nat) : Int32 := if w = 0 then 6 else zcnt (fun p => zHas T p v && !(zBm T t w && zMk T p)) 6 0 0
def zWr (T : zTb) (v : Int32) : Int32 := zcnt (fun k => decide (T.1 k = v) && !zSeen T k T.2.2.2.2.1) 24 0 0
def zlcF (C : Nat → Int32) : Nat → Nat → Nat → Nat
  | 0, _, b => b
  | f + 1, k, b => zlcF C f (k + 1) (if C b < C k then b else k)
def zLc (T : zTb) (v : Int32) : Nat := zlcF (zCost T T.2.2.2.2.1 v) 2 1 0
def zCome (T : zTb) (k : Nat) (v : Int32) : zTb := (upd T.1 k v, upd T.2.1 k T.2.2.2.2.1, upd T.2.2.1 k 0, upd T.2.2.2.1 (k / 4) (-1), T.2.2.2.2.1, T.2.2.2.2.2)
def zGo (T : zTb) (k : Nat) : zTb := (T.1, T.2.1, upd T.2.2.1 k T.2.2.2.2.1, upd T.2.2.2.1 (k / 4) (-1), T.2.2.2.2.1, T.2.2.2.2.2)
def zEmp (T : zTb) (k : Nat) : zTb := (upd T.1 k (-1), upd T.2.1 k (-1), upd T.2.2.1 k (-1), T.2.2.2.1, T.2.2.2.2.1, T.2.2.2.2.2)
def zTick (T : zTb) : zTb := (T.1, T.2.1, T.2.2.1, T.2.2.2.1, T.2.2.2.2.1 + 1, T.2.2.2.2.2)
def zPut (T : zTb) (v : Int32) : Int32 × zTb := if zLow T < 24 then (nI (zLow T), zCome (zTick T) (zLow T) v) else (-1, T)
def zTake (T : zTb) (k : Nat) : Bool × zTb := if zSeen T k T.2.2.2.2.1 then (true, zGo (zTick T) k) else (false, T)
def zChg (T : zTb) (k : Nat) (v : Int32) : Int32 × zTb := if zLow T < 24 then (if zSeen T k T.2.2.2.2.1 then (nI (zLow T), zCome (zGo (zTick T) k) (zLow T) v) else (-1, T)) else (-1, T)
def zsw (h : Int32) : Nat → Nat → zTb → Int32 → Bool → zTb × Int32 × Bool
  | 0, _, T, n, b => (T, n, b)
  | f + 1, k, T, n, b => if zOut T k h then zsw h f (k + 1) (zEmp T k) (n + 1) b else if T.1 k = -1 then zsw h f (k + 1) T n b else if zAll T k h then zsw h f (k + 1) T n b else zsw h f (k + 1) T n false
def zswE (r : zTb × Int32 × Bool) (p : Nat) (h : Int32) : Int32 × zTb := (r.2.1, (r.1.1, r.1.2.1, r.1.2.2.1, if r.2.2 then upd r.1.2.2.2.1 p h else r.1.2.2.2.1, r.1.2.2.2.2.1, r.1.2.2.2.2.2 + r.2.1))
def zSweep (T : zTb) (p : Nat) (h : Int32) : Int32 × zTb := zswE (zsw h 4 (p * 4) T 0 true) p h
section ZL
variable {p : Program} {l : Launch} {e : Env} {R : Room} {s : State} {m : MethodId} {args : Array Value} {below : List Frame} {meth : Method} {c : Code} {H : Heap} {locs : List Loc} {cells slots : Nat} {Q : State → Prop} {cc : ByteArray} {pc : Nat} {ls : Array Slot} {rest : List Value}
theorem zNo_c {n : Nat} (k1 : n < 24 → W p l e R s m args below meth c H locs cells slots Q (F0 m pc ls (.int (nI n) :: rest))) (k2 : ¬ n < 24 → W p l e R s m args below meth c H locs cells slots Q (F0 m pc ls (.int (-1) :: rest))) : W p l e R s m args below meth c H locs cells slots Q (F0 m pc ls (.int (zNo n) :: rest)) := by
  unfold zNo
  by_cases h : n < 24
  · rw [if_pos h]; exact k1 h
  · rw [if_neg h]; exact k2 h
theorem z_tabIn (hx : p.tables.exec = Jvm.exec) (hb : c.code = cc) {dflt lo hi : Int} {offs : Array Int} {len : Nat} {x k : Nat} {off : Int} {tgt : Nat} (hk : x = k) (hk2 : k < 2 ^ 31) (hdg : decode cc pc = .ok (.tableswitch dflt lo hi offs, len)) (h1 : ¬ (k : Int) < lo) (h2 : ¬ hi < (k : Int)) (ho : offs[((k : Int) - lo).toNat]? = some off) (ht : (pc : Int) + off = (tgt : Int))
    (kk : W p l e R s m args below meth c H locs cells slots Q (F0 m tgt ls rest)) : W p l e R s m args below meth c H locs cells slots Q (F0 m pc ls (.int (nI x) :: rest)) := by
  subst hk
  refine lv_tableIn hx hb hdg ?_ ?_ ?_ ht kk <;> rw [nI_toInt hk2]
  · exact h1
  · exact h2
  · exact ho
theorem z_tabOut (hx : p.tables.exec = Jvm.exec) (hb : c.code = cc) {dflt lo hi : Int} {offs : Array Int} {len : Nat} {x : Nat} {tgt : Nat} (hk2 : x < 2 ^ 31) (hdg : decode cc pc = .ok (.tableswitch dflt lo hi offs, len)) (h : (x : Int) < lo ∨ hi < (x : Int)) (ht : (pc : Int) + dflt = (tgt : Int))
    (kk : W p l e R s m args below meth c H locs cells slots Q (F0 m tgt ls rest)) : W p l e R s m args below meth c H locs cells slots Q (F0 m pc ls (.int (nI x) :: rest)) :=
  lv_tableOut hx hb hdg (by rw [nI_toInt hk2]; exact h) ht kk
end ZL
