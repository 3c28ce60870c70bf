/-! What the reference tells and does, as functions of its row s (sf) -/
def rOf (sf : Nat → Int32) (k w : Nat) : Int32 := sf (7 + 3 * k + w)
def rPg (sf : Nat → Int32) (p w : Nat) : Int32 := sf (79 + 2 * p + w)
def rSn (sf : Nat → Int32) (k : Nat) : Int32 := sf (91 + 2 * k + 0) - 1
def rIn (v a b : Int32) : Bool := !decide (v < a) && !decide (b < v)
def rLay (sf : Nat → Int32) (k : Nat) (v c w : Int32) : Nat → Int32 := upd (upd (upd sf (7 + 3 * k + 0) v) (7 + 3 * k + 1) c) (7 + 3 * k + 2) w
def rFull (sf : Nat → Int32) (k : Nat) : Bool := !decide (rOf sf k 0 ≤ 0)
def rSeen (sf : Nat → Int32) (k : Nat) (t : Int32) : Bool := rFull sf k && !decide (t < rOf sf k 1) && (decide (rOf sf k 2 = 0) || !decide (rOf sf k 2 ≤ t))
def rLow (sf : Nat → Int32) : Nat := zfst (fun k => !rFull sf k) 24 0
def rUn (sf : Nat → Int32) (k : Nat) : Nat → Int32 := upd (upd sf (79 + 2 * (k / 4) + 0) 0) (79 + 2 * (k / 4) + 1) 0
def rCome (sf : Nat → Int32) (k : Nat) (v : Int32) : Nat → Int32 := rUn (rLay sf k (v + 1) (sf 0) 0) k
def rGo (sf : Nat → Int32) (k : Nat) : Nat → Int32 := rUn (upd sf (7 + 3 * k + 2) (sf 0)) k
def rTick (sf : Nat → Int32) : Nat → Int32 := upd sf 0 (sf 0 + 1)
def rChg (sf : Nat → Int32) (q k : Nat) (v : Int32) : Nat → Int32 :=
  if q = 43 then rCome (rTick sf) (rLow sf) v else if q = 45 then rGo (rTick sf) k else rCome (rGo (rTick sf) k) (rLow sf) v
def rCan (sf : Nat → Int32) (q : Nat) (x : Int32) (sn : Bool) : Bool := (decide (q = 43) || (rIn x 0 23 && sn)) && (decide (q = 45) || decide (rLow sf < 24))
def rHb (sf : Nat → Int32) (o : Int32) : Int32 := zHw (rSn sf) o (sf 0)
def rOld (sf : Nat → Int32) (k : Nat) (h : Int32) : Bool := rFull sf k && !decide (rOf sf k 2 ≤ 0) && !decide (h < rOf sf k 2)
def rOi (sf : Nat → Int32) (p : Nat) (h : Int32) : Int32 := zcnt (fun k => rOld sf k h) 4 (4 * p) 0
def rswS (sf : Nat → Int32) (k : Nat) (h : Int32) : Nat → Int32 := if rOld sf k h then rLay sf k 0 0 0 else sf
def rswB (sf : Nat → Int32) (k : Nat) (h : Int32) (b : Bool) : Bool := b && (!rFull sf k || (!decide (h < rOf sf k 1) && decide (rOf sf k 2 = 0)))
def rsw (h : Int32) : Nat → Nat → (Nat → Int32) → Bool → (Nat → Int32) × Bool
  | 0, _, sf, b => (sf, b)
  | f + 1, k, sf, b => rsw h f (k + 1) (rswS sf k h) (rswB (rswS sf k h) k h b)
def rswE (r : (Nat → Int32) × Bool) (p : Nat) (h n : Int32) : Nat → Int32 := (fun s => upd s 6 (s 6 + n)) (if r.2 then upd (upd r.1 (79 + 2 * p + 0) 1) (79 + 2 * p + 1) h else r.1)
def rSw (sf : Nat → Int32) (p : Nat) : Int32 × (Nat → Int32) := (rOi sf p (rHb sf (-1)), rswE (rsw (rHb sf (-1)) 4 (4 * p) sf true) p (rHb sf (-1)) (rOi sf p (rHb sf (-1))))
def zsum (F : Nat → Int32) : Nat → Nat → Int32 → Int32
  | 0, _, a => a
  | f + 1, k, a => zsum F f (k + 1) (a + F k)
def rMp (sf : Nat → Int32) : Int32 := zsum (fun p => rPg sf p 0) 6 0 0
def rgm (sf : Nat → Int32) : Nat → Nat → Int32 → Int32
  | 0, _, x => x
  | f + 1, k, x => rgm sf f (k + 1) (if rPg sf k 0 = 1 then (if rPg sf k 1 ≤ x then x else rPg sf k 1) else x)
def rGm (sf : Nat → Int32) : Int32 := rgm sf 6 0 0
def rTru (sf : Nat → Int32) (t : Int32) (w : Nat) : Nat := if w = 2 then (if rGm sf ≤ t then w else 1) else w
theorem rTru_lt {sf : Nat → Int32} {t : Int32} {w : Nat} (h : w < 3) : rTru sf t w < 3 := by unfold rTru; split <;> (try split) <;> omega
def rHv (sf : Nat → Int32) (v : Int32) (k : Nat) : Bool := decide (rOf sf k 0 = v + 1)
def rAns (sf : Nat → Int32) (t v : Int32) (w : Nat) : Int32 := zcnt (fun k => rHv sf v k && (rSeen sf k t || (decide (rTru sf t w = 2) && decide (rPg sf (k / 4) 0 = 1)))) 24 0 0
def rHas (sf : Nat → Int32) (p : Nat) (v : Int32) : Bool := zany (rHv sf v) 4 (4 * p)
def rCost (sf : Nat → Int32) (t v : Int32) (w : Nat) : Int32 := zcnt (fun p => decide (rTru sf t w = 0) || (rHas sf p v && (decide (rTru sf t w = 1) || decide (rPg sf p 0 = 0)))) 6 0 0
def rVs (sf : Nat → Int32) (n i : Nat) (b : Bool) (t : Int32) : Int32 := zcnt (fun k => if b then rSeen sf k t else rFull sf k) n i 0
def rLie (sf : Nat → Int32) (v : Int32) : Int32 := zcnt (fun k => rHv sf v k && !rSeen sf k (sf 0)) 24 0 0
def rLc (sf : Nat → Int32) (v : Int32) : Nat := zlcF (rCost sf (sf 0) v) 2 1 0
def rOo (sf : Nat → Int32) (h : Int32) : Int32 := zsum (fun p => rOi sf p h) 6 0 0
/-- the reference's buffer reader: at, isWell -/
def rDg (g : Nat → Nat) (n i : Nat) (w : Bool) (e : Nat) : Bool := w && !decide (zSg g n i < 48) && !decide (e < zSg g n i)
def rTs (sf : Nat → Int32) (k w : Nat) : Int32 := if w = 0 then rOf sf k 0 - 1 else if w = 1 then (if rFull sf k then rOf sf k 1 else -1) else if w = 2 then (if rFull sf k then rOf sf k 2 else -1) else zb (rSeen sf k (sf 0))
def rTp (sf : Nat → Int32) (p w : Nat) : Int32 := if w = 0 then rPg sf p 0 else if w = 1 then rVs sf 4 (4 * p) false (sf 0) else if w = 2 then rVs sf 4 (4 * p) true (sf 0) else if w = 3 then rOi sf p (rHb sf (-1)) else if rPg sf p 0 = 1 then rPg sf p 1 else -1
def rTa (sf : Nat → Int32) (k w : Nat) : Int32 := if w = 0 then rSn sf k else if w = 1 then (if rSn sf k = -1 then -1 else rVs sf 24 0 true (rSn sf k)) else sf (91 + 2 * k + 1)
def rTc (sf : Nat → Int32) (mm w : Nat) : Int32 := if w = 0 then sf 0 else if w = 1 then rHb sf (-1) else if w = 2 then rVs sf 24 0 false (sf 0) else if w = 3 then rVs sf 24 0 true (sf 0) else if w = 4 then 24 - rVs sf 24 0 false 0 else if w = 5 then rMp sf else if w = 12 then nI mm else sf (1 + w - 6)
def rhn (sf : Nat → Int32) : Nat → Nat → Int32 → Int32 → Int32
  | 0, _, b, _ => b
  | f + 1, k, b, x => if rSn sf k = -1 then (if 0 ≤ x then rhn sf f (k + 1) b x else rhn sf f (k + 1) (nI k) 0)
    else if rOo sf (rHb sf (nI k)) ≤ x then rhn sf f (k + 1) b x else rhn sf f (k + 1) (nI k) (rOo sf (rHb sf (nI k)))
def rHo (sf : Nat → Int32) : Int32 := rhn sf 4 0 (-1) (rOo sf (rHb sf (-1)))
