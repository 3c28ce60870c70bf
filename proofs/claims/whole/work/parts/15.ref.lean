/-! What the reference tells and does, as functions of its row s (sf) -/
def rOf (sf : Nat → Int32) (k w : Nat) : Int32 := sf (7 + 3 * k + w)
def rPg (sf : Nat → Int32) (p w : Nat) : Int32 := sf (79 + 2 * p + w)
def rSn (sf : Nat → Int32) (k : Nat) : Int32 := sf (91 + 2 * k + 0) - 1
def rIn (v a b : Int32) : Bool := !decide (v < a) && !decide (b < v)
def rLay (sf : Nat → Int32) (k : Nat) (v c w : Int32) : Nat → Int32 := upd (upd (upd sf (7 + 3 * k + 0) v) (7 + 3 * k + 1) c) (7 + 3 * k + 2) w
def rFull (sf : Nat → Int32) (k : Nat) : Bool := !decide (rOf sf k 0 ≤ 0)
def rSeen (sf : Nat → Int32) (k : Nat) (t : Int32) : Bool := rFull sf k && !decide (t < rOf sf k 1) && (decide (rOf sf k 2 = 0) || !decide (rOf sf k 2 ≤ t))
def rLow (sf : Nat → Int32) : Nat := zfst (fun k => !rFull sf k) 24 0
def rUn (sf : Nat → Int32) (k : Nat) : Nat → Int32 := upd (upd sf (79 + 2 * (k / 4) + 0) 0) (79 + 2 * (k / 4) + 1) 0
def rCome (sf : Nat → Int32) (k : Nat) (v : Int32) : Nat → Int32 := rUn (rLay sf k (v + 1) (sf 0) 0) k
def rGo (sf : Nat → Int32) (k : Nat) : Nat → Int32 := rUn (upd sf (7 + 3 * k + 2) (sf 0)) k
def rTick (sf : Nat → Int32) : Nat → Int32 := upd sf 0 (sf 0 + 1)
def rChg (sf : Nat → Int32) (q k : Nat) (v : Int32) : Nat → Int32 :=
  if q = 43 then rCome (rTick sf) (rLow sf) v else if q = 45 then rGo (rTick sf) k else rCome (rGo (rTick sf) k) (rLow sf) v
def rCan (sf : Nat → Int32) (q : Nat) (x : Int32) (sn : Bool) : Bool := (decide (q = 43) || (rIn x 0 23 && sn)) && (decide (q = 45) || decide (rLow sf < 24))
def rHb (sf : Nat → Int32) (o : Int32) : Int32 := zHw (rSn sf) o (sf 0)
def rOld (sf : Nat → Int32) (k : Nat) (h : Int32) : Bool := rFull sf k && !decide (rOf sf k 2 ≤ 0) && !decide (h < rOf sf k 2)
def rOi (sf : Nat → Int32) (p : Nat) (h : Int32) : Int32 := zcnt (fun k => rOld sf k h) 4 (4 * p) 0
def rswS (sf : Nat → Int32) (k : Nat) (h : Int32) : Nat → Int32 := if rOld sf k h then rLay sf k 0 0 0 else sf
def rswB (sf : Nat → Int32) (k : Nat) (h : Int32) (b : Bool) : Bool := b && (!rFull sf k || (!decide (h < rOf sf k 1) && decide (rOf sf k 2 = 0)))
def rsw (h : Int32) : Nat → Nat → (Nat → Int32) → Bool → (Nat → Int32) × Bool
  | 0, _, sf, b => (sf, b)
  | f + 1, k, sf, b => rsw h f (k + 1) (rswS sf k h) (rswB (rswS sf k h) k h b)
def rswE (r : (Nat → Int32) × Bool) (p : Nat) (h n : Int32) : Nat → Int32 := (fun s => upd s 6 (s 6 + n)) (if r.2 then upd (upd r.1 (79 + 2 * p + 0) 1) (79 + 2 * p + 1) h else r.1)
def rSw (sf : Nat → Int32) (p : Nat) : Int32 × (Nat → Int32) := (rOi sf p (rHb sf (-1)), rswE (rsw (rHb sf (-1)) 4 (4 * p) sf true) p (rHb sf (-1)) (rOi sf p (rHb sf (-1))))
def zsum (F : Nat → Int32) : Nat → Nat → Int32 → Int32
  | 0, _, a => a
  | f + 1, k, a => zsum F f (k + 1) (a + F k)
def rMp (sf : Nat → Int32) : Int32 := zsum (fun p => rPg sf p 0) 6 0 0
def rgm (sf : Nat → Int32) : Nat → Nat → Int32 → Int32
  | 0, _, x => x
  | f + 1, k, x => rgm sf f (k + 1) (if rPg sf k 0 = 1 then (if rPg sf k 1 ≤ x then x else rPg sf k 1) else x)
def rGm (sf : Nat → Int32) : Int32 := rgm sf 6 0 0
def rTru (sf : Nat → Int32) (t : Int32) (w : Nat) : Nat := if w = 2 then (if rGm sf ≤ t then w else 1) else w
theorem rTru_lt {sf : Nat → Int32} {t : Int32} {w : Nat} (h : w < 3) : rTru sf t w < 3 := by unfold rTru; split <;> (try split) <;> omega
def rHv (sf : Nat → Int32) (v : Int32) (k : Nat) : Bool := decide (rOf sf k 0 = v + 1)
def rAns (sf : Nat → Int32) (t v : Int32) (w : Nat) : Int32 := zcnt (fun k => rHv sf v k && (rSeen sf k t || (decide (rTru sf t w = 2) && decide (rPg sf (k / 4) 0 = 1)))) 24 0 0
def rHas (sf : Nat → Int32) (p : Nat) (v : Int32) : Bool := zany (rHv sf v) 4 (4 * p)
def rCost (sf : Nat → Int32) (t v : Int32) (w : Nat) : Int32 := zcnt (fun p => decide (rTru sf t w = 0) || (rHas sf p v && (decide (rTru sf t w = 1) || decide (rPg sf p 0 = 0)))) 6 0 0
def rVs (sf : Nat → Int32) (n i : Nat) (b : Bool) (t : Int32) : Int32 := zcnt (fun k => if b then rSeen sf k t else rFull sf k) n i 0
def rLie (sf : Nat → Int32) (v : Int32) : Int32 := zcnt (fun k => rHv sf v k && !rSeen sf k (sf 0)) 24 0 0
def rLc (sf : Nat → Int32) (v : Int32) : Nat := zlcF (rCost sf (sf 0) v) 2 1 0
def rOo (sf : Nat → Int32) (h : Int32) : Int32 := zsum (fun p => rOi sf p h) 6 0 0
/-- the reference's buffer reader: at, isWell -/
def rDg (g : Nat → Nat) (n i : Nat) (w : Bool) (e : Nat) : Bool := w && !decide (zSg g n i < 48) && !decide (e < zSg g n i)
def rTs (sf : Nat → Int32) (k w : Nat) : Int32 := if w = 0 then rOf sf k 0 - 1 else if w = 1 then (if rFull sf k then rOf sf k 1 else -1) else if w = 2 then (if rFull sf k then rOf sf k 2 else -1) else zb (rSeen sf k (sf 0))
def rTp (sf : Nat → Int32) (p w : Nat) : Int32 := if w = 0 then rPg sf p 0 else if w = 1 then rVs sf 4 (4 * p) false (sf 0) else if w = 2 then rVs sf 4 (4 * p) true (sf 0) else if w = 3 then rOi sf p (rHb sf (-1)) else if rPg sf p 0 = 1 then rPg sf p 1 else -1
def rTa (sf : Nat → Int32) (k w : Nat) : Int32 := if w = 0 then rSn sf k else if w = 1 then (if rSn sf k = -1 then -1 else rVs sf 24 0 true (rSn sf k)) else sf (91 + 2 * k + 1)
def rTc (sf : Nat → Int32) (mm w : Nat) : Int32 := if w = 0 then sf 0 else if w = 1 then rHb sf (-1) else if w = 2 then rVs sf 24 0 false (sf 0) else if w = 3 then rVs sf 24 0 true (sf 0) else if w = 4 then 24 - rVs sf 24 0 false 0 else if w = 5 then rMp sf else if w = 12 then nI mm else sf (1 + w - 6)
def rhn (sf : Nat → Int32) : Nat → Nat → Int32 → Int32 → Int32
  | 0, _, b, _ => b
  | f + 1, k, b, x => if rSn sf k = -1 then (if 0 ≤ x then rhn sf f (k + 1) b x else rhn sf f (k + 1) (nI k) 0)
    else if rOo sf (rHb sf (nI k)) ≤ x then rhn sf f (k + 1) b x else rhn sf f (k + 1) (nI k) (rOo sf (rHb sf (nI k)))
def rHo (sf : Nat → Int32) : Int32 := rhn sf 4 0 (-1) (rOo sf (rHb sf (-1)))
-- saving and restoring
def rSh (sv : Nat → Int32) : Nat → Int32 := fun j => if j < 495 then sv (j + 99) else sv j
def rPu (sf sv : Nat → Int32) (b k : Nat) : Nat → Int32 := fun j => if b ≤ j ∧ j < b + k then sf (j - b) else sv j
def rSv (sf sv : Nat → Int32) (mm : Nat) : Nat → Int32 := if mm = 6 then rPu sf (rSh sv) 495 99 else rPu sf sv (99 * mm) 99
def rSm (mm : Nat) : Nat := if mm = 6 then 6 else mm + 1
def rUd (sf sv : Nat → Int32) (b k : Nat) : Nat → Int32 := fun j => if j < k then sv (b + j) else sf j
theorem rPu_0 (sf sv : Nat → Int32) (b : Nat) : sv = rPu sf sv b 0 := by funext j; unfold rPu; rw [if_neg (by omega)]
theorem rPu_s (sf sv : Nat → Int32) (b k : Nat) : upd (rPu sf sv b k) (b + k) (sf k) = rPu sf sv b (k + 1) := by
  funext j
  unfold upd rPu
  by_cases h : j = b + k
  · rw [if_pos h, if_pos (by omega), h, Nat.add_sub_cancel_left]
  · rw [if_neg h]
    by_cases h2 : b ≤ j ∧ j < b + k
    · rw [if_pos h2, if_pos (by omega)]
    · rw [if_neg h2, if_neg (by omega)]
def rShk (sv : Nat → Int32) (k : Nat) : Nat → Int32 := fun j => if j < k then sv (j + 99) else sv j
theorem rShk_0 (sv : Nat → Int32) : sv = rShk sv 0 := by funext j; unfold rShk; rw [if_neg (by omega)]
theorem rShk_s (sv : Nat → Int32) (k : Nat) : upd (rShk sv k) k (rShk sv k (k + 99)) = rShk sv (k + 1) := by
  funext j
  unfold upd rShk
  by_cases h : j = k
  · rw [if_pos h, if_neg (by omega), if_pos (by omega), h]
  · rw [if_neg h]
    by_cases h2 : j < k
    · rw [if_pos h2, if_pos (by omega)]
    · rw [if_neg h2, if_neg (by omega)]
theorem rUd_0 (sf sv : Nat → Int32) (b : Nat) : sf = rUd sf sv b 0 := by funext j; unfold rUd; rw [if_neg (by omega)]
theorem rUd_s (sf sv : Nat → Int32) (b k : Nat) : upd (rUd sf sv b k) k (sv (b + k)) = rUd sf sv b (k + 1) := by
  funext j
  unfold upd rUd
  by_cases h : j = k
  · rw [if_pos h, if_pos (by omega), h]
  · rw [if_neg h]
    by_cases h2 : j < k
    · rw [if_pos h2, if_pos (by omega)]
    · rw [if_neg h2, if_neg (by omega)]
-- the reader: what is told, at, isWell
def rDw (g : Nat → Nat) (n i : Nat) (w : Bool) (e : Int32) : Bool := w && rIn (nI (zSg g n i)) 48 e
def rDt (g : Nat → Nat) (n i : Nat) (w : Bool) (e : Int32) : Int32 × Nat × Bool := (nI (zSg g n i) - 48, if rDw g n i w e then i + 1 else i, rDw g n i w e)
theorem rDw_in {g : Nat → Nat} {n i : Nat} {w : Bool} {e : Int32} (h : rDw g n i w e = true) : i < n := zSg_in (fun q => by
  unfold rDw at h; rw [q] at h
  have : rIn (nI 0) 48 e = false := by unfold rIn; rw [show decide (nI 0 < 48) = true from by decide]; rfl
  rw [this] at h; simp at h)
theorem rDt_le {g : Nat → Nat} {n i : Nat} {w : Bool} {e : Int32} (h : i ≤ n) : (rDt g n i w e).2.1 ≤ n ∧ i ≤ (rDt g n i w e).2.1 ∧ ((rDt g n i w e).2.2 = true → (rDt g n i w e).2.1 = i + 1 ∧ w = true) := by
  unfold rDt
  by_cases q : rDw g n i w e = true
  · have := rDw_in q
    simp only [q, if_true]
    refine ⟨by omega, by omega, fun _ => ⟨trivial, ?_⟩⟩
    unfold rDw at q
    exact (Bool.and_eq_true_iff.mp q).1
  · have q : rDw g n i w e = false := by simpa using q
    simp only [q, Bool.false_eq_true, if_false]
    exact ⟨h, Nat.le_refl _, fun h => by cases h⟩
def rPr (g : Nat → Nat) (n i : Nat) (w : Bool) : Int32 × Nat × Bool :=
  if (rDt g n i w 57).2.2 then
    if (rDt g n i w 57).1 ≤ 0 then rDt g n i w 57
    else if rIn (nI (zSg g n (rDt g n i w 57).2.1)) 48 57 then
      if 24 ≤ 10 * (rDt g n i w 57).1 + nI (zSg g n (rDt g n i w 57).2.1) - 48 then rDt g n i w 57
      else (10 * (rDt g n i w 57).1 + (rDt g n (rDt g n i w 57).2.1 (rDt g n i w 57).2.2 57).1, (rDt g n (rDt g n i w 57).2.1 (rDt g n i w 57).2.2 57).2.1, (rDt g n (rDt g n i w 57).2.1 (rDt g n i w 57).2.2 57).2.2)
    else rDt g n i w 57
  else rDt g n i w 57
theorem rPr_le {g : Nat → Nat} {n i : Nat} {w : Bool} (h : i ≤ n) : (rPr g n i w).2.1 ≤ n ∧ i ≤ (rPr g n i w).2.1 ∧ ((rPr g n i w).2.2 = true → i + 1 ≤ (rPr g n i w).2.1 ∧ w = true) := by
  obtain ⟨h1, h2, h3⟩ := rDt_le (g := g) (w := w) (e := 57) h
  have base : (rDt g n i w 57).2.1 ≤ n ∧ i ≤ (rDt g n i w 57).2.1 ∧ ((rDt g n i w 57).2.2 = true → i + 1 ≤ (rDt g n i w 57).2.1 ∧ w = true) := ⟨h1, h2, fun q => ⟨by have := (h3 q).1; omega, (h3 q).2⟩⟩
  unfold rPr
  split
  · rename_i q
    split
    · exact base
    · split
      · split
        · exact base
        · obtain ⟨k1, k2, k3⟩ := rDt_le (g := g) (w := (rDt g n i w 57).2.2) (e := 57) h1
          refine ⟨k1, (by show i ≤ (rDt g n (rDt g n i w 57).2.1 (rDt g n i w 57).2.2 57).2.1; omega), fun _ => ⟨?_, (h3 q).2⟩⟩
          have := (h3 q).1
          show i + 1 ≤ (rDt g n (rDt g n i w 57).2.1 (rDt g n i w 57).2.2 57).2.1
          omega
      · exact base
  · exact base
abbrev rSt : Type := Nat × Bool × (Nat → Int32) × Nat
def rEnd (r : Int32 × Nat × Bool) (rd : Nat → Int32) (rm : Nat) : rSt := (r.2.1, r.2.2, rd, if r.2.2 then rm + 1 else rm)
/-- a part: at, isWell, read, readMany -/
def rRc (g : Nat → Nat) (n i : Nat) (w : Bool) (rd : Nat → Int32) (rm : Nat) : rSt :=
  if zSg g n i = 43 then rEnd (rDt g n (i + 1) w 57) (upd (upd (upd rd (3 * rm) (nI (zSg g n i))) (3 * rm + 1) 0) (3 * rm + 2) (rDt g n (i + 1) w 57).1) rm
  else if zSg g n i = 45 then rEnd (rPr g n (i + 1) w) (upd (upd (upd rd (3 * rm) (nI (zSg g n i))) (3 * rm + 1) (rPr g n (i + 1) w).1) (3 * rm + 2) 0) rm
  else if zSg g n i = 126 then rEnd (rDt g n (i + 1) w 53) (upd (upd (upd rd (3 * rm) (nI (zSg g n i))) (3 * rm + 1) (rDt g n (i + 1) w 53).1) (3 * rm + 2) 0) rm
  else if (rPr g n i w).2.2 && decide (zSg g n (rPr g n i w).2.1 = 61) then
    rEnd (rDt g n ((rPr g n i w).2.1 + 1) true 57) (upd (upd (upd rd (3 * rm) 61) (3 * rm + 1) (rPr g n i w).1) (3 * rm + 2) (rDt g n ((rPr g n i w).2.1 + 1) true 57).1) rm
  else rEnd (rDt g n (rPr g n i w).2.1 false 57) (upd (upd (upd rd (3 * rm) 61) (3 * rm + 1) (rPr g n i w).1) (3 * rm + 2) (rDt g n (rPr g n i w).2.1 false 57).1) rm
theorem rRc_le {g : Nat → Nat} {n i : Nat} {w : Bool} {rd : Nat → Int32} {rm : Nat} (h : i ≤ n) : (rRc g n i w rd rm).1 ≤ n ∧ i ≤ (rRc g n i w rd rm).1 ∧ rm ≤ (rRc g n i w rd rm).2.2.2 ∧ (rRc g n i w rd rm).2.2.2 ≤ rm + 1 ∧ ((rRc g n i w rd rm).2.1 = true → i + 2 ≤ (rRc g n i w rd rm).1 ∧ (rRc g n i w rd rm).2.2.2 = rm + 1) := by
  have key : ∀ (r : Int32 × Nat × Bool) (rd' : Nat → Int32), r.2.1 ≤ n → i ≤ r.2.1 → (r.2.2 = true → i + 2 ≤ r.2.1) → (rEnd r rd' rm).1 ≤ n ∧ i ≤ (rEnd r rd' rm).1 ∧ rm ≤ (rEnd r rd' rm).2.2.2 ∧ (rEnd r rd' rm).2.2.2 ≤ rm + 1 ∧ ((rEnd r rd' rm).2.1 = true → i + 2 ≤ (rEnd r rd' rm).1 ∧ (rEnd r rd' rm).2.2.2 = rm + 1) := by
    intro r rd' h1 h2 h3
    unfold rEnd
    refine ⟨h1, h2, ?_, ?_, fun q => ⟨h3 q, ?_⟩⟩
    · show rm ≤ if r.2.2 = true then rm + 1 else rm
      split <;> omega
    · show (if r.2.2 = true then rm + 1 else rm) ≤ rm + 1
      split <;> omega
    · show (if r.2.2 = true then rm + 1 else rm) = rm + 1
      rw [if_pos q]
  unfold rRc
  split
  · rename_i e; have hi := zSg_in (g := g) (n := n) (i := i) (by omega)
    obtain ⟨k1, k2, k3⟩ := rDt_le (g := g) (w := w) (e := 57) (show i + 1 ≤ n by omega)
    exact key _ _ k1 (by omega) (fun q => by have := (k3 q).1; omega)
  · split
    · rename_i e; have hi := zSg_in (g := g) (n := n) (i := i) (by omega)
      obtain ⟨k1, k2, k3⟩ := rPr_le (g := g) (w := w) (show i + 1 ≤ n by omega)
      exact key _ _ k1 (by omega) (fun q => by have := (k3 q).1; omega)
    · split
      · rename_i e; have hi := zSg_in (g := g) (n := n) (i := i) (by omega)
        obtain ⟨k1, k2, k3⟩ := rDt_le (g := g) (w := w) (e := 53) (show i + 1 ≤ n by omega)
        exact key _ _ k1 (by omega) (fun q => by have := (k3 q).1; omega)
      · obtain ⟨k1, k2, k3⟩ := rPr_le (g := g) (w := w) h
        split
        · rename_i e
          rw [Bool.and_eq_true_iff] at e
          have e2 : zSg g n (rPr g n i w).2.1 = 61 := by simpa using e.2
          have hi := zSg_in (g := g) (n := n) (i := (rPr g n i w).2.1) (by omega)
          obtain ⟨m1, m2, m3⟩ := rDt_le (g := g) (w := true) (e := 57) (show (rPr g n i w).2.1 + 1 ≤ n by omega)
          have := (k3 e.1).1
          exact key _ _ m1 (by omega) (fun q => by omega)
        · obtain ⟨m1, m2, m3⟩ := rDt_le (g := g) (w := false) (e := 57) k1
          exact key _ _ m1 (by omega) (fun q => by cases (m3 q).2)
def rrF (g : Nat → Nat) (n : Nat) : Nat → rSt → rSt
  | 0, X => X
  | f + 1, X => if X.2.1 && decide (X.1 < n) then (if zSg g n X.1 = 44 then rrF g n f (rRc g n (X.1 + 1) true X.2.2.1 X.2.2.2) else rrF g n f (X.1, false, X.2.2.1, X.2.2.2)) else X
def rRa (g : Nat → Nat) (n : Nat) (rd : Nat → Int32) : rSt := rrF g n 62 (rRc g n 0 true rd 0)
def rMk (sf : Nat → Int32) (q k d : Nat) : Bool × (Nat → Int32) :=
  if q = 126 then (true, (rSw sf k).2) else if rCan sf q (nI k) (rSeen sf k (sf 0)) then (true, rChg sf q k (nI d)) else (false, sf)
def rPlF (qf pf df : Nat → Nat) : Nat → Nat → (Nat → Int32) → Nat × (Nat → Int32)
  | 0, k, sf => (k, sf)
  | f + 1, k, sf => if (rMk sf (qf k) (pf k) (df k)).1 then rPlF qf pf df f (k + 1) (rMk sf (qf k) (pf k) (df k)).2 else (k, (rMk sf (qf k) (pf k) (df k)).2)
def rSwA : Nat → Nat → (Nat → Int32) → (Nat → Int32)
  | 0, _, sf => sf
  | f + 1, k, sf => rSwA f (k + 1) (rSw sf k).2
def rAsk (sf : Nat → Int32) (k : Nat) (v : Int32) (w : Nat) : Nat → Int32 :=
  (fun s1 => (fun s2 => (fun s3 => upd s3 (91 + 2 * k + 1) (s3 (91 + 2 * k + 1) + 1)) (upd s2 5 (s2 5 + rCost s2 (rSn sf k) v w))) (upd s1 4 (if rTru s1 (rSn sf k) w = w then s1 4 else s1 4 + 1))) (upd sf (1 + w) (sf (1 + w) + 1))
theorem rIn_t {k a b : Nat} (h : a ≤ k) (h2 : k ≤ b) (hb : b < 2 ^ 31) : rIn (nI k) (nI a) (nI b) = true := by
  have h1 : ¬ nI k < nI a := nI_nlt h (by omega)
  have h3 : ¬ nI b < nI k := nI_nlt h2 (by omega)
  simp [rIn, h1, h3]
theorem rCan_lo {sf : Nat → Int32} {q : Nat} {x : Int32} {b : Bool} (h : rCan sf q x b = true) (hq : q ≠ 45) : rLow sf < 24 := by
  unfold rCan at h
  have h2 := (Bool.and_eq_true_iff.mp h).2
  simpa [hq] using h2
theorem rRa_le {g : Nat → Nat} {n : Nat} {rd : Nat → Int32} : (rRa g n rd).1 ≤ n := by
  have key : ∀ (f : Nat) (X : rSt), X.1 ≤ n → (rrF g n f X).1 ≤ n := by
    intro f
    induction f with
    | zero => intro X h; exact h
    | succ f ih =>
      intro X h
      unfold rrF
      split
      · rename_i e
        have e2 : X.1 < n := by
          have := (Bool.and_eq_true_iff.mp e).2
          simpa using this
        split
        · exact ih _ (rRc_le (by omega)).1
        · exact ih _ h
      · exact h
  exact key _ _ (rRc_le (Nat.zero_le n)).1
