/-! what SeenPages' own helpers tell and do, as functions -/
def zSl (T : zTb) (k w : Nat) : Int32 := if w = 0 then T.1 k else if w = 1 then T.2.1 k else if w = 2 then T.2.2.1 k else zb (zSeen T k T.2.2.2.2.1)
def zPg (Z : zSt) (p w : Nat) : Int32 := if w = 0 then zb (zMk Z.1 p) else if w = 1 then zVs Z.1 4 (p * 4) else if w = 2 then zVn Z.1 4 (p * 4) Z.1.2.2.2.2.1 else if w = 3 then zVo Z.1 4 (p * 4) (zHor Z) else Z.1.2.2.2.1 p
def zAs (Z : zSt) (k w : Nat) : Int32 := if w = 0 then Z.2.1.1 k else if w = 1 then (if Z.2.1.1 k = -1 then -1 else zVn Z.1 24 0 (Z.2.1.1 k)) else Z.2.1.2 k
def zCo (Z : zSt) (sz w : Nat) : Int32 := if w = 0 then Z.1.2.2.2.2.1 else if w = 1 then zHor Z else if w = 2 then zVs Z.1 24 0 else if w = 3 then zVn Z.1 24 0 Z.1.2.2.2.2.1 else if w = 4 then 24 - zVs Z.1 24 0 else if w = 5 then zMp Z.1 else if w = 6 then Z.2.2.1 0 else if w = 7 then Z.2.2.1 1 else if w = 8 then Z.2.2.1 2 else if w = 9 then Z.2.2.2.1 else if w = 10 then Z.2.2.2.2 else if w = 11 then Z.1.2.2.2.2.2 else nI sz
def zhn (Z : zSt) : Nat → Nat → Int32 → Int32 → Int32
  | 0, _, b, _ => b
  | f + 1, k, b, x => if zVo Z.1 24 0 (zHw Z.2.1.1 (nI k) Z.1.2.2.2.2.1) ≤ x then zhn Z f (k + 1) b x else zhn Z f (k + 1) (nI k) (zVo Z.1 24 0 (zHw Z.2.1.1 (nI k) Z.1.2.2.2.2.1))
def zHo (Z : zSt) : Int32 := zhn Z 4 0 (-1) (zVo Z.1 24 0 (zHor Z))
def zfold2 (F : Nat → Nat → Int64) (n : Nat) : Nat → Nat → Int64 → Int64
  | 0, _, h => h
  | f + 1, k, h => zfold2 F n f (k + 1) (zfold (F k) n 0 h)
def zMx1 (Z : zSt) (h : Int64) : Int64 := zfold2 (fun k w => (zSl Z.1 k w).toInt64) 4 24 0 h
def zMx2 (Z : zSt) (h : Int64) : Int64 := zfold2 (fun k w => (zPg Z k w).toInt64) 5 6 0 (zMx1 Z h)
def zMx3 (Z : zSt) (h : Int64) : Int64 := zfold2 (fun k w => (zAs Z k w).toInt64) 3 4 0 (zMx2 Z h)
def zHv3 (T : zTb) (v : Int32) : Nat → Nat → Int64 → Int64
  | 0, _, h => h
  | f + 1, k, h => zHv3 T v f (k + 1) (zMix (zMix h (zAns T T.2.2.2.2.1 v k).toInt64) (zCost T T.2.2.2.2.1 v k).toInt64)
def zHval (T : zTb) (v : Int32) (h : Int64) : Int64 := zMix (zMix (zHv3 T v 3 0 h) (zWr T v).toInt64) (nI (zLc T v)).toInt64
def zHvals (T : zTb) : Nat → Nat → Int64 → Int64
  | 0, _, h => h
  | f + 1, k, h => zHvals T f (k + 1) (zHval T (nI k) h)
def zE1 (Z : zSt) (sz : Nat) : Int64 := zfold (fun w => (zCo Z sz w).toInt64) 13 0 3467
def zE3 (Z : zSt) (sz : Nat) : Int64 := zHvals Z.1 10 0 (zMx3 Z (zE1 Z sz))
def zE6 (Z : zSt) (sz n : Nat) : Int64 := zMix (zMix (zMix (zE3 Z sz) (zHo Z).toInt64) (zSh (zMp Z.1)).toInt64) (nI n).toInt64
def zDig (Z : zSt) (sz : Nat) (g : Nat → Nat) (n : Nat) : Int64 := zfold (fun k => (nI (zSg g n k)).toInt64) n 0 (zE6 Z sz n)
theorem zRd_dg {g : Nat → Nat} {n i dg e : Nat} (he : e ≤ 10) (h : dg < 10) : (zRd g n i dg e).2.2 < 10 := by
  unfold zRd
  split
  · split
    · show zDh g n i < 10; omega
    · exact h
  · exact h
theorem zRd_e {g : Nat → Nat} {n i dg e : Nat} (h : (zRd g n i dg e).1 = true) : (zRd g n i dg e).2.2 < e := by
  unfold zRd at h ⊢
  split at h
  · split at h
    · rename_i h1 h2; rw [if_pos h1, if_pos h2]; exact h2
    · exact absurd h Bool.false_ne_true
  · exact absurd h Bool.false_ne_true
theorem zRp_pl {g : Nat → Nat} {n i pl : Nat} (h : pl < 24) : (zRp g n i pl).2.2 < 24 := by
  unfold zRp
  split
  · split
    · show zDh g n i < 24; omega
    · split
      · split
        · show zDh g n i < 24; omega
        · show 10 * zDh g n i + zDh g n (i + 1) < 24; omega
      · show zDh g n i < 24; omega
  · exact h
theorem zRb_ok {g : Nat → Nat} {n i q pl dg : Nat} (hp : pl < 24) (hd : dg < 10) : (zRb g n i q pl dg).2.2.2.1 < 24 ∧ (zRb g n i q pl dg).2.2.2.2 < 10 := by
  unfold zRb
  split
  · exact ⟨hp, zRd_dg (by decide) hd⟩
  · split
    · exact ⟨zRp_pl hp, hd⟩
    · split
      · exact ⟨hp, zRd_dg (by decide) hd⟩
      · split
        · split
          · exact ⟨zRp_pl hp, zRd_dg (by decide) hd⟩
          · exact ⟨zRp_pl hp, hd⟩
        · exact ⟨zRp_pl hp, hd⟩
theorem zRb_q {g : Nat → Nat} {n i q pl dg : Nat} (h : (zRb g n i q pl dg).1 = true) : (zRb g n i q pl dg).2.2.1 = 43 ∨ (zRb g n i q pl dg).2.2.1 = 45 ∨ (zRb g n i q pl dg).2.2.1 = 61 ∨ ((zRb g n i q pl dg).2.2.1 = 126 ∧ (zRb g n i q pl dg).2.2.2.2 < 6) := by
  unfold zRb at h ⊢
  split
  · exact .inl rfl
  · split
    · exact .inr (.inl rfl)
    · rename_i h1 h2
      rw [if_neg h1, if_neg h2] at h
      split
      · rename_i h3
        rw [if_pos h3] at h
        exact .inr (.inr (.inr ⟨rfl, zRd_e h⟩))
      · split
        · split
          · exact .inr (.inr (.inl rfl))
          · exact .inr (.inr (.inl rfl))
        · exact .inr (.inr (.inl rfl))
theorem zRn_ok {g : Nat → Nat} {n i q pl dg : Nat} (hp : pl < 24) (hd : dg < 10) : (zRn g n i q pl dg).2.2.2.1 < 24 ∧ (zRn g n i q pl dg).2.2.2.2 < 10 := by
  unfold zRn
  split
  · exact zRb_ok hp hd
  · split
    · exact zRb_ok hp hd
    · exact ⟨hp, hd⟩
theorem zRn_q {g : Nat → Nat} {n i q pl dg : Nat} (h : (zRn g n i q pl dg).1 = true) : (zRn g n i q pl dg).2.2.1 = 43 ∨ (zRn g n i q pl dg).2.2.1 = 45 ∨ (zRn g n i q pl dg).2.2.1 = 61 ∨ ((zRn g n i q pl dg).2.2.1 = 126 ∧ (zRn g n i q pl dg).2.2.2.2 < 6) := by
  unfold zRn at h ⊢
  split
  · rename_i h1; rw [if_pos h1] at h; exact zRb_q h
  · rename_i h1; rw [if_neg h1] at h
    split
    · rename_i h2; rw [if_pos h2] at h; exact zRb_q h
    · rename_i h2; rw [if_neg h2] at h; exact absurd h Bool.false_ne_true
/-- the parts made: how many, the state, the reader -/
def zmpF (g : Nat → Nat) (n : Nat) : Nat → Int32 → zSt → zRt → Int32 × zSt × zRt
  | 0, c, Z, X => (c, Z, X)
  | f + 1, c, Z, X =>
    if (zRn g n X.1 X.2.1 X.2.2.1 X.2.2.2).1 then
      if (zMake Z (zRn g n X.1 X.2.1 X.2.2.1 X.2.2.2).2.2.1 (zRn g n X.1 X.2.1 X.2.2.1 X.2.2.2).2.2.2.1 (zRn g n X.1 X.2.1 X.2.2.1 X.2.2.2).2.2.2.2).1 then
        zmpF g n f (c + 1) (zMake Z (zRn g n X.1 X.2.1 X.2.2.1 X.2.2.2).2.2.1 (zRn g n X.1 X.2.1 X.2.2.1 X.2.2.2).2.2.2.1 (zRn g n X.1 X.2.1 X.2.2.1 X.2.2.2).2.2.2.2).2 (zRn g n X.1 X.2.1 X.2.2.1 X.2.2.2).2
      else (c, (zMake Z (zRn g n X.1 X.2.1 X.2.2.1 X.2.2.2).2.2.1 (zRn g n X.1 X.2.1 X.2.2.1 X.2.2.2).2.2.2.1 (zRn g n X.1 X.2.1 X.2.2.1 X.2.2.2).2.2.2.2).2, (zRn g n X.1 X.2.1 X.2.2.1 X.2.2.2).2)
    else (c, Z, (zRn g n X.1 X.2.1 X.2.2.1 X.2.2.2).2)
def zPl (g : Nat → Nat) (n q pl dg : Nat) (Z : zSt) : Int32 × zSt × zRt := zmpF g n 60 0 Z (0, q, pl, dg)
def zSwA (h : Int32) : Nat → Nat → zTb → zTb
  | 0, _, T => T
  | f + 1, k, T => zSwA h f (k + 1) (zSweep T k h).2
theorem zSgle {g : Nat → Nat} {n i : Nat} (h : ∀ k, g k < 128) : zSg g n i < 128 := zSg_lt h
def zSz (sz : Nat) : Nat := if sz < 6 then sz + 1 else sz
def zOu (v u : Int32) : Bool := decide (v < 0) || !decide (v < u)
theorem zOu_n {k u : Nat} (h : k < u) (hu : u < 2 ^ 31) : zOu (nI k) (nI u) = false := by
  have h1 : ¬ nI k < 0 := nI_pos (by omega)
  have h2 : nI k < nI u := nI_lt h (by omega)
  simp [zOu, h1, h2]
theorem zRa_ok {g : Nat → Nat} {n q pl dg : Nat} (hp : pl < 24) (hd : dg < 10) : (zRa g n q pl dg).2.1 ≤ n ∧ (zRa g n q pl dg).2.2.2.1 < 24 ∧ (zRa g n q pl dg).2.2.2.2 < 10 := by
  have key : ∀ (f : Nat) (w : Bool) (X : zRt), X.1 ≤ n → X.2.2.1 < 24 → X.2.2.2 < 10 → (zraF g n f w X).2.1 ≤ n ∧ (zraF g n f w X).2.2.2.1 < 24 ∧ (zraF g n f w X).2.2.2.2 < 10 := by
    intro f
    induction f with
    | zero => intro w X a b c; exact ⟨a, b, c⟩
    | succ f ih =>
      intro w X a b c
      unfold zraF
      split
      · split
        · exact ⟨a, b, c⟩
        · have h := zRn_ok (g := g) (n := n) (i := X.1) (q := X.2.1) b c
          exact ih _ _ (zRn_le a) h.1 h.2
      · exact ⟨a, b, c⟩
  have h := zRn_ok (g := g) (n := n) (i := 0) (q := q) hp hd
  exact key _ _ _ (zRn_le (Nat.zero_le n)) h.1 h.2
theorem zPl_ok {g : Nat → Nat} {n q pl dg : Nat} {Z : zSt} (hp : pl < 24) (hd : dg < 10) : (zPl g n q pl dg Z).2.2.1 ≤ n ∧ (zPl g n q pl dg Z).2.2.2.2.1 < 24 ∧ (zPl g n q pl dg Z).2.2.2.2.2 < 10 := by
  have key : ∀ (f : Nat) (c : Int32) (Z : zSt) (X : zRt), X.1 ≤ n → X.2.2.1 < 24 → X.2.2.2 < 10 → (zmpF g n f c Z X).2.2.1 ≤ n ∧ (zmpF g n f c Z X).2.2.2.2.1 < 24 ∧ (zmpF g n f c Z X).2.2.2.2.2 < 10 := by
    intro f
    induction f with
    | zero => intro c Z X a b d; exact ⟨a, b, d⟩
    | succ f ih =>
      intro c Z X a b d
      have h := zRn_ok (g := g) (n := n) (i := X.1) (q := X.2.1) b d
      have h2 := zRn_le (g := g) (n := n) (i := X.1) (q := X.2.1) (pl := X.2.2.1) (dg := X.2.2.2) a
      unfold zmpF
      split
      · split
        · exact ih _ _ _ h2 h.1 h.2
        · exact ⟨h2, h.1, h.2⟩
      · exact ⟨h2, h.1, h.2⟩
  exact key _ _ _ _ (Nat.zero_le n) hp hd
