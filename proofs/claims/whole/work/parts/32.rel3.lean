/-! the relation is kept by what both do -/
def zIS (Z : zSt) (B : Nat) : Prop := zVal Z.1 ∧ zBy Z.1 ∧ (∃ c, c ≤ B ∧ Z.1.2.2.2.2.1 = nI c) ∧ (∀ a, a < 4 → Z.2.1.1 a = -1 ∨ ∃ m, m ≤ B ∧ Z.2.1.1 a = nI m)
theorem zIS.mono {Z : zSt} {B C : Nat} (h : zIS Z B) (hBC : B ≤ C) : zIS Z C := by
  obtain ⟨h1, h2, ⟨c, h3, h4⟩, h5⟩ := h
  exact ⟨h1, h2, ⟨c, Nat.le_trans h3 hBC, h4⟩, fun a ha => (h5 a ha).imp id (fun ⟨m, x, y⟩ => ⟨m, Nat.le_trans x hBC, y⟩)⟩
theorem u_eq {α : Type} {f : Nat → α} {i j : Nat} {x : α} (h : j = i) : (fun q => if q = i then x else f q) j = x := if_pos h
theorem upd_e {f : Nat → Int32} {i j : Nat} {x : Int32} (h : j = i) : upd f i x j = x := by unfold upd; exact if_pos h
theorem upd_n {f : Nat → Int32} {i j : Nat} {x : Int32} (h : ¬ j = i) : upd f i x j = f j := by unfold upd; exact if_neg h
section KEEP
variable {T : zTb} {sf : Nat → Int32}
theorem rt_tick (hR : zRT T sf) : zRT (zTick T) (rTick sf) := by
  unfold rTick
  refine ⟨fun k hk => ?_, fun p hp => ?_, ?_, ?_⟩
  · rw [upd_n (by omega), upd_n (by omega), upd_n (by omega)]; exact hR.1 k hk
  · rw [upd_n (by omega), upd_n (by omega)]; exact hR.2.1 p hp
  · rw [upd_e rfl, hR.2.2.1]; rfl
  · rw [upd_n (by omega)]; exact hR.2.2.2
theorem rt_come (hR : zRT T sf) {k d : Nat} (hk : k < 24) (hd : d < 10) : zRT (zCome T k (nI d)) (rCome sf k (nI d)) := by
  unfold rCome rUn rLay
  refine ⟨fun j hj => ?_, fun p hp => ?_, ?_, ?_⟩
  · rw [upd_n (by omega), upd_n (by omega), upd_n (show ¬ 7 + 3 * j + 1 = _ by omega), upd_n (show ¬ 7 + 3 * j + 1 = _ by omega), upd_n (show ¬ 7 + 3 * j + 2 = _ by omega), upd_n (show ¬ 7 + 3 * j + 2 = _ by omega)]
    by_cases h : j = k
    · subst h
      rw [upd_n (by omega), upd_n (by omega), upd_e rfl, upd_n (by omega), upd_e rfl, upd_e rfl]
      refine ⟨by show nI d + 1 = upd T.1 j (nI d) j + 1; rw [upd_e rfl], fun e => absurd (show nI d = -1 by have : upd T.1 j (nI d) j = -1 := e; rw [upd_e rfl] at this; exact this) (nI_nem1 (by omega)), fun _ => ⟨?_, ?_⟩⟩
      · show sf 0 = upd T.2.1 j T.2.2.2.2.1 j; rw [upd_e rfl, hR.2.2.1]
      · show (0 : Int32) = upd T.2.2.1 j 0 j; rw [upd_e rfl]
    · repeat (first | rw [upd_n (by omega)] | rw [upd_e (by omega)])
      show sf (7 + 3 * j + 0) = upd T.1 k (nI d) j + 1 ∧ (upd T.1 k (nI d) j = -1 → _) ∧ (¬ upd T.1 k (nI d) j = -1 → sf (7 + 3 * j + 1) = upd T.2.1 k _ j ∧ sf (7 + 3 * j + 2) = upd T.2.2.1 k 0 j)
      rw [upd_n h, upd_n h, upd_n h]
      exact hR.1 j hj
  · show (upd T.2.2.2.1 (k / 4) (-1) p = -1 → _) ∧ (¬ upd T.2.2.2.1 (k / 4) (-1) p = -1 → _ ∧ _ = upd T.2.2.2.1 (k / 4) (-1) p)
    by_cases h : p = k / 4
    · subst h
      rw [upd_n (show ¬ 79 + 2 * (k / 4) + 0 = 79 + 2 * (k / 4) + 1 by omega), upd_e rfl, upd_e rfl, upd_e rfl]
      exact ⟨fun _ => ⟨rfl, rfl⟩, fun e => absurd rfl e⟩
    · repeat (first | rw [upd_n (by omega)] | rw [upd_e (by omega)])
      exact hR.2.1 p hp
  · rw [upd_n (by omega), upd_n (by omega), upd_n (by omega), upd_n (by omega), upd_n (by omega)]; exact hR.2.2.1
  · rw [upd_n (by omega), upd_n (by omega), upd_n (by omega), upd_n (by omega), upd_n (by omega)]; exact hR.2.2.2
theorem rt_go (hR : zRT T sf) {k : Nat} (hk : k < 24) (hf : ¬ T.1 k = -1) : zRT (zGo T k) (rGo sf k) := by
  unfold rGo rUn
  refine ⟨fun j hj => ?_, fun p hp => ?_, ?_, ?_⟩
  · rw [upd_n (by omega), upd_n (by omega), upd_n (by omega), upd_n (show ¬ 7 + 3 * j + 1 = _ by omega), upd_n (show ¬ 7 + 3 * j + 1 = _ by omega), upd_n (show ¬ 7 + 3 * j + 1 = _ by omega), upd_n (show ¬ 7 + 3 * j + 2 = 79 + _ + 1 by omega), upd_n (show ¬ 7 + 3 * j + 2 = 79 + _ + 0 by omega)]
    refine ⟨(hR.1 j hj).1, fun e => ?_, fun e => ?_⟩
    · have hjk : ¬ j = k := fun q => hf (q ▸ e)
      rw [upd_n (by omega)]
      exact (hR.1 j hj).2.1 e
    · refine ⟨((hR.1 j hj).2.2 e).1, ?_⟩
      show _ = upd T.2.2.1 k T.2.2.2.2.1 j
      by_cases h : j = k
      · subst h; rw [upd_e rfl, upd_e rfl, hR.2.2.1]
      · rw [upd_n (by omega), upd_n h]; exact ((hR.1 j hj).2.2 e).2
  · show (upd T.2.2.2.1 (k / 4) (-1) p = -1 → _) ∧ (¬ upd T.2.2.2.1 (k / 4) (-1) p = -1 → _ ∧ _ = upd T.2.2.2.1 (k / 4) (-1) p)
    by_cases h : p = k / 4
    · subst h
      rw [upd_n (show ¬ 79 + 2 * (k / 4) + 0 = 79 + 2 * (k / 4) + 1 by omega), upd_e rfl, upd_e rfl, upd_e rfl]
      exact ⟨fun _ => ⟨rfl, rfl⟩, fun e => absurd rfl e⟩
    · repeat (first | rw [upd_n (by omega)] | rw [upd_e (by omega)])
      exact hR.2.1 p hp
  · rw [upd_n (by omega), upd_n (by omega), upd_n (by omega)]; exact hR.2.2.1
  · rw [upd_n (by omega), upd_n (by omega), upd_n (by omega)]; exact hR.2.2.2
theorem zVal_come (hI : zVal T) {k d : Nat} (hd : d < 10) : zVal (zCome T k (nI d)) := by
  intro j hj
  by_cases h : j = k
  · exact Or.inr ⟨d, hd, by show upd T.1 k (nI d) j = nI d; exact upd_e h⟩
  · show (upd T.1 k (nI d) j = -1 ∧ upd T.2.1 k _ j = -1 ∧ upd T.2.2.1 k 0 j = -1) ∨ (∃ e, e < 10 ∧ upd T.1 k (nI d) j = nI e)
    rw [upd_n h, upd_n h, upd_n h]; exact hI j hj
theorem zVal_go (hI : zVal T) {k : Nat} (hf : ¬ T.1 k = -1) : zVal (zGo T k) := by
  intro j hj
  rcases hI j hj with ⟨h1, h2, h3⟩ | h
  · refine Or.inl ⟨h1, h2, ?_⟩
    show upd T.2.2.1 k _ j = -1
    rw [upd_n (fun q => hf (by rw [← q]; exact h1))]; exact h3
  · exact Or.inr h
theorem zBy_un {k : Nat} (hB : zBy T) (T' : zTb) (h : T'.2.2.2.1 = upd T.2.2.2.1 k (-1)) : zBy T' := by
  intro p hp
  rw [h]
  by_cases e : p = k
  · exact Or.inl (upd_e e)
  · rw [upd_n e]; exact hB p hp
theorem seen_full {k : Nat} {t : Int32} (h : zSeen T k t = true) : ¬ T.1 k = -1 := by
  intro e
  unfold zSeen at h
  rw [if_pos e] at h
  exact Bool.false_ne_true h
/-- the three changes -/
theorem rt_chg (hI : zVal T) (hB : zBy T) (hR : zRT T sf) {q k d : Nat} (hk : k < 24) (hd : d < 10) (hq : q = 43 ∨ q = 45 ∨ q = 61) (hlo : q ≠ 45 → zLow T < 24) (hse : q ≠ 43 → zSeen T k T.2.2.2.2.1 = true) :
    (fun T' => zRT T' (rChg sf q k (nI d)) ∧ zVal T' ∧ zBy T' ∧ T'.2.2.2.2.1 = T.2.2.2.2.1 + 1) (if q = 43 then zCome (zTick T) (zLow T) (nI d) else if q = 45 then zGo (zTick T) k else zCome (zGo (zTick T) k) (zLow T) (nI d)) := by
  have hI1 : zVal (zTick T) := hI
  have hB1 : zBy (zTick T) := hB
  have hR1 := rt_tick hR
  unfold rChg
  rw [r_low hI hR]
  rcases hq with rfl | rfl | rfl
  · exact ⟨rt_come hR1 (hlo (by decide)) hd, zVal_come hI1 hd, zBy_un hB1 _ rfl, rfl⟩
  · have hf : ¬ (zTick T).1 k = -1 := seen_full (hse (by decide))
    exact ⟨rt_go hR1 hk hf, zVal_go hI1 hf, zBy_un hB1 _ rfl, rfl⟩
  · have hf : ¬ (zTick T).1 k = -1 := seen_full (hse (by decide))
    have hB2 : zBy (zGo (zTick T) k) := zBy_un hB1 _ rfl
    exact ⟨rt_come (rt_go hR1 hk hf) (hlo (by decide)) hd, zVal_come (zVal_go hI1 hf) hd, zBy_un hB2 _ rfl, rfl⟩
theorem rt_emp (hR : zRT T sf) {k : Nat} (hk : k < 24) : zRT (zEmp T k) (rLay sf k 0 0 0) := by
  unfold rLay
  refine ⟨fun j hj => ?_, fun p hp => ?_, ?_, ?_⟩
  · show _ = upd T.1 k (-1) j + 1 ∧ (upd T.1 k (-1) j = -1 → _) ∧ (¬ upd T.1 k (-1) j = -1 → _ = upd T.2.1 k (-1) j ∧ _ = upd T.2.2.1 k (-1) j)
    by_cases h : j = k
    · subst h
      repeat (first | rw [upd_n (by omega)] | rw [upd_e (by omega)])
      exact ⟨by decide, fun _ => ⟨rfl, rfl⟩, fun e => absurd rfl e⟩
    · repeat (first | rw [upd_n (by omega)] | rw [upd_e (by omega)])
      exact hR.1 j hj
  · rw [upd_n (by omega), upd_n (by omega), upd_n (by omega), upd_n (by omega), upd_n (by omega), upd_n (by omega)]; exact hR.2.1 p hp
  · rw [upd_n (by omega), upd_n (by omega), upd_n (by omega)]; exact hR.2.2.1
  · rw [upd_n (by omega), upd_n (by omega), upd_n (by omega)]; exact hR.2.2.2
theorem zVal_emp (hI : zVal T) {k : Nat} : zVal (zEmp T k) := by
  intro j hj
  show (upd T.1 k (-1) j = -1 ∧ upd T.2.1 k (-1) j = -1 ∧ upd T.2.2.1 k (-1) j = -1) ∨ (∃ e, e < 10 ∧ upd T.1 k (-1) j = nI e)
  by_cases h : j = k
  · exact Or.inl ⟨upd_e h, upd_e h, upd_e h⟩
  · rw [upd_n h, upd_n h, upd_n h]; exact hI j hj
/-- a sweep's inner loop, both at once -/
theorem rt_sw {h : Int32} : ∀ (f k : Nat) (T : zTb) (sf : Nat → Int32) (n : Int32) (b : Bool), k + f ≤ 24 → zVal T → zRT T sf →
    zRT (zsw h f k T n b).1 (rsw h f k sf b).1 ∧ (zsw h f k T n b).2.2 = (rsw h f k sf b).2 ∧ (zsw h f k T n b).2.1 = zcnt (fun j => zOut T j h) f k n ∧ zVal (zsw h f k T n b).1 ∧ (zsw h f k T n b).1.2.2.2 = T.2.2.2 := by
  intro f
  induction f with
  | zero => intro k T sf n b _ hI hR; exact ⟨hR, rfl, rfl, hI, rfl⟩
  | succ f ih =>
    intro k T sf n b hk hI hR
    have hold := r_old hI hR (show k < 24 by omega) h
    unfold zsw rsw
    show _ ∧ _ ∧ _ = zcnt _ f (k + 1) (if zOut T k h then n + 1 else n) ∧ _
    by_cases ho : zOut T k h = true
    · have e1 : rswS sf k h = rLay sf k 0 0 0 := by unfold rswS; rw [hold, ho]; rfl
      have hR1 := rt_emp hR (show k < 24 by omega)
      have e2 : rswB (rLay sf k 0 0 0) k h b = b := by
        unfold rswB
        rw [r_full (zVal_emp hI (k := k)) hR1 (by omega)]
        have : (zEmp T k).1 k = -1 := upd_e rfl
        simp [this]
      rw [if_pos ho, if_pos ho, e1, e2]
      obtain ⟨a1, a2, a3, a4, a5⟩ := ih (k + 1) (zEmp T k) (rLay sf k 0 0 0) (n + 1) b (by omega) (zVal_emp hI) hR1
      refine ⟨a1, a2, ?_, a4, a5⟩
      rw [a3]
      refine zcnt_c f (k + 1) _ (fun j h1 h2 => ?_)
      show zOut (zEmp T k) j h = zOut T j h
      unfold zOut
      show (!decide (upd T.2.2.1 k (-1) j ≤ 0) && !decide (h < upd T.2.2.1 k (-1) j)) = _
      rw [upd_n (by omega)]
    · have e1 : rswS sf k h = sf := by unfold rswS; rw [hold, if_neg ho]
      rw [if_neg ho, if_neg ho, e1]
      have e2 : rswB sf k h b = (b && (decide (T.1 k = -1) || zAll T k h)) := by
        unfold rswB zAll
        rw [r_full hI hR (by omega)]
        by_cases hv : T.1 k = -1
        · simp [hv]
        · unfold rOf
          rw [((hR.1 k (by omega)).2.2 hv).1, ((hR.1 k (by omega)).2.2 hv).2]
          simp [hv]
      rw [e2]
      by_cases hv : T.1 k = -1
      · rw [if_pos hv]
        have : (b && (decide (T.1 k = -1) || zAll T k h)) = b := by simp [hv]
        rw [this]
        exact ih (k + 1) T sf n b (by omega) hI hR
      · rw [if_neg hv]
        by_cases ha : zAll T k h = true
        · rw [if_pos ha]
          have : (b && (decide (T.1 k = -1) || zAll T k h)) = b := by simp [ha]
          rw [this]
          exact ih (k + 1) T sf n b (by omega) hI hR
        · rw [if_neg ha]
          have : (b && (decide (T.1 k = -1) || zAll T k h)) = false := by simp [hv, ha]
          rw [this]
          exact ih (k + 1) T sf n false (by omega) hI hR
theorem rt_sweep (hI : zVal T) (hB : zBy T) (hR : zRT T sf) {p : Nat} (hp : p < 6) {h : Int32} (hh : rHb sf (-1) = h) (h0 : 0 ≤ h) :
    (zSweep T p h).1 = (rSw sf p).1 ∧ zRT (zSweep T p h).2 (rSw sf p).2 ∧ zVal (zSweep T p h).2 ∧ zBy (zSweep T p h).2 ∧ (zSweep T p h).2.2.2.2.2.1 = T.2.2.2.2.1 := by
  obtain ⟨a1, a2, a3, a4, a5⟩ := rt_sw (h := h) 4 (p * 4) T sf 0 true (by omega) hI hR
  unfold zSweep rSw
  rw [hh, Nat.mul_comm 4 p]
  have hn : (zsw h 4 (p * 4) T 0 true).2.1 = rOi sf p h := by rw [a3, r_oi hI hR hp]; rfl
  have hne : h ≠ -1 := by
    intro e
    rw [e] at h0
    exact absurd h0 (by decide)
  have e5 : (zsw h 4 (p * 4) T 0 true).1.2.2.2.1 = T.2.2.2.1 ∧ (zsw h 4 (p * 4) T 0 true).1.2.2.2.2.1 = T.2.2.2.2.1 := by rw [a5]; exact ⟨rfl, rfl⟩
  generalize hz : zsw h 4 (p * 4) T 0 true = r at *
  generalize hy : rsw h 4 (p * 4) sf true = r' at *
  obtain ⟨U, n, b⟩ := r
  obtain ⟨sg, b'⟩ := r'
  obtain rfl : b = b' := a2
  have hn' : n = rOi sf p h := hn
  rw [← hn']
  have hUB : zBy U := fun q hq => by have : U.2.2.2.1 = T.2.2.2.1 := e5.1; rw [this]; exact hB q hq
  have a1' : zRT U sg := a1
  have a4' : zVal U := a4
  refine ⟨rfl, ?_, ?_, ?_, ?_⟩
  · unfold zswE rswE
    cases b
    · show zRT (U.1, U.2.1, U.2.2.1, U.2.2.2.1, U.2.2.2.2.1, U.2.2.2.2.2 + n) (upd sg 6 (sg 6 + n))
      refine ⟨fun k hk => ?_, fun q hq => ?_, ?_, ?_⟩
      · rw [upd_n (by omega), upd_n (by omega), upd_n (by omega)]; exact a1'.1 k hk
      · rw [upd_n (by omega), upd_n (by omega)]; exact a1'.2.1 q hq
      · rw [upd_n (by omega)]; exact a1'.2.2.1
      · rw [upd_e rfl, a1'.2.2.2]
    · show zRT (U.1, U.2.1, U.2.2.1, upd U.2.2.2.1 p h, U.2.2.2.2.1, U.2.2.2.2.2 + n) ((fun s => upd s 6 (s 6 + n)) (upd (upd sg (79 + 2 * p + 0) 1) (79 + 2 * p + 1) h))
      refine ⟨fun k hk => ?_, fun q hq => ?_, ?_, ?_⟩
      · show upd _ 6 _ _ = _ ∧ (_ → upd _ 6 _ _ = _ ∧ upd _ 6 _ _ = _) ∧ (_ → upd _ 6 _ _ = _ ∧ upd _ 6 _ _ = _)
        repeat (first | rw [upd_n (by omega)] | rw [upd_e (by omega)])
        exact a1'.1 k hk
      · show (upd U.2.2.2.1 p h q = -1 → upd _ 6 _ _ = _ ∧ upd _ 6 _ _ = _) ∧ (¬ upd U.2.2.2.1 p h q = -1 → upd _ 6 _ _ = _ ∧ upd _ 6 _ _ = upd U.2.2.2.1 p h q)
        by_cases e : q = p
        · subst e
          repeat (first | rw [upd_n (by omega)] | rw [upd_e (by omega)])
          exact ⟨fun e => absurd e hne, fun _ => ⟨rfl, rfl⟩⟩
        · repeat (first | rw [upd_n (by omega)] | rw [upd_e (by omega)])
          exact a1'.2.1 q hq
      · show upd _ 6 _ 0 = _
        rw [upd_n (by omega), upd_n (by omega), upd_n (by omega)]; exact a1'.2.2.1
      · show upd _ 6 _ 6 = _
        rw [upd_e rfl, upd_n (by omega), upd_n (by omega)]
        show sg 6 + n = U.2.2.2.2.2 + n
        rw [a1'.2.2.2]
  · exact a4'
  · intro q hq
    show (if b = true then upd U.2.2.2.1 p h else U.2.2.2.1) q = -1 ∨ 0 ≤ (if b = true then upd U.2.2.2.1 p h else U.2.2.2.1) q
    cases b
    · exact hUB q hq
    · show upd U.2.2.2.1 p h q = -1 ∨ 0 ≤ upd U.2.2.2.1 p h q
      by_cases e : q = p
      · rw [upd_e e]; exact Or.inr h0
      · rw [upd_n e]; exact hUB q hq
  · exact e5.2
end KEEP
