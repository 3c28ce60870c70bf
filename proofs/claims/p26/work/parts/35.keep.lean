/-! EACH ACT KEEPS WHAT STANDS; its answer is no negative number -/
theorem u_e {f : Nat → Int32} {i j : Nat} {x : Int32} (h : j = i) : upd f i x j = x := by unfold upd; exact if_pos h
theorem u_n {f : Nat → Int32} {i j : Nat} {x : Int32} (h : ¬ j = i) : upd f i x j = f j := by unfold upd; exact if_neg h
theorem inc_int {x : Int32} {B : Nat} (h0 : 0 ≤ x.toInt) (h : x.toInt ≤ B) (hB : B < 2 ^ 30) : (x + 1).toInt = x.toInt + 1 := by
  rw [Int32.toInt_add]
  have : (1 : Int32).toInt = 1 := by decide
  rw [this]
  apply Int.bmod_eq_of_le <;> omega
section PV
variable {Z : zSt} {B : Nat}
theorem iv_tick (hI : zIv Z B) (hB : B < 2 ^ 30) : zIv (zTick Z.1, Z.2) (B + 1) ∧ (zTick Z.1).2.2.2.2.1.toInt = Z.1.2.2.2.2.1.toInt + 1 := by
  obtain ⟨⟨h1, h2⟩, h3, h4, h5, h6⟩ := hI
  have e : (Z.1.2.2.2.2.1 + 1).toInt = Z.1.2.2.2.2.1.toInt + 1 := inc_int h1 h2 hB
  refine ⟨⟨⟨?_, ?_⟩, fun k hk => ?_, fun p hp => ?_, fun a ha => ?_, h6⟩, e⟩
  · show 0 ≤ (Z.1.2.2.2.2.1 + 1).toInt; omega
  · show (Z.1.2.2.2.2.1 + 1).toInt ≤ _; omega
  · rcases h3 k hk with g | ⟨g1, g2, g3, g4⟩
    · exact Or.inl g
    · refine Or.inr ⟨g1, g2, ?_, ?_⟩
      · show _ ≤ (Z.1.2.2.2.2.1 + 1).toInt; rw [e]; show (Z.1.2.1 k).toInt ≤ _; omega
      · rcases g4 with g4 | ⟨g4, g5⟩
        · exact Or.inl g4
        · refine Or.inr ⟨g4, ?_⟩
          show (Z.1.2.2.1 k).toInt ≤ (Z.1.2.2.2.2.1 + 1).toInt; omega
  · rcases h4 p hp with g | ⟨g1, g2, g3, g4⟩
    · exact Or.inl g
    · refine Or.inr ⟨g1, ?_, g3, g4⟩
      show (Z.1.2.2.2.1 p).toInt ≤ (Z.1.2.2.2.2.1 + 1).toInt; omega
  · rcases h5 a ha with g | ⟨g1, g2⟩
    · exact Or.inl g
    · refine Or.inr ⟨g1, ?_⟩
      show (Z.2.1.1 a).toInt ≤ (Z.1.2.2.2.2.1 + 1).toInt; omega
theorem iv_go (hI : zIv Z B) {k : Nat} (hk : k < 24) (hf : ¬ Z.1.1 k = -1) (hc : (Z.1.2.1 k).toInt < Z.1.2.2.2.2.1.toInt) : zIv (zGo Z.1 k, Z.2) B := by
  obtain ⟨h1, h3, h4, h5, h6⟩ := hI
  refine ⟨h1, fun j hj => ?_, fun p hp => ?_, h5, h6⟩
  · by_cases e : j = k
    · subst e
      rcases h3 j hj with g | ⟨g1, g2, g3, -⟩
      · exact absurd g.1 hf
      · refine Or.inr ⟨g1, g2, g3, Or.inr ?_⟩
        show (Z.1.2.1 j).toInt < (upd Z.1.2.2.1 j Z.1.2.2.2.2.1 j).toInt ∧ (upd Z.1.2.2.1 j Z.1.2.2.2.2.1 j).toInt ≤ _
        rw [u_e rfl]
        exact ⟨hc, Int.le_refl _⟩
    · have := h3 j hj
      show (Z.1.1 j = -1 ∧ Z.1.2.1 j = -1 ∧ upd Z.1.2.2.1 k Z.1.2.2.2.2.1 j = -1) ∨ ((∃ d, d < 10 ∧ Z.1.1 j = nI d) ∧ 0 ≤ (Z.1.2.1 j).toInt ∧ (Z.1.2.1 j).toInt ≤ Z.1.2.2.2.2.1.toInt ∧ (upd Z.1.2.2.1 k Z.1.2.2.2.2.1 j = 0 ∨ ((Z.1.2.1 j).toInt < (upd Z.1.2.2.1 k Z.1.2.2.2.2.1 j).toInt ∧ (upd Z.1.2.2.1 k Z.1.2.2.2.2.1 j).toInt ≤ Z.1.2.2.2.2.1.toInt)))
      rw [u_n e]
      exact this
  · by_cases e : p = k / 4
    · left
      show upd Z.1.2.2.2.1 (k / 4) (-1) p = -1
      exact u_e e
    · have h7 := h4 p hp
      show upd Z.1.2.2.2.1 (k / 4) (-1) p = -1 ∨ (0 ≤ (upd Z.1.2.2.2.1 (k / 4) (-1) p).toInt ∧ (upd Z.1.2.2.2.1 (k / 4) (-1) p).toInt ≤ Z.1.2.2.2.2.1.toInt ∧ (∀ a, a < 4 → Z.2.1.1 a = -1 ∨ (upd Z.1.2.2.2.1 (k / 4) (-1) p).toInt ≤ (Z.2.1.1 a).toInt) ∧ ∀ j, j < 24 → j / 4 = p → Z.1.1 j = -1 ∨ ((Z.1.2.1 j).toInt ≤ (upd Z.1.2.2.2.1 (k / 4) (-1) p).toInt ∧ upd Z.1.2.2.1 k Z.1.2.2.2.2.1 j = 0))
      rw [u_n e]
      refine h7.imp id (fun ⟨g1, g2, g3, g4⟩ => ⟨g1, g2, g3, fun j hj hjp => ?_⟩)
      rw [u_n (fun z => e (by rw [← z]; exact hjp.symm))]
      exact g4 j hj hjp
theorem iv_come (hI : zIv Z B) {k d : Nat} (hk : k < 24) (hd : d < 10) : zIv (zCome Z.1 k (nI d), Z.2) B := by
  obtain ⟨h1, h3, h4, h5, h6⟩ := hI
  refine ⟨h1, fun j hj => ?_, fun p hp => ?_, h5, h6⟩
  · show (upd Z.1.1 k (nI d) j = -1 ∧ upd Z.1.2.1 k Z.1.2.2.2.2.1 j = -1 ∧ upd Z.1.2.2.1 k 0 j = -1) ∨ ((∃ d2, d2 < 10 ∧ upd Z.1.1 k (nI d) j = nI d2) ∧ 0 ≤ (upd Z.1.2.1 k Z.1.2.2.2.2.1 j).toInt ∧ (upd Z.1.2.1 k Z.1.2.2.2.2.1 j).toInt ≤ Z.1.2.2.2.2.1.toInt ∧ (upd Z.1.2.2.1 k 0 j = 0 ∨ ((upd Z.1.2.1 k Z.1.2.2.2.2.1 j).toInt < (upd Z.1.2.2.1 k 0 j).toInt ∧ (upd Z.1.2.2.1 k 0 j).toInt ≤ Z.1.2.2.2.2.1.toInt)))
    by_cases e : j = k
    · rw [u_e e, u_e e, u_e e]
      exact Or.inr ⟨⟨d, hd, rfl⟩, h1.1, Int.le_refl _, Or.inl rfl⟩
    · rw [u_n e, u_n e, u_n e]
      exact h3 j hj
  · show upd Z.1.2.2.2.1 (k / 4) (-1) p = -1 ∨ (0 ≤ (upd Z.1.2.2.2.1 (k / 4) (-1) p).toInt ∧ (upd Z.1.2.2.2.1 (k / 4) (-1) p).toInt ≤ Z.1.2.2.2.2.1.toInt ∧ (∀ a, a < 4 → Z.2.1.1 a = -1 ∨ (upd Z.1.2.2.2.1 (k / 4) (-1) p).toInt ≤ (Z.2.1.1 a).toInt) ∧ ∀ j, j < 24 → j / 4 = p → upd Z.1.1 k (nI d) j = -1 ∨ ((upd Z.1.2.1 k Z.1.2.2.2.2.1 j).toInt ≤ (upd Z.1.2.2.2.1 (k / 4) (-1) p).toInt ∧ upd Z.1.2.2.1 k 0 j = 0))
    by_cases e : p = k / 4
    · exact Or.inl (u_e e)
    · rw [u_n e]
      refine (h4 p hp).imp id (fun ⟨g1, g2, g3, g4⟩ => ⟨g1, g2, g3, fun j hj hjp => ?_⟩)
      have hn : ¬ j = k := fun z => e (by rw [← z]; exact hjp.symm)
      rw [u_n hn, u_n hn, u_n hn]
      exact g4 j hj hjp
theorem iv_emp (hI : zIv Z B) {k : Nat} : zIv (zEmp Z.1 k, Z.2) B := by
  obtain ⟨h1, h3, h4, h5, h6⟩ := hI
  refine ⟨h1, fun j hj => ?_, fun p hp => ?_, h5, h6⟩
  · show (upd Z.1.1 k (-1) j = -1 ∧ upd Z.1.2.1 k (-1) j = -1 ∧ upd Z.1.2.2.1 k (-1) j = -1) ∨ ((∃ d2, d2 < 10 ∧ upd Z.1.1 k (-1) j = nI d2) ∧ 0 ≤ (upd Z.1.2.1 k (-1) j).toInt ∧ (upd Z.1.2.1 k (-1) j).toInt ≤ Z.1.2.2.2.2.1.toInt ∧ (upd Z.1.2.2.1 k (-1) j = 0 ∨ ((upd Z.1.2.1 k (-1) j).toInt < (upd Z.1.2.2.1 k (-1) j).toInt ∧ (upd Z.1.2.2.1 k (-1) j).toInt ≤ Z.1.2.2.2.2.1.toInt)))
    by_cases e : j = k
    · rw [u_e e, u_e e, u_e e]
      exact Or.inl ⟨rfl, rfl, rfl⟩
    · rw [u_n e, u_n e, u_n e]
      exact h3 j hj
  · refine (h4 p hp).imp id (fun ⟨g1, g2, g3, g4⟩ => ⟨g1, g2, g3, fun j hj hjp => ?_⟩)
    show upd Z.1.1 k (-1) j = -1 ∨ ((upd Z.1.2.1 k (-1) j).toInt ≤ (Z.1.2.2.2.1 p).toInt ∧ upd Z.1.2.2.1 k (-1) j = 0)
    by_cases e : j = k
    · exact Or.inl (u_e e)
    · rw [u_n e, u_n e, u_n e]
      exact g4 j hj hjp
theorem zAll_i {T : zTb} {k : Nat} {h : Int32} (e : zAll T k h = true) : (T.2.1 k).toInt ≤ h.toInt ∧ T.2.2.1 k = 0 := by
  unfold zAll at e
  simp only [Bool.and_eq_true, Bool.not_eq_true', decide_eq_false_iff_not, decide_eq_true_eq] at e
  refine ⟨?_, e.2⟩
  have := e.1
  rw [l_iff] at this
  omega
theorem zIv.tk {T : zTb} {R : zAk × zTl} {B : Nat} (h : zIv (T, R) B) (x : Int32) : zIv ((T.1, T.2.1, T.2.2.1, T.2.2.2.1, T.2.2.2.2.1, x), R) B := h
theorem iv_sw {h : Int32} {R : zAk × zTl} : ∀ (f k : Nat) (T : zTb) (a : Nat) (b : Bool), zIv (T, R) B →
    zIv ((zsw h f k T (nI a) b).1, R) B ∧ (∀ j, j < k → (zsw h f k T (nI a) b).1.1 j = T.1 j ∧ (zsw h f k T (nI a) b).1.2.1 j = T.2.1 j ∧ (zsw h f k T (nI a) b).1.2.2.1 j = T.2.2.1 j) ∧
    ((zsw h f k T (nI a) b).2.2 = true → b = true ∧ ∀ j, k ≤ j → j < k + f → (zsw h f k T (nI a) b).1.1 j = -1 ∨ (((zsw h f k T (nI a) b).1.2.1 j).toInt ≤ h.toInt ∧ (zsw h f k T (nI a) b).1.2.2.1 j = 0)) ∧
    (∃ m, m ≤ a + f ∧ (zsw h f k T (nI a) b).2.1 = nI m) ∧ (zsw h f k T (nI a) b).1.2.2.2.1 = T.2.2.2.1 ∧ (zsw h f k T (nI a) b).1.2.2.2.2.1 = T.2.2.2.2.1 := by
  intro f
  induction f with
  | zero => intro k T a b hI; exact ⟨hI, fun j _ => ⟨rfl, rfl, rfl⟩, fun e => ⟨e, fun j h1 h2 => by omega⟩, ⟨a, Nat.le_refl _, rfl⟩, rfl, rfl⟩
  | succ f ih =>
    intro k T a b hI
    unfold zsw
    by_cases c1 : zOut T k h = true
    · rw [if_pos c1, show nI a + 1 = nI (a + 1) from nI_add a 1]
      obtain ⟨g1, g2, g3, ⟨m, g4, g5⟩, g6, g7⟩ := ih (k + 1) (zEmp T k) (a + 1) b (iv_emp (Z := (T, R)) hI)
      refine ⟨g1, fun j hj => ?_, fun e => ?_, ⟨m, by omega, g5⟩, g6, g7⟩
      · obtain ⟨q1, q2, q3⟩ := g2 j (by omega)
        have hn : ¬ j = k := by omega
        exact ⟨q1.trans (u_n hn), q2.trans (u_n hn), q3.trans (u_n hn)⟩
      · obtain ⟨q1, q2⟩ := g3 e
        refine ⟨q1, fun j h1 h2 => ?_⟩
        by_cases ej : j = k
        · left
          rw [ej]
          exact (g2 k (by omega)).1.trans (u_e rfl)
        · exact q2 j (by omega) (by omega)
    · rw [if_neg c1]
      by_cases c2 : T.1 k = -1
      · rw [if_pos c2]
        obtain ⟨g1, g2, g3, ⟨m, g4, g5⟩, g6, g7⟩ := ih (k + 1) T a b hI
        refine ⟨g1, fun j hj => g2 j (by omega), fun e => ?_, ⟨m, by omega, g5⟩, g6, g7⟩
        obtain ⟨q1, q2⟩ := g3 e
        refine ⟨q1, fun j h1 h2 => ?_⟩
        by_cases ej : j = k
        · left
          rw [ej]
          exact (g2 k (by omega)).1.trans c2
        · exact q2 j (by omega) (by omega)
      · rw [if_neg c2]
        by_cases c3 : zAll T k h = true
        · rw [if_pos c3]
          obtain ⟨g1, g2, g3, ⟨m, g4, g5⟩, g6, g7⟩ := ih (k + 1) T a b hI
          refine ⟨g1, fun j hj => g2 j (by omega), fun e => ?_, ⟨m, by omega, g5⟩, g6, g7⟩
          obtain ⟨q1, q2⟩ := g3 e
          refine ⟨q1, fun j h1 h2 => ?_⟩
          by_cases ej : j = k
          · right
            obtain ⟨r1, r2, r3⟩ := g2 k (by omega)
            rw [ej, r2, r3]
            exact zAll_i c3
          · exact q2 j (by omega) (by omega)
        · rw [if_neg c3]
          obtain ⟨g1, g2, g3, ⟨m, g4, g5⟩, g6, g7⟩ := ih (k + 1) T a false hI
          exact ⟨g1, fun j hj => g2 j (by omega), fun e => absurd (g3 e).1 Bool.false_ne_true, ⟨m, by omega, g5⟩, g6, g7⟩
/-- a horizon: no more than the clock and any snapshot -/
def zHz (Z : zSt) (h : Int32) : Prop := 0 ≤ h.toInt ∧ h.toInt ≤ Z.1.2.2.2.2.1.toInt ∧ ∀ a, a < 4 → Z.2.1.1 a = -1 ∨ h.toInt ≤ (Z.2.1.1 a).toInt
theorem hz_hor (hI : zIv Z B) : zHz Z (zHor Z) := ⟨hor_0 hI, (hor_le Z).1, (hor_le Z).2⟩
theorem iv_sweep {h : Int32} (hI : zIv Z B) (hh : zHz Z h) {p : Nat} (hp : p < 6) : zIv ((zSweep Z.1 p h).2, Z.2) B ∧ (zSweep Z.1 p h).2.2.2.2.2.1 = Z.1.2.2.2.2.1 ∧ ∃ m, m ≤ 4 ∧ (zSweep Z.1 p h).1 = nI m := by
  obtain ⟨g1, -, g3, ⟨m, g4, g5⟩, g6, g7⟩ := iv_sw (B := B) (h := h) (R := Z.2) 4 (p * 4) Z.1 0 true hI
  unfold zSweep
  rw [show (0 : Int32) = nI 0 from rfl]
  generalize zsw h 4 (p * 4) Z.1 (nI 0) true = r at g1 g3 g5 g6 g7
  refine ⟨?_, g7, ⟨m, by omega, g5⟩⟩
  unfold zswE
  by_cases e : r.2.2 = true
  · rw [if_pos e]
    obtain ⟨⟨k1, k2⟩, h3, h4, h5, h6⟩ := g1
    obtain ⟨-, q2⟩ := g3 e
    refine ⟨⟨k1, k2⟩, h3, fun j hj => ?_, h5, h6⟩
    show upd r.1.2.2.2.1 p h j = -1 ∨ (0 ≤ (upd r.1.2.2.2.1 p h j).toInt ∧ (upd r.1.2.2.2.1 p h j).toInt ≤ r.1.2.2.2.2.1.toInt ∧ (∀ a, a < 4 → Z.2.1.1 a = -1 ∨ (upd r.1.2.2.2.1 p h j).toInt ≤ (Z.2.1.1 a).toInt) ∧ ∀ i, i < 24 → i / 4 = j → r.1.1 i = -1 ∨ ((r.1.2.1 i).toInt ≤ (upd r.1.2.2.2.1 p h j).toInt ∧ r.1.2.2.1 i = 0))
    by_cases ej : j = p
    · rw [u_e ej]
      right
      refine ⟨hh.1, ?_, hh.2.2, fun i hi hip => q2 i (by omega) (by omega)⟩
      rw [g7]
      exact hh.2.1
    · rw [u_n ej]
      exact h4 j hj
  · rw [if_neg e]
    exact g1
theorem iv_sweepA {h : Int32} {R : zAk × zTl} : ∀ (f k : Nat) (T : zTb), k + f ≤ 6 → zIv (T, R) B → zHz (T, R) h → zIv (zSwA h f k T, R) B := by
  intro f
  induction f with
  | zero => intro k T _ hI _; exact hI
  | succ f ih =>
    intro k T hk hI hh
    obtain ⟨g1, g2, -⟩ := iv_sweep (Z := (T, R)) hI hh (p := k) (by omega)
    unfold zSwA
    refine ih (k + 1) _ (by omega) g1 ⟨hh.1, ?_, hh.2.2⟩
    show h.toInt ≤ (zSweep T k h).2.2.2.2.2.1.toInt
    rw [g2]
    exact hh.2.1
theorem iv_open (hI : zIv Z B) {a : Nat} (ha : a < 4) : zIv (zOp Z a) B := by
  obtain ⟨h1, h3, h4, h5, h6⟩ := hI
  refine ⟨h1, h3, fun p hp => (h4 p hp).imp id (fun ⟨g1, g2, g3, g4⟩ => ⟨g1, g2, fun b hb => ?_, g4⟩), fun b hb => ?_, h6⟩
  · show upd Z.2.1.1 a Z.1.2.2.2.2.1 b = -1 ∨ (0 ≤ (upd Z.2.1.1 a Z.1.2.2.2.2.1 b).toInt ∧ (upd Z.2.1.1 a Z.1.2.2.2.2.1 b).toInt ≤ Z.1.2.2.2.2.1.toInt)
    by_cases e : b = a
    · rw [u_e e]; exact Or.inr ⟨h1.1, Int.le_refl _⟩
    · rw [u_n e]; exact h5 b hb
  · show upd Z.2.1.1 a Z.1.2.2.2.2.1 b = -1 ∨ (Z.1.2.2.2.1 p).toInt ≤ (upd Z.2.1.1 a Z.1.2.2.2.2.1 b).toInt
    by_cases e : b = a
    · rw [u_e e]; exact Or.inr g2
    · rw [u_n e]; exact g3 b hb
theorem iv_close (hI : zIv Z B) {a : Nat} (ha : a < 4) : zIv (zCl Z a) B := by
  obtain ⟨h1, h3, h4, h5, h6⟩ := hI
  refine ⟨h1, h3, fun p hp => (h4 p hp).imp id (fun ⟨g1, g2, g3, g4⟩ => ⟨g1, g2, fun b hb => ?_, g4⟩), fun b hb => ?_, h6⟩
  · show upd Z.2.1.1 a (-1) b = -1 ∨ (0 ≤ (upd Z.2.1.1 a (-1) b).toInt ∧ (upd Z.2.1.1 a (-1) b).toInt ≤ Z.1.2.2.2.2.1.toInt)
    by_cases e : b = a
    · rw [u_e e]; exact Or.inl rfl
    · rw [u_n e]; exact h5 b hb
  · show upd Z.2.1.1 a (-1) b = -1 ∨ (Z.1.2.2.2.1 p).toInt ≤ (upd Z.2.1.1 a (-1) b).toInt
    by_cases e : b = a
    · rw [u_e e]; exact Or.inl rfl
    · rw [u_n e]; exact g3 b hb
theorem zall_of {P : Nat → Bool} : ∀ (f k : Nat), (∀ j, k ≤ j → j < k + f → P j = true) → zall P f k = true := by
  intro f
  induction f with
  | zero => intro k _; rfl
  | succ f ih =>
    intro k h
    rw [zall_t (h k (Nat.le_refl _) (by omega))]
    exact ih (k + 1) (fun j h1 h2 => h j (by omega) (by omega))
theorem tr_ok (hI : zIv Z B) {a : Nat} (ha : a < 4) (hs : 0 ≤ Z.2.1.1 a) : zTr Z.1 (Z.2.1.1 a) = true := by
  refine zall_of 6 0 (fun p _ hp => decide_eq_true ?_)
  rw [le_iff, z0_int] at hs
  rw [le_iff]
  rcases hI.2.2.1 p (by omega) with g | ⟨-, -, g, -⟩
  · rw [g, m1_int]; omega
  · rcases g a ha with g | g
    · rw [g, m1_int] at hs; omega
    · exact g
theorem iv_ask (hI : zIv Z B) {a : Nat} (ha : a < 4) (hs : 0 ≤ Z.2.1.1 a) (u : Int32) (w : Nat) : zIv (zAskS Z a u w) B := by
  have ht := tr_ok hI ha hs
  obtain ⟨h1, h3, h4, h5, h6⟩ := hI
  refine ⟨h1, h3, h4, h5, ?_⟩
  show (zTly Z.2.2 w (zCost Z.1 (Z.2.1.1 a) u w) (!zTr Z.1 (Z.2.1.1 a))).2.1 = 0
  rw [ht]
  unfold zTly
  show (if w = 2 then (if (!true) = true then Z.2.2.2.1 + 1 else Z.2.2.2.1) else Z.2.2.2.1) = 0
  rw [h6]
  simp
theorem iv_take (hI : zIv Z B) (hB : B < 2 ^ 30) {k : Nat} (hk : k < 24) (hs : zSeen Z.1 k Z.1.2.2.2.2.1 = true) : zIv (zTkS Z k) (B + 1) ∧ ∃ d, d < 10 ∧ (zTake Z.1 k).2.1 k = nI d := by
  have hf := ((seen_i hI hk _).mp hs).1
  have hi := sl_in hI hk hf
  unfold zTkS zTake
  rw [if_pos hs]
  obtain ⟨g1, g2⟩ := iv_tick hI hB
  refine ⟨iv_go g1 hk hf ?_, ?_⟩
  · show (Z.1.2.1 k).toInt < (zTick Z.1).2.2.2.2.1.toInt
    omega
  · exact ((hI.2.1 k hk).resolve_left (fun z => hf z.1)).1
theorem low_e {T : zTb} (h : zLow T < 24) : T.1 (zLow T) = -1 := by
  have key : ∀ (f k : Nat), zfst (fun k => decide (T.1 k = -1)) f k < k + f → T.1 (zfst (fun k => decide (T.1 k = -1)) f k) = -1 := by
    intro f
    induction f with
    | zero => intro k h; have := (zfst_le (fun k => decide (T.1 k = -1)) 0 k).1; omega
    | succ f ih =>
      intro k h
      by_cases e : T.1 k = -1
      · rw [zfst_t (decide_eq_true e)]; exact e
      · have e2 : decide (T.1 k = -1) = false := decide_eq_false e
        rw [zfst_f (P := fun k => decide (T.1 k = -1)) e2] at h ⊢
        exact ih (k + 1) (by omega)
  exact key 24 0 (by simpa [zLow] using h)
theorem iv_change (hI : zIv Z B) (hB : B < 2 ^ 30) {k d : Nat} (hk : k < 24) (hd : d < 10) (hs : zSeen Z.1 k Z.1.2.2.2.2.1 = true) (hl : zLow Z.1 < 24) : zIv (zChS Z k (nI d)) (B + 1) ∧ (zChg Z.1 k (nI d)).1 = nI (zLow Z.1) := by
  have hf := ((seen_i hI hk _).mp hs).1
  have hi := sl_in hI hk hf
  unfold zChS zChg
  rw [if_pos hl, if_pos hs]
  obtain ⟨g1, g2⟩ := iv_tick hI hB
  refine ⟨iv_come (Z := (zGo (zTick Z.1) k, Z.2)) (iv_go g1 hk hf ?_) hl hd, rfl⟩
  show (Z.1.2.1 k).toInt < (zTick Z.1).2.2.2.2.1.toInt
  omega
theorem iv_put (hI : zIv Z B) (hB : B < 2 ^ 30) {d : Nat} (hd : d < 10) (hl : zLow Z.1 < 24) : zIv (zPtS Z (nI d)) (B + 1) ∧ (zPut Z.1 (nI d)).1 = nI (zLow Z.1) := by
  unfold zPtS zPut
  rw [if_pos hl]
  obtain ⟨g1, g2⟩ := iv_tick hI hB
  exact ⟨iv_come (Z := (zTick Z.1, Z.2)) g1 hl hd, rfl⟩
theorem cnt_0 (P : Nat → Bool) (f k : Nat) (hf : f < 2 ^ 31) : 0 ≤ (zcnt P f k 0).toInt := by
  obtain ⟨n, h1, h2⟩ := zcnt_n (P := P) f k 0
  rw [show (0 : Int32) = nI 0 from rfl, h2, nI_toInt (by omega)]
  omega
theorem nI_nn {n : Nat} (h : n < 2 ^ 31) : 0 ≤ (nI n).toInt := by rw [nI_toInt h]; omega
theorem ao_iv (hI : zIv Z B) (hB : B < 2 ^ 30) {k a p : Nat} {w g : Int32} {Z' : zSt} (ha : a < 4) (hp : p < 24) (h : zAO Z k a p w = some (g, Z')) : zIv Z' (B + 1) ∧ 0 ≤ g.toInt := by
  have hz := hz_hor hI
  have hm : ∀ {Y : zSt}, zIv Y B → zIv Y (B + 1) := fun q => q.mono (by omega)
  have hd10 : ∀ v : Int32, zlow v 10 < 10 := fun v => zlow_lt (by decide)
  have hd6 : zlow w 6 < 6 := zlow_lt (by decide)
  have O : zIv (zOp Z a) (B + 1) ∧ 0 ≤ Z.1.2.2.2.2.1.toInt := ⟨hm (iv_open hI ha), hI.1.1⟩
  have Sw : zIv (zSwp Z (zlow w 6)) (B + 1) ∧ 0 ≤ ((zSweep Z.1 (zlow w 6) (zHor Z)).1).toInt := by
    obtain ⟨g1, -, m, g2, g3⟩ := iv_sweep hI hz hd6
    refine ⟨hm g1, ?_⟩
    rw [g3]; exact nI_nn (by omega)
  have SwA : zIv (zSwpA Z) (B + 1) ∧ 0 ≤ (zMp (zSwA (zHor Z) 6 0 Z.1)).toInt := ⟨hm (iv_sweepA 6 0 Z.1 (by decide) hI hz), cnt_0 _ _ _ (by decide)⟩
  have As : 0 ≤ Z.2.1.1 a → ∀ (u : Int32) (c : Nat), zIv (zAskS Z a u c) (B + 1) ∧ 0 ≤ (zAns Z.1 (Z.2.1.1 a) u c).toInt := fun hs u c => ⟨hm (iv_ask hI ha hs u c), cnt_0 _ _ _ (by decide)⟩
  have Tk : zSeen Z.1 p Z.1.2.2.2.2.1 = true → zIv (zTkS Z p) (B + 1) ∧ 0 ≤ ((zTake Z.1 p).2.1 p).toInt := fun hs => by
    obtain ⟨g1, d, g2, g3⟩ := iv_take hI hB hp hs
    refine ⟨g1, ?_⟩
    rw [g3]; exact nI_nn (by omega)
  have lw : ¬ 24 - zVs Z.1 24 0 = 0 → zLow Z.1 < 24 := fun e => of_decide_eq_true (zlow24 e)
  have Ch : zSeen Z.1 p Z.1.2.2.2.2.1 = true → ¬ 24 - zVs Z.1 24 0 = 0 → ∀ v : Int32, zIv (zChS Z p (nI (zlow v 10))) (B + 1) ∧ 0 ≤ ((zChg Z.1 p (nI (zlow v 10))).1).toInt := fun hs e v => by
    obtain ⟨g1, g2⟩ := iv_change hI hB hp (hd10 v) hs (lw e)
    refine ⟨g1, ?_⟩
    have := lw e
    rw [g2]; exact nI_nn (by omega)
  have Pt : ¬ 24 - zVs Z.1 24 0 = 0 → zIv (zPtS Z (nI (zlow w 10))) (B + 1) ∧ 0 ≤ ((zPut Z.1 (nI (zlow w 10))).1).toInt := fun e => by
    obtain ⟨g1, g2⟩ := iv_put hI hB (hd10 w) (lw e)
    refine ⟨g1, ?_⟩
    have := lw e
    rw [g2]; exact nI_nn (by omega)
  unfold zAO at h
  by_cases c0 : k = 0
  · rw [if_pos c0] at h
    obtain ⟨rfl, rfl⟩ := Prod.mk.inj (Option.some.inj h)
    exact O
  rw [if_neg c0] at h
  by_cases c1 : k = 1
  · rw [if_pos c1] at h
    obtain ⟨rfl, rfl⟩ := Prod.mk.inj (Option.some.inj h)
    exact O
  rw [if_neg c1] at h
  by_cases c2 : k = 2
  · rw [if_pos c2] at h
    by_cases e : 0 ≤ Z.2.1.1 a
    · rw [if_pos e] at h
      obtain ⟨rfl, rfl⟩ := Prod.mk.inj (Option.some.inj h)
      exact ⟨hm (iv_close hI ha), le_iff.mp e⟩
    · rw [if_neg e] at h; cases h
  rw [if_neg c2] at h
  by_cases c3 : k = 3
  · rw [if_pos c3] at h
    obtain ⟨rfl, rfl⟩ := Prod.mk.inj (Option.some.inj h)
    exact Sw
  rw [if_neg c3] at h
  by_cases c4 : k = 4
  · rw [if_pos c4] at h
    obtain ⟨rfl, rfl⟩ := Prod.mk.inj (Option.some.inj h)
    exact Sw
  rw [if_neg c4] at h
  by_cases c5 : k = 5
  · rw [if_pos c5] at h
    obtain ⟨rfl, rfl⟩ := Prod.mk.inj (Option.some.inj h)
    exact SwA
  rw [if_neg c5] at h
  by_cases c6 : k = 6
  · rw [if_pos c6] at h
    by_cases e : 0 ≤ Z.2.1.1 a
    · rw [if_pos e] at h
      obtain ⟨rfl, rfl⟩ := Prod.mk.inj (Option.some.inj h)
      exact As e _ _
    · rw [if_neg e] at h; cases h
  rw [if_neg c6] at h
  by_cases c7 : k = 7
  · rw [if_pos c7] at h
    by_cases e : 0 ≤ Z.2.1.1 a
    · rw [if_pos e] at h
      obtain ⟨rfl, rfl⟩ := Prod.mk.inj (Option.some.inj h)
      exact As e _ _
    · rw [if_neg e] at h; cases h
  rw [if_neg c7] at h
  by_cases c8 : k = 8
  · rw [if_pos c8] at h
    by_cases e : zSeen Z.1 p Z.1.2.2.2.2.1 = true
    · rw [if_pos e] at h
      obtain ⟨rfl, rfl⟩ := Prod.mk.inj (Option.some.inj h)
      exact Tk e
    · rw [if_neg e] at h; cases h
  rw [if_neg c8] at h
  by_cases c9 : k = 9
  · rw [if_pos c9] at h
    by_cases e : zSeen Z.1 p Z.1.2.2.2.2.1 = true
    · rw [if_pos e] at h
      obtain ⟨rfl, rfl⟩ := Prod.mk.inj (Option.some.inj h)
      exact Tk e
    · rw [if_neg e] at h; cases h
  rw [if_neg c9] at h
  by_cases c10 : k = 10
  · rw [if_pos c10] at h
    by_cases e : zSeen Z.1 p Z.1.2.2.2.2.1 = true
    · rw [if_pos e] at h
      by_cases e2 : 24 - zVs Z.1 24 0 = 0
      · rw [if_pos e2] at h; cases h
      · rw [if_neg e2] at h
        obtain ⟨rfl, rfl⟩ := Prod.mk.inj (Option.some.inj h)
        exact Ch e e2 _
    · rw [if_neg e] at h; cases h
  rw [if_neg c10] at h
  by_cases c11 : k = 11
  · rw [if_pos c11] at h
    by_cases e : zSeen Z.1 p Z.1.2.2.2.2.1 = true
    · rw [if_pos e] at h
      by_cases e2 : 24 - zVs Z.1 24 0 = 0
      · rw [if_pos e2] at h; cases h
      · rw [if_neg e2] at h
        obtain ⟨rfl, rfl⟩ := Prod.mk.inj (Option.some.inj h)
        exact Ch e e2 _
    · rw [if_neg e] at h; cases h
  rw [if_neg c11] at h
  by_cases e2 : 24 - zVs Z.1 24 0 = 0
  · rw [if_pos e2] at h; cases h
  · rw [if_neg e2] at h
    obtain ⟨rfl, rfl⟩ := Prod.mk.inj (Option.some.inj h)
    exact Pt e2
theorem act_none {k a p : Nat} {w : Int32} {G : zSt} {nx sz : Nat} (h : zAO Z k a p w = none) : zAR Z G nx sz (zAO Z k a p w) = (-9, Z, G, nx, sz) := by rw [h]; rfl
theorem act_some {k a p : Nat} {w g : Int32} {Z' G : zSt} {nx sz : Nat} (h : zAO Z k a p w = some (g, Z')) : zAR Z G nx sz (zAO Z k a p w) = (g, Z', Z, (nx + 1) % 6, zSz sz) := by rw [h]; rfl
end PV
