/-! the whole buffer, read by both -/
section IND
variable {g : Nat → Nat} {n i : Nat}
theorem rd_i (dg dg' e : Nat) : (zRd g n i dg e).1 = (zRd g n i dg' e).1 ∧ (zRd g n i dg e).2.1 = (zRd g n i dg' e).2.1 ∧ ((zRd g n i dg e).1 = true → (zRd g n i dg e).2.2 = (zRd g n i dg' e).2.2) := by
  unfold zRd
  split
  · split
    · exact ⟨rfl, rfl, fun _ => rfl⟩
    · exact ⟨rfl, rfl, fun h => absurd h Bool.false_ne_true⟩
  · exact ⟨rfl, rfl, fun h => absurd h Bool.false_ne_true⟩
theorem rp_i (pl pl' : Nat) : (zRp g n i pl).1 = (zRp g n i pl').1 ∧ (zRp g n i pl).2.1 = (zRp g n i pl').2.1 ∧ ((zRp g n i pl).1 = true → (zRp g n i pl).2.2 = (zRp g n i pl').2.2) := by
  unfold zRp
  split
  · split
    · exact ⟨rfl, rfl, fun _ => rfl⟩
    · split
      · split
        · exact ⟨rfl, rfl, fun _ => rfl⟩
        · exact ⟨rfl, rfl, fun _ => rfl⟩
      · exact ⟨rfl, rfl, fun _ => rfl⟩
  · exact ⟨rfl, rfl, fun h => absurd h Bool.false_ne_true⟩
def zUb (b : Bool × zRt) : Nat × Nat × Nat := zUs b.2.2.1 b.2.2.2.1 b.2.2.2.2
theorem rb_i (q pl dg q' pl' dg' : Nat) : (zRb g n i q pl dg).1 = (zRb g n i q' pl' dg').1 ∧ (zRb g n i q pl dg).2.1 = (zRb g n i q' pl' dg').2.1 ∧ ((zRb g n i q pl dg).1 = true → zUb (zRb g n i q pl dg) = zUb (zRb g n i q' pl' dg')) := by
  unfold zRb
  split
  · obtain ⟨a1, a2, a3⟩ := rd_i (g := g) (n := n) (i := i + 1) dg dg' 10
    refine ⟨a1, a2, fun h => ?_⟩
    show (43, 0, (zRd g n (i + 1) dg 10).2.2) = (43, 0, (zRd g n (i + 1) dg' 10).2.2)
    rw [a3 h]
  · split
    · obtain ⟨a1, a2, a3⟩ := rp_i (g := g) (n := n) (i := i + 1) pl pl'
      refine ⟨a1, a2, fun h => ?_⟩
      show (45, (zRp g n (i + 1) pl).2.2, 0) = (45, (zRp g n (i + 1) pl').2.2, 0)
      rw [a3 h]
    · split
      · obtain ⟨a1, a2, a3⟩ := rd_i (g := g) (n := n) (i := i + 1) dg dg' 6
        refine ⟨a1, a2, fun h => ?_⟩
        show (126, (zRd g n (i + 1) dg 6).2.2, 0) = (126, (zRd g n (i + 1) dg' 6).2.2, 0)
        rw [a3 h]
      · obtain ⟨a1, a2, a3⟩ := rp_i (g := g) (n := n) (i := i) pl pl'
        rw [← a1, ← a2]
        by_cases h : (zRp g n i pl).1 = true
        · rw [if_pos h, if_pos h]
          by_cases h2 : (zRs g n (zRp g n i pl).2.1 61).1 = true
          · rw [if_pos h2, if_pos h2]
            obtain ⟨b1, b2, b3⟩ := rd_i (g := g) (n := n) (i := (zRs g n (zRp g n i pl).2.1 61).2) dg dg' 10
            refine ⟨b1, b2, fun h3 => ?_⟩
            show (61, (zRp g n i pl).2.2, _) = (61, (zRp g n i pl').2.2, _)
            rw [a3 h, b3 h3]
          · rw [if_neg h2, if_neg h2]
            exact ⟨rfl, rfl, fun h => absurd h Bool.false_ne_true⟩
        · rw [if_neg h, if_neg h]
          exact ⟨rfl, rfl, fun h => absurd h Bool.false_ne_true⟩
theorem rn_i (q pl dg q' pl' dg' : Nat) : (zRn g n i q pl dg).1 = (zRn g n i q' pl' dg').1 ∧ (zRn g n i q pl dg).2.1 = (zRn g n i q' pl' dg').2.1 ∧ ((zRn g n i q pl dg).1 = true → zUb (zRn g n i q pl dg) = zUb (zRn g n i q' pl' dg')) := by
  unfold zRn
  split
  · exact rb_i q pl dg q' pl' dg'
  · split
    · exact rb_i q pl dg q' pl' dg'
    · exact ⟨rfl, rfl, fun h => absurd h Bool.false_ne_true⟩
end IND
def zAt (g : Nat → Nat) (n : Nat) : Nat → Nat
  | 0 => 0
  | j + 1 => (zRn g n (zAt g n j) 0 0 0).2.1
def zUj (g : Nat → Nat) (n j : Nat) : Nat × Nat × Nat := zUb (zRn g n (zAt g n j) 0 0 0)
def zOj (g : Nat → Nat) (n j : Nat) : Bool := (zRn g n (zAt g n j) 0 0 0).1
theorem zraF_f {g : Nat → Nat} {n : Nat} : ∀ (f : Nat) (X : zRt), zraF g n f false X = (false, X)
  | 0, _ => rfl
  | _ + 1, _ => rfl
theorem rrF_f {g : Nat → Nat} {n : Nat} : ∀ (f : Nat) (R : rSt), R.2.1 = false → rrF g n f R = R
  | 0, _, _ => rfl
  | f + 1, R, h => by unfold rrF; rw [h]; rfl
def zRaOk (g : Nat → Nat) (n : Nat) (A : Bool × zRt) (C : rSt) : Prop := C.1 = A.2.1 ∧ C.2.1 = A.1 ∧ (A.1 = true → 3 * C.2.2.2 ≤ n + 1 ∧ n ≤ zAt g n C.2.2.2 ∧ 0 < zAt g n C.2.2.2 ∧ ∀ j, j < C.2.2.2 → zOj g n j = true ∧ zEn C.2.2.1 j (zUj g n j))
theorem ra_loop {g : Nat → Nat} {n : Nat} (hg : ∀ k, g k < 128) : ∀ (f f2 rm : Nat) (X : zRt) (R : rSt), R.1 = X.1 → R.2.1 = true → R.2.2.2 = rm → X.1 ≤ n → n ≤ X.1 + f → n ≤ X.1 + f2 → 0 < X.1 → 3 * rm ≤ X.1 + 1 → X.1 = zAt g n rm → (∀ j, j < rm → zOj g n j = true ∧ zEn R.2.2.1 j (zUj g n j)) → zRaOk g n (zraF g n f true X) (rrF g n f2 R) := by
  intro f
  induction f with
  | zero =>
    intro f2 rm X R h1 h2 h3 h4 h5 h6 h7 h8 h9 h10
    have e : rrF g n f2 R = R := by
      cases f2 with
      | zero => rfl
      | succ f2 => unfold rrF; rw [h2, decide_eq_false (show ¬ R.1 < n by omega)]; rfl
    rw [e]
    exact ⟨h1, h2, fun _ => ⟨by rw [h3]; omega, by rw [h3, ← h9]; omega, by rw [h3, ← h9]; exact h7, fun j hj => h10 j (by rw [← h3]; exact hj)⟩⟩
  | succ f ih =>
    intro f2 rm X R h1 h2 h3 h4 h5 h6 h7 h8 h9 h10
    by_cases hn : n ≤ X.1
    · have e : rrF g n f2 R = R := by
        cases f2 with
        | zero => rfl
        | succ f2 => unfold rrF; rw [h2, decide_eq_false (show ¬ R.1 < n by omega)]; rfl
      have e2 : zraF g n (f + 1) true X = (true, X) := by unfold zraF; rw [if_pos rfl, if_pos hn]
      rw [e, e2]
      exact ⟨h1, h2, fun _ => ⟨by rw [h3]; omega, by rw [h3, ← h9]; omega, by rw [h3, ← h9]; exact h7, fun j hj => h10 j (by rw [← h3]; exact hj)⟩⟩
    · cases f2 with
      | zero => omega
      | succ f2 =>
        have e2 : zraF g n (f + 1) true X = zraF g n f (zRn g n X.1 X.2.1 X.2.2.1 X.2.2.2).1 (zRn g n X.1 X.2.1 X.2.2.1 X.2.2.2).2 := by
          show (if true = true then (if n ≤ X.1 then _ else _) else _) = _
          rw [if_pos rfl, if_neg hn]
        have e1 : rrF g n (f2 + 1) R = if zSg g n X.1 = 44 then rrF g n f2 (rRc g n (X.1 + 1) true R.2.2.1 rm) else rrF g n f2 (X.1, false, R.2.2.1, rm) := by
          rw [← h1, ← h3]
          show (if (R.2.1 && decide (R.1 < n)) = true then _ else _) = _
          rw [h2, decide_eq_true (show R.1 < n by omega)]
          rfl
        have i1 := rn_i (g := g) (n := n) (i := X.1) X.2.1 X.2.2.1 X.2.2.2 0 0 0
        rw [e1, e2]
        by_cases h44 : zSg g n X.1 = 44
        · rw [if_pos h44]
          have eb : zRn g n X.1 X.2.1 X.2.2.1 X.2.2.2 = zRb g n (X.1 + 1) X.2.1 X.2.2.1 X.2.2.2 := by
            unfold zRn zRs
            rw [if_neg (by omega), if_pos h44]
            rfl
          obtain ⟨b1, b2, b3, b4, b5⟩ := rc_rb (n := n) (i := X.1 + 1) hg X.2.1 X.2.2.1 X.2.2.2 R.2.2.1 rm
          rw [← eb] at b1 b2 b3 b4
          have hlt := zSg_in (g := g) (n := n) (i := X.1) (by omega)
          obtain ⟨l1, l2, l3, l4, l5⟩ := rRc_le (g := g) (n := n) (i := X.1 + 1) (w := true) (rd := R.2.2.1) (rm := rm) (by omega)
          by_cases hw : (zRn g n X.1 X.2.1 X.2.2.1 X.2.2.2).1 = true
          · rw [hw] at b2 b3
            have l6 := l5 b2
            rw [hw]
            have hzat : zAt g n (rm + 1) = (zRn g n X.1 X.2.1 X.2.2.1 X.2.2.2).2.1 := by
              show (zRn g n (zAt g n rm) 0 0 0).2.1 = _
              rw [← h9]; exact i1.2.1.symm
            refine ih f2 (rm + 1) _ _ b1 b2 b3 (by rw [← b1]; exact l1) (by omega) (by omega) (by omega) (by omega) hzat.symm (fun j hj => ?_)
            by_cases hj2 : j = rm
            · subst hj2
              refine ⟨?_, ?_⟩
              · unfold zOj; rw [← h9, ← i1.1]; exact hw
              · have := b4 hw
                unfold zUj
                rw [← h9, ← i1.2.2 hw]
                exact this
            · obtain ⟨c1, c2, c3, c4⟩ := h10 j (by omega)
              refine ⟨c1, ?_, ?_, ?_⟩
              · rw [b5 _ (by omega)]; exact c2
              · rw [b5 _ (by omega)]; exact c3
              · rw [b5 _ (by omega)]; exact c4
          · have hw' : (zRn g n X.1 X.2.1 X.2.2.1 X.2.2.2).1 = false := by simpa using hw
            rw [hw'] at b2
            rw [hw', zraF_f, rrF_f _ _ b2]
            exact ⟨b1, b2, fun h => absurd h Bool.false_ne_true⟩
        · rw [if_neg h44]
          have eb : zRn g n X.1 X.2.1 X.2.2.1 X.2.2.2 = (false, X.1, X.2.1, X.2.2.1, X.2.2.2) := by
            unfold zRn zRs
            rw [if_neg (by omega), if_neg h44]
            rfl
          rw [eb, zraF_f, rrF_f _ _ rfl]
          exact ⟨rfl, rfl, fun h => absurd h Bool.false_ne_true⟩
theorem ra_ok {g : Nat → Nat} {n : Nat} (hg : ∀ k, g k < 128) (hn : n ≤ 60) (q pl dg : Nat) (rd : Nat → Int32) : zRaOk g n (zRa g n q pl dg) (rRa g n rd) := by
  unfold zRa rRa
  have i1 := rn_i (g := g) (n := n) (i := 0) q pl dg 0 0 0
  have eb : zRn g n 0 q pl dg = zRb g n 0 q pl dg := rfl
  obtain ⟨b1, b2, b3, b4, b5⟩ := rc_rb (n := n) (i := 0) hg q pl dg rd 0
  rw [← eb] at b1 b2 b3 b4
  obtain ⟨l1, l2, l3, l4, l5⟩ := rRc_le (g := g) (n := n) (i := 0) (w := true) (rd := rd) (rm := 0) (by omega)
  by_cases hw : (zRn g n 0 q pl dg).1 = true
  · rw [hw] at b2 b3
    have l6 := l5 b2
    rw [hw]
    refine ra_loop hg 59 62 1 _ _ b1 b2 b3 (by rw [← b1]; exact l1) (by omega) (by omega) (by omega) (by omega) i1.2.1 (fun j hj => ?_)
    obtain rfl : j = 0 := by omega
    refine ⟨i1.1.symm.trans hw, ?_⟩
    have h4 := b4 hw
    unfold zUj
    show zEn _ 0 (zUb (zRn g n 0 0 0 0))
    rw [← i1.2.2 hw]
    exact h4
  · have hw' : (zRn g n 0 q pl dg).1 = false := by simpa using hw
    rw [hw'] at b2
    rw [hw', zraF_f, rrF_f _ _ b2]
    exact ⟨b1, b2, fun h => absurd h Bool.false_ne_true⟩
