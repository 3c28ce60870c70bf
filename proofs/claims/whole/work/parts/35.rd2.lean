/-! a part, read by both -/
def zUs (q pl dg : Nat) : Nat × Nat × Nat := (q, if q = 43 then 0 else if q = 126 then dg else pl, if q = 45 ∨ q = 126 then 0 else dg)
def zEn (rd : Nat → Int32) (j : Nat) (u : Nat × Nat × Nat) : Prop := rd (3 * j) = nI u.1 ∧ rd (3 * j + 1) = nI u.2.1 ∧ rd (3 * j + 2) = nI u.2.2
theorem zEn_3 (rd : Nat → Int32) (j : Nat) (u : Nat × Nat × Nat) : zEn (upd (upd (upd rd (3 * j) (nI u.1)) (3 * j + 1) (nI u.2.1)) (3 * j + 2) (nI u.2.2)) j u := by
  refine ⟨?_, ?_, ?_⟩
  · rw [upd_n (by omega), upd_n (by omega), upd_e rfl]
  · rw [upd_n (by omega), upd_e rfl]
  · rw [upd_e rfl]
theorem upd3_lt {rd : Nat → Int32} {j x : Nat} {a b c : Int32} (h : x < 3 * j) : upd (upd (upd rd (3 * j) a) (3 * j + 1) b) (3 * j + 2) c x = rd x := by
  rw [upd_n (by omega), upd_n (by omega), upd_n (by omega)]
/-- what the reference's part-reader owes beside the class' -/
def zRcOk (r : rSt) (b : Bool × zRt) (rd : Nat → Int32) (rm : Nat) : Prop := r.1 = b.2.1 ∧ r.2.1 = b.1 ∧ r.2.2.2 = (if b.1 then rm + 1 else rm) ∧ (b.1 = true → zEn r.2.2.1 rm (zUs b.2.2.1 b.2.2.2.1 b.2.2.2.2)) ∧ (∀ x, x < 3 * rm → r.2.2.1 x = rd x)
theorem rc_ok {rd : Nat → Int32} {rm at_ : Nat} {v : Int32} {A B C : Int32} {b : Bool × zRt} {ok : Bool} (h1 : b.2.1 = at_) (h2 : b.1 = ok) (h3 : ok = true → A = nI (zUs b.2.2.1 b.2.2.2.1 b.2.2.2.2).1 ∧ B = nI (zUs b.2.2.1 b.2.2.2.1 b.2.2.2.2).2.1 ∧ C = nI (zUs b.2.2.1 b.2.2.2.1 b.2.2.2.2).2.2) :
    zRcOk (rEnd (v, at_, ok) (upd (upd (upd rd (3 * rm) A) (3 * rm + 1) B) (3 * rm + 2) C) rm) b rd rm := by
  refine ⟨h1.symm, h2.symm, by rw [h2]; rfl, fun h => ?_, fun x hx => upd3_lt hx⟩
  obtain ⟨e1, e2, e3⟩ := h3 (by rw [← h2]; exact h)
  show zEn (upd (upd (upd rd (3 * rm) A) (3 * rm + 1) B) (3 * rm + 2) C) rm _
  rw [e1, e2, e3]
  exact zEn_3 rd rm _
section RC
variable {g : Nat → Nat} {n i : Nat}
theorem rEnd_eq (r : Int32 × Nat × Bool) (rd : Nat → Int32) (rm : Nat) : rEnd r rd rm = rEnd (r.1, r.2.1, r.2.2) rd rm := rfl
theorem rc_rb (hg : ∀ k, g k < 128) (q pl dg : Nat) (rd : Nat → Int32) (rm : Nat) : zRcOk (rRc g n i true rd rm) (zRb g n i q pl dg) rd rm := by
  unfold rRc zRb
  by_cases c1 : zSg g n i = 43
  · rw [if_pos c1, if_pos c1, c1]
    by_cases h : zDh g n (i + 1) < 10
    · have ez : zRd g n (i + 1) dg 10 = (true, i + 1 + 1, zDh g n (i + 1)) := by unfold zRd; rw [if_pos h, if_pos h]
      rw [dt_57 hg h, ez]
      exact rc_ok rfl rfl (fun _ => ⟨rfl, rfl, rfl⟩)
    · have ez : zRd g n (i + 1) dg 10 = (false, i + 1, dg) := by unfold zRd; rw [if_neg h]
      have e2 := dt_57n hg h
      rw [rEnd_eq, e2, ez]
      exact rc_ok rfl rfl (fun h => absurd h Bool.false_ne_true)
  · rw [if_neg c1, if_neg c1]
    by_cases c2 : zSg g n i = 45
    · rw [if_pos c2, if_pos c2, c2]
      by_cases h : zDh g n (i + 1) < 10
      · obtain ⟨e1, e2⟩ := pr_y hg (pl := pl) h
        rw [e1]
        exact rc_ok rfl e2 (fun _ => ⟨rfl, rfl, rfl⟩)
      · obtain ⟨e1, e2⟩ := pr_n hg (pl := pl) h
        rw [rEnd_eq, e1, e2]
        exact rc_ok rfl rfl (fun h => absurd h Bool.false_ne_true)
    · rw [if_neg c2, if_neg c2]
      by_cases c3 : zSg g n i = 126
      · rw [if_pos c3, if_pos c3, c3]
        by_cases h : zDh g n (i + 1) < 6
        · have ez : zRd g n (i + 1) dg 6 = (true, i + 1 + 1, zDh g n (i + 1)) := by unfold zRd; rw [if_pos (by omega), if_pos h]
          rw [dt_53 hg h, ez]
          exact rc_ok rfl rfl (fun _ => ⟨rfl, rfl, rfl⟩)
        · have ez : zRd g n (i + 1) dg 6 = (false, i + 1, dg) := by
            unfold zRd
            by_cases h9 : zDh g n (i + 1) < 10
            · rw [if_pos h9, if_neg h]
            · rw [if_neg h9]
          have e2 := dt_53n hg h
          rw [rEnd_eq, e2, ez]
          exact rc_ok rfl rfl (fun h => absurd h Bool.false_ne_true)
      · rw [if_neg c3, if_neg c3]
        by_cases h : zDh g n i < 10
        · obtain ⟨e1, e2⟩ := pr_y hg (pl := pl) h
          rw [e1, e2, if_pos rfl]
          generalize hz : zRp g n i pl = z at *
          obtain ⟨z1, z2, z3⟩ := z
          show zRcOk (if (true && decide (zSg g n z2 = 61)) = true then _ else _) _ rd rm
          by_cases h4 : zSg g n z2 = 61
          · have er : zRs g n z2 61 = (true, z2 + 1) := by unfold zRs; rw [if_pos h4]
            rw [er, decide_eq_true h4]
            by_cases h5 : zDh g n (z2 + 1) < 10
            · have ez : zRd g n (z2 + 1) dg 10 = (true, z2 + 1 + 1, zDh g n (z2 + 1)) := by unfold zRd; rw [if_pos h5, if_pos h5]
              show zRcOk (rEnd (rDt g n (z2 + 1) true 57) _ rm) ((zRd g n (z2 + 1) dg 10).1, (zRd g n (z2 + 1) dg 10).2.1, 61, z3, (zRd g n (z2 + 1) dg 10).2.2) rd rm
              rw [dt_57 hg h5, ez]
              exact rc_ok rfl rfl (fun _ => ⟨rfl, rfl, rfl⟩)
            · have ez : zRd g n (z2 + 1) dg 10 = (false, z2 + 1, dg) := by unfold zRd; rw [if_neg h5]
              have e3 := dt_57n hg h5
              show zRcOk (rEnd (rDt g n (z2 + 1) true 57) _ rm) ((zRd g n (z2 + 1) dg 10).1, (zRd g n (z2 + 1) dg 10).2.1, 61, z3, (zRd g n (z2 + 1) dg 10).2.2) rd rm
              rw [rEnd_eq, e3, ez]
              exact rc_ok rfl rfl (fun h => absurd h Bool.false_ne_true)
          · have er : zRs g n z2 61 = (false, z2) := by unfold zRs; rw [if_neg h4]
            rw [er, decide_eq_false h4]
            show zRcOk (rEnd (rDt g n z2 false 57) _ rm) (false, z2, 61, z3, dg) rd rm
            rw [rEnd_eq]
            exact rc_ok rfl rfl (fun h => absurd h Bool.false_ne_true)
        · obtain ⟨e1, e2⟩ := pr_n hg (pl := pl) h
          have e3 : (rPr g n i true).2.2 = false := by rw [e1]
          have e4 : (rPr g n i true).2.1 = i := by rw [e1]
          rw [e2, e3, e4]
          show zRcOk (rEnd (rDt g n i false 57) _ rm) (false, i, 61, pl, dg) rd rm
          rw [rEnd_eq]
          exact rc_ok rfl rfl (fun h => absurd h Bool.false_ne_true)
end RC
