/-! both readers of the buffer -/
section RD
variable {g : Nat → Nat} {n i : Nat}
theorem zSg_b (hg : ∀ k, g k < 128) : zSg g n i < 128 := zSg_lt hg
theorem dw_57 (hg : ∀ k, g k < 128) : rDw g n i true 57 = decide (zDh g n i < 10) := by
  have hb := zSg_lt (n := n) (i := i) hg
  unfold rDw rIn
  rw [show (48 : Int32) = nI 48 from rfl, show (57 : Int32) = nI 57 from rfl]
  unfold zDh
  by_cases h1 : zSg g n i < 48
  · rw [if_pos h1, decide_eq_true (nI_lt h1 (by decide))]; rfl
  · rw [if_neg h1, decide_eq_false (nI_nlt (by omega) (by omega))]
    by_cases h2 : 57 < zSg g n i
    · rw [if_pos h2, decide_eq_true (nI_lt h2 (by omega))]; rfl
    · rw [if_neg h2, decide_eq_false (nI_nlt (by omega) (by decide)), decide_eq_true (show zSg g n i - 48 < 10 by omega)]; rfl
theorem dw_53 (hg : ∀ k, g k < 128) : rDw g n i true 53 = decide (zDh g n i < 6) := by
  have hb := zSg_lt (n := n) (i := i) hg
  unfold rDw rIn
  rw [show (48 : Int32) = nI 48 from rfl, show (53 : Int32) = nI 53 from rfl]
  unfold zDh
  by_cases h1 : zSg g n i < 48
  · rw [if_pos h1, decide_eq_true (nI_lt h1 (by decide))]; rfl
  · rw [if_neg h1, decide_eq_false (nI_nlt (by omega) (by omega))]
    by_cases h2 : 53 < zSg g n i
    · rw [decide_eq_true (nI_lt h2 (by omega))]
      by_cases h3 : 57 < zSg g n i
      · rw [if_pos h3]; rfl
      · rw [if_neg h3, decide_eq_false (show ¬ zSg g n i - 48 < 6 by omega)]; rfl
    · rw [if_neg (by omega), decide_eq_false (nI_nlt (by omega) (by decide)), decide_eq_true (show zSg g n i - 48 < 6 by omega)]; rfl
theorem zDh_v (h : zDh g n i < 10) : nI (zSg g n i) - 48 = nI (zDh g n i) := by
  unfold zDh at h ⊢
  split at h
  · omega
  · split at h
    · omega
    · rename_i h1 h2
      rw [if_neg h1, if_neg h2]
      exact pk_sub (a := zSg g n i) (b := 48) (by omega)
theorem dt_57 (hg : ∀ k, g k < 128) (h : zDh g n i < 10) : rDt g n i true 57 = (nI (zDh g n i), i + 1, true) := by
  unfold rDt
  rw [dw_57 hg, decide_eq_true h, zDh_v h]; rfl
theorem dt_57n (hg : ∀ k, g k < 128) (h : ¬ zDh g n i < 10) : (rDt g n i true 57).2 = (i, false) := by
  unfold rDt
  rw [dw_57 hg, decide_eq_false h]; rfl
theorem dt_53 (hg : ∀ k, g k < 128) (h : zDh g n i < 6) : rDt g n i true 53 = (nI (zDh g n i), i + 1, true) := by
  unfold rDt
  rw [dw_53 hg, decide_eq_true h, zDh_v (by omega)]; rfl
theorem dt_53n (hg : ∀ k, g k < 128) (h : ¬ zDh g n i < 6) : (rDt g n i true 53).2 = (i, false) := by
  unfold rDt
  rw [dw_53 hg, decide_eq_false h]; rfl
theorem dt_f {e : Int32} : (rDt g n i false e).2 = (i, false) := rfl
theorem pr_y (hg : ∀ k, g k < 128) {pl : Nat} (h : zDh g n i < 10) : rPr g n i true = (nI (zRp g n i pl).2.2, (zRp g n i pl).2.1, true) ∧ (zRp g n i pl).1 = true := by
  unfold rPr zRp
  rw [dt_57 hg h, if_pos h]
  show (if true = true then (if nI (zDh g n i) ≤ 0 then (nI (zDh g n i), i + 1, true) else if rIn (nI (zSg g n (i + 1))) 48 57 then (if 24 ≤ 10 * nI (zDh g n i) + nI (zSg g n (i + 1)) - 48 then (nI (zDh g n i), i + 1, true) else (10 * nI (zDh g n i) + (rDt g n (i + 1) true 57).1, (rDt g n (i + 1) true 57).2.1, (rDt g n (i + 1) true 57).2.2)) else (nI (zDh g n i), i + 1, true)) else (nI (zDh g n i), i + 1, true)) = _ ∧ _
  rw [if_pos rfl]
  by_cases h0 : zDh g n i = 0
  · rw [if_pos h0, h0, if_pos (by decide)]; exact ⟨rfl, rfl⟩
  · rw [if_neg h0, if_neg (nI_nle (by omega) (by omega))]
    have e1 : rIn (nI (zSg g n (i + 1))) 48 57 = decide (zDh g n (i + 1) < 10) := by
      have := dw_57 (n := n) (i := i + 1) hg
      unfold rDw at this
      simpa using this
    rw [e1]
    by_cases h1 : zDh g n (i + 1) < 10
    · have e2 : 10 * nI (zDh g n i) + nI (zSg g n (i + 1)) - 48 = nI (10 * zDh g n i + zDh g n (i + 1)) := by
        have hs : zSg g n (i + 1) = zDh g n (i + 1) + 48 := by
          unfold zDh at h1 ⊢
          split at h1
          · omega
          · split at h1
            · omega
            · rename_i a b; rw [if_neg a, if_neg b]; omega
        rw [show (10 : Int32) = nI 10 from rfl, pk_mul, nI_add, hs, show 10 * zDh g n i + (zDh g n (i + 1) + 48) = 10 * zDh g n i + zDh g n (i + 1) + 48 by omega]
        exact pk_sub (a := 10 * zDh g n i + zDh g n (i + 1) + 48) (b := 48) (by omega)
      rw [if_pos h1, decide_eq_true h1, e2, dt_57 hg h1]
      show (if (true : Bool) = true then _ else _) = _ ∧ _
      rw [if_pos rfl]
      by_cases h2 : 24 ≤ 10 * zDh g n i + zDh g n (i + 1)
      · rw [if_pos h2, if_pos (show (24 : Int32) ≤ _ from nI_le h2 (by omega))]; exact ⟨rfl, rfl⟩
      · rw [if_neg h2, if_neg (show ¬ (24 : Int32) ≤ _ from nI_ge (a := 10 * zDh g n i + zDh g n (i + 1)) (b := 24) (by omega) (by decide))]
        refine ⟨?_, rfl⟩
        show (10 * nI (zDh g n i) + nI (zDh g n (i + 1)), i + 1 + 1, true) = _
        rw [show (10 : Int32) = nI 10 from rfl, pk_mul, nI_add]
    · rw [if_neg h1, decide_eq_false h1]; exact ⟨rfl, rfl⟩
theorem pr_n (hg : ∀ k, g k < 128) {pl : Nat} (h : ¬ zDh g n i < 10) : (rPr g n i true).2 = (i, false) ∧ zRp g n i pl = (false, i, pl) := by
  have h2 := dt_57n hg h
  have h3 : (rDt g n i true 57).2.2 = false := by rw [h2]
  refine ⟨?_, by unfold zRp; rw [if_neg h]⟩
  unfold rPr
  rw [h3, if_neg Bool.false_ne_true]
  exact h2
end RD
