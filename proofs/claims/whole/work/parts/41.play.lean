/-! a play as a whole: what the reference's contract asks, and what both make -/
theorem rs_play {g : Nat → Nat} {n : Nat} (hg : ∀ k, g k < 128) (hn : n ≤ 60) {q pl dg : Nat} {rd : Nat → Int32} (h1 : (zRa g n q pl dg).1 = true) :
    (rRa g n rd).2.1 = true ∧ (rRa g n rd).2.2.2 ≤ 30 ∧
    (∀ j, j < (rRa g n rd).2.2.2 → (rRa g n rd).2.2.1 (3 * j) = nI (zUj g n j).1 ∧ (rRa g n rd).2.2.1 (3 * j + 1) = nI (zUj g n j).2.1 ∧ (rRa g n rd).2.2.1 (3 * j + 2) = nI (zUj g n j).2.2 ∧ (zUj g n j).2.1 < 24 ∧ (zUj g n j).2.2 < 10 ∧ ((zUj g n j).1 = 43 ∨ (zUj g n j).1 = 45 ∨ (zUj g n j).1 = 61 ∨ ((zUj g n j).1 = 126 ∧ (zUj g n j).2.1 < 6))) ∧
    ∀ (B : Nat) (Z : zSt) (sf : Nat → Int32) (q' pl' dg' : Nat), B + 30 < 2 ^ 31 → zIS Z B → zRS Z sf →
      (zPl g n q' pl' dg' Z).1 = nI (rPlF (fun j => (zUj g n j).1) (fun j => (zUj g n j).2.1) (fun j => (zUj g n j).2.2) (rRa g n rd).2.2.2 0 sf).1 ∧ zRS (zPl g n q' pl' dg' Z).2.1 (rPlF (fun j => (zUj g n j).1) (fun j => (zUj g n j).2.1) (fun j => (zUj g n j).2.2) (rRa g n rd).2.2.2 0 sf).2 ∧ zIS (zPl g n q' pl' dg' Z).2.1 (B + 30) := by
  obtain ⟨a1, a2, a3⟩ := ra_ok hg hn q pl dg rd
  obtain ⟨b1, b2, b3, b4⟩ := a3 h1
  rw [h1] at a2
  refine ⟨a2, by omega, fun j hj => ?_, fun B Z sf q' pl' dg' hB hI hR => ?_⟩
  · obtain ⟨c1, c2, c3, c4⟩ := b4 j hj
    obtain ⟨d1, d2, d3⟩ := uj_v c1
    exact ⟨c2, c3, c4, d1, d2, d3⟩
  · have h := rs_pl (g := g) (n := n) (m := (rRa g n rd).2.2.2) (by omega) (fun j hj => (b4 j hj).1) b2 b3 60 0 B Z sf (0, q', pl', dg') (Nat.zero_le _) (by omega) (by omega) rfl hI hR
    rw [Nat.sub_zero] at h
    exact ⟨h.1, h.2.1, h.2.2.mono (by omega)⟩
