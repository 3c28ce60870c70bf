/-! at the start; arguments in range -/
def zT0 : zTb := (zFil 24 (-1) (fun _ => 0), zFil 24 (-1) (fun _ => 0), zFil 24 (-1) (fun _ => 0), zFil 6 (-1) (fun _ => 0), 0, 0)
def zS0 : zSt := (zT0, (zFil 4 (-1) (fun _ => 0), fun _ => 0), (fun _ => 0), 0, 0)
theorem zFil_lt {k j : Nat} {v : Int32} {f : Nat → Int32} (h : j < k) : zFil k v f j = v := by unfold zFil; exact if_pos h
theorem rs_init : zRS zS0 (fun _ => 0) ∧ zIS zS0 0 := by
  have e1 : ∀ k, k < 24 → zS0.1.1 k = -1 := fun k hk => by show zFil 24 (-1) (fun _ => 0) k = -1; exact zFil_lt hk
  have e2 : ∀ k, k < 24 → zS0.1.2.1 k = -1 := fun k hk => by show zFil 24 (-1) (fun _ => 0) k = -1; exact zFil_lt hk
  have e3 : ∀ k, k < 24 → zS0.1.2.2.1 k = -1 := fun k hk => by show zFil 24 (-1) (fun _ => 0) k = -1; exact zFil_lt hk
  have e4 : ∀ k, k < 6 → zS0.1.2.2.2.1 k = -1 := fun k hk => by show zFil 6 (-1) (fun _ => 0) k = -1; exact zFil_lt hk
  have e5 : ∀ k, k < 4 → zS0.2.1.1 k = -1 := fun k hk => by show zFil 4 (-1) (fun _ => 0) k = -1; exact zFil_lt hk
  refine ⟨⟨⟨fun k hk => ⟨?_, fun _ => ⟨rfl, rfl⟩, fun h => absurd (e1 k hk) h⟩, fun p hp => ⟨fun _ => ⟨rfl, rfl⟩, fun h => absurd (e4 p hp) h⟩, rfl, rfl⟩, fun a ha => ⟨?_, rfl⟩, fun w hw => rfl, rfl, rfl⟩, fun k hk => Or.inl ⟨e1 k hk, e2 k hk, e3 k hk⟩, fun p hp => Or.inl (e4 p hp), ⟨0, Nat.le_refl _, rfl⟩, fun a ha => Or.inl (e5 a ha)⟩
  · rw [e1 k hk]; rfl
  · rw [e5 a ha]; rfl
theorem sr_init (G : Nat → zSt) (sv : Nat → Int32) (B : Nat) : zSR G 0 0 sv B := ⟨by decide, by decide, fun j hj => absurd hj (Nat.not_lt_zero j)⟩
theorem i_nat {v : Int32} (h : ¬ v < 0) : ∃ k, k < 2 ^ 31 ∧ v = nI k := by
  rw [Int32.lt_iff_toInt_lt] at h
  have h0 : (0 : Int32).toInt = 0 := by decide
  have h1 := Int32.toInt_lt v
  refine ⟨v.toInt.toNat, by omega, Int32.toInt_inj.mp ?_⟩
  rw [nI_toInt (by omega)]
  omega
theorem ou_n {v : Int32} {u : Nat} (hu : u < 2 ^ 31) (h : zOu v (nI u) = false) : ∃ k, k < u ∧ v = nI k := by
  unfold zOu at h
  rw [Bool.or_eq_false_iff] at h
  have h1 : ¬ v < 0 := by simpa using h.1
  have h2 : v < nI u := by simpa using h.2
  obtain ⟨k, h3, rfl⟩ := i_nat h1
  exact ⟨k, (nI_ltI h3 hu).mp h2, rfl⟩
theorem ou_in {v : Int32} {u : Nat} (hu : u + 1 < 2 ^ 31) : rIn v 0 (nI u) = !zOu v (nI (u + 1)) := by
  unfold rIn zOu
  by_cases h : v < 0
  · simp [h]
  · obtain ⟨k, h3, rfl⟩ := i_nat h
    have e1 : decide (nI u < nI k) = decide (u < k) := by
      by_cases q : u < k
      · rw [decide_eq_true q, decide_eq_true (nI_lt q h3)]
      · rw [decide_eq_false q, decide_eq_false (nI_nlt (by omega) (by omega))]
    have e2 : decide (nI k < nI (u + 1)) = decide (k < u + 1) := by
      by_cases q : k < u + 1
      · rw [decide_eq_true q, decide_eq_true (nI_lt q (by omega))]
      · rw [decide_eq_false q, decide_eq_false (nI_nlt (by omega) (by omega))]
    rw [e1, e2, decide_eq_false h]
    by_cases q : u < k
    · rw [decide_eq_true q, decide_eq_false (show ¬ k < u + 1 by omega)]; rfl
    · rw [decide_eq_false q, decide_eq_true (show k < u + 1 by omega)]; rfl
theorem mp_n (T : zTb) : ∃ q, q < 7 ∧ zMp T = nI q := by
  obtain ⟨m, h1, h2⟩ := zcnt_n (P := zMk T) 6 0 0
  exact ⟨m, by omega, by rw [Nat.zero_add] at h2; exact h2⟩
theorem mp_ok (T : zTb) : zOk (zSh (zMp T)) ∧ ∃ q, q < 7 ∧ zSh (zMp T) = zSh (nI q) := by
  obtain ⟨q, h1, h2⟩ := mp_n T
  rw [h2]
  exact ⟨zSh_ok q h1, q, h1, rfl⟩
