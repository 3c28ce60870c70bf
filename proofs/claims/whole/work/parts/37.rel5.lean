/-! play: the parts made, by both -/
def zMu (Z : zSt) (u : Nat × Nat × Nat) : Bool × zSt :=
  if u.1 = 43 then (decide (¬ (zPut Z.1 (nI u.2.2)).1 = -1), (zPut Z.1 (nI u.2.2)).2, Z.2)
  else if u.1 = 45 then ((zTake Z.1 u.2.1).1, (zTake Z.1 u.2.1).2, Z.2)
  else if u.1 = 61 then (decide (¬ (zChg Z.1 u.2.1 (nI u.2.2)).1 = -1), (zChg Z.1 u.2.1 (nI u.2.2)).2, Z.2)
  else (true, (zSweep Z.1 u.2.1 (zHor Z)).2, Z.2)
def zUv (u : Nat × Nat × Nat) : Prop := u.2.1 < 24 ∧ u.2.2 < 10 ∧ (u.1 = 43 ∨ u.1 = 45 ∨ u.1 = 61 ∨ (u.1 = 126 ∧ u.2.1 < 6))
theorem mk_u (Z : zSt) {q pl dg : Nat} (h : q = 43 ∨ q = 45 ∨ q = 61 ∨ q = 126) : zMake Z q pl dg = zMu Z (zUs q pl dg) := by
  rcases h with rfl | rfl | rfl | rfl
  · show zMake Z 43 pl dg = zMu Z (43, 0, dg)
    unfold zMake zMu
    rw [if_pos rfl, if_pos rfl]
  · show zMake Z 45 pl dg = zMu Z (45, pl, 0)
    unfold zMake zMu
    rw [if_neg (by decide), if_pos rfl, if_neg (show ¬ (45 : Nat) = 43 by decide), if_pos rfl]
  · show zMake Z 61 pl dg = zMu Z (61, pl, dg)
    unfold zMake zMu
    rw [if_neg (by decide), if_neg (by decide), if_pos rfl, if_neg (show ¬ (61 : Nat) = 43 by decide), if_neg (show ¬ (61 : Nat) = 45 by decide), if_pos rfl]
  · show zMake Z 126 pl dg = zMu Z (126, dg, 0)
    unfold zMake zMu
    rw [if_neg (by decide), if_neg (by decide), if_neg (by decide), if_neg (show ¬ (126 : Nat) = 43 by decide), if_neg (show ¬ (126 : Nat) = 45 by decide), if_neg (show ¬ (126 : Nat) = 61 by decide)]
theorem us_v {q pl dg : Nat} (hp : pl < 24) (hd : dg < 10) (h : q = 43 ∨ q = 45 ∨ q = 61 ∨ (q = 126 ∧ dg < 6)) : zUv (zUs q pl dg) := by
  rcases h with rfl | rfl | rfl | ⟨rfl, h⟩
  · exact ⟨by show 0 < 24; decide, hd, Or.inl rfl⟩
  · exact ⟨hp, by show 0 < 10; decide, Or.inr (Or.inl rfl)⟩
  · exact ⟨hp, hd, Or.inr (Or.inr (Or.inl rfl))⟩
  · exact ⟨by show dg < 24; omega, by show 0 < 10; decide, Or.inr (Or.inr (Or.inr ⟨rfl, h⟩))⟩
theorem rs_mk {Z : zSt} {sf : Nat → Int32} {B : Nat} (hb : B < 2 ^ 31) (hI : zIS Z B) (hR : zRS Z sf) {u : Nat × Nat × Nat} (hu : zUv u) :
    (zMu Z u).1 = (rMk sf u.1 u.2.1 u.2.2).1 ∧ zRS (zMu Z u).2 (rMk sf u.1 u.2.1 u.2.2).2 ∧ zIS (zMu Z u).2 (B + 1) := by
  obtain ⟨q, k, d⟩ := u
  obtain ⟨h1, h2, h3⟩ := hu
  have h1 : k < 24 := h1
  have h2 : d < 10 := h2
  have hIn : rIn (nI k) 0 23 = true := rIn_t (a := 0) (b := 23) (by omega) (by omega) (by decide)
  have hlow := r_low hI.1 hR.1
  have hseen := r_seen hI.1 hR.1 h1 (sf 0)
  have h0 : sf 0 = Z.1.2.2.2.2.1 := hR.1.2.2.1
  rw [h0] at hseen
  have hneg : ¬ nI (zLow Z.1) = -1 := by
    have := (zfst_le (fun k => decide (Z.1.1 k = -1)) 24 0).2
    exact nI_nem1 (show zLow Z.1 < 2 ^ 31 by unfold zLow; omega)
  rcases (show q = 43 ∨ q = 45 ∨ q = 61 ∨ (q = 126 ∧ k < 6) from h3) with rfl | rfl | rfl | ⟨rfl, h6⟩
  · show decide (¬ (zPut Z.1 (nI d)).1 = -1) = (rMk sf 43 k d).1 ∧ zRS ((zPut Z.1 (nI d)).2, Z.2) (rMk sf 43 k d).2 ∧ zIS ((zPut Z.1 (nI d)).2, Z.2) (B + 1)
    have hc : rCan sf 43 (nI k) (rSeen sf k (sf 0)) = decide (zLow Z.1 < 24) := by unfold rCan; rw [hlow]; simp
    unfold rMk
    rw [if_neg (by decide), hc]
    by_cases hl : zLow Z.1 < 24
    · obtain ⟨a1, a2, a3⟩ := rs_put hI hR h2 hl
      have e : rChg sf 43 k (nI d) = rChg sf 43 0 (nI d) := rfl
      rw [decide_eq_true hl, if_pos rfl, e]
      refine ⟨?_, a1, a2⟩
      rw [a3, hlow, decide_eq_true hneg]
    · have e : zPut Z.1 (nI d) = (-1, Z.1) := by unfold zPut; rw [if_neg hl]
      rw [decide_eq_false hl, if_neg Bool.false_ne_true, e]
      exact ⟨rfl, hR, hI.mono (by omega)⟩
  · show (zTake Z.1 k).1 = (rMk sf 45 k d).1 ∧ zRS ((zTake Z.1 k).2, Z.2) (rMk sf 45 k d).2 ∧ zIS ((zTake Z.1 k).2, Z.2) (B + 1)
    have hc : rCan sf 45 (nI k) (rSeen sf k (sf 0)) = zSeen Z.1 k Z.1.2.2.2.2.1 := by unfold rCan; rw [h0, hseen, hIn]; simp
    unfold rMk
    rw [if_neg (by decide), hc]
    by_cases hs : zSeen Z.1 k Z.1.2.2.2.2.1 = true
    · obtain ⟨a1, a2, -⟩ := rs_take hI hR h1 hs
      have e : rChg sf 45 k (nI d) = rChg sf 45 k 0 := rfl
      rw [if_pos hs, e]
      refine ⟨?_, a1, a2⟩
      unfold zTake
      rw [if_pos hs]
    · have e : zTake Z.1 k = (false, Z.1) := by unfold zTake; rw [if_neg hs]
      rw [if_neg hs, e]
      exact ⟨rfl, hR, hI.mono (by omega)⟩
  · show decide (¬ (zChg Z.1 k (nI d)).1 = -1) = (rMk sf 61 k d).1 ∧ zRS ((zChg Z.1 k (nI d)).2, Z.2) (rMk sf 61 k d).2 ∧ zIS ((zChg Z.1 k (nI d)).2, Z.2) (B + 1)
    have hc : rCan sf 61 (nI k) (rSeen sf k (sf 0)) = (zSeen Z.1 k Z.1.2.2.2.2.1 && decide (zLow Z.1 < 24)) := by unfold rCan; rw [h0, hseen, hIn, hlow]; simp
    unfold rMk
    rw [if_neg (by decide), hc]
    by_cases hl : zLow Z.1 < 24
    · by_cases hs : zSeen Z.1 k Z.1.2.2.2.2.1 = true
      · obtain ⟨a1, a2, a3⟩ := rs_change hI hR h1 h2 hl hs
        rw [hs, decide_eq_true hl, if_pos (show (true && true) = true from rfl)]
        refine ⟨?_, a1, a2⟩
        rw [a3, hlow, decide_eq_true hneg]
      · have e : zChg Z.1 k (nI d) = (-1, Z.1) := by unfold zChg; rw [if_pos hl, if_neg hs]
        have hs' : zSeen Z.1 k Z.1.2.2.2.2.1 = false := by simpa using hs
        rw [hs', e, if_neg (by simp)]
        exact ⟨rfl, hR, hI.mono (by omega)⟩
    · have e : zChg Z.1 k (nI d) = (-1, Z.1) := by unfold zChg; rw [if_neg hl]
      rw [decide_eq_false hl, e, if_neg (by simp)]
      exact ⟨rfl, hR, hI.mono (by omega)⟩
  · show true = (rMk sf 126 k d).1 ∧ zRS ((zSweep Z.1 k (zHor Z)).2, Z.2) (rMk sf 126 k d).2 ∧ zIS ((zSweep Z.1 k (zHor Z)).2, Z.2) (B + 1)
    obtain ⟨-, a2, a3, -⟩ := rs_sweep hb hI hR h6
    exact ⟨rfl, a2, a3.mono (by omega)⟩
theorem uj_v {g : Nat → Nat} {n j : Nat} (h : zOj g n j = true) : zUv (zUj g n j) := by
  have h1 := zRn_ok (g := g) (n := n) (i := zAt g n j) (q := 0) (pl := 0) (dg := 0) (by decide) (by decide)
  exact us_v h1.1 h1.2 (zRn_q h)
theorem rs_pl {g : Nat → Nat} {n m : Nat} (hm : m < 100) (hok : ∀ j, j < m → zOj g n j = true) (hend : n ≤ zAt g n m) (h0 : 0 < zAt g n m) :
    ∀ (f j B : Nat) (Z : zSt) (sf : Nat → Int32) (X : zRt), j ≤ m → m ≤ j + f → B + (m - j) < 2 ^ 31 → X.1 = zAt g n j → zIS Z B → zRS Z sf →
      (fun r r' => r.1 = nI r'.1 ∧ zRS r.2.1 r'.2 ∧ zIS r.2.1 (B + (m - j))) (zmpF g n f (nI j) Z X) (rPlF (fun j => (zUj g n j).1) (fun j => (zUj g n j).2.1) (fun j => (zUj g n j).2.2) (m - j) j sf) := by
  intro f
  induction f with
  | zero =>
    intro j B Z sf X hj hf hB hX hI hR
    obtain rfl : j = m := by omega
    rw [Nat.sub_self]
    exact ⟨rfl, hR, hI⟩
  | succ f ih =>
    intro j B Z sf X hj hf hB hX hI hR
    have i1 := rn_i (g := g) (n := n) (i := X.1) X.2.1 X.2.2.1 X.2.2.2 0 0 0
    by_cases hjm : j = m
    · subst hjm
      have eb : (zRn g n X.1 X.2.1 X.2.2.1 X.2.2.2).1 = false := by
        unfold zRn zRs
        have hs : ¬ zSg g n X.1 = 44 := by unfold zSg; rw [if_neg (by omega)]; decide
        rw [if_neg (by omega), if_neg hs]
        rfl
      rw [Nat.sub_self]
      unfold zmpF
      rw [eb, if_neg Bool.false_ne_true]
      exact ⟨rfl, hR, hI⟩
    · have hw : (zRn g n X.1 X.2.1 X.2.2.1 X.2.2.2).1 = true := by rw [i1.1, hX]; exact hok j (by omega)
      have hq := zRn_q hw
      have hmk : zMake Z (zRn g n X.1 X.2.1 X.2.2.1 X.2.2.2).2.2.1 (zRn g n X.1 X.2.1 X.2.2.1 X.2.2.2).2.2.2.1 (zRn g n X.1 X.2.1 X.2.2.1 X.2.2.2).2.2.2.2 = zMu Z (zUj g n j) := by
        rw [mk_u Z (by rcases hq with h | h | h | ⟨h, -⟩ <;> simp [h])]
        have := i1.2.2 hw
        unfold zUj
        rw [← hX, ← this]
        rfl
      obtain ⟨a1, a2, a3⟩ := rs_mk (by omega) hI hR (uj_v (hok j (by omega)))
      rw [show m - j = (m - (j + 1)) + 1 by omega]
      unfold zmpF rPlF
      rw [if_pos hw, hmk, a1]
      by_cases hc : (rMk sf (zUj g n j).1 (zUj g n j).2.1 (zUj g n j).2.2).1 = true
      · rw [if_pos hc, if_pos hc, nI_1]
        have h := ih (j + 1) (B + 1) (zMu Z (zUj g n j)).2 _ (zRn g n X.1 X.2.1 X.2.2.1 X.2.2.2).2 (by omega) (by omega) (by omega) (by rw [i1.2.1, hX]; rfl) a3 a2
        exact ⟨h.1, h.2.1, h.2.2.mono (by omega)⟩
      · rw [if_neg hc, if_neg hc]
        exact ⟨rfl, a2, a3.mono (by omega)⟩
