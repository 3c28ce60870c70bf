/-! the class' state beside the reference's row: the relation, and what both tell under it -/
def zVal (T : zTb) : Prop := ∀ k, k < 24 → (T.1 k = -1 ∧ T.2.1 k = -1 ∧ T.2.2.1 k = -1) ∨ (∃ d, d < 10 ∧ T.1 k = nI d)
def zBy (T : zTb) : Prop := ∀ p, p < 6 → T.2.2.2.1 p = -1 ∨ 0 ≤ T.2.2.2.1 p
def zRT (T : zTb) (sf : Nat → Int32) : Prop := (∀ k, k < 24 → sf (7 + 3 * k + 0) = T.1 k + 1 ∧ (T.1 k = -1 → sf (7 + 3 * k + 1) = 0 ∧ sf (7 + 3 * k + 2) = 0) ∧ (¬ T.1 k = -1 → sf (7 + 3 * k + 1) = T.2.1 k ∧ sf (7 + 3 * k + 2) = T.2.2.1 k)) ∧ (∀ p, p < 6 → (T.2.2.2.1 p = -1 → sf (79 + 2 * p + 0) = 0 ∧ sf (79 + 2 * p + 1) = 0) ∧ (¬ T.2.2.2.1 p = -1 → sf (79 + 2 * p + 0) = 1 ∧ sf (79 + 2 * p + 1) = T.2.2.2.1 p)) ∧ sf 0 = T.2.2.2.2.1 ∧ sf 6 = T.2.2.2.2.2
def zRS (Z : zSt) (sf : Nat → Int32) : Prop := zRT Z.1 sf ∧ (∀ a, a < 4 → sf (91 + 2 * a + 0) = Z.2.1.1 a + 1 ∧ sf (91 + 2 * a + 1) = Z.2.1.2 a) ∧ (∀ w, w < 3 → sf (1 + w) = Z.2.2.1 w) ∧ sf 4 = Z.2.2.2.1 ∧ sf 5 = Z.2.2.2.2
def zIT (T : zTb) : Prop := zVal T ∧ zBy T
theorem i_add1 {x y : Int32} : x + 1 = y + 1 ↔ x = y := ⟨fun h => by rw [← Int32.add_sub_cancel x 1, h, Int32.add_sub_cancel], fun h => by rw [h]⟩
theorem i_sub1 {x : Int32} : x + 1 - 1 = x := Int32.add_sub_cancel x 1
theorem i_le {x y : Int32} : x ≤ y ↔ ¬ y < x := by rw [Int32.le_iff_toInt_le, Int32.lt_iff_toInt_lt]; omega
theorem i_lt {x y : Int32} : x < y ↔ ¬ y ≤ x := by rw [Int32.le_iff_toInt_le, Int32.lt_iff_toInt_lt]; omega
theorem zcnt_c {P R : Nat → Bool} : ∀ (f k : Nat) (a : Int32), (∀ j, k ≤ j → j < k + f → P j = R j) → zcnt P f k a = zcnt R f k a := by
  intro f
  induction f with
  | zero => intro k a _; rfl
  | succ f ih =>
    intro k a h
    show zcnt P f (k + 1) _ = zcnt R f (k + 1) _
    rw [h k (Nat.le_refl _) (by omega)]
    exact ih _ _ (fun j h1 h2 => h j (by omega) (by omega))
theorem zany_c {P R : Nat → Bool} : ∀ (f k : Nat), (∀ j, k ≤ j → j < k + f → P j = R j) → zany P f k = zany R f k := by
  intro f
  induction f with
  | zero => intro k _; rfl
  | succ f ih =>
    intro k h
    show (P k || zany P f (k + 1)) = (R k || zany R f (k + 1))
    rw [h k (Nat.le_refl _) (by omega), ih _ (fun j h1 h2 => h j (by omega) (by omega))]
theorem zfst_c {P R : Nat → Bool} : ∀ (f k : Nat), (∀ j, k ≤ j → j < k + f → P j = R j) → zfst P f k = zfst R f k := by
  intro f
  induction f with
  | zero => intro k _; rfl
  | succ f ih =>
    intro k h
    show (if P k then k else zfst P f (k + 1)) = (if R k then k else zfst R f (k + 1))
    rw [h k (Nat.le_refl _) (by omega), ih _ (fun j h1 h2 => h j (by omega) (by omega))]
theorem zhz_c {sn sm : Nat → Int32} {o : Int32} : ∀ (f k : Nat) (x : Int32), (∀ j, k ≤ j → j < k + f → sn j = sm j) → zhz sn o f k x = zhz sm o f k x := by
  intro f
  induction f with
  | zero => intro k x _; rfl
  | succ f ih =>
    intro k x h
    have h1 := h k (Nat.le_refl _) (by omega)
    have h2 : ∀ y, zhz sn o f (k + 1) y = zhz sm o f (k + 1) y := fun y => ih (k + 1) y (fun j a b => h j (by omega) (by omega))
    show (if nI k = o then zhz sn o f (k + 1) x else if sn k = -1 then zhz sn o f (k + 1) x else if x ≤ sn k then zhz sn o f (k + 1) x else zhz sn o f (k + 1) (sn k)) = (if nI k = o then zhz sm o f (k + 1) x else if sm k = -1 then zhz sm o f (k + 1) x else if x ≤ sm k then zhz sm o f (k + 1) x else zhz sm o f (k + 1) (sm k))
    rw [h1, h2, h2]
section REL
variable {T : zTb} {sf : Nat → Int32}
theorem r_full (hI : zVal T) (hR : zRT T sf) {k : Nat} (hk : k < 24) : rFull sf k = decide (¬ T.1 k = -1) := by
  unfold rFull rOf
  rw [(hR.1 k hk).1]
  rcases hI k hk with ⟨h, -, -⟩ | ⟨d, hd, h⟩
  · rw [h]; decide
  · rw [h, nI_1]
    have h1 : ¬ nI (d + 1) ≤ 0 := nI_nle (by omega) (by omega)
    have h2 : ¬ nI d = -1 := nI_nem1 (by omega)
    simp [h1, h2]
theorem r_seen (hI : zVal T) (hR : zRT T sf) {k : Nat} (hk : k < 24) (t : Int32) : rSeen sf k t = zSeen T k t := by
  unfold rSeen zSeen
  rw [r_full hI hR hk]
  by_cases hv : T.1 k = -1
  · simp [hv]
  · obtain ⟨h1, h2⟩ := (hR.1 k hk).2.2 hv
    unfold rOf
    rw [h1, h2]
    by_cases hc : t < T.2.1 k
    · simp [hv, hc]
    · by_cases hw : T.2.2.1 k = 0
      · simp [hv, hc, hw]
      · simp only [hv, hc, hw, if_false, decide_false, Bool.not_false, Bool.true_and, Bool.false_or, not_false_eq_true, decide_true]
        by_cases hl : T.2.2.1 k ≤ t
        · simp [hl, i_lt]
        · simp [hl, i_lt]
theorem r_low (hI : zVal T) (hR : zRT T sf) : rLow sf = zLow T := by
  refine zfst_c 24 0 (fun j _ h => ?_)
  rw [r_full hI hR (by omega)]
  by_cases hv : T.1 j = -1 <;> simp [hv]
theorem r_old (hI : zVal T) (hR : zRT T sf) {k : Nat} (hk : k < 24) (h : Int32) : rOld sf k h = zOut T k h := by
  unfold rOld zOut
  rw [r_full hI hR hk]
  by_cases hv : T.1 k = -1
  · rcases hI k hk with ⟨-, -, h3⟩ | ⟨d, hd, h3⟩
    · rw [h3]
      have : ((-1 : Int32) ≤ 0) := by decide
      simp [hv, this]
    · exact absurd (h3.symm.trans hv) (nI_nem1 (by omega))
  · obtain ⟨h1, h2⟩ := (hR.1 k hk).2.2 hv
    unfold rOf
    rw [h2]
    simp [hv]
theorem r_oi (hI : zVal T) (hR : zRT T sf) {p : Nat} (hp : p < 6) (h : Int32) : rOi sf p h = zVo T 4 (p * 4) h := by
  unfold rOi zVo
  rw [Nat.mul_comm p 4]
  exact zcnt_c 4 _ _ (fun j h1 h2 => r_old hI hR (by omega) h)
theorem r_vs (hI : zVal T) (hR : zRT T sf) {n i : Nat} (hn : i + n ≤ 24) (t : Int32) : rVs sf n i false t = zVs T n i :=
  zcnt_c n i 0 (fun j h1 h2 => by show rFull sf j = _; exact r_full hI hR (by omega))
theorem r_vn (hI : zVal T) (hR : zRT T sf) {n i : Nat} (hn : i + n ≤ 24) (t : Int32) : rVs sf n i true t = zVn T n i t :=
  zcnt_c n i 0 (fun j h1 h2 => by show rSeen sf j t = _; exact r_seen hI hR (by omega) t)
theorem r_mk (hR : zRT T sf) {p : Nat} (hp : p < 6) : rPg sf p 0 = zb (zMk T p) := by
  unfold rPg zMk
  by_cases h : T.2.2.2.1 p = -1
  · rw [((hR.2.1 p hp).1 h).1]; simp [h, zb]
  · rw [((hR.2.1 p hp).2 h).1]; simp [h, zb]
theorem zsum_cnt {F : Nat → Int32} {P : Nat → Bool} : ∀ (f k : Nat) (a : Int32), (∀ j, k ≤ j → j < k + f → F j = zb (P j)) → zsum F f k a = zcnt P f k a := by
  intro f
  induction f with
  | zero => intro k a _; rfl
  | succ f ih =>
    intro k a h
    show zsum F f (k + 1) (a + F k) = zcnt P f (k + 1) (if P k then a + 1 else a)
    rw [h k (Nat.le_refl _) (by omega)]
    have e : a + zb (P k) = if P k then a + 1 else a := by
      cases P k
      · exact Int32.add_zero a
      · rfl
    rw [e]
    exact ih _ _ (fun j h1 h2 => h j (by omega) (by omega))
theorem r_mp (hR : zRT T sf) : rMp sf = zMp T := zsum_cnt 6 0 0 (fun j _ h => r_mk hR (by omega))
theorem r_hv (hR : zRT T sf) {k : Nat} (hk : k < 24) (v : Int32) : rHv sf v k = decide (T.1 k = v) := by
  unfold rHv rOf
  rw [(hR.1 k hk).1]
  by_cases h : T.1 k = v
  · simp [h]
  · have : ¬ T.1 k + 1 = v + 1 := fun e => h (i_add1.mp e)
    simp [h, this]
theorem r_has (hR : zRT T sf) {p : Nat} (hp : p < 6) (v : Int32) : rHas sf p v = zHas T p v := by
  unfold rHas zHas
  rw [Nat.mul_comm p 4]
  exact zany_c 4 _ (fun j h1 h2 => r_hv hR (by omega) v)
theorem r_lie (hI : zVal T) (hR : zRT T sf) (v : Int32) : rLie sf v = zWr T v :=
  zcnt_c 24 0 0 (fun j _ h => by rw [r_hv hR (by omega) v, r_seen hI hR (by omega), hR.2.2.1])
/-- the greatest mark: what it is not beyond -/
theorem r_gm (hB : zBy T) (hR : zRT T sf) {t : Int32} (ht : 0 ≤ t) : ∀ (f k : Nat) (x : Int32), k + f = 6 → (decide (rgm sf f k x ≤ t) = (decide (x ≤ t) && zall (fun p => decide (T.2.2.2.1 p ≤ t)) f k)) := by
  intro f
  induction f with
  | zero => intro k x _; show decide (x ≤ t) = (decide (x ≤ t) && true); rw [Bool.and_true]
  | succ f ih =>
    intro k x hk
    show decide (rgm sf f (k + 1) (if rPg sf k 0 = 1 then (if rPg sf k 1 ≤ x then x else rPg sf k 1) else x) ≤ t) = (decide (x ≤ t) && (decide (T.2.2.2.1 k ≤ t) && zall _ f (k + 1)))
    rw [ih _ _ (by omega)]
    unfold rPg
    by_cases h : T.2.2.2.1 k = -1
    · rw [((hR.2.1 k (by omega)).1 h).1, h]
      have h1 : (-1 : Int32) ≤ t := by
        rw [Int32.le_iff_toInt_le] at ht ⊢
        have : (-1 : Int32).toInt = -1 := by decide
        have h0 : (0 : Int32).toInt = 0 := by decide
        omega
      simp [h1]
    · obtain ⟨h1, h2⟩ := (hR.2.1 k (by omega)).2 h
      rw [h1, h2, if_pos rfl]
      by_cases h3 : T.2.2.2.1 k ≤ x
      · rw [if_pos h3]
        by_cases h4 : x ≤ t
        · have : T.2.2.2.1 k ≤ t := by rw [Int32.le_iff_toInt_le] at *; omega
          simp [h4, this]
        · simp [h4]
      · rw [if_neg h3]
        by_cases h4 : T.2.2.2.1 k ≤ t
        · have : x ≤ t := by rw [Int32.le_iff_toInt_le] at *; omega
          simp [h4, this]
        · simp [h4]
theorem r_tr (hB : zBy T) (hR : zRT T sf) {t : Int32} (ht : 0 ≤ t) : decide (rGm sf ≤ t) = zTr T t := by
  unfold rGm zTr
  rw [r_gm hB hR ht 6 0 0 rfl]
  simp [ht]
theorem r_tru (hB : zBy T) (hR : zRT T sf) {t : Int32} (ht : 0 ≤ t) {w : Nat} (hw : w < 3) : rTru sf t w = if w = 2 then (if zTr T t then 2 else 1) else w := by
  unfold rTru
  have h := r_tr hB hR ht
  by_cases h2 : w = 2
  · rw [if_pos h2, if_pos h2]
    by_cases h3 : rGm sf ≤ t
    · rw [if_pos h3, h2]; rw [decide_eq_true h3] at h; rw [← h]; rfl
    · rw [if_neg h3]; rw [decide_eq_false h3] at h; rw [← h]; rfl
  · rw [if_neg h2, if_neg h2]
theorem r_ans (hI : zVal T) (hB : zBy T) (hR : zRT T sf) {t : Int32} (ht : 0 ≤ t) (v : Int32) {w : Nat} (hw : w < 3) : rAns sf t v w = zAns T t v w := by
  refine zcnt_c 24 0 0 (fun j _ h => ?_)
  rw [r_hv hR (by omega), r_seen hI hR (by omega), r_tru hB hR ht hw, r_mk hR (by omega)]
  unfold zBm
  by_cases h2 : w = 2
  · subst h2
    cases zTr T t <;> cases zMk T (j / 4) <;> cases zSeen T j t <;> simp [zb]
  · simp [h2]
theorem r_cost (hI : zVal T) (hB : zBy T) (hR : zRT T sf) {t : Int32} (ht : 0 ≤ t) (v : Int32) {w : Nat} (hw : w < 3) : rCost sf t v w = zCost T t v w := by
  unfold rCost zCost
  by_cases h0 : w = 0
  · subst h0
    have h1 : rTru sf t 0 = 0 := rfl
    simp only [h1, decide_true, Bool.true_or]
    rfl
  · rw [if_neg h0]
    refine zcnt_c 6 0 0 (fun j _ h => ?_)
    rw [r_tru hB hR ht hw, r_has hR (by omega), r_mk hR (by omega)]
    unfold zBm
    by_cases h2 : w = 2
    · subst h2
      cases zTr T t <;> cases zMk T j <;> simp [zb]
    · have : w = 1 := by omega
      subst this
      cases zMk T j <;> simp
theorem zlcF_c {C E : Nat → Int32} : ∀ (f k b : Nat), (∀ j, j < 3 → C j = E j) → k + f ≤ 3 → b < 3 → zlcF C f k b = zlcF E f k b := by
  intro f
  induction f with
  | zero => intro k b _ _ _; rfl
  | succ f ih =>
    intro k b h hk hb
    show zlcF C f (k + 1) (if C b < C k then b else k) = zlcF E f (k + 1) (if E b < E k then b else k)
    rw [h b hb, h k (by omega)]
    exact ih _ _ h (by omega) (by split <;> omega)
theorem r_lc (hI : zVal T) (hB : zBy T) (hR : zRT T sf) (ht : 0 ≤ T.2.2.2.2.1) (v : Int32) : rLc sf v = zLc T v := by
  unfold rLc zLc
  rw [hR.2.2.1]
  exact zlcF_c 2 1 0 (fun j hj => r_cost hI hB hR ht v hj) (by omega) (by omega)
end REL
