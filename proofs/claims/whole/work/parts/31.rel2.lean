/-! what both tell, on: horizons, the holder, looks, the digest -/
theorem zcnt_a {P : Nat → Bool} : ∀ (f k : Nat) (a : Int32), zcnt P f k a = a + zcnt P f k 0 := by
  intro f
  induction f with
  | zero => intro k a; exact (Int32.add_zero a).symm
  | succ f ih =>
    intro k a
    show zcnt P f (k + 1) (if P k then a + 1 else a) = a + zcnt P f (k + 1) (if P k then 0 + 1 else 0)
    rw [ih (k + 1) (if P k then a + 1 else a), ih (k + 1) (if P k then 0 + 1 else 0)]
    cases P k
    · simp
    · simp only [if_true, Int32.zero_add]
      rw [Int32.add_assoc]
theorem zcnt_add {P : Nat → Bool} : ∀ (f g k : Nat) (a : Int32), zcnt P (f + g) k a = zcnt P g (k + f) (zcnt P f k a) := by
  intro f
  induction f with
  | zero => intro g k a; rw [Nat.zero_add]; rfl
  | succ f ih =>
    intro g k a
    rw [show f + 1 + g = (f + g) + 1 by omega]
    show zcnt P (f + g) (k + 1) _ = zcnt P g (k + (f + 1)) (zcnt P f (k + 1) _)
    rw [ih, show k + 1 + f = k + (f + 1) by omega]
theorem zcnt_n {P : Nat → Bool} : ∀ (f k a : Nat), ∃ n, n ≤ f ∧ zcnt P f k (nI a) = nI (a + n) := by
  intro f
  induction f with
  | zero => intro k a; exact ⟨0, Nat.le_refl _, rfl⟩
  | succ f ih =>
    intro k a
    show ∃ n, n ≤ f + 1 ∧ zcnt P f (k + 1) (if P k then nI a + 1 else nI a) = nI (a + n)
    cases P k
    · obtain ⟨n, h1, h2⟩ := ih (k + 1) a
      exact ⟨n, by omega, h2⟩
    · obtain ⟨n, h1, h2⟩ := ih (k + 1) (a + 1)
      refine ⟨n + 1, by omega, ?_⟩
      show zcnt P f (k + 1) (nI a + 1) = _
      rw [nI_1, h2, show a + 1 + n = a + (n + 1) by omega]
theorem zVo_n (T : zTb) (n i : Nat) (h : Int32) : ∃ m, m ≤ n ∧ zVo T n i h = nI m := by
  obtain ⟨m, h1, h2⟩ := zcnt_n (P := fun k => zOut T k h) n i 0
  exact ⟨m, h1, by rw [Nat.zero_add] at h2; exact h2⟩
theorem zhz_skip {sn : Nat → Int32} {j0 : Nat} (hj : j0 < 4) (h : sn j0 = -1) : ∀ (f k : Nat) (x : Int32), k + f ≤ 4 → zhz sn (nI j0) f k x = zhz sn (-1) f k x := by
  intro f
  induction f with
  | zero => intro k x _; rfl
  | succ f ih =>
    intro k x hk
    have h1 : ¬ nI k = -1 := nI_nem1 (by omega)
    show (if nI k = nI j0 then zhz sn (nI j0) f (k + 1) x else _) = (if nI k = -1 then _ else if sn k = -1 then zhz sn (-1) f (k + 1) x else if x ≤ sn k then zhz sn (-1) f (k + 1) x else zhz sn (-1) f (k + 1) (sn k))
    rw [if_neg h1]
    by_cases h2 : nI k = nI j0
    · have h3 : k = j0 := (nI_eq (by omega) (by omega)).mp h2
      rw [if_pos h2, h3, if_pos h, ih _ _ (by omega)]
    · rw [if_neg h2, ih _ _ (by omega), ih _ _ (by omega)]
section REL2
variable {Z : zSt} {sf : Nat → Int32}
theorem r_sn (hR : zRS Z sf) {k : Nat} (hk : k < 4) : rSn sf k = Z.2.1.1 k := by
  unfold rSn
  rw [(hR.2.1 k hk).1]
  exact i_sub1
theorem r_hb (hR : zRS Z sf) (o : Int32) : rHb sf o = zHw Z.2.1.1 o Z.1.2.2.2.2.1 := by
  unfold rHb zHw
  rw [hR.1.2.2.1]
  exact zhz_c 4 0 _ (fun j _ h => r_sn hR (by omega))
theorem r_hor (hR : zRS Z sf) : rHb sf (-1) = zHor Z := r_hb hR (-1)
theorem r_oo {T : zTb} (hI : zVal T) (hR : zRT T sf) (h : Int32) : rOo sf h = zVo T 24 0 h := by
  have e : ∀ (p : Nat), p < 6 → ∀ a : Int32, a + rOi sf p h = zcnt (fun k => zOut T k h) 4 (4 * p) a := by
    intro p hp a
    rw [r_oi hI hR hp h, zcnt_a, Nat.mul_comm 4 p]
    rfl
  show 0 + rOi sf 0 h + rOi sf 1 h + rOi sf 2 h + rOi sf 3 h + rOi sf 4 h + rOi sf 5 h = zcnt (fun k => zOut T k h) 24 0 0
  rw [e 0 (by omega), e 1 (by omega), e 2 (by omega), e 3 (by omega), e 4 (by omega), e 5 (by omega)]
  rw [show (24 : Nat) = 4 + 20 from rfl, zcnt_add, show (20 : Nat) = 4 + 16 from rfl, zcnt_add, show (16 : Nat) = 4 + 12 from rfl, zcnt_add, show (12 : Nat) = 4 + 8 from rfl, zcnt_add, show (8 : Nat) = 4 + 4 from rfl, zcnt_add]
theorem r_ho (hI : zVal Z.1) (hR : zRS Z sf) : rHo sf = zHo Z := by
  have key : ∀ (f k : Nat) (b x : Int32), k + f = 4 → (∃ m n, m ≤ n ∧ n < 100 ∧ zVo Z.1 24 0 (zHor Z) = nI m ∧ x = nI n) → rhn sf f k b x = zhn Z f k b x := by
    intro f
    induction f with
    | zero => intro k b x _ _; rfl
    | succ f ih =>
      intro k b x hk hx
      obtain ⟨m, n, h1, h2, h3, h4⟩ := hx
      show (if rSn sf k = -1 then (if 0 ≤ x then rhn sf f (k + 1) b x else rhn sf f (k + 1) (nI k) 0) else if rOo sf (rHb sf (nI k)) ≤ x then rhn sf f (k + 1) b x else rhn sf f (k + 1) (nI k) (rOo sf (rHb sf (nI k)))) = (if zVo Z.1 24 0 (zHw Z.2.1.1 (nI k) Z.1.2.2.2.2.1) ≤ x then zhn Z f (k + 1) b x else zhn Z f (k + 1) (nI k) (zVo Z.1 24 0 (zHw Z.2.1.1 (nI k) Z.1.2.2.2.2.1)))
      rw [r_sn hR (by omega), r_hb hR, r_oo hI hR.1]
      have hx2 : ∃ m n, m ≤ n ∧ n < 100 ∧ zVo Z.1 24 0 (zHor Z) = nI m ∧ x = nI n := ⟨m, n, h1, h2, h3, h4⟩
      by_cases hs : Z.2.1.1 k = -1
      · have e : zHw Z.2.1.1 (nI k) Z.1.2.2.2.2.1 = zHor Z := zhz_skip (by omega) hs 4 0 _ (by omega)
        have h5 : zVo Z.1 24 0 (zHor Z) ≤ x := by rw [h3, h4]; exact nI_le h1 (by omega)
        have h6 : (0 : Int32) ≤ x := by rw [h4]; exact nI_pos' (by omega)
        rw [if_pos hs, if_pos h6, e, if_pos h5]
        exact ih _ _ _ (by omega) hx2
      · rw [if_neg hs]
        by_cases h5 : zVo Z.1 24 0 (zHw Z.2.1.1 (nI k) Z.1.2.2.2.2.1) ≤ x
        · rw [if_pos h5, if_pos h5]
          exact ih _ _ _ (by omega) hx2
        · rw [if_neg h5, if_neg h5]
          obtain ⟨m2, g1, g2⟩ := zVo_n Z.1 24 0 (zHw Z.2.1.1 (nI k) Z.1.2.2.2.2.1)
          refine ih _ _ _ (by omega) ⟨m, m2, ?_, by omega, h3, g2⟩
          rw [g2, h4] at h5
          have h7 : ¬ m2 ≤ n := fun q => h5 (nI_le q (by omega))
          omega
  unfold rHo zHo
  rw [r_hor hR, r_oo hI hR.1]
  obtain ⟨m, h1, h2⟩ := zVo_n Z.1 24 0 (zHor Z)
  exact key 4 0 _ _ rfl ⟨m, m, Nat.le_refl _, by omega, h2, h2⟩
theorem r_ts {T : zTb} (hI : zVal T) (hR : zRT T sf) {k w : Nat} (hk : k < 24) (hw : w < 4) : rTs sf k w = zSl T k w := by
  unfold rTs zSl
  rw [r_full hI hR hk, r_seen hI hR hk, hR.2.2.1]
  unfold rOf
  rcases (show w = 0 ∨ w = 1 ∨ w = 2 ∨ w = 3 by omega) with rfl | rfl | rfl | rfl
  · rw [(hR.1 k hk).1]; exact i_sub1
  · by_cases hv : T.1 k = -1
    · rcases hI k hk with ⟨-, h2, h3⟩ | ⟨d, hd, h3⟩
      · simp [hv, h2]
      · exact absurd (h3.symm.trans hv) (nI_nem1 (by omega))
    · simp [hv, ((hR.1 k hk).2.2 hv).1]
  · by_cases hv : T.1 k = -1
    · rcases hI k hk with ⟨-, h2, h3⟩ | ⟨d, hd, h3⟩
      · simp [hv, h3]
      · exact absurd (h3.symm.trans hv) (nI_nem1 (by omega))
    · simp [hv, ((hR.1 k hk).2.2 hv).2]
  · rfl
theorem r_tp (hI : zVal Z.1) (hR : zRS Z sf) {p w : Nat} (hp : p < 6) (hw : w < 5) : rTp sf p w = zPg Z p w := by
  unfold rTp zPg
  rw [r_vs hI hR.1 (by omega), r_vn hI hR.1 (by omega), r_hor hR, r_oi hI hR.1 hp, hR.1.2.2.1, Nat.mul_comm 4 p]
  rcases (show w = 0 ∨ w = 1 ∨ w = 2 ∨ w = 3 ∨ w = 4 by omega) with rfl | rfl | rfl | rfl | rfl
  · exact r_mk hR.1 hp
  · rfl
  · rfl
  · rfl
  · show (if rPg sf p 0 = 1 then rPg sf p 1 else -1) = Z.1.2.2.2.1 p
    unfold rPg
    by_cases h : Z.1.2.2.2.1 p = -1
    · rw [((hR.1.2.1 p hp).1 h).1, h]; rfl
    · rw [((hR.1.2.1 p hp).2 h).1, ((hR.1.2.1 p hp).2 h).2]; rfl
theorem r_ta (hI : zVal Z.1) (hR : zRS Z sf) {k w : Nat} (hk : k < 4) (hw : w < 3) : rTa sf k w = zAs Z k w := by
  unfold rTa zAs
  rw [r_sn hR hk, r_vn hI hR.1 (by omega), (hR.2.1 k hk).2]
theorem r_tc (hI : zVal Z.1) (hR : zRS Z sf) {mm w : Nat} (hw : w < 13) : rTc sf mm w = zCo Z mm w := by
  unfold rTc zCo
  rw [r_hor hR, r_vs hI hR.1 (by omega), r_vs hI hR.1 (by omega), r_vn hI hR.1 (by omega), r_mp hR.1, hR.1.2.2.1]
  rcases (show w = 0 ∨ w = 1 ∨ w = 2 ∨ w = 3 ∨ w = 4 ∨ w = 5 ∨ w = 6 ∨ w = 7 ∨ w = 8 ∨ w = 9 ∨ w = 10 ∨ w = 11 ∨ w = 12 by omega) with rfl | rfl | rfl | rfl | rfl | rfl | rfl | rfl | rfl | rfl | rfl | rfl | rfl
  all_goals first | rfl | exact hR.2.2.1 0 (by omega) | exact hR.2.2.1 1 (by omega) | exact hR.2.2.1 2 (by omega) | exact hR.2.2.2.1 | exact hR.2.2.2.2 | exact hR.1.2.2.2
theorem zfold_c {F G : Nat → Int64} : ∀ (f k : Nat) (h : Int64), (∀ j, k ≤ j → j < k + f → F j = G j) → zfold F f k h = zfold G f k h := by
  intro f
  induction f with
  | zero => intro k h _; rfl
  | succ f ih =>
    intro k h e
    show zfold F f (k + 1) (zMix h (F k)) = zfold G f (k + 1) (zMix h (G k))
    rw [e k (Nat.le_refl _) (by omega)]
    exact ih _ _ (fun j a b => e j (by omega) (by omega))
theorem zfold_add {F : Nat → Int64} : ∀ (f g k : Nat) (h : Int64), zfold F (f + g) k h = zfold F g (k + f) (zfold F f k h) := by
  intro f
  induction f with
  | zero => intro g k h; rw [Nat.zero_add]; rfl
  | succ f ih =>
    intro g k h
    rw [show f + 1 + g = (f + g) + 1 by omega]
    show zfold F (f + g) (k + 1) _ = zfold F g (k + (f + 1)) (zfold F f (k + 1) _)
    rw [ih, show k + 1 + f = k + (f + 1) by omega]
theorem zfold_sh {F : Nat → Int64} {G : Nat → Int64} (b : Nat) : ∀ (f i : Nat) (h : Int64), (∀ j, i ≤ j → j < i + f → G (b + j) = F j) → zfold G f (b + i) h = zfold F f i h := by
  intro f
  induction f with
  | zero => intro i h _; rfl
  | succ f ih =>
    intro i h e
    show zfold G f (b + i + 1) (zMix h (G (b + i))) = zfold F f (i + 1) (zMix h (F i))
    rw [e i (Nat.le_refl _) (by omega)]
    exact ih (i + 1) _ (fun j x y => e j (by omega) (by omega))
theorem zfold2_flat {F : Nat → Nat → Int64} {m : Nat} (hm : 0 < m) : ∀ (f k : Nat) (h : Int64), zfold2 F m f k h = zfold (fun j => F (j / m) (j % m)) (m * f) (m * k) h := by
  intro f
  induction f with
  | zero => intro k h; rfl
  | succ f ih =>
    intro k h
    show zfold2 F m f (k + 1) (zfold (F k) m 0 h) = _
    rw [ih, show m * (f + 1) = m + m * f by rw [Nat.mul_succ, Nat.add_comm], zfold_add, show m * (k + 1) = m * k + m from Nat.mul_succ m k]
    congr 1
    exact (zfold_sh (F := F k) (m * k) m 0 h (fun j _ hj => by
      show F ((m * k + j) / m) ((m * k + j) % m) = F k j
      rw [Nat.mul_add_div hm, Nat.div_eq_of_lt (by omega), Nat.mul_add_mod, Nat.mod_eq_of_lt (by omega), Nat.add_zero])).symm
theorem r_hv3 {T : zTb} (hI : zVal T) (hB : zBy T) (hR : zRT T sf) (ht : 0 ≤ T.2.2.2.2.1) (v : Int32) : ∀ (f k : Nat) (h : Int64), k + f = 3 → rHv3 sf v f k h = zHv3 T v f k h := by
  intro f
  induction f with
  | zero => intro k h _; rfl
  | succ f ih =>
    intro k h hk
    show rHv3 sf v f (k + 1) (zMix (zMix h (rAns sf (sf 0) v k).toInt64) (rCost sf (sf 0) v k).toInt64) = zHv3 T v f (k + 1) _
    rw [hR.2.2.1, r_ans hI hB hR ht v (by omega), r_cost hI hB hR ht v (by omega)]
    exact ih _ _ (by omega)
theorem r_hval {T : zTb} (hI : zVal T) (hB : zBy T) (hR : zRT T sf) (ht : 0 ≤ T.2.2.2.2.1) (v : Int32) (h : Int64) : rHval sf v h = zHval T v h := by
  unfold rHval zHval
  rw [r_hv3 hI hB hR ht v 3 0 h rfl, r_lie hI hR v, r_lc hI hB hR ht v]
theorem r_hvals {T : zTb} (hI : zVal T) (hB : zBy T) (hR : zRT T sf) (ht : 0 ≤ T.2.2.2.2.1) : ∀ (f k : Nat) (h : Int64), rHvals sf f k h = zHvals T f k h := by
  intro f
  induction f with
  | zero => intro k h; rfl
  | succ f ih =>
    intro k h
    show rHvals sf f (k + 1) (rHval sf (nI k) h) = zHvals T f (k + 1) (zHval T (nI k) h)
    rw [r_hval hI hB hR ht, ih]
theorem r_dig (hI : zVal Z.1) (hB : zBy Z.1) (hR : zRS Z sf) (ht : 0 ≤ Z.1.2.2.2.2.1) (mm : Nat) (g : Nat → Nat) (n : Nat) : rDig sf mm g n = zDig Z mm g n := by
  have h1 : rD1 sf mm = zE1 Z mm := zfold_c 13 0 _ (fun j _ hj => by rw [r_tc hI hR (by omega)])
  have h2 : rD2 sf mm = zMx1 Z (zE1 Z mm) := by
    unfold rD2 zMx1
    rw [h1, zfold2_flat (by decide)]
    exact zfold_c 96 0 _ (fun j _ hj => by rw [r_ts hI hR.1 (by omega) (by omega)])
  have h3 : rD3 sf mm = zMx2 Z (zE1 Z mm) := by
    unfold rD3 zMx2
    rw [h2, zfold2_flat (by decide)]
    exact zfold_c 30 0 _ (fun j _ hj => by rw [r_tp hI hR (by omega) (by omega)])
  have h4 : rD4 sf mm = zMx3 Z (zE1 Z mm) := by
    unfold rD4 zMx3
    rw [h3, zfold2_flat (by decide)]
    exact zfold_c 12 0 _ (fun j _ hj => by rw [r_ta hI hR (by omega) (by omega)])
  have h5 : rD5 sf mm = zE3 Z mm := by
    unfold rD5 zE3
    rw [h4, r_hvals hI hB hR.1 ht]
  have h6 : rD6 sf mm n = zE6 Z mm n := by
    unfold rD6 zE6
    rw [h5, r_ho hI hR, r_mp hR.1]
  unfold rDig zDig
  rw [h6]
  exact zfold_c n 0 _ (fun j _ hj => by unfold zSg; rw [if_pos (by omega)])
end REL2
