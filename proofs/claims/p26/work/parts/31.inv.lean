/-! WHAT STANDS OF A STATE (zIv), and what holds of it then -/
def zIv (Z : zSt) (B : Nat) : Prop :=
  (0 ≤ Z.1.2.2.2.2.1.toInt ∧ Z.1.2.2.2.2.1.toInt ≤ B) ∧
  (∀ k, k < 24 → (Z.1.1 k = -1 ∧ Z.1.2.1 k = -1 ∧ Z.1.2.2.1 k = -1) ∨ ((∃ d, d < 10 ∧ Z.1.1 k = nI d) ∧ 0 ≤ (Z.1.2.1 k).toInt ∧ (Z.1.2.1 k).toInt ≤ Z.1.2.2.2.2.1.toInt ∧ (Z.1.2.2.1 k = 0 ∨ ((Z.1.2.1 k).toInt < (Z.1.2.2.1 k).toInt ∧ (Z.1.2.2.1 k).toInt ≤ Z.1.2.2.2.2.1.toInt)))) ∧
  (∀ p, p < 6 → Z.1.2.2.2.1 p = -1 ∨ (0 ≤ (Z.1.2.2.2.1 p).toInt ∧ (Z.1.2.2.2.1 p).toInt ≤ Z.1.2.2.2.2.1.toInt ∧ (∀ a, a < 4 → Z.2.1.1 a = -1 ∨ (Z.1.2.2.2.1 p).toInt ≤ (Z.2.1.1 a).toInt) ∧ ∀ k, k < 24 → k / 4 = p → Z.1.1 k = -1 ∨ ((Z.1.2.1 k).toInt ≤ (Z.1.2.2.2.1 p).toInt ∧ Z.1.2.2.1 k = 0))) ∧
  (∀ a, a < 4 → Z.2.1.1 a = -1 ∨ (0 ≤ (Z.2.1.1 a).toInt ∧ (Z.2.1.1 a).toInt ≤ Z.1.2.2.2.2.1.toInt)) ∧
  Z.2.2.2.1 = 0
theorem zIv.mono {Z : zSt} {B C : Nat} (h : zIv Z B) (hBC : B ≤ C) : zIv Z C := ⟨⟨h.1.1, by have := h.1.2; omega⟩, h.2⟩
theorem m1_int : ((-1 : Int32)).toInt = -1 := by decide
theorem z0_int : ((0 : Int32)).toInt = 0 := by decide
theorem i_ne {x y : Int32} (h : ¬ x.toInt = y.toInt) : ¬ x = y := fun e => h (by rw [e])
theorem i_nm1 {x : Int32} (h : 0 ≤ x.toInt) : ¬ x = -1 := i_ne (by rw [m1_int]; omega)
theorem i_e {x y : Int32} (h : x.toInt = y.toInt) : x = y := Int32.toInt_inj.mp h
theorem l_iff {x y : Int32} : x < y ↔ x.toInt < y.toInt := Int32.lt_iff_toInt_lt
theorem le_iff {x y : Int32} : x ≤ y ↔ x.toInt ≤ y.toInt := Int32.le_iff_toInt_le
section IV
variable {Z : zSt} {B : Nat}
theorem hI_tl (hI : zIv Z B) : Z.2.2.2.1 = 0 := hI.2.2.2.2
theorem sn_le (hI : zIv Z B) {a : Nat} (ha : a < 4) (h : ¬ Z.2.1.1 a < 0) : Z.2.1.1 a ≤ Z.1.2.2.2.2.1 := by
  rcases hI.2.2.2.1 a ha with h1 | h1
  · rw [h1] at h; exact absurd (by decide) h
  · exact le_iff.mpr h1.2
theorem sn_m1 (hI : zIv Z B) {a : Nat} (ha : a < 4) : Z.2.1.1 a = -1 ↔ Z.2.1.1 a < 0 := by
  constructor
  · intro h; rw [h]; decide
  · intro h
    rcases hI.2.2.2.1 a ha with h1 | h1
    · exact h1
    · rw [l_iff, z0_int] at h; omega
theorem zhor_lea (hI : zIv Z B) : zHor Z = zlea Z.2.1.1 4 0 Z.1.2.2.2.2.1 := by
  have key : ∀ (f k : Nat) (x : Int32), k + f = 4 → zhz Z.2.1.1 (-1) f k x = zlea Z.2.1.1 f k x := by
    intro f
    induction f with
    | zero => intro k x _; rfl
    | succ f ih =>
      intro k x hk
      have h1 := sn_m1 hI (show k < 4 by omega)
      have h0 : ¬ nI k = -1 := nI_nem1 (by omega)
      unfold zhz zlea
      rw [if_neg h0]
      by_cases e : Z.2.1.1 k = -1
      · rw [if_pos e, if_pos (h1.mp e)]; exact ih (k + 1) x (by omega)
      · rw [if_neg e, if_neg (fun z => e (h1.mpr z))]
        by_cases e2 : x ≤ Z.2.1.1 k
        · rw [if_pos e2, if_pos e2]; exact ih (k + 1) x (by omega)
        · rw [if_neg e2, if_neg e2]; exact ih (k + 1) _ (by omega)
  exact key 4 0 _ rfl
/-- the horizon is the least of the clock and the snapshots -/
theorem zhz_lb {sn : Nat → Int32} : ∀ (f k : Nat) (x : Int32) (m : Int), m ≤ x.toInt → (∀ a, k ≤ a → a < k + f → sn a = -1 ∨ m ≤ (sn a).toInt) → m ≤ (zhz sn (-1) f k x).toInt := by
  intro f
  induction f with
  | zero => intro k x m h _; exact h
  | succ f ih =>
    intro k x m h ha
    unfold zhz
    split
    · exact ih _ _ _ h (fun a h1 h2 => ha a (by omega) (by omega))
    · split
      · exact ih _ _ _ h (fun a h1 h2 => ha a (by omega) (by omega))
      · rename_i e
        split
        · exact ih _ _ _ h (fun a h1 h2 => ha a (by omega) (by omega))
        · exact ih _ _ _ ((ha k (by omega) (by omega)).resolve_left e) (fun a h1 h2 => ha a (by omega) (by omega))
theorem zhz_ub {sn : Nat → Int32} : ∀ (f k : Nat) (x : Int32), k + f ≤ 4 → (zhz sn (-1) f k x).toInt ≤ x.toInt ∧ ∀ a, k ≤ a → a < k + f → sn a = -1 ∨ (zhz sn (-1) f k x).toInt ≤ (sn a).toInt := by
  intro f
  induction f with
  | zero => intro k x _; exact ⟨Int.le_refl _, fun a h1 h2 => by omega⟩
  | succ f ih =>
    intro k x hk
    unfold zhz
    have h0 : ¬ nI k = -1 := nI_nem1 (by omega)
    rw [if_neg h0]
    by_cases e : sn k = -1
    · rw [if_pos e]
      obtain ⟨g1, g2⟩ := ih (k + 1) x (by omega)
      refine ⟨g1, fun a h1 h2 => ?_⟩
      by_cases ea : a = k
      · rw [ea]; exact Or.inl e
      · exact g2 a (by omega) (by omega)
    · rw [if_neg e]
      by_cases e2 : x ≤ sn k
      · rw [if_pos e2]
        obtain ⟨g1, g2⟩ := ih (k + 1) x (by omega)
        refine ⟨g1, fun a h1 h2 => ?_⟩
        by_cases ea : a = k
        · rw [ea]; right; have := le_iff.mp e2; omega
        · exact g2 a (by omega) (by omega)
      · rw [if_neg e2]
        obtain ⟨g1, g2⟩ := ih (k + 1) (sn k) (by omega)
        have h3 : (sn k).toInt ≤ x.toInt := by rw [le_iff] at e2; omega
        refine ⟨by omega, fun a h1 h2 => ?_⟩
        by_cases ea : a = k
        · rw [ea]; right; exact g1
        · exact g2 a (by omega) (by omega)
theorem hor_le (Z : zSt) : (zHor Z).toInt ≤ Z.1.2.2.2.2.1.toInt ∧ ∀ a, a < 4 → Z.2.1.1 a = -1 ∨ (zHor Z).toInt ≤ (Z.2.1.1 a).toInt := by
  obtain ⟨g1, g2⟩ := zhz_ub (sn := Z.2.1.1) 4 0 Z.1.2.2.2.2.1 (by decide)
  exact ⟨g1, fun a ha => g2 a (Nat.zero_le _) (by omega)⟩
theorem hor_0 (hI : zIv Z B) : 0 ≤ (zHor Z).toInt := zhz_lb 4 0 _ 0 hI.1.1 (fun a _ h => (hI.2.2.2.1 a (by omega)).imp id (fun q => q.1))
-- pages
theorem pg_mk (hI : zIv Z B) {p : Nat} (hp : p < 6) (h : zMk Z.1 p = true) : ¬ zHor Z < Z.1.2.2.2.1 p := by
  have h1 : ¬ Z.1.2.2.2.1 p = -1 := by unfold zMk at h; exact of_decide_eq_true h
  obtain ⟨h2, h3, h4, -⟩ := (hI.2.2.1 p hp).resolve_left h1
  rw [l_iff]
  have := zhz_lb (sn := Z.2.1.1) 4 0 Z.1.2.2.2.2.1 _ h3 (fun a _ ha => h4 a (by omega))
  have e : (zHor Z).toInt = (zhz Z.2.1.1 (-1) 4 0 Z.1.2.2.2.2.1).toInt := rfl
  omega
theorem seen_i (hI : zIv Z B) {k : Nat} (hk : k < 24) (t : Int32) : zSeen Z.1 k t = true ↔ (¬ Z.1.1 k = -1 ∧ (Z.1.2.1 k).toInt ≤ t.toInt ∧ (Z.1.2.2.1 k = 0 ∨ t.toInt < (Z.1.2.2.1 k).toInt)) := by
  unfold zSeen
  by_cases e : Z.1.1 k = -1
  · simp [e]
  · by_cases e2 : t < Z.1.2.1 k
    · rw [if_neg e, if_pos e2]
      rw [l_iff] at e2
      constructor
      · intro h; cases h
      · rintro ⟨-, h, -⟩; omega
    · rw [if_neg e, if_neg e2]
      rw [l_iff] at e2
      by_cases e3 : Z.1.2.2.1 k = 0
      · rw [if_pos e3]; simp only [true_iff]; exact ⟨e, by omega, Or.inl e3⟩
      · rw [if_neg e3, decide_eq_true_iff, l_iff]
        constructor
        · intro h; exact ⟨e, by omega, Or.inr h⟩
        · rintro ⟨-, -, h | h⟩
          · exact absurd h e3
          · exact h
theorem full_nm1 {d : Nat} (hd : d < 10) : ¬ nI d = -1 := nI_nem1 (by omega)
theorem sl_w (hI : zIv Z B) {k : Nat} (hk : k < 24) (h : Z.1.1 k = -1) : Z.1.2.2.1 k = -1 := by
  rcases hI.2.1 k hk with h1 | ⟨⟨d, hd, h1⟩, -⟩
  · exact h1.2.2
  · rw [h1] at h; exact absurd h (full_nm1 hd)
theorem sl_in (hI : zIv Z B) {k : Nat} (hk : k < 24) (h : ¬ Z.1.1 k = -1) : 0 ≤ (Z.1.2.1 k).toInt ∧ (Z.1.2.1 k).toInt ≤ Z.1.2.2.2.2.1.toInt ∧ (Z.1.2.2.1 k = 0 ∨ ((Z.1.2.1 k).toInt < (Z.1.2.2.1 k).toInt ∧ (Z.1.2.2.1 k).toInt ≤ Z.1.2.2.2.2.1.toInt)) := by
  rcases hI.2.1 k hk with h1 | h1
  · exact absurd h1.1 h
  · exact h1.2
theorem sl_w2 (hI : zIv Z B) {k : Nat} (hk : k < 24) (h : ¬ Z.1.1 k = -1) (e : Z.1.2.2.1 k = -1) : False := by
  obtain ⟨h1, h2, h3 | h3⟩ := sl_in hI hk h
  · rw [h3] at e; exact absurd e (by decide)
  · rw [e, m1_int] at h3; omega
theorem sl_c (hI : zIv Z B) {k : Nat} (hk : k < 24) (h : ¬ Z.1.2.2.1 k ≤ 0) (e : Z.1.2.2.1 k ≤ Z.1.2.1 k) : False := by
  rw [le_iff, z0_int] at h
  rw [le_iff] at e
  rcases hI.2.1 k hk with h1 | ⟨-, -, -, h1 | h1⟩
  · rw [h1.2.2, m1_int] at h; omega
  · rw [h1, z0_int] at h; omega
  · omega
theorem sl_k (hI : zIv Z B) {k : Nat} (hk : k < 24) : ¬ Z.1.2.2.2.2.1 < Z.1.2.1 k := by
  rw [l_iff]
  have := hI.1.1
  rcases hI.2.1 k hk with h1 | ⟨-, h1, h2, -⟩
  · rw [h1.2.1, m1_int]; omega
  · omega
theorem sl_s (hI : zIv Z B) {k : Nat} (hk : k < 24) (h : zSeen Z.1 k Z.1.2.2.2.2.1 = true) : Z.1.2.2.1 k = 0 := by
  obtain ⟨h1, h2, h3 | h3⟩ := (seen_i hI hk _).mp h
  · exact h3
  · rcases (sl_in hI hk h1).2.2 with h4 | h4
    · exact h4
    · omega
theorem sl_s2 (hI : zIv Z B) {k : Nat} (hk : k < 24) (h : Z.1.2.2.1 k = 0) : zSeen Z.1 k Z.1.2.2.2.2.1 = true := by
  have h1 : ¬ Z.1.1 k = -1 := fun e => by
    have := sl_w hI hk e
    rw [h] at this; exact absurd this (by decide)
  exact (seen_i hI hk _).mpr ⟨h1, (sl_in hI hk h1).2.1, Or.inl h⟩
theorem zcnt_c {P R : Nat → Bool} : ∀ (f k : Nat) (a : Int32), (∀ j, k ≤ j → j < k + f → P j = R j) → zcnt P f k a = zcnt R f k a := by
  intro f
  induction f with
  | zero => intro k a _; rfl
  | succ f ih =>
    intro k a h
    unfold zcnt
    rw [h k (Nat.le_refl _) (by omega)]
    exact ih _ _ (fun j h1 h2 => h j (by omega) (by omega))
theorem mk_in (hI : zIv Z B) {p : Nat} (hp : p < 6) (h : zMk Z.1 p = true) : 0 ≤ (Z.1.2.2.2.1 p).toInt ∧ (Z.1.2.2.2.1 p).toInt ≤ Z.1.2.2.2.2.1.toInt ∧ (∀ a, a < 4 → Z.2.1.1 a = -1 ∨ (Z.1.2.2.2.1 p).toInt ≤ (Z.2.1.1 a).toInt) ∧ ∀ k, k < 24 → k / 4 = p → Z.1.1 k = -1 ∨ ((Z.1.2.1 k).toInt ≤ (Z.1.2.2.2.1 p).toInt ∧ Z.1.2.2.1 k = 0) := by
  have h1 : ¬ Z.1.2.2.2.1 p = -1 := by unfold zMk at h; exact of_decide_eq_true h
  exact (hI.2.2.1 p hp).resolve_left h1
theorem pg_vs (hI : zIv Z B) {p : Nat} (hp : p < 6) (h : zMk Z.1 p = true) : zVs Z.1 4 (p * 4) = zVn Z.1 4 (p * 4) Z.1.2.2.2.2.1 := by
  refine zcnt_c 4 (p * 4) 0 (fun j h1 h2 => ?_)
  have hj : j < 24 := by omega
  obtain ⟨-, -, -, h4⟩ := mk_in hI hp h
  rcases h4 j hj (by omega) with h5 | h5
  · have h6 : ¬ zSeen Z.1 j Z.1.2.2.2.2.1 = true := fun z => ((seen_i hI hj _).mp z).1 h5
    rw [Bool.not_eq_true] at h6
    rw [h6]; simp [h5]
  · rw [sl_s2 hI hj h5.2]
    refine decide_eq_true (fun e => ?_)
    have := sl_w hI hj e
    rw [h5.2] at this; exact absurd this (by decide)
theorem pg_vo (hI : zIv Z B) {p : Nat} (hp : p < 6) (h : zMk Z.1 p = true) : zVo Z.1 4 (p * 4) (zHor Z) = 0 := by
  obtain ⟨-, -, -, h4⟩ := mk_in hI hp h
  have e : zVo Z.1 4 (p * 4) (zHor Z) = zcnt (fun _ => false) 4 (p * 4) 0 := by
    refine zcnt_c 4 (p * 4) 0 (fun j h1 h2 => ?_)
    have hj : j < 24 := by omega
    have h7 : Z.1.2.2.1 j ≤ 0 := by
      rcases h4 j hj (by omega) with h5 | h5
      · rw [sl_w hI hj h5]; decide
      · rw [h5.2]; decide
    unfold zOut
    simp [h7]
  rw [e]
  rfl
theorem ans_20 (hI : zIv Z B) {a d : Nat} (ha : a < 4) (hs : ¬ Z.2.1.1 a < 0) (hd : d < 10) : zAns Z.1 (Z.2.1.1 a) (nI d) 2 = zAns Z.1 (Z.2.1.1 a) (nI d) 0 := by
  refine zcnt_c 24 0 0 (fun j h1 h2 => ?_)
  have hj : j < 24 := by omega
  show (decide (Z.1.1 j = nI d) && ((zBm Z.1 (Z.2.1.1 a) 2 && zMk Z.1 (j / 4)) || zSeen Z.1 j (Z.2.1.1 a))) = (decide (Z.1.1 j = nI d) && ((zBm Z.1 (Z.2.1.1 a) 0 && zMk Z.1 (j / 4)) || zSeen Z.1 j (Z.2.1.1 a)))
  by_cases e : Z.1.1 j = nI d
  · by_cases e2 : zBm Z.1 (Z.2.1.1 a) 2 && zMk Z.1 (j / 4)
    · have e3 := e2
      simp only [Bool.and_eq_true] at e3
      obtain ⟨b1, b2⟩ := e3
      have hp : j / 4 < 6 := by omega
      obtain ⟨g1, g2, g3, g4⟩ := mk_in hI hp b2
      have hne : ¬ Z.1.1 j = -1 := by rw [e]; exact full_nm1 hd
      have hs2 : ¬ Z.2.1.1 a = -1 := fun z => hs ((sn_m1 hI ha).mp z)
      have h5 := (g4 j hj rfl).resolve_left hne
      have h6 := (g3 a ha).resolve_left hs2
      have h7 : zSeen Z.1 j (Z.2.1.1 a) = true := (seen_i hI hj _).mpr ⟨hne, by omega, Or.inl h5.2⟩
      rw [h7, Bool.or_true, Bool.or_true]
    · rw [Bool.not_eq_true] at e2
      rw [e2, show (zBm Z.1 (Z.2.1.1 a) 0 && zMk Z.1 (j / 4)) = false by simp [zBm]]
  · simp [e]
theorem zcnt_n {P : Nat → Bool} : ∀ (f k a : Nat), ∃ n, n ≤ f ∧ zcnt P f k (nI a) = nI (a + n) := by
  intro f
  induction f with
  | zero => intro k a; exact ⟨0, Nat.le_refl _, rfl⟩
  | succ f ih =>
    intro k a
    by_cases h : P k = true
    · rw [zcnt_t h, show nI a + 1 = nI (a + 1) from nI_add a 1]
      obtain ⟨n, h1, h2⟩ := ih (k + 1) (a + 1)
      exact ⟨n + 1, by omega, by rw [h2]; congr 1; omega⟩
    · rw [zcnt_f (by simpa using h)]
      obtain ⟨n, h1, h2⟩ := ih (k + 1) a
      exact ⟨n, by omega, h2⟩
theorem zcnt_m {P R : Nat → Bool} : ∀ (f k a b : Nat), (∀ j, P j = true → R j = true) → a ≤ b → ∃ n m, n ≤ m ∧ m ≤ b + f ∧ zcnt P f k (nI a) = nI n ∧ zcnt R f k (nI b) = nI m := by
  intro f
  induction f with
  | zero => intro k a b _ h; exact ⟨a, b, h, Nat.le_refl _, rfl, rfl⟩
  | succ f ih =>
    intro k a b hPR h
    by_cases hp : P k = true
    · rw [zcnt_t hp, zcnt_t (hPR k hp), show nI a + 1 = nI (a + 1) from nI_add a 1, show nI b + 1 = nI (b + 1) from nI_add b 1]
      obtain ⟨n, m, h1, h2, h3⟩ := ih (k + 1) (a + 1) (b + 1) hPR (by omega)
      exact ⟨n, m, h1, by omega, h3⟩
    · rw [zcnt_f (by simpa using hp)]
      by_cases hr : R k = true
      · rw [zcnt_t hr, show nI b + 1 = nI (b + 1) from nI_add b 1]
        obtain ⟨n, m, h1, h2, h3⟩ := ih (k + 1) a (b + 1) hPR (by omega)
        exact ⟨n, m, h1, by omega, h3⟩
      · rw [zcnt_f (by simpa using hr)]
        obtain ⟨n, m, h1, h2, h3⟩ := ih (k + 1) a b hPR h
        exact ⟨n, m, h1, by omega, h3⟩
theorem cost_21 (T : zTb) (t v : Int32) : ¬ zCost T t v 1 < zCost T t v 2 := by
  unfold zCost
  rw [if_neg (by decide), if_neg (by decide)]
  obtain ⟨n, m, h1, h2, h3, h4⟩ := zcnt_m (P := fun p => zHas T p v && !(zBm T t 2 && zMk T p)) (R := fun p => zHas T p v && !(zBm T t 1 && zMk T p)) 6 0 0 0 (fun j h => by
    simp only [Bool.and_eq_true] at h ⊢
    exact ⟨h.1, by simp [zBm]⟩) (Nat.le_refl 0)
  show ¬ zcnt _ 6 0 (nI 0) < zcnt _ 6 0 (nI 0)
  rw [h3, h4, nI_ltI (by omega) (by omega)]
  omega
theorem cost_6 (T : zTb) (t v : Int32) : zCost T t v 1 ≤ 6 := by
  unfold zCost
  rw [if_neg (by decide)]
  obtain ⟨n, h1, h2⟩ := zcnt_n (P := fun p => zHas T p v && !(zBm T t 1 && zMk T p)) 6 0 0
  show zcnt _ 6 0 (nI 0) ≤ nI 6
  rw [h2, le_iff, nI_toInt (by omega), nI_toInt (by omega)]
  omega
theorem vs24 (x : Int32) : x + (24 - x) = 24 := by rw [Int32.add_comm, Int32.sub_add_cancel]
theorem zcnt_a {P : Nat → Bool} : ∀ (f k : Nat) (a : Int32), zcnt P f k a = a + zcnt P f k 0 := by
  intro f
  induction f with
  | zero => intro k a; exact (Int32.add_zero a).symm
  | succ f ih =>
    intro k a
    by_cases h : P k = true
    · rw [zcnt_t h, zcnt_t h, ih (k + 1) (a + 1), ih (k + 1) (0 + 1), ← Int32.add_assoc]
      simp
    · rw [zcnt_f (by simpa using h), zcnt_f (by simpa using h)]
      exact ih _ _
theorem zcnt_4 (P : Nat → Bool) (f k : Nat) (a : Int32) : zcnt P (4 * (f + 1)) (4 * k) a = zcnt P (4 * f) (4 * (k + 1)) (a + zcnt P 4 (k * 4) 0) := by
  rw [← zcnt_a 4 (k * 4) a, show k * 4 = 4 * k by omega, show 4 * (f + 1) = 4 * f + 1 + 1 + 1 + 1 by omega, show 4 * (k + 1) = 4 * k + 1 + 1 + 1 + 1 by omega]
  rfl
theorem zcnt_1 (P : Nat → Bool) (f k : Nat) (a : Int32) : zcnt P (f + 1) k a = zcnt P f (k + 1) (a + zb (P k)) := by
  by_cases h : P k = true
  · rw [zcnt_t h, zb_t h]
  · have h2 : P k = false := by simpa using h
    rw [zcnt_f h2, zb_f h2, Int32.add_zero]
theorem mp_ok2 (T : zTb) : zOk (zSh (zMp T)) := by
  obtain ⟨n, h1, h2⟩ := zcnt_n (P := zMk T) 6 0 0
  have : zMp T = nI n := by
    show zcnt (zMk T) 6 0 (nI 0) = nI n
    rw [h2, Nat.zero_add]
  rw [this]
  exact zSh_ok n (by omega)
end IV
