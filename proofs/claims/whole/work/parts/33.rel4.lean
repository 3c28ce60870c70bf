/-! the saved states; the whole relation at each change -/
theorem zRT_c {T : zTb} {sf sg : Nat → Int32} (h : ∀ i, i = 0 ∨ (6 ≤ i ∧ i < 91) → sg i = sf i) (hR : zRT T sf) : zRT T sg := by
  refine ⟨fun k hk => ?_, fun p hp => ?_, ?_, ?_⟩
  · rw [h _ (by omega), h _ (by omega), h _ (by omega)]; exact hR.1 k hk
  · rw [h _ (by omega), h _ (by omega)]; exact hR.2.1 p hp
  · rw [h _ (by omega)]; exact hR.2.2.1
  · rw [h _ (by omega)]; exact hR.2.2.2
theorem zRS_c {Z : zSt} {sf sg : Nat → Int32} (h : ∀ i, i < 99 → sg i = sf i) (hR : zRS Z sf) : zRS Z sg := by
  refine ⟨zRT_c (fun i hi => h i (by omega)) hR.1, fun a ha => ?_, fun w hw => ?_, ?_, ?_⟩
  · rw [h _ (by omega), h _ (by omega)]; exact hR.2.1 a ha
  · rw [h _ (by omega)]; exact hR.2.2.1 w hw
  · rw [h _ (by omega)]; exact hR.2.2.2.1
  · rw [h _ (by omega)]; exact hR.2.2.2.2
/-- the table's part changed, the rest as it was -/
theorem zRS_t {Z : zSt} {T : zTb} {sf sg : Nat → Int32} (hT : zRT T sg) (h : ∀ i, (1 ≤ i ∧ i < 6) ∨ (91 ≤ i ∧ i < 99) → sg i = sf i) (hR : zRS Z sf) : zRS (T, Z.2) sg := by
  refine ⟨hT, fun a ha => ?_, fun w hw => ?_, ?_, ?_⟩
  · rw [h _ (by omega), h _ (by omega)]; exact hR.2.1 a ha
  · rw [h _ (by omega)]; exact hR.2.2.1 w hw
  · rw [h _ (by omega)]; exact hR.2.2.2.1
  · rw [h _ (by omega)]; exact hR.2.2.2.2
def zSR (G : Nat → zSt) (nx sz : Nat) (sv : Nat → Int32) (B : Nat) : Prop := nx < 6 ∧ sz ≤ 6 ∧ ∀ j, j < sz → zIS (G ((nx + (6 - sz) + j) % 6)) B ∧ zRS (G ((nx + (6 - sz) + j) % 6)) (fun i => sv (99 * j + i))
def zGu (G : Nat → zSt) (nx : Nat) (Z : zSt) : Nat → zSt := fun j => if j = nx then Z else G j
theorem zSR.mono {G : Nat → zSt} {nx sz B C : Nat} {sv : Nat → Int32} (h : zSR G nx sz sv B) (hBC : B ≤ C) : zSR G nx sz sv C := ⟨h.1, h.2.1, fun j hj => ⟨(h.2.2 j hj).1.mono hBC, (h.2.2 j hj).2⟩⟩
theorem sr_save {G : Nat → zSt} {nx sz B : Nat} {sv sf : Nat → Int32} {Z : zSt} (h : zSR G nx sz sv B) (hI : zIS Z B) (hR : zRS Z sf) : zSR (zGu G nx Z) ((nx + 1) % 6) (zSz sz) (rSv sf sv sz) B ∧ rSm sz = zSz sz := by
  obtain ⟨h1, h2, h3⟩ := h
  by_cases h6 : sz = 6
  · subst h6
    refine ⟨⟨by omega, by decide, fun j hj => ?_⟩, rfl⟩
    have hj : j < 6 := hj
    show zIS (zGu G nx Z (((nx + 1) % 6 + (6 - 6) + j) % 6)) B ∧ zRS (zGu G nx Z (((nx + 1) % 6 + (6 - 6) + j) % 6)) (fun i => rPu sf (rSh sv) 495 99 (99 * j + i))
    by_cases h5 : j = 5
    · have e : ((nx + 1) % 6 + (6 - 6) + j) % 6 = nx := by omega
      rw [e]
      have e2 : zGu G nx Z nx = Z := if_pos rfl
      rw [e2]
      refine ⟨hI, zRS_c (fun i hi => ?_) hR⟩
      show (if 495 ≤ 99 * j + i ∧ 99 * j + i < 495 + 99 then sf (99 * j + i - 495) else _) = sf i
      rw [if_pos (by omega), show 99 * j + i - 495 = i by omega]
    · have e : ((nx + 1) % 6 + (6 - 6) + j) % 6 = (nx + (6 - 6) + (j + 1)) % 6 := by omega
      have e3 : ¬ (nx + (6 - 6) + (j + 1)) % 6 = nx := by omega
      rw [e]
      have e2 : zGu G nx Z ((nx + (6 - 6) + (j + 1)) % 6) = G ((nx + (6 - 6) + (j + 1)) % 6) := if_neg e3
      rw [e2]
      obtain ⟨g1, g2⟩ := h3 (j + 1) (by omega)
      refine ⟨g1, zRS_c (fun i hi => ?_) g2⟩
      show (if 495 ≤ 99 * j + i ∧ 99 * j + i < 495 + 99 then _ else (if 99 * j + i < 495 then sv (99 * j + i + 99) else sv (99 * j + i))) = sv (99 * (j + 1) + i)
      rw [if_neg (by omega), if_pos (by omega), show 99 * j + i + 99 = 99 * (j + 1) + i by omega]
  · have hz : zSz sz = sz + 1 := if_pos (by omega)
    have hm : rSm sz = sz + 1 := if_neg h6
    rw [hz, hm]
    refine ⟨⟨by omega, by omega, fun j hj => ?_⟩, rfl⟩
    have hs : rSv sf sv sz = rPu sf sv (99 * sz) 99 := if_neg h6
    rw [hs]
    have e : ((nx + 1) % 6 + (6 - (sz + 1)) + j) % 6 = (nx + (6 - sz) + j) % 6 := by omega
    rw [e]
    by_cases h5 : j = sz
    · have e2 : (nx + (6 - sz) + j) % 6 = nx := by omega
      rw [e2]
      have e3 : zGu G nx Z nx = Z := if_pos rfl
      rw [e3]
      refine ⟨hI, zRS_c (fun i hi => ?_) hR⟩
      show (if 99 * sz ≤ 99 * j + i ∧ 99 * j + i < 99 * sz + 99 then sf (99 * j + i - 99 * sz) else _) = sf i
      rw [if_pos (by omega), show 99 * j + i - 99 * sz = i by omega]
    · have e2 : ¬ (nx + (6 - sz) + j) % 6 = nx := by omega
      have e3 : zGu G nx Z ((nx + (6 - sz) + j) % 6) = G ((nx + (6 - sz) + j) % 6) := if_neg e2
      rw [e3]
      obtain ⟨g1, g2⟩ := h3 j (by omega)
      refine ⟨g1, zRS_c (fun i hi => ?_) g2⟩
      show (if 99 * sz ≤ 99 * j + i ∧ 99 * j + i < 99 * sz + 99 then _ else sv (99 * j + i)) = sv (99 * j + i)
      rw [if_neg (by omega)]
theorem sr_undo {G : Nat → zSt} {nx sz B : Nat} {sv sf : Nat → Int32} (h : zSR G nx sz sv B) (h0 : 0 < sz) : zIS (G ((nx + 5) % 6)) B ∧ zRS (G ((nx + 5) % 6)) (rUd sf sv (99 * (sz - 1)) 99) ∧ zSR G ((nx + 5) % 6) (sz - 1) sv B := by
  obtain ⟨h1, h2, h3⟩ := h
  obtain ⟨g1, g2⟩ := h3 (sz - 1) (by omega)
  have e : (nx + (6 - sz) + (sz - 1)) % 6 = (nx + 5) % 6 := by omega
  rw [e] at g1 g2
  refine ⟨g1, zRS_c (fun i hi => ?_) g2, by omega, by omega, fun j hj => ?_⟩
  · show (if i < 99 then sv (99 * (sz - 1) + i) else sf i) = _
    rw [if_pos hi]
  · have e2 : ((nx + 5) % 6 + (6 - (sz - 1)) + j) % 6 = (nx + (6 - sz) + j) % 6 := by omega
    rw [e2]
    exact h3 j (by omega)
theorem zhz_n {sn : Nat → Int32} {o : Int32} {B : Nat} (hs : ∀ a, a < 4 → sn a = -1 ∨ ∃ m, m ≤ B ∧ sn a = nI m) : ∀ (f k c : Nat), k + f ≤ 4 → c ≤ B → ∃ m, m ≤ B ∧ zhz sn o f k (nI c) = nI m := by
  intro f
  induction f with
  | zero => intro k c _ hc; exact ⟨c, hc, rfl⟩
  | succ f ih =>
    intro k c hk hc
    show ∃ m, m ≤ B ∧ (if nI k = o then zhz sn o f (k + 1) (nI c) else if sn k = -1 then zhz sn o f (k + 1) (nI c) else if nI c ≤ sn k then zhz sn o f (k + 1) (nI c) else zhz sn o f (k + 1) (sn k)) = nI m
    have h1 := ih (k + 1) c (by omega) hc
    split
    · exact h1
    · split
      · exact h1
      · split
        · exact h1
        · rename_i h2 _
          rcases hs k (by omega) with h | ⟨m, h3, h4⟩
          · exact absurd h h2
          · rw [h4]; exact ih (k + 1) m (by omega) h3
theorem zHw_n {Z : zSt} {B : Nat} (h : zIS Z B) (o : Int32) : ∃ m, m ≤ B ∧ zHw Z.2.1.1 o Z.1.2.2.2.2.1 = nI m := by
  obtain ⟨-, -, ⟨c, h1, h2⟩, h3⟩ := h
  unfold zHw
  rw [h2]
  exact zhz_n h3 4 0 c (by omega) h1
theorem zHor_n {Z : zSt} {B : Nat} (h : zIS Z B) : ∃ m, m ≤ B ∧ zHor Z = nI m := zHw_n h (-1)
theorem rCome_o {sf : Nat → Int32} {k i : Nat} {v : Int32} (hk : k < 24) (hi : i < 7 ∨ 91 ≤ i) : rCome sf k v i = sf i := by
  unfold rCome rUn rLay
  repeat (first | rw [upd_n (by omega)])
theorem rGo_o {sf : Nat → Int32} {k i : Nat} (hk : k < 24) (hi : i < 7 ∨ 91 ≤ i) : rGo sf k i = sf i := by
  unfold rGo rUn
  repeat (first | rw [upd_n (by omega)])
theorem rTick_o {sf : Nat → Int32} {i : Nat} (hi : i ≠ 0) : rTick sf i = sf i := upd_n hi
theorem rChg_o {sf : Nat → Int32} {q k i : Nat} {v : Int32} (hk : k < 24) (hlo : q ≠ 45 → rLow sf < 24) (hi : (1 ≤ i ∧ i < 7) ∨ 91 ≤ i) : rChg sf q k v i = sf i := by
  unfold rChg
  split
  · rename_i h; rw [rCome_o (hlo (by omega)) (by omega), rTick_o (by omega)]
  · split
    · rw [rGo_o hk (by omega), rTick_o (by omega)]
    · rename_i h1 h2; rw [rCome_o (hlo h2) (by omega), rGo_o hk (by omega), rTick_o (by omega)]
theorem rsw_o {h : Int32} {i : Nat} (hi : i < 7 ∨ 79 ≤ i) : ∀ (f k : Nat) (sf : Nat → Int32) (b : Bool), k + f ≤ 24 → (rsw h f k sf b).1 i = sf i := by
  intro f
  induction f with
  | zero => intro k sf b _; rfl
  | succ f ih =>
    intro k sf b hk
    show (rsw h f (k + 1) (rswS sf k h) (rswB (rswS sf k h) k h b)).1 i = sf i
    rw [ih _ _ _ (by omega)]
    unfold rswS
    split
    · unfold rLay
      repeat (first | rw [upd_n (by omega)])
    · rfl
theorem rSw_o {sf : Nat → Int32} {p i : Nat} (hp : p < 6) (hi : i < 6 ∨ 91 ≤ i) : (rSw sf p).2 i = sf i := by
  unfold rSw rswE
  show upd _ 6 _ i = sf i
  rw [upd_n (by omega)]
  split
  · rw [upd_n (by omega), upd_n (by omega)]
    exact rsw_o (by omega) 4 _ sf true (by omega)
  · exact rsw_o (by omega) 4 _ sf true (by omega)
section CALLS
variable {Z : zSt} {sf : Nat → Int32} {B : Nat}
theorem rs_chg (hI : zIS Z B) (hR : zRS Z sf) {q k d : Nat} (hk : k < 24) (hd : d < 10) (hq : q = 43 ∨ q = 45 ∨ q = 61) (hlo : q ≠ 45 → zLow Z.1 < 24) (hse : q ≠ 43 → zSeen Z.1 k Z.1.2.2.2.2.1 = true) :
    (fun T' => zRS (T', Z.2) (rChg sf q k (nI d)) ∧ zIS (T', Z.2) (B + 1)) (if q = 43 then zCome (zTick Z.1) (zLow Z.1) (nI d) else if q = 45 then zGo (zTick Z.1) k else zCome (zGo (zTick Z.1) k) (zLow Z.1) (nI d)) := by
  obtain ⟨h1, h2, ⟨c, h3, h4⟩, h5⟩ := hI
  obtain ⟨a1, a2, a3, a4⟩ := rt_chg h1 h2 hR.1 hk hd hq hlo hse
  refine ⟨zRS_t a1 (fun i hi => rChg_o hk (fun e => by rw [r_low h1 hR.1]; exact hlo e) (by omega)) hR, a2, a3, ⟨c + 1, by omega, ?_⟩, fun a ha => (h5 a ha).imp id (fun ⟨m, x, y⟩ => ⟨m, by omega, y⟩)⟩
  show _ = nI (c + 1)
  rw [← nI_1, ← h4]
  exact a4
theorem rs_put (hI : zIS Z B) (hR : zRS Z sf) {d : Nat} (hd : d < 10) (hlo : zLow Z.1 < 24) : zRS ((zPut Z.1 (nI d)).2, Z.2) (rChg sf 43 0 (nI d)) ∧ zIS ((zPut Z.1 (nI d)).2, Z.2) (B + 1) ∧ (zPut Z.1 (nI d)).1 = nI (rLow sf) := by
  have h := rs_chg hI hR (q := 43) (k := 0) (by decide) hd (Or.inl rfl) (fun _ => hlo) (fun e => absurd rfl e)
  unfold zPut
  rw [if_pos hlo, r_low hI.1 hR.1]
  exact ⟨h.1, h.2, rfl⟩
theorem rs_take (hI : zIS Z B) (hR : zRS Z sf) {k : Nat} (hk : k < 24) (hse : zSeen Z.1 k Z.1.2.2.2.2.1 = true) : zRS ((zTake Z.1 k).2, Z.2) (rChg sf 45 k 0) ∧ zIS ((zTake Z.1 k).2, Z.2) (B + 1) ∧ (zTake Z.1 k).2.1 k = rOf (rChg sf 45 k 0) k 0 - 1 := by
  have h := rs_chg hI hR (q := 45) (d := 0) hk (by decide) (Or.inr (Or.inl rfl)) (fun e => absurd rfl e) (fun _ => hse)
  unfold zTake
  rw [if_pos hse]
  refine ⟨h.1, h.2, ?_⟩
  unfold rOf
  have h2 := (h.1.1.1 k hk).1
  show _ = rChg sf 45 k 0 (7 + 3 * k + 0) - 1
  have h3 : rChg sf 45 k (nI 0) = rChg sf 45 k 0 := rfl
  rw [← h3, h2]
  exact i_sub1.symm
theorem rs_change (hI : zIS Z B) (hR : zRS Z sf) {k d : Nat} (hk : k < 24) (hd : d < 10) (hlo : zLow Z.1 < 24) (hse : zSeen Z.1 k Z.1.2.2.2.2.1 = true) : zRS ((zChg Z.1 k (nI d)).2, Z.2) (rChg sf 61 k (nI d)) ∧ zIS ((zChg Z.1 k (nI d)).2, Z.2) (B + 1) ∧ (zChg Z.1 k (nI d)).1 = nI (rLow sf) := by
  have h := rs_chg hI hR (q := 61) hk hd (Or.inr (Or.inr rfl)) (fun _ => hlo) (fun _ => hse)
  unfold zChg
  rw [if_pos hlo, if_pos hse, r_low hI.1 hR.1]
  exact ⟨h.1, h.2, rfl⟩
theorem rs_sweep (hb : B < 2 ^ 31) (hI : zIS Z B) (hR : zRS Z sf) {p : Nat} (hp : p < 6) : (zSweep Z.1 p (zHor Z)).1 = (rSw sf p).1 ∧ zRS ((zSweep Z.1 p (zHor Z)).2, Z.2) (rSw sf p).2 ∧ zIS ((zSweep Z.1 p (zHor Z)).2, Z.2) B ∧ (zSweep Z.1 p (zHor Z)).2.2.2.2.2.1 = Z.1.2.2.2.2.1 := by
  obtain ⟨m, h6, h7⟩ := zHor_n hI
  obtain ⟨h1, h2, ⟨c, h3, h4⟩, h5⟩ := hI
  obtain ⟨a1, a2, a3, a4, a5⟩ := rt_sweep h1 h2 hR.1 hp (r_hor hR) (by rw [h7]; exact nI_pos' (by omega))
  exact ⟨a1, zRS_t a2 (fun i hi => rSw_o hp (by omega)) hR, ⟨a3, a4, ⟨c, h3, a5.trans h4⟩, h5⟩, a5⟩
theorem rs_swA (hb : B < 2 ^ 31) {h : Int32} : ∀ (f k : Nat) (Z : zSt) (sf : Nat → Int32), k + f ≤ 6 → zHor Z = h → zIS Z B → zRS Z sf → zRS (zSwA h f k Z.1, Z.2) (rSwA f k sf) ∧ zIS (zSwA h f k Z.1, Z.2) B := by
  intro f
  induction f with
  | zero => intro k Z sf _ _ hI hR; exact ⟨hR, hI⟩
  | succ f ih =>
    intro k Z sf hk hh hI hR
    obtain ⟨a1, a2, a3, a4⟩ := rs_sweep hb hI hR (show k < 6 by omega)
    rw [hh] at a2 a3 a4
    exact ih (k + 1) ((zSweep Z.1 k h).2, Z.2) (rSw sf k).2 (by omega) (by show zHw Z.2.1.1 (-1) (zSweep Z.1 k h).2.2.2.2.2.1 = h; rw [a4]; exact hh) a3 a2
theorem rs_sweepAll (hb : B < 2 ^ 31) (hI : zIS Z B) (hR : zRS Z sf) : zRS (zSwA (zHor Z) 6 0 Z.1, Z.2) (rSwA 6 0 sf) ∧ zIS (zSwA (zHor Z) 6 0 Z.1, Z.2) B := rs_swA hb 6 0 Z sf (by omega) rfl hI hR
theorem rs_open (hI : zIS Z B) (hR : zRS Z sf) {k : Nat} (hk : k < 4) : zRS (Z.1, (upd Z.2.1.1 k Z.1.2.2.2.2.1, Z.2.1.2), Z.2.2) (upd sf (91 + 2 * k) (sf 0 + 1)) ∧ zIS (Z.1, (upd Z.2.1.1 k Z.1.2.2.2.2.1, Z.2.1.2), Z.2.2) B ∧ Z.1.2.2.2.2.1 = upd sf (91 + 2 * k) (sf 0 + 1) 0 := by
  obtain ⟨h1, h2, ⟨c, h3, h4⟩, h5⟩ := hI
  refine ⟨⟨zRT_c (fun i hi => upd_n (by omega)) hR.1, fun a ha => ?_, fun w hw => by rw [upd_n (by omega)]; exact hR.2.2.1 w hw, by rw [upd_n (by omega)]; exact hR.2.2.2.1, by rw [upd_n (by omega)]; exact hR.2.2.2.2⟩, ⟨h1, h2, ⟨c, h3, h4⟩, fun a ha => ?_⟩, ?_⟩
  · show _ = upd Z.2.1.1 k Z.1.2.2.2.2.1 a + 1 ∧ _ = Z.2.1.2 a
    by_cases e : a = k
    · subst e
      rw [upd_e (by omega), upd_e rfl, upd_n (by omega), hR.1.2.2.1]; exact ⟨rfl, (hR.2.1 a ha).2⟩
    · rw [upd_n (by omega), upd_n e, upd_n (by omega)]; exact hR.2.1 a ha
  · show upd Z.2.1.1 k Z.1.2.2.2.2.1 a = -1 ∨ ∃ m, m ≤ B ∧ upd Z.2.1.1 k Z.1.2.2.2.2.1 a = nI m
    by_cases e : a = k
    · rw [upd_e e]; exact Or.inr ⟨c, h3, h4⟩
    · rw [upd_n e]; exact h5 a ha
  · rw [upd_n (by omega)]; exact hR.1.2.2.1.symm
theorem rs_close (hI : zIS Z B) (hR : zRS Z sf) {k : Nat} (hk : k < 4) : zRS (Z.1, (upd Z.2.1.1 k (-1), Z.2.1.2), Z.2.2) (upd sf (91 + 2 * k) 0) ∧ zIS (Z.1, (upd Z.2.1.1 k (-1), Z.2.1.2), Z.2.2) B := by
  obtain ⟨h1, h2, ⟨c, h3, h4⟩, h5⟩ := hI
  refine ⟨⟨zRT_c (fun i hi => upd_n (by omega)) hR.1, fun a ha => ?_, fun w hw => by rw [upd_n (by omega)]; exact hR.2.2.1 w hw, by rw [upd_n (by omega)]; exact hR.2.2.2.1, by rw [upd_n (by omega)]; exact hR.2.2.2.2⟩, ⟨h1, h2, ⟨c, h3, h4⟩, fun a ha => ?_⟩⟩
  · show _ = upd Z.2.1.1 k (-1) a + 1 ∧ _ = Z.2.1.2 a
    by_cases e : a = k
    · subst e
      rw [upd_e (by omega), upd_e rfl, upd_n (by omega)]; exact ⟨by decide, (hR.2.1 a ha).2⟩
    · rw [upd_n (by omega), upd_n e, upd_n (by omega)]; exact hR.2.1 a ha
  · show upd Z.2.1.1 k (-1) a = -1 ∨ ∃ m, m ≤ B ∧ upd Z.2.1.1 k (-1) a = nI m
    by_cases e : a = k
    · rw [upd_e e]; exact Or.inl rfl
    · rw [upd_n e]; exact h5 a ha
theorem rs_ask (hb : B < 2 ^ 31) (hI : zIS Z B) (hR : zRS Z sf) {k w : Nat} (hk : k < 4) (hw : w < 3) (v : Int32) (hs : ¬ Z.2.1.1 k = -1) :
    (fun Z' => zRS Z' (rAsk sf k v w) ∧ zIS Z' B) (Z.1, (Z.2.1.1, upd Z.2.1.2 k (Z.2.1.2 k + 1)), zTly Z.2.2 w (zCost Z.1 (Z.2.1.1 k) v w) (!zTr Z.1 (Z.2.1.1 k))) ∧ rAns (rAsk sf k v w) (rSn sf k) v w = zAns Z.1 (Z.2.1.1 k) v w := by
  obtain ⟨h1, h2, ⟨c, h3, h4⟩, h5⟩ := hI
  obtain ⟨m, h6, h7⟩ := (h5 k hk).resolve_left hs
  have ht : 0 ≤ Z.2.1.1 k := by rw [h7]; exact nI_pos' (by omega)
  have e1 : rSn sf k = Z.2.1.1 k := r_sn hR hk
  generalize hs1 : upd sf (1 + w) (sf (1 + w) + 1) = s1
  have R1 : zRT Z.1 s1 := zRT_c (fun i hi => by rw [← hs1]; exact upd_n (by omega)) hR.1
  generalize hs2 : upd s1 4 (if rTru s1 (rSn sf k) w = w then s1 4 else s1 4 + 1) = s2
  have R2 : zRT Z.1 s2 := zRT_c (fun i hi => by rw [← hs2]; exact upd_n (by omega)) R1
  generalize hs3 : upd s2 5 (s2 5 + rCost s2 (rSn sf k) v w) = s3
  have R3 : zRT Z.1 s3 := zRT_c (fun i hi => by rw [← hs3]; exact upd_n (by omega)) R2
  have ea : rAsk sf k v w = upd s3 (91 + 2 * k + 1) (s3 (91 + 2 * k + 1) + 1) := by
    unfold rAsk
    rw [hs1]
    show upd (upd (upd s1 4 (if rTru s1 (rSn sf k) w = w then s1 4 else s1 4 + 1)) 5 _) _ _ = _
    rw [hs2, hs3]
  have R4 : zRT Z.1 (rAsk sf k v w) := zRT_c (fun i hi => by rw [ea]; exact upd_n (by omega)) R3
  have hcost : rCost s2 (rSn sf k) v w = zCost Z.1 (Z.2.1.1 k) v w := by rw [e1]; exact r_cost h1 h2 R2 ht v hw
  have htru : rTru s1 (rSn sf k) w = if w = 2 then (if zTr Z.1 (Z.2.1.1 k) then 2 else 1) else w := by rw [e1]; exact r_tru h2 R1 ht hw
  have v1 : ∀ j, j < 3 → rAsk sf k v w (1 + j) = s1 (1 + j) := fun j hj => by rw [ea, upd_n (by omega), ← hs3, upd_n (by omega), ← hs2, upd_n (by omega)]
  have v4 : rAsk sf k v w 4 = if rTru s1 (rSn sf k) w = w then sf 4 else sf 4 + 1 := by
    rw [ea, upd_n (by omega), ← hs3, upd_n (by omega), ← hs2, upd_e rfl, ← hs1, upd_n (by omega)]
  have v5 : rAsk sf k v w 5 = sf 5 + zCost Z.1 (Z.2.1.1 k) v w := by
    rw [ea, upd_n (by omega), ← hs3, upd_e rfl, hcost, ← hs2, upd_n (by omega), ← hs1, upd_n (by omega)]
  refine ⟨⟨⟨R4, fun a ha => ?_, fun j hj => ?_, ?_, ?_⟩, h1, h2, ⟨c, h3, h4⟩, h5⟩, ?_⟩
  · show _ = Z.2.1.1 a + 1 ∧ _ = upd Z.2.1.2 k (Z.2.1.2 k + 1) a
    rw [ea, upd_n (by omega)]
    have e3 : ∀ i, 91 ≤ i → s3 i = sf i := fun i hi => by rw [← hs3, upd_n (by omega), ← hs2, upd_n (by omega), ← hs1, upd_n (by omega)]
    by_cases e : a = k
    · subst e
      rw [upd_e rfl, upd_e rfl, e3 _ (by omega), e3 _ (by omega), (hR.2.1 a ha).1, (hR.2.1 a ha).2]
      exact ⟨rfl, rfl⟩
    · rw [upd_n (by omega), upd_n e, e3 _ (by omega), e3 _ (by omega)]
      exact hR.2.1 a ha
  · show _ = upd Z.2.2.1 w (Z.2.2.1 w + 1) j
    rw [v1 j hj, ← hs1]
    by_cases e : j = w
    · subst e
      rw [upd_e rfl, upd_e rfl, hR.2.2.1 j hj]
    · rw [upd_n (by omega), upd_n e]; exact hR.2.2.1 j hj
  · rw [v4, htru, hR.2.2.2.1]
    show _ = (if w = 2 then (if (!zTr Z.1 (Z.2.1.1 k)) = true then Z.2.2.2.1 + 1 else Z.2.2.2.1) else Z.2.2.2.1)
    by_cases e : w = 2
    · subst e
      cases zTr Z.1 (Z.2.1.1 k)
      · rfl
      · rfl
    · rw [if_neg e, if_neg e, if_pos rfl]
  · rw [v5, hR.2.2.2.2]; rfl
  · rw [e1]; exact r_ans h1 h2 R4 ht v hw
end CALLS
