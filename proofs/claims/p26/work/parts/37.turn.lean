/-! THE LAW, ONE TURN -/
def zAl (s : State) : Nat → Prop := fun q => s.heap.size ≤ q
def zCx (p : Program) (l : Launch) (s : State) (m : MethodId) (c : Code) (b L : Nat) (xs : Nat → Int32) (D : va_G) (ca : Nat → ClassId) (y a h x : Nat → Nat) (rB : Nat → Nat → Nat) (F : Nat → Option Nat) : Prop :=
  CallFix p m c cL_law 11 s #[Value.ref b] wAll RL ∧ zK D ca s ∧ va_X b L xs s s.heap ∧ b < s.heap.size ∧ zAD y a h rB F s.heap.size ∧ L ≤ 260
theorem zbA {s : State} {b : Nat} (h : b < s.heap.size) : ¬ zAl s b := Nat.not_le.mpr h
theorem lg_self (v : Int64) : lg_cmp v v = 0 := by
  unfold lg_cmp
  rw [if_neg (by simp [Int64.lt_iff_toInt_lt]), if_pos rfl]
/-- what an act of two cells is -/
def zAV (Z : zSt) (v w : Int32) : Option (Int32 × zSt) := zAO Z (zK15 v) (zlow (v >>> ((4 : Int32) &&& 31)) 4) (zlow w (zP8 w)) w
theorem av_iv {Z : zSt} {B : Nat} (hI : zIv Z B) (hB : B < 2 ^ 30) {v w g : Int32} {Z' : zSt} (h : zAV Z v w = some (g, Z')) : zIv Z' (B + 1) ∧ 0 ≤ g.toInt := by
  have h8 := zP8_b w
  have h9 := zlow_lt (v := w) h8.1
  exact ao_iv hI hB (zlow_lt (by decide)) (by omega) h
section LAW
variable {p : Program} {l : Launch} {e : Env} {s : State} {m : MethodId} {below : List Frame} {meth : Method} {c : Code} {H : Heap} {locs : List Loc} {cells slots : Nat} {Q : State → Prop}
variable {ls : Array Slot} {D : va_G} {ca : Nat → ClassId} {b L : Nat} {xs : Nat → Int32} {y a h x : Nat → Nat} {rB : Nat → Nat → Nat} {F : Nat → Option Nat} {Z : zSt} {G : Nat → zSt} {nx sz B pc : Nat} {rest : List Value}
theorem zl_count (X : zCx p l s m c b L xs D ca y a h x rB F) (hI : zLI D ca y a h x rB F Z G nx sz B H) (hsz : ls.size = 11) (hcs : cells ≤ 600104 ∧ slots ≤ 7301314) (hdg : decode cL_law pc = .ok (.invokevirtual 12, 3))
    (kk : W p l e room_1 s m #[Value.ref b] below meth c H locs cells slots Q (F0 m (pc + 3) ls [.int (nI sz)])) : W p l e room_1 s m #[Value.ref b] below meth c H locs cells slots Q (F0 m pc ls [.int (nI 12), .ref (y 0)]) := by
  obtain ⟨S, hK, -⟩ := X
  obtain ⟨-, hs6, -, -, hPd, -⟩ := hI
  refine zcr (As := [.int (nI 12)]) (rest := []) (q0 := 0) S (c_X6_count_C l D ca y a h x Z nx sz hs6 12 (by decide)) ml_L_12 zy_X6_count im_X6_count se_X6_count ⟨Nat.le_of_ble_eq_true rfl, Nat.le_of_ble_eq_true rfl⟩ hK hPd [0, 1, 3, 4, 5, 6, 7, 8, 9, 10, 11, 12, 13] rfl rfl rfl rfl rfl hsz rfl (Nat.le_of_ble_eq_true rfl) hcs hdg ?_
  rw [zCo_12]
  exact kk
theorem zl_told (X : zCx p l s m c b L xs D ca y a h x rB F) (hI : zLI D ca y a h x rB F Z G nx sz B H) (hsz : ls.size = 11) (hcs : cells ≤ 600104 ∧ slots ≤ 7301314) (hdg : decode cL_law pc = .ok (.invokestatic 77, 3))
    (kk : W p l e room_1 s m #[Value.ref b] below meth c H locs cells slots Q (F0 m (pc + 3) ls [.long (zTold Z sz)])) : W p l e room_1 s m #[Value.ref b] below meth c H locs cells slots Q (F0 m pc ls [.ref (y 0)]) := by
  obtain ⟨S, hK, -⟩ := X
  obtain ⟨-, hs6, -, -, hPd, -⟩ := hI
  exact zcrS (As := [.ref (y 0)]) (rest := []) S (c_L_told l D ca y a h x Z nx sz hs6) ml_L_77 zy_L_told st_L_told ⟨Nat.le_of_ble_eq_true rfl, Nat.le_of_ble_eq_true rfl⟩ hK hPd [0, 1, 3, 4, 5, 6, 7, 8, 9, 10, 11, 12, 13] rfl rfl hsz rfl (Nat.le_of_ble_eq_true rfl) hcs hdg kk
theorem zl_holds {w : Int32} (X : zCx p l s m c b L xs D ca y a h x rB F) (hI : zLI D ca y a h x rB F Z G nx sz B H) (hsz : ls.size = 11) (hcs : cells ≤ 600104 ∧ slots ≤ 7301314) (hdg : decode cL_law pc = .ok (.invokestatic 85, 3))
    (kk : W p l e room_1 s m #[Value.ref b] below meth c H locs cells slots Q (F0 m (pc + 3) ls [.int (zb true)])) : W p l e room_1 s m #[Value.ref b] below meth c H locs cells slots Q (F0 m pc ls [.int w, .ref (y 0)]) := by
  obtain ⟨S, hK, -⟩ := X
  obtain ⟨-, hs6, hv, -, hPd, -⟩ := hI
  exact zcrS (As := [.ref (y 0), .int w]) (rest := []) S (c_L_holds l D ca y a h x Z nx sz hs6 B hv w) ml_L_85 zy_L_holds st_L_holds ⟨Nat.le_of_ble_eq_true rfl, Nat.le_of_ble_eq_true rfl⟩ hK hPd [0, 1, 3, 4, 5, 6, 7, 8, 9, 10, 11, 12, 13] rfl rfl hsz rfl (Nat.le_of_ble_eq_true rfl) hcs hdg kk
theorem zl_act {v w : Int32} (X : zCx p l s m c b L xs D ca y a h x rB F) (hI : zLI D ca y a h x rB F Z G nx sz B H) (hB : B < 2 ^ 30) (hS : va_S (zAl s) s.heap H locs) (hsz : ls.size = 11) (hcs : cells ≤ 600104 ∧ slots ≤ 7301314) (hdg : decode cL_law pc = .ok (.invokestatic 81, 3))
    (kn : zAV Z v w = none → ∀ (H1 : Heap) (locs1 : List Loc), zLI D ca y a h x rB F Z G nx sz B H1 → va_S (zAl s) s.heap H1 locs1 → W p l e room_1 s m #[Value.ref b] below meth c H1 locs1 cells slots Q (F0 m (pc + 3) ls [.int (-9)]))
    (ks : ∀ (g : Int32) (Z' : zSt), zAV Z v w = some (g, Z') → ∀ (H1 : Heap) (locs1 : List Loc), zLI D ca y a h x rB F Z' (zGu G nx Z) ((nx + 1) % 6) (zSz sz) (B + 1) H1 → va_S (zAl s) s.heap H1 locs1 → W p l e room_1 s m #[Value.ref b] below meth c H1 locs1 cells slots Q (F0 m (pc + 3) ls [.int g])) :
    W p l e room_1 s m #[Value.ref b] below meth c H locs cells slots Q (F0 m pc ls [.int w, .int v, .ref (y 0)]) := by
  obtain ⟨S, hK, -, -, C, -⟩ := X
  obtain ⟨hnx, hs6, hv, hG, hPd, hPb⟩ := hI
  have hP0 := (hPb nx hnx).app hPd
  have hP : va_P D vwCl (zWC ca y a (rB nx) h x F (G nx) Z nx sz) H := hP0.sub [11, 12, 13, 0, 1, 2, 3, 4, 5, 6, 7, 8, 9, 10, 14, 15, 16, 17, 18, 19, 20, 21, 22, 23, 24] rfl
  have hM : zMw l yL_act cL_act 5 (some .int) 5 105 D ca (zWC ca y a (rB nx) h x F (G nx) Z nx sz) (zWC ca y a (rB nx) h x F (zAct Z (G nx) nx sz v w).2.2.1 (zAct Z (G nx) nx sz v w).2.1 (zAct Z (G nx) nx sz v w).2.2.2.1 (zAct Z (G nx) nx sz v w).2.2.2.2) [.ref (y 0), .int v, .int w] (some (.int (zAct Z (G nx) nx sz v w).1)) :=
    c_L_act l D ca y a (rB nx) h x nx sz hnx hs6 F (C.2.2.2.2 nx hnx) (G nx) Z v w (C.1 nx hnx)
  refine zgs (LA := zLC y a (rB nx) h) (As := [.ref (y 0), .int v, .int w]) (rest := []) S hM rfl ml_L_81 zy_L_act st_L_act ⟨Nat.le_of_ble_eq_true rfl, Nat.le_of_ble_eq_true rfl⟩ hK hP (ad_nb C hnx) hS rfl hsz rfl (Nat.le_of_ble_eq_true rfl) hcs hdg (fun H1 locs1 hP1 hS1 hk1 => ?_)
  rcases hao : zAV Z v w with _ | ⟨g, Z'⟩
  · have e1 : zAct Z (G nx) nx sz v w = (-9, Z, G nx, nx, sz) := act_none hao
    rw [e1] at hP1 ⊢
    have hP1 : va_P D vwCl (zWC ca y a (rB nx) h x F (G nx) Z nx sz) H1 := hP1
    refine kn hao H1 locs1 ⟨hnx, hs6, hv, hG, hP1.sub [0, 1, 2, 14, 15, 16, 17, 18, 19, 20, 21, 22, 23, 24] rfl, fun j hj => ?_⟩ hS1
    by_cases ej : j = nx
    · rw [ej]
      exact hP1.sub [3, 4, 5, 6, 7, 8, 9, 10, 11, 12, 13] rfl
    · exact (hPb j hj).kp hk1 rfl (ad_bb C hj hnx ej)
  · have e1 : zAct Z (G nx) nx sz v w = (g, Z', Z, (nx + 1) % 6, zSz sz) := act_some hao
    rw [e1] at hP1 ⊢
    have hP1 : va_P D vwCl (zWC ca y a (rB nx) h x F Z Z' ((nx + 1) % 6) (zSz sz)) H1 := hP1
    refine ks g Z' hao H1 locs1 ⟨Nat.mod_lt _ (by decide), by unfold zSz; split <;> omega, (av_iv hv hB hao).1, fun j hj => ?_, hP1.sub [0, 1, 2, 14, 15, 16, 17, 18, 19, 20, 21, 22, 23, 24] rfl, fun j hj => ?_⟩ hS1
    · unfold zGu
      split
      · exact hv.mono (by omega)
      · exact (hG j hj).mono (by omega)
    · by_cases ej : j = nx
      · rw [ej, show zGu G nx Z nx = Z from if_pos rfl]
        exact hP1.sub [3, 4, 5, 6, 7, 8, 9, 10, 11, 12, 13] rfl
      · rw [show zGu G nx Z j = G j from if_neg ej]
        exact (hPb j hj).kp hk1 rfl (ad_bb C hj hnx ej)
theorem zl_undo (X : zCx p l s m c b L xs D ca y a h x rB F) (hI : zLI D ca y a h x rB F Z G nx sz B H) (hz0 : 0 < sz) (hS : va_S (zAl s) s.heap H locs) (hsz : ls.size = 11) (hcs : cells ≤ 600104 ∧ slots ≤ 7301314) (hdg : decode cL_law pc = .ok (.invokevirtual 74, 3))
    (kk : ∀ (H1 : Heap) (locs1 : List Loc), zLI D ca y a h x rB F (G ((nx + 5) % 6)) G ((nx + 5) % 6) (sz - 1) B H1 → va_S (zAl s) s.heap H1 locs1 → W p l e room_1 s m #[Value.ref b] below meth c H1 locs1 cells slots Q (F0 m (pc + 3) ls [.int (nI (sz - 1))])) :
    W p l e room_1 s m #[Value.ref b] below meth c H locs cells slots Q (F0 m pc ls [.ref (y 0)]) := by
  obtain ⟨S, hK, -, -, C, -⟩ := X
  obtain ⟨hnx, hs6, hv, hG, hPd, hPb⟩ := hI
  have hq : (nx + 5) % 6 < 6 := Nat.mod_lt _ (by decide)
  generalize hqe : (nx + 5) % 6 = q at *
  have hP0 := (hPb q hq).app hPd
  have hP : va_P D vwCl (zWC ca y a (rB q) h x F (G q) Z nx sz) H := hP0.sub [11, 12, 13, 0, 1, 2, 3, 4, 5, 6, 7, 8, 9, 10, 14, 15, 16, 17, 18, 19, 20, 21, 22, 23, 24] rfl
  have hM : zMw l yX6_undo cX6_undo 1 (some .int) 4 81 D ca (zWC ca y a (rB q) h x F (G q) Z nx sz) (zWC ca y a (rB q) h x F (G q) (G q) ((nx + 5) % 6) (sz - 1)) [.ref (y 0)] (some (.int (nI (sz - 1)))) :=
    c_X6_undo_C l D ca y a (rB q) h x nx sz hnx hs6 F (by rw [hqe]; exact C.2.2.2.2 q hq) hz0 (G q) Z (C.1 q hq)
  refine zgv (LA := zLC y a (rB q) h) (As := []) (rest := []) (q0 := 0) S hM rfl ml_L_74 zy_X6_undo im_X6_undo se_X6_undo ⟨Nat.le_of_ble_eq_true rfl, Nat.le_of_ble_eq_true rfl⟩ hK hP (ad_nb C hq) hS rfl rfl rfl rfl hsz rfl (Nat.le_of_ble_eq_true rfl) hcs hdg (fun H1 locs1 hP1 hS1 hk1 => ?_)
  rw [hqe] at hP1
  refine kk H1 locs1 ⟨hq, by omega, hG q hq, hG, hP1.sub [0, 1, 2, 14, 15, 16, 17, 18, 19, 20, 21, 22, 23, 24] rfl, fun j hj => ?_⟩ hS1
  by_cases ej : j = q
  · rw [ej]
    exact hP1.sub [3, 4, 5, 6, 7, 8, 9, 10, 11, 12, 13] rfl
  · exact (hPb j hj).kp hk1 rfl (ad_bb C hj hq ej)
/-- the law's locals between turns -/
def zLv (b t y0 : Nat) : List (Nat × Value) := [(0, .ref b), (1, .ref y0), (2, .int (nI t))]
/-- what a turn goes on to -/
abbrev zGo2 (p : Program) (l : Launch) (e : Env) (s : State) (m : MethodId) (below : List Frame) (meth : Method) (c : Code) (cells slots : Nat) (Q : State → Prop) (D : va_G) (ca : Nat → ClassId) (b : Nat) (y a h x : Nat → Nat) (rB : Nat → Nat → Nat) (F : Nat → Option Nat) (t : Nat) : Prop :=
  ∀ (H1 : Heap) (locs1 : List Loc) (ls1 : Array Slot) (Z : zSt) (G : Nat → zSt) (nx sz : Nat), zLI D ca y a h x rB F Z G nx sz t H1 → va_S (zAl s) s.heap H1 locs1 → lv_has ls1 11 (zLv b t (y 0)) → W p l e room_1 s m #[Value.ref b] below meth c H1 locs1 cells slots Q (F0 m 10 ls1 [])
theorem lt_188 {t : Nat} {w : Int32} (X : zCx p l s m c b L xs D ca y a h x rB F) (hI : zLI D ca y a h x rB F Z G nx sz (t + 1) H) (hS : va_S (zAl s) s.heap H locs) (hl : lv_has ls 11 [(4, .int w), (0, .ref b), (1, .ref (y 0)), (2, .int (nI t))]) (hcs : cells ≤ 600104 ∧ slots ≤ 7301314)
    (kk : zGo2 p l e s m below meth c cells slots Q D ca b y a h x rB F (t + 1)) : W p l e room_1 s m #[Value.ref b] below meth c H locs cells slots Q (F0 m 188 ls []) := by
  have hx := X.1.1
  have hb := X.1.2.1
  refine lv_aload_n hx hb dL_law_188 rfl (lv_at hl 2 rfl) ?_
  refine lv_iload hx hb dL_law_189 (lv_at hl 0 rfl) ?_
  refine zl_holds X hI hl.1 hcs dL_law_191 ?_
  refine zz_ne (tgt := 199) hx hb dL_law_194 (by decide) (fun _ => ?_) (fun h => absurd h (by decide))
  refine lv_iinc (v := nI (t + 1)) (lv' := [(2, .int (nI (t + 1))), (4, .int w), (0, .ref b), (1, .ref (y 0))]) hx hb dL_law_199 hl (k := 3) rfl (zinc t 1) (by decide) rfl (fun ls2 hl2 => ?_)
  exact lv_goto (tgt := 10) hx hb dL_law_202 (by decide) (kk H locs ls2 Z G nx sz hI hS (lv_sub hl2 [2, 3, 0] rfl))
/-- from the first act on: an act that is none -/
theorem lt_85n {t : Nat} {v w : Int32} {ht : Int64} (X : zCx p l s m c b L xs D ca y a h x rB F) (hI : zLI D ca y a h x rB F Z G nx sz t H) (hS : va_S (zAl s) s.heap H locs) (hl : lv_has ls 11 [(9, .long ht), (8, .int (-9)), (6, .long ht), (5, .int (nI sz)), (4, .int w), (3, .int v), (0, .ref b), (1, .ref (y 0)), (2, .int (nI t))]) (hcs : cells ≤ 600104 ∧ slots ≤ 7301314)
    (kk : zGo2 p l e s m below meth c cells slots Q D ca b y a h x rB F (t + 1)) : W p l e room_1 s m #[Value.ref b] below meth c H locs cells slots Q (F0 m 85 ls []) := by
  have hx := X.1.1
  have hb := X.1.2.1
  refine lv_iload hx hb dL_law_85 (lv_at hl 1 rfl) ?_
  refine lv_bipush (v := -9) hx hb dL_law_87 (by decide) ?_
  refine lv_icmp_ne (tgt := 114) hx hb dL_law_89 (by decide) (fun h => absurd rfl h) (fun _ => ?_)
  refine lv_lload hx hb dL_law_92 (lv_at hl 0 rfl) ?_
  refine lv_lload hx hb dL_law_94 (lv_at hl 2 rfl) ?_
  refine W.lcmp hx hb dL_law_96 ?_
  rw [lg_self]
  refine lv_if_ne (tgt := 127) hx hb dL_law_97 (by decide) (fun h => absurd rfl h) (fun _ => ?_)
  refine lv_aload_n hx hb dL_law_100 rfl (lv_at hl 7 rfl) ?_
  refine lv_bipush (v := nI 12) hx hb dL_law_101 (by decide) ?_
  refine zl_count X hI hl.1 hcs dL_law_103 ?_
  refine lv_iload hx hb dL_law_106 (lv_at hl 3 rfl) ?_
  refine lv_icmp_eq (tgt := 129) hx hb dL_law_108 (by decide) (fun _ => ?_) (fun h => absurd rfl h)
  refine lv_iload hx hb dL_law_129 (lv_at hl 1 rfl) ?_
  refine lv_bipush (v := -9) hx hb dL_law_131 (by decide) ?_
  refine lv_icmp_le (tgt := 188) hx hb dL_law_133 (by decide) (fun _ => ?_) (fun h => absurd (by decide) h)
  exact lt_188 X (hI.mono (Nat.le_succ t)) hS (lv_sub hl [4, 6, 7, 8] rfl) hcs kk
/-- an act that is one -/
theorem lt_85s {t : Nat} {v w g : Int32} {Z' : zSt} {ht hu : Int64} (X : zCx p l s m c b L xs D ca y a h x rB F) (h6 : sz < 6) (htt : t < 2 ^ 30) (hv : zIv Z t) (hav : zAV Z v w = some (g, Z')) (hnx : nx < 6) (hI : zLI D ca y a h x rB F Z' (zGu G nx Z) ((nx + 1) % 6) (zSz sz) (t + 1) H) (hG : ∀ j, j < 6 → zIv (G j) t) (hS : va_S (zAl s) s.heap H locs) (eht : ht = zTold Z sz) (ehu : hu = zTold Z' (zSz sz)) (hl : lv_has ls 11 [(9, .long hu), (8, .int g), (6, .long ht), (5, .int (nI sz)), (4, .int w), (3, .int v), (0, .ref b), (1, .ref (y 0)), (2, .int (nI t))]) (hcs : cells ≤ 600104 ∧ slots ≤ 7301314)
    (kk : zGo2 p l e s m below meth c cells slots Q D ca b y a h x rB F (t + 1)) : W p l e room_1 s m #[Value.ref b] below meth c H locs cells slots Q (F0 m 85 ls []) := by
  have hx := X.1.1
  have hb := X.1.2.1
  have hg := (av_iv hv htt hav).2
  have m9 : (-9 : Int32).toInt = -9 := by decide
  have esz : zSz sz = sz + 1 := by unfold zSz; rw [if_pos h6]
  refine lv_iload hx hb dL_law_85 (lv_at hl 1 rfl) ?_
  refine lv_bipush (v := -9) hx hb dL_law_87 (by decide) ?_
  refine lv_icmp_ne (tgt := 114) hx hb dL_law_89 (by decide) (fun _ => ?_) (fun h => absurd h (i_ne (by rw [m9]; omega)))
  refine lv_aload_n hx hb dL_law_114 rfl (lv_at hl 7 rfl) ?_
  refine lv_bipush (v := nI 12) hx hb dL_law_115 (by decide) ?_
  refine zl_count X hI hl.1 hcs dL_law_117 ?_
  refine lv_iload hx hb dL_law_120 (lv_at hl 3 rfl) ?_
  refine lv_iconst (v := nI 1) hx hb dL_law_122 (by decide) ?_
  refine zn_add hx hb (x := sz) (y := 1) (z := sz + 1) rfl dL_law_123 ?_
  rw [esz]
  refine lv_icmp_eq (tgt := 129) hx hb dL_law_124 (by decide) (fun _ => ?_) (fun h => absurd rfl h)
  refine lv_iload hx hb dL_law_129 (lv_at hl 1 rfl) ?_
  refine lv_bipush (v := -9) hx hb dL_law_131 (by decide) ?_
  refine lv_icmp_le (tgt := 188) hx hb dL_law_133 (by decide) (fun h => ?_) (fun _ => ?_)
  · rw [le_iff, m9] at h
    omega
  refine lv_iload_n hx hb dL_law_136 rfl (lv_at hl 5 rfl) ?_
  refine lv_bipush (v := 8) hx hb dL_law_137 (by decide) ?_
  refine lv_ishr hx hb dL_law_139 ?_
  refine lv_iconst (v := 1) hx hb dL_law_140 (by decide) ?_
  refine lv_iand hx hb dL_law_141 ?_
  refine lv_if_ne (tgt := 188) hx hb dL_law_142 (by decide) (fun _ => ?_) (fun _ => ?_)
  · exact lt_188 X hI hS (lv_sub hl [4, 6, 7, 8] rfl) hcs kk
  refine lv_aload_n hx hb dL_law_145 rfl (lv_at hl 7 rfl) ?_
  refine zl_undo X hI (by omega) hS hl.1 hcs dL_law_146 (fun H locs hI hS => ?_)
  have eq1 : ((nx + 1) % 6 + 5) % 6 = nx := by omega
  have eq2 : zGu G nx Z nx = Z := if_pos rfl
  rw [eq1, eq2, esz, Nat.add_sub_cancel] at hI
  rw [esz, Nat.add_sub_cancel]
  have hI : zLI D ca y a h x rB F Z (zGu G nx Z) nx sz t H := ⟨hI.1, hI.2.1, hv, fun j hj => by
    unfold zGu
    split
    · exact hv
    · exact hG j hj, hI.2.2.2.2⟩
  refine lv_iload hx hb dL_law_149 (lv_at hl 3 rfl) ?_
  refine lv_icmp_ne (tgt := 186) hx hb dL_law_151 (by decide) (fun h => absurd rfl h) (fun _ => ?_)
  refine lv_aload_n hx hb dL_law_154 rfl (lv_at hl 7 rfl) ?_
  refine zl_told X hI hl.1 hcs dL_law_155 ?_
  refine lv_lload hx hb dL_law_158 (lv_at hl 2 rfl) ?_
  refine W.lcmp hx hb dL_law_160 ?_
  rw [eht, lg_self]
  refine lv_if_ne (tgt := 186) hx hb dL_law_161 (by decide) (fun h => absurd rfl h) (fun _ => ?_)
  refine lv_aload_n hx hb dL_law_164 rfl (lv_at hl 7 rfl) ?_
  refine lv_iload_n hx hb dL_law_165 rfl (lv_at hl 5 rfl) ?_
  refine lv_iload hx hb dL_law_166 (lv_at hl 4 rfl) ?_
  refine zl_act X hI htt hS hl.1 hcs dL_law_168 (fun h => ?_) (fun g2 Z2 h2 H locs hI hS => ?_)
  · rw [hav] at h
    cases h
  rw [hav] at h2
  obtain ⟨rfl, rfl⟩ := Prod.mk.inj (Option.some.inj h2)
  refine lv_iload hx hb dL_law_171 (lv_at hl 1 rfl) ?_
  refine lv_icmp_ne (tgt := 186) hx hb dL_law_173 (by decide) (fun h => absurd rfl h) (fun _ => ?_)
  refine lv_aload_n hx hb dL_law_176 rfl (lv_at hl 7 rfl) ?_
  refine zl_told X hI hl.1 hcs dL_law_177 ?_
  refine lv_lload hx hb dL_law_180 (lv_at hl 0 rfl) ?_
  refine W.lcmp hx hb dL_law_182 ?_
  rw [ehu, lg_self]
  refine lv_if_eq (tgt := 188) hx hb dL_law_183 (by decide) (fun _ => ?_) (fun h => absurd rfl h)
  exact lt_188 X hI hS (lv_sub hl [4, 6, 7, 8] rfl) hcs kk
/-- from pc 56 on, with room for a saved state -/
theorem lt_56 {t : Nat} {v w : Int32} (X : zCx p l s m c b L xs D ca y a h x rB F) (h6 : sz < 6) (htt : t < 2 ^ 30) (hI : zLI D ca y a h x rB F Z G nx sz t H) (hS : va_S (zAl s) s.heap H locs) (hl : lv_has ls 11 [(4, .int w), (3, .int v), (0, .ref b), (1, .ref (y 0)), (2, .int (nI t))]) (hcs : cells ≤ 600104 ∧ slots ≤ 7301314)
    (kk : zGo2 p l e s m below meth c cells slots Q D ca b y a h x rB F (t + 1)) : W p l e room_1 s m #[Value.ref b] below meth c H locs cells slots Q (F0 m 56 ls []) := by
  have hx := X.1.1
  have hb := X.1.2.1
  refine lv_aload_n hx hb dL_law_56 rfl (lv_at hl 3 rfl) ?_
  refine lv_bipush (v := nI 12) hx hb dL_law_57 (by decide) ?_
  refine zl_count X hI hl.1 hcs dL_law_59 ?_
  refine lv_istore (lv' := [(5, .int (nI sz)), (4, .int w), (3, .int v), (0, .ref b), (1, .ref (y 0)), (2, .int (nI t))]) hx hb dL_law_62 hl (by decide) rfl (fun ls hl => ?_)
  refine lv_aload_n hx hb dL_law_64 rfl (lv_at hl 4 rfl) ?_
  refine zl_told X hI hl.1 hcs dL_law_65 ?_
  generalize eht : zTold Z sz = ht
  refine lv_lstore (lv' := [(6, .long ht), (5, .int (nI sz)), (4, .int w), (3, .int v), (0, .ref b), (1, .ref (y 0)), (2, .int (nI t))]) hx hb dL_law_68 hl (by decide) rfl (fun ls hl => ?_)
  refine lv_aload_n hx hb dL_law_70 rfl (lv_at hl 5 rfl) ?_
  refine lv_iload_n hx hb dL_law_71 rfl (lv_at hl 3 rfl) ?_
  refine lv_iload hx hb dL_law_72 (lv_at hl 2 rfl) ?_
  refine zl_act X hI htt hS hl.1 hcs dL_law_74 (fun hn H1 locs1 hI1 hS1 => ?_) (fun g Z' hav H1 locs1 hI1 hS1 => ?_)
  · refine lv_istore (lv' := [(8, .int (-9)), (6, .long ht), (5, .int (nI sz)), (4, .int w), (3, .int v), (0, .ref b), (1, .ref (y 0)), (2, .int (nI t))]) hx hb dL_law_77 hl (by decide) rfl (fun ls hl => ?_)
    refine lv_aload_n hx hb dL_law_79 rfl (lv_at hl 6 rfl) ?_
    refine zl_told X hI1 hl.1 hcs dL_law_80 ?_
    rw [eht]
    refine lv_lstore (lv' := [(9, .long ht), (8, .int (-9)), (6, .long ht), (5, .int (nI sz)), (4, .int w), (3, .int v), (0, .ref b), (1, .ref (y 0)), (2, .int (nI t))]) hx hb dL_law_83 hl (by decide) rfl (fun ls hl => ?_)
    exact lt_85n X hI1 hS1 hl hcs kk
  · refine lv_istore (lv' := [(8, .int g), (6, .long ht), (5, .int (nI sz)), (4, .int w), (3, .int v), (0, .ref b), (1, .ref (y 0)), (2, .int (nI t))]) hx hb dL_law_77 hl (by decide) rfl (fun ls hl => ?_)
    refine lv_aload_n hx hb dL_law_79 rfl (lv_at hl 6 rfl) ?_
    refine zl_told X hI1 hl.1 hcs dL_law_80 ?_
    generalize ehu : zTold Z' (zSz sz) = hu
    refine lv_lstore (lv' := [(9, .long hu), (8, .int g), (6, .long ht), (5, .int (nI sz)), (4, .int w), (3, .int v), (0, .ref b), (1, .ref (y 0)), (2, .int (nI t))]) hx hb dL_law_83 hl (by decide) rfl (fun ls hl => ?_)
    exact lt_85s X h6 htt hI.2.2.1 hav hI.1 hI1 hI.2.2.2.1 hS1 eht.symm ehu.symm hl hcs kk
/-- one turn -/
theorem law_turn {t : Nat} (X : zCx p l s m c b L xs D ca y a h x rB F) (ht : t < 40) (hI : zLI D ca y a h x rB F Z G nx sz t H) (hS : va_S (zAl s) s.heap H locs) (hl : lv_has ls 11 (zLv b t (y 0))) (hcs : cells ≤ 600104 ∧ slots ≤ 7301314)
    (kk : zGo2 p l e s m below meth c cells slots Q D ca b y a h x rB F (t + 1)) : W p l e room_1 s m #[Value.ref b] below meth c H locs cells slots Q (F0 m 16 ls []) := by
  have hx := X.1.1
  have hb := X.1.2.1
  have hXs := X.2.2.1
  have hbl := X.2.2.2.1
  have hL := X.2.2.2.2.2
  have hl : lv_has ls 11 [(0, .ref b), (1, .ref (y 0)), (2, .int (nI t))] := hl
  refine lv_aload_n hx hb dL_law_16 rfl (lv_at hl 0 rfl) ?_
  refine lv_iconst (v := nI 2) hx hb dL_law_17 (by decide) ?_
  refine lv_iload_n hx hb dL_law_18 rfl (lv_at hl 2 rfl) ?_
  refine zn_mul hx hb (x := 2) (y := t) (z := 2 * t) rfl dL_law_19 ?_
  refine zgc (rest := []) X.1 (c_L_cell l b L xs (2 * t) hL (by omega)) hXs hbl (zbA hbl) hS ml_L_70 ⟨Nat.le_of_ble_eq_true rfl, Nat.le_of_ble_eq_true rfl⟩ hl.1 rfl (Nat.le_of_ble_eq_true rfl) hcs dL_law_20 ?_
  generalize zcel xs L (2 * t) = v
  refine lv_istore_n (lv' := [(3, .int v), (0, .ref b), (1, .ref (y 0)), (2, .int (nI t))]) hx hb dL_law_23 rfl hl (by decide) rfl (fun ls hl => ?_)
  refine lv_aload_n hx hb dL_law_24 rfl (lv_at hl 1 rfl) ?_
  refine lv_iconst (v := nI 2) hx hb dL_law_25 (by decide) ?_
  refine lv_iload_n hx hb dL_law_26 rfl (lv_at hl 3 rfl) ?_
  refine zn_mul hx hb (x := 2) (y := t) (z := 2 * t) rfl dL_law_27 ?_
  refine lv_iconst (v := nI 1) hx hb dL_law_28 (by decide) ?_
  refine zn_add hx hb (x := 2 * t) (y := 1) (z := 2 * t + 1) rfl dL_law_29 ?_
  refine zgc (rest := []) X.1 (c_L_cell l b L xs (2 * t + 1) hL (by omega)) hXs hbl (zbA hbl) hS ml_L_70 ⟨Nat.le_of_ble_eq_true rfl, Nat.le_of_ble_eq_true rfl⟩ hl.1 rfl (Nat.le_of_ble_eq_true rfl) hcs dL_law_30 ?_
  generalize zcel xs L (2 * t + 1) = w
  refine lv_istore (lv' := [(4, .int w), (3, .int v), (0, .ref b), (1, .ref (y 0)), (2, .int (nI t))]) hx hb dL_law_33 hl (by decide) rfl (fun ls hl => ?_)
  refine lv_aload_n hx hb dL_law_35 rfl (lv_at hl 3 rfl) ?_
  refine lv_bipush (v := nI 12) hx hb dL_law_36 (by decide) ?_
  refine zl_count X hI hl.1 hcs dL_law_38 ?_
  refine lv_bipush (v := nI 6) hx hb dL_law_41 (by decide) ?_
  have hs6 := hI.2.1
  refine zn_ne hx hb (x := sz) (y := 6) (by omega) (by omega) (tgt := 56) dL_law_43 (by decide) (fun hn => ?_) (fun he => ?_)
  · exact lt_56 X (by omega) (by omega) hI hS hl hcs kk
  · refine lv_aload_n hx hb dL_law_46 rfl (lv_at hl 3 rfl) ?_
    refine zl_undo X hI (by omega) hS hl.1 hcs dL_law_47 (fun H locs hI hS => ?_)
    refine lv_pop hx hb dL_law_50 rfl ?_
    refine lv_aload_n hx hb dL_law_51 rfl (lv_at hl 3 rfl) ?_
    refine zl_undo X hI (by omega) hS hl.1 hcs dL_law_52 (fun H locs hI hS => ?_)
    refine lv_pop hx hb dL_law_55 rfl ?_
    exact lt_56 X (by omega) (by omega) hI hS hl hcs kk
end LAW
