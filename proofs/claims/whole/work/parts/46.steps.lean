/-! THE LAW, STEP BY STEP: each of its calls, from the switch to the loop's end -/
def zAl (s : State) : Nat → Prop := fun q => s.heap.size ≤ q
/-- what stands at the law, all along -/
def zCx (p : Program) (l : Launch) (s : State) (m : MethodId) (c : Code) (b L : Nat) (xs : Nat → Int32) (D : va_G) (ca : Nat → ClassId) (y a h x o r : Nat → Nat) (rB : Nat → Nat → Nat) (F : Nat → Option Nat) : Prop :=
  CallFix p m c cL_law 9 s #[Value.ref b] wAll RL ∧ zK D ca s ∧ zXA s ∧ zXt (zAl s) s s.heap ∧ va_X b L xs s s.heap ∧ b < s.heap.size ∧ zAD y a h x o r rB F s.heap.size ∧ L ≤ 2560 ∧ l.stackTraces = false
/-- the law's locals between calls -/
def zLv (b t y o r : Nat) : List (Nat × Value) := [(4, .int (nI (5 * t))), (0, .ref b), (1, .ref y), (2, .ref o), (3, .ref r)]
theorem zbA {s : State} {b : Nat} (h : b < s.heap.size) : ¬ zAl s b := Nat.not_le.mpr h
theorem lg_self (v : Int64) : lg_cmp v v = 0 := by
  unfold lg_cmp
  rw [if_neg (by simp [Int64.lt_iff_toInt_lt]), if_pos rfl]
section LAW
variable {p : Program} {l : Launch} {e : Env} {s : State} {m : MethodId} {below : List Frame} {meth : Method} {c : Code} {H : Heap} {locs : List Loc} {cells slots : Nat} {Q : State → Prop}
variable {ls : Array Slot} {D : va_G} {ca : Nat → ClassId} {b L : Nat} {xs : Nat → Int32} {y a h x o r : Nat → Nat} {rB : Nat → Nat → Nat} {F : Nat → Option Nat} {t : Nat} {ov : Nat → Int64} {thr : Int32}
/-- an int of the script, for an argument -/
theorem zl_arg {pc k : Nat} {lv : List (Nat × Value)} {stk : List Value} (X : zCx p l s m c b L xs D ca y a h x o r rB F) (hS : va_S (zAl s) s.heap H locs) (hl0 : ls[0]? = some (.val (.ref b))) (hl4 : ls[4]? = some (.val (.int (nI (5 * t))))) (hk : 5 * t + k < L)
    (d0 : decode cL_law pc = .ok (.aload_n 0, 1)) (d1 : decode cL_law (pc + 1) = .ok (.iload 4, 2)) (d3 : decode cL_law (pc + 3) = .ok (.iconst k, 1)) (d4 : decode cL_law (pc + 4) = .ok (.iadd, 1)) (d5 : decode cL_law (pc + 5) = .ok (.iaload, 1))
    (kk : W p l e room_1 s m #[Value.ref b] below meth c H locs cells slots Q (F0 m (pc + 6) ls (.int (xs (5 * t + k)) :: stk))) : W p l e room_1 s m #[Value.ref b] below meth c H locs cells slots Q (F0 m pc ls stk) := by
  obtain ⟨S, hK, hXA, hXt, hX, hbl, C, hL, -⟩ := X
  have hx := S.1
  have hb := S.2.1
  refine lv_aload_n hx hb d0 rfl hl0 ?_
  refine lv_iload hx hb d1 hl4 ?_
  refine lv_iconst (v := nI k) hx hb d3 Int32.ofInt_eq_ofNat ?_
  refine zn_add hx hb (x := 5 * t) (y := k) (z := 5 * t + k) rfl d4 ?_
  refine va_sld hx hb hX hbl (zbA hbl) hS (vp_in_nI hk (by omega)) d5 ?_
  rw [nI_clamp (by omega)]
  exact kk
/-- behind the two calls: what was thrown, the answers, compared -/
theorem zl_tail {pc : Nat} {T1 T2 : Nat} {o1 o2 o3 o4 : Int} {rv ans : Int32} (X : zCx p l s m c b L xs D ca y a h x o r rB F) (hI : zLI D ca y a h x o r rB F (t + 1) ov rv H) (ha : rv = 0 → ov 0 = ans.toInt64) (hS : va_S (zAl s) s.heap H locs) (hl : lv_has ls 9 ((6, .int ans) :: (5, .int rv) :: zLv b t (y 0) (o 0) (r 0))) (hcs : cells ≤ 601024 ∧ slots ≤ 7293034)
    (d0 : decode cL_law pc = .ok (.aload_n 2, 1)) (d1 : decode cL_law (pc + 1) = .ok (.invokevirtual 81, 3)) (d4 : decode cL_law (pc + 4) = .ok (.iload 5, 2)) (d6 : decode cL_law (pc + 6) = .ok (.if_icmp .eq o1, 3)) (t1 : ((pc + 6 : Nat) : Int) + o1 = (T1 : Int))
    (d11 : decode cL_law T1 = .ok (.iload 5, 2)) (d13 : decode cL_law (T1 + 2) = .ok (.ifCond .ne o2, 3)) (t2 : ((T1 + 2 : Nat) : Int) + o2 = (T2 : Int)) (d16 : decode cL_law (T1 + 5) = .ok (.aload_n 3, 1)) (d17 : decode cL_law (T1 + 6) = .ok (.iconst 0, 1)) (d18 : decode cL_law (T1 + 7) = .ok (.laload, 1)) (d19 : decode cL_law (T1 + 8) = .ok (.iload 6, 2)) (d21 : decode cL_law (T1 + 10) = .ok (.i2l, 1)) (d22 : decode cL_law (T1 + 11) = .ok (.lcmp, 1)) (d23 : decode cL_law (T1 + 12) = .ok (.ifCond .eq o3, 3)) (t3 : ((T1 + 12 : Nat) : Int) + o3 = (T2 : Int)) (d28 : decode cL_law T2 = .ok (.goto o4, 3)) (t4 : (T2 : Int) + o4 = ((1287 : Nat) : Int))
    (kk : lv_has ls 9 (zLv b t (y 0) (o 0) (r 0)) → W p l e room_1 s m #[Value.ref b] below meth c H locs cells slots Q (F0 m 1287 ls [])) : W p l e room_1 s m #[Value.ref b] below meth c H locs cells slots Q (F0 m pc ls []) := by
  obtain ⟨S, hK, hXA, hXt, hX, hbl, C, hL, -⟩ := X
  have hx := S.1
  have hb := S.2.1
  obtain ⟨Z, G, nx, sz, g, n, i, q, pl, dg, sf, sv, i2, wl, rm, rd, hh, hp, hPd, hPm, hPb⟩ := hI
  have hk2 := kk (lv_sub hl [2, 3, 4, 5, 6] rfl)
  refine lv_aload_n hx hb d0 rfl (lv_at hl 5 rfl) ?_
  refine zgr (As := []) (rest := []) S (o_M_thrown l D ca o rv sf sv sz n i2 wl rm g rd hh) ml_L_81 zy_X7_thrown im_X7_thrown se_X7_thrown ⟨Nat.le_of_ble_eq_true rfl, Nat.le_of_ble_eq_true rfl⟩ hK hPm rfl rfl rfl hl.1 rfl (Nat.le_of_ble_eq_true rfl) hcs d1 ?_
  refine lv_iload hx hb d4 (lv_at hl 1 rfl) ?_
  refine lv_icmp_eq hx hb d6 t1 (fun _ => ?_) (fun h => absurd rfl h)
  refine lv_iload hx hb d11 (lv_at hl 1 rfl) ?_
  refine lv_if_ne hx hb d13 t2 (fun _ => ?_) (fun h0 => ?_)
  · exact lv_goto hx hb d28 t4 hk2
  · have h0 : rv = 0 := by simpa using h0
    refine lv_aload_n hx hb d16 rfl (lv_at hl 6 rfl) ?_
    refine lv_iconst (v := 0) hx hb d17 (by decide) ?_
    refine z_lald S hK hPd 0 rfl (j := 0) (by omega) (by decide) d18 ?_
    refine lv_iload hx hb d19 (lv_at hl 0 rfl) ?_
    refine lv_i2l hx hb d21 rfl ?_
    refine W.lcmp hx hb d22 ?_
    rw [ha h0, lg_self]
    refine lv_if_eq hx hb d23 t3 (fun _ => ?_) (fun h => absurd rfl h)
    exact lv_goto hx hb d28 t4 hk2
set_option maxRecDepth 100000 in
theorem st_put (X : zCx p l s m c b L xs D ca y a h x o r rB F) (hI : zLI D ca y a h x o r rB F t ov thr H) (hS : va_S (zAl s) s.heap H locs) (hl : lv_has ls 9 (zLv b t (y 0) (o 0) (r 0))) (h5 : 5 * t + 5 ≤ L) (hcs : cells + 1 ≤ 601024 ∧ slots + 6 ≤ 7293034)
    (kk : ∀ (H1 : Heap) (locs1 : List Loc) (ls1 : Array Slot) (ov1 : Nat → Int64) (thr1 : Int32), zLI D ca y a h x o r rB F (t + 1) ov1 thr1 H1 → va_S (zAl s) s.heap H1 locs1 → lv_has ls1 9 (zLv b t (y 0) (o 0) (r 0)) → W p l e room_1 s m #[Value.ref b] below meth c H1 locs1 (cells + 1) (slots + 6) Q (F0 m 1287 ls1 [])) : W p l e room_1 s m #[Value.ref b] below meth c H locs cells slots Q (F0 m 144 ls []) := by
  have hx := X.1.1
  have hb := X.1.2.1
  have hK := X.2.1
  obtain ⟨LA, V, V1, U, U1, rv, ans, hL, hLA, hPV, hM, hU, hend⟩ := pr_put (l := l) (N := s.heap.size) X.2.2.2.2.2.2.2.2 X.2.2.2.2.2.2.1 (by have := X.2.2.2.2.2.2.2.1; omega) hI (xs (5 * t + 1))
  refine lv_aload_n hx hb dL_law_144 rfl (lv_at hl 2 rfl) ?_
  refine zl_arg (lv := []) (k := 1) X hS (lv_at hl 1 rfl) (lv_at hl 0 rfl) (by omega) dL_law_145 dL_law_146 dL_law_148 dL_law_149 dL_law_150 ?_
  refine lv_aload_n hx hb dL_law_151 rfl (lv_at hl 4 rfl) ?_
  refine zgl (As := [.ref (y 0), .int (xs (5 * t + 1)), .ref (r 0)]) (rest := []) X.1 hL ml_L_75 zyw_L_put st_L_put ⟨Nat.le_of_ble_eq_true rfl, Nat.le_of_ble_eq_true rfl⟩ hK X.2.2.1 (X.2.2.2.1.kept hS.2.1) hPV hLA hS rfl hl.1 rfl (Nat.le_of_ble_eq_true rfl) hcs dL_law_152 (fun H1 locs1 hP1 hS1 k1 => ?_)
  refine lv_istore (lv' := [(5, .int rv), (4, .int (nI (5 * t))), (0, .ref b), (1, .ref (y 0)), (2, .ref (o 0)), (3, .ref (r 0))]) hx hb dL_law_155 hl (by decide) rfl (fun ls hl => ?_)
  have hS := hS1
  refine lv_aload_n hx hb dL_law_157 rfl (lv_at hl 4 rfl) ?_
  refine zl_arg (lv := []) (k := 1) X hS (lv_at hl 2 rfl) (lv_at hl 1 rfl) (by omega) dL_law_158 dL_law_159 dL_law_161 dL_law_162 dL_law_163 ?_
  refine zgm (As := [.int (xs (5 * t + 1))]) (rest := []) X.1 hM ml_L_80 zy_X7_put im_X7_put se_X7_put ⟨Nat.le_of_ble_eq_true rfl, Nat.le_of_ble_eq_true rfl⟩ hK (hU H1 k1) (ad_nm X.2.2.2.2.2.2.1) hS rfl rfl rfl hl.1 rfl (Nat.le_of_ble_eq_true rfl) hcs dL_law_164 (fun H2 locs2 hP2 hS2 k2 => ?_)
  refine lv_istore (lv' := [(6, .int ans), (5, .int rv), (4, .int (nI (5 * t))), (0, .ref b), (1, .ref (y 0)), (2, .ref (o 0)), (3, .ref (r 0))]) hx hb dL_law_167 hl (by decide) rfl (fun ls hl => ?_)
  obtain ⟨ov1, hI2, hans⟩ := hend H1 H2 hP1 k1 hP2 k2
  exact zl_tail (T1 := 180) (T2 := 197) X hI2 hans hS2 hl hcs dL_law_169 dL_law_170 dL_law_173 dL_law_175 (by decide) dL_law_180 dL_law_182 (by decide) dL_law_185 dL_law_186 dL_law_187 dL_law_188 dL_law_190 dL_law_191 dL_law_192 (by decide) dL_law_197 (by decide) (fun hl => kk _ _ _ _ _ hI2 hS2 hl)
set_option maxRecDepth 100000 in
theorem st_take (X : zCx p l s m c b L xs D ca y a h x o r rB F) (hI : zLI D ca y a h x o r rB F t ov thr H) (hS : va_S (zAl s) s.heap H locs) (hl : lv_has ls 9 (zLv b t (y 0) (o 0) (r 0))) (h5 : 5 * t + 5 ≤ L) (hcs : cells + 1 ≤ 601024 ∧ slots + 6 ≤ 7293034)
    (kk : ∀ (H1 : Heap) (locs1 : List Loc) (ls1 : Array Slot) (ov1 : Nat → Int64) (thr1 : Int32), zLI D ca y a h x o r rB F (t + 1) ov1 thr1 H1 → va_S (zAl s) s.heap H1 locs1 → lv_has ls1 9 (zLv b t (y 0) (o 0) (r 0)) → W p l e room_1 s m #[Value.ref b] below meth c H1 locs1 (cells + 1) (slots + 6) Q (F0 m 1287 ls1 [])) : W p l e room_1 s m #[Value.ref b] below meth c H locs cells slots Q (F0 m 200 ls []) := by
  have hx := X.1.1
  have hb := X.1.2.1
  have hK := X.2.1
  obtain ⟨LA, V, V1, U, U1, rv, ans, hL, hLA, hPV, hM, hU, hend⟩ := pr_take (l := l) (N := s.heap.size) X.2.2.2.2.2.2.2.2 X.2.2.2.2.2.2.1 (by have := X.2.2.2.2.2.2.2.1; omega) hI (xs (5 * t + 1))
  refine lv_aload_n hx hb dL_law_200 rfl (lv_at hl 2 rfl) ?_
  refine zl_arg (lv := []) (k := 1) X hS (lv_at hl 1 rfl) (lv_at hl 0 rfl) (by omega) dL_law_201 dL_law_202 dL_law_204 dL_law_205 dL_law_206 ?_
  refine lv_aload_n hx hb dL_law_207 rfl (lv_at hl 4 rfl) ?_
  refine zgl (As := [.ref (y 0), .int (xs (5 * t + 1)), .ref (r 0)]) (rest := []) X.1 hL ml_L_84 zyw_L_take st_L_take ⟨Nat.le_of_ble_eq_true rfl, Nat.le_of_ble_eq_true rfl⟩ hK X.2.2.1 (X.2.2.2.1.kept hS.2.1) hPV hLA hS rfl hl.1 rfl (Nat.le_of_ble_eq_true rfl) hcs dL_law_208 (fun H1 locs1 hP1 hS1 k1 => ?_)
  refine lv_istore (lv' := [(5, .int rv), (4, .int (nI (5 * t))), (0, .ref b), (1, .ref (y 0)), (2, .ref (o 0)), (3, .ref (r 0))]) hx hb dL_law_211 hl (by decide) rfl (fun ls hl => ?_)
  have hS := hS1
  refine lv_aload_n hx hb dL_law_213 rfl (lv_at hl 4 rfl) ?_
  refine zl_arg (lv := []) (k := 1) X hS (lv_at hl 2 rfl) (lv_at hl 1 rfl) (by omega) dL_law_214 dL_law_215 dL_law_217 dL_law_218 dL_law_219 ?_
  refine zgm (As := [.int (xs (5 * t + 1))]) (rest := []) X.1 hM ml_L_86 zy_X7_take im_X7_take se_X7_take ⟨Nat.le_of_ble_eq_true rfl, Nat.le_of_ble_eq_true rfl⟩ hK (hU H1 k1) (ad_nm X.2.2.2.2.2.2.1) hS rfl rfl rfl hl.1 rfl (Nat.le_of_ble_eq_true rfl) hcs dL_law_220 (fun H2 locs2 hP2 hS2 k2 => ?_)
  refine lv_istore (lv' := [(6, .int ans), (5, .int rv), (4, .int (nI (5 * t))), (0, .ref b), (1, .ref (y 0)), (2, .ref (o 0)), (3, .ref (r 0))]) hx hb dL_law_223 hl (by decide) rfl (fun ls hl => ?_)
  obtain ⟨ov1, hI2, hans⟩ := hend H1 H2 hP1 k1 hP2 k2
  exact zl_tail (T1 := 236) (T2 := 253) X hI2 hans hS2 hl hcs dL_law_225 dL_law_226 dL_law_229 dL_law_231 (by decide) dL_law_236 dL_law_238 (by decide) dL_law_241 dL_law_242 dL_law_243 dL_law_244 dL_law_246 dL_law_247 dL_law_248 (by decide) dL_law_253 (by decide) (fun hl => kk _ _ _ _ _ hI2 hS2 hl)
set_option maxRecDepth 100000 in
theorem st_change (X : zCx p l s m c b L xs D ca y a h x o r rB F) (hI : zLI D ca y a h x o r rB F t ov thr H) (hS : va_S (zAl s) s.heap H locs) (hl : lv_has ls 9 (zLv b t (y 0) (o 0) (r 0))) (h5 : 5 * t + 5 ≤ L) (hcs : cells + 1 ≤ 601024 ∧ slots + 6 ≤ 7293034)
    (kk : ∀ (H1 : Heap) (locs1 : List Loc) (ls1 : Array Slot) (ov1 : Nat → Int64) (thr1 : Int32), zLI D ca y a h x o r rB F (t + 1) ov1 thr1 H1 → va_S (zAl s) s.heap H1 locs1 → lv_has ls1 9 (zLv b t (y 0) (o 0) (r 0)) → W p l e room_1 s m #[Value.ref b] below meth c H1 locs1 (cells + 1) (slots + 6) Q (F0 m 1287 ls1 [])) : W p l e room_1 s m #[Value.ref b] below meth c H locs cells slots Q (F0 m 256 ls []) := by
  have hx := X.1.1
  have hb := X.1.2.1
  have hK := X.2.1
  obtain ⟨LA, V, V1, U, U1, rv, ans, hL, hLA, hPV, hM, hU, hend⟩ := pr_change (l := l) (N := s.heap.size) X.2.2.2.2.2.2.2.2 X.2.2.2.2.2.2.1 (by have := X.2.2.2.2.2.2.2.1; omega) hI (xs (5 * t + 1)) (xs (5 * t + 2))
  refine lv_aload_n hx hb dL_law_256 rfl (lv_at hl 2 rfl) ?_
  refine zl_arg (lv := []) (k := 1) X hS (lv_at hl 1 rfl) (lv_at hl 0 rfl) (by omega) dL_law_257 dL_law_258 dL_law_260 dL_law_261 dL_law_262 ?_
  refine zl_arg (lv := []) (k := 2) X hS (lv_at hl 1 rfl) (lv_at hl 0 rfl) (by omega) dL_law_263 dL_law_264 dL_law_266 dL_law_267 dL_law_268 ?_
  refine lv_aload_n hx hb dL_law_269 rfl (lv_at hl 4 rfl) ?_
  refine zgl (As := [.ref (y 0), .int (xs (5 * t + 1)), .int (xs (5 * t + 2)), .ref (r 0)]) (rest := []) X.1 hL ml_L_87 zyw_L_change st_L_change ⟨Nat.le_of_ble_eq_true rfl, Nat.le_of_ble_eq_true rfl⟩ hK X.2.2.1 (X.2.2.2.1.kept hS.2.1) hPV hLA hS rfl hl.1 rfl (Nat.le_of_ble_eq_true rfl) hcs dL_law_270 (fun H1 locs1 hP1 hS1 k1 => ?_)
  refine lv_istore (lv' := [(5, .int rv), (4, .int (nI (5 * t))), (0, .ref b), (1, .ref (y 0)), (2, .ref (o 0)), (3, .ref (r 0))]) hx hb dL_law_273 hl (by decide) rfl (fun ls hl => ?_)
  have hS := hS1
  refine lv_aload_n hx hb dL_law_275 rfl (lv_at hl 4 rfl) ?_
  refine zl_arg (lv := []) (k := 1) X hS (lv_at hl 2 rfl) (lv_at hl 1 rfl) (by omega) dL_law_276 dL_law_277 dL_law_279 dL_law_280 dL_law_281 ?_
  refine zl_arg (lv := []) (k := 2) X hS (lv_at hl 2 rfl) (lv_at hl 1 rfl) (by omega) dL_law_282 dL_law_283 dL_law_285 dL_law_286 dL_law_287 ?_
  refine zgm (As := [.int (xs (5 * t + 1)), .int (xs (5 * t + 2))]) (rest := []) X.1 hM ml_L_90 zy_X7_change im_X7_change se_X7_change ⟨Nat.le_of_ble_eq_true rfl, Nat.le_of_ble_eq_true rfl⟩ hK (hU H1 k1) (ad_nm X.2.2.2.2.2.2.1) hS rfl rfl rfl hl.1 rfl (Nat.le_of_ble_eq_true rfl) hcs dL_law_288 (fun H2 locs2 hP2 hS2 k2 => ?_)
  refine lv_istore (lv' := [(6, .int ans), (5, .int rv), (4, .int (nI (5 * t))), (0, .ref b), (1, .ref (y 0)), (2, .ref (o 0)), (3, .ref (r 0))]) hx hb dL_law_291 hl (by decide) rfl (fun ls hl => ?_)
  obtain ⟨ov1, hI2, hans⟩ := hend H1 H2 hP1 k1 hP2 k2
  exact zl_tail (T1 := 304) (T2 := 321) X hI2 hans hS2 hl hcs dL_law_293 dL_law_294 dL_law_297 dL_law_299 (by decide) dL_law_304 dL_law_306 (by decide) dL_law_309 dL_law_310 dL_law_311 dL_law_312 dL_law_314 dL_law_315 dL_law_316 (by decide) dL_law_321 (by decide) (fun hl => kk _ _ _ _ _ hI2 hS2 hl)
set_option maxRecDepth 100000 in
theorem st_open (X : zCx p l s m c b L xs D ca y a h x o r rB F) (hI : zLI D ca y a h x o r rB F t ov thr H) (hS : va_S (zAl s) s.heap H locs) (hl : lv_has ls 9 (zLv b t (y 0) (o 0) (r 0))) (h5 : 5 * t + 5 ≤ L) (hcs : cells + 1 ≤ 601024 ∧ slots + 6 ≤ 7293034)
    (kk : ∀ (H1 : Heap) (locs1 : List Loc) (ls1 : Array Slot) (ov1 : Nat → Int64) (thr1 : Int32), zLI D ca y a h x o r rB F (t + 1) ov1 thr1 H1 → va_S (zAl s) s.heap H1 locs1 → lv_has ls1 9 (zLv b t (y 0) (o 0) (r 0)) → W p l e room_1 s m #[Value.ref b] below meth c H1 locs1 (cells + 1) (slots + 6) Q (F0 m 1287 ls1 [])) : W p l e room_1 s m #[Value.ref b] below meth c H locs cells slots Q (F0 m 324 ls []) := by
  have hx := X.1.1
  have hb := X.1.2.1
  have hK := X.2.1
  obtain ⟨LA, V, V1, U, U1, rv, ans, hL, hLA, hPV, hM, hU, hend⟩ := pr_open (l := l) (N := s.heap.size) X.2.2.2.2.2.2.2.2 X.2.2.2.2.2.2.1 (by have := X.2.2.2.2.2.2.2.1; omega) hI (xs (5 * t + 1))
  refine lv_aload_n hx hb dL_law_324 rfl (lv_at hl 2 rfl) ?_
  refine zl_arg (lv := []) (k := 1) X hS (lv_at hl 1 rfl) (lv_at hl 0 rfl) (by omega) dL_law_325 dL_law_326 dL_law_328 dL_law_329 dL_law_330 ?_
  refine lv_aload_n hx hb dL_law_331 rfl (lv_at hl 4 rfl) ?_
  refine zgl (As := [.ref (y 0), .int (xs (5 * t + 1)), .ref (r 0)]) (rest := []) X.1 hL ml_L_91 zyw_L_open st_L_open ⟨Nat.le_of_ble_eq_true rfl, Nat.le_of_ble_eq_true rfl⟩ hK X.2.2.1 (X.2.2.2.1.kept hS.2.1) hPV hLA hS rfl hl.1 rfl (Nat.le_of_ble_eq_true rfl) hcs dL_law_332 (fun H1 locs1 hP1 hS1 k1 => ?_)
  refine lv_istore (lv' := [(5, .int rv), (4, .int (nI (5 * t))), (0, .ref b), (1, .ref (y 0)), (2, .ref (o 0)), (3, .ref (r 0))]) hx hb dL_law_335 hl (by decide) rfl (fun ls hl => ?_)
  have hS := hS1
  refine lv_aload_n hx hb dL_law_337 rfl (lv_at hl 4 rfl) ?_
  refine zl_arg (lv := []) (k := 1) X hS (lv_at hl 2 rfl) (lv_at hl 1 rfl) (by omega) dL_law_338 dL_law_339 dL_law_341 dL_law_342 dL_law_343 ?_
  refine zgm (As := [.int (xs (5 * t + 1))]) (rest := []) X.1 hM ml_L_93 zy_X7_open im_X7_open se_X7_open ⟨Nat.le_of_ble_eq_true rfl, Nat.le_of_ble_eq_true rfl⟩ hK (hU H1 k1) (ad_nm X.2.2.2.2.2.2.1) hS rfl rfl rfl hl.1 rfl (Nat.le_of_ble_eq_true rfl) hcs dL_law_344 (fun H2 locs2 hP2 hS2 k2 => ?_)
  refine lv_istore (lv' := [(6, .int ans), (5, .int rv), (4, .int (nI (5 * t))), (0, .ref b), (1, .ref (y 0)), (2, .ref (o 0)), (3, .ref (r 0))]) hx hb dL_law_347 hl (by decide) rfl (fun ls hl => ?_)
  obtain ⟨ov1, hI2, hans⟩ := hend H1 H2 hP1 k1 hP2 k2
  exact zl_tail (T1 := 360) (T2 := 377) X hI2 hans hS2 hl hcs dL_law_349 dL_law_350 dL_law_353 dL_law_355 (by decide) dL_law_360 dL_law_362 (by decide) dL_law_365 dL_law_366 dL_law_367 dL_law_368 dL_law_370 dL_law_371 dL_law_372 (by decide) dL_law_377 (by decide) (fun hl => kk _ _ _ _ _ hI2 hS2 hl)
set_option maxRecDepth 100000 in
theorem st_close (X : zCx p l s m c b L xs D ca y a h x o r rB F) (hI : zLI D ca y a h x o r rB F t ov thr H) (hS : va_S (zAl s) s.heap H locs) (hl : lv_has ls 9 (zLv b t (y 0) (o 0) (r 0))) (h5 : 5 * t + 5 ≤ L) (hcs : cells + 1 ≤ 601024 ∧ slots + 6 ≤ 7293034)
    (kk : ∀ (H1 : Heap) (locs1 : List Loc) (ls1 : Array Slot) (ov1 : Nat → Int64) (thr1 : Int32), zLI D ca y a h x o r rB F (t + 1) ov1 thr1 H1 → va_S (zAl s) s.heap H1 locs1 → lv_has ls1 9 (zLv b t (y 0) (o 0) (r 0)) → W p l e room_1 s m #[Value.ref b] below meth c H1 locs1 (cells + 1) (slots + 6) Q (F0 m 1287 ls1 [])) : W p l e room_1 s m #[Value.ref b] below meth c H locs cells slots Q (F0 m 380 ls []) := by
  have hx := X.1.1
  have hb := X.1.2.1
  have hK := X.2.1
  obtain ⟨LA, V, V1, U, U1, rv, ans, hL, hLA, hPV, hM, hU, hend⟩ := pr_close (l := l) (N := s.heap.size) X.2.2.2.2.2.2.2.2 X.2.2.2.2.2.2.1 (by have := X.2.2.2.2.2.2.2.1; omega) hI (xs (5 * t + 1))
  refine lv_aload_n hx hb dL_law_380 rfl (lv_at hl 2 rfl) ?_
  refine zl_arg (lv := []) (k := 1) X hS (lv_at hl 1 rfl) (lv_at hl 0 rfl) (by omega) dL_law_381 dL_law_382 dL_law_384 dL_law_385 dL_law_386 ?_
  refine lv_aload_n hx hb dL_law_387 rfl (lv_at hl 4 rfl) ?_
  refine zgl (As := [.ref (y 0), .int (xs (5 * t + 1)), .ref (r 0)]) (rest := []) X.1 hL ml_L_94 zyw_L_close st_L_close ⟨Nat.le_of_ble_eq_true rfl, Nat.le_of_ble_eq_true rfl⟩ hK X.2.2.1 (X.2.2.2.1.kept hS.2.1) hPV hLA hS rfl hl.1 rfl (Nat.le_of_ble_eq_true rfl) hcs dL_law_388 (fun H1 locs1 hP1 hS1 k1 => ?_)
  refine lv_istore (lv' := [(5, .int rv), (4, .int (nI (5 * t))), (0, .ref b), (1, .ref (y 0)), (2, .ref (o 0)), (3, .ref (r 0))]) hx hb dL_law_391 hl (by decide) rfl (fun ls hl => ?_)
  have hS := hS1
  refine lv_aload_n hx hb dL_law_393 rfl (lv_at hl 4 rfl) ?_
  refine zl_arg (lv := []) (k := 1) X hS (lv_at hl 2 rfl) (lv_at hl 1 rfl) (by omega) dL_law_394 dL_law_395 dL_law_397 dL_law_398 dL_law_399 ?_
  refine zgm (As := [.int (xs (5 * t + 1))]) (rest := []) X.1 hM ml_L_96 zy_X7_close im_X7_close se_X7_close ⟨Nat.le_of_ble_eq_true rfl, Nat.le_of_ble_eq_true rfl⟩ hK (hU H1 k1) (ad_nm X.2.2.2.2.2.2.1) hS rfl rfl rfl hl.1 rfl (Nat.le_of_ble_eq_true rfl) hcs dL_law_400 (fun H2 locs2 hP2 hS2 k2 => ?_)
  refine lv_istore (lv' := [(6, .int ans), (5, .int rv), (4, .int (nI (5 * t))), (0, .ref b), (1, .ref (y 0)), (2, .ref (o 0)), (3, .ref (r 0))]) hx hb dL_law_403 hl (by decide) rfl (fun ls hl => ?_)
  obtain ⟨ov1, hI2, hans⟩ := hend H1 H2 hP1 k1 hP2 k2
  exact zl_tail (T1 := 416) (T2 := 433) X hI2 hans hS2 hl hcs dL_law_405 dL_law_406 dL_law_409 dL_law_411 (by decide) dL_law_416 dL_law_418 (by decide) dL_law_421 dL_law_422 dL_law_423 dL_law_424 dL_law_426 dL_law_427 dL_law_428 (by decide) dL_law_433 (by decide) (fun hl => kk _ _ _ _ _ hI2 hS2 hl)
set_option maxRecDepth 100000 in
theorem st_sweep (X : zCx p l s m c b L xs D ca y a h x o r rB F) (hI : zLI D ca y a h x o r rB F t ov thr H) (hS : va_S (zAl s) s.heap H locs) (hl : lv_has ls 9 (zLv b t (y 0) (o 0) (r 0))) (h5 : 5 * t + 5 ≤ L) (hcs : cells + 1 ≤ 601024 ∧ slots + 6 ≤ 7293034)
    (kk : ∀ (H1 : Heap) (locs1 : List Loc) (ls1 : Array Slot) (ov1 : Nat → Int64) (thr1 : Int32), zLI D ca y a h x o r rB F (t + 1) ov1 thr1 H1 → va_S (zAl s) s.heap H1 locs1 → lv_has ls1 9 (zLv b t (y 0) (o 0) (r 0)) → W p l e room_1 s m #[Value.ref b] below meth c H1 locs1 (cells + 1) (slots + 6) Q (F0 m 1287 ls1 [])) : W p l e room_1 s m #[Value.ref b] below meth c H locs cells slots Q (F0 m 436 ls []) := by
  have hx := X.1.1
  have hb := X.1.2.1
  have hK := X.2.1
  obtain ⟨LA, V, V1, U, U1, rv, ans, hL, hLA, hPV, hM, hU, hend⟩ := pr_sweep (l := l) (N := s.heap.size) X.2.2.2.2.2.2.2.2 X.2.2.2.2.2.2.1 (by have := X.2.2.2.2.2.2.2.1; omega) hI (xs (5 * t + 1))
  refine lv_aload_n hx hb dL_law_436 rfl (lv_at hl 2 rfl) ?_
  refine zl_arg (lv := []) (k := 1) X hS (lv_at hl 1 rfl) (lv_at hl 0 rfl) (by omega) dL_law_437 dL_law_438 dL_law_440 dL_law_441 dL_law_442 ?_
  refine lv_aload_n hx hb dL_law_443 rfl (lv_at hl 4 rfl) ?_
  refine zgl (As := [.ref (y 0), .int (xs (5 * t + 1)), .ref (r 0)]) (rest := []) X.1 hL ml_L_97 zyw_L_sweep st_L_sweep ⟨Nat.le_of_ble_eq_true rfl, Nat.le_of_ble_eq_true rfl⟩ hK X.2.2.1 (X.2.2.2.1.kept hS.2.1) hPV hLA hS rfl hl.1 rfl (Nat.le_of_ble_eq_true rfl) hcs dL_law_444 (fun H1 locs1 hP1 hS1 k1 => ?_)
  refine lv_istore (lv' := [(5, .int rv), (4, .int (nI (5 * t))), (0, .ref b), (1, .ref (y 0)), (2, .ref (o 0)), (3, .ref (r 0))]) hx hb dL_law_447 hl (by decide) rfl (fun ls hl => ?_)
  have hS := hS1
  refine lv_aload_n hx hb dL_law_449 rfl (lv_at hl 4 rfl) ?_
  refine zl_arg (lv := []) (k := 1) X hS (lv_at hl 2 rfl) (lv_at hl 1 rfl) (by omega) dL_law_450 dL_law_451 dL_law_453 dL_law_454 dL_law_455 ?_
  refine zgm (As := [.int (xs (5 * t + 1))]) (rest := []) X.1 hM ml_L_99 zy_X7_sweep im_X7_sweep se_X7_sweep ⟨Nat.le_of_ble_eq_true rfl, Nat.le_of_ble_eq_true rfl⟩ hK (hU H1 k1) (ad_nm X.2.2.2.2.2.2.1) hS rfl rfl rfl hl.1 rfl (Nat.le_of_ble_eq_true rfl) hcs dL_law_456 (fun H2 locs2 hP2 hS2 k2 => ?_)
  refine lv_istore (lv' := [(6, .int ans), (5, .int rv), (4, .int (nI (5 * t))), (0, .ref b), (1, .ref (y 0)), (2, .ref (o 0)), (3, .ref (r 0))]) hx hb dL_law_459 hl (by decide) rfl (fun ls hl => ?_)
  obtain ⟨ov1, hI2, hans⟩ := hend H1 H2 hP1 k1 hP2 k2
  exact zl_tail (T1 := 472) (T2 := 489) X hI2 hans hS2 hl hcs dL_law_461 dL_law_462 dL_law_465 dL_law_467 (by decide) dL_law_472 dL_law_474 (by decide) dL_law_477 dL_law_478 dL_law_479 dL_law_480 dL_law_482 dL_law_483 dL_law_484 (by decide) dL_law_489 (by decide) (fun hl => kk _ _ _ _ _ hI2 hS2 hl)
set_option maxRecDepth 100000 in
theorem st_sweepAll (X : zCx p l s m c b L xs D ca y a h x o r rB F) (hI : zLI D ca y a h x o r rB F t ov thr H) (hS : va_S (zAl s) s.heap H locs) (hl : lv_has ls 9 (zLv b t (y 0) (o 0) (r 0))) (h5 : 5 * t + 5 ≤ L) (hcs : cells + 1 ≤ 601024 ∧ slots + 6 ≤ 7293034)
    (kk : ∀ (H1 : Heap) (locs1 : List Loc) (ls1 : Array Slot) (ov1 : Nat → Int64) (thr1 : Int32), zLI D ca y a h x o r rB F (t + 1) ov1 thr1 H1 → va_S (zAl s) s.heap H1 locs1 → lv_has ls1 9 (zLv b t (y 0) (o 0) (r 0)) → W p l e room_1 s m #[Value.ref b] below meth c H1 locs1 (cells + 1) (slots + 6) Q (F0 m 1287 ls1 [])) : W p l e room_1 s m #[Value.ref b] below meth c H locs cells slots Q (F0 m 492 ls []) := by
  have hx := X.1.1
  have hb := X.1.2.1
  have hK := X.2.1
  obtain ⟨LA, V, V1, U, U1, ans, hL, hLA, hPV, hM, hU, hend⟩ := pr_sweepAll (l := l) (N := s.heap.size) X.2.2.2.2.2.2.1 (by have := X.2.2.2.2.2.2.2.1; omega) hI
  refine W.widen (Nat.le_succ cells) (Nat.le_add_right slots 6) ?_
  refine lv_aload_n hx hb dL_law_492 rfl (lv_at hl 2 rfl) ?_
  refine zgm (As := []) (rest := []) X.1 hL ml_L_100 zy_X6_sweepAll im_X6_sweepAll se_X6_sweepAll ⟨Nat.le_of_ble_eq_true rfl, Nat.le_of_ble_eq_true rfl⟩ hK hPV hLA hS rfl rfl rfl hl.1 rfl (Nat.le_of_ble_eq_true rfl) hcs dL_law_493 (fun H1 locs1 hP1 hS1 k1 => ?_)
  have hS := hS1
  refine lv_aload_n hx hb dL_law_496 rfl (lv_at hl 3 rfl) ?_
  refine zgm (As := []) (rest := [.int ans]) X.1 hM ml_L_103 zy_X7_sweepAll im_X7_sweepAll se_X7_sweepAll ⟨Nat.le_of_ble_eq_true rfl, Nat.le_of_ble_eq_true rfl⟩ hK (hU H1 k1) (ad_nm X.2.2.2.2.2.2.1) hS rfl rfl rfl hl.1 rfl (Nat.le_of_ble_eq_true rfl) hcs dL_law_497 (fun H2 locs2 hP2 hS2 k2 => ?_)
  obtain ⟨ov1, thr1, hI2⟩ := hend H1 H2 hP1 k1 hP2 k2
  exact lv_icmp_eq (tgt := 1287) hx hb dL_law_500 (by decide) (fun _ => kk _ _ _ _ _ hI2 hS2 hl) (fun h => absurd rfl h)
set_option maxRecDepth 100000 in
theorem st_ask (X : zCx p l s m c b L xs D ca y a h x o r rB F) (hI : zLI D ca y a h x o r rB F t ov thr H) (hS : va_S (zAl s) s.heap H locs) (hl : lv_has ls 9 (zLv b t (y 0) (o 0) (r 0))) (h5 : 5 * t + 5 ≤ L) (hcs : cells + 1 ≤ 601024 ∧ slots + 6 ≤ 7293034)
    (kk : ∀ (H1 : Heap) (locs1 : List Loc) (ls1 : Array Slot) (ov1 : Nat → Int64) (thr1 : Int32), zLI D ca y a h x o r rB F (t + 1) ov1 thr1 H1 → va_S (zAl s) s.heap H1 locs1 → lv_has ls1 9 (zLv b t (y 0) (o 0) (r 0)) → W p l e room_1 s m #[Value.ref b] below meth c H1 locs1 (cells + 1) (slots + 6) Q (F0 m 1287 ls1 [])) : W p l e room_1 s m #[Value.ref b] below meth c H locs cells slots Q (F0 m 505 ls []) := by
  have hx := X.1.1
  have hb := X.1.2.1
  have hK := X.2.1
  obtain ⟨LA, V, V1, U, U1, rv, ans, hL, hLA, hPV, hM, hU, hend⟩ := pr_ask (l := l) (N := s.heap.size) X.2.2.2.2.2.2.2.2 X.2.2.2.2.2.2.1 (by have := X.2.2.2.2.2.2.2.1; omega) hI (xs (5 * t + 1)) (xs (5 * t + 2)) (xs (5 * t + 3))
  refine lv_aload_n hx hb dL_law_505 rfl (lv_at hl 2 rfl) ?_
  refine zl_arg (lv := []) (k := 1) X hS (lv_at hl 1 rfl) (lv_at hl 0 rfl) (by omega) dL_law_506 dL_law_507 dL_law_509 dL_law_510 dL_law_511 ?_
  refine zl_arg (lv := []) (k := 2) X hS (lv_at hl 1 rfl) (lv_at hl 0 rfl) (by omega) dL_law_512 dL_law_513 dL_law_515 dL_law_516 dL_law_517 ?_
  refine zl_arg (lv := []) (k := 3) X hS (lv_at hl 1 rfl) (lv_at hl 0 rfl) (by omega) dL_law_518 dL_law_519 dL_law_521 dL_law_522 dL_law_523 ?_
  refine lv_aload_n hx hb dL_law_524 rfl (lv_at hl 4 rfl) ?_
  refine zgl (As := [.ref (y 0), .int (xs (5 * t + 1)), .int (xs (5 * t + 2)), .int (xs (5 * t + 3)), .ref (r 0)]) (rest := []) X.1 hL ml_L_104 zyw_L_ask st_L_ask ⟨Nat.le_of_ble_eq_true rfl, Nat.le_of_ble_eq_true rfl⟩ hK X.2.2.1 (X.2.2.2.1.kept hS.2.1) hPV hLA hS rfl hl.1 rfl (Nat.le_of_ble_eq_true rfl) hcs dL_law_525 (fun H1 locs1 hP1 hS1 k1 => ?_)
  refine lv_istore (lv' := [(5, .int rv), (4, .int (nI (5 * t))), (0, .ref b), (1, .ref (y 0)), (2, .ref (o 0)), (3, .ref (r 0))]) hx hb dL_law_528 hl (by decide) rfl (fun ls hl => ?_)
  have hS := hS1
  refine lv_aload_n hx hb dL_law_530 rfl (lv_at hl 4 rfl) ?_
  refine zl_arg (lv := []) (k := 1) X hS (lv_at hl 2 rfl) (lv_at hl 1 rfl) (by omega) dL_law_531 dL_law_532 dL_law_534 dL_law_535 dL_law_536 ?_
  refine zl_arg (lv := []) (k := 2) X hS (lv_at hl 2 rfl) (lv_at hl 1 rfl) (by omega) dL_law_537 dL_law_538 dL_law_540 dL_law_541 dL_law_542 ?_
  refine zl_arg (lv := []) (k := 3) X hS (lv_at hl 2 rfl) (lv_at hl 1 rfl) (by omega) dL_law_543 dL_law_544 dL_law_546 dL_law_547 dL_law_548 ?_
  refine zgm (As := [.int (xs (5 * t + 1)), .int (xs (5 * t + 2)), .int (xs (5 * t + 3))]) (rest := []) X.1 hM ml_L_107 zy_X7_ask im_X7_ask se_X7_ask ⟨Nat.le_of_ble_eq_true rfl, Nat.le_of_ble_eq_true rfl⟩ hK (hU H1 k1) (ad_nm X.2.2.2.2.2.2.1) hS rfl rfl rfl hl.1 rfl (Nat.le_of_ble_eq_true rfl) hcs dL_law_549 (fun H2 locs2 hP2 hS2 k2 => ?_)
  refine lv_istore (lv' := [(6, .int ans), (5, .int rv), (4, .int (nI (5 * t))), (0, .ref b), (1, .ref (y 0)), (2, .ref (o 0)), (3, .ref (r 0))]) hx hb dL_law_552 hl (by decide) rfl (fun ls hl => ?_)
  obtain ⟨ov1, hI2, hans⟩ := hend H1 H2 hP1 k1 hP2 k2
  exact zl_tail (T1 := 565) (T2 := 582) X hI2 hans hS2 hl hcs dL_law_554 dL_law_555 dL_law_558 dL_law_560 (by decide) dL_law_565 dL_law_567 (by decide) dL_law_570 dL_law_571 dL_law_572 dL_law_573 dL_law_575 dL_law_576 dL_law_577 (by decide) dL_law_582 (by decide) (fun hl => kk _ _ _ _ _ hI2 hS2 hl)
set_option maxRecDepth 100000 in
theorem st_append (X : zCx p l s m c b L xs D ca y a h x o r rB F) (hI : zLI D ca y a h x o r rB F t ov thr H) (hS : va_S (zAl s) s.heap H locs) (hl : lv_has ls 9 (zLv b t (y 0) (o 0) (r 0))) (h5 : 5 * t + 5 ≤ L) (hcs : cells + 1 ≤ 601024 ∧ slots + 6 ≤ 7293034)
    (kk : ∀ (H1 : Heap) (locs1 : List Loc) (ls1 : Array Slot) (ov1 : Nat → Int64) (thr1 : Int32), zLI D ca y a h x o r rB F (t + 1) ov1 thr1 H1 → va_S (zAl s) s.heap H1 locs1 → lv_has ls1 9 (zLv b t (y 0) (o 0) (r 0)) → W p l e room_1 s m #[Value.ref b] below meth c H1 locs1 (cells + 1) (slots + 6) Q (F0 m 1287 ls1 [])) : W p l e room_1 s m #[Value.ref b] below meth c H locs cells slots Q (F0 m 585 ls []) := by
  have hx := X.1.1
  have hb := X.1.2.1
  have hK := X.2.1
  obtain ⟨LA, V, V1, U, U1, rv, ans, hL, hLA, hPV, hM, hU, hend⟩ := pr_append (l := l) (N := s.heap.size) X.2.2.2.2.2.2.2.2 X.2.2.2.2.2.2.1 (by have := X.2.2.2.2.2.2.2.1; omega) hI (xs (5 * t + 1))
  refine lv_aload_n hx hb dL_law_585 rfl (lv_at hl 2 rfl) ?_
  refine zl_arg (lv := []) (k := 1) X hS (lv_at hl 1 rfl) (lv_at hl 0 rfl) (by omega) dL_law_586 dL_law_587 dL_law_589 dL_law_590 dL_law_591 ?_
  refine lv_aload_n hx hb dL_law_592 rfl (lv_at hl 4 rfl) ?_
  refine zgl (As := [.ref (y 0), .int (xs (5 * t + 1)), .ref (r 0)]) (rest := []) X.1 hL ml_L_108 zyw_L_append st_L_append ⟨Nat.le_of_ble_eq_true rfl, Nat.le_of_ble_eq_true rfl⟩ hK X.2.2.1 (X.2.2.2.1.kept hS.2.1) hPV hLA hS rfl hl.1 rfl (Nat.le_of_ble_eq_true rfl) hcs dL_law_593 (fun H1 locs1 hP1 hS1 k1 => ?_)
  refine lv_istore (lv' := [(5, .int rv), (4, .int (nI (5 * t))), (0, .ref b), (1, .ref (y 0)), (2, .ref (o 0)), (3, .ref (r 0))]) hx hb dL_law_596 hl (by decide) rfl (fun ls hl => ?_)
  have hS := hS1
  refine lv_aload_n hx hb dL_law_598 rfl (lv_at hl 4 rfl) ?_
  refine zl_arg (lv := []) (k := 1) X hS (lv_at hl 2 rfl) (lv_at hl 1 rfl) (by omega) dL_law_599 dL_law_600 dL_law_602 dL_law_603 dL_law_604 ?_
  refine zgm (As := [.int (xs (5 * t + 1))]) (rest := []) X.1 hM ml_L_110 zy_X7_append im_X7_append se_X7_append ⟨Nat.le_of_ble_eq_true rfl, Nat.le_of_ble_eq_true rfl⟩ hK (hU H1 k1) (ad_nm X.2.2.2.2.2.2.1) hS rfl rfl rfl hl.1 rfl (Nat.le_of_ble_eq_true rfl) hcs dL_law_605 (fun H2 locs2 hP2 hS2 k2 => ?_)
  refine lv_istore (lv' := [(6, .int ans), (5, .int rv), (4, .int (nI (5 * t))), (0, .ref b), (1, .ref (y 0)), (2, .ref (o 0)), (3, .ref (r 0))]) hx hb dL_law_608 hl (by decide) rfl (fun ls hl => ?_)
  obtain ⟨ov1, hI2, hans⟩ := hend H1 H2 hP1 k1 hP2 k2
  exact zl_tail (T1 := 621) (T2 := 638) X hI2 hans hS2 hl hcs dL_law_610 dL_law_611 dL_law_614 dL_law_616 (by decide) dL_law_621 dL_law_623 (by decide) dL_law_626 dL_law_627 dL_law_628 dL_law_629 dL_law_631 dL_law_632 dL_law_633 (by decide) dL_law_638 (by decide) (fun hl => kk _ _ _ _ _ hI2 hS2 hl)
set_option maxRecDepth 100000 in
theorem st_clearBuffer (X : zCx p l s m c b L xs D ca y a h x o r rB F) (hI : zLI D ca y a h x o r rB F t ov thr H) (hS : va_S (zAl s) s.heap H locs) (hl : lv_has ls 9 (zLv b t (y 0) (o 0) (r 0))) (h5 : 5 * t + 5 ≤ L) (hcs : cells + 1 ≤ 601024 ∧ slots + 6 ≤ 7293034)
    (kk : ∀ (H1 : Heap) (locs1 : List Loc) (ls1 : Array Slot) (ov1 : Nat → Int64) (thr1 : Int32), zLI D ca y a h x o r rB F (t + 1) ov1 thr1 H1 → va_S (zAl s) s.heap H1 locs1 → lv_has ls1 9 (zLv b t (y 0) (o 0) (r 0)) → W p l e room_1 s m #[Value.ref b] below meth c H1 locs1 (cells + 1) (slots + 6) Q (F0 m 1287 ls1 [])) : W p l e room_1 s m #[Value.ref b] below meth c H locs cells slots Q (F0 m 641 ls []) := by
  have hx := X.1.1
  have hb := X.1.2.1
  have hK := X.2.1
  obtain ⟨LA, V, V1, U, U1, ans, hL, hLA, hPV, hM, hU, hend⟩ := pr_clearBuffer (l := l) (N := s.heap.size) X.2.2.2.2.2.2.1 (by have := X.2.2.2.2.2.2.2.1; omega) hI
  refine W.widen (Nat.le_succ cells) (Nat.le_add_right slots 6) ?_
  refine lv_aload_n hx hb dL_law_641 rfl (lv_at hl 2 rfl) ?_
  refine zgm (As := []) (rest := []) X.1 hL ml_L_111 zy_X6_clearBuffer im_X6_clearBuffer se_X6_clearBuffer ⟨Nat.le_of_ble_eq_true rfl, Nat.le_of_ble_eq_true rfl⟩ hK hPV hLA hS rfl rfl rfl hl.1 rfl (Nat.le_of_ble_eq_true rfl) hcs dL_law_642 (fun H1 locs1 hP1 hS1 k1 => ?_)
  have hS := hS1
  refine lv_aload_n hx hb dL_law_645 rfl (lv_at hl 3 rfl) ?_
  refine zgm (As := []) (rest := [.int ans]) X.1 hM ml_L_114 zy_X7_clearBuffer im_X7_clearBuffer se_X7_clearBuffer ⟨Nat.le_of_ble_eq_true rfl, Nat.le_of_ble_eq_true rfl⟩ hK (hU H1 k1) (ad_nm X.2.2.2.2.2.2.1) hS rfl rfl rfl hl.1 rfl (Nat.le_of_ble_eq_true rfl) hcs dL_law_646 (fun H2 locs2 hP2 hS2 k2 => ?_)
  obtain ⟨ov1, thr1, hI2⟩ := hend H1 H2 hP1 k1 hP2 k2
  exact lv_icmp_eq (tgt := 1287) hx hb dL_law_649 (by decide) (fun _ => kk _ _ _ _ _ hI2 hS2 hl) (fun h => absurd rfl h)
set_option maxRecDepth 100000 in
theorem st_firstError (X : zCx p l s m c b L xs D ca y a h x o r rB F) (hI : zLI D ca y a h x o r rB F t ov thr H) (hS : va_S (zAl s) s.heap H locs) (hl : lv_has ls 9 (zLv b t (y 0) (o 0) (r 0))) (h5 : 5 * t + 5 ≤ L) (hcs : cells + 1 ≤ 601024 ∧ slots + 6 ≤ 7293034)
    (kk : ∀ (H1 : Heap) (locs1 : List Loc) (ls1 : Array Slot) (ov1 : Nat → Int64) (thr1 : Int32), zLI D ca y a h x o r rB F (t + 1) ov1 thr1 H1 → va_S (zAl s) s.heap H1 locs1 → lv_has ls1 9 (zLv b t (y 0) (o 0) (r 0)) → W p l e room_1 s m #[Value.ref b] below meth c H1 locs1 (cells + 1) (slots + 6) Q (F0 m 1287 ls1 [])) : W p l e room_1 s m #[Value.ref b] below meth c H locs cells slots Q (F0 m 654 ls []) := by
  have hx := X.1.1
  have hb := X.1.2.1
  have hK := X.2.1
  obtain ⟨LA, V, V1, U, U1, ans, hL, hLA, hPV, hM, hU, hend⟩ := pr_firstError (l := l) (N := s.heap.size) X.2.2.2.2.2.2.1 (by have := X.2.2.2.2.2.2.2.1; omega) hI
  refine W.widen (Nat.le_succ cells) (Nat.le_add_right slots 6) ?_
  refine lv_aload_n hx hb dL_law_654 rfl (lv_at hl 2 rfl) ?_
  refine zgm (As := []) (rest := []) X.1 hL ml_L_115 zy_X6_firstError im_X6_firstError se_X6_firstError ⟨Nat.le_of_ble_eq_true rfl, Nat.le_of_ble_eq_true rfl⟩ hK hPV hLA hS rfl rfl rfl hl.1 rfl (Nat.le_of_ble_eq_true rfl) hcs dL_law_655 (fun H1 locs1 hP1 hS1 k1 => ?_)
  have hS := hS1
  refine lv_aload_n hx hb dL_law_658 rfl (lv_at hl 3 rfl) ?_
  refine zgm (As := []) (rest := [.int ans]) X.1 hM ml_L_118 zy_X7_firstError im_X7_firstError se_X7_firstError ⟨Nat.le_of_ble_eq_true rfl, Nat.le_of_ble_eq_true rfl⟩ hK (hU H1 k1) (ad_nm X.2.2.2.2.2.2.1) hS rfl rfl rfl hl.1 rfl (Nat.le_of_ble_eq_true rfl) hcs dL_law_659 (fun H2 locs2 hP2 hS2 k2 => ?_)
  obtain ⟨ov1, thr1, hI2⟩ := hend H1 H2 hP1 k1 hP2 k2
  exact lv_icmp_eq (tgt := 1287) hx hb dL_law_662 (by decide) (fun _ => kk _ _ _ _ _ hI2 hS2 hl) (fun h => absurd rfl h)
set_option maxRecDepth 100000 in
theorem st_play (X : zCx p l s m c b L xs D ca y a h x o r rB F) (hI : zLI D ca y a h x o r rB F t ov thr H) (hS : va_S (zAl s) s.heap H locs) (hl : lv_has ls 9 (zLv b t (y 0) (o 0) (r 0))) (h5 : 5 * t + 5 ≤ L) (hcs : cells + 1 ≤ 601024 ∧ slots + 6 ≤ 7293034)
    (kk : ∀ (H1 : Heap) (locs1 : List Loc) (ls1 : Array Slot) (ov1 : Nat → Int64) (thr1 : Int32), zLI D ca y a h x o r rB F (t + 1) ov1 thr1 H1 → va_S (zAl s) s.heap H1 locs1 → lv_has ls1 9 (zLv b t (y 0) (o 0) (r 0)) → W p l e room_1 s m #[Value.ref b] below meth c H1 locs1 (cells + 1) (slots + 6) Q (F0 m 1287 ls1 [])) : W p l e room_1 s m #[Value.ref b] below meth c H locs cells slots Q (F0 m 667 ls []) := by
  have hx := X.1.1
  have hb := X.1.2.1
  have hK := X.2.1
  obtain ⟨LA, V, V1, U, U1, rv, ans, hL, hLA, hPV, hM, hU, hend⟩ := pr_play (l := l) (N := s.heap.size) X.2.2.2.2.2.2.2.2 X.2.2.2.2.2.2.1 (by have := X.2.2.2.2.2.2.2.1; omega) hI
  refine lv_aload_n hx hb dL_law_667 rfl (lv_at hl 2 rfl) ?_
  refine lv_aload_n hx hb dL_law_668 rfl (lv_at hl 4 rfl) ?_
  refine zgl (As := [.ref (y 0), .ref (r 0)]) (rest := []) X.1 hL ml_L_119 zyw_L_play st_L_play ⟨Nat.le_of_ble_eq_true rfl, Nat.le_of_ble_eq_true rfl⟩ hK X.2.2.1 (X.2.2.2.1.kept hS.2.1) hPV hLA hS rfl hl.1 rfl (Nat.le_of_ble_eq_true rfl) hcs dL_law_669 (fun H1 locs1 hP1 hS1 k1 => ?_)
  refine lv_istore (lv' := [(5, .int rv), (4, .int (nI (5 * t))), (0, .ref b), (1, .ref (y 0)), (2, .ref (o 0)), (3, .ref (r 0))]) hx hb dL_law_672 hl (by decide) rfl (fun ls hl => ?_)
  have hS := hS1
  refine lv_aload_n hx hb dL_law_674 rfl (lv_at hl 4 rfl) ?_
  refine zgm (As := []) (rest := []) X.1 hM ml_L_122 zy_X7_play im_X7_play se_X7_play ⟨Nat.le_of_ble_eq_true rfl, Nat.le_of_ble_eq_true rfl⟩ hK (hU H1 k1) (ad_nm X.2.2.2.2.2.2.1) hS rfl rfl rfl hl.1 rfl (Nat.le_of_ble_eq_true rfl) hcs dL_law_675 (fun H2 locs2 hP2 hS2 k2 => ?_)
  refine lv_istore (lv' := [(6, .int ans), (5, .int rv), (4, .int (nI (5 * t))), (0, .ref b), (1, .ref (y 0)), (2, .ref (o 0)), (3, .ref (r 0))]) hx hb dL_law_678 hl (by decide) rfl (fun ls hl => ?_)
  obtain ⟨ov1, hI2, hans⟩ := hend H1 H2 hP1 k1 hP2 k2
  exact zl_tail (T1 := 691) (T2 := 708) X hI2 hans hS2 hl hcs dL_law_680 dL_law_681 dL_law_684 dL_law_686 (by decide) dL_law_691 dL_law_693 (by decide) dL_law_696 dL_law_697 dL_law_698 dL_law_699 dL_law_701 dL_law_702 dL_law_703 (by decide) dL_law_708 (by decide) (fun hl => kk _ _ _ _ _ hI2 hS2 hl)
set_option maxRecDepth 100000 in
theorem st_undo (X : zCx p l s m c b L xs D ca y a h x o r rB F) (hI : zLI D ca y a h x o r rB F t ov thr H) (hS : va_S (zAl s) s.heap H locs) (hl : lv_has ls 9 (zLv b t (y 0) (o 0) (r 0))) (h5 : 5 * t + 5 ≤ L) (hcs : cells + 1 ≤ 601024 ∧ slots + 6 ≤ 7293034)
    (kk : ∀ (H1 : Heap) (locs1 : List Loc) (ls1 : Array Slot) (ov1 : Nat → Int64) (thr1 : Int32), zLI D ca y a h x o r rB F (t + 1) ov1 thr1 H1 → va_S (zAl s) s.heap H1 locs1 → lv_has ls1 9 (zLv b t (y 0) (o 0) (r 0)) → W p l e room_1 s m #[Value.ref b] below meth c H1 locs1 (cells + 1) (slots + 6) Q (F0 m 1287 ls1 [])) : W p l e room_1 s m #[Value.ref b] below meth c H locs cells slots Q (F0 m 711 ls []) := by
  have hx := X.1.1
  have hb := X.1.2.1
  have hK := X.2.1
  obtain ⟨LA, V, V1, U, U1, rv, ans, hL, hLA, hPV, hM, hU, hend⟩ := pr_undo (l := l) (N := s.heap.size) X.2.2.2.2.2.2.2.2 X.2.2.2.2.2.2.1 (by have := X.2.2.2.2.2.2.2.1; omega) hI
  refine lv_aload_n hx hb dL_law_711 rfl (lv_at hl 2 rfl) ?_
  refine lv_aload_n hx hb dL_law_712 rfl (lv_at hl 4 rfl) ?_
  refine zgl (As := [.ref (y 0), .ref (r 0)]) (rest := []) X.1 hL ml_L_123 zyw_L_undo st_L_undo ⟨Nat.le_of_ble_eq_true rfl, Nat.le_of_ble_eq_true rfl⟩ hK X.2.2.1 (X.2.2.2.1.kept hS.2.1) hPV hLA hS rfl hl.1 rfl (Nat.le_of_ble_eq_true rfl) hcs dL_law_713 (fun H1 locs1 hP1 hS1 k1 => ?_)
  refine lv_istore (lv' := [(5, .int rv), (4, .int (nI (5 * t))), (0, .ref b), (1, .ref (y 0)), (2, .ref (o 0)), (3, .ref (r 0))]) hx hb dL_law_716 hl (by decide) rfl (fun ls hl => ?_)
  have hS := hS1
  refine lv_aload_n hx hb dL_law_718 rfl (lv_at hl 4 rfl) ?_
  refine zgm (As := []) (rest := []) X.1 hM ml_L_125 zy_X7_undo im_X7_undo se_X7_undo ⟨Nat.le_of_ble_eq_true rfl, Nat.le_of_ble_eq_true rfl⟩ hK (hU H1 k1) (ad_nm X.2.2.2.2.2.2.1) hS rfl rfl rfl hl.1 rfl (Nat.le_of_ble_eq_true rfl) hcs dL_law_719 (fun H2 locs2 hP2 hS2 k2 => ?_)
  refine lv_istore (lv' := [(6, .int ans), (5, .int rv), (4, .int (nI (5 * t))), (0, .ref b), (1, .ref (y 0)), (2, .ref (o 0)), (3, .ref (r 0))]) hx hb dL_law_722 hl (by decide) rfl (fun ls hl => ?_)
  obtain ⟨ov1, hI2, hans⟩ := hend H1 H2 hP1 k1 hP2 k2
  exact zl_tail (T1 := 735) (T2 := 752) X hI2 hans hS2 hl hcs dL_law_724 dL_law_725 dL_law_728 dL_law_730 (by decide) dL_law_735 dL_law_737 (by decide) dL_law_740 dL_law_741 dL_law_742 dL_law_743 dL_law_745 dL_law_746 dL_law_747 (by decide) dL_law_752 (by decide) (fun hl => kk _ _ _ _ _ hI2 hS2 hl)
set_option maxRecDepth 100000 in
theorem st_slot (X : zCx p l s m c b L xs D ca y a h x o r rB F) (hI : zLI D ca y a h x o r rB F t ov thr H) (hS : va_S (zAl s) s.heap H locs) (hl : lv_has ls 9 (zLv b t (y 0) (o 0) (r 0))) (h5 : 5 * t + 5 ≤ L) (hcs : cells + 1 ≤ 601024 ∧ slots + 6 ≤ 7293034)
    (kk : ∀ (H1 : Heap) (locs1 : List Loc) (ls1 : Array Slot) (ov1 : Nat → Int64) (thr1 : Int32), zLI D ca y a h x o r rB F (t + 1) ov1 thr1 H1 → va_S (zAl s) s.heap H1 locs1 → lv_has ls1 9 (zLv b t (y 0) (o 0) (r 0)) → W p l e room_1 s m #[Value.ref b] below meth c H1 locs1 (cells + 1) (slots + 6) Q (F0 m 1287 ls1 [])) : W p l e room_1 s m #[Value.ref b] below meth c H locs cells slots Q (F0 m 755 ls []) := by
  have hx := X.1.1
  have hb := X.1.2.1
  have hK := X.2.1
  obtain ⟨LA, V, V1, U, U1, rv, ans, hL, hLA, hPV, hM, hU, hend⟩ := pr_slot (l := l) (N := s.heap.size) X.2.2.2.2.2.2.2.2 X.2.2.2.2.2.2.1 (by have := X.2.2.2.2.2.2.2.1; omega) hI (xs (5 * t + 1)) (xs (5 * t + 2))
  refine lv_aload_n hx hb dL_law_755 rfl (lv_at hl 2 rfl) ?_
  refine zl_arg (lv := []) (k := 1) X hS (lv_at hl 1 rfl) (lv_at hl 0 rfl) (by omega) dL_law_756 dL_law_757 dL_law_759 dL_law_760 dL_law_761 ?_
  refine zl_arg (lv := []) (k := 2) X hS (lv_at hl 1 rfl) (lv_at hl 0 rfl) (by omega) dL_law_762 dL_law_763 dL_law_765 dL_law_766 dL_law_767 ?_
  refine lv_aload_n hx hb dL_law_768 rfl (lv_at hl 4 rfl) ?_
  refine zgl (As := [.ref (y 0), .int (xs (5 * t + 1)), .int (xs (5 * t + 2)), .ref (r 0)]) (rest := []) X.1 hL ml_L_126 zyw_L_slot st_L_slot ⟨Nat.le_of_ble_eq_true rfl, Nat.le_of_ble_eq_true rfl⟩ hK X.2.2.1 (X.2.2.2.1.kept hS.2.1) hPV hLA hS rfl hl.1 rfl (Nat.le_of_ble_eq_true rfl) hcs dL_law_769 (fun H1 locs1 hP1 hS1 k1 => ?_)
  refine lv_istore (lv' := [(5, .int rv), (4, .int (nI (5 * t))), (0, .ref b), (1, .ref (y 0)), (2, .ref (o 0)), (3, .ref (r 0))]) hx hb dL_law_772 hl (by decide) rfl (fun ls hl => ?_)
  have hS := hS1
  refine lv_aload_n hx hb dL_law_774 rfl (lv_at hl 4 rfl) ?_
  refine zl_arg (lv := []) (k := 1) X hS (lv_at hl 2 rfl) (lv_at hl 1 rfl) (by omega) dL_law_775 dL_law_776 dL_law_778 dL_law_779 dL_law_780 ?_
  refine zl_arg (lv := []) (k := 2) X hS (lv_at hl 2 rfl) (lv_at hl 1 rfl) (by omega) dL_law_781 dL_law_782 dL_law_784 dL_law_785 dL_law_786 ?_
  refine zgm (As := [.int (xs (5 * t + 1)), .int (xs (5 * t + 2))]) (rest := []) X.1 hM ml_L_128 zy_X7_slot im_X7_slot se_X7_slot ⟨Nat.le_of_ble_eq_true rfl, Nat.le_of_ble_eq_true rfl⟩ hK (hU H1 k1) (ad_nm X.2.2.2.2.2.2.1) hS rfl rfl rfl hl.1 rfl (Nat.le_of_ble_eq_true rfl) hcs dL_law_787 (fun H2 locs2 hP2 hS2 k2 => ?_)
  refine lv_istore (lv' := [(6, .int ans), (5, .int rv), (4, .int (nI (5 * t))), (0, .ref b), (1, .ref (y 0)), (2, .ref (o 0)), (3, .ref (r 0))]) hx hb dL_law_790 hl (by decide) rfl (fun ls hl => ?_)
  obtain ⟨ov1, hI2, hans⟩ := hend H1 H2 hP1 k1 hP2 k2
  exact zl_tail (T1 := 803) (T2 := 820) X hI2 hans hS2 hl hcs dL_law_792 dL_law_793 dL_law_796 dL_law_798 (by decide) dL_law_803 dL_law_805 (by decide) dL_law_808 dL_law_809 dL_law_810 dL_law_811 dL_law_813 dL_law_814 dL_law_815 (by decide) dL_law_820 (by decide) (fun hl => kk _ _ _ _ _ hI2 hS2 hl)
set_option maxRecDepth 100000 in
theorem st_page (X : zCx p l s m c b L xs D ca y a h x o r rB F) (hI : zLI D ca y a h x o r rB F t ov thr H) (hS : va_S (zAl s) s.heap H locs) (hl : lv_has ls 9 (zLv b t (y 0) (o 0) (r 0))) (h5 : 5 * t + 5 ≤ L) (hcs : cells + 1 ≤ 601024 ∧ slots + 6 ≤ 7293034)
    (kk : ∀ (H1 : Heap) (locs1 : List Loc) (ls1 : Array Slot) (ov1 : Nat → Int64) (thr1 : Int32), zLI D ca y a h x o r rB F (t + 1) ov1 thr1 H1 → va_S (zAl s) s.heap H1 locs1 → lv_has ls1 9 (zLv b t (y 0) (o 0) (r 0)) → W p l e room_1 s m #[Value.ref b] below meth c H1 locs1 (cells + 1) (slots + 6) Q (F0 m 1287 ls1 [])) : W p l e room_1 s m #[Value.ref b] below meth c H locs cells slots Q (F0 m 823 ls []) := by
  have hx := X.1.1
  have hb := X.1.2.1
  have hK := X.2.1
  obtain ⟨LA, V, V1, U, U1, rv, ans, hL, hLA, hPV, hM, hU, hend⟩ := pr_page (l := l) (N := s.heap.size) X.2.2.2.2.2.2.2.2 X.2.2.2.2.2.2.1 (by have := X.2.2.2.2.2.2.2.1; omega) hI (xs (5 * t + 1)) (xs (5 * t + 2))
  refine lv_aload_n hx hb dL_law_823 rfl (lv_at hl 2 rfl) ?_
  refine zl_arg (lv := []) (k := 1) X hS (lv_at hl 1 rfl) (lv_at hl 0 rfl) (by omega) dL_law_824 dL_law_825 dL_law_827 dL_law_828 dL_law_829 ?_
  refine zl_arg (lv := []) (k := 2) X hS (lv_at hl 1 rfl) (lv_at hl 0 rfl) (by omega) dL_law_830 dL_law_831 dL_law_833 dL_law_834 dL_law_835 ?_
  refine lv_aload_n hx hb dL_law_836 rfl (lv_at hl 4 rfl) ?_
  refine zgl (As := [.ref (y 0), .int (xs (5 * t + 1)), .int (xs (5 * t + 2)), .ref (r 0)]) (rest := []) X.1 hL ml_L_129 zyw_L_page st_L_page ⟨Nat.le_of_ble_eq_true rfl, Nat.le_of_ble_eq_true rfl⟩ hK X.2.2.1 (X.2.2.2.1.kept hS.2.1) hPV hLA hS rfl hl.1 rfl (Nat.le_of_ble_eq_true rfl) hcs dL_law_837 (fun H1 locs1 hP1 hS1 k1 => ?_)
  refine lv_istore (lv' := [(5, .int rv), (4, .int (nI (5 * t))), (0, .ref b), (1, .ref (y 0)), (2, .ref (o 0)), (3, .ref (r 0))]) hx hb dL_law_840 hl (by decide) rfl (fun ls hl => ?_)
  have hS := hS1
  refine lv_aload_n hx hb dL_law_842 rfl (lv_at hl 4 rfl) ?_
  refine zl_arg (lv := []) (k := 1) X hS (lv_at hl 2 rfl) (lv_at hl 1 rfl) (by omega) dL_law_843 dL_law_844 dL_law_846 dL_law_847 dL_law_848 ?_
  refine zl_arg (lv := []) (k := 2) X hS (lv_at hl 2 rfl) (lv_at hl 1 rfl) (by omega) dL_law_849 dL_law_850 dL_law_852 dL_law_853 dL_law_854 ?_
  refine zgm (As := [.int (xs (5 * t + 1)), .int (xs (5 * t + 2))]) (rest := []) X.1 hM ml_L_131 zy_X7_page im_X7_page se_X7_page ⟨Nat.le_of_ble_eq_true rfl, Nat.le_of_ble_eq_true rfl⟩ hK (hU H1 k1) (ad_nm X.2.2.2.2.2.2.1) hS rfl rfl rfl hl.1 rfl (Nat.le_of_ble_eq_true rfl) hcs dL_law_855 (fun H2 locs2 hP2 hS2 k2 => ?_)
  refine lv_istore (lv' := [(6, .int ans), (5, .int rv), (4, .int (nI (5 * t))), (0, .ref b), (1, .ref (y 0)), (2, .ref (o 0)), (3, .ref (r 0))]) hx hb dL_law_858 hl (by decide) rfl (fun ls hl => ?_)
  obtain ⟨ov1, hI2, hans⟩ := hend H1 H2 hP1 k1 hP2 k2
  exact zl_tail (T1 := 871) (T2 := 888) X hI2 hans hS2 hl hcs dL_law_860 dL_law_861 dL_law_864 dL_law_866 (by decide) dL_law_871 dL_law_873 (by decide) dL_law_876 dL_law_877 dL_law_878 dL_law_879 dL_law_881 dL_law_882 dL_law_883 (by decide) dL_law_888 (by decide) (fun hl => kk _ _ _ _ _ hI2 hS2 hl)
set_option maxRecDepth 100000 in
theorem st_asker (X : zCx p l s m c b L xs D ca y a h x o r rB F) (hI : zLI D ca y a h x o r rB F t ov thr H) (hS : va_S (zAl s) s.heap H locs) (hl : lv_has ls 9 (zLv b t (y 0) (o 0) (r 0))) (h5 : 5 * t + 5 ≤ L) (hcs : cells + 1 ≤ 601024 ∧ slots + 6 ≤ 7293034)
    (kk : ∀ (H1 : Heap) (locs1 : List Loc) (ls1 : Array Slot) (ov1 : Nat → Int64) (thr1 : Int32), zLI D ca y a h x o r rB F (t + 1) ov1 thr1 H1 → va_S (zAl s) s.heap H1 locs1 → lv_has ls1 9 (zLv b t (y 0) (o 0) (r 0)) → W p l e room_1 s m #[Value.ref b] below meth c H1 locs1 (cells + 1) (slots + 6) Q (F0 m 1287 ls1 [])) : W p l e room_1 s m #[Value.ref b] below meth c H locs cells slots Q (F0 m 891 ls []) := by
  have hx := X.1.1
  have hb := X.1.2.1
  have hK := X.2.1
  obtain ⟨LA, V, V1, U, U1, rv, ans, hL, hLA, hPV, hM, hU, hend⟩ := pr_asker (l := l) (N := s.heap.size) X.2.2.2.2.2.2.2.2 X.2.2.2.2.2.2.1 (by have := X.2.2.2.2.2.2.2.1; omega) hI (xs (5 * t + 1)) (xs (5 * t + 2))
  refine lv_aload_n hx hb dL_law_891 rfl (lv_at hl 2 rfl) ?_
  refine zl_arg (lv := []) (k := 1) X hS (lv_at hl 1 rfl) (lv_at hl 0 rfl) (by omega) dL_law_892 dL_law_893 dL_law_895 dL_law_896 dL_law_897 ?_
  refine zl_arg (lv := []) (k := 2) X hS (lv_at hl 1 rfl) (lv_at hl 0 rfl) (by omega) dL_law_898 dL_law_899 dL_law_901 dL_law_902 dL_law_903 ?_
  refine lv_aload_n hx hb dL_law_904 rfl (lv_at hl 4 rfl) ?_
  refine zgl (As := [.ref (y 0), .int (xs (5 * t + 1)), .int (xs (5 * t + 2)), .ref (r 0)]) (rest := []) X.1 hL ml_L_132 zyw_L_asker st_L_asker ⟨Nat.le_of_ble_eq_true rfl, Nat.le_of_ble_eq_true rfl⟩ hK X.2.2.1 (X.2.2.2.1.kept hS.2.1) hPV hLA hS rfl hl.1 rfl (Nat.le_of_ble_eq_true rfl) hcs dL_law_905 (fun H1 locs1 hP1 hS1 k1 => ?_)
  refine lv_istore (lv' := [(5, .int rv), (4, .int (nI (5 * t))), (0, .ref b), (1, .ref (y 0)), (2, .ref (o 0)), (3, .ref (r 0))]) hx hb dL_law_908 hl (by decide) rfl (fun ls hl => ?_)
  have hS := hS1
  refine lv_aload_n hx hb dL_law_910 rfl (lv_at hl 4 rfl) ?_
  refine zl_arg (lv := []) (k := 1) X hS (lv_at hl 2 rfl) (lv_at hl 1 rfl) (by omega) dL_law_911 dL_law_912 dL_law_914 dL_law_915 dL_law_916 ?_
  refine zl_arg (lv := []) (k := 2) X hS (lv_at hl 2 rfl) (lv_at hl 1 rfl) (by omega) dL_law_917 dL_law_918 dL_law_920 dL_law_921 dL_law_922 ?_
  refine zgm (As := [.int (xs (5 * t + 1)), .int (xs (5 * t + 2))]) (rest := []) X.1 hM ml_L_134 zy_X7_asker im_X7_asker se_X7_asker ⟨Nat.le_of_ble_eq_true rfl, Nat.le_of_ble_eq_true rfl⟩ hK (hU H1 k1) (ad_nm X.2.2.2.2.2.2.1) hS rfl rfl rfl hl.1 rfl (Nat.le_of_ble_eq_true rfl) hcs dL_law_923 (fun H2 locs2 hP2 hS2 k2 => ?_)
  refine lv_istore (lv' := [(6, .int ans), (5, .int rv), (4, .int (nI (5 * t))), (0, .ref b), (1, .ref (y 0)), (2, .ref (o 0)), (3, .ref (r 0))]) hx hb dL_law_926 hl (by decide) rfl (fun ls hl => ?_)
  obtain ⟨ov1, hI2, hans⟩ := hend H1 H2 hP1 k1 hP2 k2
  exact zl_tail (T1 := 939) (T2 := 956) X hI2 hans hS2 hl hcs dL_law_928 dL_law_929 dL_law_932 dL_law_934 (by decide) dL_law_939 dL_law_941 (by decide) dL_law_944 dL_law_945 dL_law_946 dL_law_947 dL_law_949 dL_law_950 dL_law_951 (by decide) dL_law_956 (by decide) (fun hl => kk _ _ _ _ _ hI2 hS2 hl)
set_option maxRecDepth 100000 in
theorem st_count (X : zCx p l s m c b L xs D ca y a h x o r rB F) (hI : zLI D ca y a h x o r rB F t ov thr H) (hS : va_S (zAl s) s.heap H locs) (hl : lv_has ls 9 (zLv b t (y 0) (o 0) (r 0))) (h5 : 5 * t + 5 ≤ L) (hcs : cells + 1 ≤ 601024 ∧ slots + 6 ≤ 7293034)
    (kk : ∀ (H1 : Heap) (locs1 : List Loc) (ls1 : Array Slot) (ov1 : Nat → Int64) (thr1 : Int32), zLI D ca y a h x o r rB F (t + 1) ov1 thr1 H1 → va_S (zAl s) s.heap H1 locs1 → lv_has ls1 9 (zLv b t (y 0) (o 0) (r 0)) → W p l e room_1 s m #[Value.ref b] below meth c H1 locs1 (cells + 1) (slots + 6) Q (F0 m 1287 ls1 [])) : W p l e room_1 s m #[Value.ref b] below meth c H locs cells slots Q (F0 m 959 ls []) := by
  have hx := X.1.1
  have hb := X.1.2.1
  have hK := X.2.1
  obtain ⟨LA, V, V1, U, U1, rv, ans, hL, hLA, hPV, hM, hU, hend⟩ := pr_count (l := l) (N := s.heap.size) X.2.2.2.2.2.2.2.2 X.2.2.2.2.2.2.1 (by have := X.2.2.2.2.2.2.2.1; omega) hI (xs (5 * t + 1))
  refine lv_aload_n hx hb dL_law_959 rfl (lv_at hl 2 rfl) ?_
  refine zl_arg (lv := []) (k := 1) X hS (lv_at hl 1 rfl) (lv_at hl 0 rfl) (by omega) dL_law_960 dL_law_961 dL_law_963 dL_law_964 dL_law_965 ?_
  refine lv_aload_n hx hb dL_law_966 rfl (lv_at hl 4 rfl) ?_
  refine zgl (As := [.ref (y 0), .int (xs (5 * t + 1)), .ref (r 0)]) (rest := []) X.1 hL ml_L_135 zyw_L_count st_L_count ⟨Nat.le_of_ble_eq_true rfl, Nat.le_of_ble_eq_true rfl⟩ hK X.2.2.1 (X.2.2.2.1.kept hS.2.1) hPV hLA hS rfl hl.1 rfl (Nat.le_of_ble_eq_true rfl) hcs dL_law_967 (fun H1 locs1 hP1 hS1 k1 => ?_)
  refine lv_istore (lv' := [(5, .int rv), (4, .int (nI (5 * t))), (0, .ref b), (1, .ref (y 0)), (2, .ref (o 0)), (3, .ref (r 0))]) hx hb dL_law_970 hl (by decide) rfl (fun ls hl => ?_)
  have hS := hS1
  refine lv_aload_n hx hb dL_law_972 rfl (lv_at hl 4 rfl) ?_
  refine zl_arg (lv := []) (k := 1) X hS (lv_at hl 2 rfl) (lv_at hl 1 rfl) (by omega) dL_law_973 dL_law_974 dL_law_976 dL_law_977 dL_law_978 ?_
  refine zgm (As := [.int (xs (5 * t + 1))]) (rest := []) X.1 hM ml_L_137 zy_X7_count im_X7_count se_X7_count ⟨Nat.le_of_ble_eq_true rfl, Nat.le_of_ble_eq_true rfl⟩ hK (hU H1 k1) (ad_nm X.2.2.2.2.2.2.1) hS rfl rfl rfl hl.1 rfl (Nat.le_of_ble_eq_true rfl) hcs dL_law_979 (fun H2 locs2 hP2 hS2 k2 => ?_)
  refine lv_istore (lv' := [(6, .int ans), (5, .int rv), (4, .int (nI (5 * t))), (0, .ref b), (1, .ref (y 0)), (2, .ref (o 0)), (3, .ref (r 0))]) hx hb dL_law_982 hl (by decide) rfl (fun ls hl => ?_)
  obtain ⟨ov1, hI2, hans⟩ := hend H1 H2 hP1 k1 hP2 k2
  exact zl_tail (T1 := 995) (T2 := 1012) X hI2 hans hS2 hl hcs dL_law_984 dL_law_985 dL_law_988 dL_law_990 (by decide) dL_law_995 dL_law_997 (by decide) dL_law_1000 dL_law_1001 dL_law_1002 dL_law_1003 dL_law_1005 dL_law_1006 dL_law_1007 (by decide) dL_law_1012 (by decide) (fun hl => kk _ _ _ _ _ hI2 hS2 hl)
set_option maxRecDepth 100000 in
theorem st_ifAsked (X : zCx p l s m c b L xs D ca y a h x o r rB F) (hI : zLI D ca y a h x o r rB F t ov thr H) (hS : va_S (zAl s) s.heap H locs) (hl : lv_has ls 9 (zLv b t (y 0) (o 0) (r 0))) (h5 : 5 * t + 5 ≤ L) (hcs : cells + 1 ≤ 601024 ∧ slots + 6 ≤ 7293034)
    (kk : ∀ (H1 : Heap) (locs1 : List Loc) (ls1 : Array Slot) (ov1 : Nat → Int64) (thr1 : Int32), zLI D ca y a h x o r rB F (t + 1) ov1 thr1 H1 → va_S (zAl s) s.heap H1 locs1 → lv_has ls1 9 (zLv b t (y 0) (o 0) (r 0)) → W p l e room_1 s m #[Value.ref b] below meth c H1 locs1 (cells + 1) (slots + 6) Q (F0 m 1287 ls1 [])) : W p l e room_1 s m #[Value.ref b] below meth c H locs cells slots Q (F0 m 1015 ls []) := by
  have hx := X.1.1
  have hb := X.1.2.1
  have hK := X.2.1
  obtain ⟨LA, V, V1, U, U1, rv, ans, hL, hLA, hPV, hM, hU, hend⟩ := pr_ifAsked (l := l) (N := s.heap.size) X.2.2.2.2.2.2.2.2 X.2.2.2.2.2.2.1 (by have := X.2.2.2.2.2.2.2.1; omega) hI (xs (5 * t + 1)) (xs (5 * t + 2)) (xs (5 * t + 3)) (xs (5 * t + 4))
  refine lv_aload_n hx hb dL_law_1015 rfl (lv_at hl 2 rfl) ?_
  refine zl_arg (lv := []) (k := 1) X hS (lv_at hl 1 rfl) (lv_at hl 0 rfl) (by omega) dL_law_1016 dL_law_1017 dL_law_1019 dL_law_1020 dL_law_1021 ?_
  refine zl_arg (lv := []) (k := 2) X hS (lv_at hl 1 rfl) (lv_at hl 0 rfl) (by omega) dL_law_1022 dL_law_1023 dL_law_1025 dL_law_1026 dL_law_1027 ?_
  refine zl_arg (lv := []) (k := 3) X hS (lv_at hl 1 rfl) (lv_at hl 0 rfl) (by omega) dL_law_1028 dL_law_1029 dL_law_1031 dL_law_1032 dL_law_1033 ?_
  refine zl_arg (lv := []) (k := 4) X hS (lv_at hl 1 rfl) (lv_at hl 0 rfl) (by omega) dL_law_1034 dL_law_1035 dL_law_1037 dL_law_1038 dL_law_1039 ?_
  refine lv_aload_n hx hb dL_law_1040 rfl (lv_at hl 4 rfl) ?_
  refine zgl (As := [.ref (y 0), .int (xs (5 * t + 1)), .int (xs (5 * t + 2)), .int (xs (5 * t + 3)), .int (xs (5 * t + 4)), .ref (r 0)]) (rest := []) X.1 hL ml_L_138 zyw_L_ifAsked st_L_ifAsked ⟨Nat.le_of_ble_eq_true rfl, Nat.le_of_ble_eq_true rfl⟩ hK X.2.2.1 (X.2.2.2.1.kept hS.2.1) hPV hLA hS rfl hl.1 rfl (Nat.le_of_ble_eq_true rfl) hcs dL_law_1041 (fun H1 locs1 hP1 hS1 k1 => ?_)
  refine lv_istore (lv' := [(5, .int rv), (4, .int (nI (5 * t))), (0, .ref b), (1, .ref (y 0)), (2, .ref (o 0)), (3, .ref (r 0))]) hx hb dL_law_1044 hl (by decide) rfl (fun ls hl => ?_)
  have hS := hS1
  refine lv_aload_n hx hb dL_law_1046 rfl (lv_at hl 4 rfl) ?_
  refine zl_arg (lv := []) (k := 1) X hS (lv_at hl 2 rfl) (lv_at hl 1 rfl) (by omega) dL_law_1047 dL_law_1048 dL_law_1050 dL_law_1051 dL_law_1052 ?_
  refine zl_arg (lv := []) (k := 2) X hS (lv_at hl 2 rfl) (lv_at hl 1 rfl) (by omega) dL_law_1053 dL_law_1054 dL_law_1056 dL_law_1057 dL_law_1058 ?_
  refine zl_arg (lv := []) (k := 3) X hS (lv_at hl 2 rfl) (lv_at hl 1 rfl) (by omega) dL_law_1059 dL_law_1060 dL_law_1062 dL_law_1063 dL_law_1064 ?_
  refine zl_arg (lv := []) (k := 4) X hS (lv_at hl 2 rfl) (lv_at hl 1 rfl) (by omega) dL_law_1065 dL_law_1066 dL_law_1068 dL_law_1069 dL_law_1070 ?_
  refine zgm (As := [.int (xs (5 * t + 1)), .int (xs (5 * t + 2)), .int (xs (5 * t + 3)), .int (xs (5 * t + 4))]) (rest := []) X.1 hM ml_L_141 zy_X7_ifAsked im_X7_ifAsked se_X7_ifAsked ⟨Nat.le_of_ble_eq_true rfl, Nat.le_of_ble_eq_true rfl⟩ hK (hU H1 k1) (ad_nm X.2.2.2.2.2.2.1) hS rfl rfl rfl hl.1 rfl (Nat.le_of_ble_eq_true rfl) hcs dL_law_1071 (fun H2 locs2 hP2 hS2 k2 => ?_)
  refine lv_istore (lv' := [(6, .int ans), (5, .int rv), (4, .int (nI (5 * t))), (0, .ref b), (1, .ref (y 0)), (2, .ref (o 0)), (3, .ref (r 0))]) hx hb dL_law_1074 hl (by decide) rfl (fun ls hl => ?_)
  obtain ⟨ov1, hI2, hans⟩ := hend H1 H2 hP1 k1 hP2 k2
  exact zl_tail (T1 := 1087) (T2 := 1104) X hI2 hans hS2 hl hcs dL_law_1076 dL_law_1077 dL_law_1080 dL_law_1082 (by decide) dL_law_1087 dL_law_1089 (by decide) dL_law_1092 dL_law_1093 dL_law_1094 dL_law_1095 dL_law_1097 dL_law_1098 dL_law_1099 (by decide) dL_law_1104 (by decide) (fun hl => kk _ _ _ _ _ hI2 hS2 hl)
set_option maxRecDepth 100000 in
theorem st_lies (X : zCx p l s m c b L xs D ca y a h x o r rB F) (hI : zLI D ca y a h x o r rB F t ov thr H) (hS : va_S (zAl s) s.heap H locs) (hl : lv_has ls 9 (zLv b t (y 0) (o 0) (r 0))) (h5 : 5 * t + 5 ≤ L) (hcs : cells + 1 ≤ 601024 ∧ slots + 6 ≤ 7293034)
    (kk : ∀ (H1 : Heap) (locs1 : List Loc) (ls1 : Array Slot) (ov1 : Nat → Int64) (thr1 : Int32), zLI D ca y a h x o r rB F (t + 1) ov1 thr1 H1 → va_S (zAl s) s.heap H1 locs1 → lv_has ls1 9 (zLv b t (y 0) (o 0) (r 0)) → W p l e room_1 s m #[Value.ref b] below meth c H1 locs1 (cells + 1) (slots + 6) Q (F0 m 1287 ls1 [])) : W p l e room_1 s m #[Value.ref b] below meth c H locs cells slots Q (F0 m 1107 ls []) := by
  have hx := X.1.1
  have hb := X.1.2.1
  have hK := X.2.1
  obtain ⟨LA, V, V1, U, U1, rv, ans, hL, hLA, hPV, hM, hU, hend⟩ := pr_lies (l := l) (N := s.heap.size) X.2.2.2.2.2.2.2.2 X.2.2.2.2.2.2.1 (by have := X.2.2.2.2.2.2.2.1; omega) hI (xs (5 * t + 1))
  refine lv_aload_n hx hb dL_law_1107 rfl (lv_at hl 2 rfl) ?_
  refine zl_arg (lv := []) (k := 1) X hS (lv_at hl 1 rfl) (lv_at hl 0 rfl) (by omega) dL_law_1108 dL_law_1109 dL_law_1111 dL_law_1112 dL_law_1113 ?_
  refine lv_aload_n hx hb dL_law_1114 rfl (lv_at hl 4 rfl) ?_
  refine zgl (As := [.ref (y 0), .int (xs (5 * t + 1)), .ref (r 0)]) (rest := []) X.1 hL ml_L_142 zyw_L_lies st_L_lies ⟨Nat.le_of_ble_eq_true rfl, Nat.le_of_ble_eq_true rfl⟩ hK X.2.2.1 (X.2.2.2.1.kept hS.2.1) hPV hLA hS rfl hl.1 rfl (Nat.le_of_ble_eq_true rfl) hcs dL_law_1115 (fun H1 locs1 hP1 hS1 k1 => ?_)
  refine lv_istore (lv' := [(5, .int rv), (4, .int (nI (5 * t))), (0, .ref b), (1, .ref (y 0)), (2, .ref (o 0)), (3, .ref (r 0))]) hx hb dL_law_1118 hl (by decide) rfl (fun ls hl => ?_)
  have hS := hS1
  refine lv_aload_n hx hb dL_law_1120 rfl (lv_at hl 4 rfl) ?_
  refine zl_arg (lv := []) (k := 1) X hS (lv_at hl 2 rfl) (lv_at hl 1 rfl) (by omega) dL_law_1121 dL_law_1122 dL_law_1124 dL_law_1125 dL_law_1126 ?_
  refine zgm (As := [.int (xs (5 * t + 1))]) (rest := []) X.1 hM ml_L_144 zy_X7_lies im_X7_lies se_X7_lies ⟨Nat.le_of_ble_eq_true rfl, Nat.le_of_ble_eq_true rfl⟩ hK (hU H1 k1) (ad_nm X.2.2.2.2.2.2.1) hS rfl rfl rfl hl.1 rfl (Nat.le_of_ble_eq_true rfl) hcs dL_law_1127 (fun H2 locs2 hP2 hS2 k2 => ?_)
  refine lv_istore (lv' := [(6, .int ans), (5, .int rv), (4, .int (nI (5 * t))), (0, .ref b), (1, .ref (y 0)), (2, .ref (o 0)), (3, .ref (r 0))]) hx hb dL_law_1130 hl (by decide) rfl (fun ls hl => ?_)
  obtain ⟨ov1, hI2, hans⟩ := hend H1 H2 hP1 k1 hP2 k2
  exact zl_tail (T1 := 1143) (T2 := 1160) X hI2 hans hS2 hl hcs dL_law_1132 dL_law_1133 dL_law_1136 dL_law_1138 (by decide) dL_law_1143 dL_law_1145 (by decide) dL_law_1148 dL_law_1149 dL_law_1150 dL_law_1151 dL_law_1153 dL_law_1154 dL_law_1155 (by decide) dL_law_1160 (by decide) (fun hl => kk _ _ _ _ _ hI2 hS2 hl)
set_option maxRecDepth 100000 in
theorem st_cheapest (X : zCx p l s m c b L xs D ca y a h x o r rB F) (hI : zLI D ca y a h x o r rB F t ov thr H) (hS : va_S (zAl s) s.heap H locs) (hl : lv_has ls 9 (zLv b t (y 0) (o 0) (r 0))) (h5 : 5 * t + 5 ≤ L) (hcs : cells + 1 ≤ 601024 ∧ slots + 6 ≤ 7293034)
    (kk : ∀ (H1 : Heap) (locs1 : List Loc) (ls1 : Array Slot) (ov1 : Nat → Int64) (thr1 : Int32), zLI D ca y a h x o r rB F (t + 1) ov1 thr1 H1 → va_S (zAl s) s.heap H1 locs1 → lv_has ls1 9 (zLv b t (y 0) (o 0) (r 0)) → W p l e room_1 s m #[Value.ref b] below meth c H1 locs1 (cells + 1) (slots + 6) Q (F0 m 1287 ls1 [])) : W p l e room_1 s m #[Value.ref b] below meth c H locs cells slots Q (F0 m 1163 ls []) := by
  have hx := X.1.1
  have hb := X.1.2.1
  have hK := X.2.1
  obtain ⟨LA, V, V1, U, U1, rv, ans, hL, hLA, hPV, hM, hU, hend⟩ := pr_cheapest (l := l) (N := s.heap.size) X.2.2.2.2.2.2.2.2 X.2.2.2.2.2.2.1 (by have := X.2.2.2.2.2.2.2.1; omega) hI (xs (5 * t + 1))
  refine lv_aload_n hx hb dL_law_1163 rfl (lv_at hl 2 rfl) ?_
  refine zl_arg (lv := []) (k := 1) X hS (lv_at hl 1 rfl) (lv_at hl 0 rfl) (by omega) dL_law_1164 dL_law_1165 dL_law_1167 dL_law_1168 dL_law_1169 ?_
  refine lv_aload_n hx hb dL_law_1170 rfl (lv_at hl 4 rfl) ?_
  refine zgl (As := [.ref (y 0), .int (xs (5 * t + 1)), .ref (r 0)]) (rest := []) X.1 hL ml_L_145 zyw_L_cheapest st_L_cheapest ⟨Nat.le_of_ble_eq_true rfl, Nat.le_of_ble_eq_true rfl⟩ hK X.2.2.1 (X.2.2.2.1.kept hS.2.1) hPV hLA hS rfl hl.1 rfl (Nat.le_of_ble_eq_true rfl) hcs dL_law_1171 (fun H1 locs1 hP1 hS1 k1 => ?_)
  refine lv_istore (lv' := [(5, .int rv), (4, .int (nI (5 * t))), (0, .ref b), (1, .ref (y 0)), (2, .ref (o 0)), (3, .ref (r 0))]) hx hb dL_law_1174 hl (by decide) rfl (fun ls hl => ?_)
  have hS := hS1
  refine lv_aload_n hx hb dL_law_1176 rfl (lv_at hl 4 rfl) ?_
  refine zl_arg (lv := []) (k := 1) X hS (lv_at hl 2 rfl) (lv_at hl 1 rfl) (by omega) dL_law_1177 dL_law_1178 dL_law_1180 dL_law_1181 dL_law_1182 ?_
  refine zgm (As := [.int (xs (5 * t + 1))]) (rest := []) X.1 hM ml_L_147 zy_X7_cheapest im_X7_cheapest se_X7_cheapest ⟨Nat.le_of_ble_eq_true rfl, Nat.le_of_ble_eq_true rfl⟩ hK (hU H1 k1) (ad_nm X.2.2.2.2.2.2.1) hS rfl rfl rfl hl.1 rfl (Nat.le_of_ble_eq_true rfl) hcs dL_law_1183 (fun H2 locs2 hP2 hS2 k2 => ?_)
  refine lv_istore (lv' := [(6, .int ans), (5, .int rv), (4, .int (nI (5 * t))), (0, .ref b), (1, .ref (y 0)), (2, .ref (o 0)), (3, .ref (r 0))]) hx hb dL_law_1186 hl (by decide) rfl (fun ls hl => ?_)
  obtain ⟨ov1, hI2, hans⟩ := hend H1 H2 hP1 k1 hP2 k2
  exact zl_tail (T1 := 1199) (T2 := 1216) X hI2 hans hS2 hl hcs dL_law_1188 dL_law_1189 dL_law_1192 dL_law_1194 (by decide) dL_law_1199 dL_law_1201 (by decide) dL_law_1204 dL_law_1205 dL_law_1206 dL_law_1207 dL_law_1209 dL_law_1210 dL_law_1211 (by decide) dL_law_1216 (by decide) (fun hl => kk _ _ _ _ _ hI2 hS2 hl)
set_option maxRecDepth 100000 in
theorem st_holder (X : zCx p l s m c b L xs D ca y a h x o r rB F) (hI : zLI D ca y a h x o r rB F t ov thr H) (hS : va_S (zAl s) s.heap H locs) (hl : lv_has ls 9 (zLv b t (y 0) (o 0) (r 0))) (h5 : 5 * t + 5 ≤ L) (hcs : cells + 1 ≤ 601024 ∧ slots + 6 ≤ 7293034)
    (kk : ∀ (H1 : Heap) (locs1 : List Loc) (ls1 : Array Slot) (ov1 : Nat → Int64) (thr1 : Int32), zLI D ca y a h x o r rB F (t + 1) ov1 thr1 H1 → va_S (zAl s) s.heap H1 locs1 → lv_has ls1 9 (zLv b t (y 0) (o 0) (r 0)) → W p l e room_1 s m #[Value.ref b] below meth c H1 locs1 (cells + 1) (slots + 6) Q (F0 m 1287 ls1 [])) : W p l e room_1 s m #[Value.ref b] below meth c H locs cells slots Q (F0 m 1219 ls []) := by
  have hx := X.1.1
  have hb := X.1.2.1
  have hK := X.2.1
  obtain ⟨v, V, U, U1, hL, hPV, hM, hPU, hend⟩ := pr_holder (l := l) (N := s.heap.size) X.2.2.2.2.2.2.1 (by have := X.2.2.2.2.2.2.2.1; omega) hI
  refine W.widen (Nat.le_succ cells) (Nat.le_add_right slots 6) ?_
  refine lv_aload_n hx hb dL_law_1219 rfl (lv_at hl 2 rfl) ?_
  refine zgr (As := []) (rest := []) X.1 hL ml_L_148 zy_X6_holder im_X6_holder se_X6_holder ⟨Nat.le_of_ble_eq_true rfl, Nat.le_of_ble_eq_true rfl⟩ hK hPV rfl rfl rfl hl.1 rfl (Nat.le_of_ble_eq_true rfl) hcs dL_law_1220 ?_
  refine lv_aload_n hx hb dL_law_1223 rfl (lv_at hl 3 rfl) ?_
  refine zgm (As := []) (rest := [.int v]) X.1 hM ml_L_151 zy_X7_holder im_X7_holder se_X7_holder ⟨Nat.le_of_ble_eq_true rfl, Nat.le_of_ble_eq_true rfl⟩ hK hPU (ad_nm X.2.2.2.2.2.2.1) hS rfl rfl rfl hl.1 rfl (Nat.le_of_ble_eq_true rfl) hcs dL_law_1224 (fun H2 locs2 hP2 hS2 k2 => ?_)
  obtain ⟨ov1, thr1, hI2⟩ := hend H2 hP2 k2
  exact lv_icmp_eq (tgt := 1287) hx hb dL_law_1227 (by decide) (fun _ => kk _ _ _ _ _ hI2 hS2 hl) (fun h => absurd rfl h)
set_option maxRecDepth 100000 in
theorem st_marked (X : zCx p l s m c b L xs D ca y a h x o r rB F) (hI : zLI D ca y a h x o r rB F t ov thr H) (hS : va_S (zAl s) s.heap H locs) (hl : lv_has ls 9 (zLv b t (y 0) (o 0) (r 0))) (h5 : 5 * t + 5 ≤ L) (hcs : cells + 1 ≤ 601024 ∧ slots + 6 ≤ 7293034)
    (kk : ∀ (H1 : Heap) (locs1 : List Loc) (ls1 : Array Slot) (ov1 : Nat → Int64) (thr1 : Int32), zLI D ca y a h x o r rB F (t + 1) ov1 thr1 H1 → va_S (zAl s) s.heap H1 locs1 → lv_has ls1 9 (zLv b t (y 0) (o 0) (r 0)) → W p l e room_1 s m #[Value.ref b] below meth c H1 locs1 (cells + 1) (slots + 6) Q (F0 m 1287 ls1 [])) : W p l e room_1 s m #[Value.ref b] below meth c H locs cells slots Q (F0 m 1232 ls []) := by
  have hx := X.1.1
  have hb := X.1.2.1
  have hK := X.2.1
  obtain ⟨v, hok, V, U, U1, hL, hPV, hM, hPU, hend⟩ := pr_marked (l := l) (N := s.heap.size) X.2.2.2.2.2.2.1 (by have := X.2.2.2.2.2.2.2.1; omega) hI
  refine W.widen (Nat.le_succ cells) (Nat.le_add_right slots 6) ?_
  refine lv_aload_n hx hb dL_law_1232 rfl (lv_at hl 2 rfl) ?_
  refine zgr (As := []) (rest := []) X.1 hL ml_L_152 zy_X6_marked im_X6_marked se_X6_marked ⟨Nat.le_of_ble_eq_true rfl, Nat.le_of_ble_eq_true rfl⟩ hK hPV rfl rfl rfl hl.1 rfl (Nat.le_of_ble_eq_true rfl) hcs dL_law_1233 ?_
  refine lv_dstore (lv' := [(5, .double v), (4, .int (nI (5 * t))), (0, .ref b), (1, .ref (y 0)), (2, .ref (o 0)), (3, .ref (r 0))]) hx hb dL_law_1236 hl (by decide) rfl (fun ls hl => ?_)
  refine lv_aload_n hx hb dL_law_1238 rfl (lv_at hl 4 rfl) ?_
  refine zgm (As := []) (rest := []) X.1 hM ml_L_156 zy_X7_marked im_X7_marked se_X7_marked ⟨Nat.le_of_ble_eq_true rfl, Nat.le_of_ble_eq_true rfl⟩ hK hPU (ad_nm X.2.2.2.2.2.2.1) hS rfl rfl rfl hl.1 rfl (Nat.le_of_ble_eq_true rfl) hcs dL_law_1239 (fun H2 locs2 hP2 hS2 k2 => ?_)
  obtain ⟨ov1, thr1, hI2⟩ := hend H2 hP2 k2
  refine lv_dstore (lv' := [(7, .double v), (5, .double v), (4, .int (nI (5 * t))), (0, .ref b), (1, .ref (y 0)), (2, .ref (o 0)), (3, .ref (r 0))]) hx hb dL_law_1242 hl (by decide) rfl (fun ls hl => ?_)
  refine lv_dload hx hb dL_law_1244 (lv_at hl 1 rfl) ?_
  refine lv_dload hx hb dL_law_1246 (lv_at hl 0 rfl) ?_
  refine lv_dcmp hx hb dL_law_1248 ?_
  rw [hok.2]
  refine lv_if_eq (tgt := 1270) hx hb dL_law_1249 (by decide) (fun _ => ?_) (fun h => absurd rfl h)
  exact lv_goto (tgt := 1287) hx hb dL_law_1270 (by decide) (kk _ _ _ _ _ hI2 hS2 (lv_sub hl [2, 3, 4, 5, 6] rfl))
set_option maxRecDepth 100000 in
theorem st_digest (X : zCx p l s m c b L xs D ca y a h x o r rB F) (hI : zLI D ca y a h x o r rB F t ov thr H) (hS : va_S (zAl s) s.heap H locs) (hl : lv_has ls 9 (zLv b t (y 0) (o 0) (r 0))) (h5 : 5 * t + 5 ≤ L) (hcs : cells + 1 ≤ 601024 ∧ slots + 6 ≤ 7293034)
    (kk : ∀ (H1 : Heap) (locs1 : List Loc) (ls1 : Array Slot) (ov1 : Nat → Int64) (thr1 : Int32), zLI D ca y a h x o r rB F (t + 1) ov1 thr1 H1 → va_S (zAl s) s.heap H1 locs1 → lv_has ls1 9 (zLv b t (y 0) (o 0) (r 0)) → W p l e room_1 s m #[Value.ref b] below meth c H1 locs1 (cells + 1) (slots + 6) Q (F0 m 1287 ls1 [])) : W p l e room_1 s m #[Value.ref b] below meth c H locs cells slots Q (F0 m 1273 ls []) := by
  have hx := X.1.1
  have hb := X.1.2.1
  have hK := X.2.1
  obtain ⟨v, V, U, U1, hL, hPV, hM, hPU, hend⟩ := pr_digest (l := l) (N := s.heap.size) X.2.2.2.2.2.2.1 (by have := X.2.2.2.2.2.2.2.1; omega) hI
  refine W.widen (Nat.le_succ cells) (Nat.le_add_right slots 6) ?_
  refine lv_aload_n hx hb dL_law_1273 rfl (lv_at hl 2 rfl) ?_
  refine zgr (As := []) (rest := []) X.1 hL ml_L_157 zy_X6_digest im_X6_digest se_X6_digest ⟨Nat.le_of_ble_eq_true rfl, Nat.le_of_ble_eq_true rfl⟩ hK hPV rfl rfl rfl hl.1 rfl (Nat.le_of_ble_eq_true rfl) hcs dL_law_1274 ?_
  refine lv_aload_n hx hb dL_law_1277 rfl (lv_at hl 3 rfl) ?_
  refine zgm (As := []) (rest := [.long v]) X.1 hM ml_L_161 zy_X7_digest im_X7_digest se_X7_digest ⟨Nat.le_of_ble_eq_true rfl, Nat.le_of_ble_eq_true rfl⟩ hK hPU (ad_nm X.2.2.2.2.2.2.1) hS rfl rfl rfl hl.1 rfl (Nat.le_of_ble_eq_true rfl) hcs dL_law_1278 (fun H2 locs2 hP2 hS2 k2 => ?_)
  obtain ⟨ov1, thr1, hI2⟩ := hend H2 hP2 k2
  refine W.lcmp hx hb dL_law_1281 ?_
  rw [lg_self]
  exact lv_if_eq (tgt := 1287) hx hb dL_law_1282 (by decide) (fun _ => kk _ _ _ _ _ hI2 hS2 hl) (fun h => absurd rfl h)
end LAW
