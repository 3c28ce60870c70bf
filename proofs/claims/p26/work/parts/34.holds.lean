set_option maxHeartbeats 4000000 in
set_option maxRecDepth 100000 in
theorem h_L_holds_4 (l : Launch) (D : va_G) (ca : Nat → ClassId) (y a h x : Nat → Nat) (Z : zSt) (nx sz : Nat) (hsz : sz ≤ 6) (B : Nat) (hI : zIv Z B) (w : Int32) (hok : zOk (zSh (zMp Z.1))) (p : Program) (e : Env) (s : State) (m : MethodId) (args : Array Value) (below : List Frame) (meth : Method) (c : Code) (ls : Array Slot) (S : CallFix p m c cL_holds 9 s args wAll RL) (hr : meth.sig.returnType = (some .boolean)) (hlk : meth.locks = false) (hP : va_P D vwCl [(y 0, .inr (6, [.ref (a 0), .ref (h 0), .ref (x 0)])), (h 0, .inr (1, [.ref (h 1), .int (nI nx), .int (nI sz)])), (a 0, .inr (2, [.ref (a 1), .ref (a 6), .ref (a 9)])), (a 1, .inr (3, [.ref (a 2), .ref (a 3), .ref (a 4), .ref (a 5), .int Z.1.2.2.2.2.1, .int Z.1.2.2.2.2.2])), (a 2, .inl (ca 0, 24, .inl Z.1.1)), (a 3, .inl (ca 0, 24, .inl Z.1.2.1)), (a 4, .inl (ca 0, 24, .inl Z.1.2.2.1)), (a 5, .inl (ca 0, 6, .inl Z.1.2.2.2.1)), (a 6, .inr (0, [.ref (a 7), .ref (a 8)])), (a 7, .inl (ca 0, 4, .inl Z.2.1.1)), (a 8, .inl (ca 0, 4, .inl Z.2.1.2)), (a 9, .inr (4, [.ref (a 10), .int Z.2.2.2.1, .int Z.2.2.2.2])), (a 10, .inl (ca 0, 3, .inl Z.2.2.1))] s.heap) (hK : zK D ca s) (hl : lv_has ls 9 [(0, .ref (y 0)), (1, .int w), (2, .int Z.1.2.2.2.2.1), (3, .int (zHor Z)), (4, .int (zVs Z.1 24 0)), (5, .int (zVn Z.1 24 0 Z.1.2.2.2.2.1)), (6, .int (zMp Z.1))]) : W p l e { frames := 4, cells := 0, slots := 0, locals := 94 } s m args below meth c s.heap [] 0 0 (MQ below (zQr (.int (zb true))) args s 0 0 (fun _ => False)) (F0 m 414 ls []) := by
  have hx := S.1
  have hb := S.2.1
  refine lv_aload_n hx hb dL_holds_414 rfl (lv_at hl 0 rfl) ?_
  refine lv_iconst (v := 1) hx hb dL_holds_415 (by decide) ?_
  refine zcr (As := [.int 1]) (rest := []) (q0 := 0) S (c_X6_count_C l D ca y a h x Z nx sz (by omega) 1 (by omega)) ml_L_12 zy_X6_count im_X6_count se_X6_count ⟨Nat.le_of_ble_eq_true rfl, Nat.le_of_ble_eq_true rfl⟩ hK hP [0, 1, 2, 3, 4, 5, 6, 7, 8, 9, 10, 11, 12] rfl rfl rfl rfl rfl hl.1 rfl (Nat.le_of_ble_eq_true rfl) ⟨Nat.zero_le _, Nat.zero_le _⟩ dL_holds_416 ?_
  rw [zCo_1]
  refine lv_iload_n hx hb dL_holds_419 rfl (lv_at hl 3 rfl) ?_
  refine lv_icmp_ne (tgt := 497) hx hb dL_holds_420 (by decide) (fun h => False.elim (by exact h rfl)) (fun c_420_1 => ?_)
  refine lv_iload hx hb dL_holds_423 (lv_at hl 4 rfl) ?_
  refine lv_aload_n hx hb dL_holds_425 rfl (lv_at hl 0 rfl) ?_
  refine lv_iconst (v := 2) hx hb dL_holds_426 (by decide) ?_
  refine zcr (As := [.int 2]) (rest := [.int (zVs Z.1 24 0)]) (q0 := 0) S (c_X6_count_C l D ca y a h x Z nx sz (by omega) 2 (by omega)) ml_L_12 zy_X6_count im_X6_count se_X6_count ⟨Nat.le_of_ble_eq_true rfl, Nat.le_of_ble_eq_true rfl⟩ hK hP [0, 1, 2, 3, 4, 5, 6, 7, 8, 9, 10, 11, 12] rfl rfl rfl rfl rfl hl.1 rfl (Nat.le_of_ble_eq_true rfl) ⟨Nat.zero_le _, Nat.zero_le _⟩ dL_holds_427 ?_
  rw [zCo_2]
  refine lv_icmp_ne (tgt := 497) hx hb dL_holds_430 (by decide) (fun h => False.elim (by exact h rfl)) (fun c_430_2 => ?_)
  refine lv_iload hx hb dL_holds_433 (lv_at hl 5 rfl) ?_
  refine lv_aload_n hx hb dL_holds_435 rfl (lv_at hl 0 rfl) ?_
  refine lv_iconst (v := 3) hx hb dL_holds_436 (by decide) ?_
  refine zcr (As := [.int 3]) (rest := [.int (zVn Z.1 24 0 Z.1.2.2.2.2.1)]) (q0 := 0) S (c_X6_count_C l D ca y a h x Z nx sz (by omega) 3 (by omega)) ml_L_12 zy_X6_count im_X6_count se_X6_count ⟨Nat.le_of_ble_eq_true rfl, Nat.le_of_ble_eq_true rfl⟩ hK hP [0, 1, 2, 3, 4, 5, 6, 7, 8, 9, 10, 11, 12] rfl rfl rfl rfl rfl hl.1 rfl (Nat.le_of_ble_eq_true rfl) ⟨Nat.zero_le _, Nat.zero_le _⟩ dL_holds_437 ?_
  rw [zCo_3]
  refine lv_icmp_ne (tgt := 497) hx hb dL_holds_440 (by decide) (fun h => False.elim (by exact h rfl)) (fun c_440_3 => ?_)
  refine lv_iload hx hb dL_holds_443 (lv_at hl 6 rfl) ?_
  refine lv_aload_n hx hb dL_holds_445 rfl (lv_at hl 0 rfl) ?_
  refine lv_iconst (v := 5) hx hb dL_holds_446 (by decide) ?_
  refine zcr (As := [.int 5]) (rest := [.int (zMp Z.1)]) (q0 := 0) S (c_X6_count_C l D ca y a h x Z nx sz (by omega) 5 (by omega)) ml_L_12 zy_X6_count im_X6_count se_X6_count ⟨Nat.le_of_ble_eq_true rfl, Nat.le_of_ble_eq_true rfl⟩ hK hP [0, 1, 2, 3, 4, 5, 6, 7, 8, 9, 10, 11, 12] rfl rfl rfl rfl rfl hl.1 rfl (Nat.le_of_ble_eq_true rfl) ⟨Nat.zero_le _, Nat.zero_le _⟩ dL_holds_447 ?_
  rw [zCo_5]
  refine lv_icmp_ne (tgt := 497) hx hb dL_holds_450 (by decide) (fun h => False.elim (by exact h rfl)) (fun c_450_4 => ?_)
  refine lv_aload_n hx hb dL_holds_453 rfl (lv_at hl 0 rfl) ?_
  refine lv_iconst (v := 2) hx hb dL_holds_454 (by decide) ?_
  refine zcr (As := [.int 2]) (rest := []) (q0 := 0) S (c_X6_count_C l D ca y a h x Z nx sz (by omega) 2 (by omega)) ml_L_12 zy_X6_count im_X6_count se_X6_count ⟨Nat.le_of_ble_eq_true rfl, Nat.le_of_ble_eq_true rfl⟩ hK hP [0, 1, 2, 3, 4, 5, 6, 7, 8, 9, 10, 11, 12] rfl rfl rfl rfl rfl hl.1 rfl (Nat.le_of_ble_eq_true rfl) ⟨Nat.zero_le _, Nat.zero_le _⟩ dL_holds_455 ?_
  rw [zCo_2]
  refine lv_aload_n hx hb dL_holds_458 rfl (lv_at hl 0 rfl) ?_
  refine lv_iconst (v := 4) hx hb dL_holds_459 (by decide) ?_
  refine zcr (As := [.int 4]) (rest := [.int (zVs Z.1 24 0)]) (q0 := 0) S (c_X6_count_C l D ca y a h x Z nx sz (by omega) 4 (by omega)) ml_L_12 zy_X6_count im_X6_count se_X6_count ⟨Nat.le_of_ble_eq_true rfl, Nat.le_of_ble_eq_true rfl⟩ hK hP [0, 1, 2, 3, 4, 5, 6, 7, 8, 9, 10, 11, 12] rfl rfl rfl rfl rfl hl.1 rfl (Nat.le_of_ble_eq_true rfl) ⟨Nat.zero_le _, Nat.zero_le _⟩ dL_holds_460 ?_
  rw [zCo_4]
  refine lv_iadd hx hb dL_holds_463 ?_
  refine lv_bipush (v := 24) hx hb dL_holds_464 (by decide) ?_
  refine lv_icmp_ne (tgt := 497) hx hb dL_holds_466 (by decide) (fun h => False.elim (by exact h (vs24 _))) (fun c_466_5 => ?_)
  refine lv_aload_n hx hb dL_holds_469 rfl (lv_at hl 0 rfl) ?_
  refine lv_bipush (v := 9) hx hb dL_holds_470 (by decide) ?_
  refine zcr (As := [.int 9]) (rest := []) (q0 := 0) S (c_X6_count_C l D ca y a h x Z nx sz (by omega) 9 (by omega)) ml_L_12 zy_X6_count im_X6_count se_X6_count ⟨Nat.le_of_ble_eq_true rfl, Nat.le_of_ble_eq_true rfl⟩ hK hP [0, 1, 2, 3, 4, 5, 6, 7, 8, 9, 10, 11, 12] rfl rfl rfl rfl rfl hl.1 rfl (Nat.le_of_ble_eq_true rfl) ⟨Nat.zero_le _, Nat.zero_le _⟩ dL_holds_472 ?_
  rw [zCo_9]
  refine lv_if_ne (tgt := 497) hx hb dL_holds_475 (by decide) (fun h => False.elim (by exact h (hI_tl hI))) (fun c_475_6 => ?_)
  refine lv_aload_n hx hb dL_holds_478 rfl (lv_at hl 0 rfl) ?_
  refine zcr (As := []) (rest := []) (q0 := 0) S (c_X6_marked l D ca y a h x Z hok) ml_L_63 zy_X6_marked im_X6_marked se_X6_marked ⟨Nat.le_of_ble_eq_true rfl, Nat.le_of_ble_eq_true rfl⟩ hK hP [0, 2, 3, 4, 5, 6, 7, 8, 9, 10, 11, 12] rfl rfl rfl rfl rfl hl.1 rfl (Nat.le_of_ble_eq_true rfl) ⟨Nat.zero_le _, Nat.zero_le _⟩ dL_holds_479 ?_
  refine lv_iload hx hb dL_holds_482 (lv_at hl 6 rfl) ?_
  refine lv_i2d hx hb dL_holds_484 ?_
  refine lv_ldc2d (v := 4618441417868443648) hx hb S.2.2.2.1 (S.2.2.2.2 _ kc_L_67) dL_holds_485 ?_
  refine lv_ddiv hx hb dL_holds_488 (by exact hok.1) ?_
  refine lv_dcmp hx hb dL_holds_489 ?_
  rw [show Op.cmpValue (FP.dcmp (zSh (zMp Z.1)) (FP.ddiv (FP.i2d (zMp Z.1)) 4618441417868443648)) CmpOp.l = 0 from hok.2]
  refine lv_if_ne (tgt := 497) hx hb dL_holds_490 (by decide) (fun h => absurd (by decide) h) (fun _ => ?_)
  refine lv_iconst (v := 1) hx hb dL_holds_493 (by decide) ?_
  refine lv_goto (tgt := 498) hx hb dL_holds_494 (by decide) ?_
  exact zr_z hx hb hr hlk (by rfl) dL_holds_498
set_option maxHeartbeats 4000000 in
set_option maxRecDepth 100000 in
theorem h_L_holds_3 (l : Launch) (D : va_G) (ca : Nat → ClassId) (y a h x : Nat → Nat) (Z : zSt) (nx sz : Nat) (hsz : sz ≤ 6) (B : Nat) (hI : zIv Z B) (w : Int32) (hok : zOk (zSh (zMp Z.1))) (p : Program) (e : Env) (s : State) (m : MethodId) (args : Array Value) (below : List Frame) (meth : Method) (c : Code) (ls : Array Slot) (S : CallFix p m c cL_holds 9 s args wAll RL) (hr : meth.sig.returnType = (some .boolean)) (hlk : meth.locks = false) (hP : va_P D vwCl [(y 0, .inr (6, [.ref (a 0), .ref (h 0), .ref (x 0)])), (h 0, .inr (1, [.ref (h 1), .int (nI nx), .int (nI sz)])), (a 0, .inr (2, [.ref (a 1), .ref (a 6), .ref (a 9)])), (a 1, .inr (3, [.ref (a 2), .ref (a 3), .ref (a 4), .ref (a 5), .int Z.1.2.2.2.2.1, .int Z.1.2.2.2.2.2])), (a 2, .inl (ca 0, 24, .inl Z.1.1)), (a 3, .inl (ca 0, 24, .inl Z.1.2.1)), (a 4, .inl (ca 0, 24, .inl Z.1.2.2.1)), (a 5, .inl (ca 0, 6, .inl Z.1.2.2.2.1)), (a 6, .inr (0, [.ref (a 7), .ref (a 8)])), (a 7, .inl (ca 0, 4, .inl Z.2.1.1)), (a 8, .inl (ca 0, 4, .inl Z.2.1.2)), (a 9, .inr (4, [.ref (a 10), .int Z.2.2.2.1, .int Z.2.2.2.2])), (a 10, .inl (ca 0, 3, .inl Z.2.2.1))] s.heap) (hK : zK D ca s) (hl : lv_has ls 9 [(0, .ref (y 0)), (1, .int w), (2, .int Z.1.2.2.2.2.1), (3, .int (zHor Z)), (4, .int (zVs Z.1 24 0)), (5, .int (zVn Z.1 24 0 Z.1.2.2.2.2.1)), (6, .int (zMp Z.1))]) : W p l e { frames := 4, cells := 0, slots := 0, locals := 94 } s m args below meth c s.heap [] 0 0 (MQ below (zQr (.int (zb true))) args s 0 0 (fun _ => False)) (F0 m 300 ls []) := by
  have hx := S.1
  have hb := S.2.1
  refine lv_iconst (v := 0) hx hb dL_holds_300 (by decide) ?_
  refine lv_istore (lv' := [(7, .int 0), (0, .ref (y 0)), (1, .int w), (2, .int Z.1.2.2.2.2.1), (3, .int (zHor Z)), (4, .int (zVs Z.1 24 0)), (5, .int (zVn Z.1 24 0 Z.1.2.2.2.2.1)), (6, .int (zMp Z.1))]) hx hb dL_holds_301 hl (by decide) rfl (fun ls hl => ?_)
  have loop_0 : ∀ (f : Nat) (k : Nat) (ls : Array Slot), k + f = 24 → lv_has ls 9 [(0, .ref (y 0)), (1, .int w), (2, .int Z.1.2.2.2.2.1), (3, .int (zHor Z)), (4, .int (zVs Z.1 24 0)), (5, .int (zVn Z.1 24 0 Z.1.2.2.2.2.1)), (6, .int (zMp Z.1)), (7, .int (nI k))] → W p l e { frames := 4, cells := 0, slots := 0, locals := 94 } s m args below meth c s.heap [] 0 0 (MQ below (zQr (.int (zb true))) args s 0 0 (fun _ => False)) (F0 m 303 ls []) := by
    intro f
    induction f with
    | zero =>
      intro k ls j1 hl
      refine lv_iload hx hb dL_holds_303 (lv_at hl 7 rfl) ?_
      refine lv_bipush (v := 24) hx hb dL_holds_305 (by decide) ?_
      refine zn_ge hx hb (x := k) (y := 24) (by omega) (by omega) (tgt := 414) dL_holds_307 (by decide) (fun c_307_2 => ?_) (fun h => False.elim (by omega))
      exact h_L_holds_4 l D ca y a h x Z nx sz hsz B hI w hok p e s m args below meth c ls S hr hlk hP hK (lv_sub hl [0, 1, 2, 3, 4, 5, 6] rfl)
    | succ f ih =>
      intro k ls j1 hl
      refine lv_iload hx hb dL_holds_303 (lv_at hl 7 rfl) ?_
      refine lv_bipush (v := 24) hx hb dL_holds_305 (by decide) ?_
      refine zn_ge hx hb (x := k) (y := 24) (by omega) (by omega) (tgt := 414) dL_holds_307 (by decide) (fun h => False.elim (by omega)) (fun c_307_3 => ?_)
      refine lv_aload_n hx hb dL_holds_310 rfl (lv_at hl 0 rfl) ?_
      refine lv_iload hx hb dL_holds_311 (lv_at hl 7 rfl) ?_
      refine lv_iconst (v := 2) hx hb dL_holds_313 (by decide) ?_
      refine zcr (As := [.int (nI k), .int 2]) (rest := []) (q0 := 0) S (c_X6_slot_C l D ca y a h x Z k 2 (by omega) (by omega)) ml_L_18 zy_X6_slot im_X6_slot se_X6_slot ⟨Nat.le_of_ble_eq_true rfl, Nat.le_of_ble_eq_true rfl⟩ hK hP [0, 2, 3, 4, 5, 6, 7, 8, 9, 10, 11, 12] rfl rfl rfl rfl rfl hl.1 rfl (Nat.le_of_ble_eq_true rfl) ⟨Nat.zero_le _, Nat.zero_le _⟩ dL_holds_314 ?_
      rw [zSl_2]
      refine lv_istore (lv' := [(8, .int (Z.1.2.2.1 k)), (0, .ref (y 0)), (1, .int w), (2, .int Z.1.2.2.2.2.1), (3, .int (zHor Z)), (4, .int (zVs Z.1 24 0)), (5, .int (zVn Z.1 24 0 Z.1.2.2.2.2.1)), (6, .int (zMp Z.1)), (7, .int (nI k))]) hx hb dL_holds_317 hl (by decide) rfl (fun ls hl => ?_)
      refine lv_aload_n hx hb dL_holds_319 rfl (lv_at hl 1 rfl) ?_
      refine lv_iload hx hb dL_holds_320 (lv_at hl 8 rfl) ?_
      refine lv_iconst (v := 0) hx hb dL_holds_322 (by decide) ?_
      refine zcr (As := [.int (nI k), .int 0]) (rest := []) (q0 := 0) S (c_X6_slot_C l D ca y a h x Z k 0 (by omega) (by omega)) ml_L_18 zy_X6_slot im_X6_slot se_X6_slot ⟨Nat.le_of_ble_eq_true rfl, Nat.le_of_ble_eq_true rfl⟩ hK hP [0, 2, 3, 4, 5, 6, 7, 8, 9, 10, 11, 12] rfl rfl rfl rfl rfl hl.1 rfl (Nat.le_of_ble_eq_true rfl) ⟨Nat.zero_le _, Nat.zero_le _⟩ dL_holds_323 ?_
      rw [zSl_0]
      refine lv_iconst (v := (-1)) hx hb dL_holds_326 (by decide) ?_
      refine lv_icmp_ne (tgt := 334) hx hb dL_holds_327 (by decide) (fun c_327_4 => ?_) (fun c_327_4 => ?_)
      · refine lv_iconst (v := 0) hx hb dL_holds_334 (by decide) ?_
        refine lv_iload hx hb dL_holds_335 (lv_at hl 0 rfl) ?_
        refine lv_iconst (v := (-1)) hx hb dL_holds_337 (by decide) ?_
        refine lv_icmp_ne (tgt := 345) hx hb dL_holds_338 (by decide) (fun c_338_5 => ?_) (fun h => False.elim (by exact sl_w2 hI (by omega) c_327_4 h))
        refine lv_iconst (v := 0) hx hb dL_holds_345 (by decide) ?_
        refine lv_icmp_ne (tgt := 406) hx hb dL_holds_346 (by decide) (fun h => absurd (by decide) h) (fun _ => ?_)
        refine lv_iload hx hb dL_holds_349 (lv_at hl 0 rfl) ?_
        refine lv_if_le (tgt := 366) hx hb dL_holds_351 (by decide) (fun c_351_6 => ?_) (fun c_351_6 => ?_)
        · refine lv_aload_n hx hb dL_holds_366 rfl (lv_at hl 1 rfl) ?_
          refine lv_iload hx hb dL_holds_367 (lv_at hl 8 rfl) ?_
          refine lv_iconst (v := 1) hx hb dL_holds_369 (by decide) ?_
          refine zcr (As := [.int (nI k), .int 1]) (rest := []) (q0 := 0) S (c_X6_slot_C l D ca y a h x Z k 1 (by omega) (by omega)) ml_L_18 zy_X6_slot im_X6_slot se_X6_slot ⟨Nat.le_of_ble_eq_true rfl, Nat.le_of_ble_eq_true rfl⟩ hK hP [0, 2, 3, 4, 5, 6, 7, 8, 9, 10, 11, 12] rfl rfl rfl rfl rfl hl.1 rfl (Nat.le_of_ble_eq_true rfl) ⟨Nat.zero_le _, Nat.zero_le _⟩ dL_holds_370 ?_
          rw [zSl_1]
          refine lv_iload_n hx hb dL_holds_373 rfl (lv_at hl 3 rfl) ?_
          refine lv_icmp_gt (tgt := 406) hx hb dL_holds_374 (by decide) (fun h => False.elim (by exact absurd h (sl_k hI (by omega)))) (fun c_374_7 => ?_)
          refine lv_aload_n hx hb dL_holds_377 rfl (lv_at hl 1 rfl) ?_
          refine lv_iload hx hb dL_holds_378 (lv_at hl 8 rfl) ?_
          refine lv_iconst (v := 3) hx hb dL_holds_380 (by decide) ?_
          refine zcr (As := [.int (nI k), .int 3]) (rest := []) (q0 := 0) S (c_X6_slot_C l D ca y a h x Z k 3 (by omega) (by omega)) ml_L_18 zy_X6_slot im_X6_slot se_X6_slot ⟨Nat.le_of_ble_eq_true rfl, Nat.le_of_ble_eq_true rfl⟩ hK hP [0, 2, 3, 4, 5, 6, 7, 8, 9, 10, 11, 12] rfl rfl rfl rfl rfl hl.1 rfl (Nat.le_of_ble_eq_true rfl) ⟨Nat.zero_le _, Nat.zero_le _⟩ dL_holds_381 ?_
          rw [zSl_3]
          refine lv_iconst (v := 1) hx hb dL_holds_384 (by decide) ?_
          refine lv_icmp_ne (tgt := 392) hx hb dL_holds_385 (by decide) (fun c_385_8 => ?_) (fun c_385_8 => ?_)
          · refine lv_iconst (v := 0) hx hb dL_holds_392 (by decide) ?_
            refine lv_iload hx hb dL_holds_393 (lv_at hl 0 rfl) ?_
            refine lv_if_ne (tgt := 402) hx hb dL_holds_395 (by decide) (fun c_395_9 => ?_) (fun h => False.elim (by exact c_385_8 (zb_t (sl_s2 hI (by omega) h))))
            refine lv_iconst (v := 0) hx hb dL_holds_402 (by decide) ?_
            refine lv_icmp_eq (tgt := 408) hx hb dL_holds_403 (by decide) (fun _ => ?_) (fun h => absurd (by decide) h)
            refine lv_iinc (v := nI (k + 1)) (lv' := [(7, .int (nI (k + 1))), (8, .int (Z.1.2.2.1 k)), (0, .ref (y 0)), (1, .int w), (2, .int Z.1.2.2.2.2.1), (3, .int (zHor Z)), (4, .int (zVs Z.1 24 0)), (5, .int (zVn Z.1 24 0 Z.1.2.2.2.2.1)), (6, .int (zMp Z.1))]) hx hb dL_holds_408 hl (k := 8) rfl (zinc k 1) (by decide) rfl (fun ls hl => ?_)
            refine lv_goto (tgt := 303) hx hb dL_holds_411 (by decide) ?_
            exact ih (k + 1) ls (by omega) (lv_sub hl [2, 3, 4, 5, 6, 7, 8, 0] rfl)
          · refine lv_iconst (v := 1) hx hb dL_holds_388 (by decide) ?_
            refine lv_goto (tgt := 393) hx hb dL_holds_389 (by decide) ?_
            refine lv_iload hx hb dL_holds_393 (lv_at hl 0 rfl) ?_
            refine lv_if_ne (tgt := 402) hx hb dL_holds_395 (by decide) (fun h => False.elim (by exact h (sl_s hI (by omega) (zb_1 c_385_8)))) (fun c_395_10 => ?_)
            refine lv_iconst (v := 1) hx hb dL_holds_398 (by decide) ?_
            refine lv_goto (tgt := 403) hx hb dL_holds_399 (by decide) ?_
            refine lv_icmp_eq (tgt := 408) hx hb dL_holds_403 (by decide) (fun _ => ?_) (fun h => absurd (by decide) h)
            refine lv_iinc (v := nI (k + 1)) (lv' := [(7, .int (nI (k + 1))), (8, .int (Z.1.2.2.1 k)), (0, .ref (y 0)), (1, .int w), (2, .int Z.1.2.2.2.2.1), (3, .int (zHor Z)), (4, .int (zVs Z.1 24 0)), (5, .int (zVn Z.1 24 0 Z.1.2.2.2.2.1)), (6, .int (zMp Z.1))]) hx hb dL_holds_408 hl (k := 8) rfl (zinc k 1) (by decide) rfl (fun ls hl => ?_)
            refine lv_goto (tgt := 303) hx hb dL_holds_411 (by decide) ?_
            exact ih (k + 1) ls (by omega) (lv_sub hl [2, 3, 4, 5, 6, 7, 8, 0] rfl)
        · refine lv_iload hx hb dL_holds_354 (lv_at hl 0 rfl) ?_
          refine lv_aload_n hx hb dL_holds_356 rfl (lv_at hl 1 rfl) ?_
          refine lv_iload hx hb dL_holds_357 (lv_at hl 8 rfl) ?_
          refine lv_iconst (v := 1) hx hb dL_holds_359 (by decide) ?_
          refine zcr (As := [.int (nI k), .int 1]) (rest := [.int (Z.1.2.2.1 k)]) (q0 := 0) S (c_X6_slot_C l D ca y a h x Z k 1 (by omega) (by omega)) ml_L_18 zy_X6_slot im_X6_slot se_X6_slot ⟨Nat.le_of_ble_eq_true rfl, Nat.le_of_ble_eq_true rfl⟩ hK hP [0, 2, 3, 4, 5, 6, 7, 8, 9, 10, 11, 12] rfl rfl rfl rfl rfl hl.1 rfl (Nat.le_of_ble_eq_true rfl) ⟨Nat.zero_le _, Nat.zero_le _⟩ dL_holds_360 ?_
          rw [zSl_1]
          refine lv_icmp_le (tgt := 406) hx hb dL_holds_363 (by decide) (fun h => False.elim (by exact sl_c hI (by omega) (by assumption) h)) (fun c_363_11 => ?_)
          refine lv_aload_n hx hb dL_holds_366 rfl (lv_at hl 1 rfl) ?_
          refine lv_iload hx hb dL_holds_367 (lv_at hl 8 rfl) ?_
          refine lv_iconst (v := 1) hx hb dL_holds_369 (by decide) ?_
          refine zcr (As := [.int (nI k), .int 1]) (rest := []) (q0 := 0) S (c_X6_slot_C l D ca y a h x Z k 1 (by omega) (by omega)) ml_L_18 zy_X6_slot im_X6_slot se_X6_slot ⟨Nat.le_of_ble_eq_true rfl, Nat.le_of_ble_eq_true rfl⟩ hK hP [0, 2, 3, 4, 5, 6, 7, 8, 9, 10, 11, 12] rfl rfl rfl rfl rfl hl.1 rfl (Nat.le_of_ble_eq_true rfl) ⟨Nat.zero_le _, Nat.zero_le _⟩ dL_holds_370 ?_
          rw [zSl_1]
          refine lv_iload_n hx hb dL_holds_373 rfl (lv_at hl 3 rfl) ?_
          refine lv_icmp_gt (tgt := 406) hx hb dL_holds_374 (by decide) (fun h => False.elim (by exact absurd h (sl_k hI (by omega)))) (fun c_374_12 => ?_)
          refine lv_aload_n hx hb dL_holds_377 rfl (lv_at hl 1 rfl) ?_
          refine lv_iload hx hb dL_holds_378 (lv_at hl 8 rfl) ?_
          refine lv_iconst (v := 3) hx hb dL_holds_380 (by decide) ?_
          refine zcr (As := [.int (nI k), .int 3]) (rest := []) (q0 := 0) S (c_X6_slot_C l D ca y a h x Z k 3 (by omega) (by omega)) ml_L_18 zy_X6_slot im_X6_slot se_X6_slot ⟨Nat.le_of_ble_eq_true rfl, Nat.le_of_ble_eq_true rfl⟩ hK hP [0, 2, 3, 4, 5, 6, 7, 8, 9, 10, 11, 12] rfl rfl rfl rfl rfl hl.1 rfl (Nat.le_of_ble_eq_true rfl) ⟨Nat.zero_le _, Nat.zero_le _⟩ dL_holds_381 ?_
          rw [zSl_3]
          refine lv_iconst (v := 1) hx hb dL_holds_384 (by decide) ?_
          refine lv_icmp_ne (tgt := 392) hx hb dL_holds_385 (by decide) (fun c_385_13 => ?_) (fun c_385_13 => ?_)
          · refine lv_iconst (v := 0) hx hb dL_holds_392 (by decide) ?_
            refine lv_iload hx hb dL_holds_393 (lv_at hl 0 rfl) ?_
            refine lv_if_ne (tgt := 402) hx hb dL_holds_395 (by decide) (fun c_395_14 => ?_) (fun h => False.elim (by exact c_385_13 (zb_t (sl_s2 hI (by omega) h))))
            refine lv_iconst (v := 0) hx hb dL_holds_402 (by decide) ?_
            refine lv_icmp_eq (tgt := 408) hx hb dL_holds_403 (by decide) (fun _ => ?_) (fun h => absurd (by decide) h)
            refine lv_iinc (v := nI (k + 1)) (lv' := [(7, .int (nI (k + 1))), (8, .int (Z.1.2.2.1 k)), (0, .ref (y 0)), (1, .int w), (2, .int Z.1.2.2.2.2.1), (3, .int (zHor Z)), (4, .int (zVs Z.1 24 0)), (5, .int (zVn Z.1 24 0 Z.1.2.2.2.2.1)), (6, .int (zMp Z.1))]) hx hb dL_holds_408 hl (k := 8) rfl (zinc k 1) (by decide) rfl (fun ls hl => ?_)
            refine lv_goto (tgt := 303) hx hb dL_holds_411 (by decide) ?_
            exact ih (k + 1) ls (by omega) (lv_sub hl [2, 3, 4, 5, 6, 7, 8, 0] rfl)
          · refine lv_iconst (v := 1) hx hb dL_holds_388 (by decide) ?_
            refine lv_goto (tgt := 393) hx hb dL_holds_389 (by decide) ?_
            refine lv_iload hx hb dL_holds_393 (lv_at hl 0 rfl) ?_
            refine lv_if_ne (tgt := 402) hx hb dL_holds_395 (by decide) (fun h => False.elim (by exact h (sl_s hI (by omega) (zb_1 c_385_13)))) (fun c_395_15 => ?_)
            refine lv_iconst (v := 1) hx hb dL_holds_398 (by decide) ?_
            refine lv_goto (tgt := 403) hx hb dL_holds_399 (by decide) ?_
            refine lv_icmp_eq (tgt := 408) hx hb dL_holds_403 (by decide) (fun _ => ?_) (fun h => absurd (by decide) h)
            refine lv_iinc (v := nI (k + 1)) (lv' := [(7, .int (nI (k + 1))), (8, .int (Z.1.2.2.1 k)), (0, .ref (y 0)), (1, .int w), (2, .int Z.1.2.2.2.2.1), (3, .int (zHor Z)), (4, .int (zVs Z.1 24 0)), (5, .int (zVn Z.1 24 0 Z.1.2.2.2.2.1)), (6, .int (zMp Z.1))]) hx hb dL_holds_408 hl (k := 8) rfl (zinc k 1) (by decide) rfl (fun ls hl => ?_)
            refine lv_goto (tgt := 303) hx hb dL_holds_411 (by decide) ?_
            exact ih (k + 1) ls (by omega) (lv_sub hl [2, 3, 4, 5, 6, 7, 8, 0] rfl)
      · refine lv_iconst (v := 1) hx hb dL_holds_330 (by decide) ?_
        refine lv_goto (tgt := 335) hx hb dL_holds_331 (by decide) ?_
        refine lv_iload hx hb dL_holds_335 (lv_at hl 0 rfl) ?_
        refine lv_iconst (v := (-1)) hx hb dL_holds_337 (by decide) ?_
        refine lv_icmp_ne (tgt := 345) hx hb dL_holds_338 (by decide) (fun h => False.elim (by exact h (sl_w hI (by omega) c_327_4))) (fun c_338_16 => ?_)
        refine lv_iconst (v := 1) hx hb dL_holds_341 (by decide) ?_
        refine lv_goto (tgt := 346) hx hb dL_holds_342 (by decide) ?_
        refine lv_icmp_ne (tgt := 406) hx hb dL_holds_346 (by decide) (fun h => absurd (by decide) h) (fun _ => ?_)
        refine lv_iload hx hb dL_holds_349 (lv_at hl 0 rfl) ?_
        refine lv_if_le (tgt := 366) hx hb dL_holds_351 (by decide) (fun c_351_17 => ?_) (fun c_351_17 => ?_)
        · refine lv_aload_n hx hb dL_holds_366 rfl (lv_at hl 1 rfl) ?_
          refine lv_iload hx hb dL_holds_367 (lv_at hl 8 rfl) ?_
          refine lv_iconst (v := 1) hx hb dL_holds_369 (by decide) ?_
          refine zcr (As := [.int (nI k), .int 1]) (rest := []) (q0 := 0) S (c_X6_slot_C l D ca y a h x Z k 1 (by omega) (by omega)) ml_L_18 zy_X6_slot im_X6_slot se_X6_slot ⟨Nat.le_of_ble_eq_true rfl, Nat.le_of_ble_eq_true rfl⟩ hK hP [0, 2, 3, 4, 5, 6, 7, 8, 9, 10, 11, 12] rfl rfl rfl rfl rfl hl.1 rfl (Nat.le_of_ble_eq_true rfl) ⟨Nat.zero_le _, Nat.zero_le _⟩ dL_holds_370 ?_
          rw [zSl_1]
          refine lv_iload_n hx hb dL_holds_373 rfl (lv_at hl 3 rfl) ?_
          refine lv_icmp_gt (tgt := 406) hx hb dL_holds_374 (by decide) (fun h => False.elim (by exact absurd h (sl_k hI (by omega)))) (fun c_374_18 => ?_)
          refine lv_aload_n hx hb dL_holds_377 rfl (lv_at hl 1 rfl) ?_
          refine lv_iload hx hb dL_holds_378 (lv_at hl 8 rfl) ?_
          refine lv_iconst (v := 3) hx hb dL_holds_380 (by decide) ?_
          refine zcr (As := [.int (nI k), .int 3]) (rest := []) (q0 := 0) S (c_X6_slot_C l D ca y a h x Z k 3 (by omega) (by omega)) ml_L_18 zy_X6_slot im_X6_slot se_X6_slot ⟨Nat.le_of_ble_eq_true rfl, Nat.le_of_ble_eq_true rfl⟩ hK hP [0, 2, 3, 4, 5, 6, 7, 8, 9, 10, 11, 12] rfl rfl rfl rfl rfl hl.1 rfl (Nat.le_of_ble_eq_true rfl) ⟨Nat.zero_le _, Nat.zero_le _⟩ dL_holds_381 ?_
          rw [zSl_3]
          refine lv_iconst (v := 1) hx hb dL_holds_384 (by decide) ?_
          refine lv_icmp_ne (tgt := 392) hx hb dL_holds_385 (by decide) (fun c_385_19 => ?_) (fun c_385_19 => ?_)
          · refine lv_iconst (v := 0) hx hb dL_holds_392 (by decide) ?_
            refine lv_iload hx hb dL_holds_393 (lv_at hl 0 rfl) ?_
            refine lv_if_ne (tgt := 402) hx hb dL_holds_395 (by decide) (fun c_395_20 => ?_) (fun h => False.elim (by exact c_385_19 (zb_t (sl_s2 hI (by omega) h))))
            refine lv_iconst (v := 0) hx hb dL_holds_402 (by decide) ?_
            refine lv_icmp_eq (tgt := 408) hx hb dL_holds_403 (by decide) (fun _ => ?_) (fun h => absurd (by decide) h)
            refine lv_iinc (v := nI (k + 1)) (lv' := [(7, .int (nI (k + 1))), (8, .int (Z.1.2.2.1 k)), (0, .ref (y 0)), (1, .int w), (2, .int Z.1.2.2.2.2.1), (3, .int (zHor Z)), (4, .int (zVs Z.1 24 0)), (5, .int (zVn Z.1 24 0 Z.1.2.2.2.2.1)), (6, .int (zMp Z.1))]) hx hb dL_holds_408 hl (k := 8) rfl (zinc k 1) (by decide) rfl (fun ls hl => ?_)
            refine lv_goto (tgt := 303) hx hb dL_holds_411 (by decide) ?_
            exact ih (k + 1) ls (by omega) (lv_sub hl [2, 3, 4, 5, 6, 7, 8, 0] rfl)
          · refine lv_iconst (v := 1) hx hb dL_holds_388 (by decide) ?_
            refine lv_goto (tgt := 393) hx hb dL_holds_389 (by decide) ?_
            refine lv_iload hx hb dL_holds_393 (lv_at hl 0 rfl) ?_
            refine lv_if_ne (tgt := 402) hx hb dL_holds_395 (by decide) (fun h => False.elim (by exact h (sl_s hI (by omega) (zb_1 c_385_19)))) (fun c_395_21 => ?_)
            refine lv_iconst (v := 1) hx hb dL_holds_398 (by decide) ?_
            refine lv_goto (tgt := 403) hx hb dL_holds_399 (by decide) ?_
            refine lv_icmp_eq (tgt := 408) hx hb dL_holds_403 (by decide) (fun _ => ?_) (fun h => absurd (by decide) h)
            refine lv_iinc (v := nI (k + 1)) (lv' := [(7, .int (nI (k + 1))), (8, .int (Z.1.2.2.1 k)), (0, .ref (y 0)), (1, .int w), (2, .int Z.1.2.2.2.2.1), (3, .int (zHor Z)), (4, .int (zVs Z.1 24 0)), (5, .int (zVn Z.1 24 0 Z.1.2.2.2.2.1)), (6, .int (zMp Z.1))]) hx hb dL_holds_408 hl (k := 8) rfl (zinc k 1) (by decide) rfl (fun ls hl => ?_)
            refine lv_goto (tgt := 303) hx hb dL_holds_411 (by decide) ?_
            exact ih (k + 1) ls (by omega) (lv_sub hl [2, 3, 4, 5, 6, 7, 8, 0] rfl)
        · refine lv_iload hx hb dL_holds_354 (lv_at hl 0 rfl) ?_
          refine lv_aload_n hx hb dL_holds_356 rfl (lv_at hl 1 rfl) ?_
          refine lv_iload hx hb dL_holds_357 (lv_at hl 8 rfl) ?_
          refine lv_iconst (v := 1) hx hb dL_holds_359 (by decide) ?_
          refine zcr (As := [.int (nI k), .int 1]) (rest := [.int (Z.1.2.2.1 k)]) (q0 := 0) S (c_X6_slot_C l D ca y a h x Z k 1 (by omega) (by omega)) ml_L_18 zy_X6_slot im_X6_slot se_X6_slot ⟨Nat.le_of_ble_eq_true rfl, Nat.le_of_ble_eq_true rfl⟩ hK hP [0, 2, 3, 4, 5, 6, 7, 8, 9, 10, 11, 12] rfl rfl rfl rfl rfl hl.1 rfl (Nat.le_of_ble_eq_true rfl) ⟨Nat.zero_le _, Nat.zero_le _⟩ dL_holds_360 ?_
          rw [zSl_1]
          refine lv_icmp_le (tgt := 406) hx hb dL_holds_363 (by decide) (fun h => False.elim (by exact sl_c hI (by omega) (by assumption) h)) (fun c_363_22 => ?_)
          refine lv_aload_n hx hb dL_holds_366 rfl (lv_at hl 1 rfl) ?_
          refine lv_iload hx hb dL_holds_367 (lv_at hl 8 rfl) ?_
          refine lv_iconst (v := 1) hx hb dL_holds_369 (by decide) ?_
          refine zcr (As := [.int (nI k), .int 1]) (rest := []) (q0 := 0) S (c_X6_slot_C l D ca y a h x Z k 1 (by omega) (by omega)) ml_L_18 zy_X6_slot im_X6_slot se_X6_slot ⟨Nat.le_of_ble_eq_true rfl, Nat.le_of_ble_eq_true rfl⟩ hK hP [0, 2, 3, 4, 5, 6, 7, 8, 9, 10, 11, 12] rfl rfl rfl rfl rfl hl.1 rfl (Nat.le_of_ble_eq_true rfl) ⟨Nat.zero_le _, Nat.zero_le _⟩ dL_holds_370 ?_
          rw [zSl_1]
          refine lv_iload_n hx hb dL_holds_373 rfl (lv_at hl 3 rfl) ?_
          refine lv_icmp_gt (tgt := 406) hx hb dL_holds_374 (by decide) (fun h => False.elim (by exact absurd h (sl_k hI (by omega)))) (fun c_374_23 => ?_)
          refine lv_aload_n hx hb dL_holds_377 rfl (lv_at hl 1 rfl) ?_
          refine lv_iload hx hb dL_holds_378 (lv_at hl 8 rfl) ?_
          refine lv_iconst (v := 3) hx hb dL_holds_380 (by decide) ?_
          refine zcr (As := [.int (nI k), .int 3]) (rest := []) (q0 := 0) S (c_X6_slot_C l D ca y a h x Z k 3 (by omega) (by omega)) ml_L_18 zy_X6_slot im_X6_slot se_X6_slot ⟨Nat.le_of_ble_eq_true rfl, Nat.le_of_ble_eq_true rfl⟩ hK hP [0, 2, 3, 4, 5, 6, 7, 8, 9, 10, 11, 12] rfl rfl rfl rfl rfl hl.1 rfl (Nat.le_of_ble_eq_true rfl) ⟨Nat.zero_le _, Nat.zero_le _⟩ dL_holds_381 ?_
          rw [zSl_3]
          refine lv_iconst (v := 1) hx hb dL_holds_384 (by decide) ?_
          refine lv_icmp_ne (tgt := 392) hx hb dL_holds_385 (by decide) (fun c_385_24 => ?_) (fun c_385_24 => ?_)
          · refine lv_iconst (v := 0) hx hb dL_holds_392 (by decide) ?_
            refine lv_iload hx hb dL_holds_393 (lv_at hl 0 rfl) ?_
            refine lv_if_ne (tgt := 402) hx hb dL_holds_395 (by decide) (fun c_395_25 => ?_) (fun h => False.elim (by exact c_385_24 (zb_t (sl_s2 hI (by omega) h))))
            refine lv_iconst (v := 0) hx hb dL_holds_402 (by decide) ?_
            refine lv_icmp_eq (tgt := 408) hx hb dL_holds_403 (by decide) (fun _ => ?_) (fun h => absurd (by decide) h)
            refine lv_iinc (v := nI (k + 1)) (lv' := [(7, .int (nI (k + 1))), (8, .int (Z.1.2.2.1 k)), (0, .ref (y 0)), (1, .int w), (2, .int Z.1.2.2.2.2.1), (3, .int (zHor Z)), (4, .int (zVs Z.1 24 0)), (5, .int (zVn Z.1 24 0 Z.1.2.2.2.2.1)), (6, .int (zMp Z.1))]) hx hb dL_holds_408 hl (k := 8) rfl (zinc k 1) (by decide) rfl (fun ls hl => ?_)
            refine lv_goto (tgt := 303) hx hb dL_holds_411 (by decide) ?_
            exact ih (k + 1) ls (by omega) (lv_sub hl [2, 3, 4, 5, 6, 7, 8, 0] rfl)
          · refine lv_iconst (v := 1) hx hb dL_holds_388 (by decide) ?_
            refine lv_goto (tgt := 393) hx hb dL_holds_389 (by decide) ?_
            refine lv_iload hx hb dL_holds_393 (lv_at hl 0 rfl) ?_
            refine lv_if_ne (tgt := 402) hx hb dL_holds_395 (by decide) (fun h => False.elim (by exact h (sl_s hI (by omega) (zb_1 c_385_24)))) (fun c_395_26 => ?_)
            refine lv_iconst (v := 1) hx hb dL_holds_398 (by decide) ?_
            refine lv_goto (tgt := 403) hx hb dL_holds_399 (by decide) ?_
            refine lv_icmp_eq (tgt := 408) hx hb dL_holds_403 (by decide) (fun _ => ?_) (fun h => absurd (by decide) h)
            refine lv_iinc (v := nI (k + 1)) (lv' := [(7, .int (nI (k + 1))), (8, .int (Z.1.2.2.1 k)), (0, .ref (y 0)), (1, .int w), (2, .int Z.1.2.2.2.2.1), (3, .int (zHor Z)), (4, .int (zVs Z.1 24 0)), (5, .int (zVn Z.1 24 0 Z.1.2.2.2.2.1)), (6, .int (zMp Z.1))]) hx hb dL_holds_408 hl (k := 8) rfl (zinc k 1) (by decide) rfl (fun ls hl => ?_)
            refine lv_goto (tgt := 303) hx hb dL_holds_411 (by decide) ?_
            exact ih (k + 1) ls (by omega) (lv_sub hl [2, 3, 4, 5, 6, 7, 8, 0] rfl)
  exact loop_0 24 0 ls (by omega) (lv_sub hl [1, 2, 3, 4, 5, 6, 7, 0] rfl)
set_option maxHeartbeats 4000000 in
set_option maxRecDepth 100000 in
theorem h_L_holds_2 (l : Launch) (D : va_G) (ca : Nat → ClassId) (y a h x : Nat → Nat) (Z : zSt) (nx sz : Nat) (hsz : sz ≤ 6) (B : Nat) (hI : zIv Z B) (w : Int32) (hok : zOk (zSh (zMp Z.1))) (p : Program) (e : Env) (s : State) (m : MethodId) (args : Array Value) (below : List Frame) (meth : Method) (c : Code) (ls : Array Slot) (S : CallFix p m c cL_holds 9 s args wAll RL) (hr : meth.sig.returnType = (some .boolean)) (hlk : meth.locks = false) (hP : va_P D vwCl [(y 0, .inr (6, [.ref (a 0), .ref (h 0), .ref (x 0)])), (h 0, .inr (1, [.ref (h 1), .int (nI nx), .int (nI sz)])), (a 0, .inr (2, [.ref (a 1), .ref (a 6), .ref (a 9)])), (a 1, .inr (3, [.ref (a 2), .ref (a 3), .ref (a 4), .ref (a 5), .int Z.1.2.2.2.2.1, .int Z.1.2.2.2.2.2])), (a 2, .inl (ca 0, 24, .inl Z.1.1)), (a 3, .inl (ca 0, 24, .inl Z.1.2.1)), (a 4, .inl (ca 0, 24, .inl Z.1.2.2.1)), (a 5, .inl (ca 0, 6, .inl Z.1.2.2.2.1)), (a 6, .inr (0, [.ref (a 7), .ref (a 8)])), (a 7, .inl (ca 0, 4, .inl Z.2.1.1)), (a 8, .inl (ca 0, 4, .inl Z.2.1.2)), (a 9, .inr (4, [.ref (a 10), .int Z.2.2.2.1, .int Z.2.2.2.2])), (a 10, .inl (ca 0, 3, .inl Z.2.2.1))] s.heap) (hK : zK D ca s) (hl : lv_has ls 9 [(0, .ref (y 0)), (1, .int w), (2, .int Z.1.2.2.2.2.1), (3, .int (zHor Z))]) : W p l e { frames := 4, cells := 0, slots := 0, locals := 94 } s m args below meth c s.heap [] 0 0 (MQ below (zQr (.int (zb true))) args s 0 0 (fun _ => False)) (F0 m 154 ls []) := by
  have hx := S.1
  have hb := S.2.1
  refine lv_iconst (v := 0) hx hb dL_holds_154 (by decide) ?_
  refine lv_istore (lv' := [(4, .int 0), (0, .ref (y 0)), (1, .int w), (2, .int Z.1.2.2.2.2.1), (3, .int (zHor Z))]) hx hb dL_holds_155 hl (by decide) rfl (fun ls hl => ?_)
  refine lv_iconst (v := 0) hx hb dL_holds_157 (by decide) ?_
  refine lv_istore (lv' := [(5, .int 0), (4, .int 0), (0, .ref (y 0)), (1, .int w), (2, .int Z.1.2.2.2.2.1), (3, .int (zHor Z))]) hx hb dL_holds_158 hl (by decide) rfl (fun ls hl => ?_)
  refine lv_iconst (v := 0) hx hb dL_holds_160 (by decide) ?_
  refine lv_istore (lv' := [(6, .int 0), (5, .int 0), (4, .int 0), (0, .ref (y 0)), (1, .int w), (2, .int Z.1.2.2.2.2.1), (3, .int (zHor Z))]) hx hb dL_holds_161 hl (by decide) rfl (fun ls hl => ?_)
  refine lv_iconst (v := 0) hx hb dL_holds_163 (by decide) ?_
  refine lv_istore (lv' := [(7, .int 0), (6, .int 0), (5, .int 0), (4, .int 0), (0, .ref (y 0)), (1, .int w), (2, .int Z.1.2.2.2.2.1), (3, .int (zHor Z))]) hx hb dL_holds_164 hl (by decide) rfl (fun ls hl => ?_)
  have loop_0 : ∀ (f : Nat) (k : Nat) (v0 : Int32) (s0 : Int32) (m0 : Int32) (ls : Array Slot), k + f = 6 → zVs Z.1 24 0 = zcnt (fun k => decide (¬ Z.1.1 k = -1)) (4 * f) (4 * k) v0 → zVn Z.1 24 0 Z.1.2.2.2.2.1 = zcnt (fun k => zSeen Z.1 k Z.1.2.2.2.2.1) (4 * f) (4 * k) s0 → zMp Z.1 = zcnt (zMk Z.1) f k m0 → lv_has ls 9 [(0, .ref (y 0)), (1, .int w), (2, .int Z.1.2.2.2.2.1), (3, .int (zHor Z)), (4, .int v0), (5, .int s0), (6, .int m0), (7, .int (nI k))] → W p l e { frames := 4, cells := 0, slots := 0, locals := 94 } s m args below meth c s.heap [] 0 0 (MQ below (zQr (.int (zb true))) args s 0 0 (fun _ => False)) (F0 m 166 ls []) := by
    intro f
    induction f with
    | zero =>
      intro k v0 s0 m0 ls j1 j2 j3 j4 hl
      refine lv_iload hx hb dL_holds_166 (lv_at hl 7 rfl) ?_
      refine lv_bipush (v := 6) hx hb dL_holds_168 (by decide) ?_
      refine zn_ge hx hb (x := k) (y := 6) (by omega) (by omega) (tgt := 300) dL_holds_170 (by decide) (fun c_170_2 => ?_) (fun h => False.elim (by omega))
      obtain rfl : v0 = zVs Z.1 24 0 := j2.symm
      obtain rfl : s0 = zVn Z.1 24 0 Z.1.2.2.2.2.1 := j3.symm
      obtain rfl : m0 = zMp Z.1 := j4.symm
      exact h_L_holds_3 l D ca y a h x Z nx sz hsz B hI w hok p e s m args below meth c ls S hr hlk hP hK (lv_sub hl [0, 1, 2, 3, 4, 5, 6] rfl)
    | succ f ih =>
      intro k v0 s0 m0 ls j1 j2 j3 j4 hl
      refine lv_iload hx hb dL_holds_166 (lv_at hl 7 rfl) ?_
      refine lv_bipush (v := 6) hx hb dL_holds_168 (by decide) ?_
      refine zn_ge hx hb (x := k) (y := 6) (by omega) (by omega) (tgt := 300) dL_holds_170 (by decide) (fun h => False.elim (by omega)) (fun c_170_3 => ?_)
      refine lv_iload hx hb dL_holds_173 (lv_at hl 4 rfl) ?_
      refine lv_aload_n hx hb dL_holds_175 rfl (lv_at hl 0 rfl) ?_
      refine lv_iload hx hb dL_holds_176 (lv_at hl 7 rfl) ?_
      refine lv_iconst (v := 1) hx hb dL_holds_178 (by decide) ?_
      refine zcr (As := [.int (nI k), .int 1]) (rest := [.int v0]) (q0 := 0) S (c_X6_page_C l D ca y a h x Z k 1 (by omega) (by omega)) ml_L_22 zy_X6_page im_X6_page se_X6_page ⟨Nat.le_of_ble_eq_true rfl, Nat.le_of_ble_eq_true rfl⟩ hK hP [0, 2, 3, 4, 5, 6, 7, 8, 9, 10, 11, 12] rfl rfl rfl rfl rfl hl.1 rfl (Nat.le_of_ble_eq_true rfl) ⟨Nat.zero_le _, Nat.zero_le _⟩ dL_holds_179 ?_
      rw [zPg_1]
      refine lv_iadd hx hb dL_holds_182 ?_
      refine lv_istore (lv' := [(4, .int (v0 + (zVs Z.1 4 (k * 4)))), (0, .ref (y 0)), (1, .int w), (2, .int Z.1.2.2.2.2.1), (3, .int (zHor Z)), (5, .int s0), (6, .int m0), (7, .int (nI k))]) hx hb dL_holds_183 hl (by decide) rfl (fun ls hl => ?_)
      refine lv_iload hx hb dL_holds_185 (lv_at hl 5 rfl) ?_
      refine lv_aload_n hx hb dL_holds_187 rfl (lv_at hl 1 rfl) ?_
      refine lv_iload hx hb dL_holds_188 (lv_at hl 7 rfl) ?_
      refine lv_iconst (v := 2) hx hb dL_holds_190 (by decide) ?_
      refine zcr (As := [.int (nI k), .int 2]) (rest := [.int s0]) (q0 := 0) S (c_X6_page_C l D ca y a h x Z k 2 (by omega) (by omega)) ml_L_22 zy_X6_page im_X6_page se_X6_page ⟨Nat.le_of_ble_eq_true rfl, Nat.le_of_ble_eq_true rfl⟩ hK hP [0, 2, 3, 4, 5, 6, 7, 8, 9, 10, 11, 12] rfl rfl rfl rfl rfl hl.1 rfl (Nat.le_of_ble_eq_true rfl) ⟨Nat.zero_le _, Nat.zero_le _⟩ dL_holds_191 ?_
      rw [zPg_2]
      refine lv_iadd hx hb dL_holds_194 ?_
      refine lv_istore (lv' := [(5, .int (s0 + (zVn Z.1 4 (k * 4) Z.1.2.2.2.2.1))), (4, .int (v0 + (zVs Z.1 4 (k * 4)))), (0, .ref (y 0)), (1, .int w), (2, .int Z.1.2.2.2.2.1), (3, .int (zHor Z)), (6, .int m0), (7, .int (nI k))]) hx hb dL_holds_195 hl (by decide) rfl (fun ls hl => ?_)
      refine lv_iload hx hb dL_holds_197 (lv_at hl 6 rfl) ?_
      refine lv_aload_n hx hb dL_holds_199 rfl (lv_at hl 2 rfl) ?_
      refine lv_iload hx hb dL_holds_200 (lv_at hl 7 rfl) ?_
      refine lv_iconst (v := 0) hx hb dL_holds_202 (by decide) ?_
      refine zcr (As := [.int (nI k), .int 0]) (rest := [.int m0]) (q0 := 0) S (c_X6_page_C l D ca y a h x Z k 0 (by omega) (by omega)) ml_L_22 zy_X6_page im_X6_page se_X6_page ⟨Nat.le_of_ble_eq_true rfl, Nat.le_of_ble_eq_true rfl⟩ hK hP [0, 2, 3, 4, 5, 6, 7, 8, 9, 10, 11, 12] rfl rfl rfl rfl rfl hl.1 rfl (Nat.le_of_ble_eq_true rfl) ⟨Nat.zero_le _, Nat.zero_le _⟩ dL_holds_203 ?_
      rw [zPg_0]
      refine lv_iadd hx hb dL_holds_206 ?_
      refine lv_istore (lv' := [(6, .int (m0 + (zb (zMk Z.1 k)))), (5, .int (s0 + (zVn Z.1 4 (k * 4) Z.1.2.2.2.2.1))), (4, .int (v0 + (zVs Z.1 4 (k * 4)))), (0, .ref (y 0)), (1, .int w), (2, .int Z.1.2.2.2.2.1), (3, .int (zHor Z)), (7, .int (nI k))]) hx hb dL_holds_207 hl (by decide) rfl (fun ls hl => ?_)
      refine lv_aload_n hx hb dL_holds_209 rfl (lv_at hl 3 rfl) ?_
      refine lv_iload hx hb dL_holds_210 (lv_at hl 7 rfl) ?_
      refine lv_iconst (v := 0) hx hb dL_holds_212 (by decide) ?_
      refine zcr (As := [.int (nI k), .int 0]) (rest := []) (q0 := 0) S (c_X6_page_C l D ca y a h x Z k 0 (by omega) (by omega)) ml_L_22 zy_X6_page im_X6_page se_X6_page ⟨Nat.le_of_ble_eq_true rfl, Nat.le_of_ble_eq_true rfl⟩ hK hP [0, 2, 3, 4, 5, 6, 7, 8, 9, 10, 11, 12] rfl rfl rfl rfl rfl hl.1 rfl (Nat.le_of_ble_eq_true rfl) ⟨Nat.zero_le _, Nat.zero_le _⟩ dL_holds_213 ?_
      rw [zPg_0]
      refine lv_iconst (v := 1) hx hb dL_holds_216 (by decide) ?_
      refine lv_icmp_ne (tgt := 258) hx hb dL_holds_217 (by decide) (fun c_217_4 => ?_) (fun c_217_4 => ?_)
      · refine lv_aload_n hx hb dL_holds_258 rfl (lv_at hl 3 rfl) ?_
        refine lv_iload hx hb dL_holds_259 (lv_at hl 7 rfl) ?_
        refine lv_iconst (v := 0) hx hb dL_holds_261 (by decide) ?_
        refine zcr (As := [.int (nI k), .int 0]) (rest := []) (q0 := 0) S (c_X6_page_C l D ca y a h x Z k 0 (by omega) (by omega)) ml_L_22 zy_X6_page im_X6_page se_X6_page ⟨Nat.le_of_ble_eq_true rfl, Nat.le_of_ble_eq_true rfl⟩ hK hP [0, 2, 3, 4, 5, 6, 7, 8, 9, 10, 11, 12] rfl rfl rfl rfl rfl hl.1 rfl (Nat.le_of_ble_eq_true rfl) ⟨Nat.zero_le _, Nat.zero_le _⟩ dL_holds_262 ?_
        rw [zPg_0]
        refine zz_ne (tgt := 272) hx hb dL_holds_265 (by decide) (fun c_265_5 => ?_) (fun c_265_5 => ?_)
        · refine lv_iconst (v := 0) hx hb dL_holds_272 (by decide) ?_
          refine lv_aload_n hx hb dL_holds_273 rfl (lv_at hl 3 rfl) ?_
          refine lv_iload hx hb dL_holds_274 (lv_at hl 7 rfl) ?_
          refine lv_iconst (v := 4) hx hb dL_holds_276 (by decide) ?_
          refine zcr (As := [.int (nI k), .int 4]) (rest := [.int 0]) (q0 := 0) S (c_X6_page_C l D ca y a h x Z k 4 (by omega) (by omega)) ml_L_22 zy_X6_page im_X6_page se_X6_page ⟨Nat.le_of_ble_eq_true rfl, Nat.le_of_ble_eq_true rfl⟩ hK hP [0, 2, 3, 4, 5, 6, 7, 8, 9, 10, 11, 12] rfl rfl rfl rfl rfl hl.1 rfl (Nat.le_of_ble_eq_true rfl) ⟨Nat.zero_le _, Nat.zero_le _⟩ dL_holds_277 ?_
          rw [zPg_4]
          refine lv_iconst (v := (-1)) hx hb dL_holds_280 (by decide) ?_
          refine lv_icmp_ne (tgt := 288) hx hb dL_holds_281 (by decide) (fun c_281_6 => ?_) (fun h => False.elim (by exact mk_t c_265_5 h))
          refine lv_iconst (v := 0) hx hb dL_holds_288 (by decide) ?_
          refine lv_icmp_eq (tgt := 294) hx hb dL_holds_289 (by decide) (fun _ => ?_) (fun h => absurd (by decide) h)
          refine lv_iinc (v := nI (k + 1)) (lv' := [(7, .int (nI (k + 1))), (6, .int (m0 + (zb (zMk Z.1 k)))), (5, .int (s0 + (zVn Z.1 4 (k * 4) Z.1.2.2.2.2.1))), (4, .int (v0 + (zVs Z.1 4 (k * 4)))), (0, .ref (y 0)), (1, .int w), (2, .int Z.1.2.2.2.2.1), (3, .int (zHor Z))]) hx hb dL_holds_294 hl (k := 7) rfl (zinc k 1) (by decide) rfl (fun ls hl => ?_)
          refine lv_goto (tgt := 166) hx hb dL_holds_297 (by decide) ?_
          exact ih (k + 1) (v0 + (zVs Z.1 4 (k * 4))) (s0 + (zVn Z.1 4 (k * 4) Z.1.2.2.2.2.1)) (m0 + (zb (zMk Z.1 k))) ls (by omega) (by rw [j2]; exact zcnt_4 _ _ _ _) (by rw [j3]; exact zcnt_4 _ _ _ _) (by rw [j4]; exact zcnt_1 _ _ _ _) (lv_sub hl [4, 5, 6, 7, 3, 2, 1, 0] rfl)
        · refine lv_iconst (v := 1) hx hb dL_holds_268 (by decide) ?_
          refine lv_goto (tgt := 273) hx hb dL_holds_269 (by decide) ?_
          refine lv_aload_n hx hb dL_holds_273 rfl (lv_at hl 3 rfl) ?_
          refine lv_iload hx hb dL_holds_274 (lv_at hl 7 rfl) ?_
          refine lv_iconst (v := 4) hx hb dL_holds_276 (by decide) ?_
          refine zcr (As := [.int (nI k), .int 4]) (rest := [.int 1]) (q0 := 0) S (c_X6_page_C l D ca y a h x Z k 4 (by omega) (by omega)) ml_L_22 zy_X6_page im_X6_page se_X6_page ⟨Nat.le_of_ble_eq_true rfl, Nat.le_of_ble_eq_true rfl⟩ hK hP [0, 2, 3, 4, 5, 6, 7, 8, 9, 10, 11, 12] rfl rfl rfl rfl rfl hl.1 rfl (Nat.le_of_ble_eq_true rfl) ⟨Nat.zero_le _, Nat.zero_le _⟩ dL_holds_277 ?_
          rw [zPg_4]
          refine lv_iconst (v := (-1)) hx hb dL_holds_280 (by decide) ?_
          refine lv_icmp_ne (tgt := 288) hx hb dL_holds_281 (by decide) (fun h => False.elim (by exact mk_f c_265_5 h)) (fun c_281_7 => ?_)
          refine lv_iconst (v := 1) hx hb dL_holds_284 (by decide) ?_
          refine lv_goto (tgt := 289) hx hb dL_holds_285 (by decide) ?_
          refine lv_icmp_eq (tgt := 294) hx hb dL_holds_289 (by decide) (fun _ => ?_) (fun h => absurd (by decide) h)
          refine lv_iinc (v := nI (k + 1)) (lv' := [(7, .int (nI (k + 1))), (6, .int (m0 + (zb (zMk Z.1 k)))), (5, .int (s0 + (zVn Z.1 4 (k * 4) Z.1.2.2.2.2.1))), (4, .int (v0 + (zVs Z.1 4 (k * 4)))), (0, .ref (y 0)), (1, .int w), (2, .int Z.1.2.2.2.2.1), (3, .int (zHor Z))]) hx hb dL_holds_294 hl (k := 7) rfl (zinc k 1) (by decide) rfl (fun ls hl => ?_)
          refine lv_goto (tgt := 166) hx hb dL_holds_297 (by decide) ?_
          exact ih (k + 1) (v0 + (zVs Z.1 4 (k * 4))) (s0 + (zVn Z.1 4 (k * 4) Z.1.2.2.2.2.1)) (m0 + (zb (zMk Z.1 k))) ls (by omega) (by rw [j2]; exact zcnt_4 _ _ _ _) (by rw [j3]; exact zcnt_4 _ _ _ _) (by rw [j4]; exact zcnt_1 _ _ _ _) (lv_sub hl [4, 5, 6, 7, 3, 2, 1, 0] rfl)
      · refine lv_aload_n hx hb dL_holds_220 rfl (lv_at hl 3 rfl) ?_
        refine lv_iload hx hb dL_holds_221 (lv_at hl 7 rfl) ?_
        refine lv_iconst (v := 1) hx hb dL_holds_223 (by decide) ?_
        refine zcr (As := [.int (nI k), .int 1]) (rest := []) (q0 := 0) S (c_X6_page_C l D ca y a h x Z k 1 (by omega) (by omega)) ml_L_22 zy_X6_page im_X6_page se_X6_page ⟨Nat.le_of_ble_eq_true rfl, Nat.le_of_ble_eq_true rfl⟩ hK hP [0, 2, 3, 4, 5, 6, 7, 8, 9, 10, 11, 12] rfl rfl rfl rfl rfl hl.1 rfl (Nat.le_of_ble_eq_true rfl) ⟨Nat.zero_le _, Nat.zero_le _⟩ dL_holds_224 ?_
        rw [zPg_1]
        refine lv_aload_n hx hb dL_holds_227 rfl (lv_at hl 3 rfl) ?_
        refine lv_iload hx hb dL_holds_228 (lv_at hl 7 rfl) ?_
        refine lv_iconst (v := 2) hx hb dL_holds_230 (by decide) ?_
        refine zcr (As := [.int (nI k), .int 2]) (rest := [.int (zVs Z.1 4 (k * 4))]) (q0 := 0) S (c_X6_page_C l D ca y a h x Z k 2 (by omega) (by omega)) ml_L_22 zy_X6_page im_X6_page se_X6_page ⟨Nat.le_of_ble_eq_true rfl, Nat.le_of_ble_eq_true rfl⟩ hK hP [0, 2, 3, 4, 5, 6, 7, 8, 9, 10, 11, 12] rfl rfl rfl rfl rfl hl.1 rfl (Nat.le_of_ble_eq_true rfl) ⟨Nat.zero_le _, Nat.zero_le _⟩ dL_holds_231 ?_
        rw [zPg_2]
        refine lv_icmp_ne (tgt := 292) hx hb dL_holds_234 (by decide) (fun h => False.elim (by exact h (pg_vs hI (by omega) (zb_1 (by assumption))))) (fun c_234_8 => ?_)
        refine lv_aload_n hx hb dL_holds_237 rfl (lv_at hl 3 rfl) ?_
        refine lv_iload hx hb dL_holds_238 (lv_at hl 7 rfl) ?_
        refine lv_iconst (v := 3) hx hb dL_holds_240 (by decide) ?_
        refine zcr (As := [.int (nI k), .int 3]) (rest := []) (q0 := 0) S (c_X6_page_C l D ca y a h x Z k 3 (by omega) (by omega)) ml_L_22 zy_X6_page im_X6_page se_X6_page ⟨Nat.le_of_ble_eq_true rfl, Nat.le_of_ble_eq_true rfl⟩ hK hP [0, 2, 3, 4, 5, 6, 7, 8, 9, 10, 11, 12] rfl rfl rfl rfl rfl hl.1 rfl (Nat.le_of_ble_eq_true rfl) ⟨Nat.zero_le _, Nat.zero_le _⟩ dL_holds_241 ?_
        rw [zPg_3]
        refine lv_if_ne (tgt := 292) hx hb dL_holds_244 (by decide) (fun h => False.elim (by exact h (pg_vo hI (by omega) (zb_1 (by assumption))))) (fun c_244_9 => ?_)
        refine lv_aload_n hx hb dL_holds_247 rfl (lv_at hl 3 rfl) ?_
        refine lv_iload hx hb dL_holds_248 (lv_at hl 7 rfl) ?_
        refine lv_iconst (v := 4) hx hb dL_holds_250 (by decide) ?_
        refine zcr (As := [.int (nI k), .int 4]) (rest := []) (q0 := 0) S (c_X6_page_C l D ca y a h x Z k 4 (by omega) (by omega)) ml_L_22 zy_X6_page im_X6_page se_X6_page ⟨Nat.le_of_ble_eq_true rfl, Nat.le_of_ble_eq_true rfl⟩ hK hP [0, 2, 3, 4, 5, 6, 7, 8, 9, 10, 11, 12] rfl rfl rfl rfl rfl hl.1 rfl (Nat.le_of_ble_eq_true rfl) ⟨Nat.zero_le _, Nat.zero_le _⟩ dL_holds_251 ?_
        rw [zPg_4]
        refine lv_iload_n hx hb dL_holds_254 rfl (lv_at hl 6 rfl) ?_
        refine lv_icmp_gt (tgt := 292) hx hb dL_holds_255 (by decide) (fun h => False.elim (by exact absurd h (pg_mk hI (by omega) (zb_1 (by assumption))))) (fun c_255_10 => ?_)
        refine lv_aload_n hx hb dL_holds_258 rfl (lv_at hl 3 rfl) ?_
        refine lv_iload hx hb dL_holds_259 (lv_at hl 7 rfl) ?_
        refine lv_iconst (v := 0) hx hb dL_holds_261 (by decide) ?_
        refine zcr (As := [.int (nI k), .int 0]) (rest := []) (q0 := 0) S (c_X6_page_C l D ca y a h x Z k 0 (by omega) (by omega)) ml_L_22 zy_X6_page im_X6_page se_X6_page ⟨Nat.le_of_ble_eq_true rfl, Nat.le_of_ble_eq_true rfl⟩ hK hP [0, 2, 3, 4, 5, 6, 7, 8, 9, 10, 11, 12] rfl rfl rfl rfl rfl hl.1 rfl (Nat.le_of_ble_eq_true rfl) ⟨Nat.zero_le _, Nat.zero_le _⟩ dL_holds_262 ?_
        rw [zPg_0]
        refine zz_ne (tgt := 272) hx hb dL_holds_265 (by decide) (fun c_265_11 => ?_) (fun c_265_11 => ?_)
        · refine lv_iconst (v := 0) hx hb dL_holds_272 (by decide) ?_
          refine lv_aload_n hx hb dL_holds_273 rfl (lv_at hl 3 rfl) ?_
          refine lv_iload hx hb dL_holds_274 (lv_at hl 7 rfl) ?_
          refine lv_iconst (v := 4) hx hb dL_holds_276 (by decide) ?_
          refine zcr (As := [.int (nI k), .int 4]) (rest := [.int 0]) (q0 := 0) S (c_X6_page_C l D ca y a h x Z k 4 (by omega) (by omega)) ml_L_22 zy_X6_page im_X6_page se_X6_page ⟨Nat.le_of_ble_eq_true rfl, Nat.le_of_ble_eq_true rfl⟩ hK hP [0, 2, 3, 4, 5, 6, 7, 8, 9, 10, 11, 12] rfl rfl rfl rfl rfl hl.1 rfl (Nat.le_of_ble_eq_true rfl) ⟨Nat.zero_le _, Nat.zero_le _⟩ dL_holds_277 ?_
          rw [zPg_4]
          refine lv_iconst (v := (-1)) hx hb dL_holds_280 (by decide) ?_
          refine lv_icmp_ne (tgt := 288) hx hb dL_holds_281 (by decide) (fun c_281_12 => ?_) (fun h => False.elim (by exact mk_t c_265_11 h))
          refine lv_iconst (v := 0) hx hb dL_holds_288 (by decide) ?_
          refine lv_icmp_eq (tgt := 294) hx hb dL_holds_289 (by decide) (fun _ => ?_) (fun h => absurd (by decide) h)
          refine lv_iinc (v := nI (k + 1)) (lv' := [(7, .int (nI (k + 1))), (6, .int (m0 + (zb (zMk Z.1 k)))), (5, .int (s0 + (zVn Z.1 4 (k * 4) Z.1.2.2.2.2.1))), (4, .int (v0 + (zVs Z.1 4 (k * 4)))), (0, .ref (y 0)), (1, .int w), (2, .int Z.1.2.2.2.2.1), (3, .int (zHor Z))]) hx hb dL_holds_294 hl (k := 7) rfl (zinc k 1) (by decide) rfl (fun ls hl => ?_)
          refine lv_goto (tgt := 166) hx hb dL_holds_297 (by decide) ?_
          exact ih (k + 1) (v0 + (zVs Z.1 4 (k * 4))) (s0 + (zVn Z.1 4 (k * 4) Z.1.2.2.2.2.1)) (m0 + (zb (zMk Z.1 k))) ls (by omega) (by rw [j2]; exact zcnt_4 _ _ _ _) (by rw [j3]; exact zcnt_4 _ _ _ _) (by rw [j4]; exact zcnt_1 _ _ _ _) (lv_sub hl [4, 5, 6, 7, 3, 2, 1, 0] rfl)
        · refine lv_iconst (v := 1) hx hb dL_holds_268 (by decide) ?_
          refine lv_goto (tgt := 273) hx hb dL_holds_269 (by decide) ?_
          refine lv_aload_n hx hb dL_holds_273 rfl (lv_at hl 3 rfl) ?_
          refine lv_iload hx hb dL_holds_274 (lv_at hl 7 rfl) ?_
          refine lv_iconst (v := 4) hx hb dL_holds_276 (by decide) ?_
          refine zcr (As := [.int (nI k), .int 4]) (rest := [.int 1]) (q0 := 0) S (c_X6_page_C l D ca y a h x Z k 4 (by omega) (by omega)) ml_L_22 zy_X6_page im_X6_page se_X6_page ⟨Nat.le_of_ble_eq_true rfl, Nat.le_of_ble_eq_true rfl⟩ hK hP [0, 2, 3, 4, 5, 6, 7, 8, 9, 10, 11, 12] rfl rfl rfl rfl rfl hl.1 rfl (Nat.le_of_ble_eq_true rfl) ⟨Nat.zero_le _, Nat.zero_le _⟩ dL_holds_277 ?_
          rw [zPg_4]
          refine lv_iconst (v := (-1)) hx hb dL_holds_280 (by decide) ?_
          refine lv_icmp_ne (tgt := 288) hx hb dL_holds_281 (by decide) (fun h => False.elim (by exact mk_f c_265_11 h)) (fun c_281_13 => ?_)
          refine lv_iconst (v := 1) hx hb dL_holds_284 (by decide) ?_
          refine lv_goto (tgt := 289) hx hb dL_holds_285 (by decide) ?_
          refine lv_icmp_eq (tgt := 294) hx hb dL_holds_289 (by decide) (fun _ => ?_) (fun h => absurd (by decide) h)
          refine lv_iinc (v := nI (k + 1)) (lv' := [(7, .int (nI (k + 1))), (6, .int (m0 + (zb (zMk Z.1 k)))), (5, .int (s0 + (zVn Z.1 4 (k * 4) Z.1.2.2.2.2.1))), (4, .int (v0 + (zVs Z.1 4 (k * 4)))), (0, .ref (y 0)), (1, .int w), (2, .int Z.1.2.2.2.2.1), (3, .int (zHor Z))]) hx hb dL_holds_294 hl (k := 7) rfl (zinc k 1) (by decide) rfl (fun ls hl => ?_)
          refine lv_goto (tgt := 166) hx hb dL_holds_297 (by decide) ?_
          exact ih (k + 1) (v0 + (zVs Z.1 4 (k * 4))) (s0 + (zVn Z.1 4 (k * 4) Z.1.2.2.2.2.1)) (m0 + (zb (zMk Z.1 k))) ls (by omega) (by rw [j2]; exact zcnt_4 _ _ _ _) (by rw [j3]; exact zcnt_4 _ _ _ _) (by rw [j4]; exact zcnt_1 _ _ _ _) (lv_sub hl [4, 5, 6, 7, 3, 2, 1, 0] rfl)
  exact loop_0 6 0 0 0 0 ls (by omega) (by rfl) (by rfl) (by rfl) (lv_sub hl [4, 5, 6, 7, 3, 2, 1, 0] rfl)
set_option maxHeartbeats 4000000 in
set_option maxRecDepth 100000 in
theorem h_L_holds_1 (l : Launch) (D : va_G) (ca : Nat → ClassId) (y a h x : Nat → Nat) (Z : zSt) (nx sz : Nat) (hsz : sz ≤ 6) (B : Nat) (hI : zIv Z B) (w : Int32) (hok : zOk (zSh (zMp Z.1))) (p : Program) (e : Env) (s : State) (m : MethodId) (args : Array Value) (below : List Frame) (meth : Method) (c : Code) (ls : Array Slot) (S : CallFix p m c cL_holds 9 s args wAll RL) (hr : meth.sig.returnType = (some .boolean)) (hlk : meth.locks = false) (hP : va_P D vwCl [(y 0, .inr (6, [.ref (a 0), .ref (h 0), .ref (x 0)])), (h 0, .inr (1, [.ref (h 1), .int (nI nx), .int (nI sz)])), (a 0, .inr (2, [.ref (a 1), .ref (a 6), .ref (a 9)])), (a 1, .inr (3, [.ref (a 2), .ref (a 3), .ref (a 4), .ref (a 5), .int Z.1.2.2.2.2.1, .int Z.1.2.2.2.2.2])), (a 2, .inl (ca 0, 24, .inl Z.1.1)), (a 3, .inl (ca 0, 24, .inl Z.1.2.1)), (a 4, .inl (ca 0, 24, .inl Z.1.2.2.1)), (a 5, .inl (ca 0, 6, .inl Z.1.2.2.2.1)), (a 6, .inr (0, [.ref (a 7), .ref (a 8)])), (a 7, .inl (ca 0, 4, .inl Z.2.1.1)), (a 8, .inl (ca 0, 4, .inl Z.2.1.2)), (a 9, .inr (4, [.ref (a 10), .int Z.2.2.2.1, .int Z.2.2.2.2])), (a 10, .inl (ca 0, 3, .inl Z.2.2.1))] s.heap) (hK : zK D ca s) (hl : lv_has ls 9 [(0, .ref (y 0)), (1, .int w)]) : W p l e { frames := 4, cells := 0, slots := 0, locals := 94 } s m args below meth c s.heap [] 0 0 (MQ below (zQr (.int (zb true))) args s 0 0 (fun _ => False)) (F0 m 0 ls []) := by
  have hx := S.1
  have hb := S.2.1
  refine lv_aload_n hx hb dL_holds_0 rfl (lv_at hl 0 rfl) ?_
  refine lv_iconst (v := 0) hx hb dL_holds_1 (by decide) ?_
  refine zcr (As := [.int 0]) (rest := []) (q0 := 0) S (c_X6_count_C l D ca y a h x Z nx sz (by omega) 0 (by omega)) ml_L_12 zy_X6_count im_X6_count se_X6_count ⟨Nat.le_of_ble_eq_true rfl, Nat.le_of_ble_eq_true rfl⟩ hK hP [0, 1, 2, 3, 4, 5, 6, 7, 8, 9, 10, 11, 12] rfl rfl rfl rfl rfl hl.1 rfl (Nat.le_of_ble_eq_true rfl) ⟨Nat.zero_le _, Nat.zero_le _⟩ dL_holds_2 ?_
  rw [zCo_0]
  refine lv_istore_n (lv' := [(2, .int Z.1.2.2.2.2.1), (0, .ref (y 0)), (1, .int w)]) hx hb dL_holds_5 rfl hl (by decide) rfl (fun ls hl => ?_)
  refine lv_iload_n hx hb dL_holds_6 rfl (lv_at hl 0 rfl) ?_
  refine lv_istore_n (lv' := [(3, .int Z.1.2.2.2.2.1), (2, .int Z.1.2.2.2.2.1), (0, .ref (y 0)), (1, .int w)]) hx hb dL_holds_7 rfl hl (by decide) rfl (fun ls hl => ?_)
  refine lv_iconst (v := 0) hx hb dL_holds_8 (by decide) ?_
  refine lv_istore (lv' := [(4, .int 0), (3, .int Z.1.2.2.2.2.1), (2, .int Z.1.2.2.2.2.1), (0, .ref (y 0)), (1, .int w)]) hx hb dL_holds_9 hl (by decide) rfl (fun ls hl => ?_)
  have loop_0 : ∀ (f : Nat) (k : Nat) (u : Int32) (ls : Array Slot), k + f = 4 → zHor Z = zlea Z.2.1.1 f k u → lv_has ls 9 [(0, .ref (y 0)), (1, .int w), (2, .int Z.1.2.2.2.2.1), (3, .int u), (4, .int (nI k))] → W p l e { frames := 4, cells := 0, slots := 0, locals := 94 } s m args below meth c s.heap [] 0 0 (MQ below (zQr (.int (zb true))) args s 0 0 (fun _ => False)) (F0 m 11 ls []) := by
    intro f
    induction f with
    | zero =>
      intro k u ls j1 j2 hl
      refine lv_iload hx hb dL_holds_11 (lv_at hl 4 rfl) ?_
      refine lv_iconst (v := 4) hx hb dL_holds_13 (by decide) ?_
      refine zn_ge hx hb (x := k) (y := 4) (by omega) (by omega) (tgt := 154) dL_holds_14 (by decide) (fun c_14_2 => ?_) (fun h => False.elim (by omega))
      obtain rfl : u = zHor Z := j2.symm
      exact h_L_holds_2 l D ca y a h x Z nx sz hsz B hI w hok p e s m args below meth c ls S hr hlk hP hK (lv_sub hl [0, 1, 2, 3] rfl)
    | succ f ih =>
      intro k u ls j1 j2 hl
      refine lv_iload hx hb dL_holds_11 (lv_at hl 4 rfl) ?_
      refine lv_iconst (v := 4) hx hb dL_holds_13 (by decide) ?_
      refine zn_ge hx hb (x := k) (y := 4) (by omega) (by omega) (tgt := 154) dL_holds_14 (by decide) (fun h => False.elim (by omega)) (fun c_14_3 => ?_)
      refine lv_aload_n hx hb dL_holds_17 rfl (lv_at hl 0 rfl) ?_
      refine lv_iload hx hb dL_holds_18 (lv_at hl 4 rfl) ?_
      refine lv_iconst (v := 0) hx hb dL_holds_20 (by decide) ?_
      refine zcr (As := [.int (nI k), .int 0]) (rest := []) (q0 := 0) S (c_X6_asker_C l D ca y a h x Z k 0 (by omega) (by omega)) ml_L_25 zy_X6_asker im_X6_asker se_X6_asker ⟨Nat.le_of_ble_eq_true rfl, Nat.le_of_ble_eq_true rfl⟩ hK hP [0, 2, 3, 4, 5, 6, 7, 8, 9, 10, 11, 12] rfl rfl rfl rfl rfl hl.1 rfl (Nat.le_of_ble_eq_true rfl) ⟨Nat.zero_le _, Nat.zero_le _⟩ dL_holds_21 ?_
      rw [zAs_0]
      refine lv_istore (lv' := [(5, .int (Z.2.1.1 k)), (0, .ref (y 0)), (1, .int w), (2, .int Z.1.2.2.2.2.1), (3, .int u), (4, .int (nI k))]) hx hb dL_holds_24 hl (by decide) rfl (fun ls hl => ?_)
      refine lv_iload_n hx hb dL_holds_26 rfl (lv_at hl 2 rfl) ?_
      refine lv_iconst (v := 3) hx hb dL_holds_27 (by decide) ?_
      refine lv_iload hx hb dL_holds_28 (lv_at hl 5 rfl) ?_
      refine zn_mul hx hb (x := 3) (y := k) (z := 3 * k) (by first | rfl | omega) dL_holds_30 ?_
      refine lv_ishr hx hb dL_holds_31 ?_
      refine lv_bipush (v := 10) hx hb dL_holds_32 (by decide) ?_
      refine zcrS (As := [.int (w >>> ((nI (3 * k)) &&& 31)), .int 10]) (rest := []) S (c_L_low l D ca (w >>> ((nI (3 * k)) &&& 31)) 10 (by omega) (by omega)) ml_L_28 zy_L_low st_L_low ⟨Nat.le_of_ble_eq_true rfl, Nat.le_of_ble_eq_true rfl⟩ hK hP [] rfl rfl hl.1 rfl (Nat.le_of_ble_eq_true rfl) ⟨Nat.zero_le _, Nat.zero_le _⟩ dL_holds_34 ?_
      have hlow := zlow_lt (v := w >>> ((nI (3 * k)) &&& 31)) (n := 10) (by omega)
      refine lv_istore (lv' := [(6, .int (nI (zlow (w >>> ((nI (3 * k)) &&& 31)) 10))), (5, .int (Z.2.1.1 k)), (0, .ref (y 0)), (1, .int w), (2, .int Z.1.2.2.2.2.1), (3, .int u), (4, .int (nI k))]) hx hb dL_holds_37 hl (by decide) rfl (fun ls hl => ?_)
      refine lv_iload hx hb dL_holds_39 (lv_at hl 1 rfl) ?_
      refine lv_if_lt (tgt := 55) hx hb dL_holds_41 (by decide) (fun c_41_4 => ?_) (fun c_41_4 => ?_)
      · refine lv_iload_n hx hb dL_holds_55 rfl (lv_at hl 5 rfl) ?_
        refine lv_istore_n (lv' := [(3, .int u), (6, .int (nI (zlow (w >>> ((nI (3 * k)) &&& 31)) 10))), (5, .int (Z.2.1.1 k)), (0, .ref (y 0)), (1, .int w), (2, .int Z.1.2.2.2.2.1), (4, .int (nI k))]) hx hb dL_holds_56 rfl hl (by decide) rfl (fun ls hl => ?_)
        refine lv_iload hx hb dL_holds_57 (lv_at hl 2 rfl) ?_
        refine lv_if_lt (tgt := 148) hx hb dL_holds_59 (by decide) (fun _ => ?_) (fun h => by first | exact absurd h c_41_4 | exact absurd c_41_4 h)
        refine lv_iinc (v := nI (k + 1)) (lv' := [(4, .int (nI (k + 1))), (3, .int u), (6, .int (nI (zlow (w >>> ((nI (3 * k)) &&& 31)) 10))), (5, .int (Z.2.1.1 k)), (0, .ref (y 0)), (1, .int w), (2, .int Z.1.2.2.2.2.1)]) hx hb dL_holds_148 hl (k := 6) rfl (zinc k 1) (by decide) rfl (fun ls hl => ?_)
        refine lv_goto (tgt := 11) hx hb dL_holds_151 (by decide) ?_
        exact ih (k + 1) u ls (by omega) (by rw [j2]; simp only [zlea, c_14_3, c_41_4, if_true, if_false]) (lv_sub hl [4, 5, 6, 1, 0] rfl)
      · refine lv_iload hx hb dL_holds_44 (lv_at hl 1 rfl) ?_
        refine lv_iload_n hx hb dL_holds_46 rfl (lv_at hl 5 rfl) ?_
        refine lv_icmp_ge (tgt := 55) hx hb dL_holds_47 (by decide) (fun c_47_5 => ?_) (fun c_47_5 => ?_)
        · refine lv_iload_n hx hb dL_holds_55 rfl (lv_at hl 5 rfl) ?_
          refine lv_istore_n (lv' := [(3, .int u), (6, .int (nI (zlow (w >>> ((nI (3 * k)) &&& 31)) 10))), (5, .int (Z.2.1.1 k)), (0, .ref (y 0)), (1, .int w), (2, .int Z.1.2.2.2.2.1), (4, .int (nI k))]) hx hb dL_holds_56 rfl hl (by decide) rfl (fun ls hl => ?_)
          refine lv_iload hx hb dL_holds_57 (lv_at hl 2 rfl) ?_
          refine lv_if_lt (tgt := 148) hx hb dL_holds_59 (by decide) (fun h => by first | exact absurd h c_41_4 | exact absurd c_41_4 h) (fun _ => ?_)
          refine lv_aload_n hx hb dL_holds_62 rfl (lv_at hl 3 rfl) ?_
          refine lv_iload hx hb dL_holds_63 (lv_at hl 2 rfl) ?_
          refine lv_iload hx hb dL_holds_65 (lv_at hl 1 rfl) ?_
          refine lv_iconst (v := 1) hx hb dL_holds_67 (by decide) ?_
          refine lv_iconst (v := 0) hx hb dL_holds_68 (by decide) ?_
          refine zcr (As := [.int (Z.2.1.1 k), .int (nI (zlow (w >>> ((nI (3 * k)) &&& 31)) 10)), .int 1, .int 0]) (rest := []) (q0 := 0) S (c_X6_ifAsked_C0 l D ca y a h x Z (Z.2.1.1 k) (nI (zlow (w >>> ((nI (3 * k)) &&& 31)) 10)) 1 (by omega) (by assumption) (sn_le hI (by omega) (by assumption)) (zOu_n (by omega) (by decide))) ml_L_59 zy_X6_ifAsked im_X6_ifAsked se_X6_ifAsked ⟨Nat.le_of_ble_eq_true rfl, Nat.le_of_ble_eq_true rfl⟩ hK hP [0, 2, 3, 4, 5, 6, 7, 8, 9, 10, 11, 12] rfl rfl rfl rfl rfl hl.1 rfl (Nat.le_of_ble_eq_true rfl) ⟨Nat.zero_le _, Nat.zero_le _⟩ dL_holds_69 ?_
          refine lv_aload_n hx hb dL_holds_72 rfl (lv_at hl 3 rfl) ?_
          refine lv_iload hx hb dL_holds_73 (lv_at hl 2 rfl) ?_
          refine lv_iload hx hb dL_holds_75 (lv_at hl 1 rfl) ?_
          refine lv_iconst (v := 0) hx hb dL_holds_77 (by decide) ?_
          refine lv_iconst (v := 0) hx hb dL_holds_78 (by decide) ?_
          refine zcr (As := [.int (Z.2.1.1 k), .int (nI (zlow (w >>> ((nI (3 * k)) &&& 31)) 10)), .int 0, .int 0]) (rest := [.int (zAns Z.1 (Z.2.1.1 k) (nI (zlow (w >>> ((nI (3 * k)) &&& 31)) 10)) 1)]) (q0 := 0) S (c_X6_ifAsked_C0 l D ca y a h x Z (Z.2.1.1 k) (nI (zlow (w >>> ((nI (3 * k)) &&& 31)) 10)) 0 (by omega) (by assumption) (sn_le hI (by omega) (by assumption)) (zOu_n (by omega) (by decide))) ml_L_59 zy_X6_ifAsked im_X6_ifAsked se_X6_ifAsked ⟨Nat.le_of_ble_eq_true rfl, Nat.le_of_ble_eq_true rfl⟩ hK hP [0, 2, 3, 4, 5, 6, 7, 8, 9, 10, 11, 12] rfl rfl rfl rfl rfl hl.1 rfl (Nat.le_of_ble_eq_true rfl) ⟨Nat.zero_le _, Nat.zero_le _⟩ dL_holds_79 ?_
          refine lv_icmp_ne (tgt := 146) hx hb dL_holds_82 (by decide) (fun h => False.elim (by exact h (ans_10 _ _ _))) (fun c_82_6 => ?_)
          refine lv_aload_n hx hb dL_holds_85 rfl (lv_at hl 3 rfl) ?_
          refine lv_iload hx hb dL_holds_86 (lv_at hl 2 rfl) ?_
          refine lv_iload hx hb dL_holds_88 (lv_at hl 1 rfl) ?_
          refine lv_iconst (v := 2) hx hb dL_holds_90 (by decide) ?_
          refine lv_iconst (v := 0) hx hb dL_holds_91 (by decide) ?_
          refine zcr (As := [.int (Z.2.1.1 k), .int (nI (zlow (w >>> ((nI (3 * k)) &&& 31)) 10)), .int 2, .int 0]) (rest := []) (q0 := 0) S (c_X6_ifAsked_C0 l D ca y a h x Z (Z.2.1.1 k) (nI (zlow (w >>> ((nI (3 * k)) &&& 31)) 10)) 2 (by omega) (by assumption) (sn_le hI (by omega) (by assumption)) (zOu_n (by omega) (by decide))) ml_L_59 zy_X6_ifAsked im_X6_ifAsked se_X6_ifAsked ⟨Nat.le_of_ble_eq_true rfl, Nat.le_of_ble_eq_true rfl⟩ hK hP [0, 2, 3, 4, 5, 6, 7, 8, 9, 10, 11, 12] rfl rfl rfl rfl rfl hl.1 rfl (Nat.le_of_ble_eq_true rfl) ⟨Nat.zero_le _, Nat.zero_le _⟩ dL_holds_92 ?_
          refine lv_aload_n hx hb dL_holds_95 rfl (lv_at hl 3 rfl) ?_
          refine lv_iload hx hb dL_holds_96 (lv_at hl 2 rfl) ?_
          refine lv_iload hx hb dL_holds_98 (lv_at hl 1 rfl) ?_
          refine lv_iconst (v := 0) hx hb dL_holds_100 (by decide) ?_
          refine lv_iconst (v := 0) hx hb dL_holds_101 (by decide) ?_
          refine zcr (As := [.int (Z.2.1.1 k), .int (nI (zlow (w >>> ((nI (3 * k)) &&& 31)) 10)), .int 0, .int 0]) (rest := [.int (zAns Z.1 (Z.2.1.1 k) (nI (zlow (w >>> ((nI (3 * k)) &&& 31)) 10)) 2)]) (q0 := 0) S (c_X6_ifAsked_C0 l D ca y a h x Z (Z.2.1.1 k) (nI (zlow (w >>> ((nI (3 * k)) &&& 31)) 10)) 0 (by omega) (by assumption) (sn_le hI (by omega) (by assumption)) (zOu_n (by omega) (by decide))) ml_L_59 zy_X6_ifAsked im_X6_ifAsked se_X6_ifAsked ⟨Nat.le_of_ble_eq_true rfl, Nat.le_of_ble_eq_true rfl⟩ hK hP [0, 2, 3, 4, 5, 6, 7, 8, 9, 10, 11, 12] rfl rfl rfl rfl rfl hl.1 rfl (Nat.le_of_ble_eq_true rfl) ⟨Nat.zero_le _, Nat.zero_le _⟩ dL_holds_102 ?_
          refine lv_icmp_ne (tgt := 146) hx hb dL_holds_105 (by decide) (fun h => False.elim (by exact h (ans_20 hI (by omega) (by assumption) (by omega)))) (fun c_105_7 => ?_)
          refine lv_aload_n hx hb dL_holds_108 rfl (lv_at hl 3 rfl) ?_
          refine lv_iload hx hb dL_holds_109 (lv_at hl 2 rfl) ?_
          refine lv_iload hx hb dL_holds_111 (lv_at hl 1 rfl) ?_
          refine lv_iconst (v := 2) hx hb dL_holds_113 (by decide) ?_
          refine lv_iconst (v := 1) hx hb dL_holds_114 (by decide) ?_
          refine zcr (As := [.int (Z.2.1.1 k), .int (nI (zlow (w >>> ((nI (3 * k)) &&& 31)) 10)), .int 2, .int 1]) (rest := []) (q0 := 0) S (c_X6_ifAsked_C1 l D ca y a h x Z (Z.2.1.1 k) (nI (zlow (w >>> ((nI (3 * k)) &&& 31)) 10)) 2 (by omega) (by assumption) (sn_le hI (by omega) (by assumption)) (zOu_n (by omega) (by decide))) ml_L_59 zy_X6_ifAsked im_X6_ifAsked se_X6_ifAsked ⟨Nat.le_of_ble_eq_true rfl, Nat.le_of_ble_eq_true rfl⟩ hK hP [0, 2, 3, 4, 5, 6, 7, 8, 9, 10, 11, 12] rfl rfl rfl rfl rfl hl.1 rfl (Nat.le_of_ble_eq_true rfl) ⟨Nat.zero_le _, Nat.zero_le _⟩ dL_holds_115 ?_
          refine lv_aload_n hx hb dL_holds_118 rfl (lv_at hl 3 rfl) ?_
          refine lv_iload hx hb dL_holds_119 (lv_at hl 2 rfl) ?_
          refine lv_iload hx hb dL_holds_121 (lv_at hl 1 rfl) ?_
          refine lv_iconst (v := 1) hx hb dL_holds_123 (by decide) ?_
          refine lv_iconst (v := 1) hx hb dL_holds_124 (by decide) ?_
          refine zcr (As := [.int (Z.2.1.1 k), .int (nI (zlow (w >>> ((nI (3 * k)) &&& 31)) 10)), .int 1, .int 1]) (rest := [.int (zCost Z.1 (Z.2.1.1 k) (nI (zlow (w >>> ((nI (3 * k)) &&& 31)) 10)) 2)]) (q0 := 0) S (c_X6_ifAsked_C1 l D ca y a h x Z (Z.2.1.1 k) (nI (zlow (w >>> ((nI (3 * k)) &&& 31)) 10)) 1 (by omega) (by assumption) (sn_le hI (by omega) (by assumption)) (zOu_n (by omega) (by decide))) ml_L_59 zy_X6_ifAsked im_X6_ifAsked se_X6_ifAsked ⟨Nat.le_of_ble_eq_true rfl, Nat.le_of_ble_eq_true rfl⟩ hK hP [0, 2, 3, 4, 5, 6, 7, 8, 9, 10, 11, 12] rfl rfl rfl rfl rfl hl.1 rfl (Nat.le_of_ble_eq_true rfl) ⟨Nat.zero_le _, Nat.zero_le _⟩ dL_holds_125 ?_
          refine lv_icmp_gt (tgt := 146) hx hb dL_holds_128 (by decide) (fun h => False.elim (by exact absurd h (cost_21 _ _ _))) (fun c_128_8 => ?_)
          refine lv_aload_n hx hb dL_holds_131 rfl (lv_at hl 3 rfl) ?_
          refine lv_iload hx hb dL_holds_132 (lv_at hl 2 rfl) ?_
          refine lv_iload hx hb dL_holds_134 (lv_at hl 1 rfl) ?_
          refine lv_iconst (v := 1) hx hb dL_holds_136 (by decide) ?_
          refine lv_iconst (v := 1) hx hb dL_holds_137 (by decide) ?_
          refine zcr (As := [.int (Z.2.1.1 k), .int (nI (zlow (w >>> ((nI (3 * k)) &&& 31)) 10)), .int 1, .int 1]) (rest := []) (q0 := 0) S (c_X6_ifAsked_C1 l D ca y a h x Z (Z.2.1.1 k) (nI (zlow (w >>> ((nI (3 * k)) &&& 31)) 10)) 1 (by omega) (by assumption) (sn_le hI (by omega) (by assumption)) (zOu_n (by omega) (by decide))) ml_L_59 zy_X6_ifAsked im_X6_ifAsked se_X6_ifAsked ⟨Nat.le_of_ble_eq_true rfl, Nat.le_of_ble_eq_true rfl⟩ hK hP [0, 2, 3, 4, 5, 6, 7, 8, 9, 10, 11, 12] rfl rfl rfl rfl rfl hl.1 rfl (Nat.le_of_ble_eq_true rfl) ⟨Nat.zero_le _, Nat.zero_le _⟩ dL_holds_138 ?_
          refine lv_bipush (v := 6) hx hb dL_holds_141 (by decide) ?_
          refine lv_icmp_le (tgt := 148) hx hb dL_holds_143 (by decide) (fun c_143_9 => ?_) (fun h => False.elim (by exact h (cost_6 _ _ _)))
          refine lv_iinc (v := nI (k + 1)) (lv' := [(4, .int (nI (k + 1))), (3, .int u), (6, .int (nI (zlow (w >>> ((nI (3 * k)) &&& 31)) 10))), (5, .int (Z.2.1.1 k)), (0, .ref (y 0)), (1, .int w), (2, .int Z.1.2.2.2.2.1)]) hx hb dL_holds_148 hl (k := 6) rfl (zinc k 1) (by decide) rfl (fun ls hl => ?_)
          refine lv_goto (tgt := 11) hx hb dL_holds_151 (by decide) ?_
          exact ih (k + 1) u ls (by omega) (by rw [j2]; simp only [zlea, c_14_3, c_41_4, c_47_5, c_82_6, c_105_7, c_128_8, c_143_9, if_true, if_false]) (lv_sub hl [4, 5, 6, 1, 0] rfl)
        · refine lv_iload hx hb dL_holds_50 (lv_at hl 1 rfl) ?_
          refine lv_goto (tgt := 56) hx hb dL_holds_52 (by decide) ?_
          refine lv_istore_n (lv' := [(3, .int (Z.2.1.1 k)), (6, .int (nI (zlow (w >>> ((nI (3 * k)) &&& 31)) 10))), (5, .int (Z.2.1.1 k)), (0, .ref (y 0)), (1, .int w), (2, .int Z.1.2.2.2.2.1), (4, .int (nI k))]) hx hb dL_holds_56 rfl hl (by decide) rfl (fun ls hl => ?_)
          refine lv_iload hx hb dL_holds_57 (lv_at hl 2 rfl) ?_
          refine lv_if_lt (tgt := 148) hx hb dL_holds_59 (by decide) (fun h => by first | exact absurd h c_41_4 | exact absurd c_41_4 h) (fun _ => ?_)
          refine lv_aload_n hx hb dL_holds_62 rfl (lv_at hl 3 rfl) ?_
          refine lv_iload hx hb dL_holds_63 (lv_at hl 2 rfl) ?_
          refine lv_iload hx hb dL_holds_65 (lv_at hl 1 rfl) ?_
          refine lv_iconst (v := 1) hx hb dL_holds_67 (by decide) ?_
          refine lv_iconst (v := 0) hx hb dL_holds_68 (by decide) ?_
          refine zcr (As := [.int (Z.2.1.1 k), .int (nI (zlow (w >>> ((nI (3 * k)) &&& 31)) 10)), .int 1, .int 0]) (rest := []) (q0 := 0) S (c_X6_ifAsked_C0 l D ca y a h x Z (Z.2.1.1 k) (nI (zlow (w >>> ((nI (3 * k)) &&& 31)) 10)) 1 (by omega) (by assumption) (sn_le hI (by omega) (by assumption)) (zOu_n (by omega) (by decide))) ml_L_59 zy_X6_ifAsked im_X6_ifAsked se_X6_ifAsked ⟨Nat.le_of_ble_eq_true rfl, Nat.le_of_ble_eq_true rfl⟩ hK hP [0, 2, 3, 4, 5, 6, 7, 8, 9, 10, 11, 12] rfl rfl rfl rfl rfl hl.1 rfl (Nat.le_of_ble_eq_true rfl) ⟨Nat.zero_le _, Nat.zero_le _⟩ dL_holds_69 ?_
          refine lv_aload_n hx hb dL_holds_72 rfl (lv_at hl 3 rfl) ?_
          refine lv_iload hx hb dL_holds_73 (lv_at hl 2 rfl) ?_
          refine lv_iload hx hb dL_holds_75 (lv_at hl 1 rfl) ?_
          refine lv_iconst (v := 0) hx hb dL_holds_77 (by decide) ?_
          refine lv_iconst (v := 0) hx hb dL_holds_78 (by decide) ?_
          refine zcr (As := [.int (Z.2.1.1 k), .int (nI (zlow (w >>> ((nI (3 * k)) &&& 31)) 10)), .int 0, .int 0]) (rest := [.int (zAns Z.1 (Z.2.1.1 k) (nI (zlow (w >>> ((nI (3 * k)) &&& 31)) 10)) 1)]) (q0 := 0) S (c_X6_ifAsked_C0 l D ca y a h x Z (Z.2.1.1 k) (nI (zlow (w >>> ((nI (3 * k)) &&& 31)) 10)) 0 (by omega) (by assumption) (sn_le hI (by omega) (by assumption)) (zOu_n (by omega) (by decide))) ml_L_59 zy_X6_ifAsked im_X6_ifAsked se_X6_ifAsked ⟨Nat.le_of_ble_eq_true rfl, Nat.le_of_ble_eq_true rfl⟩ hK hP [0, 2, 3, 4, 5, 6, 7, 8, 9, 10, 11, 12] rfl rfl rfl rfl rfl hl.1 rfl (Nat.le_of_ble_eq_true rfl) ⟨Nat.zero_le _, Nat.zero_le _⟩ dL_holds_79 ?_
          refine lv_icmp_ne (tgt := 146) hx hb dL_holds_82 (by decide) (fun h => False.elim (by exact h (ans_10 _ _ _))) (fun c_82_10 => ?_)
          refine lv_aload_n hx hb dL_holds_85 rfl (lv_at hl 3 rfl) ?_
          refine lv_iload hx hb dL_holds_86 (lv_at hl 2 rfl) ?_
          refine lv_iload hx hb dL_holds_88 (lv_at hl 1 rfl) ?_
          refine lv_iconst (v := 2) hx hb dL_holds_90 (by decide) ?_
          refine lv_iconst (v := 0) hx hb dL_holds_91 (by decide) ?_
          refine zcr (As := [.int (Z.2.1.1 k), .int (nI (zlow (w >>> ((nI (3 * k)) &&& 31)) 10)), .int 2, .int 0]) (rest := []) (q0 := 0) S (c_X6_ifAsked_C0 l D ca y a h x Z (Z.2.1.1 k) (nI (zlow (w >>> ((nI (3 * k)) &&& 31)) 10)) 2 (by omega) (by assumption) (sn_le hI (by omega) (by assumption)) (zOu_n (by omega) (by decide))) ml_L_59 zy_X6_ifAsked im_X6_ifAsked se_X6_ifAsked ⟨Nat.le_of_ble_eq_true rfl, Nat.le_of_ble_eq_true rfl⟩ hK hP [0, 2, 3, 4, 5, 6, 7, 8, 9, 10, 11, 12] rfl rfl rfl rfl rfl hl.1 rfl (Nat.le_of_ble_eq_true rfl) ⟨Nat.zero_le _, Nat.zero_le _⟩ dL_holds_92 ?_
          refine lv_aload_n hx hb dL_holds_95 rfl (lv_at hl 3 rfl) ?_
          refine lv_iload hx hb dL_holds_96 (lv_at hl 2 rfl) ?_
          refine lv_iload hx hb dL_holds_98 (lv_at hl 1 rfl) ?_
          refine lv_iconst (v := 0) hx hb dL_holds_100 (by decide) ?_
          refine lv_iconst (v := 0) hx hb dL_holds_101 (by decide) ?_
          refine zcr (As := [.int (Z.2.1.1 k), .int (nI (zlow (w >>> ((nI (3 * k)) &&& 31)) 10)), .int 0, .int 0]) (rest := [.int (zAns Z.1 (Z.2.1.1 k) (nI (zlow (w >>> ((nI (3 * k)) &&& 31)) 10)) 2)]) (q0 := 0) S (c_X6_ifAsked_C0 l D ca y a h x Z (Z.2.1.1 k) (nI (zlow (w >>> ((nI (3 * k)) &&& 31)) 10)) 0 (by omega) (by assumption) (sn_le hI (by omega) (by assumption)) (zOu_n (by omega) (by decide))) ml_L_59 zy_X6_ifAsked im_X6_ifAsked se_X6_ifAsked ⟨Nat.le_of_ble_eq_true rfl, Nat.le_of_ble_eq_true rfl⟩ hK hP [0, 2, 3, 4, 5, 6, 7, 8, 9, 10, 11, 12] rfl rfl rfl rfl rfl hl.1 rfl (Nat.le_of_ble_eq_true rfl) ⟨Nat.zero_le _, Nat.zero_le _⟩ dL_holds_102 ?_
          refine lv_icmp_ne (tgt := 146) hx hb dL_holds_105 (by decide) (fun h => False.elim (by exact h (ans_20 hI (by omega) (by assumption) (by omega)))) (fun c_105_11 => ?_)
          refine lv_aload_n hx hb dL_holds_108 rfl (lv_at hl 3 rfl) ?_
          refine lv_iload hx hb dL_holds_109 (lv_at hl 2 rfl) ?_
          refine lv_iload hx hb dL_holds_111 (lv_at hl 1 rfl) ?_
          refine lv_iconst (v := 2) hx hb dL_holds_113 (by decide) ?_
          refine lv_iconst (v := 1) hx hb dL_holds_114 (by decide) ?_
          refine zcr (As := [.int (Z.2.1.1 k), .int (nI (zlow (w >>> ((nI (3 * k)) &&& 31)) 10)), .int 2, .int 1]) (rest := []) (q0 := 0) S (c_X6_ifAsked_C1 l D ca y a h x Z (Z.2.1.1 k) (nI (zlow (w >>> ((nI (3 * k)) &&& 31)) 10)) 2 (by omega) (by assumption) (sn_le hI (by omega) (by assumption)) (zOu_n (by omega) (by decide))) ml_L_59 zy_X6_ifAsked im_X6_ifAsked se_X6_ifAsked ⟨Nat.le_of_ble_eq_true rfl, Nat.le_of_ble_eq_true rfl⟩ hK hP [0, 2, 3, 4, 5, 6, 7, 8, 9, 10, 11, 12] rfl rfl rfl rfl rfl hl.1 rfl (Nat.le_of_ble_eq_true rfl) ⟨Nat.zero_le _, Nat.zero_le _⟩ dL_holds_115 ?_
          refine lv_aload_n hx hb dL_holds_118 rfl (lv_at hl 3 rfl) ?_
          refine lv_iload hx hb dL_holds_119 (lv_at hl 2 rfl) ?_
          refine lv_iload hx hb dL_holds_121 (lv_at hl 1 rfl) ?_
          refine lv_iconst (v := 1) hx hb dL_holds_123 (by decide) ?_
          refine lv_iconst (v := 1) hx hb dL_holds_124 (by decide) ?_
          refine zcr (As := [.int (Z.2.1.1 k), .int (nI (zlow (w >>> ((nI (3 * k)) &&& 31)) 10)), .int 1, .int 1]) (rest := [.int (zCost Z.1 (Z.2.1.1 k) (nI (zlow (w >>> ((nI (3 * k)) &&& 31)) 10)) 2)]) (q0 := 0) S (c_X6_ifAsked_C1 l D ca y a h x Z (Z.2.1.1 k) (nI (zlow (w >>> ((nI (3 * k)) &&& 31)) 10)) 1 (by omega) (by assumption) (sn_le hI (by omega) (by assumption)) (zOu_n (by omega) (by decide))) ml_L_59 zy_X6_ifAsked im_X6_ifAsked se_X6_ifAsked ⟨Nat.le_of_ble_eq_true rfl, Nat.le_of_ble_eq_true rfl⟩ hK hP [0, 2, 3, 4, 5, 6, 7, 8, 9, 10, 11, 12] rfl rfl rfl rfl rfl hl.1 rfl (Nat.le_of_ble_eq_true rfl) ⟨Nat.zero_le _, Nat.zero_le _⟩ dL_holds_125 ?_
          refine lv_icmp_gt (tgt := 146) hx hb dL_holds_128 (by decide) (fun h => False.elim (by exact absurd h (cost_21 _ _ _))) (fun c_128_12 => ?_)
          refine lv_aload_n hx hb dL_holds_131 rfl (lv_at hl 3 rfl) ?_
          refine lv_iload hx hb dL_holds_132 (lv_at hl 2 rfl) ?_
          refine lv_iload hx hb dL_holds_134 (lv_at hl 1 rfl) ?_
          refine lv_iconst (v := 1) hx hb dL_holds_136 (by decide) ?_
          refine lv_iconst (v := 1) hx hb dL_holds_137 (by decide) ?_
          refine zcr (As := [.int (Z.2.1.1 k), .int (nI (zlow (w >>> ((nI (3 * k)) &&& 31)) 10)), .int 1, .int 1]) (rest := []) (q0 := 0) S (c_X6_ifAsked_C1 l D ca y a h x Z (Z.2.1.1 k) (nI (zlow (w >>> ((nI (3 * k)) &&& 31)) 10)) 1 (by omega) (by assumption) (sn_le hI (by omega) (by assumption)) (zOu_n (by omega) (by decide))) ml_L_59 zy_X6_ifAsked im_X6_ifAsked se_X6_ifAsked ⟨Nat.le_of_ble_eq_true rfl, Nat.le_of_ble_eq_true rfl⟩ hK hP [0, 2, 3, 4, 5, 6, 7, 8, 9, 10, 11, 12] rfl rfl rfl rfl rfl hl.1 rfl (Nat.le_of_ble_eq_true rfl) ⟨Nat.zero_le _, Nat.zero_le _⟩ dL_holds_138 ?_
          refine lv_bipush (v := 6) hx hb dL_holds_141 (by decide) ?_
          refine lv_icmp_le (tgt := 148) hx hb dL_holds_143 (by decide) (fun c_143_13 => ?_) (fun h => False.elim (by exact h (cost_6 _ _ _)))
          refine lv_iinc (v := nI (k + 1)) (lv' := [(4, .int (nI (k + 1))), (3, .int (Z.2.1.1 k)), (6, .int (nI (zlow (w >>> ((nI (3 * k)) &&& 31)) 10))), (5, .int (Z.2.1.1 k)), (0, .ref (y 0)), (1, .int w), (2, .int Z.1.2.2.2.2.1)]) hx hb dL_holds_148 hl (k := 6) rfl (zinc k 1) (by decide) rfl (fun ls hl => ?_)
          refine lv_goto (tgt := 11) hx hb dL_holds_151 (by decide) ?_
          exact ih (k + 1) (Z.2.1.1 k) ls (by omega) (by rw [j2]; simp only [zlea, c_14_3, c_41_4, c_47_5, c_82_10, c_105_11, c_128_12, c_143_13, if_true, if_false]) (lv_sub hl [4, 5, 6, 1, 0] rfl)
  exact loop_0 4 0 Z.1.2.2.2.2.1 ls (by omega) (by exact zhor_lea hI) (lv_sub hl [3, 4, 2, 1, 0] rfl)
theorem c_L_holds (l : Launch) (D : va_G) (ca : Nat → ClassId) (y a h x : Nat → Nat) (Z : zSt) (nx sz : Nat) (hsz : sz ≤ 6) (B : Nat) (hI : zIv Z B) (w : Int32) : zMr l yL_holds cL_holds 9 (some .boolean) 4 94 D ca [(y 0, .inr (6, [.ref (a 0), .ref (h 0), .ref (x 0)])), (h 0, .inr (1, [.ref (h 1), .int (nI nx), .int (nI sz)])), (a 0, .inr (2, [.ref (a 1), .ref (a 6), .ref (a 9)])), (a 1, .inr (3, [.ref (a 2), .ref (a 3), .ref (a 4), .ref (a 5), .int Z.1.2.2.2.2.1, .int Z.1.2.2.2.2.2])), (a 2, .inl (ca 0, 24, .inl Z.1.1)), (a 3, .inl (ca 0, 24, .inl Z.1.2.1)), (a 4, .inl (ca 0, 24, .inl Z.1.2.2.1)), (a 5, .inl (ca 0, 6, .inl Z.1.2.2.2.1)), (a 6, .inr (0, [.ref (a 7), .ref (a 8)])), (a 7, .inl (ca 0, 4, .inl Z.2.1.1)), (a 8, .inl (ca 0, 4, .inl Z.2.1.2)), (a 9, .inr (4, [.ref (a 10), .int Z.2.2.2.1, .int Z.2.2.2.2])), (a 10, .inl (ca 0, 3, .inl Z.2.2.1))] [.ref (y 0), .int w] (.int (zb true)) := by
  refine zMr_of (own := RL) (by decide) rfl (Nat.le_of_ble_eq_true rfl) ?_
  intro p e s m args below meth c ls S hr hlk hP hK hl
  exact h_L_holds_1 l D ca y a h x Z nx sz hsz B hI w (mp_ok2 Z.1) p e s m args below meth c ls S hr hlk hP hK hl
