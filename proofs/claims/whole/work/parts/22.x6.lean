set_option maxHeartbeats 4000000 in
set_option maxRecDepth 100000 in
theorem c_X6_isOutside (l : Launch) (D : va_G) (ca : Nat → ClassId) (v u : Int32) : zMr l yX6_isOutside cX6_isOutside 2 (some .boolean) 0 0 D ca [] [.int v, .int u] (.int (zb (zOu v u))) := by
  refine zMr_of (own := RX6) (by decide) rfl (Nat.le_of_ble_eq_true rfl) ?_
  intro p e s m args below meth c ls S hr hlk hP hK hl
  have hx := S.1
  have hb := S.2.1
  have hl : lv_has ls 2 [(0, .int v), (1, .int u)] := hl
  refine lv_iload_n hx hb dX6_isOutside_0 rfl (lv_at hl 0 rfl) ?_
  refine lv_if_lt (tgt := 9) hx hb dX6_isOutside_1 (by decide) (fun c_1_1 => ?_) (fun c_1_1 => ?_)
  · refine lv_iconst (v := 1) hx hb dX6_isOutside_9 (by decide) ?_
    refine lv_goto (tgt := 14) hx hb dX6_isOutside_10 (by decide) ?_
    exact zr_z hx hb hr hlk (by simp [zOu, zb, c_1_1]) dX6_isOutside_14
  · refine lv_iload_n hx hb dX6_isOutside_4 rfl (lv_at hl 0 rfl) ?_
    refine lv_iload_n hx hb dX6_isOutside_5 rfl (lv_at hl 1 rfl) ?_
    refine lv_icmp_lt (tgt := 13) hx hb dX6_isOutside_6 (by decide) (fun c_6_2 => ?_) (fun c_6_2 => ?_)
    · refine lv_iconst (v := 0) hx hb dX6_isOutside_13 (by decide) ?_
      exact zr_z hx hb hr hlk (by simp [zOu, zb, c_1_1, c_6_2]) dX6_isOutside_14
    · refine lv_iconst (v := 1) hx hb dX6_isOutside_9 (by decide) ?_
      refine lv_goto (tgt := 14) hx hb dX6_isOutside_10 (by decide) ?_
      exact zr_z hx hb hr hlk (by simp [zOu, zb, c_1_1, c_6_2]) dX6_isOutside_14
set_option maxHeartbeats 4000000 in
set_option maxRecDepth 100000 in
theorem c_X6_mix (l : Launch) (D : va_G) (ca : Nat → ClassId) (h v : Int64) : zMr l yX6_mix cX6_mix 4 (some .long) 0 0 D ca [] [.long h, .long v] (.long (zMix h v)) := by
  refine zMr_of (own := RX6) (by decide) rfl (Nat.le_of_ble_eq_true rfl) ?_
  intro p e s m args below meth c ls S hr hlk hP hK hl
  have hx := S.1
  have hb := S.2.1
  have hl : lv_has ls 4 [(0, .long h), (2, .long v)] := hl
  refine lv_ldc2 (v := 31) hx hb S.2.2.2.1 (S.2.2.2.2 _ kc_X6_289) dX6_mix_0 ?_
  refine lv_lload_n hx hb dX6_mix_3 rfl (lv_at hl 0 rfl) ?_
  refine lv_lmul hx hb dX6_mix_4 ?_
  refine lv_lload_n hx hb dX6_mix_5 rfl (lv_at hl 1 rfl) ?_
  refine lv_ladd hx hb dX6_mix_6 ?_
  exact zr_l hx hb hr hlk (by rfl) dX6_mix_7
set_option maxHeartbeats 4000000 in
set_option maxRecDepth 100000 in
theorem c_X6_slotNumber (l : Launch) (D : va_G) (ca : Nat → ClassId) (y a h x : Nat → Nat) (Z : zSt) (k w : Nat) (hk : k < 24) (hw : w < 4) : zMr l yX6_slotNumber cX6_slotNumber 4 (some .int) 2 43 D ca [(y 0, .inr (6, [.ref (a 0), .ref (h 0), .ref (x 0)])), (a 0, .inr (2, [.ref (a 1), .ref (a 6), .ref (a 9)])), (a 1, .inr (3, [.ref (a 2), .ref (a 3), .ref (a 4), .ref (a 5), .int Z.1.2.2.2.2.1, .int Z.1.2.2.2.2.2])), (a 2, .inl (ca 0, 24, .inl Z.1.1)), (a 3, .inl (ca 0, 24, .inl Z.1.2.1)), (a 4, .inl (ca 0, 24, .inl Z.1.2.2.1)), (a 5, .inl (ca 0, 6, .inl Z.1.2.2.2.1)), (a 6, .inr (0, [.ref (a 7), .ref (a 8)])), (a 7, .inl (ca 0, 4, .inl Z.2.1.1)), (a 8, .inl (ca 0, 4, .inl Z.2.1.2)), (a 9, .inr (4, [.ref (a 10), .int Z.2.2.2.1, .int Z.2.2.2.2])), (a 10, .inl (ca 0, 3, .inl Z.2.2.1))] [.ref (y 0), .int (nI k), .int (nI w)] (.int (zSl Z.1 k w)) := by
  refine zMr_of (own := RX6) (by decide) rfl (Nat.le_of_ble_eq_true rfl) ?_
  intro p e s m args below meth c ls S hr hlk hP hK hl
  have hx := S.1
  have hb := S.2.1
  have hl : lv_has ls 4 [(0, .ref (y 0)), (1, .int (nI k)), (2, .int (nI w))] := hl
  refine lv_aload_n hx hb dX6_slotNumber_0 rfl (lv_at hl 0 rfl) ?_
  refine z_get S in_lay_X6 hK hP rfl 0 rfl 0 (by decide) fl_X6_12 rfl rfl dX6_slotNumber_1 ?_
  refine z_get S in_lay_X2 hK hP rfl 1 rfl 0 (by decide) fl_X6_41 rfl rfl dX6_slotNumber_4 ?_
  refine lv_astore_n (lv' := [(3, .ref (a 1)), (0, .ref (y 0)), (1, .int (nI k)), (2, .int (nI w))]) hx hb dX6_slotNumber_7 rfl hl (by decide) rfl (fun ls hl => ?_)
  refine lv_iload_n hx hb dX6_slotNumber_8 rfl (lv_at hl 3 rfl) ?_
  by_cases w_9_1 : w = 0
  · refine z_tabIn hx hb (x := w) (k := 0) w_9_1 (by decide) dX6_slotNumber_9 (by decide) (by decide) rfl (by decide) ?_ (tgt := 36)
    refine lv_aload_n hx hb dX6_slotNumber_36 rfl (lv_at hl 0 rfl) ?_
    refine z_get S in_lay_X3 hK hP rfl 2 rfl 0 (by decide) fl_X6_78 rfl rfl dX6_slotNumber_37 ?_
    refine lv_iload_n hx hb dX6_slotNumber_40 rfl (lv_at hl 2 rfl) ?_
    refine z_iald S hK hP 3 rfl (j := k) (by omega) (by decide) dX6_slotNumber_41 ?_
    exact zr_i hx hb hr hlk (by simp [zSl, zb, w_9_1]) dX6_slotNumber_42
  by_cases w_9_2 : w = 1
  · refine z_tabIn hx hb (x := w) (k := 1) w_9_2 (by decide) dX6_slotNumber_9 (by decide) (by decide) rfl (by decide) ?_ (tgt := 43)
    refine lv_aload_n hx hb dX6_slotNumber_43 rfl (lv_at hl 0 rfl) ?_
    refine z_get S in_lay_X3 hK hP rfl 2 rfl 1 (by decide) fl_X6_233 rfl rfl dX6_slotNumber_44 ?_
    refine lv_iload_n hx hb dX6_slotNumber_47 rfl (lv_at hl 2 rfl) ?_
    refine z_iald S hK hP 4 rfl (j := k) (by omega) (by decide) dX6_slotNumber_48 ?_
    exact zr_i hx hb hr hlk (by simp [zSl, zb, w_9_1, w_9_2]) dX6_slotNumber_49
  by_cases w_9_3 : w = 2
  · refine z_tabIn hx hb (x := w) (k := 2) w_9_3 (by decide) dX6_slotNumber_9 (by decide) (by decide) rfl (by decide) ?_ (tgt := 50)
    refine lv_aload_n hx hb dX6_slotNumber_50 rfl (lv_at hl 0 rfl) ?_
    refine z_get S in_lay_X3 hK hP rfl 2 rfl 2 (by decide) fl_X6_236 rfl rfl dX6_slotNumber_51 ?_
    refine lv_iload_n hx hb dX6_slotNumber_54 rfl (lv_at hl 2 rfl) ?_
    refine z_iald S hK hP 5 rfl (j := k) (by omega) (by decide) dX6_slotNumber_55 ?_
    exact zr_i hx hb hr hlk (by simp [zSl, zb, w_9_1, w_9_2, w_9_3]) dX6_slotNumber_56
  refine z_tabOut hx hb (x := w) (by omega) dX6_slotNumber_9 (by omega) (by decide) ?_ (tgt := 57)
  refine lv_aload_n hx hb dX6_slotNumber_57 rfl (lv_at hl 0 rfl) ?_
  refine lv_iload_n hx hb dX6_slotNumber_58 rfl (lv_at hl 2 rfl) ?_
  refine zcr (As := [.int (nI k)]) (rest := []) (q0 := 0) S (c_X3_isSeenNow l D ca a Z.1 k (by omega)) ml_X6_69 zy_X3_isSeenNow im_X3_isSeenNow se_X3_isSeenNow ⟨Nat.le_of_ble_eq_true rfl, Nat.le_of_ble_eq_true rfl⟩ hK hP [2, 3, 4, 5, 6] rfl rfl rfl rfl rfl hl.1 rfl (Nat.le_of_ble_eq_true rfl) ⟨Nat.zero_le _, Nat.zero_le _⟩ dX6_slotNumber_59 ?_
  refine zz_eq (tgt := 69) hx hb dX6_slotNumber_62 (by decide) (fun c_62_4 => ?_) (fun c_62_4 => ?_)
  · refine lv_iconst (v := 0) hx hb dX6_slotNumber_69 (by decide) ?_
    exact zr_i hx hb hr hlk (by simp [zSl, zb, w_9_1, w_9_2, w_9_3, c_62_4]) dX6_slotNumber_70
  · refine lv_iconst (v := 1) hx hb dX6_slotNumber_65 (by decide) ?_
    refine lv_goto (tgt := 70) hx hb dX6_slotNumber_66 (by decide) ?_
    exact zr_i hx hb hr hlk (by simp [zSl, zb, w_9_1, w_9_2, w_9_3, c_62_4]) dX6_slotNumber_70
set_option maxHeartbeats 4000000 in
set_option maxRecDepth 100000 in
theorem c_X6_pageNumber (l : Launch) (D : va_G) (ca : Nat → ClassId) (y a h x : Nat → Nat) (Z : zSt) (k w : Nat) (hk : k < 6) (hw : w < 5) : zMr l yX6_pageNumber cX6_pageNumber 6 (some .int) 2 47 D ca [(y 0, .inr (6, [.ref (a 0), .ref (h 0), .ref (x 0)])), (a 0, .inr (2, [.ref (a 1), .ref (a 6), .ref (a 9)])), (a 1, .inr (3, [.ref (a 2), .ref (a 3), .ref (a 4), .ref (a 5), .int Z.1.2.2.2.2.1, .int Z.1.2.2.2.2.2])), (a 2, .inl (ca 0, 24, .inl Z.1.1)), (a 3, .inl (ca 0, 24, .inl Z.1.2.1)), (a 4, .inl (ca 0, 24, .inl Z.1.2.2.1)), (a 5, .inl (ca 0, 6, .inl Z.1.2.2.2.1)), (a 6, .inr (0, [.ref (a 7), .ref (a 8)])), (a 7, .inl (ca 0, 4, .inl Z.2.1.1)), (a 8, .inl (ca 0, 4, .inl Z.2.1.2)), (a 9, .inr (4, [.ref (a 10), .int Z.2.2.2.1, .int Z.2.2.2.2])), (a 10, .inl (ca 0, 3, .inl Z.2.2.1))] [.ref (y 0), .int (nI k), .int (nI w)] (.int (zPg Z k w)) := by
  refine zMr_of (own := RX6) (by decide) rfl (Nat.le_of_ble_eq_true rfl) ?_
  intro p e s m args below meth c ls S hr hlk hP hK hl
  have hx := S.1
  have hb := S.2.1
  have hl : lv_has ls 6 [(0, .ref (y 0)), (1, .int (nI k)), (2, .int (nI w))] := hl
  refine lv_aload_n hx hb dX6_pageNumber_0 rfl (lv_at hl 0 rfl) ?_
  refine z_get S in_lay_X6 hK hP rfl 0 rfl 0 (by decide) fl_X6_12 rfl rfl dX6_pageNumber_1 ?_
  refine z_get S in_lay_X2 hK hP rfl 1 rfl 0 (by decide) fl_X6_41 rfl rfl dX6_pageNumber_4 ?_
  refine lv_astore_n (lv' := [(3, .ref (a 1)), (0, .ref (y 0)), (1, .int (nI k)), (2, .int (nI w))]) hx hb dX6_pageNumber_7 rfl hl (by decide) rfl (fun ls hl => ?_)
  refine lv_iload_n hx hb dX6_pageNumber_8 rfl (lv_at hl 2 rfl) ?_
  refine lv_iconst (v := 4) hx hb dX6_pageNumber_9 (by decide) ?_
  refine zn_mul hx hb (x := k) (y := 4) (z := k * 4) (by first | rfl | omega) dX6_pageNumber_10 ?_
  refine lv_istore (lv' := [(4, .int (nI (k * 4))), (3, .ref (a 1)), (0, .ref (y 0)), (1, .int (nI k)), (2, .int (nI w))]) hx hb dX6_pageNumber_11 hl (by decide) rfl (fun ls hl => ?_)
  refine lv_iload hx hb dX6_pageNumber_13 (lv_at hl 0 rfl) ?_
  refine lv_iconst (v := 4) hx hb dX6_pageNumber_15 (by decide) ?_
  refine zn_add hx hb (x := k * 4) (y := 4) (z := (k * 4) + 4) (by omega) dX6_pageNumber_16 ?_
  refine lv_istore (lv' := [(5, .int (nI ((k * 4) + 4))), (4, .int (nI (k * 4))), (3, .ref (a 1)), (0, .ref (y 0)), (1, .int (nI k)), (2, .int (nI w))]) hx hb dX6_pageNumber_17 hl (by decide) rfl (fun ls hl => ?_)
  refine lv_iload_n hx hb dX6_pageNumber_19 rfl (lv_at hl 5 rfl) ?_
  by_cases w_20_1 : w = 0
  · refine z_tabIn hx hb (x := w) (k := 0) w_20_1 (by decide) dX6_pageNumber_20 (by decide) (by decide) rfl (by decide) ?_ (tgt := 52)
    refine lv_aload_n hx hb dX6_pageNumber_52 rfl (lv_at hl 2 rfl) ?_
    refine lv_iload_n hx hb dX6_pageNumber_53 rfl (lv_at hl 4 rfl) ?_
    refine zcr (As := [.int (nI k)]) (rest := []) (q0 := 0) S (c_X3_isMarked l D ca a Z.1 k (by omega)) ml_X6_239 zy_X3_isMarked im_X3_isMarked se_X3_isMarked ⟨Nat.le_of_ble_eq_true rfl, Nat.le_of_ble_eq_true rfl⟩ hK hP [2, 3, 4, 5, 6] rfl rfl rfl rfl rfl hl.1 rfl (Nat.le_of_ble_eq_true rfl) ⟨Nat.zero_le _, Nat.zero_le _⟩ dX6_pageNumber_54 ?_
    refine zz_eq (tgt := 64) hx hb dX6_pageNumber_57 (by decide) (fun c_57_2 => ?_) (fun c_57_2 => ?_)
    · refine lv_iconst (v := 0) hx hb dX6_pageNumber_64 (by decide) ?_
      exact zr_i hx hb hr hlk (by simp [zPg, zb, w_20_1, c_57_2]) dX6_pageNumber_65
    · refine lv_iconst (v := 1) hx hb dX6_pageNumber_60 (by decide) ?_
      refine lv_goto (tgt := 65) hx hb dX6_pageNumber_61 (by decide) ?_
      exact zr_i hx hb hr hlk (by simp [zPg, zb, w_20_1, c_57_2]) dX6_pageNumber_65
  by_cases w_20_3 : w = 1
  · refine z_tabIn hx hb (x := w) (k := 1) w_20_3 (by decide) dX6_pageNumber_20 (by decide) (by decide) rfl (by decide) ?_ (tgt := 66)
    refine lv_aload_n hx hb dX6_pageNumber_66 rfl (lv_at hl 2 rfl) ?_
    refine lv_iload hx hb dX6_pageNumber_67 (lv_at hl 1 rfl) ?_
    refine lv_iload hx hb dX6_pageNumber_69 (lv_at hl 0 rfl) ?_
    refine zcr (As := [.int (nI (k * 4)), .int (nI ((k * 4) + 4))]) (rest := []) (q0 := 0) S (c_X3_versions l D ca a Z.1 (k * 4) 4 (by omega)) ml_X6_242 zy_X3_versions im_X3_versions se_X3_versions ⟨Nat.le_of_ble_eq_true rfl, Nat.le_of_ble_eq_true rfl⟩ hK hP [2, 3, 4, 5, 6] rfl rfl rfl rfl rfl hl.1 rfl (Nat.le_of_ble_eq_true rfl) ⟨Nat.zero_le _, Nat.zero_le _⟩ dX6_pageNumber_71 ?_
    exact zr_i hx hb hr hlk (by simp [zPg, zb, w_20_1, w_20_3]) dX6_pageNumber_74
  by_cases w_20_4 : w = 2
  · refine z_tabIn hx hb (x := w) (k := 2) w_20_4 (by decide) dX6_pageNumber_20 (by decide) (by decide) rfl (by decide) ?_ (tgt := 75)
    refine lv_aload_n hx hb dX6_pageNumber_75 rfl (lv_at hl 2 rfl) ?_
    refine lv_iload hx hb dX6_pageNumber_76 (lv_at hl 1 rfl) ?_
    refine lv_iload hx hb dX6_pageNumber_78 (lv_at hl 0 rfl) ?_
    refine lv_aload_n hx hb dX6_pageNumber_80 rfl (lv_at hl 2 rfl) ?_
    refine z_get S in_lay_X3 hK hP rfl 2 rfl 4 (by decide) fl_X6_99 rfl rfl dX6_pageNumber_81 ?_
    refine zcr (As := [.int (nI (k * 4)), .int (nI ((k * 4) + 4)), .int Z.1.2.2.2.2.1]) (rest := []) (q0 := 0) S (c_X3_versionsSeen l D ca a Z.1 (k * 4) 4 (by omega) Z.1.2.2.2.2.1) ml_X6_245 zy_X3_versionsSeen im_X3_versionsSeen se_X3_versionsSeen ⟨Nat.le_of_ble_eq_true rfl, Nat.le_of_ble_eq_true rfl⟩ hK hP [2, 3, 4, 5, 6] rfl rfl rfl rfl rfl hl.1 rfl (Nat.le_of_ble_eq_true rfl) ⟨Nat.zero_le _, Nat.zero_le _⟩ dX6_pageNumber_84 ?_
    exact zr_i hx hb hr hlk (by simp [zPg, zb, w_20_1, w_20_3, w_20_4]) dX6_pageNumber_87
  by_cases w_20_5 : w = 3
  · refine z_tabIn hx hb (x := w) (k := 3) w_20_5 (by decide) dX6_pageNumber_20 (by decide) (by decide) rfl (by decide) ?_ (tgt := 88)
    refine lv_aload_n hx hb dX6_pageNumber_88 rfl (lv_at hl 2 rfl) ?_
    refine lv_iload hx hb dX6_pageNumber_89 (lv_at hl 1 rfl) ?_
    refine lv_iload hx hb dX6_pageNumber_91 (lv_at hl 0 rfl) ?_
    refine lv_aload_n hx hb dX6_pageNumber_93 rfl (lv_at hl 3 rfl) ?_
    refine z_get S in_lay_X6 hK hP rfl 0 rfl 0 (by decide) fl_X6_12 rfl rfl dX6_pageNumber_94 ?_
    refine zcr (As := []) (rest := [.int (nI ((k * 4) + 4)), .int (nI (k * 4)), .ref (a 1)]) (q0 := 0) S (c_X2_horizon l D ca a Z) ml_X6_107 zy_X2_horizon im_X2_horizon se_X2_horizon ⟨Nat.le_of_ble_eq_true rfl, Nat.le_of_ble_eq_true rfl⟩ hK hP [1, 2, 7, 8] rfl rfl rfl rfl rfl hl.1 rfl (Nat.le_of_ble_eq_true rfl) ⟨Nat.zero_le _, Nat.zero_le _⟩ dX6_pageNumber_97 ?_
    refine zcr (As := [.int (nI (k * 4)), .int (nI ((k * 4) + 4)), .int (zHor Z)]) (rest := []) (q0 := 0) S (c_X3_versionsToTakeOut l D ca a Z.1 (k * 4) 4 (by omega) (zHor Z)) ml_X6_248 zy_X3_versionsToTakeOut im_X3_versionsToTakeOut se_X3_versionsToTakeOut ⟨Nat.le_of_ble_eq_true rfl, Nat.le_of_ble_eq_true rfl⟩ hK hP [2, 3, 4, 5, 6] rfl rfl rfl rfl rfl hl.1 rfl (Nat.le_of_ble_eq_true rfl) ⟨Nat.zero_le _, Nat.zero_le _⟩ dX6_pageNumber_100 ?_
    exact zr_i hx hb hr hlk (by simp [zPg, zb, w_20_1, w_20_3, w_20_4, w_20_5]) dX6_pageNumber_103
  refine z_tabOut hx hb (x := w) (by omega) dX6_pageNumber_20 (by omega) (by decide) ?_ (tgt := 104)
  refine lv_aload_n hx hb dX6_pageNumber_104 rfl (lv_at hl 2 rfl) ?_
  refine z_get S in_lay_X3 hK hP rfl 2 rfl 3 (by decide) fl_X6_251 rfl rfl dX6_pageNumber_105 ?_
  refine lv_iload_n hx hb dX6_pageNumber_108 rfl (lv_at hl 4 rfl) ?_
  refine z_iald S hK hP 6 rfl (j := k) (by omega) (by decide) dX6_pageNumber_109 ?_
  exact zr_i hx hb hr hlk (by simp [zPg, zb, w_20_1, w_20_3, w_20_4, w_20_5]) dX6_pageNumber_110
set_option maxHeartbeats 4000000 in
set_option maxRecDepth 100000 in
theorem c_X6_askerNumber (l : Launch) (D : va_G) (ca : Nat → ClassId) (y a h x : Nat → Nat) (Z : zSt) (k w : Nat) (hk : k < 4) (hw : w < 3) : zMr l yX6_askerNumber cX6_askerNumber 4 (some .int) 2 47 D ca [(y 0, .inr (6, [.ref (a 0), .ref (h 0), .ref (x 0)])), (a 0, .inr (2, [.ref (a 1), .ref (a 6), .ref (a 9)])), (a 1, .inr (3, [.ref (a 2), .ref (a 3), .ref (a 4), .ref (a 5), .int Z.1.2.2.2.2.1, .int Z.1.2.2.2.2.2])), (a 2, .inl (ca 0, 24, .inl Z.1.1)), (a 3, .inl (ca 0, 24, .inl Z.1.2.1)), (a 4, .inl (ca 0, 24, .inl Z.1.2.2.1)), (a 5, .inl (ca 0, 6, .inl Z.1.2.2.2.1)), (a 6, .inr (0, [.ref (a 7), .ref (a 8)])), (a 7, .inl (ca 0, 4, .inl Z.2.1.1)), (a 8, .inl (ca 0, 4, .inl Z.2.1.2)), (a 9, .inr (4, [.ref (a 10), .int Z.2.2.2.1, .int Z.2.2.2.2])), (a 10, .inl (ca 0, 3, .inl Z.2.2.1))] [.ref (y 0), .int (nI k), .int (nI w)] (.int (zAs Z k w)) := by
  refine zMr_of (own := RX6) (by decide) rfl (Nat.le_of_ble_eq_true rfl) ?_
  intro p e s m args below meth c ls S hr hlk hP hK hl
  have hx := S.1
  have hb := S.2.1
  have hl : lv_has ls 4 [(0, .ref (y 0)), (1, .int (nI k)), (2, .int (nI w))] := hl
  refine lv_aload_n hx hb dX6_askerNumber_0 rfl (lv_at hl 0 rfl) ?_
  refine z_get S in_lay_X6 hK hP rfl 0 rfl 0 (by decide) fl_X6_12 rfl rfl dX6_askerNumber_1 ?_
  refine z_get S in_lay_X2 hK hP rfl 1 rfl 1 (by decide) fl_X6_90 rfl rfl dX6_askerNumber_4 ?_
  refine z_get S in_lay_X0 hK hP rfl 7 rfl 0 (by decide) fl_X6_94 rfl rfl dX6_askerNumber_7 ?_
  refine lv_iload_n hx hb dX6_askerNumber_10 rfl (lv_at hl 1 rfl) ?_
  refine z_iald S hK hP 8 rfl (j := k) (by omega) (by decide) dX6_askerNumber_11 ?_
  refine lv_istore_n (lv' := [(3, .int (Z.2.1.1 k)), (0, .ref (y 0)), (1, .int (nI k)), (2, .int (nI w))]) hx hb dX6_askerNumber_12 rfl hl (by decide) rfl (fun ls hl => ?_)
  refine lv_iload_n hx hb dX6_askerNumber_13 rfl (lv_at hl 3 rfl) ?_
  by_cases w_14_1 : w = 0
  · refine z_look (x := w) (k := 0) hx hb w_14_1 (by decide) dX6_askerNumber_14 (by decide) rfl (by decide) ?_ (tgt := 40)
    refine lv_iload_n hx hb dX6_askerNumber_40 rfl (lv_at hl 0 rfl) ?_
    exact zr_i hx hb hr hlk (by simp [zAs, zb, w_14_1]) dX6_askerNumber_41
  by_cases w_14_2 : w = 1
  · refine z_look (x := w) (k := 1) hx hb w_14_2 (by decide) dX6_askerNumber_14 (by decide) rfl (by decide) ?_ (tgt := 42)
    refine lv_iload_n hx hb dX6_askerNumber_42 rfl (lv_at hl 0 rfl) ?_
    refine lv_iconst (v := (-1)) hx hb dX6_askerNumber_43 (by decide) ?_
    refine lv_icmp_ne (tgt := 51) hx hb dX6_askerNumber_44 (by decide) (fun c_44_3 => ?_) (fun c_44_3 => ?_)
    · refine lv_aload_n hx hb dX6_askerNumber_51 rfl (lv_at hl 1 rfl) ?_
      refine z_get S in_lay_X6 hK hP rfl 0 rfl 0 (by decide) fl_X6_12 rfl rfl dX6_askerNumber_52 ?_
      refine z_get S in_lay_X2 hK hP rfl 1 rfl 0 (by decide) fl_X6_41 rfl rfl dX6_askerNumber_55 ?_
      refine lv_iconst (v := 0) hx hb dX6_askerNumber_58 (by decide) ?_
      refine lv_bipush (v := 24) hx hb dX6_askerNumber_59 (by decide) ?_
      refine lv_iload_n hx hb dX6_askerNumber_61 rfl (lv_at hl 0 rfl) ?_
      refine zcr (As := [.int 0, .int 24, .int (Z.2.1.1 k)]) (rest := []) (q0 := 0) S (c_X3_versionsSeen l D ca a Z.1 0 24 (by omega) (Z.2.1.1 k)) ml_X6_245 zy_X3_versionsSeen im_X3_versionsSeen se_X3_versionsSeen ⟨Nat.le_of_ble_eq_true rfl, Nat.le_of_ble_eq_true rfl⟩ hK hP [2, 3, 4, 5, 6] rfl rfl rfl rfl rfl hl.1 rfl (Nat.le_of_ble_eq_true rfl) ⟨Nat.zero_le _, Nat.zero_le _⟩ dX6_askerNumber_62 ?_
      exact zr_i hx hb hr hlk (by simp [zAs, zb, w_14_1, w_14_2, c_44_3]) dX6_askerNumber_65
    · refine lv_iconst (v := (-1)) hx hb dX6_askerNumber_47 (by decide) ?_
      refine lv_goto (tgt := 65) hx hb dX6_askerNumber_48 (by decide) ?_
      exact zr_i hx hb hr hlk (by simp [zAs, zb, w_14_1, w_14_2, c_44_3]) dX6_askerNumber_65
  refine z_look (x := w) (k := w) (off := 52) hx hb rfl (by omega) dX6_askerNumber_14 (by decide) (by show Op.lookupswitch.offset [(0, 26), (1, 28)] 52 _ = _; rw [Op.lookupswitch.offset_cons, if_neg (by omega), Op.lookupswitch.offset_cons, if_neg (by omega)] <;> rfl) (by decide) ?_ (tgt := 66)
  refine lv_aload_n hx hb dX6_askerNumber_66 rfl (lv_at hl 1 rfl) ?_
  refine z_get S in_lay_X6 hK hP rfl 0 rfl 0 (by decide) fl_X6_12 rfl rfl dX6_askerNumber_67 ?_
  refine z_get S in_lay_X2 hK hP rfl 1 rfl 1 (by decide) fl_X6_90 rfl rfl dX6_askerNumber_70 ?_
  refine z_get S in_lay_X0 hK hP rfl 7 rfl 1 (by decide) fl_X6_119 rfl rfl dX6_askerNumber_73 ?_
  refine lv_iload_n hx hb dX6_askerNumber_76 rfl (lv_at hl 2 rfl) ?_
  refine z_iald S hK hP 9 rfl (j := k) (by omega) (by decide) dX6_askerNumber_77 ?_
  exact zr_i hx hb hr hlk (by simp [zAs, zb, w_14_1, w_14_2]) dX6_askerNumber_78
set_option maxHeartbeats 4000000 in
set_option maxRecDepth 100000 in
theorem c_X6_countNumber (l : Launch) (D : va_G) (ca : Nat → ClassId) (y a h x : Nat → Nat) (Z : zSt) (nx sz : Nat) (hsz : sz ≤ 6) (w : Nat) (hw : w < 13) : zMr l yX6_countNumber cX6_countNumber 3 (some .int) 2 47 D ca [(y 0, .inr (6, [.ref (a 0), .ref (h 0), .ref (x 0)])), (h 0, .inr (1, [.ref (h 1), .int (nI nx), .int (nI sz)])), (a 0, .inr (2, [.ref (a 1), .ref (a 6), .ref (a 9)])), (a 1, .inr (3, [.ref (a 2), .ref (a 3), .ref (a 4), .ref (a 5), .int Z.1.2.2.2.2.1, .int Z.1.2.2.2.2.2])), (a 2, .inl (ca 0, 24, .inl Z.1.1)), (a 3, .inl (ca 0, 24, .inl Z.1.2.1)), (a 4, .inl (ca 0, 24, .inl Z.1.2.2.1)), (a 5, .inl (ca 0, 6, .inl Z.1.2.2.2.1)), (a 6, .inr (0, [.ref (a 7), .ref (a 8)])), (a 7, .inl (ca 0, 4, .inl Z.2.1.1)), (a 8, .inl (ca 0, 4, .inl Z.2.1.2)), (a 9, .inr (4, [.ref (a 10), .int Z.2.2.2.1, .int Z.2.2.2.2])), (a 10, .inl (ca 0, 3, .inl Z.2.2.1))] [.ref (y 0), .int (nI w)] (.int (zCo Z sz w)) := by
  refine zMr_of (own := RX6) (by decide) rfl (Nat.le_of_ble_eq_true rfl) ?_
  intro p e s m args below meth c ls S hr hlk hP hK hl
  have hx := S.1
  have hb := S.2.1
  have hl : lv_has ls 3 [(0, .ref (y 0)), (1, .int (nI w))] := hl
  refine lv_aload_n hx hb dX6_countNumber_0 rfl (lv_at hl 0 rfl) ?_
  refine z_get S in_lay_X6 hK hP rfl 0 rfl 0 (by decide) fl_X6_12 rfl rfl dX6_countNumber_1 ?_
  refine z_get S in_lay_X2 hK hP rfl 2 rfl 0 (by decide) fl_X6_41 rfl rfl dX6_countNumber_4 ?_
  refine lv_astore_n (lv' := [(2, .ref (a 1)), (0, .ref (y 0)), (1, .int (nI w))]) hx hb dX6_countNumber_7 rfl hl (by decide) rfl (fun ls hl => ?_)
  refine lv_iload_n hx hb dX6_countNumber_8 rfl (lv_at hl 2 rfl) ?_
  by_cases w_9_1 : w = 0
  · refine z_tabIn hx hb (x := w) (k := 0) w_9_1 (by decide) dX6_countNumber_9 (by decide) (by decide) rfl (by decide) ?_ (tgt := 72)
    refine lv_aload_n hx hb dX6_countNumber_72 rfl (lv_at hl 0 rfl) ?_
    refine z_get S in_lay_X3 hK hP rfl 3 rfl 4 (by decide) fl_X6_99 rfl rfl dX6_countNumber_73 ?_
    exact zr_i hx hb hr hlk (by simp [zCo, zb, w_9_1]) dX6_countNumber_76
  by_cases w_9_2 : w = 1
  · refine z_tabIn hx hb (x := w) (k := 1) w_9_2 (by decide) dX6_countNumber_9 (by decide) (by decide) rfl (by decide) ?_ (tgt := 77)
    refine lv_aload_n hx hb dX6_countNumber_77 rfl (lv_at hl 1 rfl) ?_
    refine z_get S in_lay_X6 hK hP rfl 0 rfl 0 (by decide) fl_X6_12 rfl rfl dX6_countNumber_78 ?_
    refine zcr (As := []) (rest := []) (q0 := 0) S (c_X2_horizon l D ca a Z) ml_X6_107 zy_X2_horizon im_X2_horizon se_X2_horizon ⟨Nat.le_of_ble_eq_true rfl, Nat.le_of_ble_eq_true rfl⟩ hK hP [2, 3, 8, 9] rfl rfl rfl rfl rfl hl.1 rfl (Nat.le_of_ble_eq_true rfl) ⟨Nat.zero_le _, Nat.zero_le _⟩ dX6_countNumber_81 ?_
    exact zr_i hx hb hr hlk (by simp [zCo, zb, w_9_1, w_9_2]) dX6_countNumber_84
  by_cases w_9_3 : w = 2
  · refine z_tabIn hx hb (x := w) (k := 2) w_9_3 (by decide) dX6_countNumber_9 (by decide) (by decide) rfl (by decide) ?_ (tgt := 85)
    refine lv_aload_n hx hb dX6_countNumber_85 rfl (lv_at hl 0 rfl) ?_
    refine lv_iconst (v := 0) hx hb dX6_countNumber_86 (by decide) ?_
    refine lv_bipush (v := 24) hx hb dX6_countNumber_87 (by decide) ?_
    refine zcr (As := [.int 0, .int 24]) (rest := []) (q0 := 0) S (c_X3_versions l D ca a Z.1 0 24 (by omega)) ml_X6_242 zy_X3_versions im_X3_versions se_X3_versions ⟨Nat.le_of_ble_eq_true rfl, Nat.le_of_ble_eq_true rfl⟩ hK hP [3, 4, 5, 6, 7] rfl rfl rfl rfl rfl hl.1 rfl (Nat.le_of_ble_eq_true rfl) ⟨Nat.zero_le _, Nat.zero_le _⟩ dX6_countNumber_89 ?_
    exact zr_i hx hb hr hlk (by simp [zCo, zb, w_9_1, w_9_2, w_9_3]) dX6_countNumber_92
  by_cases w_9_4 : w = 3
  · refine z_tabIn hx hb (x := w) (k := 3) w_9_4 (by decide) dX6_countNumber_9 (by decide) (by decide) rfl (by decide) ?_ (tgt := 93)
    refine lv_aload_n hx hb dX6_countNumber_93 rfl (lv_at hl 0 rfl) ?_
    refine lv_iconst (v := 0) hx hb dX6_countNumber_94 (by decide) ?_
    refine lv_bipush (v := 24) hx hb dX6_countNumber_95 (by decide) ?_
    refine lv_aload_n hx hb dX6_countNumber_97 rfl (lv_at hl 0 rfl) ?_
    refine z_get S in_lay_X3 hK hP rfl 3 rfl 4 (by decide) fl_X6_99 rfl rfl dX6_countNumber_98 ?_
    refine zcr (As := [.int 0, .int 24, .int Z.1.2.2.2.2.1]) (rest := []) (q0 := 0) S (c_X3_versionsSeen l D ca a Z.1 0 24 (by omega) Z.1.2.2.2.2.1) ml_X6_245 zy_X3_versionsSeen im_X3_versionsSeen se_X3_versionsSeen ⟨Nat.le_of_ble_eq_true rfl, Nat.le_of_ble_eq_true rfl⟩ hK hP [3, 4, 5, 6, 7] rfl rfl rfl rfl rfl hl.1 rfl (Nat.le_of_ble_eq_true rfl) ⟨Nat.zero_le _, Nat.zero_le _⟩ dX6_countNumber_101 ?_
    exact zr_i hx hb hr hlk (by simp [zCo, zb, w_9_1, w_9_2, w_9_3, w_9_4]) dX6_countNumber_104
  by_cases w_9_5 : w = 4
  · refine z_tabIn hx hb (x := w) (k := 4) w_9_5 (by decide) dX6_countNumber_9 (by decide) (by decide) rfl (by decide) ?_ (tgt := 105)
    refine lv_bipush (v := 24) hx hb dX6_countNumber_105 (by decide) ?_
    refine lv_aload_n hx hb dX6_countNumber_107 rfl (lv_at hl 0 rfl) ?_
    refine lv_iconst (v := 0) hx hb dX6_countNumber_108 (by decide) ?_
    refine lv_bipush (v := 24) hx hb dX6_countNumber_109 (by decide) ?_
    refine zcr (As := [.int 0, .int 24]) (rest := [.int 24]) (q0 := 0) S (c_X3_versions l D ca a Z.1 0 24 (by omega)) ml_X6_242 zy_X3_versions im_X3_versions se_X3_versions ⟨Nat.le_of_ble_eq_true rfl, Nat.le_of_ble_eq_true rfl⟩ hK hP [3, 4, 5, 6, 7] rfl rfl rfl rfl rfl hl.1 rfl (Nat.le_of_ble_eq_true rfl) ⟨Nat.zero_le _, Nat.zero_le _⟩ dX6_countNumber_111 ?_
    refine lv_isub hx hb dX6_countNumber_114 ?_
    exact zr_i hx hb hr hlk (by simp [zCo, zb, w_9_1, w_9_2, w_9_3, w_9_4, w_9_5]) dX6_countNumber_115
  by_cases w_9_6 : w = 5
  · refine z_tabIn hx hb (x := w) (k := 5) w_9_6 (by decide) dX6_countNumber_9 (by decide) (by decide) rfl (by decide) ?_ (tgt := 116)
    refine lv_aload_n hx hb dX6_countNumber_116 rfl (lv_at hl 0 rfl) ?_
    refine zcr (As := []) (rest := []) (q0 := 0) S (c_X3_markedPages l D ca a Z.1 ) ml_X6_114 zy_X3_markedPages im_X3_markedPages se_X3_markedPages ⟨Nat.le_of_ble_eq_true rfl, Nat.le_of_ble_eq_true rfl⟩ hK hP [3, 4, 5, 6, 7] rfl rfl rfl rfl rfl hl.1 rfl (Nat.le_of_ble_eq_true rfl) ⟨Nat.zero_le _, Nat.zero_le _⟩ dX6_countNumber_117 ?_
    exact zr_i hx hb hr hlk (by simp [zCo, zb, w_9_1, w_9_2, w_9_3, w_9_4, w_9_5, w_9_6]) dX6_countNumber_120
  by_cases w_9_7 : w = 6
  · refine z_tabIn hx hb (x := w) (k := 6) w_9_7 (by decide) dX6_countNumber_9 (by decide) (by decide) rfl (by decide) ?_ (tgt := 121)
    refine lv_aload_n hx hb dX6_countNumber_121 rfl (lv_at hl 1 rfl) ?_
    refine z_get S in_lay_X6 hK hP rfl 0 rfl 0 (by decide) fl_X6_12 rfl rfl dX6_countNumber_122 ?_
    refine z_get S in_lay_X2 hK hP rfl 2 rfl 2 (by decide) fl_X6_122 rfl rfl dX6_countNumber_125 ?_
    refine z_get S in_lay_X4 hK hP rfl 11 rfl 0 (by decide) fl_X6_254 rfl rfl dX6_countNumber_128 ?_
    refine lv_iconst (v := 0) hx hb dX6_countNumber_131 (by decide) ?_
    refine z_iald S hK hP 12 rfl (j := 0) (by omega) (by decide) dX6_countNumber_132 ?_
    exact zr_i hx hb hr hlk (by simp [zCo, zb, w_9_1, w_9_2, w_9_3, w_9_4, w_9_5, w_9_6, w_9_7]) dX6_countNumber_133
  by_cases w_9_8 : w = 7
  · refine z_tabIn hx hb (x := w) (k := 7) w_9_8 (by decide) dX6_countNumber_9 (by decide) (by decide) rfl (by decide) ?_ (tgt := 134)
    refine lv_aload_n hx hb dX6_countNumber_134 rfl (lv_at hl 1 rfl) ?_
    refine z_get S in_lay_X6 hK hP rfl 0 rfl 0 (by decide) fl_X6_12 rfl rfl dX6_countNumber_135 ?_
    refine z_get S in_lay_X2 hK hP rfl 2 rfl 2 (by decide) fl_X6_122 rfl rfl dX6_countNumber_138 ?_
    refine z_get S in_lay_X4 hK hP rfl 11 rfl 0 (by decide) fl_X6_254 rfl rfl dX6_countNumber_141 ?_
    refine lv_iconst (v := 1) hx hb dX6_countNumber_144 (by decide) ?_
    refine z_iald S hK hP 12 rfl (j := 1) (by omega) (by decide) dX6_countNumber_145 ?_
    exact zr_i hx hb hr hlk (by simp [zCo, zb, w_9_1, w_9_2, w_9_3, w_9_4, w_9_5, w_9_6, w_9_7, w_9_8]) dX6_countNumber_146
  by_cases w_9_9 : w = 8
  · refine z_tabIn hx hb (x := w) (k := 8) w_9_9 (by decide) dX6_countNumber_9 (by decide) (by decide) rfl (by decide) ?_ (tgt := 147)
    refine lv_aload_n hx hb dX6_countNumber_147 rfl (lv_at hl 1 rfl) ?_
    refine z_get S in_lay_X6 hK hP rfl 0 rfl 0 (by decide) fl_X6_12 rfl rfl dX6_countNumber_148 ?_
    refine z_get S in_lay_X2 hK hP rfl 2 rfl 2 (by decide) fl_X6_122 rfl rfl dX6_countNumber_151 ?_
    refine z_get S in_lay_X4 hK hP rfl 11 rfl 0 (by decide) fl_X6_254 rfl rfl dX6_countNumber_154 ?_
    refine lv_iconst (v := 2) hx hb dX6_countNumber_157 (by decide) ?_
    refine z_iald S hK hP 12 rfl (j := 2) (by omega) (by decide) dX6_countNumber_158 ?_
    exact zr_i hx hb hr hlk (by simp [zCo, zb, w_9_1, w_9_2, w_9_3, w_9_4, w_9_5, w_9_6, w_9_7, w_9_8, w_9_9]) dX6_countNumber_159
  by_cases w_9_10 : w = 9
  · refine z_tabIn hx hb (x := w) (k := 9) w_9_10 (by decide) dX6_countNumber_9 (by decide) (by decide) rfl (by decide) ?_ (tgt := 160)
    refine lv_aload_n hx hb dX6_countNumber_160 rfl (lv_at hl 1 rfl) ?_
    refine z_get S in_lay_X6 hK hP rfl 0 rfl 0 (by decide) fl_X6_12 rfl rfl dX6_countNumber_161 ?_
    refine z_get S in_lay_X2 hK hP rfl 2 rfl 2 (by decide) fl_X6_122 rfl rfl dX6_countNumber_164 ?_
    refine z_get S in_lay_X4 hK hP rfl 11 rfl 1 (by decide) fl_X6_255 rfl rfl dX6_countNumber_167 ?_
    exact zr_i hx hb hr hlk (by simp [zCo, zb, w_9_1, w_9_2, w_9_3, w_9_4, w_9_5, w_9_6, w_9_7, w_9_8, w_9_9, w_9_10]) dX6_countNumber_170
  by_cases w_9_11 : w = 10
  · refine z_tabIn hx hb (x := w) (k := 10) w_9_11 (by decide) dX6_countNumber_9 (by decide) (by decide) rfl (by decide) ?_ (tgt := 171)
    refine lv_aload_n hx hb dX6_countNumber_171 rfl (lv_at hl 1 rfl) ?_
    refine z_get S in_lay_X6 hK hP rfl 0 rfl 0 (by decide) fl_X6_12 rfl rfl dX6_countNumber_172 ?_
    refine z_get S in_lay_X2 hK hP rfl 2 rfl 2 (by decide) fl_X6_122 rfl rfl dX6_countNumber_175 ?_
    refine z_get S in_lay_X4 hK hP rfl 11 rfl 2 (by decide) fl_X6_258 rfl rfl dX6_countNumber_178 ?_
    exact zr_i hx hb hr hlk (by simp [zCo, zb, w_9_1, w_9_2, w_9_3, w_9_4, w_9_5, w_9_6, w_9_7, w_9_8, w_9_9, w_9_10, w_9_11]) dX6_countNumber_181
  by_cases w_9_12 : w = 11
  · refine z_tabIn hx hb (x := w) (k := 11) w_9_12 (by decide) dX6_countNumber_9 (by decide) (by decide) rfl (by decide) ?_ (tgt := 182)
    refine lv_aload_n hx hb dX6_countNumber_182 rfl (lv_at hl 0 rfl) ?_
    refine z_get S in_lay_X3 hK hP rfl 3 rfl 5 (by decide) fl_X6_261 rfl rfl dX6_countNumber_183 ?_
    exact zr_i hx hb hr hlk (by simp [zCo, zb, w_9_1, w_9_2, w_9_3, w_9_4, w_9_5, w_9_6, w_9_7, w_9_8, w_9_9, w_9_10, w_9_11, w_9_12]) dX6_countNumber_186
  refine z_tabOut hx hb (x := w) (by omega) dX6_countNumber_9 (by omega) (by decide) ?_ (tgt := 187)
  refine lv_aload_n hx hb dX6_countNumber_187 rfl (lv_at hl 1 rfl) ?_
  refine z_get S in_lay_X6 hK hP rfl 0 rfl 1 (by decide) fl_X6_19 rfl rfl dX6_countNumber_188 ?_
  refine z_get S in_lay_X1 hK hP rfl 1 rfl 2 (by decide) fl_X6_166 rfl rfl dX6_countNumber_191 ?_
  exact zr_i hx hb hr hlk (by simp [zCo, zb, w_9_1, w_9_2, w_9_3, w_9_4, w_9_5, w_9_6, w_9_7, w_9_8, w_9_9, w_9_10, w_9_11, w_9_12]) dX6_countNumber_194
set_option maxHeartbeats 4000000 in
set_option maxRecDepth 100000 in
theorem c_X6_mostHolding (l : Launch) (D : va_G) (ca : Nat → ClassId) (y a h x : Nat → Nat) (Z : zSt)  : zMr l yX6_mostHolding cX6_mostHolding 6 (some .int) 2 47 D ca [(y 0, .inr (6, [.ref (a 0), .ref (h 0), .ref (x 0)])), (a 0, .inr (2, [.ref (a 1), .ref (a 6), .ref (a 9)])), (a 1, .inr (3, [.ref (a 2), .ref (a 3), .ref (a 4), .ref (a 5), .int Z.1.2.2.2.2.1, .int Z.1.2.2.2.2.2])), (a 2, .inl (ca 0, 24, .inl Z.1.1)), (a 3, .inl (ca 0, 24, .inl Z.1.2.1)), (a 4, .inl (ca 0, 24, .inl Z.1.2.2.1)), (a 5, .inl (ca 0, 6, .inl Z.1.2.2.2.1)), (a 6, .inr (0, [.ref (a 7), .ref (a 8)])), (a 7, .inl (ca 0, 4, .inl Z.2.1.1)), (a 8, .inl (ca 0, 4, .inl Z.2.1.2)), (a 9, .inr (4, [.ref (a 10), .int Z.2.2.2.1, .int Z.2.2.2.2])), (a 10, .inl (ca 0, 3, .inl Z.2.2.1))] [.ref (y 0)] (.int (zHo Z)) := by
  refine zMr_of (own := RX6) (by decide) rfl (Nat.le_of_ble_eq_true rfl) ?_
  intro p e s m args below meth c ls S hr hlk hP hK hl
  have hx := S.1
  have hb := S.2.1
  have hl : lv_has ls 6 [(0, .ref (y 0))] := hl
  refine lv_iconst (v := (-1)) hx hb dX6_mostHolding_0 (by decide) ?_
  refine lv_istore_n (lv' := [(1, .int (-1)), (0, .ref (y 0))]) hx hb dX6_mostHolding_1 rfl hl (by decide) rfl (fun ls hl => ?_)
  refine lv_aload_n hx hb dX6_mostHolding_2 rfl (lv_at hl 1 rfl) ?_
  refine z_get S in_lay_X6 hK hP rfl 0 rfl 0 (by decide) fl_X6_12 rfl rfl dX6_mostHolding_3 ?_
  refine z_get S in_lay_X2 hK hP rfl 1 rfl 0 (by decide) fl_X6_41 rfl rfl dX6_mostHolding_6 ?_
  refine lv_iconst (v := 0) hx hb dX6_mostHolding_9 (by decide) ?_
  refine lv_bipush (v := 24) hx hb dX6_mostHolding_10 (by decide) ?_
  refine lv_aload_n hx hb dX6_mostHolding_12 rfl (lv_at hl 1 rfl) ?_
  refine z_get S in_lay_X6 hK hP rfl 0 rfl 0 (by decide) fl_X6_12 rfl rfl dX6_mostHolding_13 ?_
  refine zcr (As := []) (rest := [.int 24, .int 0, .ref (a 1)]) (q0 := 0) S (c_X2_horizon l D ca a Z) ml_X6_107 zy_X2_horizon im_X2_horizon se_X2_horizon ⟨Nat.le_of_ble_eq_true rfl, Nat.le_of_ble_eq_true rfl⟩ hK hP [1, 2, 7, 8] rfl rfl rfl rfl rfl hl.1 rfl (Nat.le_of_ble_eq_true rfl) ⟨Nat.zero_le _, Nat.zero_le _⟩ dX6_mostHolding_16 ?_
  refine zcr (As := [.int 0, .int 24, .int (zHor Z)]) (rest := []) (q0 := 0) S (c_X3_versionsToTakeOut l D ca a Z.1 0 24 (by omega) (zHor Z)) ml_X6_248 zy_X3_versionsToTakeOut im_X3_versionsToTakeOut se_X3_versionsToTakeOut ⟨Nat.le_of_ble_eq_true rfl, Nat.le_of_ble_eq_true rfl⟩ hK hP [2, 3, 4, 5, 6] rfl rfl rfl rfl rfl hl.1 rfl (Nat.le_of_ble_eq_true rfl) ⟨Nat.zero_le _, Nat.zero_le _⟩ dX6_mostHolding_19 ?_
  refine lv_istore_n (lv' := [(2, .int (zVo Z.1 24 0 (zHor Z))), (1, .int (-1)), (0, .ref (y 0))]) hx hb dX6_mostHolding_22 rfl hl (by decide) rfl (fun ls hl => ?_)
  refine lv_iconst (v := 0) hx hb dX6_mostHolding_23 (by decide) ?_
  refine lv_istore_n (lv' := [(3, .int 0), (2, .int (zVo Z.1 24 0 (zHor Z))), (1, .int (-1)), (0, .ref (y 0))]) hx hb dX6_mostHolding_24 rfl hl (by decide) rfl (fun ls hl => ?_)
  have loop_0 : ∀ (f : Nat) (k : Nat) (b : Int32) (u : Int32) (ls : Array Slot), k + f = 4 → zHo Z = zhn Z f k b u → lv_has ls 6 [(0, .ref (y 0)), (1, .int b), (2, .int u), (3, .int (nI k))] → W p l e { frames := 2, cells := 0, slots := 0, locals := 47 } s m args below meth c s.heap [] 0 0 (MQ below (zQr (.int (zHo Z))) args s 0 0 (fun _ => False)) (F0 m 25 ls []) := by
    intro f
    induction f with
    | zero =>
      intro k b u ls j1 j2 hl
      refine lv_iload_n hx hb dX6_mostHolding_25 rfl (lv_at hl 3 rfl) ?_
      refine lv_iconst (v := 4) hx hb dX6_mostHolding_26 (by decide) ?_
      refine zn_ge hx hb (x := k) (y := 4) (by omega) (by omega) (tgt := 87) dX6_mostHolding_27 (by decide) (fun c_27_2 => ?_) (fun h => False.elim (by omega))
      refine lv_iload_n hx hb dX6_mostHolding_87 rfl (lv_at hl 1 rfl) ?_
      exact zr_i hx hb hr hlk (by exact j2.symm) dX6_mostHolding_88
    | succ f ih =>
      intro k b u ls j1 j2 hl
      refine lv_iload_n hx hb dX6_mostHolding_25 rfl (lv_at hl 3 rfl) ?_
      refine lv_iconst (v := 4) hx hb dX6_mostHolding_26 (by decide) ?_
      refine zn_ge hx hb (x := k) (y := 4) (by omega) (by omega) (tgt := 87) dX6_mostHolding_27 (by decide) (fun h => False.elim (by omega)) (fun c_27_3 => ?_)
      refine lv_aload_n hx hb dX6_mostHolding_30 rfl (lv_at hl 0 rfl) ?_
      refine z_get S in_lay_X6 hK hP rfl 0 rfl 0 (by decide) fl_X6_12 rfl rfl dX6_mostHolding_31 ?_
      refine z_get S in_lay_X2 hK hP rfl 1 rfl 1 (by decide) fl_X6_90 rfl rfl dX6_mostHolding_34 ?_
      refine lv_iload_n hx hb dX6_mostHolding_37 rfl (lv_at hl 3 rfl) ?_
      refine lv_aload_n hx hb dX6_mostHolding_38 rfl (lv_at hl 0 rfl) ?_
      refine z_get S in_lay_X6 hK hP rfl 0 rfl 0 (by decide) fl_X6_12 rfl rfl dX6_mostHolding_39 ?_
      refine z_get S in_lay_X2 hK hP rfl 1 rfl 0 (by decide) fl_X6_41 rfl rfl dX6_mostHolding_42 ?_
      refine z_get S in_lay_X3 hK hP rfl 2 rfl 4 (by decide) fl_X6_99 rfl rfl dX6_mostHolding_45 ?_
      refine zcr (As := [.int (nI k), .int Z.1.2.2.2.2.1]) (rest := []) (q0 := 0) S (c_X0_horizonWithout l D ca a Z.2.1.1 (nI k) Z.1.2.2.2.2.1) ml_X6_264 zy_X0_horizonWithout im_X0_horizonWithout se_X0_horizonWithout ⟨Nat.le_of_ble_eq_true rfl, Nat.le_of_ble_eq_true rfl⟩ hK hP [7, 8] rfl rfl rfl rfl rfl hl.1 rfl (Nat.le_of_ble_eq_true rfl) ⟨Nat.zero_le _, Nat.zero_le _⟩ dX6_mostHolding_48 ?_
      refine lv_istore (lv' := [(4, .int (zHw Z.2.1.1 (nI k) Z.1.2.2.2.2.1)), (0, .ref (y 0)), (1, .int b), (2, .int u), (3, .int (nI k))]) hx hb dX6_mostHolding_51 hl (by decide) rfl (fun ls hl => ?_)
      refine lv_aload_n hx hb dX6_mostHolding_53 rfl (lv_at hl 1 rfl) ?_
      refine z_get S in_lay_X6 hK hP rfl 0 rfl 0 (by decide) fl_X6_12 rfl rfl dX6_mostHolding_54 ?_
      refine z_get S in_lay_X2 hK hP rfl 1 rfl 0 (by decide) fl_X6_41 rfl rfl dX6_mostHolding_57 ?_
      refine lv_iconst (v := 0) hx hb dX6_mostHolding_60 (by decide) ?_
      refine lv_bipush (v := 24) hx hb dX6_mostHolding_61 (by decide) ?_
      refine lv_iload hx hb dX6_mostHolding_63 (lv_at hl 0 rfl) ?_
      refine zcr (As := [.int 0, .int 24, .int (zHw Z.2.1.1 (nI k) Z.1.2.2.2.2.1)]) (rest := []) (q0 := 0) S (c_X3_versionsToTakeOut l D ca a Z.1 0 24 (by omega) (zHw Z.2.1.1 (nI k) Z.1.2.2.2.2.1)) ml_X6_248 zy_X3_versionsToTakeOut im_X3_versionsToTakeOut se_X3_versionsToTakeOut ⟨Nat.le_of_ble_eq_true rfl, Nat.le_of_ble_eq_true rfl⟩ hK hP [2, 3, 4, 5, 6] rfl rfl rfl rfl rfl hl.1 rfl (Nat.le_of_ble_eq_true rfl) ⟨Nat.zero_le _, Nat.zero_le _⟩ dX6_mostHolding_65 ?_
      refine lv_istore (lv' := [(5, .int (zVo Z.1 24 0 (zHw Z.2.1.1 (nI k) Z.1.2.2.2.2.1))), (4, .int (zHw Z.2.1.1 (nI k) Z.1.2.2.2.2.1)), (0, .ref (y 0)), (1, .int b), (2, .int u), (3, .int (nI k))]) hx hb dX6_mostHolding_68 hl (by decide) rfl (fun ls hl => ?_)
      refine lv_iload hx hb dX6_mostHolding_70 (lv_at hl 0 rfl) ?_
      refine lv_iload_n hx hb dX6_mostHolding_72 rfl (lv_at hl 4 rfl) ?_
      refine lv_icmp_le (tgt := 81) hx hb dX6_mostHolding_73 (by decide) (fun c_73_4 => ?_) (fun c_73_4 => ?_)
      · refine lv_iinc (v := nI (k + 1)) (lv' := [(3, .int (nI (k + 1))), (5, .int (zVo Z.1 24 0 (zHw Z.2.1.1 (nI k) Z.1.2.2.2.2.1))), (4, .int (zHw Z.2.1.1 (nI k) Z.1.2.2.2.2.1)), (0, .ref (y 0)), (1, .int b), (2, .int u)]) hx hb dX6_mostHolding_81 hl (k := 5) rfl (zinc k 1) (by decide) rfl (fun ls hl => ?_)
        refine lv_goto (tgt := 25) hx hb dX6_mostHolding_84 (by decide) ?_
        exact ih (k + 1) b u ls (by omega) (by rw [j2]; simp only [zhn, c_27_3, c_73_4, if_true, if_false]) (lv_sub hl [3, 4, 5, 0] rfl)
      · refine lv_iload hx hb dX6_mostHolding_76 (lv_at hl 0 rfl) ?_
        refine lv_istore_n (lv' := [(2, .int (zVo Z.1 24 0 (zHw Z.2.1.1 (nI k) Z.1.2.2.2.2.1))), (5, .int (zVo Z.1 24 0 (zHw Z.2.1.1 (nI k) Z.1.2.2.2.2.1))), (4, .int (zHw Z.2.1.1 (nI k) Z.1.2.2.2.2.1)), (0, .ref (y 0)), (1, .int b), (3, .int (nI k))]) hx hb dX6_mostHolding_78 rfl hl (by decide) rfl (fun ls hl => ?_)
        refine lv_iload_n hx hb dX6_mostHolding_79 rfl (lv_at hl 5 rfl) ?_
        refine lv_istore_n (lv' := [(1, .int (nI k)), (2, .int (zVo Z.1 24 0 (zHw Z.2.1.1 (nI k) Z.1.2.2.2.2.1))), (5, .int (zVo Z.1 24 0 (zHw Z.2.1.1 (nI k) Z.1.2.2.2.2.1))), (4, .int (zHw Z.2.1.1 (nI k) Z.1.2.2.2.2.1)), (0, .ref (y 0)), (3, .int (nI k))]) hx hb dX6_mostHolding_80 rfl hl (by decide) rfl (fun ls hl => ?_)
        refine lv_iinc (v := nI (k + 1)) (lv' := [(3, .int (nI (k + 1))), (1, .int (nI k)), (2, .int (zVo Z.1 24 0 (zHw Z.2.1.1 (nI k) Z.1.2.2.2.2.1))), (5, .int (zVo Z.1 24 0 (zHw Z.2.1.1 (nI k) Z.1.2.2.2.2.1))), (4, .int (zHw Z.2.1.1 (nI k) Z.1.2.2.2.2.1)), (0, .ref (y 0))]) hx hb dX6_mostHolding_81 hl (k := 5) rfl (zinc k 1) (by decide) rfl (fun ls hl => ?_)
        refine lv_goto (tgt := 25) hx hb dX6_mostHolding_84 (by decide) ?_
        exact ih (k + 1) (nI k) (zVo Z.1 24 0 (zHw Z.2.1.1 (nI k) Z.1.2.2.2.2.1)) ls (by omega) (by rw [j2]; simp only [zhn, c_27_3, c_73_4, if_true, if_false]) (lv_sub hl [5, 1, 2, 0] rfl)
  exact loop_0 4 0 (-1) (zVo Z.1 24 0 (zHor Z)) ls (by omega) (by rfl) (lv_sub hl [3, 2, 1, 0] rfl)
set_option maxHeartbeats 4000000 in
set_option maxRecDepth 100000 in
theorem c_X6_markedShare (l : Launch) (D : va_G) (ca : Nat → ClassId) (y a h x : Nat → Nat) (Z : zSt) (hok : zOk (zSh (zMp Z.1))) : zMr l yX6_markedShare cX6_markedShare 1 (some .double) 2 43 D ca [(y 0, .inr (6, [.ref (a 0), .ref (h 0), .ref (x 0)])), (a 0, .inr (2, [.ref (a 1), .ref (a 6), .ref (a 9)])), (a 1, .inr (3, [.ref (a 2), .ref (a 3), .ref (a 4), .ref (a 5), .int Z.1.2.2.2.2.1, .int Z.1.2.2.2.2.2])), (a 2, .inl (ca 0, 24, .inl Z.1.1)), (a 3, .inl (ca 0, 24, .inl Z.1.2.1)), (a 4, .inl (ca 0, 24, .inl Z.1.2.2.1)), (a 5, .inl (ca 0, 6, .inl Z.1.2.2.2.1)), (a 6, .inr (0, [.ref (a 7), .ref (a 8)])), (a 7, .inl (ca 0, 4, .inl Z.2.1.1)), (a 8, .inl (ca 0, 4, .inl Z.2.1.2)), (a 9, .inr (4, [.ref (a 10), .int Z.2.2.2.1, .int Z.2.2.2.2])), (a 10, .inl (ca 0, 3, .inl Z.2.2.1))] [.ref (y 0)] (.double (zSh (zMp Z.1))) := by
  refine zMr_of (own := RX6) (by decide) rfl (Nat.le_of_ble_eq_true rfl) ?_
  intro p e s m args below meth c ls S hr hlk hP hK hl
  have hx := S.1
  have hb := S.2.1
  have hl : lv_has ls 1 [(0, .ref (y 0))] := hl
  refine lv_aload_n hx hb dX6_markedShare_0 rfl (lv_at hl 0 rfl) ?_
  refine z_get S in_lay_X6 hK hP rfl 0 rfl 0 (by decide) fl_X6_12 rfl rfl dX6_markedShare_1 ?_
  refine z_get S in_lay_X2 hK hP rfl 1 rfl 0 (by decide) fl_X6_41 rfl rfl dX6_markedShare_4 ?_
  refine zcr (As := []) (rest := []) (q0 := 0) S (c_X3_markedPages l D ca a Z.1 ) ml_X6_114 zy_X3_markedPages im_X3_markedPages se_X3_markedPages ⟨Nat.le_of_ble_eq_true rfl, Nat.le_of_ble_eq_true rfl⟩ hK hP [2, 3, 4, 5, 6] rfl rfl rfl rfl rfl hl.1 rfl (Nat.le_of_ble_eq_true rfl) ⟨Nat.zero_le _, Nat.zero_le _⟩ dX6_markedShare_7 ?_
  refine lv_i2d hx hb dX6_markedShare_10 ?_
  refine lv_ldc2d (v := 4618441417868443648) hx hb S.2.2.2.1 (S.2.2.2.2 _ kc_X6_267) dX6_markedShare_11 ?_
  refine lv_ddiv hx hb dX6_markedShare_14 (by exact hok.1) ?_
  exact zr_d hx hb hr hlk (by rfl) dX6_markedShare_15
set_option maxHeartbeats 4000000 in
set_option maxRecDepth 100000 in
theorem c_X6_mixParts (l : Launch) (D : va_G) (ca : Nat → ClassId) (y a h x : Nat → Nat) (Z : zSt) (v : Int64) : zMr l yX6_mixParts cX6_mixParts 7 (some .long) 3 72 D ca [(y 0, .inr (6, [.ref (a 0), .ref (h 0), .ref (x 0)])), (a 0, .inr (2, [.ref (a 1), .ref (a 6), .ref (a 9)])), (a 1, .inr (3, [.ref (a 2), .ref (a 3), .ref (a 4), .ref (a 5), .int Z.1.2.2.2.2.1, .int Z.1.2.2.2.2.2])), (a 2, .inl (ca 0, 24, .inl Z.1.1)), (a 3, .inl (ca 0, 24, .inl Z.1.2.1)), (a 4, .inl (ca 0, 24, .inl Z.1.2.2.1)), (a 5, .inl (ca 0, 6, .inl Z.1.2.2.2.1)), (a 6, .inr (0, [.ref (a 7), .ref (a 8)])), (a 7, .inl (ca 0, 4, .inl Z.2.1.1)), (a 8, .inl (ca 0, 4, .inl Z.2.1.2)), (a 9, .inr (4, [.ref (a 10), .int Z.2.2.2.1, .int Z.2.2.2.2])), (a 10, .inl (ca 0, 3, .inl Z.2.2.1))] [.ref (y 0), .long v] (.long (zMx3 Z v)) := by
  refine zMr_of (own := RX6) (by decide) rfl (Nat.le_of_ble_eq_true rfl) ?_
  intro p e s m args below meth c ls S hr hlk hP hK hl
  have hx := S.1
  have hb := S.2.1
  have hl : lv_has ls 7 [(0, .ref (y 0)), (1, .long v)] := hl
  refine lv_lload_n hx hb dX6_mixParts_0 rfl (lv_at hl 1 rfl) ?_
  refine lv_lstore_n (lv' := [(3, .long v), (0, .ref (y 0)), (1, .long v)]) hx hb dX6_mixParts_1 rfl hl (by decide) rfl (fun ls hl => ?_)
  refine lv_iconst (v := 0) hx hb dX6_mixParts_2 (by decide) ?_
  refine lv_istore (lv' := [(5, .int 0), (3, .long v), (0, .ref (y 0)), (1, .long v)]) hx hb dX6_mixParts_3 hl (by decide) rfl (fun ls hl => ?_)
  have loop_0 : ∀ (f : Nat) (k : Nat) (u : Int64) (ls : Array Slot), k + f = 24 → zfold2 (fun k w => (zSl Z.1 k w).toInt64) 4 24 0 (v) = zfold2 (fun k w => (zSl Z.1 k w).toInt64) 4 f k u → lv_has ls 7 [(0, .ref (y 0)), (1, .long v), (3, .long u), (5, .int (nI k))] → W p l e { frames := 3, cells := 0, slots := 0, locals := 72 } s m args below meth c s.heap [] 0 0 (MQ below (zQr (.long (zMx3 Z v))) args s 0 0 (fun _ => False)) (F0 m 5 ls []) := by
    intro f
    induction f with
    | zero =>
      intro k u ls j1 j2 hl
      refine lv_iload hx hb dX6_mixParts_5 (lv_at hl 3 rfl) ?_
      refine lv_bipush (v := 24) hx hb dX6_mixParts_7 (by decide) ?_
      refine zn_ge hx hb (x := k) (y := 24) (by omega) (by omega) (tgt := 47) dX6_mixParts_9 (by decide) (fun c_9_2 => ?_) (fun h => False.elim (by omega))
      obtain rfl : u = zMx1 Z v := j2.symm
      refine lv_iconst (v := 0) hx hb dX6_mixParts_47 (by decide) ?_
      refine lv_istore (lv' := [(5, .int 0), (0, .ref (y 0)), (1, .long v), (3, .long (zMx1 Z v))]) hx hb dX6_mixParts_48 hl (by decide) rfl (fun ls hl => ?_)
      have loop_2 : ∀ (f : Nat) (k : Nat) (u : Int64) (ls : Array Slot), k + f = 6 → zfold2 (fun k w => (zPg Z k w).toInt64) 5 6 0 (zMx1 Z v) = zfold2 (fun k w => (zPg Z k w).toInt64) 5 f k u → lv_has ls 7 [(0, .ref (y 0)), (1, .long v), (3, .long u), (5, .int (nI k))] → W p l e { frames := 3, cells := 0, slots := 0, locals := 72 } s m args below meth c s.heap [] 0 0 (MQ below (zQr (.long (zMx3 Z v))) args s 0 0 (fun _ => False)) (F0 m 50 ls []) := by
        intro f
        induction f with
        | zero =>
          intro k u ls j1 j2 hl
          refine lv_iload hx hb dX6_mixParts_50 (lv_at hl 3 rfl) ?_
          refine lv_bipush (v := 6) hx hb dX6_mixParts_52 (by decide) ?_
          refine zn_ge hx hb (x := k) (y := 6) (by omega) (by omega) (tgt := 92) dX6_mixParts_54 (by decide) (fun c_54_4 => ?_) (fun h => False.elim (by omega))
          obtain rfl : u = zMx2 Z v := j2.symm
          refine lv_iconst (v := 0) hx hb dX6_mixParts_92 (by decide) ?_
          refine lv_istore (lv' := [(5, .int 0), (0, .ref (y 0)), (1, .long v), (3, .long (zMx2 Z v))]) hx hb dX6_mixParts_93 hl (by decide) rfl (fun ls hl => ?_)
          have loop_4 : ∀ (f : Nat) (k : Nat) (u : Int64) (ls : Array Slot), k + f = 4 → zfold2 (fun k w => (zAs Z k w).toInt64) 3 4 0 (zMx2 Z v) = zfold2 (fun k w => (zAs Z k w).toInt64) 3 f k u → lv_has ls 7 [(0, .ref (y 0)), (1, .long v), (3, .long u), (5, .int (nI k))] → W p l e { frames := 3, cells := 0, slots := 0, locals := 72 } s m args below meth c s.heap [] 0 0 (MQ below (zQr (.long (zMx3 Z v))) args s 0 0 (fun _ => False)) (F0 m 95 ls []) := by
            intro f
            induction f with
            | zero =>
              intro k u ls j1 j2 hl
              refine lv_iload hx hb dX6_mixParts_95 (lv_at hl 3 rfl) ?_
              refine lv_iconst (v := 4) hx hb dX6_mixParts_97 (by decide) ?_
              refine zn_ge hx hb (x := k) (y := 4) (by omega) (by omega) (tgt := 136) dX6_mixParts_98 (by decide) (fun c_98_6 => ?_) (fun h => False.elim (by omega))
              obtain rfl : u = zMx3 Z v := j2.symm
              refine lv_lload_n hx hb dX6_mixParts_136 rfl (lv_at hl 2 rfl) ?_
              exact zr_l hx hb hr hlk (by rfl) dX6_mixParts_137
            | succ f ih =>
              intro k u ls j1 j2 hl
              refine lv_iload hx hb dX6_mixParts_95 (lv_at hl 3 rfl) ?_
              refine lv_iconst (v := 4) hx hb dX6_mixParts_97 (by decide) ?_
              refine zn_ge hx hb (x := k) (y := 4) (by omega) (by omega) (tgt := 136) dX6_mixParts_98 (by decide) (fun h => False.elim (by omega)) (fun c_98_7 => ?_)
              refine lv_iconst (v := 0) hx hb dX6_mixParts_101 (by decide) ?_
              refine lv_istore (lv' := [(6, .int 0), (0, .ref (y 0)), (1, .long v), (3, .long u), (5, .int (nI k))]) hx hb dX6_mixParts_102 hl (by decide) rfl (fun ls hl => ?_)
              have loop_7 : ∀ (f : Nat) (j : Nat) (z : Int64) (ls : Array Slot), j + f = 3 → zfold (fun w => (zAs Z k w).toInt64) 3 0 u = zfold (fun w => (zAs Z k w).toInt64) f j z → lv_has ls 7 [(0, .ref (y 0)), (1, .long v), (3, .long z), (5, .int (nI k)), (6, .int (nI j))] → W p l e { frames := 3, cells := 0, slots := 0, locals := 72 } s m args below meth c s.heap [] 0 0 (MQ below (zQr (.long (zMx3 Z v))) args s 0 0 (fun _ => False)) (F0 m 104 ls []) := by
                intro f
                induction f with
                | zero =>
                  intro j z ls i1 i2 hl
                  refine lv_iload hx hb dX6_mixParts_104 (lv_at hl 4 rfl) ?_
                  refine lv_iconst (v := 3) hx hb dX6_mixParts_106 (by decide) ?_
                  refine zn_ge hx hb (x := j) (y := 3) (by omega) (by omega) (tgt := 130) dX6_mixParts_107 (by decide) (fun c_107_9 => ?_) (fun h => False.elim (by omega))
                  refine lv_iinc (v := nI (k + 1)) (lv' := [(5, .int (nI (k + 1))), (0, .ref (y 0)), (1, .long v), (3, .long z), (6, .int (nI j))]) hx hb dX6_mixParts_130 hl (k := 3) rfl (zinc k 1) (by decide) rfl (fun ls hl => ?_)
                  refine lv_goto (tgt := 95) hx hb dX6_mixParts_133 (by decide) ?_
                  exact ih (k + 1) z ls (by omega) (by rw [j2, zfold2, i2]; rfl) (lv_sub hl [1, 2, 3, 0] rfl)
                | succ f ih =>
                  intro j z ls i1 i2 hl
                  refine lv_iload hx hb dX6_mixParts_104 (lv_at hl 4 rfl) ?_
                  refine lv_iconst (v := 3) hx hb dX6_mixParts_106 (by decide) ?_
                  refine zn_ge hx hb (x := j) (y := 3) (by omega) (by omega) (tgt := 130) dX6_mixParts_107 (by decide) (fun h => False.elim (by omega)) (fun c_107_10 => ?_)
                  refine lv_lload_n hx hb dX6_mixParts_110 rfl (lv_at hl 2 rfl) ?_
                  refine lv_aload_n hx hb dX6_mixParts_111 rfl (lv_at hl 0 rfl) ?_
                  refine lv_iload hx hb dX6_mixParts_112 (lv_at hl 3 rfl) ?_
                  refine lv_iload hx hb dX6_mixParts_114 (lv_at hl 4 rfl) ?_
                  refine zcr (As := [.int (nI k), .int (nI j)]) (rest := [.long z]) (q0 := 0) S (c_X6_askerNumber l D ca y a (h) (x) Z k j (by omega) (by omega)) ml_X6_186 zy_X6_askerNumber im_X6_askerNumber se_X6_askerNumber ⟨Nat.le_of_ble_eq_true rfl, Nat.le_of_ble_eq_true rfl⟩ hK hP [0, 1, 2, 3, 4, 5, 6, 7, 8, 9, 10, 11] rfl rfl rfl rfl rfl hl.1 rfl (Nat.le_of_ble_eq_true rfl) ⟨Nat.zero_le _, Nat.zero_le _⟩ dX6_mixParts_116 ?_
                  refine lv_i2l (v := (zAs Z k j).toInt64) hx hb dX6_mixParts_119 rfl ?_
                  refine zcrS (As := [.long z, .long ((zAs Z k j).toInt64)]) (rest := []) S (c_X6_mix l D ca z ((zAs Z k j).toInt64)) ml_X6_213 zy_X6_mix st_X6_mix ⟨Nat.le_of_ble_eq_true rfl, Nat.le_of_ble_eq_true rfl⟩ hK hP [] rfl rfl hl.1 rfl (Nat.le_of_ble_eq_true rfl) ⟨Nat.zero_le _, Nat.zero_le _⟩ dX6_mixParts_120 ?_
                  refine lv_lstore_n (lv' := [(3, .long (zMix z ((zAs Z k j).toInt64))), (0, .ref (y 0)), (1, .long v), (5, .int (nI k)), (6, .int (nI j))]) hx hb dX6_mixParts_123 rfl hl (by decide) rfl (fun ls hl => ?_)
                  refine lv_iinc (v := nI (j + 1)) (lv' := [(6, .int (nI (j + 1))), (3, .long (zMix z ((zAs Z k j).toInt64))), (0, .ref (y 0)), (1, .long v), (5, .int (nI k))]) hx hb dX6_mixParts_124 hl (k := 4) rfl (zinc j 1) (by decide) rfl (fun ls hl => ?_)
                  refine lv_goto (tgt := 104) hx hb dX6_mixParts_127 (by decide) ?_
                  exact ih (j + 1) (zMix z ((zAs Z k j).toInt64)) ls (by omega) (by rw [i2]; rfl) (lv_sub hl [2, 3, 1, 4, 0] rfl)
              exact loop_7 3 0 u ls (by omega) (by rfl) (lv_sub hl [1, 2, 3, 4, 0] rfl)
          exact loop_4 4 0 (zMx2 Z v) ls (by omega) (by rfl) (lv_sub hl [1, 2, 3, 0] rfl)
        | succ f ih =>
          intro k u ls j1 j2 hl
          refine lv_iload hx hb dX6_mixParts_50 (lv_at hl 3 rfl) ?_
          refine lv_bipush (v := 6) hx hb dX6_mixParts_52 (by decide) ?_
          refine zn_ge hx hb (x := k) (y := 6) (by omega) (by omega) (tgt := 92) dX6_mixParts_54 (by decide) (fun h => False.elim (by omega)) (fun c_54_11 => ?_)
          refine lv_iconst (v := 0) hx hb dX6_mixParts_57 (by decide) ?_
          refine lv_istore (lv' := [(6, .int 0), (0, .ref (y 0)), (1, .long v), (3, .long u), (5, .int (nI k))]) hx hb dX6_mixParts_58 hl (by decide) rfl (fun ls hl => ?_)
          have loop_11 : ∀ (f : Nat) (j : Nat) (z : Int64) (ls : Array Slot), j + f = 5 → zfold (fun w => (zPg Z k w).toInt64) 5 0 u = zfold (fun w => (zPg Z k w).toInt64) f j z → lv_has ls 7 [(0, .ref (y 0)), (1, .long v), (3, .long z), (5, .int (nI k)), (6, .int (nI j))] → W p l e { frames := 3, cells := 0, slots := 0, locals := 72 } s m args below meth c s.heap [] 0 0 (MQ below (zQr (.long (zMx3 Z v))) args s 0 0 (fun _ => False)) (F0 m 60 ls []) := by
            intro f
            induction f with
            | zero =>
              intro j z ls i1 i2 hl
              refine lv_iload hx hb dX6_mixParts_60 (lv_at hl 4 rfl) ?_
              refine lv_iconst (v := 5) hx hb dX6_mixParts_62 (by decide) ?_
              refine zn_ge hx hb (x := j) (y := 5) (by omega) (by omega) (tgt := 86) dX6_mixParts_63 (by decide) (fun c_63_13 => ?_) (fun h => False.elim (by omega))
              refine lv_iinc (v := nI (k + 1)) (lv' := [(5, .int (nI (k + 1))), (0, .ref (y 0)), (1, .long v), (3, .long z), (6, .int (nI j))]) hx hb dX6_mixParts_86 hl (k := 3) rfl (zinc k 1) (by decide) rfl (fun ls hl => ?_)
              refine lv_goto (tgt := 50) hx hb dX6_mixParts_89 (by decide) ?_
              exact ih (k + 1) z ls (by omega) (by rw [j2, zfold2, i2]; rfl) (lv_sub hl [1, 2, 3, 0] rfl)
            | succ f ih =>
              intro j z ls i1 i2 hl
              refine lv_iload hx hb dX6_mixParts_60 (lv_at hl 4 rfl) ?_
              refine lv_iconst (v := 5) hx hb dX6_mixParts_62 (by decide) ?_
              refine zn_ge hx hb (x := j) (y := 5) (by omega) (by omega) (tgt := 86) dX6_mixParts_63 (by decide) (fun h => False.elim (by omega)) (fun c_63_14 => ?_)
              refine lv_lload_n hx hb dX6_mixParts_66 rfl (lv_at hl 2 rfl) ?_
              refine lv_aload_n hx hb dX6_mixParts_67 rfl (lv_at hl 0 rfl) ?_
              refine lv_iload hx hb dX6_mixParts_68 (lv_at hl 3 rfl) ?_
              refine lv_iload hx hb dX6_mixParts_70 (lv_at hl 4 rfl) ?_
              refine zcr (As := [.int (nI k), .int (nI j)]) (rest := [.long z]) (q0 := 0) S (c_X6_pageNumber l D ca y a (h) (x) Z k j (by omega) (by omega)) ml_X6_181 zy_X6_pageNumber im_X6_pageNumber se_X6_pageNumber ⟨Nat.le_of_ble_eq_true rfl, Nat.le_of_ble_eq_true rfl⟩ hK hP [0, 1, 2, 3, 4, 5, 6, 7, 8, 9, 10, 11] rfl rfl rfl rfl rfl hl.1 rfl (Nat.le_of_ble_eq_true rfl) ⟨Nat.zero_le _, Nat.zero_le _⟩ dX6_mixParts_72 ?_
              refine lv_i2l (v := (zPg Z k j).toInt64) hx hb dX6_mixParts_75 rfl ?_
              refine zcrS (As := [.long z, .long ((zPg Z k j).toInt64)]) (rest := []) S (c_X6_mix l D ca z ((zPg Z k j).toInt64)) ml_X6_213 zy_X6_mix st_X6_mix ⟨Nat.le_of_ble_eq_true rfl, Nat.le_of_ble_eq_true rfl⟩ hK hP [] rfl rfl hl.1 rfl (Nat.le_of_ble_eq_true rfl) ⟨Nat.zero_le _, Nat.zero_le _⟩ dX6_mixParts_76 ?_
              refine lv_lstore_n (lv' := [(3, .long (zMix z ((zPg Z k j).toInt64))), (0, .ref (y 0)), (1, .long v), (5, .int (nI k)), (6, .int (nI j))]) hx hb dX6_mixParts_79 rfl hl (by decide) rfl (fun ls hl => ?_)
              refine lv_iinc (v := nI (j + 1)) (lv' := [(6, .int (nI (j + 1))), (3, .long (zMix z ((zPg Z k j).toInt64))), (0, .ref (y 0)), (1, .long v), (5, .int (nI k))]) hx hb dX6_mixParts_80 hl (k := 4) rfl (zinc j 1) (by decide) rfl (fun ls hl => ?_)
              refine lv_goto (tgt := 60) hx hb dX6_mixParts_83 (by decide) ?_
              exact ih (j + 1) (zMix z ((zPg Z k j).toInt64)) ls (by omega) (by rw [i2]; rfl) (lv_sub hl [2, 3, 1, 4, 0] rfl)
          exact loop_11 5 0 u ls (by omega) (by rfl) (lv_sub hl [1, 2, 3, 4, 0] rfl)
      exact loop_2 6 0 (zMx1 Z v) ls (by omega) (by rfl) (lv_sub hl [1, 2, 3, 0] rfl)
    | succ f ih =>
      intro k u ls j1 j2 hl
      refine lv_iload hx hb dX6_mixParts_5 (lv_at hl 3 rfl) ?_
      refine lv_bipush (v := 24) hx hb dX6_mixParts_7 (by decide) ?_
      refine zn_ge hx hb (x := k) (y := 24) (by omega) (by omega) (tgt := 47) dX6_mixParts_9 (by decide) (fun h => False.elim (by omega)) (fun c_9_15 => ?_)
      refine lv_iconst (v := 0) hx hb dX6_mixParts_12 (by decide) ?_
      refine lv_istore (lv' := [(6, .int 0), (0, .ref (y 0)), (1, .long v), (3, .long u), (5, .int (nI k))]) hx hb dX6_mixParts_13 hl (by decide) rfl (fun ls hl => ?_)
      have loop_15 : ∀ (f : Nat) (j : Nat) (z : Int64) (ls : Array Slot), j + f = 4 → zfold (fun w => (zSl Z.1 k w).toInt64) 4 0 u = zfold (fun w => (zSl Z.1 k w).toInt64) f j z → lv_has ls 7 [(0, .ref (y 0)), (1, .long v), (3, .long z), (5, .int (nI k)), (6, .int (nI j))] → W p l e { frames := 3, cells := 0, slots := 0, locals := 72 } s m args below meth c s.heap [] 0 0 (MQ below (zQr (.long (zMx3 Z v))) args s 0 0 (fun _ => False)) (F0 m 15 ls []) := by
        intro f
        induction f with
        | zero =>
          intro j z ls i1 i2 hl
          refine lv_iload hx hb dX6_mixParts_15 (lv_at hl 4 rfl) ?_
          refine lv_iconst (v := 4) hx hb dX6_mixParts_17 (by decide) ?_
          refine zn_ge hx hb (x := j) (y := 4) (by omega) (by omega) (tgt := 41) dX6_mixParts_18 (by decide) (fun c_18_17 => ?_) (fun h => False.elim (by omega))
          refine lv_iinc (v := nI (k + 1)) (lv' := [(5, .int (nI (k + 1))), (0, .ref (y 0)), (1, .long v), (3, .long z), (6, .int (nI j))]) hx hb dX6_mixParts_41 hl (k := 3) rfl (zinc k 1) (by decide) rfl (fun ls hl => ?_)
          refine lv_goto (tgt := 5) hx hb dX6_mixParts_44 (by decide) ?_
          exact ih (k + 1) z ls (by omega) (by rw [j2, zfold2, i2]; rfl) (lv_sub hl [1, 2, 3, 0] rfl)
        | succ f ih =>
          intro j z ls i1 i2 hl
          refine lv_iload hx hb dX6_mixParts_15 (lv_at hl 4 rfl) ?_
          refine lv_iconst (v := 4) hx hb dX6_mixParts_17 (by decide) ?_
          refine zn_ge hx hb (x := j) (y := 4) (by omega) (by omega) (tgt := 41) dX6_mixParts_18 (by decide) (fun h => False.elim (by omega)) (fun c_18_18 => ?_)
          refine lv_lload_n hx hb dX6_mixParts_21 rfl (lv_at hl 2 rfl) ?_
          refine lv_aload_n hx hb dX6_mixParts_22 rfl (lv_at hl 0 rfl) ?_
          refine lv_iload hx hb dX6_mixParts_23 (lv_at hl 3 rfl) ?_
          refine lv_iload hx hb dX6_mixParts_25 (lv_at hl 4 rfl) ?_
          refine zcr (As := [.int (nI k), .int (nI j)]) (rest := [.long z]) (q0 := 0) S (c_X6_slotNumber l D ca y a (h) (x) Z k j (by omega) (by omega)) ml_X6_176 zy_X6_slotNumber im_X6_slotNumber se_X6_slotNumber ⟨Nat.le_of_ble_eq_true rfl, Nat.le_of_ble_eq_true rfl⟩ hK hP [0, 1, 2, 3, 4, 5, 6, 7, 8, 9, 10, 11] rfl rfl rfl rfl rfl hl.1 rfl (Nat.le_of_ble_eq_true rfl) ⟨Nat.zero_le _, Nat.zero_le _⟩ dX6_mixParts_27 ?_
          refine lv_i2l (v := (zSl Z.1 k j).toInt64) hx hb dX6_mixParts_30 rfl ?_
          refine zcrS (As := [.long z, .long ((zSl Z.1 k j).toInt64)]) (rest := []) S (c_X6_mix l D ca z ((zSl Z.1 k j).toInt64)) ml_X6_213 zy_X6_mix st_X6_mix ⟨Nat.le_of_ble_eq_true rfl, Nat.le_of_ble_eq_true rfl⟩ hK hP [] rfl rfl hl.1 rfl (Nat.le_of_ble_eq_true rfl) ⟨Nat.zero_le _, Nat.zero_le _⟩ dX6_mixParts_31 ?_
          refine lv_lstore_n (lv' := [(3, .long (zMix z ((zSl Z.1 k j).toInt64))), (0, .ref (y 0)), (1, .long v), (5, .int (nI k)), (6, .int (nI j))]) hx hb dX6_mixParts_34 rfl hl (by decide) rfl (fun ls hl => ?_)
          refine lv_iinc (v := nI (j + 1)) (lv' := [(6, .int (nI (j + 1))), (3, .long (zMix z ((zSl Z.1 k j).toInt64))), (0, .ref (y 0)), (1, .long v), (5, .int (nI k))]) hx hb dX6_mixParts_35 hl (k := 4) rfl (zinc j 1) (by decide) rfl (fun ls hl => ?_)
          refine lv_goto (tgt := 15) hx hb dX6_mixParts_38 (by decide) ?_
          exact ih (j + 1) (zMix z ((zSl Z.1 k j).toInt64)) ls (by omega) (by rw [i2]; rfl) (lv_sub hl [2, 3, 1, 4, 0] rfl)
      exact loop_15 4 0 u ls (by omega) (by rfl) (lv_sub hl [1, 2, 3, 4, 0] rfl)
  exact loop_0 24 0 v ls (by omega) (by rfl) (lv_sub hl [2, 3, 1, 0] rfl)
set_option maxHeartbeats 4000000 in
set_option maxRecDepth 100000 in
theorem c_X6_mixValue (l : Launch) (D : va_G) (ca : Nat → ClassId) (y a h x : Nat → Nat) (Z : zSt) (v : Int64) (w0 : Int32) : zMr l yX6_mixValue cX6_mixValue 8 (some .long) 3 73 D ca [(y 0, .inr (6, [.ref (a 0), .ref (h 0), .ref (x 0)])), (a 0, .inr (2, [.ref (a 1), .ref (a 6), .ref (a 9)])), (a 1, .inr (3, [.ref (a 2), .ref (a 3), .ref (a 4), .ref (a 5), .int Z.1.2.2.2.2.1, .int Z.1.2.2.2.2.2])), (a 2, .inl (ca 0, 24, .inl Z.1.1)), (a 3, .inl (ca 0, 24, .inl Z.1.2.1)), (a 4, .inl (ca 0, 24, .inl Z.1.2.2.1)), (a 5, .inl (ca 0, 6, .inl Z.1.2.2.2.1)), (a 6, .inr (0, [.ref (a 7), .ref (a 8)])), (a 7, .inl (ca 0, 4, .inl Z.2.1.1)), (a 8, .inl (ca 0, 4, .inl Z.2.1.2)), (a 9, .inr (4, [.ref (a 10), .int Z.2.2.2.1, .int Z.2.2.2.2])), (a 10, .inl (ca 0, 3, .inl Z.2.2.1))] [.ref (y 0), .long v, .int w0] (.long (zHval Z.1 w0 v)) := by
  refine zMr_of (own := RX6) (by decide) rfl (Nat.le_of_ble_eq_true rfl) ?_
  intro p e s m args below meth c ls S hr hlk hP hK hl
  have hx := S.1
  have hb := S.2.1
  have hl : lv_has ls 8 [(0, .ref (y 0)), (1, .long v), (3, .int w0)] := hl
  refine lv_aload_n hx hb dX6_mixValue_0 rfl (lv_at hl 0 rfl) ?_
  refine z_get S in_lay_X6 hK hP rfl 0 rfl 0 (by decide) fl_X6_12 rfl rfl dX6_mixValue_1 ?_
  refine z_get S in_lay_X2 hK hP rfl 1 rfl 0 (by decide) fl_X6_41 rfl rfl dX6_mixValue_4 ?_
  refine lv_astore (lv' := [(4, .ref (a 1)), (0, .ref (y 0)), (1, .long v), (3, .int w0)]) hx hb dX6_mixValue_7 hl (by decide) rfl (fun ls hl => ?_)
  refine lv_lload_n hx hb dX6_mixValue_9 rfl (lv_at hl 2 rfl) ?_
  refine lv_lstore (lv' := [(5, .long v), (4, .ref (a 1)), (0, .ref (y 0)), (1, .long v), (3, .int w0)]) hx hb dX6_mixValue_10 hl (by decide) rfl (fun ls hl => ?_)
  refine lv_iconst (v := 0) hx hb dX6_mixValue_12 (by decide) ?_
  refine lv_istore (lv' := [(7, .int 0), (5, .long v), (4, .ref (a 1)), (0, .ref (y 0)), (1, .long v), (3, .int w0)]) hx hb dX6_mixValue_13 hl (by decide) rfl (fun ls hl => ?_)
  have loop_0 : ∀ (f : Nat) (k : Nat) (u : Int64) (ls : Array Slot), k + f = 3 → zHv3 Z.1 w0 3 0 v = zHv3 Z.1 w0 f k u → lv_has ls 8 [(0, .ref (y 0)), (1, .long v), (3, .int w0), (4, .ref (a 1)), (5, .long u), (7, .int (nI k))] → W p l e { frames := 3, cells := 0, slots := 0, locals := 73 } s m args below meth c s.heap [] 0 0 (MQ below (zQr (.long (zHval Z.1 w0 v))) args s 0 0 (fun _ => False)) (F0 m 15 ls []) := by
    intro f
    induction f with
    | zero =>
      intro k u ls j1 j2 hl
      refine lv_iload hx hb dX6_mixValue_15 (lv_at hl 5 rfl) ?_
      refine lv_iconst (v := 3) hx hb dX6_mixValue_17 (by decide) ?_
      refine zn_ge hx hb (x := k) (y := 3) (by omega) (by omega) (tgt := 69) dX6_mixValue_18 (by decide) (fun c_18_2 => ?_) (fun h => False.elim (by omega))
      refine lv_lload hx hb dX6_mixValue_69 (lv_at hl 4 rfl) ?_
      refine lv_aload hx hb dX6_mixValue_71 (lv_at hl 3 rfl) ?_
      refine lv_iload_n hx hb dX6_mixValue_73 rfl (lv_at hl 2 rfl) ?_
      refine zcr (As := [.int w0]) (rest := [.long u]) (q0 := 0) S (c_X3_wronglyTold l D ca a Z.1 w0) ml_X6_198 zy_X3_wronglyTold im_X3_wronglyTold se_X3_wronglyTold ⟨Nat.le_of_ble_eq_true rfl, Nat.le_of_ble_eq_true rfl⟩ hK hP [2, 3, 4, 5, 6] rfl rfl rfl rfl rfl hl.1 rfl (Nat.le_of_ble_eq_true rfl) ⟨Nat.zero_le _, Nat.zero_le _⟩ dX6_mixValue_74 ?_
      refine lv_i2l (v := (zWr Z.1 w0).toInt64) hx hb dX6_mixValue_77 rfl ?_
      refine zcrS (As := [.long u, .long ((zWr Z.1 w0).toInt64)]) (rest := []) S (c_X6_mix l D ca u ((zWr Z.1 w0).toInt64)) ml_X6_213 zy_X6_mix st_X6_mix ⟨Nat.le_of_ble_eq_true rfl, Nat.le_of_ble_eq_true rfl⟩ hK hP [] rfl rfl hl.1 rfl (Nat.le_of_ble_eq_true rfl) ⟨Nat.zero_le _, Nat.zero_le _⟩ dX6_mixValue_78 ?_
      refine lv_lstore (lv' := [(5, .long (zMix u ((zWr Z.1 w0).toInt64))), (0, .ref (y 0)), (1, .long v), (3, .int w0), (4, .ref (a 1)), (7, .int (nI k))]) hx hb dX6_mixValue_81 hl (by decide) rfl (fun ls hl => ?_)
      refine lv_lload hx hb dX6_mixValue_83 (lv_at hl 0 rfl) ?_
      refine lv_aload hx hb dX6_mixValue_85 (lv_at hl 4 rfl) ?_
      refine lv_iload_n hx hb dX6_mixValue_87 rfl (lv_at hl 3 rfl) ?_
      refine zcr (As := [.int w0]) (rest := [.long (zMix u ((zWr Z.1 w0).toInt64))]) (q0 := 0) S (c_X3_leastCostWay l D ca a Z.1 w0) ml_X6_201 zy_X3_leastCostWay im_X3_leastCostWay se_X3_leastCostWay ⟨Nat.le_of_ble_eq_true rfl, Nat.le_of_ble_eq_true rfl⟩ hK hP [2, 3, 4, 5, 6] rfl rfl rfl rfl rfl hl.1 rfl (Nat.le_of_ble_eq_true rfl) ⟨Nat.zero_le _, Nat.zero_le _⟩ dX6_mixValue_88 ?_
      refine lv_i2l (v := (nI (zLc Z.1 w0)).toInt64) hx hb dX6_mixValue_91 rfl ?_
      refine zcrS (As := [.long (zMix u ((zWr Z.1 w0).toInt64)), .long ((nI (zLc Z.1 w0)).toInt64)]) (rest := []) S (c_X6_mix l D ca (zMix u ((zWr Z.1 w0).toInt64)) ((nI (zLc Z.1 w0)).toInt64)) ml_X6_213 zy_X6_mix st_X6_mix ⟨Nat.le_of_ble_eq_true rfl, Nat.le_of_ble_eq_true rfl⟩ hK hP [] rfl rfl hl.1 rfl (Nat.le_of_ble_eq_true rfl) ⟨Nat.zero_le _, Nat.zero_le _⟩ dX6_mixValue_92 ?_
      exact zr_l hx hb hr hlk (by rw [zHval, j2]; rfl) dX6_mixValue_95
    | succ f ih =>
      intro k u ls j1 j2 hl
      refine lv_iload hx hb dX6_mixValue_15 (lv_at hl 5 rfl) ?_
      refine lv_iconst (v := 3) hx hb dX6_mixValue_17 (by decide) ?_
      refine zn_ge hx hb (x := k) (y := 3) (by omega) (by omega) (tgt := 69) dX6_mixValue_18 (by decide) (fun h => False.elim (by omega)) (fun c_18_3 => ?_)
      refine lv_lload hx hb dX6_mixValue_21 (lv_at hl 4 rfl) ?_
      refine lv_aload hx hb dX6_mixValue_23 (lv_at hl 3 rfl) ?_
      refine lv_aload hx hb dX6_mixValue_25 (lv_at hl 3 rfl) ?_
      refine z_get S in_lay_X3 hK hP rfl 2 rfl 4 (by decide) fl_X6_99 rfl rfl dX6_mixValue_27 ?_
      refine lv_iload_n hx hb dX6_mixValue_30 rfl (lv_at hl 2 rfl) ?_
      refine lv_iload hx hb dX6_mixValue_31 (lv_at hl 5 rfl) ?_
      refine zcr (As := [.int Z.1.2.2.2.2.1, .int w0, .int (nI k)]) (rest := [.long u]) (q0 := 0) S (c_X3_answer l D ca a Z.1 Z.1.2.2.2.2.1 w0 k (by omega)) ml_X6_139 zy_X3_answer im_X3_answer se_X3_answer ⟨Nat.le_of_ble_eq_true rfl, Nat.le_of_ble_eq_true rfl⟩ hK hP [2, 3, 4, 5, 6] rfl rfl rfl rfl rfl hl.1 rfl (Nat.le_of_ble_eq_true rfl) ⟨Nat.zero_le _, Nat.zero_le _⟩ dX6_mixValue_33 ?_
      refine lv_i2l (v := (zAns Z.1 Z.1.2.2.2.2.1 w0 k).toInt64) hx hb dX6_mixValue_36 rfl ?_
      refine zcrS (As := [.long u, .long ((zAns Z.1 Z.1.2.2.2.2.1 w0 k).toInt64)]) (rest := []) S (c_X6_mix l D ca u ((zAns Z.1 Z.1.2.2.2.2.1 w0 k).toInt64)) ml_X6_213 zy_X6_mix st_X6_mix ⟨Nat.le_of_ble_eq_true rfl, Nat.le_of_ble_eq_true rfl⟩ hK hP [] rfl rfl hl.1 rfl (Nat.le_of_ble_eq_true rfl) ⟨Nat.zero_le _, Nat.zero_le _⟩ dX6_mixValue_37 ?_
      refine lv_lstore (lv' := [(5, .long (zMix u ((zAns Z.1 Z.1.2.2.2.2.1 w0 k).toInt64))), (0, .ref (y 0)), (1, .long v), (3, .int w0), (4, .ref (a 1)), (7, .int (nI k))]) hx hb dX6_mixValue_40 hl (by decide) rfl (fun ls hl => ?_)
      refine lv_lload hx hb dX6_mixValue_42 (lv_at hl 0 rfl) ?_
      refine lv_aload hx hb dX6_mixValue_44 (lv_at hl 4 rfl) ?_
      refine lv_aload hx hb dX6_mixValue_46 (lv_at hl 4 rfl) ?_
      refine z_get S in_lay_X3 hK hP rfl 2 rfl 4 (by decide) fl_X6_99 rfl rfl dX6_mixValue_48 ?_
      refine lv_iload_n hx hb dX6_mixValue_51 rfl (lv_at hl 3 rfl) ?_
      refine lv_iload hx hb dX6_mixValue_52 (lv_at hl 5 rfl) ?_
      refine zcr (As := [.int Z.1.2.2.2.2.1, .int w0, .int (nI k)]) (rest := [.long (zMix u ((zAns Z.1 Z.1.2.2.2.2.1 w0 k).toInt64))]) (q0 := 0) S (c_X3_cost l D ca a Z.1 Z.1.2.2.2.2.1 w0 k (by omega)) ml_X6_126 zy_X3_cost im_X3_cost se_X3_cost ⟨Nat.le_of_ble_eq_true rfl, Nat.le_of_ble_eq_true rfl⟩ hK hP [2, 3, 4, 5, 6] rfl rfl rfl rfl rfl hl.1 rfl (Nat.le_of_ble_eq_true rfl) ⟨Nat.zero_le _, Nat.zero_le _⟩ dX6_mixValue_54 ?_
      refine lv_i2l (v := (zCost Z.1 Z.1.2.2.2.2.1 w0 k).toInt64) hx hb dX6_mixValue_57 rfl ?_
      refine zcrS (As := [.long (zMix u ((zAns Z.1 Z.1.2.2.2.2.1 w0 k).toInt64)), .long ((zCost Z.1 Z.1.2.2.2.2.1 w0 k).toInt64)]) (rest := []) S (c_X6_mix l D ca (zMix u ((zAns Z.1 Z.1.2.2.2.2.1 w0 k).toInt64)) ((zCost Z.1 Z.1.2.2.2.2.1 w0 k).toInt64)) ml_X6_213 zy_X6_mix st_X6_mix ⟨Nat.le_of_ble_eq_true rfl, Nat.le_of_ble_eq_true rfl⟩ hK hP [] rfl rfl hl.1 rfl (Nat.le_of_ble_eq_true rfl) ⟨Nat.zero_le _, Nat.zero_le _⟩ dX6_mixValue_58 ?_
      refine lv_lstore (lv' := [(5, .long (zMix (zMix u ((zAns Z.1 Z.1.2.2.2.2.1 w0 k).toInt64)) ((zCost Z.1 Z.1.2.2.2.2.1 w0 k).toInt64))), (0, .ref (y 0)), (1, .long v), (3, .int w0), (4, .ref (a 1)), (7, .int (nI k))]) hx hb dX6_mixValue_61 hl (by decide) rfl (fun ls hl => ?_)
      refine lv_iinc (v := nI (k + 1)) (lv' := [(7, .int (nI (k + 1))), (5, .long (zMix (zMix u ((zAns Z.1 Z.1.2.2.2.2.1 w0 k).toInt64)) ((zCost Z.1 Z.1.2.2.2.2.1 w0 k).toInt64))), (0, .ref (y 0)), (1, .long v), (3, .int w0), (4, .ref (a 1))]) hx hb dX6_mixValue_63 hl (k := 5) rfl (zinc k 1) (by decide) rfl (fun ls hl => ?_)
      refine lv_goto (tgt := 15) hx hb dX6_mixValue_66 (by decide) ?_
      exact ih (k + 1) (zMix (zMix u ((zAns Z.1 Z.1.2.2.2.2.1 w0 k).toInt64)) ((zCost Z.1 Z.1.2.2.2.2.1 w0 k).toInt64)) ls (by omega) (by rw [j2]; rfl) (lv_sub hl [2, 3, 4, 5, 1, 0] rfl)
  exact loop_0 3 0 v ls (by omega) (by rfl) (lv_sub hl [3, 4, 5, 2, 1, 0] rfl)
set_option maxHeartbeats 4000000 in
set_option maxRecDepth 100000 in
theorem c_X6_bitsOfShare_0 (l : Launch) (D : va_G) (ca : Nat → ClassId)  : zMr l yX6_bitsOfShare cX6_bitsOfShare 7 (some .long) 0 0 D ca [] [.double 0] (.long 0) := by
  refine zMr_of (own := RX6) (by decide) rfl (Nat.le_of_ble_eq_true rfl) ?_
  intro p e s m args below meth c ls S hr hlk hP hK hl
  have hx := S.1
  have hb := S.2.1
  have hl : lv_has ls 7 [(0, .double 0)] := hl
  refine lv_dload_n hx hb dX6_bitsOfShare_0 rfl (lv_at hl 0 rfl) ?_
  refine lv_dconst0 hx hb dX6_bitsOfShare_1 ?_
  refine lv_dcmp hx hb dX6_bitsOfShare_2 ?_
  rw [show Op.cmpValue (FP.dcmp 0 FP.dconst0) CmpOp.g = 0 from by decide +kernel]
  refine lv_if_gt (tgt := 8) hx hb dX6_bitsOfShare_3 (by decide) (fun h => absurd h (by decide)) (fun _ => ?_)
  refine lv_lconst (v := 0) hx hb dX6_bitsOfShare_6 (by decide) ?_
  exact zr_l hx hb hr hlk (by decide +kernel) dX6_bitsOfShare_7
set_option maxHeartbeats 4000000 in
set_option maxRecDepth 100000 in
theorem c_X6_bitsOfShare_1 (l : Launch) (D : va_G) (ca : Nat → ClassId)  : zMr l yX6_bitsOfShare cX6_bitsOfShare 7 (some .long) 0 0 D ca [] [.double 4595172819793696085] (.long 4595172819793696085) := by
  refine zMr_of (own := RX6) (by decide) rfl (Nat.le_of_ble_eq_true rfl) ?_
  intro p e s m args below meth c ls S hr hlk hP hK hl
  have hx := S.1
  have hb := S.2.1
  have hl : lv_has ls 7 [(0, .double 4595172819793696085)] := hl
  refine lv_dload_n hx hb dX6_bitsOfShare_0 rfl (lv_at hl 0 rfl) ?_
  refine lv_dconst0 hx hb dX6_bitsOfShare_1 ?_
  refine lv_dcmp hx hb dX6_bitsOfShare_2 ?_
  rw [show Op.cmpValue (FP.dcmp 4595172819793696085 FP.dconst0) CmpOp.g = 1 from by decide +kernel]
  refine lv_if_gt (tgt := 8) hx hb dX6_bitsOfShare_3 (by decide) (fun _ => ?_) (fun h => absurd (by decide) h)
  refine lv_dload_n hx hb dX6_bitsOfShare_8 rfl (lv_at hl 0 rfl) ?_
  refine lv_dstore_n (lv' := [(2, .double 4595172819793696085), (0, .double 4595172819793696085)]) hx hb dX6_bitsOfShare_9 rfl hl (by decide) rfl (fun ls hl => ?_)
  refine lv_sipush (v := 1023) hx hb dX6_bitsOfShare_10 (by decide) ?_
  refine lv_istore (lv' := [(4, .int 1023), (2, .double 4595172819793696085), (0, .double 4595172819793696085)]) hx hb dX6_bitsOfShare_13 hl (by decide) rfl (fun ls hl => ?_)
  refine lv_dload_n hx hb dX6_bitsOfShare_15 rfl (lv_at hl 1 rfl) ?_
  refine lv_dconst1 hx hb dX6_bitsOfShare_16 ?_
  refine lv_dcmp hx hb dX6_bitsOfShare_17 ?_
  rw [show Op.cmpValue (FP.dcmp 4595172819793696085 FP.dconst1) CmpOp.g = (-1) from by decide +kernel]
  refine lv_if_ge (tgt := 39) hx hb dX6_bitsOfShare_18 (by decide) (fun h => absurd h (by decide)) (fun _ => ?_)
  refine lv_iload hx hb dX6_bitsOfShare_21 (lv_at hl 0 rfl) ?_
  refine lv_iconst (v := 1) hx hb dX6_bitsOfShare_23 (by decide) ?_
  refine lv_icmp_le (tgt := 39) hx hb dX6_bitsOfShare_24 (by decide) (fun h => absurd h (by decide)) (fun _ => ?_)
  refine lv_dload_n hx hb dX6_bitsOfShare_27 rfl (lv_at hl 1 rfl) ?_
  refine lv_ldc2d (v := 4611686018427387904) hx hb S.2.2.2.1 (S.2.2.2.2 _ kc_X6_291) dX6_bitsOfShare_28 ?_
  refine lv_dmul hx hb dX6_bitsOfShare_31 (by unfold vf_n64; decide +kernel) ?_
  rw [show FP.dmul 4595172819793696085 4611686018427387904 = 4599676419421066581 from by decide +kernel]
  refine lv_dstore_n (lv' := [(2, .double 4599676419421066581), (4, .int 1023), (0, .double 4595172819793696085)]) hx hb dX6_bitsOfShare_32 rfl hl (by decide) rfl (fun ls hl => ?_)
  refine lv_iinc (v := 1022) (lv' := [(4, .int 1022), (2, .double 4599676419421066581), (0, .double 4595172819793696085)]) hx hb dX6_bitsOfShare_33 hl (k := 1) rfl (by decide) (by decide) rfl (fun ls hl => ?_)
  refine lv_goto (tgt := 15) hx hb dX6_bitsOfShare_36 (by decide) ?_
  refine lv_dload_n hx hb dX6_bitsOfShare_15 rfl (lv_at hl 1 rfl) ?_
  refine lv_dconst1 hx hb dX6_bitsOfShare_16 ?_
  refine lv_dcmp hx hb dX6_bitsOfShare_17 ?_
  rw [show Op.cmpValue (FP.dcmp 4599676419421066581 FP.dconst1) CmpOp.g = (-1) from by decide +kernel]
  refine lv_if_ge (tgt := 39) hx hb dX6_bitsOfShare_18 (by decide) (fun h => absurd h (by decide)) (fun _ => ?_)
  refine lv_iload hx hb dX6_bitsOfShare_21 (lv_at hl 0 rfl) ?_
  refine lv_iconst (v := 1) hx hb dX6_bitsOfShare_23 (by decide) ?_
  refine lv_icmp_le (tgt := 39) hx hb dX6_bitsOfShare_24 (by decide) (fun h => absurd h (by decide)) (fun _ => ?_)
  refine lv_dload_n hx hb dX6_bitsOfShare_27 rfl (lv_at hl 1 rfl) ?_
  refine lv_ldc2d (v := 4611686018427387904) hx hb S.2.2.2.1 (S.2.2.2.2 _ kc_X6_291) dX6_bitsOfShare_28 ?_
  refine lv_dmul hx hb dX6_bitsOfShare_31 (by unfold vf_n64; decide +kernel) ?_
  rw [show FP.dmul 4599676419421066581 4611686018427387904 = 4604180019048437077 from by decide +kernel]
  refine lv_dstore_n (lv' := [(2, .double 4604180019048437077), (4, .int 1022), (0, .double 4595172819793696085)]) hx hb dX6_bitsOfShare_32 rfl hl (by decide) rfl (fun ls hl => ?_)
  refine lv_iinc (v := 1021) (lv' := [(4, .int 1021), (2, .double 4604180019048437077), (0, .double 4595172819793696085)]) hx hb dX6_bitsOfShare_33 hl (k := 1) rfl (by decide) (by decide) rfl (fun ls hl => ?_)
  refine lv_goto (tgt := 15) hx hb dX6_bitsOfShare_36 (by decide) ?_
  refine lv_dload_n hx hb dX6_bitsOfShare_15 rfl (lv_at hl 1 rfl) ?_
  refine lv_dconst1 hx hb dX6_bitsOfShare_16 ?_
  refine lv_dcmp hx hb dX6_bitsOfShare_17 ?_
  rw [show Op.cmpValue (FP.dcmp 4604180019048437077 FP.dconst1) CmpOp.g = (-1) from by decide +kernel]
  refine lv_if_ge (tgt := 39) hx hb dX6_bitsOfShare_18 (by decide) (fun h => absurd h (by decide)) (fun _ => ?_)
  refine lv_iload hx hb dX6_bitsOfShare_21 (lv_at hl 0 rfl) ?_
  refine lv_iconst (v := 1) hx hb dX6_bitsOfShare_23 (by decide) ?_
  refine lv_icmp_le (tgt := 39) hx hb dX6_bitsOfShare_24 (by decide) (fun h => absurd h (by decide)) (fun _ => ?_)
  refine lv_dload_n hx hb dX6_bitsOfShare_27 rfl (lv_at hl 1 rfl) ?_
  refine lv_ldc2d (v := 4611686018427387904) hx hb S.2.2.2.1 (S.2.2.2.2 _ kc_X6_291) dX6_bitsOfShare_28 ?_
  refine lv_dmul hx hb dX6_bitsOfShare_31 (by unfold vf_n64; decide +kernel) ?_
  rw [show FP.dmul 4604180019048437077 4611686018427387904 = 4608683618675807573 from by decide +kernel]
  refine lv_dstore_n (lv' := [(2, .double 4608683618675807573), (4, .int 1021), (0, .double 4595172819793696085)]) hx hb dX6_bitsOfShare_32 rfl hl (by decide) rfl (fun ls hl => ?_)
  refine lv_iinc (v := 1020) (lv' := [(4, .int 1020), (2, .double 4608683618675807573), (0, .double 4595172819793696085)]) hx hb dX6_bitsOfShare_33 hl (k := 1) rfl (by decide) (by decide) rfl (fun ls hl => ?_)
  refine lv_goto (tgt := 15) hx hb dX6_bitsOfShare_36 (by decide) ?_
  refine lv_dload_n hx hb dX6_bitsOfShare_15 rfl (lv_at hl 1 rfl) ?_
  refine lv_dconst1 hx hb dX6_bitsOfShare_16 ?_
  refine lv_dcmp hx hb dX6_bitsOfShare_17 ?_
  rw [show Op.cmpValue (FP.dcmp 4608683618675807573 FP.dconst1) CmpOp.g = 1 from by decide +kernel]
  refine lv_if_ge (tgt := 39) hx hb dX6_bitsOfShare_18 (by decide) (fun _ => ?_) (fun h => absurd (by decide) h)
  refine lv_dload_n hx hb dX6_bitsOfShare_39 rfl (lv_at hl 1 rfl) ?_
  refine lv_dconst1 hx hb dX6_bitsOfShare_40 ?_
  refine lv_dsub hx hb dX6_bitsOfShare_41 (by unfold vf_n64; decide +kernel) ?_
  rw [show FP.dsub 4608683618675807573 FP.dconst1 = 4599676419421066580 from by decide +kernel]
  refine lv_ldc2d (v := 4841369599423283200) hx hb S.2.2.2.1 (S.2.2.2.2 _ kc_X6_293) dX6_bitsOfShare_42 ?_
  refine lv_dmul hx hb dX6_bitsOfShare_45 (by unfold vf_n64; decide +kernel) ?_
  rw [show FP.dmul 4599676419421066580 4841369599423283200 = 4833863600044332372 from by decide +kernel]
  refine lv_d2l hx hb dX6_bitsOfShare_46 ?_
  rw [show FP.d2l 4833863600044332372 = 1501199875790165 from by decide +kernel]
  refine lv_lstore (lv' := [(5, .long 1501199875790165), (4, .int 1020), (2, .double 4608683618675807573), (0, .double 4595172819793696085)]) hx hb dX6_bitsOfShare_47 hl (by decide) rfl (fun ls hl => ?_)
  refine lv_iload hx hb dX6_bitsOfShare_49 (lv_at hl 1 rfl) ?_
  refine lv_i2l (v := (1020 : Int32).toInt64) hx hb dX6_bitsOfShare_51 rfl ?_
  refine lv_bipush (v := 52) hx hb dX6_bitsOfShare_52 (by decide) ?_
  refine lv_lshl (v := 4593671619917905920) hx hb dX6_bitsOfShare_54 (by decide) ?_
  refine lv_lload hx hb dX6_bitsOfShare_55 (lv_at hl 0 rfl) ?_
  refine lv_ladd hx hb dX6_bitsOfShare_57 ?_
  exact zr_l hx hb hr hlk (by decide +kernel) dX6_bitsOfShare_58
set_option maxHeartbeats 4000000 in
set_option maxRecDepth 100000 in
theorem c_X6_bitsOfShare_2 (l : Launch) (D : va_G) (ca : Nat → ClassId)  : zMr l yX6_bitsOfShare cX6_bitsOfShare 7 (some .long) 0 0 D ca [] [.double 4599676419421066581] (.long 4599676419421066581) := by
  refine zMr_of (own := RX6) (by decide) rfl (Nat.le_of_ble_eq_true rfl) ?_
  intro p e s m args below meth c ls S hr hlk hP hK hl
  have hx := S.1
  have hb := S.2.1
  have hl : lv_has ls 7 [(0, .double 4599676419421066581)] := hl
  refine lv_dload_n hx hb dX6_bitsOfShare_0 rfl (lv_at hl 0 rfl) ?_
  refine lv_dconst0 hx hb dX6_bitsOfShare_1 ?_
  refine lv_dcmp hx hb dX6_bitsOfShare_2 ?_
  rw [show Op.cmpValue (FP.dcmp 4599676419421066581 FP.dconst0) CmpOp.g = 1 from by decide +kernel]
  refine lv_if_gt (tgt := 8) hx hb dX6_bitsOfShare_3 (by decide) (fun _ => ?_) (fun h => absurd (by decide) h)
  refine lv_dload_n hx hb dX6_bitsOfShare_8 rfl (lv_at hl 0 rfl) ?_
  refine lv_dstore_n (lv' := [(2, .double 4599676419421066581), (0, .double 4599676419421066581)]) hx hb dX6_bitsOfShare_9 rfl hl (by decide) rfl (fun ls hl => ?_)
  refine lv_sipush (v := 1023) hx hb dX6_bitsOfShare_10 (by decide) ?_
  refine lv_istore (lv' := [(4, .int 1023), (2, .double 4599676419421066581), (0, .double 4599676419421066581)]) hx hb dX6_bitsOfShare_13 hl (by decide) rfl (fun ls hl => ?_)
  refine lv_dload_n hx hb dX6_bitsOfShare_15 rfl (lv_at hl 1 rfl) ?_
  refine lv_dconst1 hx hb dX6_bitsOfShare_16 ?_
  refine lv_dcmp hx hb dX6_bitsOfShare_17 ?_
  rw [show Op.cmpValue (FP.dcmp 4599676419421066581 FP.dconst1) CmpOp.g = (-1) from by decide +kernel]
  refine lv_if_ge (tgt := 39) hx hb dX6_bitsOfShare_18 (by decide) (fun h => absurd h (by decide)) (fun _ => ?_)
  refine lv_iload hx hb dX6_bitsOfShare_21 (lv_at hl 0 rfl) ?_
  refine lv_iconst (v := 1) hx hb dX6_bitsOfShare_23 (by decide) ?_
  refine lv_icmp_le (tgt := 39) hx hb dX6_bitsOfShare_24 (by decide) (fun h => absurd h (by decide)) (fun _ => ?_)
  refine lv_dload_n hx hb dX6_bitsOfShare_27 rfl (lv_at hl 1 rfl) ?_
  refine lv_ldc2d (v := 4611686018427387904) hx hb S.2.2.2.1 (S.2.2.2.2 _ kc_X6_291) dX6_bitsOfShare_28 ?_
  refine lv_dmul hx hb dX6_bitsOfShare_31 (by unfold vf_n64; decide +kernel) ?_
  rw [show FP.dmul 4599676419421066581 4611686018427387904 = 4604180019048437077 from by decide +kernel]
  refine lv_dstore_n (lv' := [(2, .double 4604180019048437077), (4, .int 1023), (0, .double 4599676419421066581)]) hx hb dX6_bitsOfShare_32 rfl hl (by decide) rfl (fun ls hl => ?_)
  refine lv_iinc (v := 1022) (lv' := [(4, .int 1022), (2, .double 4604180019048437077), (0, .double 4599676419421066581)]) hx hb dX6_bitsOfShare_33 hl (k := 1) rfl (by decide) (by decide) rfl (fun ls hl => ?_)
  refine lv_goto (tgt := 15) hx hb dX6_bitsOfShare_36 (by decide) ?_
  refine lv_dload_n hx hb dX6_bitsOfShare_15 rfl (lv_at hl 1 rfl) ?_
  refine lv_dconst1 hx hb dX6_bitsOfShare_16 ?_
  refine lv_dcmp hx hb dX6_bitsOfShare_17 ?_
  rw [show Op.cmpValue (FP.dcmp 4604180019048437077 FP.dconst1) CmpOp.g = (-1) from by decide +kernel]
  refine lv_if_ge (tgt := 39) hx hb dX6_bitsOfShare_18 (by decide) (fun h => absurd h (by decide)) (fun _ => ?_)
  refine lv_iload hx hb dX6_bitsOfShare_21 (lv_at hl 0 rfl) ?_
  refine lv_iconst (v := 1) hx hb dX6_bitsOfShare_23 (by decide) ?_
  refine lv_icmp_le (tgt := 39) hx hb dX6_bitsOfShare_24 (by decide) (fun h => absurd h (by decide)) (fun _ => ?_)
  refine lv_dload_n hx hb dX6_bitsOfShare_27 rfl (lv_at hl 1 rfl) ?_
  refine lv_ldc2d (v := 4611686018427387904) hx hb S.2.2.2.1 (S.2.2.2.2 _ kc_X6_291) dX6_bitsOfShare_28 ?_
  refine lv_dmul hx hb dX6_bitsOfShare_31 (by unfold vf_n64; decide +kernel) ?_
  rw [show FP.dmul 4604180019048437077 4611686018427387904 = 4608683618675807573 from by decide +kernel]
  refine lv_dstore_n (lv' := [(2, .double 4608683618675807573), (4, .int 1022), (0, .double 4599676419421066581)]) hx hb dX6_bitsOfShare_32 rfl hl (by decide) rfl (fun ls hl => ?_)
  refine lv_iinc (v := 1021) (lv' := [(4, .int 1021), (2, .double 4608683618675807573), (0, .double 4599676419421066581)]) hx hb dX6_bitsOfShare_33 hl (k := 1) rfl (by decide) (by decide) rfl (fun ls hl => ?_)
  refine lv_goto (tgt := 15) hx hb dX6_bitsOfShare_36 (by decide) ?_
  refine lv_dload_n hx hb dX6_bitsOfShare_15 rfl (lv_at hl 1 rfl) ?_
  refine lv_dconst1 hx hb dX6_bitsOfShare_16 ?_
  refine lv_dcmp hx hb dX6_bitsOfShare_17 ?_
  rw [show Op.cmpValue (FP.dcmp 4608683618675807573 FP.dconst1) CmpOp.g = 1 from by decide +kernel]
  refine lv_if_ge (tgt := 39) hx hb dX6_bitsOfShare_18 (by decide) (fun _ => ?_) (fun h => absurd (by decide) h)
  refine lv_dload_n hx hb dX6_bitsOfShare_39 rfl (lv_at hl 1 rfl) ?_
  refine lv_dconst1 hx hb dX6_bitsOfShare_40 ?_
  refine lv_dsub hx hb dX6_bitsOfShare_41 (by unfold vf_n64; decide +kernel) ?_
  rw [show FP.dsub 4608683618675807573 FP.dconst1 = 4599676419421066580 from by decide +kernel]
  refine lv_ldc2d (v := 4841369599423283200) hx hb S.2.2.2.1 (S.2.2.2.2 _ kc_X6_293) dX6_bitsOfShare_42 ?_
  refine lv_dmul hx hb dX6_bitsOfShare_45 (by unfold vf_n64; decide +kernel) ?_
  rw [show FP.dmul 4599676419421066580 4841369599423283200 = 4833863600044332372 from by decide +kernel]
  refine lv_d2l hx hb dX6_bitsOfShare_46 ?_
  rw [show FP.d2l 4833863600044332372 = 1501199875790165 from by decide +kernel]
  refine lv_lstore (lv' := [(5, .long 1501199875790165), (4, .int 1021), (2, .double 4608683618675807573), (0, .double 4599676419421066581)]) hx hb dX6_bitsOfShare_47 hl (by decide) rfl (fun ls hl => ?_)
  refine lv_iload hx hb dX6_bitsOfShare_49 (lv_at hl 1 rfl) ?_
  refine lv_i2l (v := (1021 : Int32).toInt64) hx hb dX6_bitsOfShare_51 rfl ?_
  refine lv_bipush (v := 52) hx hb dX6_bitsOfShare_52 (by decide) ?_
  refine lv_lshl (v := 4598175219545276416) hx hb dX6_bitsOfShare_54 (by decide) ?_
  refine lv_lload hx hb dX6_bitsOfShare_55 (lv_at hl 0 rfl) ?_
  refine lv_ladd hx hb dX6_bitsOfShare_57 ?_
  exact zr_l hx hb hr hlk (by decide +kernel) dX6_bitsOfShare_58
set_option maxHeartbeats 4000000 in
set_option maxRecDepth 100000 in
theorem c_X6_bitsOfShare_3 (l : Launch) (D : va_G) (ca : Nat → ClassId)  : zMr l yX6_bitsOfShare cX6_bitsOfShare 7 (some .long) 0 0 D ca [] [.double 4602678819172646912] (.long 4602678819172646912) := by
  refine zMr_of (own := RX6) (by decide) rfl (Nat.le_of_ble_eq_true rfl) ?_
  intro p e s m args below meth c ls S hr hlk hP hK hl
  have hx := S.1
  have hb := S.2.1
  have hl : lv_has ls 7 [(0, .double 4602678819172646912)] := hl
  refine lv_dload_n hx hb dX6_bitsOfShare_0 rfl (lv_at hl 0 rfl) ?_
  refine lv_dconst0 hx hb dX6_bitsOfShare_1 ?_
  refine lv_dcmp hx hb dX6_bitsOfShare_2 ?_
  rw [show Op.cmpValue (FP.dcmp 4602678819172646912 FP.dconst0) CmpOp.g = 1 from by decide +kernel]
  refine lv_if_gt (tgt := 8) hx hb dX6_bitsOfShare_3 (by decide) (fun _ => ?_) (fun h => absurd (by decide) h)
  refine lv_dload_n hx hb dX6_bitsOfShare_8 rfl (lv_at hl 0 rfl) ?_
  refine lv_dstore_n (lv' := [(2, .double 4602678819172646912), (0, .double 4602678819172646912)]) hx hb dX6_bitsOfShare_9 rfl hl (by decide) rfl (fun ls hl => ?_)
  refine lv_sipush (v := 1023) hx hb dX6_bitsOfShare_10 (by decide) ?_
  refine lv_istore (lv' := [(4, .int 1023), (2, .double 4602678819172646912), (0, .double 4602678819172646912)]) hx hb dX6_bitsOfShare_13 hl (by decide) rfl (fun ls hl => ?_)
  refine lv_dload_n hx hb dX6_bitsOfShare_15 rfl (lv_at hl 1 rfl) ?_
  refine lv_dconst1 hx hb dX6_bitsOfShare_16 ?_
  refine lv_dcmp hx hb dX6_bitsOfShare_17 ?_
  rw [show Op.cmpValue (FP.dcmp 4602678819172646912 FP.dconst1) CmpOp.g = (-1) from by decide +kernel]
  refine lv_if_ge (tgt := 39) hx hb dX6_bitsOfShare_18 (by decide) (fun h => absurd h (by decide)) (fun _ => ?_)
  refine lv_iload hx hb dX6_bitsOfShare_21 (lv_at hl 0 rfl) ?_
  refine lv_iconst (v := 1) hx hb dX6_bitsOfShare_23 (by decide) ?_
  refine lv_icmp_le (tgt := 39) hx hb dX6_bitsOfShare_24 (by decide) (fun h => absurd h (by decide)) (fun _ => ?_)
  refine lv_dload_n hx hb dX6_bitsOfShare_27 rfl (lv_at hl 1 rfl) ?_
  refine lv_ldc2d (v := 4611686018427387904) hx hb S.2.2.2.1 (S.2.2.2.2 _ kc_X6_291) dX6_bitsOfShare_28 ?_
  refine lv_dmul hx hb dX6_bitsOfShare_31 (by unfold vf_n64; decide +kernel) ?_
  rw [show FP.dmul 4602678819172646912 4611686018427387904 = 4607182418800017408 from by decide +kernel]
  refine lv_dstore_n (lv' := [(2, .double 4607182418800017408), (4, .int 1023), (0, .double 4602678819172646912)]) hx hb dX6_bitsOfShare_32 rfl hl (by decide) rfl (fun ls hl => ?_)
  refine lv_iinc (v := 1022) (lv' := [(4, .int 1022), (2, .double 4607182418800017408), (0, .double 4602678819172646912)]) hx hb dX6_bitsOfShare_33 hl (k := 1) rfl (by decide) (by decide) rfl (fun ls hl => ?_)
  refine lv_goto (tgt := 15) hx hb dX6_bitsOfShare_36 (by decide) ?_
  refine lv_dload_n hx hb dX6_bitsOfShare_15 rfl (lv_at hl 1 rfl) ?_
  refine lv_dconst1 hx hb dX6_bitsOfShare_16 ?_
  refine lv_dcmp hx hb dX6_bitsOfShare_17 ?_
  rw [show Op.cmpValue (FP.dcmp 4607182418800017408 FP.dconst1) CmpOp.g = 0 from by decide +kernel]
  refine lv_if_ge (tgt := 39) hx hb dX6_bitsOfShare_18 (by decide) (fun _ => ?_) (fun h => absurd (by decide) h)
  refine lv_dload_n hx hb dX6_bitsOfShare_39 rfl (lv_at hl 1 rfl) ?_
  refine lv_dconst1 hx hb dX6_bitsOfShare_40 ?_
  refine lv_dsub hx hb dX6_bitsOfShare_41 (by unfold vf_n64; decide +kernel) ?_
  rw [show FP.dsub 4607182418800017408 FP.dconst1 = 0 from by decide +kernel]
  refine lv_ldc2d (v := 4841369599423283200) hx hb S.2.2.2.1 (S.2.2.2.2 _ kc_X6_293) dX6_bitsOfShare_42 ?_
  refine lv_dmul hx hb dX6_bitsOfShare_45 (by unfold vf_n64; decide +kernel) ?_
  rw [show FP.dmul 0 4841369599423283200 = 0 from by decide +kernel]
  refine lv_d2l hx hb dX6_bitsOfShare_46 ?_
  rw [show FP.d2l 0 = 0 from by decide +kernel]
  refine lv_lstore (lv' := [(5, .long 0), (4, .int 1022), (2, .double 4607182418800017408), (0, .double 4602678819172646912)]) hx hb dX6_bitsOfShare_47 hl (by decide) rfl (fun ls hl => ?_)
  refine lv_iload hx hb dX6_bitsOfShare_49 (lv_at hl 1 rfl) ?_
  refine lv_i2l (v := (1022 : Int32).toInt64) hx hb dX6_bitsOfShare_51 rfl ?_
  refine lv_bipush (v := 52) hx hb dX6_bitsOfShare_52 (by decide) ?_
  refine lv_lshl (v := 4602678819172646912) hx hb dX6_bitsOfShare_54 (by decide) ?_
  refine lv_lload hx hb dX6_bitsOfShare_55 (lv_at hl 0 rfl) ?_
  refine lv_ladd hx hb dX6_bitsOfShare_57 ?_
  exact zr_l hx hb hr hlk (by decide +kernel) dX6_bitsOfShare_58
set_option maxHeartbeats 4000000 in
set_option maxRecDepth 100000 in
theorem c_X6_bitsOfShare_4 (l : Launch) (D : va_G) (ca : Nat → ClassId)  : zMr l yX6_bitsOfShare cX6_bitsOfShare 7 (some .long) 0 0 D ca [] [.double 4604180019048437077] (.long 4604180019048437077) := by
  refine zMr_of (own := RX6) (by decide) rfl (Nat.le_of_ble_eq_true rfl) ?_
  intro p e s m args below meth c ls S hr hlk hP hK hl
  have hx := S.1
  have hb := S.2.1
  have hl : lv_has ls 7 [(0, .double 4604180019048437077)] := hl
  refine lv_dload_n hx hb dX6_bitsOfShare_0 rfl (lv_at hl 0 rfl) ?_
  refine lv_dconst0 hx hb dX6_bitsOfShare_1 ?_
  refine lv_dcmp hx hb dX6_bitsOfShare_2 ?_
  rw [show Op.cmpValue (FP.dcmp 4604180019048437077 FP.dconst0) CmpOp.g = 1 from by decide +kernel]
  refine lv_if_gt (tgt := 8) hx hb dX6_bitsOfShare_3 (by decide) (fun _ => ?_) (fun h => absurd (by decide) h)
  refine lv_dload_n hx hb dX6_bitsOfShare_8 rfl (lv_at hl 0 rfl) ?_
  refine lv_dstore_n (lv' := [(2, .double 4604180019048437077), (0, .double 4604180019048437077)]) hx hb dX6_bitsOfShare_9 rfl hl (by decide) rfl (fun ls hl => ?_)
  refine lv_sipush (v := 1023) hx hb dX6_bitsOfShare_10 (by decide) ?_
  refine lv_istore (lv' := [(4, .int 1023), (2, .double 4604180019048437077), (0, .double 4604180019048437077)]) hx hb dX6_bitsOfShare_13 hl (by decide) rfl (fun ls hl => ?_)
  refine lv_dload_n hx hb dX6_bitsOfShare_15 rfl (lv_at hl 1 rfl) ?_
  refine lv_dconst1 hx hb dX6_bitsOfShare_16 ?_
  refine lv_dcmp hx hb dX6_bitsOfShare_17 ?_
  rw [show Op.cmpValue (FP.dcmp 4604180019048437077 FP.dconst1) CmpOp.g = (-1) from by decide +kernel]
  refine lv_if_ge (tgt := 39) hx hb dX6_bitsOfShare_18 (by decide) (fun h => absurd h (by decide)) (fun _ => ?_)
  refine lv_iload hx hb dX6_bitsOfShare_21 (lv_at hl 0 rfl) ?_
  refine lv_iconst (v := 1) hx hb dX6_bitsOfShare_23 (by decide) ?_
  refine lv_icmp_le (tgt := 39) hx hb dX6_bitsOfShare_24 (by decide) (fun h => absurd h (by decide)) (fun _ => ?_)
  refine lv_dload_n hx hb dX6_bitsOfShare_27 rfl (lv_at hl 1 rfl) ?_
  refine lv_ldc2d (v := 4611686018427387904) hx hb S.2.2.2.1 (S.2.2.2.2 _ kc_X6_291) dX6_bitsOfShare_28 ?_
  refine lv_dmul hx hb dX6_bitsOfShare_31 (by unfold vf_n64; decide +kernel) ?_
  rw [show FP.dmul 4604180019048437077 4611686018427387904 = 4608683618675807573 from by decide +kernel]
  refine lv_dstore_n (lv' := [(2, .double 4608683618675807573), (4, .int 1023), (0, .double 4604180019048437077)]) hx hb dX6_bitsOfShare_32 rfl hl (by decide) rfl (fun ls hl => ?_)
  refine lv_iinc (v := 1022) (lv' := [(4, .int 1022), (2, .double 4608683618675807573), (0, .double 4604180019048437077)]) hx hb dX6_bitsOfShare_33 hl (k := 1) rfl (by decide) (by decide) rfl (fun ls hl => ?_)
  refine lv_goto (tgt := 15) hx hb dX6_bitsOfShare_36 (by decide) ?_
  refine lv_dload_n hx hb dX6_bitsOfShare_15 rfl (lv_at hl 1 rfl) ?_
  refine lv_dconst1 hx hb dX6_bitsOfShare_16 ?_
  refine lv_dcmp hx hb dX6_bitsOfShare_17 ?_
  rw [show Op.cmpValue (FP.dcmp 4608683618675807573 FP.dconst1) CmpOp.g = 1 from by decide +kernel]
  refine lv_if_ge (tgt := 39) hx hb dX6_bitsOfShare_18 (by decide) (fun _ => ?_) (fun h => absurd (by decide) h)
  refine lv_dload_n hx hb dX6_bitsOfShare_39 rfl (lv_at hl 1 rfl) ?_
  refine lv_dconst1 hx hb dX6_bitsOfShare_40 ?_
  refine lv_dsub hx hb dX6_bitsOfShare_41 (by unfold vf_n64; decide +kernel) ?_
  rw [show FP.dsub 4608683618675807573 FP.dconst1 = 4599676419421066580 from by decide +kernel]
  refine lv_ldc2d (v := 4841369599423283200) hx hb S.2.2.2.1 (S.2.2.2.2 _ kc_X6_293) dX6_bitsOfShare_42 ?_
  refine lv_dmul hx hb dX6_bitsOfShare_45 (by unfold vf_n64; decide +kernel) ?_
  rw [show FP.dmul 4599676419421066580 4841369599423283200 = 4833863600044332372 from by decide +kernel]
  refine lv_d2l hx hb dX6_bitsOfShare_46 ?_
  rw [show FP.d2l 4833863600044332372 = 1501199875790165 from by decide +kernel]
  refine lv_lstore (lv' := [(5, .long 1501199875790165), (4, .int 1022), (2, .double 4608683618675807573), (0, .double 4604180019048437077)]) hx hb dX6_bitsOfShare_47 hl (by decide) rfl (fun ls hl => ?_)
  refine lv_iload hx hb dX6_bitsOfShare_49 (lv_at hl 1 rfl) ?_
  refine lv_i2l (v := (1022 : Int32).toInt64) hx hb dX6_bitsOfShare_51 rfl ?_
  refine lv_bipush (v := 52) hx hb dX6_bitsOfShare_52 (by decide) ?_
  refine lv_lshl (v := 4602678819172646912) hx hb dX6_bitsOfShare_54 (by decide) ?_
  refine lv_lload hx hb dX6_bitsOfShare_55 (lv_at hl 0 rfl) ?_
  refine lv_ladd hx hb dX6_bitsOfShare_57 ?_
  exact zr_l hx hb hr hlk (by decide +kernel) dX6_bitsOfShare_58
set_option maxHeartbeats 4000000 in
set_option maxRecDepth 100000 in
theorem c_X6_bitsOfShare_5 (l : Launch) (D : va_G) (ca : Nat → ClassId)  : zMr l yX6_bitsOfShare cX6_bitsOfShare 7 (some .long) 0 0 D ca [] [.double 4605681218924227243] (.long 4605681218924227243) := by
  refine zMr_of (own := RX6) (by decide) rfl (Nat.le_of_ble_eq_true rfl) ?_
  intro p e s m args below meth c ls S hr hlk hP hK hl
  have hx := S.1
  have hb := S.2.1
  have hl : lv_has ls 7 [(0, .double 4605681218924227243)] := hl
  refine lv_dload_n hx hb dX6_bitsOfShare_0 rfl (lv_at hl 0 rfl) ?_
  refine lv_dconst0 hx hb dX6_bitsOfShare_1 ?_
  refine lv_dcmp hx hb dX6_bitsOfShare_2 ?_
  rw [show Op.cmpValue (FP.dcmp 4605681218924227243 FP.dconst0) CmpOp.g = 1 from by decide +kernel]
  refine lv_if_gt (tgt := 8) hx hb dX6_bitsOfShare_3 (by decide) (fun _ => ?_) (fun h => absurd (by decide) h)
  refine lv_dload_n hx hb dX6_bitsOfShare_8 rfl (lv_at hl 0 rfl) ?_
  refine lv_dstore_n (lv' := [(2, .double 4605681218924227243), (0, .double 4605681218924227243)]) hx hb dX6_bitsOfShare_9 rfl hl (by decide) rfl (fun ls hl => ?_)
  refine lv_sipush (v := 1023) hx hb dX6_bitsOfShare_10 (by decide) ?_
  refine lv_istore (lv' := [(4, .int 1023), (2, .double 4605681218924227243), (0, .double 4605681218924227243)]) hx hb dX6_bitsOfShare_13 hl (by decide) rfl (fun ls hl => ?_)
  refine lv_dload_n hx hb dX6_bitsOfShare_15 rfl (lv_at hl 1 rfl) ?_
  refine lv_dconst1 hx hb dX6_bitsOfShare_16 ?_
  refine lv_dcmp hx hb dX6_bitsOfShare_17 ?_
  rw [show Op.cmpValue (FP.dcmp 4605681218924227243 FP.dconst1) CmpOp.g = (-1) from by decide +kernel]
  refine lv_if_ge (tgt := 39) hx hb dX6_bitsOfShare_18 (by decide) (fun h => absurd h (by decide)) (fun _ => ?_)
  refine lv_iload hx hb dX6_bitsOfShare_21 (lv_at hl 0 rfl) ?_
  refine lv_iconst (v := 1) hx hb dX6_bitsOfShare_23 (by decide) ?_
  refine lv_icmp_le (tgt := 39) hx hb dX6_bitsOfShare_24 (by decide) (fun h => absurd h (by decide)) (fun _ => ?_)
  refine lv_dload_n hx hb dX6_bitsOfShare_27 rfl (lv_at hl 1 rfl) ?_
  refine lv_ldc2d (v := 4611686018427387904) hx hb S.2.2.2.1 (S.2.2.2.2 _ kc_X6_291) dX6_bitsOfShare_28 ?_
  refine lv_dmul hx hb dX6_bitsOfShare_31 (by unfold vf_n64; decide +kernel) ?_
  rw [show FP.dmul 4605681218924227243 4611686018427387904 = 4610184818551597739 from by decide +kernel]
  refine lv_dstore_n (lv' := [(2, .double 4610184818551597739), (4, .int 1023), (0, .double 4605681218924227243)]) hx hb dX6_bitsOfShare_32 rfl hl (by decide) rfl (fun ls hl => ?_)
  refine lv_iinc (v := 1022) (lv' := [(4, .int 1022), (2, .double 4610184818551597739), (0, .double 4605681218924227243)]) hx hb dX6_bitsOfShare_33 hl (k := 1) rfl (by decide) (by decide) rfl (fun ls hl => ?_)
  refine lv_goto (tgt := 15) hx hb dX6_bitsOfShare_36 (by decide) ?_
  refine lv_dload_n hx hb dX6_bitsOfShare_15 rfl (lv_at hl 1 rfl) ?_
  refine lv_dconst1 hx hb dX6_bitsOfShare_16 ?_
  refine lv_dcmp hx hb dX6_bitsOfShare_17 ?_
  rw [show Op.cmpValue (FP.dcmp 4610184818551597739 FP.dconst1) CmpOp.g = 1 from by decide +kernel]
  refine lv_if_ge (tgt := 39) hx hb dX6_bitsOfShare_18 (by decide) (fun _ => ?_) (fun h => absurd (by decide) h)
  refine lv_dload_n hx hb dX6_bitsOfShare_39 rfl (lv_at hl 1 rfl) ?_
  refine lv_dconst1 hx hb dX6_bitsOfShare_40 ?_
  refine lv_dsub hx hb dX6_bitsOfShare_41 (by unfold vf_n64; decide +kernel) ?_
  rw [show FP.dsub 4610184818551597739 FP.dconst1 = 4604180019048437078 from by decide +kernel]
  refine lv_ldc2d (v := 4841369599423283200) hx hb S.2.2.2.1 (S.2.2.2.2 _ kc_X6_293) dX6_bitsOfShare_42 ?_
  refine lv_dmul hx hb dX6_bitsOfShare_45 (by unfold vf_n64; decide +kernel) ?_
  rw [show FP.dmul 4604180019048437078 4841369599423283200 = 4838367199671702870 from by decide +kernel]
  refine lv_d2l hx hb dX6_bitsOfShare_46 ?_
  rw [show FP.d2l 4838367199671702870 = 3002399751580331 from by decide +kernel]
  refine lv_lstore (lv' := [(5, .long 3002399751580331), (4, .int 1022), (2, .double 4610184818551597739), (0, .double 4605681218924227243)]) hx hb dX6_bitsOfShare_47 hl (by decide) rfl (fun ls hl => ?_)
  refine lv_iload hx hb dX6_bitsOfShare_49 (lv_at hl 1 rfl) ?_
  refine lv_i2l (v := (1022 : Int32).toInt64) hx hb dX6_bitsOfShare_51 rfl ?_
  refine lv_bipush (v := 52) hx hb dX6_bitsOfShare_52 (by decide) ?_
  refine lv_lshl (v := 4602678819172646912) hx hb dX6_bitsOfShare_54 (by decide) ?_
  refine lv_lload hx hb dX6_bitsOfShare_55 (lv_at hl 0 rfl) ?_
  refine lv_ladd hx hb dX6_bitsOfShare_57 ?_
  exact zr_l hx hb hr hlk (by decide +kernel) dX6_bitsOfShare_58
set_option maxHeartbeats 4000000 in
set_option maxRecDepth 100000 in
theorem c_X6_bitsOfShare_6 (l : Launch) (D : va_G) (ca : Nat → ClassId)  : zMr l yX6_bitsOfShare cX6_bitsOfShare 7 (some .long) 0 0 D ca [] [.double 4607182418800017408] (.long 4607182418800017408) := by
  refine zMr_of (own := RX6) (by decide) rfl (Nat.le_of_ble_eq_true rfl) ?_
  intro p e s m args below meth c ls S hr hlk hP hK hl
  have hx := S.1
  have hb := S.2.1
  have hl : lv_has ls 7 [(0, .double 4607182418800017408)] := hl
  refine lv_dload_n hx hb dX6_bitsOfShare_0 rfl (lv_at hl 0 rfl) ?_
  refine lv_dconst0 hx hb dX6_bitsOfShare_1 ?_
  refine lv_dcmp hx hb dX6_bitsOfShare_2 ?_
  rw [show Op.cmpValue (FP.dcmp 4607182418800017408 FP.dconst0) CmpOp.g = 1 from by decide +kernel]
  refine lv_if_gt (tgt := 8) hx hb dX6_bitsOfShare_3 (by decide) (fun _ => ?_) (fun h => absurd (by decide) h)
  refine lv_dload_n hx hb dX6_bitsOfShare_8 rfl (lv_at hl 0 rfl) ?_
  refine lv_dstore_n (lv' := [(2, .double 4607182418800017408), (0, .double 4607182418800017408)]) hx hb dX6_bitsOfShare_9 rfl hl (by decide) rfl (fun ls hl => ?_)
  refine lv_sipush (v := 1023) hx hb dX6_bitsOfShare_10 (by decide) ?_
  refine lv_istore (lv' := [(4, .int 1023), (2, .double 4607182418800017408), (0, .double 4607182418800017408)]) hx hb dX6_bitsOfShare_13 hl (by decide) rfl (fun ls hl => ?_)
  refine lv_dload_n hx hb dX6_bitsOfShare_15 rfl (lv_at hl 1 rfl) ?_
  refine lv_dconst1 hx hb dX6_bitsOfShare_16 ?_
  refine lv_dcmp hx hb dX6_bitsOfShare_17 ?_
  rw [show Op.cmpValue (FP.dcmp 4607182418800017408 FP.dconst1) CmpOp.g = 0 from by decide +kernel]
  refine lv_if_ge (tgt := 39) hx hb dX6_bitsOfShare_18 (by decide) (fun _ => ?_) (fun h => absurd (by decide) h)
  refine lv_dload_n hx hb dX6_bitsOfShare_39 rfl (lv_at hl 1 rfl) ?_
  refine lv_dconst1 hx hb dX6_bitsOfShare_40 ?_
  refine lv_dsub hx hb dX6_bitsOfShare_41 (by unfold vf_n64; decide +kernel) ?_
  rw [show FP.dsub 4607182418800017408 FP.dconst1 = 0 from by decide +kernel]
  refine lv_ldc2d (v := 4841369599423283200) hx hb S.2.2.2.1 (S.2.2.2.2 _ kc_X6_293) dX6_bitsOfShare_42 ?_
  refine lv_dmul hx hb dX6_bitsOfShare_45 (by unfold vf_n64; decide +kernel) ?_
  rw [show FP.dmul 0 4841369599423283200 = 0 from by decide +kernel]
  refine lv_d2l hx hb dX6_bitsOfShare_46 ?_
  rw [show FP.d2l 0 = 0 from by decide +kernel]
  refine lv_lstore (lv' := [(5, .long 0), (4, .int 1023), (2, .double 4607182418800017408), (0, .double 4607182418800017408)]) hx hb dX6_bitsOfShare_47 hl (by decide) rfl (fun ls hl => ?_)
  refine lv_iload hx hb dX6_bitsOfShare_49 (lv_at hl 1 rfl) ?_
  refine lv_i2l (v := (1023 : Int32).toInt64) hx hb dX6_bitsOfShare_51 rfl ?_
  refine lv_bipush (v := 52) hx hb dX6_bitsOfShare_52 (by decide) ?_
  refine lv_lshl (v := 4607182418800017408) hx hb dX6_bitsOfShare_54 (by decide) ?_
  refine lv_lload hx hb dX6_bitsOfShare_55 (lv_at hl 0 rfl) ?_
  refine lv_ladd hx hb dX6_bitsOfShare_57 ?_
  exact zr_l hx hb hr hlk (by decide +kernel) dX6_bitsOfShare_58
theorem c_X6_bitsOfShare (l : Launch) (D : va_G) (ca : Nat → ClassId) (v : UInt64) (hv : ∃ q, q < 7 ∧ v = zSh (nI q)) : zMr l yX6_bitsOfShare cX6_bitsOfShare 7 (some .long) 0 0 D ca [] [.double v] (.long v.toInt64) := by
  obtain ⟨q, hq, rfl⟩ := hv
  rcases (show q = 0 ∨ q = 1 ∨ q = 2 ∨ q = 3 ∨ q = 4 ∨ q = 5 ∨ q = 6 by omega) with rfl | rfl | rfl | rfl | rfl | rfl | rfl
  · rw [show zSh (nI 0) = 0 from by decide +kernel, show (0 : UInt64).toInt64 = 0 from by decide +kernel]; exact c_X6_bitsOfShare_0 l D ca
  · rw [show zSh (nI 1) = 4595172819793696085 from by decide +kernel, show (4595172819793696085 : UInt64).toInt64 = 4595172819793696085 from by decide +kernel]; exact c_X6_bitsOfShare_1 l D ca
  · rw [show zSh (nI 2) = 4599676419421066581 from by decide +kernel, show (4599676419421066581 : UInt64).toInt64 = 4599676419421066581 from by decide +kernel]; exact c_X6_bitsOfShare_2 l D ca
  · rw [show zSh (nI 3) = 4602678819172646912 from by decide +kernel, show (4602678819172646912 : UInt64).toInt64 = 4602678819172646912 from by decide +kernel]; exact c_X6_bitsOfShare_3 l D ca
  · rw [show zSh (nI 4) = 4604180019048437077 from by decide +kernel, show (4604180019048437077 : UInt64).toInt64 = 4604180019048437077 from by decide +kernel]; exact c_X6_bitsOfShare_4 l D ca
  · rw [show zSh (nI 5) = 4605681218924227243 from by decide +kernel, show (4605681218924227243 : UInt64).toInt64 = 4605681218924227243 from by decide +kernel]; exact c_X6_bitsOfShare_5 l D ca
  · rw [show zSh (nI 6) = 4607182418800017408 from by decide +kernel, show (4607182418800017408 : UInt64).toInt64 = 4607182418800017408 from by decide +kernel]; exact c_X6_bitsOfShare_6 l D ca
set_option maxHeartbeats 4000000 in
set_option maxRecDepth 100000 in
theorem c_X6_makeParts (l : Launch) (D : va_G) (ca : Nat → ClassId) (y a h x : Nat → Nat) (Z : zSt) (g : Nat → Nat) (n i q pl dg : Nat) (hn : n ≤ 60) (hg : ∀ k, g k < 128) (hpl : pl < 24) (hdg : dg < 10) (hN : [y 0, a 0, a 1, a 2, a 3, a 4, a 5, a 6, a 7, a 8, a 9, a 10, x 0, x 1].Nodup) : zMw l yX6_makeParts cX6_makeParts 3 (some .int) 4 89 D ca [(y 0, .inr (6, [.ref (a 0), .ref (h 0), .ref (x 0)])), (a 0, .inr (2, [.ref (a 1), .ref (a 6), .ref (a 9)])), (a 1, .inr (3, [.ref (a 2), .ref (a 3), .ref (a 4), .ref (a 5), .int Z.1.2.2.2.2.1, .int Z.1.2.2.2.2.2])), (a 2, .inl (ca 0, 24, .inl Z.1.1)), (a 3, .inl (ca 0, 24, .inl Z.1.2.1)), (a 4, .inl (ca 0, 24, .inl Z.1.2.2.1)), (a 5, .inl (ca 0, 6, .inl Z.1.2.2.2.1)), (a 6, .inr (0, [.ref (a 7), .ref (a 8)])), (a 7, .inl (ca 0, 4, .inl Z.2.1.1)), (a 8, .inl (ca 0, 4, .inl Z.2.1.2)), (a 9, .inr (4, [.ref (a 10), .int Z.2.2.2.1, .int Z.2.2.2.2])), (a 10, .inl (ca 0, 3, .inl Z.2.2.1)), (x 0, .inr (5, [.ref (x 1), .int (nI n), .int (nI i), .int (nI q), .int (nI pl), .int (nI dg)])), (x 1, .inl (ca 1, 60, .inl (fun k => nI (g k))))] ([(y 0, .inr (6, [.ref (a 0), .ref (h 0), .ref (x 0)])), (a 0, .inr (2, [.ref (a 1), .ref (a 6), .ref (a 9)])), (a 1, .inr (3, [.ref (a 2), .ref (a 3), .ref (a 4), .ref (a 5), .int ((((zPl g n q pl dg Z).2.1).1).2.2.2.2.1), .int ((((zPl g n q pl dg Z).2.1).1).2.2.2.2.2)])), (a 2, .inl (ca 0, 24, .inl ((((zPl g n q pl dg Z).2.1).1).1))), (a 3, .inl (ca 0, 24, .inl ((((zPl g n q pl dg Z).2.1).1).2.1))), (a 4, .inl (ca 0, 24, .inl ((((zPl g n q pl dg Z).2.1).1).2.2.1))), (a 5, .inl (ca 0, 6, .inl ((((zPl g n q pl dg Z).2.1).1).2.2.2.1))), (a 6, .inr (0, [.ref (a 7), .ref (a 8)])), (a 7, .inl (ca 0, 4, .inl ((((zPl g n q pl dg Z).2.1).2.1).1))), (a 8, .inl (ca 0, 4, .inl ((((zPl g n q pl dg Z).2.1).2.1).2))), (a 9, .inr (4, [.ref (a 10), .int ((((zPl g n q pl dg Z).2.1).2.2).2.1), .int ((((zPl g n q pl dg Z).2.1).2.2).2.2)])), (a 10, .inl (ca 0, 3, .inl ((((zPl g n q pl dg Z).2.1).2.2).1))), (x 0, .inr (5, [.ref (x 1), .int (nI n), .int (nI ((zPl g n q pl dg Z).2.2.1)), .int (nI ((zPl g n q pl dg Z).2.2.2.1)), .int (nI ((zPl g n q pl dg Z).2.2.2.2.1)), .int (nI ((zPl g n q pl dg Z).2.2.2.2.2))])), (x 1, .inl (ca 1, 60, .inl (fun k => nI (g k))))]) [.ref (y 0)] (some (.int ((zPl g n q pl dg Z).1))) := by
  refine zMw_of (own := RX6) (by decide) rfl (Nat.le_of_ble_eq_true rfl) ?_
  intro p e s m args below meth c ls S hr hlk hP hK hl hS
  have hP : va_P D vwCl [(y 0, .inr (6, [.ref (a 0), .ref (h 0), .ref (x 0)])), (a 0, .inr (2, [.ref (a 1), .ref (a 6), .ref (a 9)])), (a 1, .inr (3, [.ref (a 2), .ref (a 3), .ref (a 4), .ref (a 5), .int Z.1.2.2.2.2.1, .int Z.1.2.2.2.2.2])), (a 2, .inl (ca 0, 24, .inl Z.1.1)), (a 3, .inl (ca 0, 24, .inl Z.1.2.1)), (a 4, .inl (ca 0, 24, .inl Z.1.2.2.1)), (a 5, .inl (ca 0, 6, .inl Z.1.2.2.2.1)), (a 6, .inr (0, [.ref (a 7), .ref (a 8)])), (a 7, .inl (ca 0, 4, .inl Z.2.1.1)), (a 8, .inl (ca 0, 4, .inl Z.2.1.2)), (a 9, .inr (4, [.ref (a 10), .int Z.2.2.2.1, .int Z.2.2.2.2])), (a 10, .inl (ca 0, 3, .inl Z.2.2.1)), (x 0, .inr (5, [.ref (x 1), .int (nI n), .int (nI i), .int (nI q), .int (nI pl), .int (nI dg)])), (x 1, .inl (ca 1, 60, .inl (fun k => nI (g k))))] s.heap := hP
  have hS : va_S (zA [y 0, a 0, a 1, a 2, a 3, a 4, a 5, a 6, a 7, a 8, a 9, a 10, x 0, x 1]) s.heap s.heap [] := hS
  have hA : ∀ q ∈ [y 0, a 0, a 1, a 2, a 3, a 4, a 5, a 6, a 7, a 8, a 9, a 10, x 0, x 1], zA [y 0, a 0, a 1, a 2, a 3, a 4, a 5, a 6, a 7, a 8, a 9, a 10, x 0, x 1] q := fun _ h => h
  have hD := zDto (ws := [(y 0, .inr (6, [.ref (a 0), .ref (h 0), .ref (x 0)])), (a 0, .inr (2, [.ref (a 1), .ref (a 6), .ref (a 9)])), (a 1, .inr (3, [.ref (a 2), .ref (a 3), .ref (a 4), .ref (a 5), .int Z.1.2.2.2.2.1, .int Z.1.2.2.2.2.2])), (a 2, .inl (ca 0, 24, .inl Z.1.1)), (a 3, .inl (ca 0, 24, .inl Z.1.2.1)), (a 4, .inl (ca 0, 24, .inl Z.1.2.2.1)), (a 5, .inl (ca 0, 6, .inl Z.1.2.2.2.1)), (a 6, .inr (0, [.ref (a 7), .ref (a 8)])), (a 7, .inl (ca 0, 4, .inl Z.2.1.1)), (a 8, .inl (ca 0, 4, .inl Z.2.1.2)), (a 9, .inr (4, [.ref (a 10), .int Z.2.2.2.1, .int Z.2.2.2.2])), (a 10, .inl (ca 0, 3, .inl Z.2.2.1)), (x 0, .inr (5, [.ref (x 1), .int (nI n), .int (nI i), .int (nI q), .int (nI pl), .int (nI dg)])), (x 1, .inl (ca 1, 60, .inl (fun k => nI (g k))))]) hN hA rfl
  have hx := S.1
  have hb := S.2.1
  have hl : lv_has ls 3 [(0, .ref (y 0))] := hl
  refine lv_iconst (v := 0) hx hb dX6_makeParts_0 (by decide) ?_
  refine lv_istore_n (lv' := [(1, .int 0), (0, .ref (y 0))]) hx hb dX6_makeParts_1 rfl hl (by decide) rfl (fun ls hl => ?_)
  refine lv_aload_n hx hb dX6_makeParts_2 rfl (lv_at hl 1 rfl) ?_
  refine z_get S in_lay_X6 hK hP rfl 0 rfl 2 (by decide) fl_X6_26 rfl rfl dX6_makeParts_3 ?_
  refine zcw (As := []) (rest := []) (st1 := []) (q0 := 0) (lw := [x 0, x 1]) S (c_X5_rewind l D ca x g n i q pl dg (by omega) hg  (znd_pick hN [12, 13] rfl rfl)) ml_X6_269 zy_X5_rewind im_X5_rewind se_X5_rewind ⟨Nat.le_of_ble_eq_true rfl, Nat.le_of_ble_eq_true rfl⟩ hK hP hD hS [12, 13] rfl rfl rfl rfl rfl rfl rfl hl.1 rfl rfl (Nat.le_of_ble_eq_true rfl) ⟨Nat.zero_le _, Nat.zero_le _⟩ dX6_makeParts_6 (fun H locs hP hS => ?_)
  have hP : va_P D vwCl [(y 0, .inr (6, [.ref (a 0), .ref (h 0), .ref (x 0)])), (a 0, .inr (2, [.ref (a 1), .ref (a 6), .ref (a 9)])), (a 1, .inr (3, [.ref (a 2), .ref (a 3), .ref (a 4), .ref (a 5), .int Z.1.2.2.2.2.1, .int Z.1.2.2.2.2.2])), (a 2, .inl (ca 0, 24, .inl Z.1.1)), (a 3, .inl (ca 0, 24, .inl Z.1.2.1)), (a 4, .inl (ca 0, 24, .inl Z.1.2.2.1)), (a 5, .inl (ca 0, 6, .inl Z.1.2.2.2.1)), (a 6, .inr (0, [.ref (a 7), .ref (a 8)])), (a 7, .inl (ca 0, 4, .inl Z.2.1.1)), (a 8, .inl (ca 0, 4, .inl Z.2.1.2)), (a 9, .inr (4, [.ref (a 10), .int Z.2.2.2.1, .int Z.2.2.2.2])), (a 10, .inl (ca 0, 3, .inl Z.2.2.1)), (x 0, .inr (5, [.ref (x 1), .int (nI n), .int 0, .int (nI q), .int (nI pl), .int (nI dg)])), (x 1, .inl (ca 1, 60, .inl (fun k => nI (g k))))] H := hP
  have hD := zDto (ws := [(y 0, .inr (6, [.ref (a 0), .ref (h 0), .ref (x 0)])), (a 0, .inr (2, [.ref (a 1), .ref (a 6), .ref (a 9)])), (a 1, .inr (3, [.ref (a 2), .ref (a 3), .ref (a 4), .ref (a 5), .int Z.1.2.2.2.2.1, .int Z.1.2.2.2.2.2])), (a 2, .inl (ca 0, 24, .inl Z.1.1)), (a 3, .inl (ca 0, 24, .inl Z.1.2.1)), (a 4, .inl (ca 0, 24, .inl Z.1.2.2.1)), (a 5, .inl (ca 0, 6, .inl Z.1.2.2.2.1)), (a 6, .inr (0, [.ref (a 7), .ref (a 8)])), (a 7, .inl (ca 0, 4, .inl Z.2.1.1)), (a 8, .inl (ca 0, 4, .inl Z.2.1.2)), (a 9, .inr (4, [.ref (a 10), .int Z.2.2.2.1, .int Z.2.2.2.2])), (a 10, .inl (ca 0, 3, .inl Z.2.2.1)), (x 0, .inr (5, [.ref (x 1), .int (nI n), .int 0, .int (nI q), .int (nI pl), .int (nI dg)])), (x 1, .inl (ca 1, 60, .inl (fun k => nI (g k))))]) hN hA rfl
  refine lv_iconst (v := 0) hx hb dX6_makeParts_9 (by decide) ?_
  refine lv_istore_n (lv' := [(2, .int 0), (1, .int 0), (0, .ref (y 0))]) hx hb dX6_makeParts_10 rfl hl (by decide) rfl (fun ls hl => ?_)
  have loop_0 : ∀ (f : Nat) (k : Nat) (b : Int32) (U : zSt) (i0 : Nat) (q0 : Nat) (p0 : Nat) (d0 : Nat) (H : Heap) (locs : List Loc) (ls : Array Slot), k + f = 60 → i0 ≤ n → p0 < 24 → d0 < 10 → zPl g n q pl dg Z = zmpF g n f b U (i0, q0, p0, d0) → lv_has ls 3 [(0, .ref (y 0)), (1, .int b), (2, .int (nI k))] → va_P D vwCl [(y 0, .inr (6, [.ref (a 0), .ref (h 0), .ref (x 0)])), (a 0, .inr (2, [.ref (a 1), .ref (a 6), .ref (a 9)])), (a 1, .inr (3, [.ref (a 2), .ref (a 3), .ref (a 4), .ref (a 5), .int U.1.2.2.2.2.1, .int U.1.2.2.2.2.2])), (a 2, .inl (ca 0, 24, .inl U.1.1)), (a 3, .inl (ca 0, 24, .inl U.1.2.1)), (a 4, .inl (ca 0, 24, .inl U.1.2.2.1)), (a 5, .inl (ca 0, 6, .inl U.1.2.2.2.1)), (a 6, .inr (0, [.ref (a 7), .ref (a 8)])), (a 7, .inl (ca 0, 4, .inl U.2.1.1)), (a 8, .inl (ca 0, 4, .inl U.2.1.2)), (a 9, .inr (4, [.ref (a 10), .int U.2.2.2.1, .int U.2.2.2.2])), (a 10, .inl (ca 0, 3, .inl U.2.2.1)), (x 0, .inr (5, [.ref (x 1), .int (nI n), .int (nI i0), .int (nI q0), .int (nI p0), .int (nI d0)])), (x 1, .inl (ca 1, 60, .inl (fun k => nI (g k))))] H → va_S (zA [y 0, a 0, a 1, a 2, a 3, a 4, a 5, a 6, a 7, a 8, a 9, a 10, x 0, x 1]) s.heap H locs → W p l e { frames := 4, cells := 0, slots := 0, locals := 89 } s m args below meth c H locs 0 0 (MQ below (zQw D [y 0, a 0, a 1, a 2, a 3, a 4, a 5, a 6, a 7, a 8, a 9, a 10, x 0, x 1] ([(y 0, .inr (6, [.ref (a 0), .ref (h 0), .ref (x 0)])), (a 0, .inr (2, [.ref (a 1), .ref (a 6), .ref (a 9)])), (a 1, .inr (3, [.ref (a 2), .ref (a 3), .ref (a 4), .ref (a 5), .int ((((zPl g n q pl dg Z).2.1).1).2.2.2.2.1), .int ((((zPl g n q pl dg Z).2.1).1).2.2.2.2.2)])), (a 2, .inl (ca 0, 24, .inl ((((zPl g n q pl dg Z).2.1).1).1))), (a 3, .inl (ca 0, 24, .inl ((((zPl g n q pl dg Z).2.1).1).2.1))), (a 4, .inl (ca 0, 24, .inl ((((zPl g n q pl dg Z).2.1).1).2.2.1))), (a 5, .inl (ca 0, 6, .inl ((((zPl g n q pl dg Z).2.1).1).2.2.2.1))), (a 6, .inr (0, [.ref (a 7), .ref (a 8)])), (a 7, .inl (ca 0, 4, .inl ((((zPl g n q pl dg Z).2.1).2.1).1))), (a 8, .inl (ca 0, 4, .inl ((((zPl g n q pl dg Z).2.1).2.1).2))), (a 9, .inr (4, [.ref (a 10), .int ((((zPl g n q pl dg Z).2.1).2.2).2.1), .int ((((zPl g n q pl dg Z).2.1).2.2).2.2)])), (a 10, .inl (ca 0, 3, .inl ((((zPl g n q pl dg Z).2.1).2.2).1))), (x 0, .inr (5, [.ref (x 1), .int (nI n), .int (nI ((zPl g n q pl dg Z).2.2.1)), .int (nI ((zPl g n q pl dg Z).2.2.2.1)), .int (nI ((zPl g n q pl dg Z).2.2.2.2.1)), .int (nI ((zPl g n q pl dg Z).2.2.2.2.2))])), (x 1, .inl (ca 1, 60, .inl (fun k => nI (g k))))]) (some (.int ((zPl g n q pl dg Z).1)))) args s 0 0 (zA [y 0, a 0, a 1, a 2, a 3, a 4, a 5, a 6, a 7, a 8, a 9, a 10, x 0, x 1])) (F0 m 11 ls []) := by
    intro f
    induction f with
    | zero =>
      intro k b U i0 q0 p0 d0 H locs ls j1 j3 j4 j5 j2 hl hP hS
      have hD := zDto (ws := [(y 0, .inr (6, [.ref (a 0), .ref (h 0), .ref (x 0)])), (a 0, .inr (2, [.ref (a 1), .ref (a 6), .ref (a 9)])), (a 1, .inr (3, [.ref (a 2), .ref (a 3), .ref (a 4), .ref (a 5), .int U.1.2.2.2.2.1, .int U.1.2.2.2.2.2])), (a 2, .inl (ca 0, 24, .inl U.1.1)), (a 3, .inl (ca 0, 24, .inl U.1.2.1)), (a 4, .inl (ca 0, 24, .inl U.1.2.2.1)), (a 5, .inl (ca 0, 6, .inl U.1.2.2.2.1)), (a 6, .inr (0, [.ref (a 7), .ref (a 8)])), (a 7, .inl (ca 0, 4, .inl U.2.1.1)), (a 8, .inl (ca 0, 4, .inl U.2.1.2)), (a 9, .inr (4, [.ref (a 10), .int U.2.2.2.1, .int U.2.2.2.2])), (a 10, .inl (ca 0, 3, .inl U.2.2.1)), (x 0, .inr (5, [.ref (x 1), .int (nI n), .int (nI i0), .int (nI q0), .int (nI p0), .int (nI d0)])), (x 1, .inl (ca 1, 60, .inl (fun k => nI (g k))))]) hN hA rfl
      refine lv_iload_n hx hb dX6_makeParts_11 rfl (lv_at hl 2 rfl) ?_
      refine lv_bipush (v := 60) hx hb dX6_makeParts_12 (by decide) ?_
      refine zn_ge hx hb (x := k) (y := 60) (by omega) (by omega) (tgt := 69) dX6_makeParts_14 (by decide) (fun c_14_2 => ?_) (fun h => False.elim (by omega))
      refine lv_iload_n hx hb dX6_makeParts_69 rfl (lv_at hl 1 rfl) ?_
      have hz : zPl g n q pl dg Z = (b, (U, (i0, q0, p0, d0))) := by rw [j2]; first | rfl | simp [zmpF, c_14_2]
      exact zw_i hx hb hr hlk hP hS ⟨by rw [hz] <;> rfl, by rw [hz] <;> rfl⟩ dX6_makeParts_70
    | succ f ih =>
      intro k b U i0 q0 p0 d0 H locs ls j1 j3 j4 j5 j2 hl hP hS
      have hD := zDto (ws := [(y 0, .inr (6, [.ref (a 0), .ref (h 0), .ref (x 0)])), (a 0, .inr (2, [.ref (a 1), .ref (a 6), .ref (a 9)])), (a 1, .inr (3, [.ref (a 2), .ref (a 3), .ref (a 4), .ref (a 5), .int U.1.2.2.2.2.1, .int U.1.2.2.2.2.2])), (a 2, .inl (ca 0, 24, .inl U.1.1)), (a 3, .inl (ca 0, 24, .inl U.1.2.1)), (a 4, .inl (ca 0, 24, .inl U.1.2.2.1)), (a 5, .inl (ca 0, 6, .inl U.1.2.2.2.1)), (a 6, .inr (0, [.ref (a 7), .ref (a 8)])), (a 7, .inl (ca 0, 4, .inl U.2.1.1)), (a 8, .inl (ca 0, 4, .inl U.2.1.2)), (a 9, .inr (4, [.ref (a 10), .int U.2.2.2.1, .int U.2.2.2.2])), (a 10, .inl (ca 0, 3, .inl U.2.2.1)), (x 0, .inr (5, [.ref (x 1), .int (nI n), .int (nI i0), .int (nI q0), .int (nI p0), .int (nI d0)])), (x 1, .inl (ca 1, 60, .inl (fun k => nI (g k))))]) hN hA rfl
      refine lv_iload_n hx hb dX6_makeParts_11 rfl (lv_at hl 2 rfl) ?_
      refine lv_bipush (v := 60) hx hb dX6_makeParts_12 (by decide) ?_
      refine zn_ge hx hb (x := k) (y := 60) (by omega) (by omega) (tgt := 69) dX6_makeParts_14 (by decide) (fun h => False.elim (by omega)) (fun c_14_3 => ?_)
      refine lv_aload_n hx hb dX6_makeParts_17 rfl (lv_at hl 0 rfl) ?_
      refine z_get S in_lay_X6 hK hP rfl 0 rfl 2 (by decide) fl_X6_26 rfl rfl dX6_makeParts_18 ?_
      refine zcw (As := []) (rest := []) (st1 := [.int (zb ((zRn g n i0 q0 p0 d0).1))]) (q0 := 0) (lw := [x 0, x 1]) S (c_X5_readNext l D ca x g n i0 q0 p0 d0 (by omega) hg (by omega)  (znd_pick hN [12, 13] rfl rfl)) ml_X6_272 zy_X5_readNext im_X5_readNext se_X5_readNext ⟨Nat.le_of_ble_eq_true rfl, Nat.le_of_ble_eq_true rfl⟩ hK hP hD hS [12, 13] rfl rfl rfl rfl rfl rfl rfl hl.1 rfl rfl (Nat.le_of_ble_eq_true rfl) ⟨Nat.zero_le _, Nat.zero_le _⟩ dX6_makeParts_21 (fun H locs hP hS => ?_)
      have hP : va_P D vwCl [(y 0, .inr (6, [.ref (a 0), .ref (h 0), .ref (x 0)])), (a 0, .inr (2, [.ref (a 1), .ref (a 6), .ref (a 9)])), (a 1, .inr (3, [.ref (a 2), .ref (a 3), .ref (a 4), .ref (a 5), .int U.1.2.2.2.2.1, .int U.1.2.2.2.2.2])), (a 2, .inl (ca 0, 24, .inl U.1.1)), (a 3, .inl (ca 0, 24, .inl U.1.2.1)), (a 4, .inl (ca 0, 24, .inl U.1.2.2.1)), (a 5, .inl (ca 0, 6, .inl U.1.2.2.2.1)), (a 6, .inr (0, [.ref (a 7), .ref (a 8)])), (a 7, .inl (ca 0, 4, .inl U.2.1.1)), (a 8, .inl (ca 0, 4, .inl U.2.1.2)), (a 9, .inr (4, [.ref (a 10), .int U.2.2.2.1, .int U.2.2.2.2])), (a 10, .inl (ca 0, 3, .inl U.2.2.1)), (x 0, .inr (5, [.ref (x 1), .int (nI n), .int (nI ((zRn g n i0 q0 p0 d0).2.1)), .int (nI ((zRn g n i0 q0 p0 d0).2.2.1)), .int (nI ((zRn g n i0 q0 p0 d0).2.2.2.1)), .int (nI ((zRn g n i0 q0 p0 d0).2.2.2.2))])), (x 1, .inl (ca 1, 60, .inl (fun k => nI (g k))))] H := hP
      have hD := zDto (ws := [(y 0, .inr (6, [.ref (a 0), .ref (h 0), .ref (x 0)])), (a 0, .inr (2, [.ref (a 1), .ref (a 6), .ref (a 9)])), (a 1, .inr (3, [.ref (a 2), .ref (a 3), .ref (a 4), .ref (a 5), .int U.1.2.2.2.2.1, .int U.1.2.2.2.2.2])), (a 2, .inl (ca 0, 24, .inl U.1.1)), (a 3, .inl (ca 0, 24, .inl U.1.2.1)), (a 4, .inl (ca 0, 24, .inl U.1.2.2.1)), (a 5, .inl (ca 0, 6, .inl U.1.2.2.2.1)), (a 6, .inr (0, [.ref (a 7), .ref (a 8)])), (a 7, .inl (ca 0, 4, .inl U.2.1.1)), (a 8, .inl (ca 0, 4, .inl U.2.1.2)), (a 9, .inr (4, [.ref (a 10), .int U.2.2.2.1, .int U.2.2.2.2])), (a 10, .inl (ca 0, 3, .inl U.2.2.1)), (x 0, .inr (5, [.ref (x 1), .int (nI n), .int (nI ((zRn g n i0 q0 p0 d0).2.1)), .int (nI ((zRn g n i0 q0 p0 d0).2.2.1)), .int (nI ((zRn g n i0 q0 p0 d0).2.2.2.1)), .int (nI ((zRn g n i0 q0 p0 d0).2.2.2.2))])), (x 1, .inl (ca 1, 60, .inl (fun k => nI (g k))))]) hN hA rfl
      have hzle := zRn_le (g := g) (n := n) (i := i0) (q := q0) (pl := p0) (dg := d0) (by omega)
      refine zz_eq (tgt := 69) hx hb dX6_makeParts_24 (by decide) (fun c_24_4 => ?_) (fun c_24_4 => ?_)
      · refine lv_iload_n hx hb dX6_makeParts_69 rfl (lv_at hl 1 rfl) ?_
        have hz : zPl g n q pl dg Z = (b, (U, ((zRn g n i0 q0 p0 d0).2.1, (zRn g n i0 q0 p0 d0).2.2.1, (zRn g n i0 q0 p0 d0).2.2.2.1, (zRn g n i0 q0 p0 d0).2.2.2.2))) := by rw [j2]; first | rfl | simp [zmpF, c_14_3, c_24_4]
        exact zw_i hx hb hr hlk hP hS ⟨by rw [hz] <;> rfl, by rw [hz] <;> rfl⟩ dX6_makeParts_70
      · have hzo := zRn_ok (g := g) (n := n) (i := i0) (q := q0) (pl := p0) (dg := d0) j4 j5
        have hzq := zRn_q c_24_4
        obtain ⟨hz4, hz5⟩ := hzo
        refine lv_aload_n hx hb dX6_makeParts_27 rfl (lv_at hl 0 rfl) ?_
        refine z_get S in_lay_X6 hK hP rfl 0 rfl 0 (by decide) fl_X6_12 rfl rfl dX6_makeParts_28 ?_
        refine lv_aload_n hx hb dX6_makeParts_31 rfl (lv_at hl 0 rfl) ?_
        refine z_get S in_lay_X6 hK hP rfl 0 rfl 2 (by decide) fl_X6_26 rfl rfl dX6_makeParts_32 ?_
        refine z_get S in_lay_X5 hK hP rfl 12 rfl 3 (by decide) fl_X6_275 rfl rfl dX6_makeParts_35 ?_
        refine lv_aload_n hx hb dX6_makeParts_38 rfl (lv_at hl 0 rfl) ?_
        refine z_get S in_lay_X6 hK hP rfl 0 rfl 2 (by decide) fl_X6_26 rfl rfl dX6_makeParts_39 ?_
        refine z_get S in_lay_X5 hK hP rfl 12 rfl 4 (by decide) fl_X6_279 rfl rfl dX6_makeParts_42 ?_
        refine lv_aload_n hx hb dX6_makeParts_45 rfl (lv_at hl 0 rfl) ?_
        refine z_get S in_lay_X6 hK hP rfl 0 rfl 2 (by decide) fl_X6_26 rfl rfl dX6_makeParts_46 ?_
        refine z_get S in_lay_X5 hK hP rfl 12 rfl 5 (by decide) fl_X6_282 rfl rfl dX6_makeParts_49 ?_
        refine zcw (As := [.int (nI ((zRn g n i0 q0 p0 d0).2.2.1)), .int (nI ((zRn g n i0 q0 p0 d0).2.2.2.1)), .int (nI ((zRn g n i0 q0 p0 d0).2.2.2.2))]) (rest := []) (st1 := [.int (zb ((zMake U ((zRn g n i0 q0 p0 d0).2.2.1) ((zRn g n i0 q0 p0 d0).2.2.2.1) ((zRn g n i0 q0 p0 d0).2.2.2.2)).1))]) (q0 := 0) (lw := [a 0, a 1, a 2, a 3, a 4, a 5, a 6, a 7, a 8, a 9, a 10]) S (c_X2_make l D ca a U ((zRn g n i0 q0 p0 d0).2.2.1) ((zRn g n i0 q0 p0 d0).2.2.2.1) ((zRn g n i0 q0 p0 d0).2.2.2.2) (by omega) (by omega) (by omega) (znd_pick hN [1, 2, 3, 4, 5, 6, 7, 8, 9, 10, 11] rfl rfl)) ml_X6_285 zy_X2_make im_X2_make se_X2_make ⟨Nat.le_of_ble_eq_true rfl, Nat.le_of_ble_eq_true rfl⟩ hK hP hD hS [1, 2, 3, 4, 5, 6, 7, 8, 9, 10, 11] rfl rfl rfl rfl rfl rfl rfl hl.1 rfl rfl (Nat.le_of_ble_eq_true rfl) ⟨Nat.zero_le _, Nat.zero_le _⟩ dX6_makeParts_52 (fun H locs hP hS => ?_)
        have hP : va_P D vwCl [(y 0, .inr (6, [.ref (a 0), .ref (h 0), .ref (x 0)])), (a 0, .inr (2, [.ref (a 1), .ref (a 6), .ref (a 9)])), (a 1, .inr (3, [.ref (a 2), .ref (a 3), .ref (a 4), .ref (a 5), .int ((((zMake U ((zRn g n i0 q0 p0 d0).2.2.1) ((zRn g n i0 q0 p0 d0).2.2.2.1) ((zRn g n i0 q0 p0 d0).2.2.2.2)).2).1).2.2.2.2.1), .int ((((zMake U ((zRn g n i0 q0 p0 d0).2.2.1) ((zRn g n i0 q0 p0 d0).2.2.2.1) ((zRn g n i0 q0 p0 d0).2.2.2.2)).2).1).2.2.2.2.2)])), (a 2, .inl (ca 0, 24, .inl ((((zMake U ((zRn g n i0 q0 p0 d0).2.2.1) ((zRn g n i0 q0 p0 d0).2.2.2.1) ((zRn g n i0 q0 p0 d0).2.2.2.2)).2).1).1))), (a 3, .inl (ca 0, 24, .inl ((((zMake U ((zRn g n i0 q0 p0 d0).2.2.1) ((zRn g n i0 q0 p0 d0).2.2.2.1) ((zRn g n i0 q0 p0 d0).2.2.2.2)).2).1).2.1))), (a 4, .inl (ca 0, 24, .inl ((((zMake U ((zRn g n i0 q0 p0 d0).2.2.1) ((zRn g n i0 q0 p0 d0).2.2.2.1) ((zRn g n i0 q0 p0 d0).2.2.2.2)).2).1).2.2.1))), (a 5, .inl (ca 0, 6, .inl ((((zMake U ((zRn g n i0 q0 p0 d0).2.2.1) ((zRn g n i0 q0 p0 d0).2.2.2.1) ((zRn g n i0 q0 p0 d0).2.2.2.2)).2).1).2.2.2.1))), (a 6, .inr (0, [.ref (a 7), .ref (a 8)])), (a 7, .inl (ca 0, 4, .inl ((((zMake U ((zRn g n i0 q0 p0 d0).2.2.1) ((zRn g n i0 q0 p0 d0).2.2.2.1) ((zRn g n i0 q0 p0 d0).2.2.2.2)).2).2.1).1))), (a 8, .inl (ca 0, 4, .inl ((((zMake U ((zRn g n i0 q0 p0 d0).2.2.1) ((zRn g n i0 q0 p0 d0).2.2.2.1) ((zRn g n i0 q0 p0 d0).2.2.2.2)).2).2.1).2))), (a 9, .inr (4, [.ref (a 10), .int ((((zMake U ((zRn g n i0 q0 p0 d0).2.2.1) ((zRn g n i0 q0 p0 d0).2.2.2.1) ((zRn g n i0 q0 p0 d0).2.2.2.2)).2).2.2).2.1), .int ((((zMake U ((zRn g n i0 q0 p0 d0).2.2.1) ((zRn g n i0 q0 p0 d0).2.2.2.1) ((zRn g n i0 q0 p0 d0).2.2.2.2)).2).2.2).2.2)])), (a 10, .inl (ca 0, 3, .inl ((((zMake U ((zRn g n i0 q0 p0 d0).2.2.1) ((zRn g n i0 q0 p0 d0).2.2.2.1) ((zRn g n i0 q0 p0 d0).2.2.2.2)).2).2.2).1))), (x 0, .inr (5, [.ref (x 1), .int (nI n), .int (nI ((zRn g n i0 q0 p0 d0).2.1)), .int (nI ((zRn g n i0 q0 p0 d0).2.2.1)), .int (nI ((zRn g n i0 q0 p0 d0).2.2.2.1)), .int (nI ((zRn g n i0 q0 p0 d0).2.2.2.2))])), (x 1, .inl (ca 1, 60, .inl (fun k => nI (g k))))] H := hP
        have hD := zDto (ws := [(y 0, .inr (6, [.ref (a 0), .ref (h 0), .ref (x 0)])), (a 0, .inr (2, [.ref (a 1), .ref (a 6), .ref (a 9)])), (a 1, .inr (3, [.ref (a 2), .ref (a 3), .ref (a 4), .ref (a 5), .int ((((zMake U ((zRn g n i0 q0 p0 d0).2.2.1) ((zRn g n i0 q0 p0 d0).2.2.2.1) ((zRn g n i0 q0 p0 d0).2.2.2.2)).2).1).2.2.2.2.1), .int ((((zMake U ((zRn g n i0 q0 p0 d0).2.2.1) ((zRn g n i0 q0 p0 d0).2.2.2.1) ((zRn g n i0 q0 p0 d0).2.2.2.2)).2).1).2.2.2.2.2)])), (a 2, .inl (ca 0, 24, .inl ((((zMake U ((zRn g n i0 q0 p0 d0).2.2.1) ((zRn g n i0 q0 p0 d0).2.2.2.1) ((zRn g n i0 q0 p0 d0).2.2.2.2)).2).1).1))), (a 3, .inl (ca 0, 24, .inl ((((zMake U ((zRn g n i0 q0 p0 d0).2.2.1) ((zRn g n i0 q0 p0 d0).2.2.2.1) ((zRn g n i0 q0 p0 d0).2.2.2.2)).2).1).2.1))), (a 4, .inl (ca 0, 24, .inl ((((zMake U ((zRn g n i0 q0 p0 d0).2.2.1) ((zRn g n i0 q0 p0 d0).2.2.2.1) ((zRn g n i0 q0 p0 d0).2.2.2.2)).2).1).2.2.1))), (a 5, .inl (ca 0, 6, .inl ((((zMake U ((zRn g n i0 q0 p0 d0).2.2.1) ((zRn g n i0 q0 p0 d0).2.2.2.1) ((zRn g n i0 q0 p0 d0).2.2.2.2)).2).1).2.2.2.1))), (a 6, .inr (0, [.ref (a 7), .ref (a 8)])), (a 7, .inl (ca 0, 4, .inl ((((zMake U ((zRn g n i0 q0 p0 d0).2.2.1) ((zRn g n i0 q0 p0 d0).2.2.2.1) ((zRn g n i0 q0 p0 d0).2.2.2.2)).2).2.1).1))), (a 8, .inl (ca 0, 4, .inl ((((zMake U ((zRn g n i0 q0 p0 d0).2.2.1) ((zRn g n i0 q0 p0 d0).2.2.2.1) ((zRn g n i0 q0 p0 d0).2.2.2.2)).2).2.1).2))), (a 9, .inr (4, [.ref (a 10), .int ((((zMake U ((zRn g n i0 q0 p0 d0).2.2.1) ((zRn g n i0 q0 p0 d0).2.2.2.1) ((zRn g n i0 q0 p0 d0).2.2.2.2)).2).2.2).2.1), .int ((((zMake U ((zRn g n i0 q0 p0 d0).2.2.1) ((zRn g n i0 q0 p0 d0).2.2.2.1) ((zRn g n i0 q0 p0 d0).2.2.2.2)).2).2.2).2.2)])), (a 10, .inl (ca 0, 3, .inl ((((zMake U ((zRn g n i0 q0 p0 d0).2.2.1) ((zRn g n i0 q0 p0 d0).2.2.2.1) ((zRn g n i0 q0 p0 d0).2.2.2.2)).2).2.2).1))), (x 0, .inr (5, [.ref (x 1), .int (nI n), .int (nI ((zRn g n i0 q0 p0 d0).2.1)), .int (nI ((zRn g n i0 q0 p0 d0).2.2.1)), .int (nI ((zRn g n i0 q0 p0 d0).2.2.2.1)), .int (nI ((zRn g n i0 q0 p0 d0).2.2.2.2))])), (x 1, .inl (ca 1, 60, .inl (fun k => nI (g k))))]) hN hA rfl
        refine zz_ne (tgt := 60) hx hb dX6_makeParts_55 (by decide) (fun c_55_5 => ?_) (fun c_55_5 => ?_)
        · refine lv_iinc (v := b + 1) (lv' := [(1, .int (b + 1)), (0, .ref (y 0)), (2, .int (nI k))]) hx hb dX6_makeParts_60 hl (k := 1) rfl (rfl) (by decide) rfl (fun ls hl => ?_)
          refine lv_iinc (v := nI (k + 1)) (lv' := [(2, .int (nI (k + 1))), (1, .int (b + 1)), (0, .ref (y 0))]) hx hb dX6_makeParts_63 hl (k := 2) rfl (zinc k 1) (by decide) rfl (fun ls hl => ?_)
          refine lv_goto (tgt := 11) hx hb dX6_makeParts_66 (by decide) ?_
          exact ih (k + 1) (b + 1) ((((zMake U ((zRn g n i0 q0 p0 d0).2.2.1) ((zRn g n i0 q0 p0 d0).2.2.2.1) ((zRn g n i0 q0 p0 d0).2.2.2.2)).2).1), (((zMake U ((zRn g n i0 q0 p0 d0).2.2.1) ((zRn g n i0 q0 p0 d0).2.2.2.1) ((zRn g n i0 q0 p0 d0).2.2.2.2)).2).2.1), (((zMake U ((zRn g n i0 q0 p0 d0).2.2.1) ((zRn g n i0 q0 p0 d0).2.2.2.1) ((zRn g n i0 q0 p0 d0).2.2.2.2)).2).2.2)) ((zRn g n i0 q0 p0 d0).2.1) ((zRn g n i0 q0 p0 d0).2.2.1) ((zRn g n i0 q0 p0 d0).2.2.2.1) ((zRn g n i0 q0 p0 d0).2.2.2.2) _ _ ls (by omega) (by omega) (by omega) (by omega) (by rw [j2]; simp [zmpF, c_14_3, c_24_4, c_55_5]) (lv_sub hl [2, 1, 0] rfl) hP hS
        · refine lv_iload_n hx hb dX6_makeParts_58 rfl (lv_at hl 1 rfl) ?_
          have hz : zPl g n q pl dg Z = (b, (((((zMake U ((zRn g n i0 q0 p0 d0).2.2.1) ((zRn g n i0 q0 p0 d0).2.2.2.1) ((zRn g n i0 q0 p0 d0).2.2.2.2)).2).1), (((zMake U ((zRn g n i0 q0 p0 d0).2.2.1) ((zRn g n i0 q0 p0 d0).2.2.2.1) ((zRn g n i0 q0 p0 d0).2.2.2.2)).2).2.1), (((zMake U ((zRn g n i0 q0 p0 d0).2.2.1) ((zRn g n i0 q0 p0 d0).2.2.2.1) ((zRn g n i0 q0 p0 d0).2.2.2.2)).2).2.2)), ((zRn g n i0 q0 p0 d0).2.1, (zRn g n i0 q0 p0 d0).2.2.1, (zRn g n i0 q0 p0 d0).2.2.2.1, (zRn g n i0 q0 p0 d0).2.2.2.2))) := by rw [j2]; first | rfl | simp [zmpF, c_14_3, c_24_4, c_55_5]
          exact zw_i hx hb hr hlk hP hS ⟨by rw [hz] <;> rfl, by rw [hz] <;> rfl⟩ dX6_makeParts_59
  exact loop_0 60 0 0 Z 0 q pl dg _ _ ls (by omega) (by omega) (by omega) (by omega) (by rfl) (lv_sub hl [2, 1, 0] rfl) hP hS
set_option maxHeartbeats 4000000 in
set_option maxRecDepth 100000 in
theorem c_X6_digest (l : Launch) (D : va_G) (ca : Nat → ClassId) (y a h x : Nat → Nat) (Z : zSt) (nx sz : Nat) (hsz : sz ≤ 6) (g : Nat → Nat) (n i q pl dg : Nat) (hn : n ≤ 60) (hg : ∀ k, g k < 128) (hok : zOk (zSh (zMp Z.1))) (hm : ∃ q, q < 7 ∧ zSh (zMp Z.1) = zSh (nI q)) : zMr l yX6_digest cX6_digest 4 (some .long) 4 100 D ca [(y 0, .inr (6, [.ref (a 0), .ref (h 0), .ref (x 0)])), (h 0, .inr (1, [.ref (h 1), .int (nI nx), .int (nI sz)])), (a 0, .inr (2, [.ref (a 1), .ref (a 6), .ref (a 9)])), (a 1, .inr (3, [.ref (a 2), .ref (a 3), .ref (a 4), .ref (a 5), .int Z.1.2.2.2.2.1, .int Z.1.2.2.2.2.2])), (a 2, .inl (ca 0, 24, .inl Z.1.1)), (a 3, .inl (ca 0, 24, .inl Z.1.2.1)), (a 4, .inl (ca 0, 24, .inl Z.1.2.2.1)), (a 5, .inl (ca 0, 6, .inl Z.1.2.2.2.1)), (a 6, .inr (0, [.ref (a 7), .ref (a 8)])), (a 7, .inl (ca 0, 4, .inl Z.2.1.1)), (a 8, .inl (ca 0, 4, .inl Z.2.1.2)), (a 9, .inr (4, [.ref (a 10), .int Z.2.2.2.1, .int Z.2.2.2.2])), (a 10, .inl (ca 0, 3, .inl Z.2.2.1)), (x 0, .inr (5, [.ref (x 1), .int (nI n), .int (nI i), .int (nI q), .int (nI pl), .int (nI dg)])), (x 1, .inl (ca 1, 60, .inl (fun k => nI (g k))))] [.ref (y 0)] (.long (zDig Z sz g n)) := by
  refine zMr_of (own := RX6) (by decide) rfl (Nat.le_of_ble_eq_true rfl) ?_
  intro p e s m args below meth c ls S hr hlk hP hK hl
  have hx := S.1
  have hb := S.2.1
  have hl : lv_has ls 4 [(0, .ref (y 0))] := hl
  refine lv_ldc2 (v := 3467) hx hb S.2.2.2.1 (S.2.2.2.2 _ kc_X6_211) dX6_digest_0 ?_
  refine lv_lstore_n (lv' := [(1, .long 3467), (0, .ref (y 0))]) hx hb dX6_digest_3 rfl hl (by decide) rfl (fun ls hl => ?_)
  refine lv_iconst (v := 0) hx hb dX6_digest_4 (by decide) ?_
  refine lv_istore_n (lv' := [(3, .int 0), (1, .long 3467), (0, .ref (y 0))]) hx hb dX6_digest_5 rfl hl (by decide) rfl (fun ls hl => ?_)
  have loop_0 : ∀ (f : Nat) (k : Nat) (u : Int64) (ls : Array Slot), k + f = 13 → zfold (fun w => (zCo Z sz w).toInt64) 13 0 (3467) = zfold (fun w => (zCo Z sz w).toInt64) f k u → lv_has ls 4 [(0, .ref (y 0)), (1, .long u), (3, .int (nI k))] → W p l e { frames := 4, cells := 0, slots := 0, locals := 100 } s m args below meth c s.heap [] 0 0 (MQ below (zQr (.long (zDig Z sz g n))) args s 0 0 (fun _ => False)) (F0 m 6 ls []) := by
    intro f
    induction f with
    | zero =>
      intro k u ls j1 j2 hl
      refine lv_iload_n hx hb dX6_digest_6 rfl (lv_at hl 2 rfl) ?_
      refine lv_bipush (v := 13) hx hb dX6_digest_7 (by decide) ?_
      refine zn_ge hx hb (x := k) (y := 13) (by omega) (by omega) (tgt := 29) dX6_digest_9 (by decide) (fun c_9_2 => ?_) (fun h => False.elim (by omega))
      obtain rfl : u = zE1 Z sz := j2.symm
      refine lv_aload_n hx hb dX6_digest_29 rfl (lv_at hl 0 rfl) ?_
      refine lv_lload_n hx hb dX6_digest_30 rfl (lv_at hl 1 rfl) ?_
      refine zcr (As := [.long (zE1 Z sz)]) (rest := []) (q0 := 0) S (c_X6_mixParts l D ca y a (h) (x) Z (zE1 Z sz)) ml_X6_217 zy_X6_mixParts im_X6_mixParts se_X6_mixParts ⟨Nat.le_of_ble_eq_true rfl, Nat.le_of_ble_eq_true rfl⟩ hK hP [0, 2, 3, 4, 5, 6, 7, 8, 9, 10, 11, 12] rfl rfl rfl rfl rfl hl.1 rfl (Nat.le_of_ble_eq_true rfl) ⟨Nat.zero_le _, Nat.zero_le _⟩ dX6_digest_31 ?_
      refine lv_lstore_n (lv' := [(1, .long (zMx3 Z (zE1 Z sz))), (0, .ref (y 0)), (3, .int (nI k))]) hx hb dX6_digest_34 rfl hl (by decide) rfl (fun ls hl => ?_)
      refine lv_iconst (v := 0) hx hb dX6_digest_35 (by decide) ?_
      refine lv_istore_n (lv' := [(3, .int 0), (1, .long (zMx3 Z (zE1 Z sz))), (0, .ref (y 0))]) hx hb dX6_digest_36 rfl hl (by decide) rfl (fun ls hl => ?_)
      have loop_2 : ∀ (f : Nat) (k : Nat) (u : Int64) (ls : Array Slot), k + f = 10 → zHvals Z.1 10 0 (zMx3 Z (zE1 Z sz)) = zHvals Z.1 f k u → lv_has ls 4 [(0, .ref (y 0)), (1, .long u), (3, .int (nI k))] → W p l e { frames := 4, cells := 0, slots := 0, locals := 100 } s m args below meth c s.heap [] 0 0 (MQ below (zQr (.long (zDig Z sz g n))) args s 0 0 (fun _ => False)) (F0 m 37 ls []) := by
        intro f
        induction f with
        | zero =>
          intro k u ls j1 j2 hl
          refine lv_iload_n hx hb dX6_digest_37 rfl (lv_at hl 2 rfl) ?_
          refine lv_bipush (v := 10) hx hb dX6_digest_38 (by decide) ?_
          refine zn_ge hx hb (x := k) (y := 10) (by omega) (by omega) (tgt := 56) dX6_digest_40 (by decide) (fun c_40_4 => ?_) (fun h => False.elim (by omega))
          obtain rfl : u = zE3 Z sz := j2.symm
          refine lv_lload_n hx hb dX6_digest_56 rfl (lv_at hl 1 rfl) ?_
          refine lv_aload_n hx hb dX6_digest_57 rfl (lv_at hl 0 rfl) ?_
          refine zcr (As := []) (rest := [.long (zE3 Z sz)]) (q0 := 0) S (c_X6_mostHolding l D ca y a (h) (x) Z ) ml_X6_204 zy_X6_mostHolding im_X6_mostHolding se_X6_mostHolding ⟨Nat.le_of_ble_eq_true rfl, Nat.le_of_ble_eq_true rfl⟩ hK hP [0, 2, 3, 4, 5, 6, 7, 8, 9, 10, 11, 12] rfl rfl rfl rfl rfl hl.1 rfl (Nat.le_of_ble_eq_true rfl) ⟨Nat.zero_le _, Nat.zero_le _⟩ dX6_digest_58 ?_
          refine lv_i2l (v := (zHo Z).toInt64) hx hb dX6_digest_61 rfl ?_
          refine zcrS (As := [.long (zE3 Z sz), .long ((zHo Z).toInt64)]) (rest := []) S (c_X6_mix l D ca (zE3 Z sz) ((zHo Z).toInt64)) ml_X6_213 zy_X6_mix st_X6_mix ⟨Nat.le_of_ble_eq_true rfl, Nat.le_of_ble_eq_true rfl⟩ hK hP [] rfl rfl hl.1 rfl (Nat.le_of_ble_eq_true rfl) ⟨Nat.zero_le _, Nat.zero_le _⟩ dX6_digest_62 ?_
          refine lv_lstore_n (lv' := [(1, .long (zMix (zE3 Z sz) ((zHo Z).toInt64))), (0, .ref (y 0)), (3, .int (nI k))]) hx hb dX6_digest_65 rfl hl (by decide) rfl (fun ls hl => ?_)
          refine lv_lload_n hx hb dX6_digest_66 rfl (lv_at hl 0 rfl) ?_
          refine lv_aload_n hx hb dX6_digest_67 rfl (lv_at hl 1 rfl) ?_
          refine zcr (As := []) (rest := [.long (zMix (zE3 Z sz) ((zHo Z).toInt64))]) (q0 := 0) S (c_X6_markedShare l D ca y a (h) (x) Z (by assumption)) ml_X6_207 zy_X6_markedShare im_X6_markedShare se_X6_markedShare ⟨Nat.le_of_ble_eq_true rfl, Nat.le_of_ble_eq_true rfl⟩ hK hP [0, 2, 3, 4, 5, 6, 7, 8, 9, 10, 11, 12] rfl rfl rfl rfl rfl hl.1 rfl (Nat.le_of_ble_eq_true rfl) ⟨Nat.zero_le _, Nat.zero_le _⟩ dX6_digest_68 ?_
          refine zcrS (As := [.double (zSh (zMp Z.1))]) (rest := [.long (zMix (zE3 Z sz) ((zHo Z).toInt64))]) S (c_X6_bitsOfShare l D ca (zSh (zMp Z.1)) (by assumption)) ml_X6_225 zy_X6_bitsOfShare st_X6_bitsOfShare ⟨Nat.le_of_ble_eq_true rfl, Nat.le_of_ble_eq_true rfl⟩ hK hP [] rfl rfl hl.1 rfl (Nat.le_of_ble_eq_true rfl) ⟨Nat.zero_le _, Nat.zero_le _⟩ dX6_digest_71 ?_
          refine zcrS (As := [.long (zMix (zE3 Z sz) ((zHo Z).toInt64)), .long ((zSh (zMp Z.1)).toInt64)]) (rest := []) S (c_X6_mix l D ca (zMix (zE3 Z sz) ((zHo Z).toInt64)) ((zSh (zMp Z.1)).toInt64)) ml_X6_213 zy_X6_mix st_X6_mix ⟨Nat.le_of_ble_eq_true rfl, Nat.le_of_ble_eq_true rfl⟩ hK hP [] rfl rfl hl.1 rfl (Nat.le_of_ble_eq_true rfl) ⟨Nat.zero_le _, Nat.zero_le _⟩ dX6_digest_74 ?_
          refine lv_lstore_n (lv' := [(1, .long (zMix (zMix (zE3 Z sz) ((zHo Z).toInt64)) ((zSh (zMp Z.1)).toInt64))), (0, .ref (y 0)), (3, .int (nI k))]) hx hb dX6_digest_77 rfl hl (by decide) rfl (fun ls hl => ?_)
          refine lv_lload_n hx hb dX6_digest_78 rfl (lv_at hl 0 rfl) ?_
          refine lv_aload_n hx hb dX6_digest_79 rfl (lv_at hl 1 rfl) ?_
          refine z_get S in_lay_X6 hK hP rfl 0 rfl 2 (by decide) fl_X6_26 rfl rfl dX6_digest_80 ?_
          refine z_get S in_lay_X5 hK hP rfl 13 rfl 1 (by decide) fl_X6_144 rfl rfl dX6_digest_83 ?_
          refine lv_i2l (v := (nI n).toInt64) hx hb dX6_digest_86 rfl ?_
          refine zcrS (As := [.long (zMix (zMix (zE3 Z sz) ((zHo Z).toInt64)) ((zSh (zMp Z.1)).toInt64)), .long ((nI n).toInt64)]) (rest := []) S (c_X6_mix l D ca (zMix (zMix (zE3 Z sz) ((zHo Z).toInt64)) ((zSh (zMp Z.1)).toInt64)) ((nI n).toInt64)) ml_X6_213 zy_X6_mix st_X6_mix ⟨Nat.le_of_ble_eq_true rfl, Nat.le_of_ble_eq_true rfl⟩ hK hP [] rfl rfl hl.1 rfl (Nat.le_of_ble_eq_true rfl) ⟨Nat.zero_le _, Nat.zero_le _⟩ dX6_digest_87 ?_
          refine lv_lstore_n (lv' := [(1, .long (zMix (zMix (zMix (zE3 Z sz) ((zHo Z).toInt64)) ((zSh (zMp Z.1)).toInt64)) ((nI n).toInt64))), (0, .ref (y 0)), (3, .int (nI k))]) hx hb dX6_digest_90 rfl hl (by decide) rfl (fun ls hl => ?_)
          refine lv_iconst (v := 0) hx hb dX6_digest_91 (by decide) ?_
          refine lv_istore_n (lv' := [(3, .int 0), (1, .long (zMix (zMix (zMix (zE3 Z sz) ((zHo Z).toInt64)) ((zSh (zMp Z.1)).toInt64)) ((nI n).toInt64))), (0, .ref (y 0))]) hx hb dX6_digest_92 rfl hl (by decide) rfl (fun ls hl => ?_)
          have loop_4 : ∀ (f : Nat) (k : Nat) (u : Int64) (ls : Array Slot), k + f = n → zfold (fun k => (nI (zSg g n k)).toInt64) n 0 (zE6 Z sz n) = zfold (fun k => (nI (zSg g n k)).toInt64) f k u → lv_has ls 4 [(0, .ref (y 0)), (1, .long u), (3, .int (nI k))] → W p l e { frames := 4, cells := 0, slots := 0, locals := 100 } s m args below meth c s.heap [] 0 0 (MQ below (zQr (.long (zDig Z sz g n))) args s 0 0 (fun _ => False)) (F0 m 93 ls []) := by
            intro f
            induction f with
            | zero =>
              intro k u ls j1 j2 hl
              refine lv_iload_n hx hb dX6_digest_93 rfl (lv_at hl 2 rfl) ?_
              refine lv_aload_n hx hb dX6_digest_94 rfl (lv_at hl 0 rfl) ?_
              refine z_get S in_lay_X6 hK hP rfl 0 rfl 2 (by decide) fl_X6_26 rfl rfl dX6_digest_95 ?_
              refine z_get S in_lay_X5 hK hP rfl 13 rfl 1 (by decide) fl_X6_144 rfl rfl dX6_digest_98 ?_
              refine zn_ge hx hb (x := k) (y := n) (by omega) (by omega) (tgt := 124) dX6_digest_101 (by decide) (fun c_101_6 => ?_) (fun h => False.elim (by omega))
              obtain rfl : u = zDig Z sz g n := j2.symm
              refine lv_lload_n hx hb dX6_digest_124 rfl (lv_at hl 1 rfl) ?_
              exact zr_l hx hb hr hlk (by rfl) dX6_digest_125
            | succ f ih =>
              intro k u ls j1 j2 hl
              refine lv_iload_n hx hb dX6_digest_93 rfl (lv_at hl 2 rfl) ?_
              refine lv_aload_n hx hb dX6_digest_94 rfl (lv_at hl 0 rfl) ?_
              refine z_get S in_lay_X6 hK hP rfl 0 rfl 2 (by decide) fl_X6_26 rfl rfl dX6_digest_95 ?_
              refine z_get S in_lay_X5 hK hP rfl 13 rfl 1 (by decide) fl_X6_144 rfl rfl dX6_digest_98 ?_
              refine zn_ge hx hb (x := k) (y := n) (by omega) (by omega) (tgt := 124) dX6_digest_101 (by decide) (fun h => False.elim (by omega)) (fun c_101_7 => ?_)
              refine lv_lload_n hx hb dX6_digest_104 rfl (lv_at hl 1 rfl) ?_
              refine lv_aload_n hx hb dX6_digest_105 rfl (lv_at hl 0 rfl) ?_
              refine z_get S in_lay_X6 hK hP rfl 0 rfl 2 (by decide) fl_X6_26 rfl rfl dX6_digest_106 ?_
              refine lv_iload_n hx hb dX6_digest_109 rfl (lv_at hl 2 rfl) ?_
              refine zcr (As := [.int (nI k)]) (rest := [.long u]) (q0 := 0) S (c_X5_signAt l D ca x g n i q pl dg (by omega) hg k (by omega)) ml_X6_229 zy_X5_signAt im_X5_signAt se_X5_signAt ⟨Nat.le_of_ble_eq_true rfl, Nat.le_of_ble_eq_true rfl⟩ hK hP [13, 14] rfl rfl rfl rfl rfl hl.1 rfl (Nat.le_of_ble_eq_true rfl) ⟨Nat.zero_le _, Nat.zero_le _⟩ dX6_digest_110 ?_
              have hsg := zSg_lt (g := g) (n := n) (i := k) hg
              refine lv_i2l (v := (nI (zSg g n k)).toInt64) hx hb dX6_digest_113 rfl ?_
              refine zcrS (As := [.long u, .long ((nI (zSg g n k)).toInt64)]) (rest := []) S (c_X6_mix l D ca u ((nI (zSg g n k)).toInt64)) ml_X6_213 zy_X6_mix st_X6_mix ⟨Nat.le_of_ble_eq_true rfl, Nat.le_of_ble_eq_true rfl⟩ hK hP [] rfl rfl hl.1 rfl (Nat.le_of_ble_eq_true rfl) ⟨Nat.zero_le _, Nat.zero_le _⟩ dX6_digest_114 ?_
              refine lv_lstore_n (lv' := [(1, .long (zMix u ((nI (zSg g n k)).toInt64))), (0, .ref (y 0)), (3, .int (nI k))]) hx hb dX6_digest_117 rfl hl (by decide) rfl (fun ls hl => ?_)
              refine lv_iinc (v := nI (k + 1)) (lv' := [(3, .int (nI (k + 1))), (1, .long (zMix u ((nI (zSg g n k)).toInt64))), (0, .ref (y 0))]) hx hb dX6_digest_118 hl (k := 2) rfl (zinc k 1) (by decide) rfl (fun ls hl => ?_)
              refine lv_goto (tgt := 93) hx hb dX6_digest_121 (by decide) ?_
              exact ih (k + 1) (zMix u ((nI (zSg g n k)).toInt64)) ls (by omega) (by rw [j2]; rfl) (lv_sub hl [2, 1, 0] rfl)
          exact loop_4 n 0 (zMix (zMix (zMix (zE3 Z sz) ((zHo Z).toInt64)) ((zSh (zMp Z.1)).toInt64)) ((nI n).toInt64)) ls (by omega) (by rfl) (lv_sub hl [2, 1, 0] rfl)
        | succ f ih =>
          intro k u ls j1 j2 hl
          refine lv_iload_n hx hb dX6_digest_37 rfl (lv_at hl 2 rfl) ?_
          refine lv_bipush (v := 10) hx hb dX6_digest_38 (by decide) ?_
          refine zn_ge hx hb (x := k) (y := 10) (by omega) (by omega) (tgt := 56) dX6_digest_40 (by decide) (fun h => False.elim (by omega)) (fun c_40_8 => ?_)
          refine lv_aload_n hx hb dX6_digest_43 rfl (lv_at hl 0 rfl) ?_
          refine lv_lload_n hx hb dX6_digest_44 rfl (lv_at hl 1 rfl) ?_
          refine lv_iload_n hx hb dX6_digest_45 rfl (lv_at hl 2 rfl) ?_
          refine zcr (As := [.long u, .int (nI k)]) (rest := []) (q0 := 0) S (c_X6_mixValue l D ca y a (h) (x) Z u (nI k)) ml_X6_221 zy_X6_mixValue im_X6_mixValue se_X6_mixValue ⟨Nat.le_of_ble_eq_true rfl, Nat.le_of_ble_eq_true rfl⟩ hK hP [0, 2, 3, 4, 5, 6, 7, 8, 9, 10, 11, 12] rfl rfl rfl rfl rfl hl.1 rfl (Nat.le_of_ble_eq_true rfl) ⟨Nat.zero_le _, Nat.zero_le _⟩ dX6_digest_46 ?_
          refine lv_lstore_n (lv' := [(1, .long (zHval Z.1 (nI k) u)), (0, .ref (y 0)), (3, .int (nI k))]) hx hb dX6_digest_49 rfl hl (by decide) rfl (fun ls hl => ?_)
          refine lv_iinc (v := nI (k + 1)) (lv' := [(3, .int (nI (k + 1))), (1, .long (zHval Z.1 (nI k) u)), (0, .ref (y 0))]) hx hb dX6_digest_50 hl (k := 2) rfl (zinc k 1) (by decide) rfl (fun ls hl => ?_)
          refine lv_goto (tgt := 37) hx hb dX6_digest_53 (by decide) ?_
          exact ih (k + 1) (zHval Z.1 (nI k) u) ls (by omega) (by rw [j2]; rfl) (lv_sub hl [2, 1, 0] rfl)
      exact loop_2 10 0 (zMx3 Z (zE1 Z sz)) ls (by omega) (by rfl) (lv_sub hl [2, 1, 0] rfl)
    | succ f ih =>
      intro k u ls j1 j2 hl
      refine lv_iload_n hx hb dX6_digest_6 rfl (lv_at hl 2 rfl) ?_
      refine lv_bipush (v := 13) hx hb dX6_digest_7 (by decide) ?_
      refine zn_ge hx hb (x := k) (y := 13) (by omega) (by omega) (tgt := 29) dX6_digest_9 (by decide) (fun h => False.elim (by omega)) (fun c_9_9 => ?_)
      refine lv_lload_n hx hb dX6_digest_12 rfl (lv_at hl 1 rfl) ?_
      refine lv_aload_n hx hb dX6_digest_13 rfl (lv_at hl 0 rfl) ?_
      refine lv_iload_n hx hb dX6_digest_14 rfl (lv_at hl 2 rfl) ?_
      refine zcr (As := [.int (nI k)]) (rest := [.long u]) (q0 := 0) S (c_X6_countNumber l D ca y a h x Z nx sz (by omega) k (by omega)) ml_X6_191 zy_X6_countNumber im_X6_countNumber se_X6_countNumber ⟨Nat.le_of_ble_eq_true rfl, Nat.le_of_ble_eq_true rfl⟩ hK hP [0, 1, 2, 3, 4, 5, 6, 7, 8, 9, 10, 11, 12] rfl rfl rfl rfl rfl hl.1 rfl (Nat.le_of_ble_eq_true rfl) ⟨Nat.zero_le _, Nat.zero_le _⟩ dX6_digest_15 ?_
      refine lv_i2l (v := (zCo Z sz k).toInt64) hx hb dX6_digest_18 rfl ?_
      refine zcrS (As := [.long u, .long ((zCo Z sz k).toInt64)]) (rest := []) S (c_X6_mix l D ca u ((zCo Z sz k).toInt64)) ml_X6_213 zy_X6_mix st_X6_mix ⟨Nat.le_of_ble_eq_true rfl, Nat.le_of_ble_eq_true rfl⟩ hK hP [] rfl rfl hl.1 rfl (Nat.le_of_ble_eq_true rfl) ⟨Nat.zero_le _, Nat.zero_le _⟩ dX6_digest_19 ?_
      refine lv_lstore_n (lv' := [(1, .long (zMix u ((zCo Z sz k).toInt64))), (0, .ref (y 0)), (3, .int (nI k))]) hx hb dX6_digest_22 rfl hl (by decide) rfl (fun ls hl => ?_)
      refine lv_iinc (v := nI (k + 1)) (lv' := [(3, .int (nI (k + 1))), (1, .long (zMix u ((zCo Z sz k).toInt64))), (0, .ref (y 0))]) hx hb dX6_digest_23 hl (k := 2) rfl (zinc k 1) (by decide) rfl (fun ls hl => ?_)
      refine lv_goto (tgt := 6) hx hb dX6_digest_26 (by decide) ?_
      exact ih (k + 1) (zMix u ((zCo Z sz k).toInt64)) ls (by omega) (by rw [j2]; rfl) (lv_sub hl [2, 1, 0] rfl)
  exact loop_0 13 0 3467 ls (by omega) (by rfl) (lv_sub hl [2, 1, 0] rfl)
set_option maxHeartbeats 4000000 in
set_option maxRecDepth 100000 in
theorem c_X6_holder (l : Launch) (D : va_G) (ca : Nat → ClassId) (y a h x : Nat → Nat) (Z : zSt) : zMr l yX6_holder cX6_holder 1 (some .int) 3 72 D ca [(y 0, .inr (6, [.ref (a 0), .ref (h 0), .ref (x 0)])), (a 0, .inr (2, [.ref (a 1), .ref (a 6), .ref (a 9)])), (a 1, .inr (3, [.ref (a 2), .ref (a 3), .ref (a 4), .ref (a 5), .int Z.1.2.2.2.2.1, .int Z.1.2.2.2.2.2])), (a 2, .inl (ca 0, 24, .inl Z.1.1)), (a 3, .inl (ca 0, 24, .inl Z.1.2.1)), (a 4, .inl (ca 0, 24, .inl Z.1.2.2.1)), (a 5, .inl (ca 0, 6, .inl Z.1.2.2.2.1)), (a 6, .inr (0, [.ref (a 7), .ref (a 8)])), (a 7, .inl (ca 0, 4, .inl Z.2.1.1)), (a 8, .inl (ca 0, 4, .inl Z.2.1.2)), (a 9, .inr (4, [.ref (a 10), .int Z.2.2.2.1, .int Z.2.2.2.2])), (a 10, .inl (ca 0, 3, .inl Z.2.2.1))] [.ref (y 0)] (.int (zHo Z)) := by
  refine zMr_of (own := RX6) (by decide) rfl (Nat.le_of_ble_eq_true rfl) ?_
  intro p e s m args below meth c ls S hr hlk hP hK hl
  have hx := S.1
  have hb := S.2.1
  have hl : lv_has ls 1 [(0, .ref (y 0))] := hl
  refine lv_aload_n hx hb dX6_holder_0 rfl (lv_at hl 0 rfl) ?_
  refine zcr (As := []) (rest := []) (q0 := 0) S (c_X6_mostHolding l D ca y a (h) (x) Z ) ml_X6_204 zy_X6_mostHolding im_X6_mostHolding se_X6_mostHolding ⟨Nat.le_of_ble_eq_true rfl, Nat.le_of_ble_eq_true rfl⟩ hK hP [0, 1, 2, 3, 4, 5, 6, 7, 8, 9, 10, 11] rfl rfl rfl rfl rfl hl.1 rfl (Nat.le_of_ble_eq_true rfl) ⟨Nat.zero_le _, Nat.zero_le _⟩ dX6_holder_1 ?_
  exact zr_i hx hb hr hlk (by rfl) dX6_holder_4
set_option maxHeartbeats 4000000 in
set_option maxRecDepth 100000 in
theorem c_X6_marked (l : Launch) (D : va_G) (ca : Nat → ClassId) (y a h x : Nat → Nat) (Z : zSt) (hok : zOk (zSh (zMp Z.1))) : zMr l yX6_marked cX6_marked 1 (some .double) 3 63 D ca [(y 0, .inr (6, [.ref (a 0), .ref (h 0), .ref (x 0)])), (a 0, .inr (2, [.ref (a 1), .ref (a 6), .ref (a 9)])), (a 1, .inr (3, [.ref (a 2), .ref (a 3), .ref (a 4), .ref (a 5), .int Z.1.2.2.2.2.1, .int Z.1.2.2.2.2.2])), (a 2, .inl (ca 0, 24, .inl Z.1.1)), (a 3, .inl (ca 0, 24, .inl Z.1.2.1)), (a 4, .inl (ca 0, 24, .inl Z.1.2.2.1)), (a 5, .inl (ca 0, 6, .inl Z.1.2.2.2.1)), (a 6, .inr (0, [.ref (a 7), .ref (a 8)])), (a 7, .inl (ca 0, 4, .inl Z.2.1.1)), (a 8, .inl (ca 0, 4, .inl Z.2.1.2)), (a 9, .inr (4, [.ref (a 10), .int Z.2.2.2.1, .int Z.2.2.2.2])), (a 10, .inl (ca 0, 3, .inl Z.2.2.1))] [.ref (y 0)] (.double (zSh (zMp Z.1))) := by
  refine zMr_of (own := RX6) (by decide) rfl (Nat.le_of_ble_eq_true rfl) ?_
  intro p e s m args below meth c ls S hr hlk hP hK hl
  have hx := S.1
  have hb := S.2.1
  have hl : lv_has ls 1 [(0, .ref (y 0))] := hl
  refine lv_aload_n hx hb dX6_marked_0 rfl (lv_at hl 0 rfl) ?_
  refine zcr (As := []) (rest := []) (q0 := 0) S (c_X6_markedShare l D ca y a (h) (x) Z (by assumption)) ml_X6_207 zy_X6_markedShare im_X6_markedShare se_X6_markedShare ⟨Nat.le_of_ble_eq_true rfl, Nat.le_of_ble_eq_true rfl⟩ hK hP [0, 1, 2, 3, 4, 5, 6, 7, 8, 9, 10, 11] rfl rfl rfl rfl rfl hl.1 rfl (Nat.le_of_ble_eq_true rfl) ⟨Nat.zero_le _, Nat.zero_le _⟩ dX6_marked_1 ?_
  exact zr_d hx hb hr hlk (by rfl) dX6_marked_4
set_option maxHeartbeats 4000000 in
set_option maxRecDepth 100000 in
theorem c_X6_clearBuffer (l : Launch) (D : va_G) (ca : Nat → ClassId) (y a h x : Nat → Nat) (g : Nat → Nat) (n i q pl dg : Nat) (hn : n ≤ 60) (hg : ∀ k, g k < 128) (hN : [y 0, x 0, x 1].Nodup) : zMw l yX6_clearBuffer cX6_clearBuffer 1 (some .int) 1 21 D ca [(y 0, .inr (6, [.ref (a 0), .ref (h 0), .ref (x 0)])), (x 0, .inr (5, [.ref (x 1), .int (nI n), .int (nI i), .int (nI q), .int (nI pl), .int (nI dg)])), (x 1, .inl (ca 1, 60, .inl (fun k => nI (g k))))] ([(y 0, .inr (6, [.ref (a 0), .ref (h 0), .ref (x 0)])), (x 0, .inr (5, [.ref (x 1), .int 0, .int (nI i), .int (nI q), .int (nI pl), .int (nI dg)])), (x 1, .inl (ca 1, 60, .inl (fun k => nI (g k))))]) [.ref (y 0)] (some (.int (nI n))) := by
  refine zMw_of (own := RX6) (by decide) rfl (Nat.le_of_ble_eq_true rfl) ?_
  intro p e s m args below meth c ls S hr hlk hP hK hl hS
  have hP : va_P D vwCl [(y 0, .inr (6, [.ref (a 0), .ref (h 0), .ref (x 0)])), (x 0, .inr (5, [.ref (x 1), .int (nI n), .int (nI i), .int (nI q), .int (nI pl), .int (nI dg)])), (x 1, .inl (ca 1, 60, .inl (fun k => nI (g k))))] s.heap := hP
  have hS : va_S (zA [y 0, x 0, x 1]) s.heap s.heap [] := hS
  have hA : ∀ q ∈ [y 0, x 0, x 1], zA [y 0, x 0, x 1] q := fun _ h => h
  have hD := zDto (ws := [(y 0, .inr (6, [.ref (a 0), .ref (h 0), .ref (x 0)])), (x 0, .inr (5, [.ref (x 1), .int (nI n), .int (nI i), .int (nI q), .int (nI pl), .int (nI dg)])), (x 1, .inl (ca 1, 60, .inl (fun k => nI (g k))))]) hN hA rfl
  have hx := S.1
  have hb := S.2.1
  have hl : lv_has ls 1 [(0, .ref (y 0))] := hl
  refine lv_aload_n hx hb dX6_clearBuffer_0 rfl (lv_at hl 0 rfl) ?_
  refine z_get S in_lay_X6 hK hP rfl 0 rfl 2 (by decide) fl_X6_26 rfl rfl dX6_clearBuffer_1 ?_
  refine zcw (As := []) (rest := []) (st1 := [.int (nI n)]) (q0 := 0) (lw := [x 0, x 1]) S (c_X5_wipe l D ca x g n i q pl dg (by omega) hg  (znd_pick hN [1, 2] rfl rfl)) ml_X6_152 zy_X5_wipe im_X5_wipe se_X5_wipe ⟨Nat.le_of_ble_eq_true rfl, Nat.le_of_ble_eq_true rfl⟩ hK hP hD hS [1, 2] rfl rfl rfl rfl rfl rfl rfl hl.1 rfl rfl (Nat.le_of_ble_eq_true rfl) ⟨Nat.zero_le _, Nat.zero_le _⟩ dX6_clearBuffer_4 (fun H locs hP hS => ?_)
  have hP : va_P D vwCl [(y 0, .inr (6, [.ref (a 0), .ref (h 0), .ref (x 0)])), (x 0, .inr (5, [.ref (x 1), .int 0, .int (nI i), .int (nI q), .int (nI pl), .int (nI dg)])), (x 1, .inl (ca 1, 60, .inl (fun k => nI (g k))))] H := hP
  have hD := zDto (ws := [(y 0, .inr (6, [.ref (a 0), .ref (h 0), .ref (x 0)])), (x 0, .inr (5, [.ref (x 1), .int 0, .int (nI i), .int (nI q), .int (nI pl), .int (nI dg)])), (x 1, .inl (ca 1, 60, .inl (fun k => nI (g k))))]) hN hA rfl
  exact zw_i hx hb hr hlk hP hS ⟨by rfl, by rfl⟩ dX6_clearBuffer_7
set_option maxHeartbeats 4000000 in
set_option maxRecDepth 100000 in
theorem c_X6_firstError (l : Launch) (D : va_G) (ca : Nat → ClassId) (y a h x : Nat → Nat) (g : Nat → Nat) (n i q pl dg : Nat) (hn : n ≤ 60) (hg : ∀ k, g k < 128) (hN : [y 0, x 0, x 1].Nodup) : zMw l yX6_firstError cX6_firstError 1 (some .int) 5 107 D ca [(y 0, .inr (6, [.ref (a 0), .ref (h 0), .ref (x 0)])), (x 0, .inr (5, [.ref (x 1), .int (nI n), .int (nI i), .int (nI q), .int (nI pl), .int (nI dg)])), (x 1, .inl (ca 1, 60, .inl (fun k => nI (g k))))] ([(y 0, .inr (6, [.ref (a 0), .ref (h 0), .ref (x 0)])), (x 0, .inr (5, [.ref (x 1), .int (nI n), .int (nI ((zRa g n q pl dg).2.1)), .int (nI ((zRa g n q pl dg).2.2.1)), .int (nI ((zRa g n q pl dg).2.2.2.1)), .int (nI ((zRa g n q pl dg).2.2.2.2))])), (x 1, .inl (ca 1, 60, .inl (fun k => nI (g k))))]) [.ref (y 0)] (some (.int (nI ((zRa g n q pl dg).2.1)))) := by
  refine zMw_of (own := RX6) (by decide) rfl (Nat.le_of_ble_eq_true rfl) ?_
  intro p e s m args below meth c ls S hr hlk hP hK hl hS
  have hP : va_P D vwCl [(y 0, .inr (6, [.ref (a 0), .ref (h 0), .ref (x 0)])), (x 0, .inr (5, [.ref (x 1), .int (nI n), .int (nI i), .int (nI q), .int (nI pl), .int (nI dg)])), (x 1, .inl (ca 1, 60, .inl (fun k => nI (g k))))] s.heap := hP
  have hS : va_S (zA [y 0, x 0, x 1]) s.heap s.heap [] := hS
  have hA : ∀ q ∈ [y 0, x 0, x 1], zA [y 0, x 0, x 1] q := fun _ h => h
  have hD := zDto (ws := [(y 0, .inr (6, [.ref (a 0), .ref (h 0), .ref (x 0)])), (x 0, .inr (5, [.ref (x 1), .int (nI n), .int (nI i), .int (nI q), .int (nI pl), .int (nI dg)])), (x 1, .inl (ca 1, 60, .inl (fun k => nI (g k))))]) hN hA rfl
  have hx := S.1
  have hb := S.2.1
  have hl : lv_has ls 1 [(0, .ref (y 0))] := hl
  refine lv_aload_n hx hb dX6_firstError_0 rfl (lv_at hl 0 rfl) ?_
  refine z_get S in_lay_X6 hK hP rfl 0 rfl 2 (by decide) fl_X6_26 rfl rfl dX6_firstError_1 ?_
  refine zcw (As := []) (rest := []) (st1 := [.int (zb ((zRa g n q pl dg).1))]) (q0 := 0) (lw := [x 0, x 1]) S (c_X5_readAll l D ca x g n i q pl dg (by omega) hg  (znd_pick hN [1, 2] rfl rfl)) ml_X6_155 zy_X5_readAll im_X5_readAll se_X5_readAll ⟨Nat.le_of_ble_eq_true rfl, Nat.le_of_ble_eq_true rfl⟩ hK hP hD hS [1, 2] rfl rfl rfl rfl rfl rfl rfl hl.1 rfl rfl (Nat.le_of_ble_eq_true rfl) ⟨Nat.zero_le _, Nat.zero_le _⟩ dX6_firstError_4 (fun H locs hP hS => ?_)
  have hP : va_P D vwCl [(y 0, .inr (6, [.ref (a 0), .ref (h 0), .ref (x 0)])), (x 0, .inr (5, [.ref (x 1), .int (nI n), .int (nI ((zRa g n q pl dg).2.1)), .int (nI ((zRa g n q pl dg).2.2.1)), .int (nI ((zRa g n q pl dg).2.2.2.1)), .int (nI ((zRa g n q pl dg).2.2.2.2))])), (x 1, .inl (ca 1, 60, .inl (fun k => nI (g k))))] H := hP
  have hD := zDto (ws := [(y 0, .inr (6, [.ref (a 0), .ref (h 0), .ref (x 0)])), (x 0, .inr (5, [.ref (x 1), .int (nI n), .int (nI ((zRa g n q pl dg).2.1)), .int (nI ((zRa g n q pl dg).2.2.1)), .int (nI ((zRa g n q pl dg).2.2.2.1)), .int (nI ((zRa g n q pl dg).2.2.2.2))])), (x 1, .inl (ca 1, 60, .inl (fun k => nI (g k))))]) hN hA rfl
  refine lv_pop hx hb dX6_firstError_7 rfl ?_
  refine lv_aload_n hx hb dX6_firstError_8 rfl (lv_at hl 0 rfl) ?_
  refine z_get S in_lay_X6 hK hP rfl 0 rfl 2 (by decide) fl_X6_26 rfl rfl dX6_firstError_9 ?_
  refine z_get S in_lay_X5 hK hP rfl 1 rfl 2 (by decide) fl_X6_158 rfl rfl dX6_firstError_12 ?_
  exact zw_i hx hb hr hlk hP hS ⟨by rfl, by rfl⟩ dX6_firstError_15
