set_option maxHeartbeats 4000000 in
set_option maxRecDepth 100000 in
theorem c_X6_isOutside (l : Launch) (D : va_G) (ca : Nat → ClassId) (v u : Int32) : zMr l yX6_isOutside cX6_isOutside 2 (some .boolean) 0 0 D ca [] [.int v, .int u] (.int (zb (zOu v u))) := by
  refine zMr_of (own := RX6) (by decide) rfl (Nat.le_of_ble_eq_true rfl) ?_
  intro p e s m args below meth c ls S hr hlk hP hK hl
  have hx := S.1
  have hb := S.2.1
  have hl : lv_has ls 2 [(0, .int v), (1, .int u)] := hl
  refine lv_iload_n hx hb dX6_isOutside_0 rfl (lv_at hl 0 rfl) ?_
  refine lv_if_lt (tgt := 9) hx hb dX6_isOutside_1 (by decide) (fun c_1_1 => ?_) (fun c_1_1 => ?_)
  · refine lv_iconst (v := 1) hx hb dX6_isOutside_9 (by decide) ?_
    refine lv_goto (tgt := 14) hx hb dX6_isOutside_10 (by decide) ?_
    exact zr_z hx hb hr hlk (by simp [zOu, zb, c_1_1]) dX6_isOutside_14
  · refine lv_iload_n hx hb dX6_isOutside_4 rfl (lv_at hl 0 rfl) ?_
    refine lv_iload_n hx hb dX6_isOutside_5 rfl (lv_at hl 1 rfl) ?_
    refine lv_icmp_lt (tgt := 13) hx hb dX6_isOutside_6 (by decide) (fun c_6_2 => ?_) (fun c_6_2 => ?_)
    · refine lv_iconst (v := 0) hx hb dX6_isOutside_13 (by decide) ?_
      exact zr_z hx hb hr hlk (by simp [zOu, zb, c_1_1, c_6_2]) dX6_isOutside_14
    · refine lv_iconst (v := 1) hx hb dX6_isOutside_9 (by decide) ?_
      refine lv_goto (tgt := 14) hx hb dX6_isOutside_10 (by decide) ?_
      exact zr_z hx hb hr hlk (by simp [zOu, zb, c_1_1, c_6_2]) dX6_isOutside_14
set_option maxHeartbeats 4000000 in
set_option maxRecDepth 100000 in
theorem c_X6_slotNumber (l : Launch) (D : va_G) (ca : Nat → ClassId) (y a h x : Nat → Nat) (Z : zSt) (k w : Nat) (hk : k < 24) (hw : w < 4) : zMr l yX6_slotNumber cX6_slotNumber 4 (some .int) 2 43 D ca [(y 0, .inr (6, [.ref (a 0), .ref (h 0), .ref (x 0)])), (a 0, .inr (2, [.ref (a 1), .ref (a 6), .ref (a 9)])), (a 1, .inr (3, [.ref (a 2), .ref (a 3), .ref (a 4), .ref (a 5), .int Z.1.2.2.2.2.1, .int Z.1.2.2.2.2.2])), (a 2, .inl (ca 0, 24, .inl Z.1.1)), (a 3, .inl (ca 0, 24, .inl Z.1.2.1)), (a 4, .inl (ca 0, 24, .inl Z.1.2.2.1)), (a 5, .inl (ca 0, 6, .inl Z.1.2.2.2.1)), (a 6, .inr (0, [.ref (a 7), .ref (a 8)])), (a 7, .inl (ca 0, 4, .inl Z.2.1.1)), (a 8, .inl (ca 0, 4, .inl Z.2.1.2)), (a 9, .inr (4, [.ref (a 10), .int Z.2.2.2.1, .int Z.2.2.2.2])), (a 10, .inl (ca 0, 3, .inl Z.2.2.1))] [.ref (y 0), .int (nI k), .int (nI w)] (.int (zSl Z.1 k w)) := by
  refine zMr_of (own := RX6) (by decide) rfl (Nat.le_of_ble_eq_true rfl) ?_
  intro p e s m args below meth c ls S hr hlk hP hK hl
  have hx := S.1
  have hb := S.2.1
  have hl : lv_has ls 4 [(0, .ref (y 0)), (1, .int (nI k)), (2, .int (nI w))] := hl
  refine lv_aload_n hx hb dX6_slotNumber_0 rfl (lv_at hl 0 rfl) ?_
  refine z_get S in_lay_X6 hK hP rfl 0 rfl 0 (by decide) fl_X6_12 rfl rfl dX6_slotNumber_1 ?_
  refine z_get S in_lay_X2 hK hP rfl 1 rfl 0 (by decide) fl_X6_41 rfl rfl dX6_slotNumber_4 ?_
  refine lv_astore_n (lv' := [(3, .ref (a 1)), (0, .ref (y 0)), (1, .int (nI k)), (2, .int (nI w))]) hx hb dX6_slotNumber_7 rfl hl (by decide) rfl (fun ls hl => ?_)
  refine lv_iload_n hx hb dX6_slotNumber_8 rfl (lv_at hl 3 rfl) ?_
  by_cases w_9_1 : w = 0
  · refine z_tabIn hx hb (x := w) (k := 0) w_9_1 (by decide) dX6_slotNumber_9 (by decide) (by decide) rfl (by decide) ?_ (tgt := 36)
    refine lv_aload_n hx hb dX6_slotNumber_36 rfl (lv_at hl 0 rfl) ?_
    refine z_get S in_lay_X3 hK hP rfl 2 rfl 0 (by decide) fl_X6_78 rfl rfl dX6_slotNumber_37 ?_
    refine lv_iload_n hx hb dX6_slotNumber_40 rfl (lv_at hl 2 rfl) ?_
    refine z_iald S hK hP 3 rfl (j := k) (by omega) (by decide) dX6_slotNumber_41 ?_
    exact zr_i hx hb hr hlk (by simp [zSl, zb, w_9_1]) dX6_slotNumber_42
  by_cases w_9_2 : w = 1
  · refine z_tabIn hx hb (x := w) (k := 1) w_9_2 (by decide) dX6_slotNumber_9 (by decide) (by decide) rfl (by decide) ?_ (tgt := 43)
    refine lv_aload_n hx hb dX6_slotNumber_43 rfl (lv_at hl 0 rfl) ?_
    refine z_get S in_lay_X3 hK hP rfl 2 rfl 1 (by decide) fl_X6_233 rfl rfl dX6_slotNumber_44 ?_
    refine lv_iload_n hx hb dX6_slotNumber_47 rfl (lv_at hl 2 rfl) ?_
    refine z_iald S hK hP 4 rfl (j := k) (by omega) (by decide) dX6_slotNumber_48 ?_
    exact zr_i hx hb hr hlk (by simp [zSl, zb, w_9_1, w_9_2]) dX6_slotNumber_49
  by_cases w_9_3 : w = 2
  · refine z_tabIn hx hb (x := w) (k := 2) w_9_3 (by decide) dX6_slotNumber_9 (by decide) (by decide) rfl (by decide) ?_ (tgt := 50)
    refine lv_aload_n hx hb dX6_slotNumber_50 rfl (lv_at hl 0 rfl) ?_
    refine z_get S in_lay_X3 hK hP rfl 2 rfl 2 (by decide) fl_X6_236 rfl rfl dX6_slotNumber_51 ?_
    refine lv_iload_n hx hb dX6_slotNumber_54 rfl (lv_at hl 2 rfl) ?_
    refine z_iald S hK hP 5 rfl (j := k) (by omega) (by decide) dX6_slotNumber_55 ?_
    exact zr_i hx hb hr hlk (by simp [zSl, zb, w_9_1, w_9_2, w_9_3]) dX6_slotNumber_56
  refine z_tabOut hx hb (x := w) (by omega) dX6_slotNumber_9 (by omega) (by decide) ?_ (tgt := 57)
  refine lv_aload_n hx hb dX6_slotNumber_57 rfl (lv_at hl 0 rfl) ?_
  refine lv_iload_n hx hb dX6_slotNumber_58 rfl (lv_at hl 2 rfl) ?_
  refine zcr (As := [.int (nI k)]) (rest := []) (q0 := 0) S (c_X3_isSeenNow l D ca a Z.1 k (by omega)) ml_X6_69 zy_X3_isSeenNow im_X3_isSeenNow se_X3_isSeenNow ⟨Nat.le_of_ble_eq_true rfl, Nat.le_of_ble_eq_true rfl⟩ hK hP [2, 3, 4, 5, 6] rfl rfl rfl rfl rfl hl.1 rfl (Nat.le_of_ble_eq_true rfl) ⟨Nat.zero_le _, Nat.zero_le _⟩ dX6_slotNumber_59 ?_
  refine zz_eq (tgt := 69) hx hb dX6_slotNumber_62 (by decide) (fun c_62_4 => ?_) (fun c_62_4 => ?_)
  · refine lv_iconst (v := 0) hx hb dX6_slotNumber_69 (by decide) ?_
    exact zr_i hx hb hr hlk (by simp [zSl, zb, w_9_1, w_9_2, w_9_3, c_62_4]) dX6_slotNumber_70
  · refine lv_iconst (v := 1) hx hb dX6_slotNumber_65 (by decide) ?_
    refine lv_goto (tgt := 70) hx hb dX6_slotNumber_66 (by decide) ?_
    exact zr_i hx hb hr hlk (by simp [zSl, zb, w_9_1, w_9_2, w_9_3, c_62_4]) dX6_slotNumber_70
set_option maxHeartbeats 4000000 in
set_option maxRecDepth 100000 in
theorem c_X6_pageNumber (l : Launch) (D : va_G) (ca : Nat → ClassId) (y a h x : Nat → Nat) (Z : zSt) (k w : Nat) (hk : k < 6) (hw : w < 5) : zMr l yX6_pageNumber cX6_pageNumber 6 (some .int) 2 47 D ca [(y 0, .inr (6, [.ref (a 0), .ref (h 0), .ref (x 0)])), (a 0, .inr (2, [.ref (a 1), .ref (a 6), .ref (a 9)])), (a 1, .inr (3, [.ref (a 2), .ref (a 3), .ref (a 4), .ref (a 5), .int Z.1.2.2.2.2.1, .int Z.1.2.2.2.2.2])), (a 2, .inl (ca 0, 24, .inl Z.1.1)), (a 3, .inl (ca 0, 24, .inl Z.1.2.1)), (a 4, .inl (ca 0, 24, .inl Z.1.2.2.1)), (a 5, .inl (ca 0, 6, .inl Z.1.2.2.2.1)), (a 6, .inr (0, [.ref (a 7), .ref (a 8)])), (a 7, .inl (ca 0, 4, .inl Z.2.1.1)), (a 8, .inl (ca 0, 4, .inl Z.2.1.2)), (a 9, .inr (4, [.ref (a 10), .int Z.2.2.2.1, .int Z.2.2.2.2])), (a 10, .inl (ca 0, 3, .inl Z.2.2.1))] [.ref (y 0), .int (nI k), .int (nI w)] (.int (zPg Z k w)) := by
  refine zMr_of (own := RX6) (by decide) rfl (Nat.le_of_ble_eq_true rfl) ?_
  intro p e s m args below meth c ls S hr hlk hP hK hl
  have hx := S.1
  have hb := S.2.1
  have hl : lv_has ls 6 [(0, .ref (y 0)), (1, .int (nI k)), (2, .int (nI w))] := hl
  refine lv_aload_n hx hb dX6_pageNumber_0 rfl (lv_at hl 0 rfl) ?_
  refine z_get S in_lay_X6 hK hP rfl 0 rfl 0 (by decide) fl_X6_12 rfl rfl dX6_pageNumber_1 ?_
  refine z_get S in_lay_X2 hK hP rfl 1 rfl 0 (by decide) fl_X6_41 rfl rfl dX6_pageNumber_4 ?_
  refine lv_astore_n (lv' := [(3, .ref (a 1)), (0, .ref (y 0)), (1, .int (nI k)), (2, .int (nI w))]) hx hb dX6_pageNumber_7 rfl hl (by decide) rfl (fun ls hl => ?_)
  refine lv_iload_n hx hb dX6_pageNumber_8 rfl (lv_at hl 2 rfl) ?_
  refine lv_iconst (v := 4) hx hb dX6_pageNumber_9 (by decide) ?_
  refine zn_mul hx hb (x := k) (y := 4) (z := k * 4) (by first | rfl | omega) dX6_pageNumber_10 ?_
  refine lv_istore (lv' := [(4, .int (nI (k * 4))), (3, .ref (a 1)), (0, .ref (y 0)), (1, .int (nI k)), (2, .int (nI w))]) hx hb dX6_pageNumber_11 hl (by decide) rfl (fun ls hl => ?_)
  refine lv_iload hx hb dX6_pageNumber_13 (lv_at hl 0 rfl) ?_
  refine lv_iconst (v := 4) hx hb dX6_pageNumber_15 (by decide) ?_
  refine zn_add hx hb (x := k * 4) (y := 4) (z := (k * 4) + 4) (by omega) dX6_pageNumber_16 ?_
  refine lv_istore (lv' := [(5, .int (nI ((k * 4) + 4))), (4, .int (nI (k * 4))), (3, .ref (a 1)), (0, .ref (y 0)), (1, .int (nI k)), (2, .int (nI w))]) hx hb dX6_pageNumber_17 hl (by decide) rfl (fun ls hl => ?_)
  refine lv_iload_n hx hb dX6_pageNumber_19 rfl (lv_at hl 5 rfl) ?_
  by_cases w_20_1 : w = 0
  · refine z_tabIn hx hb (x := w) (k := 0) w_20_1 (by decide) dX6_pageNumber_20 (by decide) (by decide) rfl (by decide) ?_ (tgt := 52)
    refine lv_aload_n hx hb dX6_pageNumber_52 rfl (lv_at hl 2 rfl) ?_
    refine lv_iload_n hx hb dX6_pageNumber_53 rfl (lv_at hl 4 rfl) ?_
    refine zcr (As := [.int (nI k)]) (rest := []) (q0 := 0) S (c_X3_isMarked l D ca a Z.1 k (by omega)) ml_X6_239 zy_X3_isMarked im_X3_isMarked se_X3_isMarked ⟨Nat.le_of_ble_eq_true rfl, Nat.le_of_ble_eq_true rfl⟩ hK hP [2, 3, 4, 5, 6] rfl rfl rfl rfl rfl hl.1 rfl (Nat.le_of_ble_eq_true rfl) ⟨Nat.zero_le _, Nat.zero_le _⟩ dX6_pageNumber_54 ?_
    refine zz_eq (tgt := 64) hx hb dX6_pageNumber_57 (by decide) (fun c_57_2 => ?_) (fun c_57_2 => ?_)
    · refine lv_iconst (v := 0) hx hb dX6_pageNumber_64 (by decide) ?_
      exact zr_i hx hb hr hlk (by simp [zPg, zb, w_20_1, c_57_2]) dX6_pageNumber_65
    · refine lv_iconst (v := 1) hx hb dX6_pageNumber_60 (by decide) ?_
      refine lv_goto (tgt := 65) hx hb dX6_pageNumber_61 (by decide) ?_
      exact zr_i hx hb hr hlk (by simp [zPg, zb, w_20_1, c_57_2]) dX6_pageNumber_65
  by_cases w_20_3 : w = 1
  · refine z_tabIn hx hb (x := w) (k := 1) w_20_3 (by decide) dX6_pageNumber_20 (by decide) (by decide) rfl (by decide) ?_ (tgt := 66)
    refine lv_aload_n hx hb dX6_pageNumber_66 rfl (lv_at hl 2 rfl) ?_
    refine lv_iload hx hb dX6_pageNumber_67 (lv_at hl 1 rfl) ?_
    refine lv_iload hx hb dX6_pageNumber_69 (lv_at hl 0 rfl) ?_
    refine zcr (As := [.int (nI (k * 4)), .int (nI ((k * 4) + 4))]) (rest := []) (q0 := 0) S (c_X3_versions l D ca a Z.1 (k * 4) 4 (by omega)) ml_X6_242 zy_X3_versions im_X3_versions se_X3_versions ⟨Nat.le_of_ble_eq_true rfl, Nat.le_of_ble_eq_true rfl⟩ hK hP [2, 3, 4, 5, 6] rfl rfl rfl rfl rfl hl.1 rfl (Nat.le_of_ble_eq_true rfl) ⟨Nat.zero_le _, Nat.zero_le _⟩ dX6_pageNumber_71 ?_
    exact zr_i hx hb hr hlk (by simp [zPg, zb, w_20_1, w_20_3]) dX6_pageNumber_74
  by_cases w_20_4 : w = 2
  · refine z_tabIn hx hb (x := w) (k := 2) w_20_4 (by decide) dX6_pageNumber_20 (by decide) (by decide) rfl (by decide) ?_ (tgt := 75)
    refine lv_aload_n hx hb dX6_pageNumber_75 rfl (lv_at hl 2 rfl) ?_
    refine lv_iload hx hb dX6_pageNumber_76 (lv_at hl 1 rfl) ?_
    refine lv_iload hx hb dX6_pageNumber_78 (lv_at hl 0 rfl) ?_
    refine lv_aload_n hx hb dX6_pageNumber_80 rfl (lv_at hl 2 rfl) ?_
    refine z_get S in_lay_X3 hK hP rfl 2 rfl 4 (by decide) fl_X6_99 rfl rfl dX6_pageNumber_81 ?_
    refine zcr (As := [.int (nI (k * 4)), .int (nI ((k * 4) + 4)), .int Z.1.2.2.2.2.1]) (rest := []) (q0 := 0) S (c_X3_versionsSeen l D ca a Z.1 (k * 4) 4 (by omega) Z.1.2.2.2.2.1) ml_X6_245 zy_X3_versionsSeen im_X3_versionsSeen se_X3_versionsSeen ⟨Nat.le_of_ble_eq_true rfl, Nat.le_of_ble_eq_true rfl⟩ hK hP [2, 3, 4, 5, 6] rfl rfl rfl rfl rfl hl.1 rfl (Nat.le_of_ble_eq_true rfl) ⟨Nat.zero_le _, Nat.zero_le _⟩ dX6_pageNumber_84 ?_
    exact zr_i hx hb hr hlk (by simp [zPg, zb, w_20_1, w_20_3, w_20_4]) dX6_pageNumber_87
  by_cases w_20_5 : w = 3
  · refine z_tabIn hx hb (x := w) (k := 3) w_20_5 (by decide) dX6_pageNumber_20 (by decide) (by decide) rfl (by decide) ?_ (tgt := 88)
    refine lv_aload_n hx hb dX6_pageNumber_88 rfl (lv_at hl 2 rfl) ?_
    refine lv_iload hx hb dX6_pageNumber_89 (lv_at hl 1 rfl) ?_
    refine lv_iload hx hb dX6_pageNumber_91 (lv_at hl 0 rfl) ?_
    refine lv_aload_n hx hb dX6_pageNumber_93 rfl (lv_at hl 3 rfl) ?_
    refine z_get S in_lay_X6 hK hP rfl 0 rfl 0 (by decide) fl_X6_12 rfl rfl dX6_pageNumber_94 ?_
    refine zcr (As := []) (rest := [.int (nI ((k * 4) + 4)), .int (nI (k * 4)), .ref (a 1)]) (q0 := 0) S (c_X2_horizon l D ca a Z) ml_X6_107 zy_X2_horizon im_X2_horizon se_X2_horizon ⟨Nat.le_of_ble_eq_true rfl, Nat.le_of_ble_eq_true rfl⟩ hK hP [1, 2, 7, 8] rfl rfl rfl rfl rfl hl.1 rfl (Nat.le_of_ble_eq_true rfl) ⟨Nat.zero_le _, Nat.zero_le _⟩ dX6_pageNumber_97 ?_
    refine zcr (As := [.int (nI (k * 4)), .int (nI ((k * 4) + 4)), .int (zHor Z)]) (rest := []) (q0 := 0) S (c_X3_versionsToTakeOut l D ca a Z.1 (k * 4) 4 (by omega) (zHor Z)) ml_X6_248 zy_X3_versionsToTakeOut im_X3_versionsToTakeOut se_X3_versionsToTakeOut ⟨Nat.le_of_ble_eq_true rfl, Nat.le_of_ble_eq_true rfl⟩ hK hP [2, 3, 4, 5, 6] rfl rfl rfl rfl rfl hl.1 rfl (Nat.le_of_ble_eq_true rfl) ⟨Nat.zero_le _, Nat.zero_le _⟩ dX6_pageNumber_100 ?_
    exact zr_i hx hb hr hlk (by simp [zPg, zb, w_20_1, w_20_3, w_20_4, w_20_5]) dX6_pageNumber_103
  refine z_tabOut hx hb (x := w) (by omega) dX6_pageNumber_20 (by omega) (by decide) ?_ (tgt := 104)
  refine lv_aload_n hx hb dX6_pageNumber_104 rfl (lv_at hl 2 rfl) ?_
  refine z_get S in_lay_X3 hK hP rfl 2 rfl 3 (by decide) fl_X6_251 rfl rfl dX6_pageNumber_105 ?_
  refine lv_iload_n hx hb dX6_pageNumber_108 rfl (lv_at hl 4 rfl) ?_
  refine z_iald S hK hP 6 rfl (j := k) (by omega) (by decide) dX6_pageNumber_109 ?_
  exact zr_i hx hb hr hlk (by simp [zPg, zb, w_20_1, w_20_3, w_20_4, w_20_5]) dX6_pageNumber_110
set_option maxHeartbeats 4000000 in
set_option maxRecDepth 100000 in
theorem c_X6_askerNumber (l : Launch) (D : va_G) (ca : Nat → ClassId) (y a h x : Nat → Nat) (Z : zSt) (k w : Nat) (hk : k < 4) (hw : w < 3) : zMr l yX6_askerNumber cX6_askerNumber 4 (some .int) 2 47 D ca [(y 0, .inr (6, [.ref (a 0), .ref (h 0), .ref (x 0)])), (a 0, .inr (2, [.ref (a 1), .ref (a 6), .ref (a 9)])), (a 1, .inr (3, [.ref (a 2), .ref (a 3), .ref (a 4), .ref (a 5), .int Z.1.2.2.2.2.1, .int Z.1.2.2.2.2.2])), (a 2, .inl (ca 0, 24, .inl Z.1.1)), (a 3, .inl (ca 0, 24, .inl Z.1.2.1)), (a 4, .inl (ca 0, 24, .inl Z.1.2.2.1)), (a 5, .inl (ca 0, 6, .inl Z.1.2.2.2.1)), (a 6, .inr (0, [.ref (a 7), .ref (a 8)])), (a 7, .inl (ca 0, 4, .inl Z.2.1.1)), (a 8, .inl (ca 0, 4, .inl Z.2.1.2)), (a 9, .inr (4, [.ref (a 10), .int Z.2.2.2.1, .int Z.2.2.2.2])), (a 10, .inl (ca 0, 3, .inl Z.2.2.1))] [.ref (y 0), .int (nI k), .int (nI w)] (.int (zAs Z k w)) := by
  refine zMr_of (own := RX6) (by decide) rfl (Nat.le_of_ble_eq_true rfl) ?_
  intro p e s m args below meth c ls S hr hlk hP hK hl
  have hx := S.1
  have hb := S.2.1
  have hl : lv_has ls 4 [(0, .ref (y 0)), (1, .int (nI k)), (2, .int (nI w))] := hl
  refine lv_aload_n hx hb dX6_askerNumber_0 rfl (lv_at hl 0 rfl) ?_
  refine z_get S in_lay_X6 hK hP rfl 0 rfl 0 (by decide) fl_X6_12 rfl rfl dX6_askerNumber_1 ?_
  refine z_get S in_lay_X2 hK hP rfl 1 rfl 1 (by decide) fl_X6_90 rfl rfl dX6_askerNumber_4 ?_
  refine z_get S in_lay_X0 hK hP rfl 7 rfl 0 (by decide) fl_X6_94 rfl rfl dX6_askerNumber_7 ?_
  refine lv_iload_n hx hb dX6_askerNumber_10 rfl (lv_at hl 1 rfl) ?_
  refine z_iald S hK hP 8 rfl (j := k) (by omega) (by decide) dX6_askerNumber_11 ?_
  refine lv_istore_n (lv' := [(3, .int (Z.2.1.1 k)), (0, .ref (y 0)), (1, .int (nI k)), (2, .int (nI w))]) hx hb dX6_askerNumber_12 rfl hl (by decide) rfl (fun ls hl => ?_)
  refine lv_iload_n hx hb dX6_askerNumber_13 rfl (lv_at hl 3 rfl) ?_
  by_cases w_14_1 : w = 0
  · refine z_look (x := w) (k := 0) hx hb w_14_1 (by decide) dX6_askerNumber_14 (by decide) rfl (by decide) ?_ (tgt := 40)
    refine lv_iload_n hx hb dX6_askerNumber_40 rfl (lv_at hl 0 rfl) ?_
    exact zr_i hx hb hr hlk (by simp [zAs, zb, w_14_1]) dX6_askerNumber_41
  by_cases w_14_2 : w = 1
  · refine z_look (x := w) (k := 1) hx hb w_14_2 (by decide) dX6_askerNumber_14 (by decide) rfl (by decide) ?_ (tgt := 42)
    refine lv_iload_n hx hb dX6_askerNumber_42 rfl (lv_at hl 0 rfl) ?_
    refine lv_iconst (v := (-1)) hx hb dX6_askerNumber_43 (by decide) ?_
    refine lv_icmp_ne (tgt := 51) hx hb dX6_askerNumber_44 (by decide) (fun c_44_3 => ?_) (fun c_44_3 => ?_)
    · refine lv_aload_n hx hb dX6_askerNumber_51 rfl (lv_at hl 1 rfl) ?_
      refine z_get S in_lay_X6 hK hP rfl 0 rfl 0 (by decide) fl_X6_12 rfl rfl dX6_askerNumber_52 ?_
      refine z_get S in_lay_X2 hK hP rfl 1 rfl 0 (by decide) fl_X6_41 rfl rfl dX6_askerNumber_55 ?_
      refine lv_iconst (v := 0) hx hb dX6_askerNumber_58 (by decide) ?_
      refine lv_bipush (v := 24) hx hb dX6_askerNumber_59 (by decide) ?_
      refine lv_iload_n hx hb dX6_askerNumber_61 rfl (lv_at hl 0 rfl) ?_
      refine zcr (As := [.int 0, .int 24, .int (Z.2.1.1 k)]) (rest := []) (q0 := 0) S (c_X3_versionsSeen l D ca a Z.1 0 24 (by omega) (Z.2.1.1 k)) ml_X6_245 zy_X3_versionsSeen im_X3_versionsSeen se_X3_versionsSeen ⟨Nat.le_of_ble_eq_true rfl, Nat.le_of_ble_eq_true rfl⟩ hK hP [2, 3, 4, 5, 6] rfl rfl rfl rfl rfl hl.1 rfl (Nat.le_of_ble_eq_true rfl) ⟨Nat.zero_le _, Nat.zero_le _⟩ dX6_askerNumber_62 ?_
      exact zr_i hx hb hr hlk (by simp [zAs, zb, w_14_1, w_14_2, c_44_3]) dX6_askerNumber_65
    · refine lv_iconst (v := (-1)) hx hb dX6_askerNumber_47 (by decide) ?_
      refine lv_goto (tgt := 65) hx hb dX6_askerNumber_48 (by decide) ?_
      exact zr_i hx hb hr hlk (by simp [zAs, zb, w_14_1, w_14_2, c_44_3]) dX6_askerNumber_65
  refine z_look (x := w) (k := w) (off := 52) hx hb rfl (by omega) dX6_askerNumber_14 (by decide) (by show Op.lookupswitch.offset [(0, 26), (1, 28)] 52 _ = _; rw [Op.lookupswitch.offset_cons, if_neg (by omega), Op.lookupswitch.offset_cons, if_neg (by omega)] <;> rfl) (by decide) ?_ (tgt := 66)
  refine lv_aload_n hx hb dX6_askerNumber_66 rfl (lv_at hl 1 rfl) ?_
  refine z_get S in_lay_X6 hK hP rfl 0 rfl 0 (by decide) fl_X6_12 rfl rfl dX6_askerNumber_67 ?_
  refine z_get S in_lay_X2 hK hP rfl 1 rfl 1 (by decide) fl_X6_90 rfl rfl dX6_askerNumber_70 ?_
  refine z_get S in_lay_X0 hK hP rfl 7 rfl 1 (by decide) fl_X6_119 rfl rfl dX6_askerNumber_73 ?_
  refine lv_iload_n hx hb dX6_askerNumber_76 rfl (lv_at hl 2 rfl) ?_
  refine z_iald S hK hP 9 rfl (j := k) (by omega) (by decide) dX6_askerNumber_77 ?_
  exact zr_i hx hb hr hlk (by simp [zAs, zb, w_14_1, w_14_2]) dX6_askerNumber_78
set_option maxHeartbeats 4000000 in
set_option maxRecDepth 100000 in
theorem c_X6_countNumber (l : Launch) (D : va_G) (ca : Nat → ClassId) (y a h x : Nat → Nat) (Z : zSt) (nx sz : Nat) (hsz : sz ≤ 6) (w : Nat) (hw : w < 13) : zMr l yX6_countNumber cX6_countNumber 3 (some .int) 2 47 D ca [(y 0, .inr (6, [.ref (a 0), .ref (h 0), .ref (x 0)])), (h 0, .inr (1, [.ref (h 1), .int (nI nx), .int (nI sz)])), (a 0, .inr (2, [.ref (a 1), .ref (a 6), .ref (a 9)])), (a 1, .inr (3, [.ref (a 2), .ref (a 3), .ref (a 4), .ref (a 5), .int Z.1.2.2.2.2.1, .int Z.1.2.2.2.2.2])), (a 2, .inl (ca 0, 24, .inl Z.1.1)), (a 3, .inl (ca 0, 24, .inl Z.1.2.1)), (a 4, .inl (ca 0, 24, .inl Z.1.2.2.1)), (a 5, .inl (ca 0, 6, .inl Z.1.2.2.2.1)), (a 6, .inr (0, [.ref (a 7), .ref (a 8)])), (a 7, .inl (ca 0, 4, .inl Z.2.1.1)), (a 8, .inl (ca 0, 4, .inl Z.2.1.2)), (a 9, .inr (4, [.ref (a 10), .int Z.2.2.2.1, .int Z.2.2.2.2])), (a 10, .inl (ca 0, 3, .inl Z.2.2.1))] [.ref (y 0), .int (nI w)] (.int (zCo Z sz w)) := by
  refine zMr_of (own := RX6) (by decide) rfl (Nat.le_of_ble_eq_true rfl) ?_
  intro p e s m args below meth c ls S hr hlk hP hK hl
  have hx := S.1
  have hb := S.2.1
  have hl : lv_has ls 3 [(0, .ref (y 0)), (1, .int (nI w))] := hl
  refine lv_aload_n hx hb dX6_countNumber_0 rfl (lv_at hl 0 rfl) ?_
  refine z_get S in_lay_X6 hK hP rfl 0 rfl 0 (by decide) fl_X6_12 rfl rfl dX6_countNumber_1 ?_
  refine z_get S in_lay_X2 hK hP rfl 2 rfl 0 (by decide) fl_X6_41 rfl rfl dX6_countNumber_4 ?_
  refine lv_astore_n (lv' := [(2, .ref (a 1)), (0, .ref (y 0)), (1, .int (nI w))]) hx hb dX6_countNumber_7 rfl hl (by decide) rfl (fun ls hl => ?_)
  refine lv_iload_n hx hb dX6_countNumber_8 rfl (lv_at hl 2 rfl) ?_
  by_cases w_9_1 : w = 0
  · refine z_tabIn hx hb (x := w) (k := 0) w_9_1 (by decide) dX6_countNumber_9 (by decide) (by decide) rfl (by decide) ?_ (tgt := 72)
    refine lv_aload_n hx hb dX6_countNumber_72 rfl (lv_at hl 0 rfl) ?_
    refine z_get S in_lay_X3 hK hP rfl 3 rfl 4 (by decide) fl_X6_99 rfl rfl dX6_countNumber_73 ?_
    exact zr_i hx hb hr hlk (by simp [zCo, zb, w_9_1]) dX6_countNumber_76
  by_cases w_9_2 : w = 1
  · refine z_tabIn hx hb (x := w) (k := 1) w_9_2 (by decide) dX6_countNumber_9 (by decide) (by decide) rfl (by decide) ?_ (tgt := 77)
    refine lv_aload_n hx hb dX6_countNumber_77 rfl (lv_at hl 1 rfl) ?_
    refine z_get S in_lay_X6 hK hP rfl 0 rfl 0 (by decide) fl_X6_12 rfl rfl dX6_countNumber_78 ?_
    refine zcr (As := []) (rest := []) (q0 := 0) S (c_X2_horizon l D ca a Z) ml_X6_107 zy_X2_horizon im_X2_horizon se_X2_horizon ⟨Nat.le_of_ble_eq_true rfl, Nat.le_of_ble_eq_true rfl⟩ hK hP [2, 3, 8, 9] rfl rfl rfl rfl rfl hl.1 rfl (Nat.le_of_ble_eq_true rfl) ⟨Nat.zero_le _, Nat.zero_le _⟩ dX6_countNumber_81 ?_
    exact zr_i hx hb hr hlk (by simp [zCo, zb, w_9_1, w_9_2]) dX6_countNumber_84
  by_cases w_9_3 : w = 2
  · refine z_tabIn hx hb (x := w) (k := 2) w_9_3 (by decide) dX6_countNumber_9 (by decide) (by decide) rfl (by decide) ?_ (tgt := 85)
    refine lv_aload_n hx hb dX6_countNumber_85 rfl (lv_at hl 0 rfl) ?_
    refine lv_iconst (v := 0) hx hb dX6_countNumber_86 (by decide) ?_
    refine lv_bipush (v := 24) hx hb dX6_countNumber_87 (by decide) ?_
    refine zcr (As := [.int 0, .int 24]) (rest := []) (q0 := 0) S (c_X3_versions l D ca a Z.1 0 24 (by omega)) ml_X6_242 zy_X3_versions im_X3_versions se_X3_versions ⟨Nat.le_of_ble_eq_true rfl, Nat.le_of_ble_eq_true rfl⟩ hK hP [3, 4, 5, 6, 7] rfl rfl rfl rfl rfl hl.1 rfl (Nat.le_of_ble_eq_true rfl) ⟨Nat.zero_le _, Nat.zero_le _⟩ dX6_countNumber_89 ?_
    exact zr_i hx hb hr hlk (by simp [zCo, zb, w_9_1, w_9_2, w_9_3]) dX6_countNumber_92
  by_cases w_9_4 : w = 3
  · refine z_tabIn hx hb (x := w) (k := 3) w_9_4 (by decide) dX6_countNumber_9 (by decide) (by decide) rfl (by decide) ?_ (tgt := 93)
    refine lv_aload_n hx hb dX6_countNumber_93 rfl (lv_at hl 0 rfl) ?_
    refine lv_iconst (v := 0) hx hb dX6_countNumber_94 (by decide) ?_
    refine lv_bipush (v := 24) hx hb dX6_countNumber_95 (by decide) ?_
    refine lv_aload_n hx hb dX6_countNumber_97 rfl (lv_at hl 0 rfl) ?_
    refine z_get S in_lay_X3 hK hP rfl 3 rfl 4 (by decide) fl_X6_99 rfl rfl dX6_countNumber_98 ?_
    refine zcr (As := [.int 0, .int 24, .int Z.1.2.2.2.2.1]) (rest := []) (q0 := 0) S (c_X3_versionsSeen l D ca a Z.1 0 24 (by omega) Z.1.2.2.2.2.1) ml_X6_245 zy_X3_versionsSeen im_X3_versionsSeen se_X3_versionsSeen ⟨Nat.le_of_ble_eq_true rfl, Nat.le_of_ble_eq_true rfl⟩ hK hP [3, 4, 5, 6, 7] rfl rfl rfl rfl rfl hl.1 rfl (Nat.le_of_ble_eq_true rfl) ⟨Nat.zero_le _, Nat.zero_le _⟩ dX6_countNumber_101 ?_
    exact zr_i hx hb hr hlk (by simp [zCo, zb, w_9_1, w_9_2, w_9_3, w_9_4]) dX6_countNumber_104
  by_cases w_9_5 : w = 4
  · refine z_tabIn hx hb (x := w) (k := 4) w_9_5 (by decide) dX6_countNumber_9 (by decide) (by decide) rfl (by decide) ?_ (tgt := 105)
    refine lv_bipush (v := 24) hx hb dX6_countNumber_105 (by decide) ?_
    refine lv_aload_n hx hb dX6_countNumber_107 rfl (lv_at hl 0 rfl) ?_
    refine lv_iconst (v := 0) hx hb dX6_countNumber_108 (by decide) ?_
    refine lv_bipush (v := 24) hx hb dX6_countNumber_109 (by decide) ?_
    refine zcr (As := [.int 0, .int 24]) (rest := [.int 24]) (q0 := 0) S (c_X3_versions l D ca a Z.1 0 24 (by omega)) ml_X6_242 zy_X3_versions im_X3_versions se_X3_versions ⟨Nat.le_of_ble_eq_true rfl, Nat.le_of_ble_eq_true rfl⟩ hK hP [3, 4, 5, 6, 7] rfl rfl rfl rfl rfl hl.1 rfl (Nat.le_of_ble_eq_true rfl) ⟨Nat.zero_le _, Nat.zero_le _⟩ dX6_countNumber_111 ?_
    refine lv_isub hx hb dX6_countNumber_114 ?_
    exact zr_i hx hb hr hlk (by simp [zCo, zb, w_9_1, w_9_2, w_9_3, w_9_4, w_9_5]) dX6_countNumber_115
  by_cases w_9_6 : w = 5
  · refine z_tabIn hx hb (x := w) (k := 5) w_9_6 (by decide) dX6_countNumber_9 (by decide) (by decide) rfl (by decide) ?_ (tgt := 116)
    refine lv_aload_n hx hb dX6_countNumber_116 rfl (lv_at hl 0 rfl) ?_
    refine zcr (As := []) (rest := []) (q0 := 0) S (c_X3_markedPages l D ca a Z.1 ) ml_X6_114 zy_X3_markedPages im_X3_markedPages se_X3_markedPages ⟨Nat.le_of_ble_eq_true rfl, Nat.le_of_ble_eq_true rfl⟩ hK hP [3, 4, 5, 6, 7] rfl rfl rfl rfl rfl hl.1 rfl (Nat.le_of_ble_eq_true rfl) ⟨Nat.zero_le _, Nat.zero_le _⟩ dX6_countNumber_117 ?_
    exact zr_i hx hb hr hlk (by simp [zCo, zb, w_9_1, w_9_2, w_9_3, w_9_4, w_9_5, w_9_6]) dX6_countNumber_120
  by_cases w_9_7 : w = 6
  · refine z_tabIn hx hb (x := w) (k := 6) w_9_7 (by decide) dX6_countNumber_9 (by decide) (by decide) rfl (by decide) ?_ (tgt := 121)
    refine lv_aload_n hx hb dX6_countNumber_121 rfl (lv_at hl 1 rfl) ?_
    refine z_get S in_lay_X6 hK hP rfl 0 rfl 0 (by decide) fl_X6_12 rfl rfl dX6_countNumber_122 ?_
    refine z_get S in_lay_X2 hK hP rfl 2 rfl 2 (by decide) fl_X6_122 rfl rfl dX6_countNumber_125 ?_
    refine z_get S in_lay_X4 hK hP rfl 11 rfl 0 (by decide) fl_X6_254 rfl rfl dX6_countNumber_128 ?_
    refine lv_iconst (v := 0) hx hb dX6_countNumber_131 (by decide) ?_
    refine z_iald S hK hP 12 rfl (j := 0) (by omega) (by decide) dX6_countNumber_132 ?_
    exact zr_i hx hb hr hlk (by simp [zCo, zb, w_9_1, w_9_2, w_9_3, w_9_4, w_9_5, w_9_6, w_9_7]) dX6_countNumber_133
  by_cases w_9_8 : w = 7
  · refine z_tabIn hx hb (x := w) (k := 7) w_9_8 (by decide) dX6_countNumber_9 (by decide) (by decide) rfl (by decide) ?_ (tgt := 134)
    refine lv_aload_n hx hb dX6_countNumber_134 rfl (lv_at hl 1 rfl) ?_
    refine z_get S in_lay_X6 hK hP rfl 0 rfl 0 (by decide) fl_X6_12 rfl rfl dX6_countNumber_135 ?_
    refine z_get S in_lay_X2 hK hP rfl 2 rfl 2 (by decide) fl_X6_122 rfl rfl dX6_countNumber_138 ?_
    refine z_get S in_lay_X4 hK hP rfl 11 rfl 0 (by decide) fl_X6_254 rfl rfl dX6_countNumber_141 ?_
    refine lv_iconst (v := 1) hx hb dX6_countNumber_144 (by decide) ?_
    refine z_iald S hK hP 12 rfl (j := 1) (by omega) (by decide) dX6_countNumber_145 ?_
    exact zr_i hx hb hr hlk (by simp [zCo, zb, w_9_1, w_9_2, w_9_3, w_9_4, w_9_5, w_9_6, w_9_7, w_9_8]) dX6_countNumber_146
  by_cases w_9_9 : w = 8
  · refine z_tabIn hx hb (x := w) (k := 8) w_9_9 (by decide) dX6_countNumber_9 (by decide) (by decide) rfl (by decide) ?_ (tgt := 147)
    refine lv_aload_n hx hb dX6_countNumber_147 rfl (lv_at hl 1 rfl) ?_
    refine z_get S in_lay_X6 hK hP rfl 0 rfl 0 (by decide) fl_X6_12 rfl rfl dX6_countNumber_148 ?_
    refine z_get S in_lay_X2 hK hP rfl 2 rfl 2 (by decide) fl_X6_122 rfl rfl dX6_countNumber_151 ?_
    refine z_get S in_lay_X4 hK hP rfl 11 rfl 0 (by decide) fl_X6_254 rfl rfl dX6_countNumber_154 ?_
    refine lv_iconst (v := 2) hx hb dX6_countNumber_157 (by decide) ?_
    refine z_iald S hK hP 12 rfl (j := 2) (by omega) (by decide) dX6_countNumber_158 ?_
    exact zr_i hx hb hr hlk (by simp [zCo, zb, w_9_1, w_9_2, w_9_3, w_9_4, w_9_5, w_9_6, w_9_7, w_9_8, w_9_9]) dX6_countNumber_159
  by_cases w_9_10 : w = 9
  · refine z_tabIn hx hb (x := w) (k := 9) w_9_10 (by decide) dX6_countNumber_9 (by decide) (by decide) rfl (by decide) ?_ (tgt := 160)
    refine lv_aload_n hx hb dX6_countNumber_160 rfl (lv_at hl 1 rfl) ?_
    refine z_get S in_lay_X6 hK hP rfl 0 rfl 0 (by decide) fl_X6_12 rfl rfl dX6_countNumber_161 ?_
    refine z_get S in_lay_X2 hK hP rfl 2 rfl 2 (by decide) fl_X6_122 rfl rfl dX6_countNumber_164 ?_
    refine z_get S in_lay_X4 hK hP rfl 11 rfl 1 (by decide) fl_X6_255 rfl rfl dX6_countNumber_167 ?_
    exact zr_i hx hb hr hlk (by simp [zCo, zb, w_9_1, w_9_2, w_9_3, w_9_4, w_9_5, w_9_6, w_9_7, w_9_8, w_9_9, w_9_10]) dX6_countNumber_170
  by_cases w_9_11 : w = 10
  · refine z_tabIn hx hb (x := w) (k := 10) w_9_11 (by decide) dX6_countNumber_9 (by decide) (by decide) rfl (by decide) ?_ (tgt := 171)
    refine lv_aload_n hx hb dX6_countNumber_171 rfl (lv_at hl 1 rfl) ?_
    refine z_get S in_lay_X6 hK hP rfl 0 rfl 0 (by decide) fl_X6_12 rfl rfl dX6_countNumber_172 ?_
    refine z_get S in_lay_X2 hK hP rfl 2 rfl 2 (by decide) fl_X6_122 rfl rfl dX6_countNumber_175 ?_
    refine z_get S in_lay_X4 hK hP rfl 11 rfl 2 (by decide) fl_X6_258 rfl rfl dX6_countNumber_178 ?_
    exact zr_i hx hb hr hlk (by simp [zCo, zb, w_9_1, w_9_2, w_9_3, w_9_4, w_9_5, w_9_6, w_9_7, w_9_8, w_9_9, w_9_10, w_9_11]) dX6_countNumber_181
  by_cases w_9_12 : w = 11
  · refine z_tabIn hx hb (x := w) (k := 11) w_9_12 (by decide) dX6_countNumber_9 (by decide) (by decide) rfl (by decide) ?_ (tgt := 182)
    refine lv_aload_n hx hb dX6_countNumber_182 rfl (lv_at hl 0 rfl) ?_
    refine z_get S in_lay_X3 hK hP rfl 3 rfl 5 (by decide) fl_X6_261 rfl rfl dX6_countNumber_183 ?_
    exact zr_i hx hb hr hlk (by simp [zCo, zb, w_9_1, w_9_2, w_9_3, w_9_4, w_9_5, w_9_6, w_9_7, w_9_8, w_9_9, w_9_10, w_9_11, w_9_12]) dX6_countNumber_186
  refine z_tabOut hx hb (x := w) (by omega) dX6_countNumber_9 (by omega) (by decide) ?_ (tgt := 187)
  refine lv_aload_n hx hb dX6_countNumber_187 rfl (lv_at hl 1 rfl) ?_
  refine z_get S in_lay_X6 hK hP rfl 0 rfl 1 (by decide) fl_X6_19 rfl rfl dX6_countNumber_188 ?_
  refine z_get S in_lay_X1 hK hP rfl 1 rfl 2 (by decide) fl_X6_166 rfl rfl dX6_countNumber_191 ?_
  exact zr_i hx hb hr hlk (by simp [zCo, zb, w_9_1, w_9_2, w_9_3, w_9_4, w_9_5, w_9_6, w_9_7, w_9_8, w_9_9, w_9_10, w_9_11, w_9_12]) dX6_countNumber_194
set_option maxHeartbeats 4000000 in
set_option maxRecDepth 100000 in
theorem c_X6_markedShare (l : Launch) (D : va_G) (ca : Nat → ClassId) (y a h x : Nat → Nat) (Z : zSt) (hok : zOk (zSh (zMp Z.1))) : zMr l yX6_markedShare cX6_markedShare 1 (some .double) 2 43 D ca [(y 0, .inr (6, [.ref (a 0), .ref (h 0), .ref (x 0)])), (a 0, .inr (2, [.ref (a 1), .ref (a 6), .ref (a 9)])), (a 1, .inr (3, [.ref (a 2), .ref (a 3), .ref (a 4), .ref (a 5), .int Z.1.2.2.2.2.1, .int Z.1.2.2.2.2.2])), (a 2, .inl (ca 0, 24, .inl Z.1.1)), (a 3, .inl (ca 0, 24, .inl Z.1.2.1)), (a 4, .inl (ca 0, 24, .inl Z.1.2.2.1)), (a 5, .inl (ca 0, 6, .inl Z.1.2.2.2.1)), (a 6, .inr (0, [.ref (a 7), .ref (a 8)])), (a 7, .inl (ca 0, 4, .inl Z.2.1.1)), (a 8, .inl (ca 0, 4, .inl Z.2.1.2)), (a 9, .inr (4, [.ref (a 10), .int Z.2.2.2.1, .int Z.2.2.2.2])), (a 10, .inl (ca 0, 3, .inl Z.2.2.1))] [.ref (y 0)] (.double (zSh (zMp Z.1))) := by
  refine zMr_of (own := RX6) (by decide) rfl (Nat.le_of_ble_eq_true rfl) ?_
  intro p e s m args below meth c ls S hr hlk hP hK hl
  have hx := S.1
  have hb := S.2.1
  have hl : lv_has ls 1 [(0, .ref (y 0))] := hl
  refine lv_aload_n hx hb dX6_markedShare_0 rfl (lv_at hl 0 rfl) ?_
  refine z_get S in_lay_X6 hK hP rfl 0 rfl 0 (by decide) fl_X6_12 rfl rfl dX6_markedShare_1 ?_
  refine z_get S in_lay_X2 hK hP rfl 1 rfl 0 (by decide) fl_X6_41 rfl rfl dX6_markedShare_4 ?_
  refine zcr (As := []) (rest := []) (q0 := 0) S (c_X3_markedPages l D ca a Z.1 ) ml_X6_114 zy_X3_markedPages im_X3_markedPages se_X3_markedPages ⟨Nat.le_of_ble_eq_true rfl, Nat.le_of_ble_eq_true rfl⟩ hK hP [2, 3, 4, 5, 6] rfl rfl rfl rfl rfl hl.1 rfl (Nat.le_of_ble_eq_true rfl) ⟨Nat.zero_le _, Nat.zero_le _⟩ dX6_markedShare_7 ?_
  refine lv_i2d hx hb dX6_markedShare_10 ?_
  refine lv_ldc2d (v := 4618441417868443648) hx hb S.2.2.2.1 (S.2.2.2.2 _ kc_X6_267) dX6_markedShare_11 ?_
  refine lv_ddiv hx hb dX6_markedShare_14 (by exact hok.1) ?_
  exact zr_d hx hb hr hlk (by rfl) dX6_markedShare_15
set_option maxHeartbeats 4000000 in
set_option maxRecDepth 100000 in
theorem c_X6_marked (l : Launch) (D : va_G) (ca : Nat → ClassId) (y a h x : Nat → Nat) (Z : zSt) (hok : zOk (zSh (zMp Z.1))) : zMr l yX6_marked cX6_marked 1 (some .double) 3 63 D ca [(y 0, .inr (6, [.ref (a 0), .ref (h 0), .ref (x 0)])), (a 0, .inr (2, [.ref (a 1), .ref (a 6), .ref (a 9)])), (a 1, .inr (3, [.ref (a 2), .ref (a 3), .ref (a 4), .ref (a 5), .int Z.1.2.2.2.2.1, .int Z.1.2.2.2.2.2])), (a 2, .inl (ca 0, 24, .inl Z.1.1)), (a 3, .inl (ca 0, 24, .inl Z.1.2.1)), (a 4, .inl (ca 0, 24, .inl Z.1.2.2.1)), (a 5, .inl (ca 0, 6, .inl Z.1.2.2.2.1)), (a 6, .inr (0, [.ref (a 7), .ref (a 8)])), (a 7, .inl (ca 0, 4, .inl Z.2.1.1)), (a 8, .inl (ca 0, 4, .inl Z.2.1.2)), (a 9, .inr (4, [.ref (a 10), .int Z.2.2.2.1, .int Z.2.2.2.2])), (a 10, .inl (ca 0, 3, .inl Z.2.2.1))] [.ref (y 0)] (.double (zSh (zMp Z.1))) := by
  refine zMr_of (own := RX6) (by decide) rfl (Nat.le_of_ble_eq_true rfl) ?_
  intro p e s m args below meth c ls S hr hlk hP hK hl
  have hx := S.1
  have hb := S.2.1
  have hl : lv_has ls 1 [(0, .ref (y 0))] := hl
  refine lv_aload_n hx hb dX6_marked_0 rfl (lv_at hl 0 rfl) ?_
  refine zcr (As := []) (rest := []) (q0 := 0) S (c_X6_markedShare l D ca y a (h) (x) Z (by assumption)) ml_X6_207 zy_X6_markedShare im_X6_markedShare se_X6_markedShare ⟨Nat.le_of_ble_eq_true rfl, Nat.le_of_ble_eq_true rfl⟩ hK hP [0, 1, 2, 3, 4, 5, 6, 7, 8, 9, 10, 11] rfl rfl rfl rfl rfl hl.1 rfl (Nat.le_of_ble_eq_true rfl) ⟨Nat.zero_le _, Nat.zero_le _⟩ dX6_marked_1 ?_
  exact zr_d hx hb hr hlk (by rfl) dX6_marked_4
