set_option maxHeartbeats 4000000 in
set_option maxRecDepth 100000 in
/-- Table.isSeen -/
theorem c_X3_isSeen (l : Launch) (D : va_G) (ca : Nat → ClassId) (a : Nat → Nat) (T : zTb) (k : Nat) (hk : k < 24) (t : Int32) : zMr l yX3_isSeen cX3_isSeen 3 (some .boolean) 0 0 D ca [(a 1, .inr (3, [.ref (a 2), .ref (a 3), .ref (a 4), .ref (a 5), .int T.2.2.2.2.1, .int T.2.2.2.2.2])), (a 2, .inl (ca 0, 24, .inl T.1)), (a 3, .inl (ca 0, 24, .inl T.2.1)), (a 4, .inl (ca 0, 24, .inl T.2.2.1)), (a 5, .inl (ca 0, 6, .inl T.2.2.2.1))] [.ref (a 1), .int (nI k), .int t] (.int (zb (zSeen T k t))) := by
  refine zMr_of (own := RX3) (by decide) rfl (Nat.le_of_ble_eq_true rfl) ?_
  intro p e s m args below meth c ls S hr hlk hP hK hl
  have hx := S.1
  have hb := S.2.1
  have hl : lv_has ls 3 [(0, .ref (a 1)), (1, .int (nI k)), (2, .int t)] := hl
  refine lv_aload_n hx hb dX3_isSeen_0 rfl (lv_at hl 0 rfl) ?_
  refine z_get S in_lay_X3 hK hP rfl 0 rfl 0 (by decide) fl_X3_9 rfl rfl dX3_isSeen_1 ?_
  refine lv_iload_n hx hb dX3_isSeen_4 rfl (lv_at hl 1 rfl) ?_
  refine z_iald S hK hP 1 rfl (j := k) (by omega) (by decide) dX3_isSeen_5 ?_
  refine lv_iconst (v := (-1)) hx hb dX3_isSeen_6 (by decide) ?_
  refine lv_icmp_eq (tgt := 20) hx hb dX3_isSeen_7 (by decide) (fun c_7_1 => ?_) (fun c_7_1 => ?_)
  · refine lv_iconst (v := 0) hx hb dX3_isSeen_20 (by decide) ?_
    exact zr_z hx hb hr hlk (by simp [zSeen, zb, c_7_1]) dX3_isSeen_21
  · refine lv_aload_n hx hb dX3_isSeen_10 rfl (lv_at hl 0 rfl) ?_
    refine z_get S in_lay_X3 hK hP rfl 0 rfl 1 (by decide) fl_X3_15 rfl rfl dX3_isSeen_11 ?_
    refine lv_iload_n hx hb dX3_isSeen_14 rfl (lv_at hl 1 rfl) ?_
    refine z_iald S hK hP 2 rfl (j := k) (by omega) (by decide) dX3_isSeen_15 ?_
    refine lv_iload_n hx hb dX3_isSeen_16 rfl (lv_at hl 2 rfl) ?_
    refine lv_icmp_le (tgt := 22) hx hb dX3_isSeen_17 (by decide) (fun c_17_2 => ?_) (fun c_17_2 => ?_)
    · refine lv_aload_n hx hb dX3_isSeen_22 rfl (lv_at hl 0 rfl) ?_
      refine z_get S in_lay_X3 hK hP rfl 0 rfl 2 (by decide) fl_X3_18 rfl rfl dX3_isSeen_23 ?_
      refine lv_iload_n hx hb dX3_isSeen_26 rfl (lv_at hl 1 rfl) ?_
      refine z_iald S hK hP 3 rfl (j := k) (by omega) (by decide) dX3_isSeen_27 ?_
      refine lv_if_eq (tgt := 41) hx hb dX3_isSeen_28 (by decide) (fun c_28_3 => ?_) (fun c_28_3 => ?_)
      · refine lv_iconst (v := 1) hx hb dX3_isSeen_41 (by decide) ?_
        refine lv_goto (tgt := 46) hx hb dX3_isSeen_42 (by decide) ?_
        exact zr_z hx hb hr hlk (by simp [zSeen, zb, c_7_1, c_17_2, c_28_3]) dX3_isSeen_46
      · refine lv_aload_n hx hb dX3_isSeen_31 rfl (lv_at hl 0 rfl) ?_
        refine z_get S in_lay_X3 hK hP rfl 0 rfl 2 (by decide) fl_X3_18 rfl rfl dX3_isSeen_32 ?_
        refine lv_iload_n hx hb dX3_isSeen_35 rfl (lv_at hl 1 rfl) ?_
        refine z_iald S hK hP 3 rfl (j := k) (by omega) (by decide) dX3_isSeen_36 ?_
        refine lv_iload_n hx hb dX3_isSeen_37 rfl (lv_at hl 2 rfl) ?_
        refine lv_icmp_le (tgt := 45) hx hb dX3_isSeen_38 (by decide) (fun c_38_4 => ?_) (fun c_38_4 => ?_)
        · refine lv_iconst (v := 0) hx hb dX3_isSeen_45 (by decide) ?_
          exact zr_z hx hb hr hlk (by simp [zSeen, zb, c_7_1, c_17_2, c_28_3, c_38_4]) dX3_isSeen_46
        · refine lv_iconst (v := 1) hx hb dX3_isSeen_41 (by decide) ?_
          refine lv_goto (tgt := 46) hx hb dX3_isSeen_42 (by decide) ?_
          exact zr_z hx hb hr hlk (by simp [zSeen, zb, c_7_1, c_17_2, c_28_3, c_38_4]) dX3_isSeen_46
    · refine lv_iconst (v := 0) hx hb dX3_isSeen_20 (by decide) ?_
      exact zr_z hx hb hr hlk (by simp [zSeen, zb, c_7_1, c_17_2]) dX3_isSeen_21
set_option maxHeartbeats 4000000 in
set_option maxRecDepth 100000 in
theorem c_X3_isSeenNow (l : Launch) (D : va_G) (ca : Nat → ClassId) (a : Nat → Nat) (T : zTb) (k : Nat) (hk : k < 24) : zMr l yX3_isSeenNow cX3_isSeenNow 2 (some .boolean) 1 22 D ca [(a 1, .inr (3, [.ref (a 2), .ref (a 3), .ref (a 4), .ref (a 5), .int T.2.2.2.2.1, .int T.2.2.2.2.2])), (a 2, .inl (ca 0, 24, .inl T.1)), (a 3, .inl (ca 0, 24, .inl T.2.1)), (a 4, .inl (ca 0, 24, .inl T.2.2.1)), (a 5, .inl (ca 0, 6, .inl T.2.2.2.1))] [.ref (a 1), .int (nI k)] (.int (zb (zSeen T k T.2.2.2.2.1))) := by
  refine zMr_of (own := RX3) (by decide) rfl (Nat.le_of_ble_eq_true rfl) ?_
  intro p e s m args below meth c ls S hr hlk hP hK hl
  have hx := S.1
  have hb := S.2.1
  have hl : lv_has ls 2 [(0, .ref (a 1)), (1, .int (nI k))] := hl
  refine lv_aload_n hx hb dX3_isSeenNow_0 rfl (lv_at hl 0 rfl) ?_
  refine lv_iload_n hx hb dX3_isSeenNow_1 rfl (lv_at hl 1 rfl) ?_
  refine lv_aload_n hx hb dX3_isSeenNow_2 rfl (lv_at hl 0 rfl) ?_
  refine z_get S in_lay_X3 hK hP rfl 0 rfl 4 (by decide) fl_X3_36 rfl rfl dX3_isSeenNow_3 ?_
  refine zcr (As := [.int (nI k), .int T.2.2.2.2.1]) (rest := []) (q0 := 0) S (c_X3_isSeen l D ca a T k (by omega) T.2.2.2.2.1) ml_X3_43 zy_X3_isSeen im_X3_isSeen se_X3_isSeen ⟨Nat.le_of_ble_eq_true rfl, Nat.le_of_ble_eq_true rfl⟩ hK hP [0, 1, 2, 3, 4] rfl rfl rfl rfl rfl hl.1 rfl (Nat.le_of_ble_eq_true rfl) ⟨Nat.zero_le _, Nat.zero_le _⟩ dX3_isSeenNow_6 ?_
  exact zr_z hx hb hr hlk (by rfl) dX3_isSeenNow_9
set_option maxHeartbeats 4000000 in
set_option maxRecDepth 100000 in
theorem c_X3_isMarked (l : Launch) (D : va_G) (ca : Nat → ClassId) (a : Nat → Nat) (T : zTb) (k : Nat) (hk : k < 6) : zMr l yX3_isMarked cX3_isMarked 2 (some .boolean) 0 0 D ca [(a 1, .inr (3, [.ref (a 2), .ref (a 3), .ref (a 4), .ref (a 5), .int T.2.2.2.2.1, .int T.2.2.2.2.2])), (a 2, .inl (ca 0, 24, .inl T.1)), (a 3, .inl (ca 0, 24, .inl T.2.1)), (a 4, .inl (ca 0, 24, .inl T.2.2.1)), (a 5, .inl (ca 0, 6, .inl T.2.2.2.1))] [.ref (a 1), .int (nI k)] (.int (zb (zMk T k))) := by
  refine zMr_of (own := RX3) (by decide) rfl (Nat.le_of_ble_eq_true rfl) ?_
  intro p e s m args below meth c ls S hr hlk hP hK hl
  have hx := S.1
  have hb := S.2.1
  have hl : lv_has ls 2 [(0, .ref (a 1)), (1, .int (nI k))] := hl
  refine lv_aload_n hx hb dX3_isMarked_0 rfl (lv_at hl 0 rfl) ?_
  refine z_get S in_lay_X3 hK hP rfl 0 rfl 3 (by decide) fl_X3_21 rfl rfl dX3_isMarked_1 ?_
  refine lv_iload_n hx hb dX3_isMarked_4 rfl (lv_at hl 1 rfl) ?_
  refine z_iald S hK hP 4 rfl (j := k) (by omega) (by decide) dX3_isMarked_5 ?_
  refine lv_iconst (v := (-1)) hx hb dX3_isMarked_6 (by decide) ?_
  refine lv_icmp_eq (tgt := 14) hx hb dX3_isMarked_7 (by decide) (fun c_7_1 => ?_) (fun c_7_1 => ?_)
  · refine lv_iconst (v := 0) hx hb dX3_isMarked_14 (by decide) ?_
    exact zr_z hx hb hr hlk (by simp [zMk, zb, c_7_1]) dX3_isMarked_15
  · refine lv_iconst (v := 1) hx hb dX3_isMarked_10 (by decide) ?_
    refine lv_goto (tgt := 15) hx hb dX3_isMarked_11 (by decide) ?_
    exact zr_z hx hb hr hlk (by simp [zMk, zb, c_7_1]) dX3_isMarked_15
set_option maxHeartbeats 4000000 in
set_option maxRecDepth 100000 in
theorem c_X3_isToTakeOut (l : Launch) (D : va_G) (ca : Nat → ClassId) (a : Nat → Nat) (T : zTb) (k : Nat) (hk : k < 24) (t : Int32) : zMr l yX3_isToTakeOut cX3_isToTakeOut 3 (some .boolean) 0 0 D ca [(a 1, .inr (3, [.ref (a 2), .ref (a 3), .ref (a 4), .ref (a 5), .int T.2.2.2.2.1, .int T.2.2.2.2.2])), (a 2, .inl (ca 0, 24, .inl T.1)), (a 3, .inl (ca 0, 24, .inl T.2.1)), (a 4, .inl (ca 0, 24, .inl T.2.2.1)), (a 5, .inl (ca 0, 6, .inl T.2.2.2.1))] [.ref (a 1), .int (nI k), .int t] (.int (zb (zOut T k t))) := by
  refine zMr_of (own := RX3) (by decide) rfl (Nat.le_of_ble_eq_true rfl) ?_
  intro p e s m args below meth c ls S hr hlk hP hK hl
  have hx := S.1
  have hb := S.2.1
  have hl : lv_has ls 3 [(0, .ref (a 1)), (1, .int (nI k)), (2, .int t)] := hl
  refine lv_aload_n hx hb dX3_isToTakeOut_0 rfl (lv_at hl 0 rfl) ?_
  refine z_get S in_lay_X3 hK hP rfl 0 rfl 2 (by decide) fl_X3_18 rfl rfl dX3_isToTakeOut_1 ?_
  refine lv_iload_n hx hb dX3_isToTakeOut_4 rfl (lv_at hl 1 rfl) ?_
  refine z_iald S hK hP 3 rfl (j := k) (by omega) (by decide) dX3_isToTakeOut_5 ?_
  refine lv_if_le (tgt := 23) hx hb dX3_isToTakeOut_6 (by decide) (fun c_6_1 => ?_) (fun c_6_1 => ?_)
  · refine lv_iconst (v := 0) hx hb dX3_isToTakeOut_23 (by decide) ?_
    exact zr_z hx hb hr hlk (by simp [zOut, zb, c_6_1]) dX3_isToTakeOut_24
  · refine lv_aload_n hx hb dX3_isToTakeOut_9 rfl (lv_at hl 0 rfl) ?_
    refine z_get S in_lay_X3 hK hP rfl 0 rfl 2 (by decide) fl_X3_18 rfl rfl dX3_isToTakeOut_10 ?_
    refine lv_iload_n hx hb dX3_isToTakeOut_13 rfl (lv_at hl 1 rfl) ?_
    refine z_iald S hK hP 3 rfl (j := k) (by omega) (by decide) dX3_isToTakeOut_14 ?_
    refine lv_iload_n hx hb dX3_isToTakeOut_15 rfl (lv_at hl 2 rfl) ?_
    refine lv_icmp_gt (tgt := 23) hx hb dX3_isToTakeOut_16 (by decide) (fun c_16_2 => ?_) (fun c_16_2 => ?_)
    · refine lv_iconst (v := 0) hx hb dX3_isToTakeOut_23 (by decide) ?_
      exact zr_z hx hb hr hlk (by simp [zOut, zb, c_6_1, c_16_2]) dX3_isToTakeOut_24
    · refine lv_iconst (v := 1) hx hb dX3_isToTakeOut_19 (by decide) ?_
      refine lv_goto (tgt := 24) hx hb dX3_isToTakeOut_20 (by decide) ?_
      exact zr_z hx hb hr hlk (by simp [zOut, zb, c_6_1, c_16_2]) dX3_isToTakeOut_24
set_option maxHeartbeats 4000000 in
set_option maxRecDepth 100000 in
theorem c_X3_isSeenByAll (l : Launch) (D : va_G) (ca : Nat → ClassId) (a : Nat → Nat) (T : zTb) (k : Nat) (hk : k < 24) (t : Int32) : zMr l yX3_isSeenByAll cX3_isSeenByAll 3 (some .boolean) 0 0 D ca [(a 1, .inr (3, [.ref (a 2), .ref (a 3), .ref (a 4), .ref (a 5), .int T.2.2.2.2.1, .int T.2.2.2.2.2])), (a 2, .inl (ca 0, 24, .inl T.1)), (a 3, .inl (ca 0, 24, .inl T.2.1)), (a 4, .inl (ca 0, 24, .inl T.2.2.1)), (a 5, .inl (ca 0, 6, .inl T.2.2.2.1))] [.ref (a 1), .int (nI k), .int t] (.int (zb (zAll T k t))) := by
  refine zMr_of (own := RX3) (by decide) rfl (Nat.le_of_ble_eq_true rfl) ?_
  intro p e s m args below meth c ls S hr hlk hP hK hl
  have hx := S.1
  have hb := S.2.1
  have hl : lv_has ls 3 [(0, .ref (a 1)), (1, .int (nI k)), (2, .int t)] := hl
  refine lv_aload_n hx hb dX3_isSeenByAll_0 rfl (lv_at hl 0 rfl) ?_
  refine z_get S in_lay_X3 hK hP rfl 0 rfl 1 (by decide) fl_X3_15 rfl rfl dX3_isSeenByAll_1 ?_
  refine lv_iload_n hx hb dX3_isSeenByAll_4 rfl (lv_at hl 1 rfl) ?_
  refine z_iald S hK hP 2 rfl (j := k) (by omega) (by decide) dX3_isSeenByAll_5 ?_
  refine lv_iload_n hx hb dX3_isSeenByAll_6 rfl (lv_at hl 2 rfl) ?_
  refine lv_icmp_gt (tgt := 23) hx hb dX3_isSeenByAll_7 (by decide) (fun c_7_1 => ?_) (fun c_7_1 => ?_)
  · refine lv_iconst (v := 0) hx hb dX3_isSeenByAll_23 (by decide) ?_
    exact zr_z hx hb hr hlk (by simp [zAll, zb, c_7_1]) dX3_isSeenByAll_24
  · refine lv_aload_n hx hb dX3_isSeenByAll_10 rfl (lv_at hl 0 rfl) ?_
    refine z_get S in_lay_X3 hK hP rfl 0 rfl 2 (by decide) fl_X3_18 rfl rfl dX3_isSeenByAll_11 ?_
    refine lv_iload_n hx hb dX3_isSeenByAll_14 rfl (lv_at hl 1 rfl) ?_
    refine z_iald S hK hP 3 rfl (j := k) (by omega) (by decide) dX3_isSeenByAll_15 ?_
    refine lv_if_ne (tgt := 23) hx hb dX3_isSeenByAll_16 (by decide) (fun c_16_2 => ?_) (fun c_16_2 => ?_)
    · refine lv_iconst (v := 0) hx hb dX3_isSeenByAll_23 (by decide) ?_
      exact zr_z hx hb hr hlk (by simp [zAll, zb, c_7_1, c_16_2]) dX3_isSeenByAll_24
    · refine lv_iconst (v := 1) hx hb dX3_isSeenByAll_19 (by decide) ?_
      refine lv_goto (tgt := 24) hx hb dX3_isSeenByAll_20 (by decide) ?_
      exact zr_z hx hb hr hlk (by simp [zAll, zb, c_7_1, c_16_2]) dX3_isSeenByAll_24
set_option maxHeartbeats 4000000 in
set_option maxRecDepth 100000 in
theorem c_X3_lowestEmptySlot (l : Launch) (D : va_G) (ca : Nat → ClassId) (a : Nat → Nat) (T : zTb) : zMr l yX3_lowestEmptySlot cX3_lowestEmptySlot 2 (some .int) 0 0 D ca [(a 1, .inr (3, [.ref (a 2), .ref (a 3), .ref (a 4), .ref (a 5), .int T.2.2.2.2.1, .int T.2.2.2.2.2])), (a 2, .inl (ca 0, 24, .inl T.1)), (a 3, .inl (ca 0, 24, .inl T.2.1)), (a 4, .inl (ca 0, 24, .inl T.2.2.1)), (a 5, .inl (ca 0, 6, .inl T.2.2.2.1))] [.ref (a 1)] (.int (zNo (zLow T))) := by
  refine zMr_of (own := RX3) (by decide) rfl (Nat.le_of_ble_eq_true rfl) ?_
  intro p e s m args below meth c ls S hr hlk hP hK hl
  have hx := S.1
  have hb := S.2.1
  have hl : lv_has ls 2 [(0, .ref (a 1))] := hl
  refine lv_iconst (v := 0) hx hb dX3_lowestEmptySlot_0 (by decide) ?_
  refine lv_istore_n (lv' := [(1, .int 0), (0, .ref (a 1))]) hx hb dX3_lowestEmptySlot_1 rfl hl (by decide) rfl (fun ls hl => ?_)
  have loop_0 : ∀ (f : Nat) (k : Nat) (ls : Array Slot), k + f = 24 → zLow T = zfst (fun k => decide (T.1 k = -1)) f k → lv_has ls 2 [(0, .ref (a 1)), (1, .int (nI k))] → W p l e { frames := 0, cells := 0, slots := 0, locals := 0 } s m args below meth c s.heap [] 0 0 (MQ below (zQr (.int (zNo (zLow T)))) args s 0 0 (fun _ => False)) (F0 m 2 ls []) := by
    intro f
    induction f with
    | zero =>
      intro k ls j1 j2 hl
      refine lv_iload_n hx hb dX3_lowestEmptySlot_2 rfl (lv_at hl 1 rfl) ?_
      refine lv_bipush (v := 24) hx hb dX3_lowestEmptySlot_3 (by decide) ?_
      refine zn_ge hx hb (x := k) (y := 24) (by omega) (by omega) (tgt := 26) dX3_lowestEmptySlot_5 (by decide) (fun c_5_2 => ?_) (fun h => False.elim (by omega))
      refine lv_iconst (v := (-1)) hx hb dX3_lowestEmptySlot_26 (by decide) ?_
      exact zr_i hx hb hr hlk (by rw [j2]; show (-1 : Int32) = zNo k; rw [zNo, if_neg (by omega)]) dX3_lowestEmptySlot_27
    | succ f ih =>
      intro k ls j1 j2 hl
      refine lv_iload_n hx hb dX3_lowestEmptySlot_2 rfl (lv_at hl 1 rfl) ?_
      refine lv_bipush (v := 24) hx hb dX3_lowestEmptySlot_3 (by decide) ?_
      refine zn_ge hx hb (x := k) (y := 24) (by omega) (by omega) (tgt := 26) dX3_lowestEmptySlot_5 (by decide) (fun h => False.elim (by omega)) (fun c_5_3 => ?_)
      refine lv_aload_n hx hb dX3_lowestEmptySlot_8 rfl (lv_at hl 0 rfl) ?_
      refine z_get S in_lay_X3 hK hP rfl 0 rfl 0 (by decide) fl_X3_9 rfl rfl dX3_lowestEmptySlot_9 ?_
      refine lv_iload_n hx hb dX3_lowestEmptySlot_12 rfl (lv_at hl 1 rfl) ?_
      refine z_iald S hK hP 1 rfl (j := k) (by omega) (by decide) dX3_lowestEmptySlot_13 ?_
      refine lv_iconst (v := (-1)) hx hb dX3_lowestEmptySlot_14 (by decide) ?_
      refine lv_icmp_ne (tgt := 20) hx hb dX3_lowestEmptySlot_15 (by decide) (fun c_15_4 => ?_) (fun c_15_4 => ?_)
      · refine lv_iinc (v := nI (k + 1)) (lv' := [(1, .int (nI (k + 1))), (0, .ref (a 1))]) hx hb dX3_lowestEmptySlot_20 hl (k := 1) rfl (zinc k 1) (by decide) rfl (fun ls hl => ?_)
        refine lv_goto (tgt := 2) hx hb dX3_lowestEmptySlot_23 (by decide) ?_
        exact ih (k + 1) ls (by omega) (by exact j2.trans (zfst_f (by simp [c_5_3, c_15_4]))) (lv_sub hl [1, 0] rfl)
      · refine lv_iload_n hx hb dX3_lowestEmptySlot_18 rfl (lv_at hl 1 rfl) ?_
        exact zr_i hx hb hr hlk (by rw [j2.trans (zfst_t (by simp [c_5_3, c_15_4]))]; rw [zNo, if_pos (by omega)]) dX3_lowestEmptySlot_19
  exact loop_0 24 0 ls (by omega) (by rfl) (lv_sub hl [1, 0] rfl)
set_option maxHeartbeats 4000000 in
set_option maxRecDepth 100000 in
theorem c_X3_hasEmptySlot (l : Launch) (D : va_G) (ca : Nat → ClassId) (a : Nat → Nat) (T : zTb) : zMr l yX3_hasEmptySlot cX3_hasEmptySlot 1 (some .boolean) 1 21 D ca [(a 1, .inr (3, [.ref (a 2), .ref (a 3), .ref (a 4), .ref (a 5), .int T.2.2.2.2.1, .int T.2.2.2.2.2])), (a 2, .inl (ca 0, 24, .inl T.1)), (a 3, .inl (ca 0, 24, .inl T.2.1)), (a 4, .inl (ca 0, 24, .inl T.2.2.1)), (a 5, .inl (ca 0, 6, .inl T.2.2.2.1))] [.ref (a 1)] (.int (zb (decide (zLow T < 24)))) := by
  refine zMr_of (own := RX3) (by decide) rfl (Nat.le_of_ble_eq_true rfl) ?_
  intro p e s m args below meth c ls S hr hlk hP hK hl
  have hx := S.1
  have hb := S.2.1
  have hl : lv_has ls 1 [(0, .ref (a 1))] := hl
  refine lv_aload_n hx hb dX3_hasEmptySlot_0 rfl (lv_at hl 0 rfl) ?_
  refine zcr (As := []) (rest := []) (q0 := 0) S (c_X3_lowestEmptySlot l D ca a T ) ml_X3_47 zy_X3_lowestEmptySlot im_X3_lowestEmptySlot se_X3_lowestEmptySlot ⟨Nat.le_of_ble_eq_true rfl, Nat.le_of_ble_eq_true rfl⟩ hK hP [0, 1, 2, 3, 4] rfl rfl rfl rfl rfl hl.1 rfl (Nat.le_of_ble_eq_true rfl) ⟨Nat.zero_le _, Nat.zero_le _⟩ dX3_hasEmptySlot_1 ?_
  refine zNo_c (fun c_1_1 => ?_) (fun c_1_1 => ?_)
  · refine lv_iconst (v := (-1)) hx hb dX3_hasEmptySlot_4 (by decide) ?_
    refine lv_icmp_eq (tgt := 12) hx hb dX3_hasEmptySlot_5 (by decide) (fun h => absurd h (nI_nem1 (by omega))) (fun _ => ?_)
    refine lv_iconst (v := 1) hx hb dX3_hasEmptySlot_8 (by decide) ?_
    refine lv_goto (tgt := 13) hx hb dX3_hasEmptySlot_9 (by decide) ?_
    exact zr_z hx hb hr hlk (by simp [zb, c_1_1]) dX3_hasEmptySlot_13
  · refine lv_iconst (v := (-1)) hx hb dX3_hasEmptySlot_4 (by decide) ?_
    refine lv_icmp_eq (tgt := 12) hx hb dX3_hasEmptySlot_5 (by decide) (fun _ => ?_) (fun h => absurd (by decide) h)
    refine lv_iconst (v := 0) hx hb dX3_hasEmptySlot_12 (by decide) ?_
    exact zr_z hx hb hr hlk (by simp [zb, c_1_1]) dX3_hasEmptySlot_13
set_option maxHeartbeats 4000000 in
set_option maxRecDepth 100000 in
theorem c_X3_versions (l : Launch) (D : va_G) (ca : Nat → ClassId) (a : Nat → Nat) (T : zTb) (i n : Nat) (hi : i + n ≤ 24) : zMr l yX3_versions cX3_versions 5 (some .int) 0 0 D ca [(a 1, .inr (3, [.ref (a 2), .ref (a 3), .ref (a 4), .ref (a 5), .int T.2.2.2.2.1, .int T.2.2.2.2.2])), (a 2, .inl (ca 0, 24, .inl T.1)), (a 3, .inl (ca 0, 24, .inl T.2.1)), (a 4, .inl (ca 0, 24, .inl T.2.2.1)), (a 5, .inl (ca 0, 6, .inl T.2.2.2.1))] [.ref (a 1), .int (nI i), .int (nI (i + n))] (.int (zVs T n i)) := by
  refine zMr_of (own := RX3) (by decide) rfl (Nat.le_of_ble_eq_true rfl) ?_
  intro p e s m args below meth c ls S hr hlk hP hK hl
  have hx := S.1
  have hb := S.2.1
  have hl : lv_has ls 5 [(0, .ref (a 1)), (1, .int (nI i)), (2, .int (nI (i + n)))] := hl
  refine lv_iconst (v := 0) hx hb dX3_versions_0 (by decide) ?_
  refine lv_istore_n (lv' := [(3, .int 0), (0, .ref (a 1)), (1, .int (nI i)), (2, .int (nI (i + n)))]) hx hb dX3_versions_1 rfl hl (by decide) rfl (fun ls hl => ?_)
  refine lv_iload_n hx hb dX3_versions_2 rfl (lv_at hl 2 rfl) ?_
  refine lv_istore (lv' := [(4, .int (nI i)), (3, .int 0), (0, .ref (a 1)), (1, .int (nI i)), (2, .int (nI (i + n)))]) hx hb dX3_versions_3 hl (by decide) rfl (fun ls hl => ?_)
  have loop_0 : ∀ (f : Nat) (k : Nat) (x : Int32) (ls : Array Slot), k + f = i + n → zcnt (fun k => decide (¬ T.1 k = -1)) n i 0 = zcnt (fun k => decide (¬ T.1 k = -1)) f k x → lv_has ls 5 [(0, .ref (a 1)), (1, .int (nI i)), (2, .int (nI (i + n))), (3, .int x), (4, .int (nI k))] → W p l e { frames := 0, cells := 0, slots := 0, locals := 0 } s m args below meth c s.heap [] 0 0 (MQ below (zQr (.int (zVs T n i))) args s 0 0 (fun _ => False)) (F0 m 5 ls []) := by
    intro f
    induction f with
    | zero =>
      intro k x ls j1 j2 hl
      refine lv_iload hx hb dX3_versions_5 (lv_at hl 4 rfl) ?_
      refine lv_iload_n hx hb dX3_versions_7 rfl (lv_at hl 2 rfl) ?_
      refine zn_ge hx hb (x := k) (y := i + n) (by omega) (by omega) (tgt := 31) dX3_versions_8 (by decide) (fun c_8_2 => ?_) (fun h => False.elim (by omega))
      refine lv_iload_n hx hb dX3_versions_31 rfl (lv_at hl 3 rfl) ?_
      exact zr_i hx hb hr hlk (by exact j2.symm) dX3_versions_32
    | succ f ih =>
      intro k x ls j1 j2 hl
      refine lv_iload hx hb dX3_versions_5 (lv_at hl 4 rfl) ?_
      refine lv_iload_n hx hb dX3_versions_7 rfl (lv_at hl 2 rfl) ?_
      refine zn_ge hx hb (x := k) (y := i + n) (by omega) (by omega) (tgt := 31) dX3_versions_8 (by decide) (fun h => False.elim (by omega)) (fun c_8_3 => ?_)
      refine lv_aload_n hx hb dX3_versions_11 rfl (lv_at hl 0 rfl) ?_
      refine z_get S in_lay_X3 hK hP rfl 0 rfl 0 (by decide) fl_X3_9 rfl rfl dX3_versions_12 ?_
      refine lv_iload hx hb dX3_versions_15 (lv_at hl 4 rfl) ?_
      refine z_iald S hK hP 1 rfl (j := k) (by omega) (by decide) dX3_versions_17 ?_
      refine lv_iconst (v := (-1)) hx hb dX3_versions_18 (by decide) ?_
      refine lv_icmp_eq (tgt := 25) hx hb dX3_versions_19 (by decide) (fun c_19_4 => ?_) (fun c_19_4 => ?_)
      · refine lv_iinc (v := nI (k + 1)) (lv' := [(4, .int (nI (k + 1))), (0, .ref (a 1)), (1, .int (nI i)), (2, .int (nI (i + n))), (3, .int x)]) hx hb dX3_versions_25 hl (k := 4) rfl (zinc k 1) (by decide) rfl (fun ls hl => ?_)
        refine lv_goto (tgt := 5) hx hb dX3_versions_28 (by decide) ?_
        exact ih (k + 1) x ls (by omega) (by first | exact j2.trans (zcnt_t (by simp [c_8_3, c_19_4])) | exact j2.trans (zcnt_f (by simp [c_8_3, c_19_4]))) (lv_sub hl [1, 2, 3, 4, 0] rfl)
      · refine lv_iinc (v := x + 1) (lv' := [(3, .int (x + 1)), (0, .ref (a 1)), (1, .int (nI i)), (2, .int (nI (i + n))), (4, .int (nI k))]) hx hb dX3_versions_22 hl (k := 3) rfl (rfl) (by decide) rfl (fun ls hl => ?_)
        refine lv_iinc (v := nI (k + 1)) (lv' := [(4, .int (nI (k + 1))), (3, .int (x + 1)), (0, .ref (a 1)), (1, .int (nI i)), (2, .int (nI (i + n)))]) hx hb dX3_versions_25 hl (k := 4) rfl (zinc k 1) (by decide) rfl (fun ls hl => ?_)
        refine lv_goto (tgt := 5) hx hb dX3_versions_28 (by decide) ?_
        exact ih (k + 1) (x + 1) ls (by omega) (by first | exact j2.trans (zcnt_t (by simp [c_8_3, c_19_4])) | exact j2.trans (zcnt_f (by simp [c_8_3, c_19_4]))) (lv_sub hl [2, 3, 4, 1, 0] rfl)
  exact loop_0 n i 0 ls (by omega) (by rfl) (lv_sub hl [2, 3, 4, 1, 0] rfl)
set_option maxHeartbeats 4000000 in
set_option maxRecDepth 100000 in
theorem c_X3_versionsSeen (l : Launch) (D : va_G) (ca : Nat → ClassId) (a : Nat → Nat) (T : zTb) (i n : Nat) (hi : i + n ≤ 24) (t : Int32) : zMr l yX3_versionsSeen cX3_versionsSeen 6 (some .int) 1 22 D ca [(a 1, .inr (3, [.ref (a 2), .ref (a 3), .ref (a 4), .ref (a 5), .int T.2.2.2.2.1, .int T.2.2.2.2.2])), (a 2, .inl (ca 0, 24, .inl T.1)), (a 3, .inl (ca 0, 24, .inl T.2.1)), (a 4, .inl (ca 0, 24, .inl T.2.2.1)), (a 5, .inl (ca 0, 6, .inl T.2.2.2.1))] [.ref (a 1), .int (nI i), .int (nI (i + n)), .int t] (.int (zVn T n i t)) := by
  refine zMr_of (own := RX3) (by decide) rfl (Nat.le_of_ble_eq_true rfl) ?_
  intro p e s m args below meth c ls S hr hlk hP hK hl
  have hx := S.1
  have hb := S.2.1
  have hl : lv_has ls 6 [(0, .ref (a 1)), (1, .int (nI i)), (2, .int (nI (i + n))), (3, .int t)] := hl
  refine lv_iconst (v := 0) hx hb dX3_versionsSeen_0 (by decide) ?_
  refine lv_istore (lv' := [(4, .int 0), (0, .ref (a 1)), (1, .int (nI i)), (2, .int (nI (i + n))), (3, .int t)]) hx hb dX3_versionsSeen_1 hl (by decide) rfl (fun ls hl => ?_)
  refine lv_iload_n hx hb dX3_versionsSeen_3 rfl (lv_at hl 2 rfl) ?_
  refine lv_istore (lv' := [(5, .int (nI i)), (4, .int 0), (0, .ref (a 1)), (1, .int (nI i)), (2, .int (nI (i + n))), (3, .int t)]) hx hb dX3_versionsSeen_4 hl (by decide) rfl (fun ls hl => ?_)
  have loop_0 : ∀ (f : Nat) (k : Nat) (x : Int32) (ls : Array Slot), k + f = i + n → zcnt (fun k => zSeen T k t) n i 0 = zcnt (fun k => zSeen T k t) f k x → lv_has ls 6 [(0, .ref (a 1)), (1, .int (nI i)), (2, .int (nI (i + n))), (3, .int t), (4, .int x), (5, .int (nI k))] → W p l e { frames := 1, cells := 0, slots := 0, locals := 22 } s m args below meth c s.heap [] 0 0 (MQ below (zQr (.int (zVn T n i t))) args s 0 0 (fun _ => False)) (F0 m 6 ls []) := by
    intro f
    induction f with
    | zero =>
      intro k x ls j1 j2 hl
      refine lv_iload hx hb dX3_versionsSeen_6 (lv_at hl 5 rfl) ?_
      refine lv_iload_n hx hb dX3_versionsSeen_8 rfl (lv_at hl 2 rfl) ?_
      refine zn_ge hx hb (x := k) (y := i + n) (by omega) (by omega) (tgt := 31) dX3_versionsSeen_9 (by decide) (fun c_9_2 => ?_) (fun h => False.elim (by omega))
      refine lv_iload hx hb dX3_versionsSeen_31 (lv_at hl 4 rfl) ?_
      exact zr_i hx hb hr hlk (by exact j2.symm) dX3_versionsSeen_33
    | succ f ih =>
      intro k x ls j1 j2 hl
      refine lv_iload hx hb dX3_versionsSeen_6 (lv_at hl 5 rfl) ?_
      refine lv_iload_n hx hb dX3_versionsSeen_8 rfl (lv_at hl 2 rfl) ?_
      refine zn_ge hx hb (x := k) (y := i + n) (by omega) (by omega) (tgt := 31) dX3_versionsSeen_9 (by decide) (fun h => False.elim (by omega)) (fun c_9_3 => ?_)
      refine lv_aload_n hx hb dX3_versionsSeen_12 rfl (lv_at hl 0 rfl) ?_
      refine lv_iload hx hb dX3_versionsSeen_13 (lv_at hl 5 rfl) ?_
      refine lv_iload_n hx hb dX3_versionsSeen_15 rfl (lv_at hl 3 rfl) ?_
      refine zcr (As := [.int (nI k), .int t]) (rest := []) (q0 := 0) S (c_X3_isSeen l D ca a T k (by omega) t) ml_X3_43 zy_X3_isSeen im_X3_isSeen se_X3_isSeen ⟨Nat.le_of_ble_eq_true rfl, Nat.le_of_ble_eq_true rfl⟩ hK hP [0, 1, 2, 3, 4] rfl rfl rfl rfl rfl hl.1 rfl (Nat.le_of_ble_eq_true rfl) ⟨Nat.zero_le _, Nat.zero_le _⟩ dX3_versionsSeen_16 ?_
      refine zz_eq (tgt := 25) hx hb dX3_versionsSeen_19 (by decide) (fun c_19_4 => ?_) (fun c_19_4 => ?_)
      · refine lv_iinc (v := nI (k + 1)) (lv' := [(5, .int (nI (k + 1))), (0, .ref (a 1)), (1, .int (nI i)), (2, .int (nI (i + n))), (3, .int t), (4, .int x)]) hx hb dX3_versionsSeen_25 hl (k := 5) rfl (zinc k 1) (by decide) rfl (fun ls hl => ?_)
        refine lv_goto (tgt := 6) hx hb dX3_versionsSeen_28 (by decide) ?_
        exact ih (k + 1) x ls (by omega) (by first | exact j2.trans (zcnt_t (by simp [c_9_3, c_19_4])) | exact j2.trans (zcnt_f (by simp [c_9_3, c_19_4]))) (lv_sub hl [1, 2, 3, 4, 5, 0] rfl)
      · refine lv_iinc (v := x + 1) (lv' := [(4, .int (x + 1)), (0, .ref (a 1)), (1, .int (nI i)), (2, .int (nI (i + n))), (3, .int t), (5, .int (nI k))]) hx hb dX3_versionsSeen_22 hl (k := 4) rfl (rfl) (by decide) rfl (fun ls hl => ?_)
        refine lv_iinc (v := nI (k + 1)) (lv' := [(5, .int (nI (k + 1))), (4, .int (x + 1)), (0, .ref (a 1)), (1, .int (nI i)), (2, .int (nI (i + n))), (3, .int t)]) hx hb dX3_versionsSeen_25 hl (k := 5) rfl (zinc k 1) (by decide) rfl (fun ls hl => ?_)
        refine lv_goto (tgt := 6) hx hb dX3_versionsSeen_28 (by decide) ?_
        exact ih (k + 1) (x + 1) ls (by omega) (by first | exact j2.trans (zcnt_t (by simp [c_9_3, c_19_4])) | exact j2.trans (zcnt_f (by simp [c_9_3, c_19_4]))) (lv_sub hl [2, 3, 4, 5, 1, 0] rfl)
  exact loop_0 n i 0 ls (by omega) (by rfl) (lv_sub hl [2, 3, 4, 5, 1, 0] rfl)
set_option maxHeartbeats 4000000 in
set_option maxRecDepth 100000 in
theorem c_X3_versionsToTakeOut (l : Launch) (D : va_G) (ca : Nat → ClassId) (a : Nat → Nat) (T : zTb) (i n : Nat) (hi : i + n ≤ 24) (t : Int32) : zMr l yX3_versionsToTakeOut cX3_versionsToTakeOut 6 (some .int) 1 22 D ca [(a 1, .inr (3, [.ref (a 2), .ref (a 3), .ref (a 4), .ref (a 5), .int T.2.2.2.2.1, .int T.2.2.2.2.2])), (a 2, .inl (ca 0, 24, .inl T.1)), (a 3, .inl (ca 0, 24, .inl T.2.1)), (a 4, .inl (ca 0, 24, .inl T.2.2.1)), (a 5, .inl (ca 0, 6, .inl T.2.2.2.1))] [.ref (a 1), .int (nI i), .int (nI (i + n)), .int t] (.int (zVo T n i t)) := by
  refine zMr_of (own := RX3) (by decide) rfl (Nat.le_of_ble_eq_true rfl) ?_
  intro p e s m args below meth c ls S hr hlk hP hK hl
  have hx := S.1
  have hb := S.2.1
  have hl : lv_has ls 6 [(0, .ref (a 1)), (1, .int (nI i)), (2, .int (nI (i + n))), (3, .int t)] := hl
  refine lv_iconst (v := 0) hx hb dX3_versionsToTakeOut_0 (by decide) ?_
  refine lv_istore (lv' := [(4, .int 0), (0, .ref (a 1)), (1, .int (nI i)), (2, .int (nI (i + n))), (3, .int t)]) hx hb dX3_versionsToTakeOut_1 hl (by decide) rfl (fun ls hl => ?_)
  refine lv_iload_n hx hb dX3_versionsToTakeOut_3 rfl (lv_at hl 2 rfl) ?_
  refine lv_istore (lv' := [(5, .int (nI i)), (4, .int 0), (0, .ref (a 1)), (1, .int (nI i)), (2, .int (nI (i + n))), (3, .int t)]) hx hb dX3_versionsToTakeOut_4 hl (by decide) rfl (fun ls hl => ?_)
  have loop_0 : ∀ (f : Nat) (k : Nat) (x : Int32) (ls : Array Slot), k + f = i + n → zcnt (fun k => zOut T k t) n i 0 = zcnt (fun k => zOut T k t) f k x → lv_has ls 6 [(0, .ref (a 1)), (1, .int (nI i)), (2, .int (nI (i + n))), (3, .int t), (4, .int x), (5, .int (nI k))] → W p l e { frames := 1, cells := 0, slots := 0, locals := 22 } s m args below meth c s.heap [] 0 0 (MQ below (zQr (.int (zVo T n i t))) args s 0 0 (fun _ => False)) (F0 m 6 ls []) := by
    intro f
    induction f with
    | zero =>
      intro k x ls j1 j2 hl
      refine lv_iload hx hb dX3_versionsToTakeOut_6 (lv_at hl 5 rfl) ?_
      refine lv_iload_n hx hb dX3_versionsToTakeOut_8 rfl (lv_at hl 2 rfl) ?_
      refine zn_ge hx hb (x := k) (y := i + n) (by omega) (by omega) (tgt := 31) dX3_versionsToTakeOut_9 (by decide) (fun c_9_2 => ?_) (fun h => False.elim (by omega))
      refine lv_iload hx hb dX3_versionsToTakeOut_31 (lv_at hl 4 rfl) ?_
      exact zr_i hx hb hr hlk (by exact j2.symm) dX3_versionsToTakeOut_33
    | succ f ih =>
      intro k x ls j1 j2 hl
      refine lv_iload hx hb dX3_versionsToTakeOut_6 (lv_at hl 5 rfl) ?_
      refine lv_iload_n hx hb dX3_versionsToTakeOut_8 rfl (lv_at hl 2 rfl) ?_
      refine zn_ge hx hb (x := k) (y := i + n) (by omega) (by omega) (tgt := 31) dX3_versionsToTakeOut_9 (by decide) (fun h => False.elim (by omega)) (fun c_9_3 => ?_)
      refine lv_aload_n hx hb dX3_versionsToTakeOut_12 rfl (lv_at hl 0 rfl) ?_
      refine lv_iload hx hb dX3_versionsToTakeOut_13 (lv_at hl 5 rfl) ?_
      refine lv_iload_n hx hb dX3_versionsToTakeOut_15 rfl (lv_at hl 3 rfl) ?_
      refine zcr (As := [.int (nI k), .int t]) (rest := []) (q0 := 0) S (c_X3_isToTakeOut l D ca a T k (by omega) t) ml_X3_63 zy_X3_isToTakeOut im_X3_isToTakeOut se_X3_isToTakeOut ⟨Nat.le_of_ble_eq_true rfl, Nat.le_of_ble_eq_true rfl⟩ hK hP [0, 1, 2, 3, 4] rfl rfl rfl rfl rfl hl.1 rfl (Nat.le_of_ble_eq_true rfl) ⟨Nat.zero_le _, Nat.zero_le _⟩ dX3_versionsToTakeOut_16 ?_
      refine zz_eq (tgt := 25) hx hb dX3_versionsToTakeOut_19 (by decide) (fun c_19_4 => ?_) (fun c_19_4 => ?_)
      · refine lv_iinc (v := nI (k + 1)) (lv' := [(5, .int (nI (k + 1))), (0, .ref (a 1)), (1, .int (nI i)), (2, .int (nI (i + n))), (3, .int t), (4, .int x)]) hx hb dX3_versionsToTakeOut_25 hl (k := 5) rfl (zinc k 1) (by decide) rfl (fun ls hl => ?_)
        refine lv_goto (tgt := 6) hx hb dX3_versionsToTakeOut_28 (by decide) ?_
        exact ih (k + 1) x ls (by omega) (by first | exact j2.trans (zcnt_t (by simp [c_9_3, c_19_4])) | exact j2.trans (zcnt_f (by simp [c_9_3, c_19_4]))) (lv_sub hl [1, 2, 3, 4, 5, 0] rfl)
      · refine lv_iinc (v := x + 1) (lv' := [(4, .int (x + 1)), (0, .ref (a 1)), (1, .int (nI i)), (2, .int (nI (i + n))), (3, .int t), (5, .int (nI k))]) hx hb dX3_versionsToTakeOut_22 hl (k := 4) rfl (rfl) (by decide) rfl (fun ls hl => ?_)
        refine lv_iinc (v := nI (k + 1)) (lv' := [(5, .int (nI (k + 1))), (4, .int (x + 1)), (0, .ref (a 1)), (1, .int (nI i)), (2, .int (nI (i + n))), (3, .int t)]) hx hb dX3_versionsToTakeOut_25 hl (k := 5) rfl (zinc k 1) (by decide) rfl (fun ls hl => ?_)
        refine lv_goto (tgt := 6) hx hb dX3_versionsToTakeOut_28 (by decide) ?_
        exact ih (k + 1) (x + 1) ls (by omega) (by first | exact j2.trans (zcnt_t (by simp [c_9_3, c_19_4])) | exact j2.trans (zcnt_f (by simp [c_9_3, c_19_4]))) (lv_sub hl [2, 3, 4, 5, 1, 0] rfl)
  exact loop_0 n i 0 ls (by omega) (by rfl) (lv_sub hl [2, 3, 4, 5, 1, 0] rfl)
set_option maxHeartbeats 4000000 in
set_option maxRecDepth 100000 in
theorem c_X3_markedPages (l : Launch) (D : va_G) (ca : Nat → ClassId) (a : Nat → Nat) (T : zTb) : zMr l yX3_markedPages cX3_markedPages 3 (some .int) 1 21 D ca [(a 1, .inr (3, [.ref (a 2), .ref (a 3), .ref (a 4), .ref (a 5), .int T.2.2.2.2.1, .int T.2.2.2.2.2])), (a 2, .inl (ca 0, 24, .inl T.1)), (a 3, .inl (ca 0, 24, .inl T.2.1)), (a 4, .inl (ca 0, 24, .inl T.2.2.1)), (a 5, .inl (ca 0, 6, .inl T.2.2.2.1))] [.ref (a 1)] (.int (zMp T)) := by
  refine zMr_of (own := RX3) (by decide) rfl (Nat.le_of_ble_eq_true rfl) ?_
  intro p e s m args below meth c ls S hr hlk hP hK hl
  have hx := S.1
  have hb := S.2.1
  have hl : lv_has ls 3 [(0, .ref (a 1))] := hl
  refine lv_iconst (v := 0) hx hb dX3_markedPages_0 (by decide) ?_
  refine lv_istore_n (lv' := [(1, .int 0), (0, .ref (a 1))]) hx hb dX3_markedPages_1 rfl hl (by decide) rfl (fun ls hl => ?_)
  refine lv_iconst (v := 0) hx hb dX3_markedPages_2 (by decide) ?_
  refine lv_istore_n (lv' := [(2, .int 0), (1, .int 0), (0, .ref (a 1))]) hx hb dX3_markedPages_3 rfl hl (by decide) rfl (fun ls hl => ?_)
  have loop_0 : ∀ (f : Nat) (k : Nat) (x : Int32) (ls : Array Slot), k + f = 6 → zcnt (zMk T) 6 0 0 = zcnt (zMk T) f k x → lv_has ls 3 [(0, .ref (a 1)), (1, .int x), (2, .int (nI k))] → W p l e { frames := 1, cells := 0, slots := 0, locals := 21 } s m args below meth c s.heap [] 0 0 (MQ below (zQr (.int (zMp T))) args s 0 0 (fun _ => False)) (F0 m 4 ls []) := by
    intro f
    induction f with
    | zero =>
      intro k x ls j1 j2 hl
      refine lv_iload_n hx hb dX3_markedPages_4 rfl (lv_at hl 2 rfl) ?_
      refine lv_bipush (v := 6) hx hb dX3_markedPages_5 (by decide) ?_
      refine zn_ge hx hb (x := k) (y := 6) (by omega) (by omega) (tgt := 27) dX3_markedPages_7 (by decide) (fun c_7_2 => ?_) (fun h => False.elim (by omega))
      refine lv_iload_n hx hb dX3_markedPages_27 rfl (lv_at hl 1 rfl) ?_
      exact zr_i hx hb hr hlk (by exact j2.symm) dX3_markedPages_28
    | succ f ih =>
      intro k x ls j1 j2 hl
      refine lv_iload_n hx hb dX3_markedPages_4 rfl (lv_at hl 2 rfl) ?_
      refine lv_bipush (v := 6) hx hb dX3_markedPages_5 (by decide) ?_
      refine zn_ge hx hb (x := k) (y := 6) (by omega) (by omega) (tgt := 27) dX3_markedPages_7 (by decide) (fun h => False.elim (by omega)) (fun c_7_3 => ?_)
      refine lv_aload_n hx hb dX3_markedPages_10 rfl (lv_at hl 0 rfl) ?_
      refine lv_iload_n hx hb dX3_markedPages_11 rfl (lv_at hl 2 rfl) ?_
      refine zcr (As := [.int (nI k)]) (rest := []) (q0 := 0) S (c_X3_isMarked l D ca a T k (by omega)) ml_X3_72 zy_X3_isMarked im_X3_isMarked se_X3_isMarked ⟨Nat.le_of_ble_eq_true rfl, Nat.le_of_ble_eq_true rfl⟩ hK hP [0, 1, 2, 3, 4] rfl rfl rfl rfl rfl hl.1 rfl (Nat.le_of_ble_eq_true rfl) ⟨Nat.zero_le _, Nat.zero_le _⟩ dX3_markedPages_12 ?_
      refine zz_eq (tgt := 21) hx hb dX3_markedPages_15 (by decide) (fun c_15_4 => ?_) (fun c_15_4 => ?_)
      · refine lv_iinc (v := nI (k + 1)) (lv' := [(2, .int (nI (k + 1))), (0, .ref (a 1)), (1, .int x)]) hx hb dX3_markedPages_21 hl (k := 2) rfl (zinc k 1) (by decide) rfl (fun ls hl => ?_)
        refine lv_goto (tgt := 4) hx hb dX3_markedPages_24 (by decide) ?_
        exact ih (k + 1) x ls (by omega) (by first | exact j2.trans (zcnt_t (by simp [c_7_3, c_15_4])) | exact j2.trans (zcnt_f (by simp [c_7_3, c_15_4]))) (lv_sub hl [1, 2, 0] rfl)
      · refine lv_iinc (v := x + 1) (lv' := [(1, .int (x + 1)), (0, .ref (a 1)), (2, .int (nI k))]) hx hb dX3_markedPages_18 hl (k := 1) rfl (rfl) (by decide) rfl (fun ls hl => ?_)
        refine lv_iinc (v := nI (k + 1)) (lv' := [(2, .int (nI (k + 1))), (1, .int (x + 1)), (0, .ref (a 1))]) hx hb dX3_markedPages_21 hl (k := 2) rfl (zinc k 1) (by decide) rfl (fun ls hl => ?_)
        refine lv_goto (tgt := 4) hx hb dX3_markedPages_24 (by decide) ?_
        exact ih (k + 1) (x + 1) ls (by omega) (by first | exact j2.trans (zcnt_t (by simp [c_7_3, c_15_4])) | exact j2.trans (zcnt_f (by simp [c_7_3, c_15_4]))) (lv_sub hl [2, 1, 0] rfl)
  exact loop_0 6 0 0 ls (by omega) (by rfl) (lv_sub hl [2, 1, 0] rfl)
set_option maxHeartbeats 4000000 in
set_option maxRecDepth 100000 in
theorem c_X3_mayTrustMarks (l : Launch) (D : va_G) (ca : Nat → ClassId) (a : Nat → Nat) (T : zTb) (t : Int32) : zMr l yX3_mayTrustMarks cX3_mayTrustMarks 3 (some .boolean) 0 0 D ca [(a 1, .inr (3, [.ref (a 2), .ref (a 3), .ref (a 4), .ref (a 5), .int T.2.2.2.2.1, .int T.2.2.2.2.2])), (a 2, .inl (ca 0, 24, .inl T.1)), (a 3, .inl (ca 0, 24, .inl T.2.1)), (a 4, .inl (ca 0, 24, .inl T.2.2.1)), (a 5, .inl (ca 0, 6, .inl T.2.2.2.1))] [.ref (a 1), .int t] (.int (zb (zTr T t))) := by
  refine zMr_of (own := RX3) (by decide) rfl (Nat.le_of_ble_eq_true rfl) ?_
  intro p e s m args below meth c ls S hr hlk hP hK hl
  have hx := S.1
  have hb := S.2.1
  have hl : lv_has ls 3 [(0, .ref (a 1)), (1, .int t)] := hl
  refine lv_iconst (v := 0) hx hb dX3_mayTrustMarks_0 (by decide) ?_
  refine lv_istore_n (lv' := [(2, .int 0), (0, .ref (a 1)), (1, .int t)]) hx hb dX3_mayTrustMarks_1 rfl hl (by decide) rfl (fun ls hl => ?_)
  have loop_0 : ∀ (f : Nat) (k : Nat) (ls : Array Slot), k + f = 6 → zTr T t = zall (fun p => decide (T.2.2.2.1 p ≤ t)) f k → lv_has ls 3 [(0, .ref (a 1)), (1, .int t), (2, .int (nI k))] → W p l e { frames := 0, cells := 0, slots := 0, locals := 0 } s m args below meth c s.heap [] 0 0 (MQ below (zQr (.int (zb (zTr T t)))) args s 0 0 (fun _ => False)) (F0 m 2 ls []) := by
    intro f
    induction f with
    | zero =>
      intro k ls j1 j2 hl
      refine lv_iload_n hx hb dX3_mayTrustMarks_2 rfl (lv_at hl 2 rfl) ?_
      refine lv_bipush (v := 6) hx hb dX3_mayTrustMarks_3 (by decide) ?_
      refine zn_ge hx hb (x := k) (y := 6) (by omega) (by omega) (tgt := 26) dX3_mayTrustMarks_5 (by decide) (fun c_5_2 => ?_) (fun h => False.elim (by omega))
      refine lv_iconst (v := 1) hx hb dX3_mayTrustMarks_26 (by decide) ?_
      exact zr_z hx hb hr hlk (by rw [j2]; rfl) dX3_mayTrustMarks_27
    | succ f ih =>
      intro k ls j1 j2 hl
      refine lv_iload_n hx hb dX3_mayTrustMarks_2 rfl (lv_at hl 2 rfl) ?_
      refine lv_bipush (v := 6) hx hb dX3_mayTrustMarks_3 (by decide) ?_
      refine zn_ge hx hb (x := k) (y := 6) (by omega) (by omega) (tgt := 26) dX3_mayTrustMarks_5 (by decide) (fun h => False.elim (by omega)) (fun c_5_3 => ?_)
      refine lv_aload_n hx hb dX3_mayTrustMarks_8 rfl (lv_at hl 0 rfl) ?_
      refine z_get S in_lay_X3 hK hP rfl 0 rfl 3 (by decide) fl_X3_21 rfl rfl dX3_mayTrustMarks_9 ?_
      refine lv_iload_n hx hb dX3_mayTrustMarks_12 rfl (lv_at hl 2 rfl) ?_
      refine z_iald S hK hP 4 rfl (j := k) (by omega) (by decide) dX3_mayTrustMarks_13 ?_
      refine lv_iload_n hx hb dX3_mayTrustMarks_14 rfl (lv_at hl 1 rfl) ?_
      refine lv_icmp_le (tgt := 20) hx hb dX3_mayTrustMarks_15 (by decide) (fun c_15_4 => ?_) (fun c_15_4 => ?_)
      · refine lv_iinc (v := nI (k + 1)) (lv' := [(2, .int (nI (k + 1))), (0, .ref (a 1)), (1, .int t)]) hx hb dX3_mayTrustMarks_20 hl (k := 2) rfl (zinc k 1) (by decide) rfl (fun ls hl => ?_)
        refine lv_goto (tgt := 2) hx hb dX3_mayTrustMarks_23 (by decide) ?_
        exact ih (k + 1) ls (by omega) (by exact j2.trans (zall_t (by simp [c_5_3, c_15_4]))) (lv_sub hl [1, 2, 0] rfl)
      · refine lv_iconst (v := 0) hx hb dX3_mayTrustMarks_18 (by decide) ?_
        exact zr_z hx hb hr hlk (by rw [j2.trans (zall_f (by simp [c_5_3, c_15_4]))]; rfl) dX3_mayTrustMarks_19
  exact loop_0 6 0 ls (by omega) (by rfl) (lv_sub hl [1, 2, 0] rfl)
set_option maxHeartbeats 4000000 in
set_option maxRecDepth 100000 in
theorem c_X3_answer (l : Launch) (D : va_G) (ca : Nat → ClassId) (a : Nat → Nat) (T : zTb) (t v : Int32) (w : Nat) (hw : w < 3) : zMr l yX3_answer cX3_answer 7 (some .int) 1 22 D ca [(a 1, .inr (3, [.ref (a 2), .ref (a 3), .ref (a 4), .ref (a 5), .int T.2.2.2.2.1, .int T.2.2.2.2.2])), (a 2, .inl (ca 0, 24, .inl T.1)), (a 3, .inl (ca 0, 24, .inl T.2.1)), (a 4, .inl (ca 0, 24, .inl T.2.2.1)), (a 5, .inl (ca 0, 6, .inl T.2.2.2.1))] [.ref (a 1), .int t, .int v, .int (nI w)] (.int (zAns T t v w)) := by
  refine zMr_of (own := RX3) (by decide) rfl (Nat.le_of_ble_eq_true rfl) ?_
  intro p e s m args below meth c ls S hr hlk hP hK hl
  have hx := S.1
  have hb := S.2.1
  have hl : lv_has ls 7 [(0, .ref (a 1)), (1, .int t), (2, .int v), (3, .int (nI w))] := hl
  have cut_18_0 : W p l e { frames := 1, cells := 0, slots := 0, locals := 22 } s m args below meth c s.heap [] 0 0 (MQ below (zQr (.int (zAns T t v w))) args s 0 0 (fun _ => False)) (F0 m 18 ls [.int (zb (zBm T t w))]) := by
    refine lv_istore (lv' := [(4, .int (zb (zBm T t w))), (0, .ref (a 1)), (1, .int t), (2, .int v), (3, .int (nI w))]) hx hb dX3_answer_18 hl (by decide) rfl (fun ls hl => ?_)
    refine lv_iconst (v := 0) hx hb dX3_answer_20 (by decide) ?_
    refine lv_istore (lv' := [(5, .int 0), (4, .int (zb (zBm T t w))), (0, .ref (a 1)), (1, .int t), (2, .int v), (3, .int (nI w))]) hx hb dX3_answer_21 hl (by decide) rfl (fun ls hl => ?_)
    refine lv_iconst (v := 0) hx hb dX3_answer_23 (by decide) ?_
    refine lv_istore (lv' := [(6, .int 0), (5, .int 0), (4, .int (zb (zBm T t w))), (0, .ref (a 1)), (1, .int t), (2, .int v), (3, .int (nI w))]) hx hb dX3_answer_24 hl (by decide) rfl (fun ls hl => ?_)
    have loop_1 : ∀ (f : Nat) (k : Nat) (x : Int32) (ls : Array Slot), k + f = 24 → zcnt (fun k => decide (T.1 k = v) && ((zBm T t w && zMk T (k / 4)) || zSeen T k t)) 24 0 0 = zcnt (fun k => decide (T.1 k = v) && ((zBm T t w && zMk T (k / 4)) || zSeen T k t)) f k x → lv_has ls 7 [(0, .ref (a 1)), (1, .int t), (2, .int v), (3, .int (nI w)), (4, .int (zb (zBm T t w))), (5, .int x), (6, .int (nI k))] → W p l e { frames := 1, cells := 0, slots := 0, locals := 22 } s m args below meth c s.heap [] 0 0 (MQ below (zQr (.int (zAns T t v w))) args s 0 0 (fun _ => False)) (F0 m 26 ls []) := by
      intro f
      induction f with
      | zero =>
        intro k x ls j1 j2 hl
        refine lv_iload hx hb dX3_answer_26 (lv_at hl 6 rfl) ?_
        refine lv_bipush (v := 24) hx hb dX3_answer_28 (by decide) ?_
        refine zn_ge hx hb (x := k) (y := 24) (by omega) (by omega) (tgt := 82) dX3_answer_30 (by decide) (fun c_30_3 => ?_) (fun h => False.elim (by omega))
        refine lv_iload hx hb dX3_answer_82 (lv_at hl 5 rfl) ?_
        exact zr_i hx hb hr hlk (by exact j2.symm) dX3_answer_84
      | succ f ih =>
        intro k x ls j1 j2 hl
        refine lv_iload hx hb dX3_answer_26 (lv_at hl 6 rfl) ?_
        refine lv_bipush (v := 24) hx hb dX3_answer_28 (by decide) ?_
        refine zn_ge hx hb (x := k) (y := 24) (by omega) (by omega) (tgt := 82) dX3_answer_30 (by decide) (fun h => False.elim (by omega)) (fun c_30_4 => ?_)
        refine lv_aload_n hx hb dX3_answer_33 rfl (lv_at hl 0 rfl) ?_
        refine z_get S in_lay_X3 hK hP rfl 0 rfl 0 (by decide) fl_X3_9 rfl rfl dX3_answer_34 ?_
        refine lv_iload hx hb dX3_answer_37 (lv_at hl 6 rfl) ?_
        refine z_iald S hK hP 1 rfl (j := k) (by omega) (by decide) dX3_answer_39 ?_
        refine lv_iload_n hx hb dX3_answer_40 rfl (lv_at hl 2 rfl) ?_
        refine lv_icmp_eq (tgt := 47) hx hb dX3_answer_41 (by decide) (fun c_41_5 => ?_) (fun c_41_5 => ?_)
        · refine lv_iload hx hb dX3_answer_47 (lv_at hl 4 rfl) ?_
          refine zz_eq (tgt := 63) hx hb dX3_answer_49 (by decide) (fun c_49_6 => ?_) (fun c_49_6 => ?_)
          · refine lv_aload_n hx hb dX3_answer_63 rfl (lv_at hl 0 rfl) ?_
            refine lv_iload hx hb dX3_answer_64 (lv_at hl 6 rfl) ?_
            refine lv_iload_n hx hb dX3_answer_66 rfl (lv_at hl 1 rfl) ?_
            refine zcr (As := [.int (nI k), .int t]) (rest := []) (q0 := 0) S (c_X3_isSeen l D ca a T k (by omega) t) ml_X3_43 zy_X3_isSeen im_X3_isSeen se_X3_isSeen ⟨Nat.le_of_ble_eq_true rfl, Nat.le_of_ble_eq_true rfl⟩ hK hP [0, 1, 2, 3, 4] rfl rfl rfl rfl rfl hl.1 rfl (Nat.le_of_ble_eq_true rfl) ⟨Nat.zero_le _, Nat.zero_le _⟩ dX3_answer_67 ?_
            refine zz_eq (tgt := 76) hx hb dX3_answer_70 (by decide) (fun c_70_7 => ?_) (fun c_70_7 => ?_)
            · refine lv_iinc (v := nI (k + 1)) (lv' := [(6, .int (nI (k + 1))), (0, .ref (a 1)), (1, .int t), (2, .int v), (3, .int (nI w)), (4, .int (zb (zBm T t w))), (5, .int x)]) hx hb dX3_answer_76 hl (k := 6) rfl (zinc k 1) (by decide) rfl (fun ls hl => ?_)
              refine lv_goto (tgt := 26) hx hb dX3_answer_79 (by decide) ?_
              exact ih (k + 1) x ls (by omega) (by first | exact j2.trans (zcnt_t (by simp [c_30_4, c_41_5, c_49_6, c_70_7])) | exact j2.trans (zcnt_f (by simp [c_30_4, c_41_5, c_49_6, c_70_7]))) (lv_sub hl [1, 2, 3, 4, 5, 6, 0] rfl)
            · refine lv_iinc (v := x + 1) (lv' := [(5, .int (x + 1)), (0, .ref (a 1)), (1, .int t), (2, .int v), (3, .int (nI w)), (4, .int (zb (zBm T t w))), (6, .int (nI k))]) hx hb dX3_answer_73 hl (k := 5) rfl (rfl) (by decide) rfl (fun ls hl => ?_)
              refine lv_iinc (v := nI (k + 1)) (lv' := [(6, .int (nI (k + 1))), (5, .int (x + 1)), (0, .ref (a 1)), (1, .int t), (2, .int v), (3, .int (nI w)), (4, .int (zb (zBm T t w)))]) hx hb dX3_answer_76 hl (k := 6) rfl (zinc k 1) (by decide) rfl (fun ls hl => ?_)
              refine lv_goto (tgt := 26) hx hb dX3_answer_79 (by decide) ?_
              exact ih (k + 1) (x + 1) ls (by omega) (by first | exact j2.trans (zcnt_t (by simp [c_30_4, c_41_5, c_49_6, c_70_7])) | exact j2.trans (zcnt_f (by simp [c_30_4, c_41_5, c_49_6, c_70_7]))) (lv_sub hl [2, 3, 4, 5, 6, 1, 0] rfl)
          · refine lv_aload_n hx hb dX3_answer_52 rfl (lv_at hl 0 rfl) ?_
            refine lv_iload hx hb dX3_answer_53 (lv_at hl 6 rfl) ?_
            refine lv_iconst (v := 4) hx hb dX3_answer_55 (by decide) ?_
            refine zn_div hx hb (x := k) (y := 4) (z := k / 4) (by omega) (by omega) (by omega) (by first | rfl | omega) dX3_answer_56 ?_
            refine zcr (As := [.int (nI (k / 4))]) (rest := []) (q0 := 0) S (c_X3_isMarked l D ca a T (k / 4) (by omega)) ml_X3_72 zy_X3_isMarked im_X3_isMarked se_X3_isMarked ⟨Nat.le_of_ble_eq_true rfl, Nat.le_of_ble_eq_true rfl⟩ hK hP [0, 1, 2, 3, 4] rfl rfl rfl rfl rfl hl.1 rfl (Nat.le_of_ble_eq_true rfl) ⟨Nat.zero_le _, Nat.zero_le _⟩ dX3_answer_57 ?_
            refine zz_ne (tgt := 73) hx hb dX3_answer_60 (by decide) (fun c_60_8 => ?_) (fun c_60_8 => ?_)
            · refine lv_iinc (v := x + 1) (lv' := [(5, .int (x + 1)), (0, .ref (a 1)), (1, .int t), (2, .int v), (3, .int (nI w)), (4, .int (zb (zBm T t w))), (6, .int (nI k))]) hx hb dX3_answer_73 hl (k := 5) rfl (rfl) (by decide) rfl (fun ls hl => ?_)
              refine lv_iinc (v := nI (k + 1)) (lv' := [(6, .int (nI (k + 1))), (5, .int (x + 1)), (0, .ref (a 1)), (1, .int t), (2, .int v), (3, .int (nI w)), (4, .int (zb (zBm T t w)))]) hx hb dX3_answer_76 hl (k := 6) rfl (zinc k 1) (by decide) rfl (fun ls hl => ?_)
              refine lv_goto (tgt := 26) hx hb dX3_answer_79 (by decide) ?_
              exact ih (k + 1) (x + 1) ls (by omega) (by first | exact j2.trans (zcnt_t (by simp [c_30_4, c_41_5, c_49_6, c_60_8])) | exact j2.trans (zcnt_f (by simp [c_30_4, c_41_5, c_49_6, c_60_8]))) (lv_sub hl [2, 3, 4, 5, 6, 1, 0] rfl)
            · refine lv_aload_n hx hb dX3_answer_63 rfl (lv_at hl 0 rfl) ?_
              refine lv_iload hx hb dX3_answer_64 (lv_at hl 6 rfl) ?_
              refine lv_iload_n hx hb dX3_answer_66 rfl (lv_at hl 1 rfl) ?_
              refine zcr (As := [.int (nI k), .int t]) (rest := []) (q0 := 0) S (c_X3_isSeen l D ca a T k (by omega) t) ml_X3_43 zy_X3_isSeen im_X3_isSeen se_X3_isSeen ⟨Nat.le_of_ble_eq_true rfl, Nat.le_of_ble_eq_true rfl⟩ hK hP [0, 1, 2, 3, 4] rfl rfl rfl rfl rfl hl.1 rfl (Nat.le_of_ble_eq_true rfl) ⟨Nat.zero_le _, Nat.zero_le _⟩ dX3_answer_67 ?_
              refine zz_eq (tgt := 76) hx hb dX3_answer_70 (by decide) (fun c_70_9 => ?_) (fun c_70_9 => ?_)
              · refine lv_iinc (v := nI (k + 1)) (lv' := [(6, .int (nI (k + 1))), (0, .ref (a 1)), (1, .int t), (2, .int v), (3, .int (nI w)), (4, .int (zb (zBm T t w))), (5, .int x)]) hx hb dX3_answer_76 hl (k := 6) rfl (zinc k 1) (by decide) rfl (fun ls hl => ?_)
                refine lv_goto (tgt := 26) hx hb dX3_answer_79 (by decide) ?_
                exact ih (k + 1) x ls (by omega) (by first | exact j2.trans (zcnt_t (by simp [c_30_4, c_41_5, c_49_6, c_60_8, c_70_9])) | exact j2.trans (zcnt_f (by simp [c_30_4, c_41_5, c_49_6, c_60_8, c_70_9]))) (lv_sub hl [1, 2, 3, 4, 5, 6, 0] rfl)
              · refine lv_iinc (v := x + 1) (lv' := [(5, .int (x + 1)), (0, .ref (a 1)), (1, .int t), (2, .int v), (3, .int (nI w)), (4, .int (zb (zBm T t w))), (6, .int (nI k))]) hx hb dX3_answer_73 hl (k := 5) rfl (rfl) (by decide) rfl (fun ls hl => ?_)
                refine lv_iinc (v := nI (k + 1)) (lv' := [(6, .int (nI (k + 1))), (5, .int (x + 1)), (0, .ref (a 1)), (1, .int t), (2, .int v), (3, .int (nI w)), (4, .int (zb (zBm T t w)))]) hx hb dX3_answer_76 hl (k := 6) rfl (zinc k 1) (by decide) rfl (fun ls hl => ?_)
                refine lv_goto (tgt := 26) hx hb dX3_answer_79 (by decide) ?_
                exact ih (k + 1) (x + 1) ls (by omega) (by first | exact j2.trans (zcnt_t (by simp [c_30_4, c_41_5, c_49_6, c_60_8, c_70_9])) | exact j2.trans (zcnt_f (by simp [c_30_4, c_41_5, c_49_6, c_60_8, c_70_9]))) (lv_sub hl [2, 3, 4, 5, 6, 1, 0] rfl)
        · refine lv_goto (tgt := 76) hx hb dX3_answer_44 (by decide) ?_
          refine lv_iinc (v := nI (k + 1)) (lv' := [(6, .int (nI (k + 1))), (0, .ref (a 1)), (1, .int t), (2, .int v), (3, .int (nI w)), (4, .int (zb (zBm T t w))), (5, .int x)]) hx hb dX3_answer_76 hl (k := 6) rfl (zinc k 1) (by decide) rfl (fun ls hl => ?_)
          refine lv_goto (tgt := 26) hx hb dX3_answer_79 (by decide) ?_
          exact ih (k + 1) x ls (by omega) (by first | exact j2.trans (zcnt_t (by simp [c_30_4, c_41_5])) | exact j2.trans (zcnt_f (by simp [c_30_4, c_41_5]))) (lv_sub hl [1, 2, 3, 4, 5, 6, 0] rfl)
    exact loop_1 24 0 0 ls (by omega) (by rfl) (lv_sub hl [3, 4, 5, 6, 2, 1, 0] rfl)
  refine lv_iload_n hx hb dX3_answer_0 rfl (lv_at hl 3 rfl) ?_
  refine lv_iconst (v := 2) hx hb dX3_answer_1 (by decide) ?_
  refine zn_ne hx hb (x := w) (y := 2) (by omega) (by omega) (tgt := 17) dX3_answer_2 (by decide) (fun c_2_10 => ?_) (fun c_2_10 => ?_)
  · refine lv_iconst (v := 0) hx hb dX3_answer_17 (by decide) ?_
    exact W.eq (congrArg (fun z => F0 m 18 ls [.int z]) (by simp [zBm, zb, c_2_10] : (0 : Int32) = zb (zBm T t w))) cut_18_0
  · refine lv_aload_n hx hb dX3_answer_5 rfl (lv_at hl 0 rfl) ?_
    refine lv_iload_n hx hb dX3_answer_6 rfl (lv_at hl 1 rfl) ?_
    refine zcr (As := [.int t]) (rest := []) (q0 := 0) S (c_X3_mayTrustMarks l D ca a T t) ml_X3_75 zy_X3_mayTrustMarks im_X3_mayTrustMarks se_X3_mayTrustMarks ⟨Nat.le_of_ble_eq_true rfl, Nat.le_of_ble_eq_true rfl⟩ hK hP [0, 1, 2, 3, 4] rfl rfl rfl rfl rfl hl.1 rfl (Nat.le_of_ble_eq_true rfl) ⟨Nat.zero_le _, Nat.zero_le _⟩ dX3_answer_7 ?_
    refine zz_eq (tgt := 17) hx hb dX3_answer_10 (by decide) (fun c_10_11 => ?_) (fun c_10_11 => ?_)
    · refine lv_iconst (v := 0) hx hb dX3_answer_17 (by decide) ?_
      exact W.eq (congrArg (fun z => F0 m 18 ls [.int z]) (by simp [zBm, zb, c_2_10, c_10_11] : (0 : Int32) = zb (zBm T t w))) cut_18_0
    · refine lv_iconst (v := 1) hx hb dX3_answer_13 (by decide) ?_
      refine lv_goto (tgt := 18) hx hb dX3_answer_14 (by decide) ?_
      exact W.eq (congrArg (fun z => F0 m 18 ls [.int z]) (by simp [zBm, zb, c_2_10, c_10_11] : (1 : Int32) = zb (zBm T t w))) cut_18_0
set_option maxHeartbeats 4000000 in
set_option maxRecDepth 100000 in
theorem c_X3_indexHas (l : Launch) (D : va_G) (ca : Nat → ClassId) (a : Nat → Nat) (T : zTb) (p0 : Nat) (hp : p0 < 6) (v : Int32) : zMr l yX3_indexHas cX3_indexHas 5 (some .boolean) 0 0 D ca [(a 1, .inr (3, [.ref (a 2), .ref (a 3), .ref (a 4), .ref (a 5), .int T.2.2.2.2.1, .int T.2.2.2.2.2])), (a 2, .inl (ca 0, 24, .inl T.1)), (a 3, .inl (ca 0, 24, .inl T.2.1)), (a 4, .inl (ca 0, 24, .inl T.2.2.1)), (a 5, .inl (ca 0, 6, .inl T.2.2.2.1))] [.ref (a 1), .int (nI p0), .int v] (.int (zb (zHas T p0 v))) := by
  refine zMr_of (own := RX3) (by decide) rfl (Nat.le_of_ble_eq_true rfl) ?_
  intro p e s m args below meth c ls S hr hlk hP hK hl
  have hx := S.1
  have hb := S.2.1
  have hl : lv_has ls 5 [(0, .ref (a 1)), (1, .int (nI p0)), (2, .int v)] := hl
  refine lv_iload_n hx hb dX3_indexHas_0 rfl (lv_at hl 1 rfl) ?_
  refine lv_iconst (v := 4) hx hb dX3_indexHas_1 (by decide) ?_
  refine zn_mul hx hb (x := p0) (y := 4) (z := p0 * 4) (by first | rfl | omega) dX3_indexHas_2 ?_
  refine lv_istore_n (lv' := [(3, .int (nI (p0 * 4))), (0, .ref (a 1)), (1, .int (nI p0)), (2, .int v)]) hx hb dX3_indexHas_3 rfl hl (by decide) rfl (fun ls hl => ?_)
  refine lv_iload_n hx hb dX3_indexHas_4 rfl (lv_at hl 0 rfl) ?_
  refine lv_istore (lv' := [(4, .int (nI (p0 * 4))), (3, .int (nI (p0 * 4))), (0, .ref (a 1)), (1, .int (nI p0)), (2, .int v)]) hx hb dX3_indexHas_5 hl (by decide) rfl (fun ls hl => ?_)
  have loop_0 : ∀ (f : Nat) (k : Nat) (ls : Array Slot), k + f = p0 * 4 + 4 → zHas T p0 v = zany (fun k => decide (T.1 k = v)) f k → lv_has ls 5 [(0, .ref (a 1)), (1, .int (nI p0)), (2, .int v), (3, .int (nI (p0 * 4))), (4, .int (nI k))] → W p l e { frames := 0, cells := 0, slots := 0, locals := 0 } s m args below meth c s.heap [] 0 0 (MQ below (zQr (.int (zb (zHas T p0 v)))) args s 0 0 (fun _ => False)) (F0 m 7 ls []) := by
    intro f
    induction f with
    | zero =>
      intro k ls j1 j2 hl
      refine lv_iload hx hb dX3_indexHas_7 (lv_at hl 4 rfl) ?_
      refine lv_iload_n hx hb dX3_indexHas_9 rfl (lv_at hl 3 rfl) ?_
      refine lv_iconst (v := 4) hx hb dX3_indexHas_10 (by decide) ?_
      refine zn_add hx hb (x := p0 * 4) (y := 4) (z := (p0 * 4) + 4) (by omega) dX3_indexHas_11 ?_
      refine zn_ge hx hb (x := k) (y := (p0 * 4) + 4) (by omega) (by omega) (tgt := 34) dX3_indexHas_12 (by decide) (fun c_12_2 => ?_) (fun h => False.elim (by omega))
      refine lv_iconst (v := 0) hx hb dX3_indexHas_34 (by decide) ?_
      exact zr_z hx hb hr hlk (by rw [j2]; rfl) dX3_indexHas_35
    | succ f ih =>
      intro k ls j1 j2 hl
      refine lv_iload hx hb dX3_indexHas_7 (lv_at hl 4 rfl) ?_
      refine lv_iload_n hx hb dX3_indexHas_9 rfl (lv_at hl 3 rfl) ?_
      refine lv_iconst (v := 4) hx hb dX3_indexHas_10 (by decide) ?_
      refine zn_add hx hb (x := p0 * 4) (y := 4) (z := (p0 * 4) + 4) (by omega) dX3_indexHas_11 ?_
      refine zn_ge hx hb (x := k) (y := (p0 * 4) + 4) (by omega) (by omega) (tgt := 34) dX3_indexHas_12 (by decide) (fun h => False.elim (by omega)) (fun c_12_3 => ?_)
      refine lv_aload_n hx hb dX3_indexHas_15 rfl (lv_at hl 0 rfl) ?_
      refine z_get S in_lay_X3 hK hP rfl 0 rfl 0 (by decide) fl_X3_9 rfl rfl dX3_indexHas_16 ?_
      refine lv_iload hx hb dX3_indexHas_19 (lv_at hl 4 rfl) ?_
      refine z_iald S hK hP 1 rfl (j := k) (by omega) (by decide) dX3_indexHas_21 ?_
      refine lv_iload_n hx hb dX3_indexHas_22 rfl (lv_at hl 2 rfl) ?_
      refine lv_icmp_ne (tgt := 28) hx hb dX3_indexHas_23 (by decide) (fun c_23_4 => ?_) (fun c_23_4 => ?_)
      · refine lv_iinc (v := nI (k + 1)) (lv' := [(4, .int (nI (k + 1))), (0, .ref (a 1)), (1, .int (nI p0)), (2, .int v), (3, .int (nI (p0 * 4)))]) hx hb dX3_indexHas_28 hl (k := 4) rfl (zinc k 1) (by decide) rfl (fun ls hl => ?_)
        refine lv_goto (tgt := 7) hx hb dX3_indexHas_31 (by decide) ?_
        exact ih (k + 1) ls (by omega) (by exact j2.trans (zany_f (by simp [c_12_3, c_23_4]))) (lv_sub hl [1, 2, 3, 4, 0] rfl)
      · refine lv_iconst (v := 1) hx hb dX3_indexHas_26 (by decide) ?_
        exact zr_z hx hb hr hlk (by rw [j2.trans (zany_t (by simp [c_12_3, c_23_4]))]; rfl) dX3_indexHas_27
  exact loop_0 4 (p0 * 4) ls (by omega) (by rfl) (lv_sub hl [2, 3, 4, 1, 0] rfl)
set_option maxHeartbeats 4000000 in
set_option maxRecDepth 100000 in
theorem c_X3_cost (l : Launch) (D : va_G) (ca : Nat → ClassId) (a : Nat → Nat) (T : zTb) (t v : Int32) (w : Nat) (hw : w < 3) : zMr l yX3_cost cX3_cost 7 (some .int) 1 24 D ca [(a 1, .inr (3, [.ref (a 2), .ref (a 3), .ref (a 4), .ref (a 5), .int T.2.2.2.2.1, .int T.2.2.2.2.2])), (a 2, .inl (ca 0, 24, .inl T.1)), (a 3, .inl (ca 0, 24, .inl T.2.1)), (a 4, .inl (ca 0, 24, .inl T.2.2.1)), (a 5, .inl (ca 0, 6, .inl T.2.2.2.1))] [.ref (a 1), .int t, .int v, .int (nI w)] (.int (zCost T t v w)) := by
  refine zMr_of (own := RX3) (by decide) rfl (Nat.le_of_ble_eq_true rfl) ?_
  intro p e s m args below meth c ls S hr hlk hP hK hl
  have hx := S.1
  have hb := S.2.1
  have hl : lv_has ls 7 [(0, .ref (a 1)), (1, .int t), (2, .int v), (3, .int (nI w))] := hl
  refine lv_iload_n hx hb dX3_cost_0 rfl (lv_at hl 3 rfl) ?_
  refine zn_ne0 hx hb (x := w) (by omega) (tgt := 7) dX3_cost_1 (by decide) (fun c_1_1 => ?_) (fun c_1_1 => ?_)
  · have cut_25_1 : W p l e { frames := 1, cells := 0, slots := 0, locals := 24 } s m args below meth c s.heap [] 0 0 (MQ below (zQr (.int (zCost T t v w))) args s 0 0 (fun _ => False)) (F0 m 25 ls [.int (zb (zBm T t w))]) := by
      refine lv_istore (lv' := [(4, .int (zb (zBm T t w))), (0, .ref (a 1)), (1, .int t), (2, .int v), (3, .int (nI w))]) hx hb dX3_cost_25 hl (by decide) rfl (fun ls hl => ?_)
      refine lv_iconst (v := 0) hx hb dX3_cost_27 (by decide) ?_
      refine lv_istore (lv' := [(5, .int 0), (4, .int (zb (zBm T t w))), (0, .ref (a 1)), (1, .int t), (2, .int v), (3, .int (nI w))]) hx hb dX3_cost_28 hl (by decide) rfl (fun ls hl => ?_)
      refine lv_iconst (v := 0) hx hb dX3_cost_30 (by decide) ?_
      refine lv_istore (lv' := [(6, .int 0), (5, .int 0), (4, .int (zb (zBm T t w))), (0, .ref (a 1)), (1, .int t), (2, .int v), (3, .int (nI w))]) hx hb dX3_cost_31 hl (by decide) rfl (fun ls hl => ?_)
      have loop_2 : ∀ (f : Nat) (k : Nat) (x : Int32) (ls : Array Slot), k + f = 6 → zcnt (fun p => zHas T p v && !(zBm T t w && zMk T p)) 6 0 0 = zcnt (fun p => zHas T p v && !(zBm T t w && zMk T p)) f k x → lv_has ls 7 [(0, .ref (a 1)), (1, .int t), (2, .int v), (3, .int (nI w)), (4, .int (zb (zBm T t w))), (5, .int x), (6, .int (nI k))] → W p l e { frames := 1, cells := 0, slots := 0, locals := 24 } s m args below meth c s.heap [] 0 0 (MQ below (zQr (.int (zCost T t v w))) args s 0 0 (fun _ => False)) (F0 m 33 ls []) := by
        intro f
        induction f with
        | zero =>
          intro k x ls j1 j2 hl
          refine lv_iload hx hb dX3_cost_33 (lv_at hl 6 rfl) ?_
          refine lv_bipush (v := 6) hx hb dX3_cost_35 (by decide) ?_
          refine zn_ge hx hb (x := k) (y := 6) (by omega) (by omega) (tgt := 73) dX3_cost_37 (by decide) (fun c_37_4 => ?_) (fun h => False.elim (by omega))
          refine lv_iload hx hb dX3_cost_73 (lv_at hl 5 rfl) ?_
          exact zr_i hx hb hr hlk (by rw [zCost, if_neg (by omega)]; exact j2.symm) dX3_cost_75
        | succ f ih =>
          intro k x ls j1 j2 hl
          refine lv_iload hx hb dX3_cost_33 (lv_at hl 6 rfl) ?_
          refine lv_bipush (v := 6) hx hb dX3_cost_35 (by decide) ?_
          refine zn_ge hx hb (x := k) (y := 6) (by omega) (by omega) (tgt := 73) dX3_cost_37 (by decide) (fun h => False.elim (by omega)) (fun c_37_5 => ?_)
          refine lv_aload_n hx hb dX3_cost_40 rfl (lv_at hl 0 rfl) ?_
          refine lv_iload hx hb dX3_cost_41 (lv_at hl 6 rfl) ?_
          refine lv_iload_n hx hb dX3_cost_43 rfl (lv_at hl 2 rfl) ?_
          refine zcr (As := [.int (nI k), .int v]) (rest := []) (q0 := 0) S (c_X3_indexHas l D ca a T k (by omega) v) ml_X3_78 zy_X3_indexHas im_X3_indexHas se_X3_indexHas ⟨Nat.le_of_ble_eq_true rfl, Nat.le_of_ble_eq_true rfl⟩ hK hP [0, 1, 2, 3, 4] rfl rfl rfl rfl rfl hl.1 rfl (Nat.le_of_ble_eq_true rfl) ⟨Nat.zero_le _, Nat.zero_le _⟩ dX3_cost_44 ?_
          refine zz_eq (tgt := 67) hx hb dX3_cost_47 (by decide) (fun c_47_6 => ?_) (fun c_47_6 => ?_)
          · refine lv_iinc (v := nI (k + 1)) (lv' := [(6, .int (nI (k + 1))), (0, .ref (a 1)), (1, .int t), (2, .int v), (3, .int (nI w)), (4, .int (zb (zBm T t w))), (5, .int x)]) hx hb dX3_cost_67 hl (k := 6) rfl (zinc k 1) (by decide) rfl (fun ls hl => ?_)
            refine lv_goto (tgt := 33) hx hb dX3_cost_70 (by decide) ?_
            exact ih (k + 1) x ls (by omega) (by first | exact j2.trans (zcnt_t (by simp [c_1_1, c_37_5, c_47_6])) | exact j2.trans (zcnt_f (by simp [c_1_1, c_37_5, c_47_6]))) (lv_sub hl [1, 2, 3, 4, 5, 6, 0] rfl)
          · refine lv_iload hx hb dX3_cost_50 (lv_at hl 4 rfl) ?_
            refine zz_eq (tgt := 64) hx hb dX3_cost_52 (by decide) (fun c_52_7 => ?_) (fun c_52_7 => ?_)
            · refine lv_iinc (v := x + 1) (lv' := [(5, .int (x + 1)), (0, .ref (a 1)), (1, .int t), (2, .int v), (3, .int (nI w)), (4, .int (zb (zBm T t w))), (6, .int (nI k))]) hx hb dX3_cost_64 hl (k := 5) rfl (rfl) (by decide) rfl (fun ls hl => ?_)
              refine lv_iinc (v := nI (k + 1)) (lv' := [(6, .int (nI (k + 1))), (5, .int (x + 1)), (0, .ref (a 1)), (1, .int t), (2, .int v), (3, .int (nI w)), (4, .int (zb (zBm T t w)))]) hx hb dX3_cost_67 hl (k := 6) rfl (zinc k 1) (by decide) rfl (fun ls hl => ?_)
              refine lv_goto (tgt := 33) hx hb dX3_cost_70 (by decide) ?_
              exact ih (k + 1) (x + 1) ls (by omega) (by first | exact j2.trans (zcnt_t (by simp [c_1_1, c_37_5, c_47_6, c_52_7])) | exact j2.trans (zcnt_f (by simp [c_1_1, c_37_5, c_47_6, c_52_7]))) (lv_sub hl [2, 3, 4, 5, 6, 1, 0] rfl)
            · refine lv_aload_n hx hb dX3_cost_55 rfl (lv_at hl 0 rfl) ?_
              refine lv_iload hx hb dX3_cost_56 (lv_at hl 6 rfl) ?_
              refine zcr (As := [.int (nI k)]) (rest := []) (q0 := 0) S (c_X3_isMarked l D ca a T k (by omega)) ml_X3_72 zy_X3_isMarked im_X3_isMarked se_X3_isMarked ⟨Nat.le_of_ble_eq_true rfl, Nat.le_of_ble_eq_true rfl⟩ hK hP [0, 1, 2, 3, 4] rfl rfl rfl rfl rfl hl.1 rfl (Nat.le_of_ble_eq_true rfl) ⟨Nat.zero_le _, Nat.zero_le _⟩ dX3_cost_58 ?_
              refine zz_ne (tgt := 67) hx hb dX3_cost_61 (by decide) (fun c_61_8 => ?_) (fun c_61_8 => ?_)
              · refine lv_iinc (v := nI (k + 1)) (lv' := [(6, .int (nI (k + 1))), (0, .ref (a 1)), (1, .int t), (2, .int v), (3, .int (nI w)), (4, .int (zb (zBm T t w))), (5, .int x)]) hx hb dX3_cost_67 hl (k := 6) rfl (zinc k 1) (by decide) rfl (fun ls hl => ?_)
                refine lv_goto (tgt := 33) hx hb dX3_cost_70 (by decide) ?_
                exact ih (k + 1) x ls (by omega) (by first | exact j2.trans (zcnt_t (by simp [c_1_1, c_37_5, c_47_6, c_52_7, c_61_8])) | exact j2.trans (zcnt_f (by simp [c_1_1, c_37_5, c_47_6, c_52_7, c_61_8]))) (lv_sub hl [1, 2, 3, 4, 5, 6, 0] rfl)
              · refine lv_iinc (v := x + 1) (lv' := [(5, .int (x + 1)), (0, .ref (a 1)), (1, .int t), (2, .int v), (3, .int (nI w)), (4, .int (zb (zBm T t w))), (6, .int (nI k))]) hx hb dX3_cost_64 hl (k := 5) rfl (rfl) (by decide) rfl (fun ls hl => ?_)
                refine lv_iinc (v := nI (k + 1)) (lv' := [(6, .int (nI (k + 1))), (5, .int (x + 1)), (0, .ref (a 1)), (1, .int t), (2, .int v), (3, .int (nI w)), (4, .int (zb (zBm T t w)))]) hx hb dX3_cost_67 hl (k := 6) rfl (zinc k 1) (by decide) rfl (fun ls hl => ?_)
                refine lv_goto (tgt := 33) hx hb dX3_cost_70 (by decide) ?_
                exact ih (k + 1) (x + 1) ls (by omega) (by first | exact j2.trans (zcnt_t (by simp [c_1_1, c_37_5, c_47_6, c_52_7, c_61_8])) | exact j2.trans (zcnt_f (by simp [c_1_1, c_37_5, c_47_6, c_52_7, c_61_8]))) (lv_sub hl [2, 3, 4, 5, 6, 1, 0] rfl)
      exact loop_2 6 0 0 ls (by omega) (by rfl) (lv_sub hl [3, 4, 5, 6, 2, 1, 0] rfl)
    refine lv_iload_n hx hb dX3_cost_7 rfl (lv_at hl 3 rfl) ?_
    refine lv_iconst (v := 2) hx hb dX3_cost_8 (by decide) ?_
    refine zn_ne hx hb (x := w) (y := 2) (by omega) (by omega) (tgt := 24) dX3_cost_9 (by decide) (fun c_9_9 => ?_) (fun c_9_9 => ?_)
    · refine lv_iconst (v := 0) hx hb dX3_cost_24 (by decide) ?_
      exact W.eq (congrArg (fun z => F0 m 25 ls [.int z]) (by simp [zBm, zb, c_1_1, c_9_9] : (0 : Int32) = zb (zBm T t w))) cut_25_1
    · refine lv_aload_n hx hb dX3_cost_12 rfl (lv_at hl 0 rfl) ?_
      refine lv_iload_n hx hb dX3_cost_13 rfl (lv_at hl 1 rfl) ?_
      refine zcr (As := [.int t]) (rest := []) (q0 := 0) S (c_X3_mayTrustMarks l D ca a T t) ml_X3_75 zy_X3_mayTrustMarks im_X3_mayTrustMarks se_X3_mayTrustMarks ⟨Nat.le_of_ble_eq_true rfl, Nat.le_of_ble_eq_true rfl⟩ hK hP [0, 1, 2, 3, 4] rfl rfl rfl rfl rfl hl.1 rfl (Nat.le_of_ble_eq_true rfl) ⟨Nat.zero_le _, Nat.zero_le _⟩ dX3_cost_14 ?_
      refine zz_eq (tgt := 24) hx hb dX3_cost_17 (by decide) (fun c_17_10 => ?_) (fun c_17_10 => ?_)
      · refine lv_iconst (v := 0) hx hb dX3_cost_24 (by decide) ?_
        exact W.eq (congrArg (fun z => F0 m 25 ls [.int z]) (by simp [zBm, zb, c_1_1, c_9_9, c_17_10] : (0 : Int32) = zb (zBm T t w))) cut_25_1
      · refine lv_iconst (v := 1) hx hb dX3_cost_20 (by decide) ?_
        refine lv_goto (tgt := 25) hx hb dX3_cost_21 (by decide) ?_
        exact W.eq (congrArg (fun z => F0 m 25 ls [.int z]) (by simp [zBm, zb, c_1_1, c_9_9, c_17_10] : (1 : Int32) = zb (zBm T t w))) cut_25_1
  · refine lv_bipush (v := 6) hx hb dX3_cost_4 (by decide) ?_
    exact zr_i hx hb hr hlk (by simp [zCost, c_1_1]) dX3_cost_6
set_option maxHeartbeats 4000000 in
set_option maxRecDepth 100000 in
theorem c_X3_come (l : Launch) (D : va_G) (ca : Nat → ClassId) (a : Nat → Nat) (T : zTb) (k : Nat) (hk : k < 24) (v : Int32) (hN : [a 1, a 2, a 3, a 4, a 5].Nodup) : zMw l yX3_come cX3_come 3 none 0 0 D ca [(a 1, .inr (3, [.ref (a 2), .ref (a 3), .ref (a 4), .ref (a 5), .int T.2.2.2.2.1, .int T.2.2.2.2.2])), (a 2, .inl (ca 0, 24, .inl T.1)), (a 3, .inl (ca 0, 24, .inl T.2.1)), (a 4, .inl (ca 0, 24, .inl T.2.2.1)), (a 5, .inl (ca 0, 6, .inl T.2.2.2.1))] ([(a 1, .inr (3, [.ref (a 2), .ref (a 3), .ref (a 4), .ref (a 5), .int ((zCome T k v).2.2.2.2.1), .int ((zCome T k v).2.2.2.2.2)])), (a 2, .inl (ca 0, 24, .inl ((zCome T k v).1))), (a 3, .inl (ca 0, 24, .inl ((zCome T k v).2.1))), (a 4, .inl (ca 0, 24, .inl ((zCome T k v).2.2.1))), (a 5, .inl (ca 0, 6, .inl ((zCome T k v).2.2.2.1)))]) [.ref (a 1), .int (nI k), .int v] none := by
  refine zMw_of (own := RX3) (by decide) rfl (Nat.le_of_ble_eq_true rfl) ?_
  intro p e s m args below meth c ls S hr hlk hP hK hl hS
  have hP : va_P D vwCl [(a 1, .inr (3, [.ref (a 2), .ref (a 3), .ref (a 4), .ref (a 5), .int T.2.2.2.2.1, .int T.2.2.2.2.2])), (a 2, .inl (ca 0, 24, .inl T.1)), (a 3, .inl (ca 0, 24, .inl T.2.1)), (a 4, .inl (ca 0, 24, .inl T.2.2.1)), (a 5, .inl (ca 0, 6, .inl T.2.2.2.1))] s.heap := hP
  have hS : va_S (zA [a 1, a 2, a 3, a 4, a 5]) s.heap s.heap [] := hS
  have hA : ∀ q ∈ [a 1, a 2, a 3, a 4, a 5], zA [a 1, a 2, a 3, a 4, a 5] q := fun _ h => h
  have hD := zDto (ws := [(a 1, .inr (3, [.ref (a 2), .ref (a 3), .ref (a 4), .ref (a 5), .int T.2.2.2.2.1, .int T.2.2.2.2.2])), (a 2, .inl (ca 0, 24, .inl T.1)), (a 3, .inl (ca 0, 24, .inl T.2.1)), (a 4, .inl (ca 0, 24, .inl T.2.2.1)), (a 5, .inl (ca 0, 6, .inl T.2.2.2.1))]) hN hA rfl
  have hx := S.1
  have hb := S.2.1
  have hl : lv_has ls 3 [(0, .ref (a 1)), (1, .int (nI k)), (2, .int v)] := hl
  refine lv_aload_n hx hb dX3_come_0 rfl (lv_at hl 0 rfl) ?_
  refine z_get S in_lay_X3 hK hP rfl 0 rfl 0 (by decide) fl_X3_9 rfl rfl dX3_come_1 ?_
  refine lv_iload_n hx hb dX3_come_4 rfl (lv_at hl 1 rfl) ?_
  refine lv_iload_n hx hb dX3_come_5 rfl (lv_at hl 2 rfl) ?_
  refine z_iast S hK hP hD hS 1 rfl (j := k) (by omega) (by decide) dX3_come_6 (fun H locs hP hS => ?_)
  have hP : va_P D vwCl [(a 1, .inr (3, [.ref (a 2), .ref (a 3), .ref (a 4), .ref (a 5), .int T.2.2.2.2.1, .int T.2.2.2.2.2])), (a 2, .inl (ca 0, 24, .inl (upd T.1 k v))), (a 3, .inl (ca 0, 24, .inl T.2.1)), (a 4, .inl (ca 0, 24, .inl T.2.2.1)), (a 5, .inl (ca 0, 6, .inl T.2.2.2.1))] H := hP
  have hD := zDto (ws := [(a 1, .inr (3, [.ref (a 2), .ref (a 3), .ref (a 4), .ref (a 5), .int T.2.2.2.2.1, .int T.2.2.2.2.2])), (a 2, .inl (ca 0, 24, .inl (upd T.1 k v))), (a 3, .inl (ca 0, 24, .inl T.2.1)), (a 4, .inl (ca 0, 24, .inl T.2.2.1)), (a 5, .inl (ca 0, 6, .inl T.2.2.2.1))]) hN hA rfl
  refine lv_aload_n hx hb dX3_come_7 rfl (lv_at hl 0 rfl) ?_
  refine z_get S in_lay_X3 hK hP rfl 0 rfl 1 (by decide) fl_X3_15 rfl rfl dX3_come_8 ?_
  refine lv_iload_n hx hb dX3_come_11 rfl (lv_at hl 1 rfl) ?_
  refine lv_aload_n hx hb dX3_come_12 rfl (lv_at hl 0 rfl) ?_
  refine z_get S in_lay_X3 hK hP rfl 0 rfl 4 (by decide) fl_X3_36 rfl rfl dX3_come_13 ?_
  refine z_iast S hK hP hD hS 2 rfl (j := k) (by omega) (by decide) dX3_come_16 (fun H locs hP hS => ?_)
  have hP : va_P D vwCl [(a 1, .inr (3, [.ref (a 2), .ref (a 3), .ref (a 4), .ref (a 5), .int T.2.2.2.2.1, .int T.2.2.2.2.2])), (a 2, .inl (ca 0, 24, .inl (upd T.1 k v))), (a 3, .inl (ca 0, 24, .inl (upd T.2.1 k T.2.2.2.2.1))), (a 4, .inl (ca 0, 24, .inl T.2.2.1)), (a 5, .inl (ca 0, 6, .inl T.2.2.2.1))] H := hP
  have hD := zDto (ws := [(a 1, .inr (3, [.ref (a 2), .ref (a 3), .ref (a 4), .ref (a 5), .int T.2.2.2.2.1, .int T.2.2.2.2.2])), (a 2, .inl (ca 0, 24, .inl (upd T.1 k v))), (a 3, .inl (ca 0, 24, .inl (upd T.2.1 k T.2.2.2.2.1))), (a 4, .inl (ca 0, 24, .inl T.2.2.1)), (a 5, .inl (ca 0, 6, .inl T.2.2.2.1))]) hN hA rfl
  refine lv_aload_n hx hb dX3_come_17 rfl (lv_at hl 0 rfl) ?_
  refine z_get S in_lay_X3 hK hP rfl 0 rfl 2 (by decide) fl_X3_18 rfl rfl dX3_come_18 ?_
  refine lv_iload_n hx hb dX3_come_21 rfl (lv_at hl 1 rfl) ?_
  refine lv_iconst (v := 0) hx hb dX3_come_22 (by decide) ?_
  refine z_iast S hK hP hD hS 3 rfl (j := k) (by omega) (by decide) dX3_come_23 (fun H locs hP hS => ?_)
  have hP : va_P D vwCl [(a 1, .inr (3, [.ref (a 2), .ref (a 3), .ref (a 4), .ref (a 5), .int T.2.2.2.2.1, .int T.2.2.2.2.2])), (a 2, .inl (ca 0, 24, .inl (upd T.1 k v))), (a 3, .inl (ca 0, 24, .inl (upd T.2.1 k T.2.2.2.2.1))), (a 4, .inl (ca 0, 24, .inl (upd T.2.2.1 k 0))), (a 5, .inl (ca 0, 6, .inl T.2.2.2.1))] H := hP
  have hD := zDto (ws := [(a 1, .inr (3, [.ref (a 2), .ref (a 3), .ref (a 4), .ref (a 5), .int T.2.2.2.2.1, .int T.2.2.2.2.2])), (a 2, .inl (ca 0, 24, .inl (upd T.1 k v))), (a 3, .inl (ca 0, 24, .inl (upd T.2.1 k T.2.2.2.2.1))), (a 4, .inl (ca 0, 24, .inl (upd T.2.2.1 k 0))), (a 5, .inl (ca 0, 6, .inl T.2.2.2.1))]) hN hA rfl
  refine lv_aload_n hx hb dX3_come_24 rfl (lv_at hl 0 rfl) ?_
  refine z_get S in_lay_X3 hK hP rfl 0 rfl 3 (by decide) fl_X3_21 rfl rfl dX3_come_25 ?_
  refine lv_iload_n hx hb dX3_come_28 rfl (lv_at hl 1 rfl) ?_
  refine lv_iconst (v := 4) hx hb dX3_come_29 (by decide) ?_
  refine zn_div hx hb (x := k) (y := 4) (z := k / 4) (by omega) (by omega) (by omega) (by first | rfl | omega) dX3_come_30 ?_
  refine lv_iconst (v := (-1)) hx hb dX3_come_31 (by decide) ?_
  refine z_iast S hK hP hD hS 4 rfl (j := k / 4) (by omega) (by decide) dX3_come_32 (fun H locs hP hS => ?_)
  have hP : va_P D vwCl [(a 1, .inr (3, [.ref (a 2), .ref (a 3), .ref (a 4), .ref (a 5), .int T.2.2.2.2.1, .int T.2.2.2.2.2])), (a 2, .inl (ca 0, 24, .inl (upd T.1 k v))), (a 3, .inl (ca 0, 24, .inl (upd T.2.1 k T.2.2.2.2.1))), (a 4, .inl (ca 0, 24, .inl (upd T.2.2.1 k 0))), (a 5, .inl (ca 0, 6, .inl (upd T.2.2.2.1 (k / 4) (-1))))] H := hP
  have hD := zDto (ws := [(a 1, .inr (3, [.ref (a 2), .ref (a 3), .ref (a 4), .ref (a 5), .int T.2.2.2.2.1, .int T.2.2.2.2.2])), (a 2, .inl (ca 0, 24, .inl (upd T.1 k v))), (a 3, .inl (ca 0, 24, .inl (upd T.2.1 k T.2.2.2.2.1))), (a 4, .inl (ca 0, 24, .inl (upd T.2.2.1 k 0))), (a 5, .inl (ca 0, 6, .inl (upd T.2.2.2.1 (k / 4) (-1))))]) hN hA rfl
  have hz : zCome T k v = (upd T.1 k v, upd T.2.1 k T.2.2.2.2.1, upd T.2.2.1 k 0, upd T.2.2.2.1 (k / 4) (-1), T.2.2.2.2.1, T.2.2.2.2.2) := by rfl
  exact zw_v hx hb hr hlk hP hS (by rw [hz] <;> rfl) dX3_come_33
set_option maxHeartbeats 4000000 in
set_option maxRecDepth 100000 in
theorem c_X3_go (l : Launch) (D : va_G) (ca : Nat → ClassId) (a : Nat → Nat) (T : zTb) (k : Nat) (hk : k < 24) (hN : [a 1, a 2, a 3, a 4, a 5].Nodup) : zMw l yX3_go cX3_go 2 none 0 0 D ca [(a 1, .inr (3, [.ref (a 2), .ref (a 3), .ref (a 4), .ref (a 5), .int T.2.2.2.2.1, .int T.2.2.2.2.2])), (a 2, .inl (ca 0, 24, .inl T.1)), (a 3, .inl (ca 0, 24, .inl T.2.1)), (a 4, .inl (ca 0, 24, .inl T.2.2.1)), (a 5, .inl (ca 0, 6, .inl T.2.2.2.1))] ([(a 1, .inr (3, [.ref (a 2), .ref (a 3), .ref (a 4), .ref (a 5), .int ((zGo T k).2.2.2.2.1), .int ((zGo T k).2.2.2.2.2)])), (a 2, .inl (ca 0, 24, .inl ((zGo T k).1))), (a 3, .inl (ca 0, 24, .inl ((zGo T k).2.1))), (a 4, .inl (ca 0, 24, .inl ((zGo T k).2.2.1))), (a 5, .inl (ca 0, 6, .inl ((zGo T k).2.2.2.1)))]) [.ref (a 1), .int (nI k)] none := by
  refine zMw_of (own := RX3) (by decide) rfl (Nat.le_of_ble_eq_true rfl) ?_
  intro p e s m args below meth c ls S hr hlk hP hK hl hS
  have hP : va_P D vwCl [(a 1, .inr (3, [.ref (a 2), .ref (a 3), .ref (a 4), .ref (a 5), .int T.2.2.2.2.1, .int T.2.2.2.2.2])), (a 2, .inl (ca 0, 24, .inl T.1)), (a 3, .inl (ca 0, 24, .inl T.2.1)), (a 4, .inl (ca 0, 24, .inl T.2.2.1)), (a 5, .inl (ca 0, 6, .inl T.2.2.2.1))] s.heap := hP
  have hS : va_S (zA [a 1, a 2, a 3, a 4, a 5]) s.heap s.heap [] := hS
  have hA : ∀ q ∈ [a 1, a 2, a 3, a 4, a 5], zA [a 1, a 2, a 3, a 4, a 5] q := fun _ h => h
  have hD := zDto (ws := [(a 1, .inr (3, [.ref (a 2), .ref (a 3), .ref (a 4), .ref (a 5), .int T.2.2.2.2.1, .int T.2.2.2.2.2])), (a 2, .inl (ca 0, 24, .inl T.1)), (a 3, .inl (ca 0, 24, .inl T.2.1)), (a 4, .inl (ca 0, 24, .inl T.2.2.1)), (a 5, .inl (ca 0, 6, .inl T.2.2.2.1))]) hN hA rfl
  have hx := S.1
  have hb := S.2.1
  have hl : lv_has ls 2 [(0, .ref (a 1)), (1, .int (nI k))] := hl
  refine lv_aload_n hx hb dX3_go_0 rfl (lv_at hl 0 rfl) ?_
  refine z_get S in_lay_X3 hK hP rfl 0 rfl 2 (by decide) fl_X3_18 rfl rfl dX3_go_1 ?_
  refine lv_iload_n hx hb dX3_go_4 rfl (lv_at hl 1 rfl) ?_
  refine lv_aload_n hx hb dX3_go_5 rfl (lv_at hl 0 rfl) ?_
  refine z_get S in_lay_X3 hK hP rfl 0 rfl 4 (by decide) fl_X3_36 rfl rfl dX3_go_6 ?_
  refine z_iast S hK hP hD hS 3 rfl (j := k) (by omega) (by decide) dX3_go_9 (fun H locs hP hS => ?_)
  have hP : va_P D vwCl [(a 1, .inr (3, [.ref (a 2), .ref (a 3), .ref (a 4), .ref (a 5), .int T.2.2.2.2.1, .int T.2.2.2.2.2])), (a 2, .inl (ca 0, 24, .inl T.1)), (a 3, .inl (ca 0, 24, .inl T.2.1)), (a 4, .inl (ca 0, 24, .inl (upd T.2.2.1 k T.2.2.2.2.1))), (a 5, .inl (ca 0, 6, .inl T.2.2.2.1))] H := hP
  have hD := zDto (ws := [(a 1, .inr (3, [.ref (a 2), .ref (a 3), .ref (a 4), .ref (a 5), .int T.2.2.2.2.1, .int T.2.2.2.2.2])), (a 2, .inl (ca 0, 24, .inl T.1)), (a 3, .inl (ca 0, 24, .inl T.2.1)), (a 4, .inl (ca 0, 24, .inl (upd T.2.2.1 k T.2.2.2.2.1))), (a 5, .inl (ca 0, 6, .inl T.2.2.2.1))]) hN hA rfl
  refine lv_aload_n hx hb dX3_go_10 rfl (lv_at hl 0 rfl) ?_
  refine z_get S in_lay_X3 hK hP rfl 0 rfl 3 (by decide) fl_X3_21 rfl rfl dX3_go_11 ?_
  refine lv_iload_n hx hb dX3_go_14 rfl (lv_at hl 1 rfl) ?_
  refine lv_iconst (v := 4) hx hb dX3_go_15 (by decide) ?_
  refine zn_div hx hb (x := k) (y := 4) (z := k / 4) (by omega) (by omega) (by omega) (by first | rfl | omega) dX3_go_16 ?_
  refine lv_iconst (v := (-1)) hx hb dX3_go_17 (by decide) ?_
  refine z_iast S hK hP hD hS 4 rfl (j := k / 4) (by omega) (by decide) dX3_go_18 (fun H locs hP hS => ?_)
  have hP : va_P D vwCl [(a 1, .inr (3, [.ref (a 2), .ref (a 3), .ref (a 4), .ref (a 5), .int T.2.2.2.2.1, .int T.2.2.2.2.2])), (a 2, .inl (ca 0, 24, .inl T.1)), (a 3, .inl (ca 0, 24, .inl T.2.1)), (a 4, .inl (ca 0, 24, .inl (upd T.2.2.1 k T.2.2.2.2.1))), (a 5, .inl (ca 0, 6, .inl (upd T.2.2.2.1 (k / 4) (-1))))] H := hP
  have hD := zDto (ws := [(a 1, .inr (3, [.ref (a 2), .ref (a 3), .ref (a 4), .ref (a 5), .int T.2.2.2.2.1, .int T.2.2.2.2.2])), (a 2, .inl (ca 0, 24, .inl T.1)), (a 3, .inl (ca 0, 24, .inl T.2.1)), (a 4, .inl (ca 0, 24, .inl (upd T.2.2.1 k T.2.2.2.2.1))), (a 5, .inl (ca 0, 6, .inl (upd T.2.2.2.1 (k / 4) (-1))))]) hN hA rfl
  have hz : zGo T k = (T.1, T.2.1, upd T.2.2.1 k T.2.2.2.2.1, upd T.2.2.2.1 (k / 4) (-1), T.2.2.2.2.1, T.2.2.2.2.2) := by rfl
  exact zw_v hx hb hr hlk hP hS (by rw [hz] <;> rfl) dX3_go_19
set_option maxHeartbeats 4000000 in
set_option maxRecDepth 100000 in
theorem c_X3_empty (l : Launch) (D : va_G) (ca : Nat → ClassId) (a : Nat → Nat) (T : zTb) (k : Nat) (hk : k < 24) (hN : [a 1, a 2, a 3, a 4, a 5].Nodup) : zMw l yX3_empty cX3_empty 2 none 0 0 D ca [(a 1, .inr (3, [.ref (a 2), .ref (a 3), .ref (a 4), .ref (a 5), .int T.2.2.2.2.1, .int T.2.2.2.2.2])), (a 2, .inl (ca 0, 24, .inl T.1)), (a 3, .inl (ca 0, 24, .inl T.2.1)), (a 4, .inl (ca 0, 24, .inl T.2.2.1)), (a 5, .inl (ca 0, 6, .inl T.2.2.2.1))] ([(a 1, .inr (3, [.ref (a 2), .ref (a 3), .ref (a 4), .ref (a 5), .int ((zEmp T k).2.2.2.2.1), .int ((zEmp T k).2.2.2.2.2)])), (a 2, .inl (ca 0, 24, .inl ((zEmp T k).1))), (a 3, .inl (ca 0, 24, .inl ((zEmp T k).2.1))), (a 4, .inl (ca 0, 24, .inl ((zEmp T k).2.2.1))), (a 5, .inl (ca 0, 6, .inl ((zEmp T k).2.2.2.1)))]) [.ref (a 1), .int (nI k)] none := by
  refine zMw_of (own := RX3) (by decide) rfl (Nat.le_of_ble_eq_true rfl) ?_
  intro p e s m args below meth c ls S hr hlk hP hK hl hS
  have hP : va_P D vwCl [(a 1, .inr (3, [.ref (a 2), .ref (a 3), .ref (a 4), .ref (a 5), .int T.2.2.2.2.1, .int T.2.2.2.2.2])), (a 2, .inl (ca 0, 24, .inl T.1)), (a 3, .inl (ca 0, 24, .inl T.2.1)), (a 4, .inl (ca 0, 24, .inl T.2.2.1)), (a 5, .inl (ca 0, 6, .inl T.2.2.2.1))] s.heap := hP
  have hS : va_S (zA [a 1, a 2, a 3, a 4, a 5]) s.heap s.heap [] := hS
  have hA : ∀ q ∈ [a 1, a 2, a 3, a 4, a 5], zA [a 1, a 2, a 3, a 4, a 5] q := fun _ h => h
  have hD := zDto (ws := [(a 1, .inr (3, [.ref (a 2), .ref (a 3), .ref (a 4), .ref (a 5), .int T.2.2.2.2.1, .int T.2.2.2.2.2])), (a 2, .inl (ca 0, 24, .inl T.1)), (a 3, .inl (ca 0, 24, .inl T.2.1)), (a 4, .inl (ca 0, 24, .inl T.2.2.1)), (a 5, .inl (ca 0, 6, .inl T.2.2.2.1))]) hN hA rfl
  have hx := S.1
  have hb := S.2.1
  have hl : lv_has ls 2 [(0, .ref (a 1)), (1, .int (nI k))] := hl
  refine lv_aload_n hx hb dX3_empty_0 rfl (lv_at hl 0 rfl) ?_
  refine z_get S in_lay_X3 hK hP rfl 0 rfl 0 (by decide) fl_X3_9 rfl rfl dX3_empty_1 ?_
  refine lv_iload_n hx hb dX3_empty_4 rfl (lv_at hl 1 rfl) ?_
  refine lv_iconst (v := (-1)) hx hb dX3_empty_5 (by decide) ?_
  refine z_iast S hK hP hD hS 1 rfl (j := k) (by omega) (by decide) dX3_empty_6 (fun H locs hP hS => ?_)
  have hP : va_P D vwCl [(a 1, .inr (3, [.ref (a 2), .ref (a 3), .ref (a 4), .ref (a 5), .int T.2.2.2.2.1, .int T.2.2.2.2.2])), (a 2, .inl (ca 0, 24, .inl (upd T.1 k (-1)))), (a 3, .inl (ca 0, 24, .inl T.2.1)), (a 4, .inl (ca 0, 24, .inl T.2.2.1)), (a 5, .inl (ca 0, 6, .inl T.2.2.2.1))] H := hP
  have hD := zDto (ws := [(a 1, .inr (3, [.ref (a 2), .ref (a 3), .ref (a 4), .ref (a 5), .int T.2.2.2.2.1, .int T.2.2.2.2.2])), (a 2, .inl (ca 0, 24, .inl (upd T.1 k (-1)))), (a 3, .inl (ca 0, 24, .inl T.2.1)), (a 4, .inl (ca 0, 24, .inl T.2.2.1)), (a 5, .inl (ca 0, 6, .inl T.2.2.2.1))]) hN hA rfl
  refine lv_aload_n hx hb dX3_empty_7 rfl (lv_at hl 0 rfl) ?_
  refine z_get S in_lay_X3 hK hP rfl 0 rfl 1 (by decide) fl_X3_15 rfl rfl dX3_empty_8 ?_
  refine lv_iload_n hx hb dX3_empty_11 rfl (lv_at hl 1 rfl) ?_
  refine lv_iconst (v := (-1)) hx hb dX3_empty_12 (by decide) ?_
  refine z_iast S hK hP hD hS 2 rfl (j := k) (by omega) (by decide) dX3_empty_13 (fun H locs hP hS => ?_)
  have hP : va_P D vwCl [(a 1, .inr (3, [.ref (a 2), .ref (a 3), .ref (a 4), .ref (a 5), .int T.2.2.2.2.1, .int T.2.2.2.2.2])), (a 2, .inl (ca 0, 24, .inl (upd T.1 k (-1)))), (a 3, .inl (ca 0, 24, .inl (upd T.2.1 k (-1)))), (a 4, .inl (ca 0, 24, .inl T.2.2.1)), (a 5, .inl (ca 0, 6, .inl T.2.2.2.1))] H := hP
  have hD := zDto (ws := [(a 1, .inr (3, [.ref (a 2), .ref (a 3), .ref (a 4), .ref (a 5), .int T.2.2.2.2.1, .int T.2.2.2.2.2])), (a 2, .inl (ca 0, 24, .inl (upd T.1 k (-1)))), (a 3, .inl (ca 0, 24, .inl (upd T.2.1 k (-1)))), (a 4, .inl (ca 0, 24, .inl T.2.2.1)), (a 5, .inl (ca 0, 6, .inl T.2.2.2.1))]) hN hA rfl
  refine lv_aload_n hx hb dX3_empty_14 rfl (lv_at hl 0 rfl) ?_
  refine z_get S in_lay_X3 hK hP rfl 0 rfl 2 (by decide) fl_X3_18 rfl rfl dX3_empty_15 ?_
  refine lv_iload_n hx hb dX3_empty_18 rfl (lv_at hl 1 rfl) ?_
  refine lv_iconst (v := (-1)) hx hb dX3_empty_19 (by decide) ?_
  refine z_iast S hK hP hD hS 3 rfl (j := k) (by omega) (by decide) dX3_empty_20 (fun H locs hP hS => ?_)
  have hP : va_P D vwCl [(a 1, .inr (3, [.ref (a 2), .ref (a 3), .ref (a 4), .ref (a 5), .int T.2.2.2.2.1, .int T.2.2.2.2.2])), (a 2, .inl (ca 0, 24, .inl (upd T.1 k (-1)))), (a 3, .inl (ca 0, 24, .inl (upd T.2.1 k (-1)))), (a 4, .inl (ca 0, 24, .inl (upd T.2.2.1 k (-1)))), (a 5, .inl (ca 0, 6, .inl T.2.2.2.1))] H := hP
  have hD := zDto (ws := [(a 1, .inr (3, [.ref (a 2), .ref (a 3), .ref (a 4), .ref (a 5), .int T.2.2.2.2.1, .int T.2.2.2.2.2])), (a 2, .inl (ca 0, 24, .inl (upd T.1 k (-1)))), (a 3, .inl (ca 0, 24, .inl (upd T.2.1 k (-1)))), (a 4, .inl (ca 0, 24, .inl (upd T.2.2.1 k (-1)))), (a 5, .inl (ca 0, 6, .inl T.2.2.2.1))]) hN hA rfl
  have hz : zEmp T k = (upd T.1 k (-1), upd T.2.1 k (-1), upd T.2.2.1 k (-1), T.2.2.2.1, T.2.2.2.2.1, T.2.2.2.2.2) := by rfl
  exact zw_v hx hb hr hlk hP hS (by rw [hz] <;> rfl) dX3_empty_21
set_option maxHeartbeats 4000000 in
set_option maxRecDepth 100000 in
theorem c_X3_putValue (l : Launch) (D : va_G) (ca : Nat → ClassId) (a : Nat → Nat) (T : zTb) (v : Int32) (hN : [a 1, a 2, a 3, a 4, a 5].Nodup) : zMw l yX3_putValue cX3_putValue 3 (some .int) 1 22 D ca [(a 1, .inr (3, [.ref (a 2), .ref (a 3), .ref (a 4), .ref (a 5), .int T.2.2.2.2.1, .int T.2.2.2.2.2])), (a 2, .inl (ca 0, 24, .inl T.1)), (a 3, .inl (ca 0, 24, .inl T.2.1)), (a 4, .inl (ca 0, 24, .inl T.2.2.1)), (a 5, .inl (ca 0, 6, .inl T.2.2.2.1))] ([(a 1, .inr (3, [.ref (a 2), .ref (a 3), .ref (a 4), .ref (a 5), .int (((zPut T v).2).2.2.2.2.1), .int (((zPut T v).2).2.2.2.2.2)])), (a 2, .inl (ca 0, 24, .inl (((zPut T v).2).1))), (a 3, .inl (ca 0, 24, .inl (((zPut T v).2).2.1))), (a 4, .inl (ca 0, 24, .inl (((zPut T v).2).2.2.1))), (a 5, .inl (ca 0, 6, .inl (((zPut T v).2).2.2.2.1)))]) [.ref (a 1), .int v] (some (.int ((zPut T v).1))) := by
  refine zMw_of (own := RX3) (by decide) rfl (Nat.le_of_ble_eq_true rfl) ?_
  intro p e s m args below meth c ls S hr hlk hP hK hl hS
  have hP : va_P D vwCl [(a 1, .inr (3, [.ref (a 2), .ref (a 3), .ref (a 4), .ref (a 5), .int T.2.2.2.2.1, .int T.2.2.2.2.2])), (a 2, .inl (ca 0, 24, .inl T.1)), (a 3, .inl (ca 0, 24, .inl T.2.1)), (a 4, .inl (ca 0, 24, .inl T.2.2.1)), (a 5, .inl (ca 0, 6, .inl T.2.2.2.1))] s.heap := hP
  have hS : va_S (zA [a 1, a 2, a 3, a 4, a 5]) s.heap s.heap [] := hS
  have hA : ∀ q ∈ [a 1, a 2, a 3, a 4, a 5], zA [a 1, a 2, a 3, a 4, a 5] q := fun _ h => h
  have hD := zDto (ws := [(a 1, .inr (3, [.ref (a 2), .ref (a 3), .ref (a 4), .ref (a 5), .int T.2.2.2.2.1, .int T.2.2.2.2.2])), (a 2, .inl (ca 0, 24, .inl T.1)), (a 3, .inl (ca 0, 24, .inl T.2.1)), (a 4, .inl (ca 0, 24, .inl T.2.2.1)), (a 5, .inl (ca 0, 6, .inl T.2.2.2.1))]) hN hA rfl
  have hx := S.1
  have hb := S.2.1
  have hl : lv_has ls 3 [(0, .ref (a 1)), (1, .int v)] := hl
  refine lv_aload_n hx hb dX3_putValue_0 rfl (lv_at hl 0 rfl) ?_
  refine zcr (As := []) (rest := []) (q0 := 0) S (c_X3_lowestEmptySlot l D ca a T ) ml_X3_47 zy_X3_lowestEmptySlot im_X3_lowestEmptySlot se_X3_lowestEmptySlot ⟨Nat.le_of_ble_eq_true rfl, Nat.le_of_ble_eq_true rfl⟩ hK hP [0, 1, 2, 3, 4] rfl rfl rfl rfl rfl hl.1 rfl (Nat.le_of_ble_eq_true rfl) ⟨Nat.zero_le _, Nat.zero_le _⟩ dX3_putValue_1 ?_
  refine zNo_c (fun c_1_1 => ?_) (fun c_1_1 => ?_)
  · refine lv_istore_n (lv' := [(2, .int (nI (zLow T))), (0, .ref (a 1)), (1, .int v)]) hx hb dX3_putValue_4 rfl hl (by decide) rfl (fun ls hl => ?_)
    refine lv_iload_n hx hb dX3_putValue_5 rfl (lv_at hl 0 rfl) ?_
    refine lv_iconst (v := (-1)) hx hb dX3_putValue_6 (by decide) ?_
    refine lv_icmp_ne (tgt := 12) hx hb dX3_putValue_7 (by decide) (fun _ => ?_) (fun h => absurd h (nI_nem1 (by omega)))
    refine lv_aload_n hx hb dX3_putValue_12 rfl (lv_at hl 1 rfl) ?_
    refine lv_dup hx hb dX3_putValue_13 rfl ?_
    refine z_get S in_lay_X3 hK hP rfl 0 rfl 4 (by decide) fl_X3_36 rfl rfl dX3_putValue_14 ?_
    refine lv_iconst (v := 1) hx hb dX3_putValue_17 (by decide) ?_
    refine lv_iadd hx hb dX3_putValue_18 ?_
    refine z_put S in_lay_X3 tyX3_ok nmX3 hK hP hD hS rfl 0 rfl 4 (by decide) fl_X3_36 rfl rfl rfl rfl (Nat.le_of_ble_eq_true rfl) dX3_putValue_19 (fun H locs hP hS => ?_)
    have hP : va_P D vwCl [(a 1, .inr (3, [.ref (a 2), .ref (a 3), .ref (a 4), .ref (a 5), .int (T.2.2.2.2.1 + 1), .int T.2.2.2.2.2])), (a 2, .inl (ca 0, 24, .inl T.1)), (a 3, .inl (ca 0, 24, .inl T.2.1)), (a 4, .inl (ca 0, 24, .inl T.2.2.1)), (a 5, .inl (ca 0, 6, .inl T.2.2.2.1))] H := hP
    have hD := zDto (ws := [(a 1, .inr (3, [.ref (a 2), .ref (a 3), .ref (a 4), .ref (a 5), .int (T.2.2.2.2.1 + 1), .int T.2.2.2.2.2])), (a 2, .inl (ca 0, 24, .inl T.1)), (a 3, .inl (ca 0, 24, .inl T.2.1)), (a 4, .inl (ca 0, 24, .inl T.2.2.1)), (a 5, .inl (ca 0, 6, .inl T.2.2.2.1))]) hN hA rfl
    refine lv_aload_n hx hb dX3_putValue_22 rfl (lv_at hl 1 rfl) ?_
    refine lv_iload_n hx hb dX3_putValue_23 rfl (lv_at hl 0 rfl) ?_
    refine lv_iload_n hx hb dX3_putValue_24 rfl (lv_at hl 2 rfl) ?_
    refine zcw (As := [.int (nI (zLow T)), .int v]) (rest := []) (st1 := []) (q0 := 0) (lw := [a 1, a 2, a 3, a 4, a 5]) S (c_X3_come l D ca a (T.1, T.2.1, T.2.2.1, T.2.2.2.1, T.2.2.2.2.1 + 1, T.2.2.2.2.2) (zLow T) (by omega) v (znd_pick hN [0, 1, 2, 3, 4] rfl rfl)) ml_X3_51 zy_X3_come im_X3_come se_X3_come ⟨Nat.le_of_ble_eq_true rfl, Nat.le_of_ble_eq_true rfl⟩ hK hP hD hS [0, 1, 2, 3, 4] rfl rfl rfl rfl rfl rfl rfl hl.1 rfl rfl (Nat.le_of_ble_eq_true rfl) ⟨Nat.zero_le _, Nat.zero_le _⟩ dX3_putValue_25 (fun H locs hP hS => ?_)
    have hP : va_P D vwCl [(a 1, .inr (3, [.ref (a 2), .ref (a 3), .ref (a 4), .ref (a 5), .int ((zCome (T.1, T.2.1, T.2.2.1, T.2.2.2.1, T.2.2.2.2.1 + 1, T.2.2.2.2.2) (zLow T) v).2.2.2.2.1), .int ((zCome (T.1, T.2.1, T.2.2.1, T.2.2.2.1, T.2.2.2.2.1 + 1, T.2.2.2.2.2) (zLow T) v).2.2.2.2.2)])), (a 2, .inl (ca 0, 24, .inl ((zCome (T.1, T.2.1, T.2.2.1, T.2.2.2.1, T.2.2.2.2.1 + 1, T.2.2.2.2.2) (zLow T) v).1))), (a 3, .inl (ca 0, 24, .inl ((zCome (T.1, T.2.1, T.2.2.1, T.2.2.2.1, T.2.2.2.2.1 + 1, T.2.2.2.2.2) (zLow T) v).2.1))), (a 4, .inl (ca 0, 24, .inl ((zCome (T.1, T.2.1, T.2.2.1, T.2.2.2.1, T.2.2.2.2.1 + 1, T.2.2.2.2.2) (zLow T) v).2.2.1))), (a 5, .inl (ca 0, 6, .inl ((zCome (T.1, T.2.1, T.2.2.1, T.2.2.2.1, T.2.2.2.2.1 + 1, T.2.2.2.2.2) (zLow T) v).2.2.2.1)))] H := hP
    have hD := zDto (ws := [(a 1, .inr (3, [.ref (a 2), .ref (a 3), .ref (a 4), .ref (a 5), .int ((zCome (T.1, T.2.1, T.2.2.1, T.2.2.2.1, T.2.2.2.2.1 + 1, T.2.2.2.2.2) (zLow T) v).2.2.2.2.1), .int ((zCome (T.1, T.2.1, T.2.2.1, T.2.2.2.1, T.2.2.2.2.1 + 1, T.2.2.2.2.2) (zLow T) v).2.2.2.2.2)])), (a 2, .inl (ca 0, 24, .inl ((zCome (T.1, T.2.1, T.2.2.1, T.2.2.2.1, T.2.2.2.2.1 + 1, T.2.2.2.2.2) (zLow T) v).1))), (a 3, .inl (ca 0, 24, .inl ((zCome (T.1, T.2.1, T.2.2.1, T.2.2.2.1, T.2.2.2.2.1 + 1, T.2.2.2.2.2) (zLow T) v).2.1))), (a 4, .inl (ca 0, 24, .inl ((zCome (T.1, T.2.1, T.2.2.1, T.2.2.2.1, T.2.2.2.2.1 + 1, T.2.2.2.2.2) (zLow T) v).2.2.1))), (a 5, .inl (ca 0, 6, .inl ((zCome (T.1, T.2.1, T.2.2.1, T.2.2.2.1, T.2.2.2.2.1 + 1, T.2.2.2.2.2) (zLow T) v).2.2.2.1)))]) hN hA rfl
    refine lv_iload_n hx hb dX3_putValue_28 rfl (lv_at hl 0 rfl) ?_
    have hz : zPut T v = (nI (zLow T), (zCome (T.1, T.2.1, T.2.2.1, T.2.2.2.1, T.2.2.2.2.1 + 1, T.2.2.2.2.2) (zLow T) v)) := by simp [zPut, zTick, c_1_1]
    exact zw_i hx hb hr hlk hP hS ⟨by rw [hz] <;> rfl, by rw [hz] <;> rfl⟩ dX3_putValue_29
  · refine lv_istore_n (lv' := [(2, .int (-1)), (0, .ref (a 1)), (1, .int v)]) hx hb dX3_putValue_4 rfl hl (by decide) rfl (fun ls hl => ?_)
    refine lv_iload_n hx hb dX3_putValue_5 rfl (lv_at hl 0 rfl) ?_
    refine lv_iconst (v := (-1)) hx hb dX3_putValue_6 (by decide) ?_
    refine lv_icmp_ne (tgt := 12) hx hb dX3_putValue_7 (by decide) (fun h => absurd (by decide) h) (fun _ => ?_)
    refine lv_iconst (v := (-1)) hx hb dX3_putValue_10 (by decide) ?_
    have hz : zPut T v = ((-1), T) := by simp [zPut, zTick, c_1_1]
    exact zw_i hx hb hr hlk hP hS ⟨by rw [hz] <;> rfl, by rw [hz] <;> rfl⟩ dX3_putValue_11
set_option maxHeartbeats 4000000 in
set_option maxRecDepth 100000 in
theorem c_X3_takeAway (l : Launch) (D : va_G) (ca : Nat → ClassId) (a : Nat → Nat) (T : zTb) (k : Nat) (hk : k < 24) (hN : [a 1, a 2, a 3, a 4, a 5].Nodup) : zMw l yX3_takeAway cX3_takeAway 2 (some .boolean) 2 43 D ca [(a 1, .inr (3, [.ref (a 2), .ref (a 3), .ref (a 4), .ref (a 5), .int T.2.2.2.2.1, .int T.2.2.2.2.2])), (a 2, .inl (ca 0, 24, .inl T.1)), (a 3, .inl (ca 0, 24, .inl T.2.1)), (a 4, .inl (ca 0, 24, .inl T.2.2.1)), (a 5, .inl (ca 0, 6, .inl T.2.2.2.1))] ([(a 1, .inr (3, [.ref (a 2), .ref (a 3), .ref (a 4), .ref (a 5), .int (((zTake T k).2).2.2.2.2.1), .int (((zTake T k).2).2.2.2.2.2)])), (a 2, .inl (ca 0, 24, .inl (((zTake T k).2).1))), (a 3, .inl (ca 0, 24, .inl (((zTake T k).2).2.1))), (a 4, .inl (ca 0, 24, .inl (((zTake T k).2).2.2.1))), (a 5, .inl (ca 0, 6, .inl (((zTake T k).2).2.2.2.1)))]) [.ref (a 1), .int (nI k)] (some (.int (zb ((zTake T k).1)))) := by
  refine zMw_of (own := RX3) (by decide) rfl (Nat.le_of_ble_eq_true rfl) ?_
  intro p e s m args below meth c ls S hr hlk hP hK hl hS
  have hP : va_P D vwCl [(a 1, .inr (3, [.ref (a 2), .ref (a 3), .ref (a 4), .ref (a 5), .int T.2.2.2.2.1, .int T.2.2.2.2.2])), (a 2, .inl (ca 0, 24, .inl T.1)), (a 3, .inl (ca 0, 24, .inl T.2.1)), (a 4, .inl (ca 0, 24, .inl T.2.2.1)), (a 5, .inl (ca 0, 6, .inl T.2.2.2.1))] s.heap := hP
  have hS : va_S (zA [a 1, a 2, a 3, a 4, a 5]) s.heap s.heap [] := hS
  have hA : ∀ q ∈ [a 1, a 2, a 3, a 4, a 5], zA [a 1, a 2, a 3, a 4, a 5] q := fun _ h => h
  have hD := zDto (ws := [(a 1, .inr (3, [.ref (a 2), .ref (a 3), .ref (a 4), .ref (a 5), .int T.2.2.2.2.1, .int T.2.2.2.2.2])), (a 2, .inl (ca 0, 24, .inl T.1)), (a 3, .inl (ca 0, 24, .inl T.2.1)), (a 4, .inl (ca 0, 24, .inl T.2.2.1)), (a 5, .inl (ca 0, 6, .inl T.2.2.2.1))]) hN hA rfl
  have hx := S.1
  have hb := S.2.1
  have hl : lv_has ls 2 [(0, .ref (a 1)), (1, .int (nI k))] := hl
  refine lv_aload_n hx hb dX3_takeAway_0 rfl (lv_at hl 0 rfl) ?_
  refine lv_iload_n hx hb dX3_takeAway_1 rfl (lv_at hl 1 rfl) ?_
  refine zcr (As := [.int (nI k)]) (rest := []) (q0 := 0) S (c_X3_isSeenNow l D ca a T k (by omega)) ml_X3_55 zy_X3_isSeenNow im_X3_isSeenNow se_X3_isSeenNow ⟨Nat.le_of_ble_eq_true rfl, Nat.le_of_ble_eq_true rfl⟩ hK hP [0, 1, 2, 3, 4] rfl rfl rfl rfl rfl hl.1 rfl (Nat.le_of_ble_eq_true rfl) ⟨Nat.zero_le _, Nat.zero_le _⟩ dX3_takeAway_2 ?_
  refine zz_ne (tgt := 10) hx hb dX3_takeAway_5 (by decide) (fun c_5_1 => ?_) (fun c_5_1 => ?_)
  · refine lv_aload_n hx hb dX3_takeAway_10 rfl (lv_at hl 0 rfl) ?_
    refine lv_dup hx hb dX3_takeAway_11 rfl ?_
    refine z_get S in_lay_X3 hK hP rfl 0 rfl 4 (by decide) fl_X3_36 rfl rfl dX3_takeAway_12 ?_
    refine lv_iconst (v := 1) hx hb dX3_takeAway_15 (by decide) ?_
    refine lv_iadd hx hb dX3_takeAway_16 ?_
    refine z_put S in_lay_X3 tyX3_ok nmX3 hK hP hD hS rfl 0 rfl 4 (by decide) fl_X3_36 rfl rfl rfl rfl (Nat.le_of_ble_eq_true rfl) dX3_takeAway_17 (fun H locs hP hS => ?_)
    have hP : va_P D vwCl [(a 1, .inr (3, [.ref (a 2), .ref (a 3), .ref (a 4), .ref (a 5), .int (T.2.2.2.2.1 + 1), .int T.2.2.2.2.2])), (a 2, .inl (ca 0, 24, .inl T.1)), (a 3, .inl (ca 0, 24, .inl T.2.1)), (a 4, .inl (ca 0, 24, .inl T.2.2.1)), (a 5, .inl (ca 0, 6, .inl T.2.2.2.1))] H := hP
    have hD := zDto (ws := [(a 1, .inr (3, [.ref (a 2), .ref (a 3), .ref (a 4), .ref (a 5), .int (T.2.2.2.2.1 + 1), .int T.2.2.2.2.2])), (a 2, .inl (ca 0, 24, .inl T.1)), (a 3, .inl (ca 0, 24, .inl T.2.1)), (a 4, .inl (ca 0, 24, .inl T.2.2.1)), (a 5, .inl (ca 0, 6, .inl T.2.2.2.1))]) hN hA rfl
    refine lv_aload_n hx hb dX3_takeAway_20 rfl (lv_at hl 0 rfl) ?_
    refine lv_iload_n hx hb dX3_takeAway_21 rfl (lv_at hl 1 rfl) ?_
    refine zcw (As := [.int (nI k)]) (rest := []) (st1 := []) (q0 := 0) (lw := [a 1, a 2, a 3, a 4, a 5]) S (c_X3_go l D ca a (T.1, T.2.1, T.2.2.1, T.2.2.2.1, T.2.2.2.2.1 + 1, T.2.2.2.2.2) k (by omega) (znd_pick hN [0, 1, 2, 3, 4] rfl rfl)) ml_X3_59 zy_X3_go im_X3_go se_X3_go ⟨Nat.le_of_ble_eq_true rfl, Nat.le_of_ble_eq_true rfl⟩ hK hP hD hS [0, 1, 2, 3, 4] rfl rfl rfl rfl rfl rfl rfl hl.1 rfl rfl (Nat.le_of_ble_eq_true rfl) ⟨Nat.zero_le _, Nat.zero_le _⟩ dX3_takeAway_22 (fun H locs hP hS => ?_)
    have hP : va_P D vwCl [(a 1, .inr (3, [.ref (a 2), .ref (a 3), .ref (a 4), .ref (a 5), .int ((zGo (T.1, T.2.1, T.2.2.1, T.2.2.2.1, T.2.2.2.2.1 + 1, T.2.2.2.2.2) k).2.2.2.2.1), .int ((zGo (T.1, T.2.1, T.2.2.1, T.2.2.2.1, T.2.2.2.2.1 + 1, T.2.2.2.2.2) k).2.2.2.2.2)])), (a 2, .inl (ca 0, 24, .inl ((zGo (T.1, T.2.1, T.2.2.1, T.2.2.2.1, T.2.2.2.2.1 + 1, T.2.2.2.2.2) k).1))), (a 3, .inl (ca 0, 24, .inl ((zGo (T.1, T.2.1, T.2.2.1, T.2.2.2.1, T.2.2.2.2.1 + 1, T.2.2.2.2.2) k).2.1))), (a 4, .inl (ca 0, 24, .inl ((zGo (T.1, T.2.1, T.2.2.1, T.2.2.2.1, T.2.2.2.2.1 + 1, T.2.2.2.2.2) k).2.2.1))), (a 5, .inl (ca 0, 6, .inl ((zGo (T.1, T.2.1, T.2.2.1, T.2.2.2.1, T.2.2.2.2.1 + 1, T.2.2.2.2.2) k).2.2.2.1)))] H := hP
    have hD := zDto (ws := [(a 1, .inr (3, [.ref (a 2), .ref (a 3), .ref (a 4), .ref (a 5), .int ((zGo (T.1, T.2.1, T.2.2.1, T.2.2.2.1, T.2.2.2.2.1 + 1, T.2.2.2.2.2) k).2.2.2.2.1), .int ((zGo (T.1, T.2.1, T.2.2.1, T.2.2.2.1, T.2.2.2.2.1 + 1, T.2.2.2.2.2) k).2.2.2.2.2)])), (a 2, .inl (ca 0, 24, .inl ((zGo (T.1, T.2.1, T.2.2.1, T.2.2.2.1, T.2.2.2.2.1 + 1, T.2.2.2.2.2) k).1))), (a 3, .inl (ca 0, 24, .inl ((zGo (T.1, T.2.1, T.2.2.1, T.2.2.2.1, T.2.2.2.2.1 + 1, T.2.2.2.2.2) k).2.1))), (a 4, .inl (ca 0, 24, .inl ((zGo (T.1, T.2.1, T.2.2.1, T.2.2.2.1, T.2.2.2.2.1 + 1, T.2.2.2.2.2) k).2.2.1))), (a 5, .inl (ca 0, 6, .inl ((zGo (T.1, T.2.1, T.2.2.1, T.2.2.2.1, T.2.2.2.2.1 + 1, T.2.2.2.2.2) k).2.2.2.1)))]) hN hA rfl
    refine lv_iconst (v := 1) hx hb dX3_takeAway_25 (by decide) ?_
    have hz : zTake T k = (true, (zGo (T.1, T.2.1, T.2.2.1, T.2.2.2.1, T.2.2.2.2.1 + 1, T.2.2.2.2.2) k)) := by simp [zTake, zTick, c_5_1]
    exact zw_z hx hb hr hlk hP hS ⟨by rw [hz] <;> rfl, by rw [hz] <;> rfl⟩ dX3_takeAway_26
  · refine lv_iconst (v := 0) hx hb dX3_takeAway_8 (by decide) ?_
    have hz : zTake T k = (false, T) := by simp [zTake, zTick, c_5_1]
    exact zw_z hx hb hr hlk hP hS ⟨by rw [hz] <;> rfl, by rw [hz] <;> rfl⟩ dX3_takeAway_9
set_option maxHeartbeats 4000000 in
set_option maxRecDepth 100000 in
theorem c_X3_changeTo (l : Launch) (D : va_G) (ca : Nat → ClassId) (a : Nat → Nat) (T : zTb) (k : Nat) (hk : k < 24) (v : Int32) (hN : [a 1, a 2, a 3, a 4, a 5].Nodup) : zMw l yX3_changeTo cX3_changeTo 4 (some .int) 2 43 D ca [(a 1, .inr (3, [.ref (a 2), .ref (a 3), .ref (a 4), .ref (a 5), .int T.2.2.2.2.1, .int T.2.2.2.2.2])), (a 2, .inl (ca 0, 24, .inl T.1)), (a 3, .inl (ca 0, 24, .inl T.2.1)), (a 4, .inl (ca 0, 24, .inl T.2.2.1)), (a 5, .inl (ca 0, 6, .inl T.2.2.2.1))] ([(a 1, .inr (3, [.ref (a 2), .ref (a 3), .ref (a 4), .ref (a 5), .int (((zChg T k v).2).2.2.2.2.1), .int (((zChg T k v).2).2.2.2.2.2)])), (a 2, .inl (ca 0, 24, .inl (((zChg T k v).2).1))), (a 3, .inl (ca 0, 24, .inl (((zChg T k v).2).2.1))), (a 4, .inl (ca 0, 24, .inl (((zChg T k v).2).2.2.1))), (a 5, .inl (ca 0, 6, .inl (((zChg T k v).2).2.2.2.1)))]) [.ref (a 1), .int (nI k), .int v] (some (.int ((zChg T k v).1))) := by
  refine zMw_of (own := RX3) (by decide) rfl (Nat.le_of_ble_eq_true rfl) ?_
  intro p e s m args below meth c ls S hr hlk hP hK hl hS
  have hP : va_P D vwCl [(a 1, .inr (3, [.ref (a 2), .ref (a 3), .ref (a 4), .ref (a 5), .int T.2.2.2.2.1, .int T.2.2.2.2.2])), (a 2, .inl (ca 0, 24, .inl T.1)), (a 3, .inl (ca 0, 24, .inl T.2.1)), (a 4, .inl (ca 0, 24, .inl T.2.2.1)), (a 5, .inl (ca 0, 6, .inl T.2.2.2.1))] s.heap := hP
  have hS : va_S (zA [a 1, a 2, a 3, a 4, a 5]) s.heap s.heap [] := hS
  have hA : ∀ q ∈ [a 1, a 2, a 3, a 4, a 5], zA [a 1, a 2, a 3, a 4, a 5] q := fun _ h => h
  have hD := zDto (ws := [(a 1, .inr (3, [.ref (a 2), .ref (a 3), .ref (a 4), .ref (a 5), .int T.2.2.2.2.1, .int T.2.2.2.2.2])), (a 2, .inl (ca 0, 24, .inl T.1)), (a 3, .inl (ca 0, 24, .inl T.2.1)), (a 4, .inl (ca 0, 24, .inl T.2.2.1)), (a 5, .inl (ca 0, 6, .inl T.2.2.2.1))]) hN hA rfl
  have hx := S.1
  have hb := S.2.1
  have hl : lv_has ls 4 [(0, .ref (a 1)), (1, .int (nI k)), (2, .int v)] := hl
  refine lv_aload_n hx hb dX3_changeTo_0 rfl (lv_at hl 0 rfl) ?_
  refine zcr (As := []) (rest := []) (q0 := 0) S (c_X3_lowestEmptySlot l D ca a T ) ml_X3_47 zy_X3_lowestEmptySlot im_X3_lowestEmptySlot se_X3_lowestEmptySlot ⟨Nat.le_of_ble_eq_true rfl, Nat.le_of_ble_eq_true rfl⟩ hK hP [0, 1, 2, 3, 4] rfl rfl rfl rfl rfl hl.1 rfl (Nat.le_of_ble_eq_true rfl) ⟨Nat.zero_le _, Nat.zero_le _⟩ dX3_changeTo_1 ?_
  refine zNo_c (fun c_1_1 => ?_) (fun c_1_1 => ?_)
  · refine lv_istore_n (lv' := [(3, .int (nI (zLow T))), (0, .ref (a 1)), (1, .int (nI k)), (2, .int v)]) hx hb dX3_changeTo_4 rfl hl (by decide) rfl (fun ls hl => ?_)
    refine lv_iload_n hx hb dX3_changeTo_5 rfl (lv_at hl 0 rfl) ?_
    refine lv_iconst (v := (-1)) hx hb dX3_changeTo_6 (by decide) ?_
    refine lv_icmp_eq (tgt := 18) hx hb dX3_changeTo_7 (by decide) (fun h => absurd h (nI_nem1 (by omega))) (fun _ => ?_)
    refine lv_aload_n hx hb dX3_changeTo_10 rfl (lv_at hl 1 rfl) ?_
    refine lv_iload_n hx hb dX3_changeTo_11 rfl (lv_at hl 2 rfl) ?_
    refine zcr (As := [.int (nI k)]) (rest := []) (q0 := 0) S (c_X3_isSeenNow l D ca a T k (by omega)) ml_X3_55 zy_X3_isSeenNow im_X3_isSeenNow se_X3_isSeenNow ⟨Nat.le_of_ble_eq_true rfl, Nat.le_of_ble_eq_true rfl⟩ hK hP [0, 1, 2, 3, 4] rfl rfl rfl rfl rfl hl.1 rfl (Nat.le_of_ble_eq_true rfl) ⟨Nat.zero_le _, Nat.zero_le _⟩ dX3_changeTo_12 ?_
    refine zz_ne (tgt := 20) hx hb dX3_changeTo_15 (by decide) (fun c_15_2 => ?_) (fun c_15_2 => ?_)
    · refine lv_aload_n hx hb dX3_changeTo_20 rfl (lv_at hl 1 rfl) ?_
      refine lv_dup hx hb dX3_changeTo_21 rfl ?_
      refine z_get S in_lay_X3 hK hP rfl 0 rfl 4 (by decide) fl_X3_36 rfl rfl dX3_changeTo_22 ?_
      refine lv_iconst (v := 1) hx hb dX3_changeTo_25 (by decide) ?_
      refine lv_iadd hx hb dX3_changeTo_26 ?_
      refine z_put S in_lay_X3 tyX3_ok nmX3 hK hP hD hS rfl 0 rfl 4 (by decide) fl_X3_36 rfl rfl rfl rfl (Nat.le_of_ble_eq_true rfl) dX3_changeTo_27 (fun H locs hP hS => ?_)
      have hP : va_P D vwCl [(a 1, .inr (3, [.ref (a 2), .ref (a 3), .ref (a 4), .ref (a 5), .int (T.2.2.2.2.1 + 1), .int T.2.2.2.2.2])), (a 2, .inl (ca 0, 24, .inl T.1)), (a 3, .inl (ca 0, 24, .inl T.2.1)), (a 4, .inl (ca 0, 24, .inl T.2.2.1)), (a 5, .inl (ca 0, 6, .inl T.2.2.2.1))] H := hP
      have hD := zDto (ws := [(a 1, .inr (3, [.ref (a 2), .ref (a 3), .ref (a 4), .ref (a 5), .int (T.2.2.2.2.1 + 1), .int T.2.2.2.2.2])), (a 2, .inl (ca 0, 24, .inl T.1)), (a 3, .inl (ca 0, 24, .inl T.2.1)), (a 4, .inl (ca 0, 24, .inl T.2.2.1)), (a 5, .inl (ca 0, 6, .inl T.2.2.2.1))]) hN hA rfl
      refine lv_aload_n hx hb dX3_changeTo_30 rfl (lv_at hl 1 rfl) ?_
      refine lv_iload_n hx hb dX3_changeTo_31 rfl (lv_at hl 2 rfl) ?_
      refine zcw (As := [.int (nI k)]) (rest := []) (st1 := []) (q0 := 0) (lw := [a 1, a 2, a 3, a 4, a 5]) S (c_X3_go l D ca a (T.1, T.2.1, T.2.2.1, T.2.2.2.1, T.2.2.2.2.1 + 1, T.2.2.2.2.2) k (by omega) (znd_pick hN [0, 1, 2, 3, 4] rfl rfl)) ml_X3_59 zy_X3_go im_X3_go se_X3_go ⟨Nat.le_of_ble_eq_true rfl, Nat.le_of_ble_eq_true rfl⟩ hK hP hD hS [0, 1, 2, 3, 4] rfl rfl rfl rfl rfl rfl rfl hl.1 rfl rfl (Nat.le_of_ble_eq_true rfl) ⟨Nat.zero_le _, Nat.zero_le _⟩ dX3_changeTo_32 (fun H locs hP hS => ?_)
      have hP : va_P D vwCl [(a 1, .inr (3, [.ref (a 2), .ref (a 3), .ref (a 4), .ref (a 5), .int ((zGo (T.1, T.2.1, T.2.2.1, T.2.2.2.1, T.2.2.2.2.1 + 1, T.2.2.2.2.2) k).2.2.2.2.1), .int ((zGo (T.1, T.2.1, T.2.2.1, T.2.2.2.1, T.2.2.2.2.1 + 1, T.2.2.2.2.2) k).2.2.2.2.2)])), (a 2, .inl (ca 0, 24, .inl ((zGo (T.1, T.2.1, T.2.2.1, T.2.2.2.1, T.2.2.2.2.1 + 1, T.2.2.2.2.2) k).1))), (a 3, .inl (ca 0, 24, .inl ((zGo (T.1, T.2.1, T.2.2.1, T.2.2.2.1, T.2.2.2.2.1 + 1, T.2.2.2.2.2) k).2.1))), (a 4, .inl (ca 0, 24, .inl ((zGo (T.1, T.2.1, T.2.2.1, T.2.2.2.1, T.2.2.2.2.1 + 1, T.2.2.2.2.2) k).2.2.1))), (a 5, .inl (ca 0, 6, .inl ((zGo (T.1, T.2.1, T.2.2.1, T.2.2.2.1, T.2.2.2.2.1 + 1, T.2.2.2.2.2) k).2.2.2.1)))] H := hP
      have hD := zDto (ws := [(a 1, .inr (3, [.ref (a 2), .ref (a 3), .ref (a 4), .ref (a 5), .int ((zGo (T.1, T.2.1, T.2.2.1, T.2.2.2.1, T.2.2.2.2.1 + 1, T.2.2.2.2.2) k).2.2.2.2.1), .int ((zGo (T.1, T.2.1, T.2.2.1, T.2.2.2.1, T.2.2.2.2.1 + 1, T.2.2.2.2.2) k).2.2.2.2.2)])), (a 2, .inl (ca 0, 24, .inl ((zGo (T.1, T.2.1, T.2.2.1, T.2.2.2.1, T.2.2.2.2.1 + 1, T.2.2.2.2.2) k).1))), (a 3, .inl (ca 0, 24, .inl ((zGo (T.1, T.2.1, T.2.2.1, T.2.2.2.1, T.2.2.2.2.1 + 1, T.2.2.2.2.2) k).2.1))), (a 4, .inl (ca 0, 24, .inl ((zGo (T.1, T.2.1, T.2.2.1, T.2.2.2.1, T.2.2.2.2.1 + 1, T.2.2.2.2.2) k).2.2.1))), (a 5, .inl (ca 0, 6, .inl ((zGo (T.1, T.2.1, T.2.2.1, T.2.2.2.1, T.2.2.2.2.1 + 1, T.2.2.2.2.2) k).2.2.2.1)))]) hN hA rfl
      refine lv_aload_n hx hb dX3_changeTo_35 rfl (lv_at hl 1 rfl) ?_
      refine lv_iload_n hx hb dX3_changeTo_36 rfl (lv_at hl 0 rfl) ?_
      refine lv_iload_n hx hb dX3_changeTo_37 rfl (lv_at hl 3 rfl) ?_
      refine zcw (As := [.int (nI (zLow T)), .int v]) (rest := []) (st1 := []) (q0 := 0) (lw := [a 1, a 2, a 3, a 4, a 5]) S (c_X3_come l D ca a (zGo (T.1, T.2.1, T.2.2.1, T.2.2.2.1, T.2.2.2.2.1 + 1, T.2.2.2.2.2) k) (zLow T) (by omega) v (znd_pick hN [0, 1, 2, 3, 4] rfl rfl)) ml_X3_51 zy_X3_come im_X3_come se_X3_come ⟨Nat.le_of_ble_eq_true rfl, Nat.le_of_ble_eq_true rfl⟩ hK hP hD hS [0, 1, 2, 3, 4] rfl rfl rfl rfl rfl rfl rfl hl.1 rfl rfl (Nat.le_of_ble_eq_true rfl) ⟨Nat.zero_le _, Nat.zero_le _⟩ dX3_changeTo_38 (fun H locs hP hS => ?_)
      have hP : va_P D vwCl [(a 1, .inr (3, [.ref (a 2), .ref (a 3), .ref (a 4), .ref (a 5), .int ((zCome (zGo (T.1, T.2.1, T.2.2.1, T.2.2.2.1, T.2.2.2.2.1 + 1, T.2.2.2.2.2) k) (zLow T) v).2.2.2.2.1), .int ((zCome (zGo (T.1, T.2.1, T.2.2.1, T.2.2.2.1, T.2.2.2.2.1 + 1, T.2.2.2.2.2) k) (zLow T) v).2.2.2.2.2)])), (a 2, .inl (ca 0, 24, .inl ((zCome (zGo (T.1, T.2.1, T.2.2.1, T.2.2.2.1, T.2.2.2.2.1 + 1, T.2.2.2.2.2) k) (zLow T) v).1))), (a 3, .inl (ca 0, 24, .inl ((zCome (zGo (T.1, T.2.1, T.2.2.1, T.2.2.2.1, T.2.2.2.2.1 + 1, T.2.2.2.2.2) k) (zLow T) v).2.1))), (a 4, .inl (ca 0, 24, .inl ((zCome (zGo (T.1, T.2.1, T.2.2.1, T.2.2.2.1, T.2.2.2.2.1 + 1, T.2.2.2.2.2) k) (zLow T) v).2.2.1))), (a 5, .inl (ca 0, 6, .inl ((zCome (zGo (T.1, T.2.1, T.2.2.1, T.2.2.2.1, T.2.2.2.2.1 + 1, T.2.2.2.2.2) k) (zLow T) v).2.2.2.1)))] H := hP
      have hD := zDto (ws := [(a 1, .inr (3, [.ref (a 2), .ref (a 3), .ref (a 4), .ref (a 5), .int ((zCome (zGo (T.1, T.2.1, T.2.2.1, T.2.2.2.1, T.2.2.2.2.1 + 1, T.2.2.2.2.2) k) (zLow T) v).2.2.2.2.1), .int ((zCome (zGo (T.1, T.2.1, T.2.2.1, T.2.2.2.1, T.2.2.2.2.1 + 1, T.2.2.2.2.2) k) (zLow T) v).2.2.2.2.2)])), (a 2, .inl (ca 0, 24, .inl ((zCome (zGo (T.1, T.2.1, T.2.2.1, T.2.2.2.1, T.2.2.2.2.1 + 1, T.2.2.2.2.2) k) (zLow T) v).1))), (a 3, .inl (ca 0, 24, .inl ((zCome (zGo (T.1, T.2.1, T.2.2.1, T.2.2.2.1, T.2.2.2.2.1 + 1, T.2.2.2.2.2) k) (zLow T) v).2.1))), (a 4, .inl (ca 0, 24, .inl ((zCome (zGo (T.1, T.2.1, T.2.2.1, T.2.2.2.1, T.2.2.2.2.1 + 1, T.2.2.2.2.2) k) (zLow T) v).2.2.1))), (a 5, .inl (ca 0, 6, .inl ((zCome (zGo (T.1, T.2.1, T.2.2.1, T.2.2.2.1, T.2.2.2.2.1 + 1, T.2.2.2.2.2) k) (zLow T) v).2.2.2.1)))]) hN hA rfl
      refine lv_iload_n hx hb dX3_changeTo_41 rfl (lv_at hl 0 rfl) ?_
      have hz : zChg T k v = (nI (zLow T), (zCome (zGo (T.1, T.2.1, T.2.2.1, T.2.2.2.1, T.2.2.2.2.1 + 1, T.2.2.2.2.2) k) (zLow T) v)) := by simp [zChg, zTick, c_1_1, c_15_2]
      exact zw_i hx hb hr hlk hP hS ⟨by rw [hz] <;> rfl, by rw [hz] <;> rfl⟩ dX3_changeTo_42
    · refine lv_iconst (v := (-1)) hx hb dX3_changeTo_18 (by decide) ?_
      have hz : zChg T k v = ((-1), T) := by simp [zChg, zTick, c_1_1, c_15_2]
      exact zw_i hx hb hr hlk hP hS ⟨by rw [hz] <;> rfl, by rw [hz] <;> rfl⟩ dX3_changeTo_19
  · refine lv_istore_n (lv' := [(3, .int (-1)), (0, .ref (a 1)), (1, .int (nI k)), (2, .int v)]) hx hb dX3_changeTo_4 rfl hl (by decide) rfl (fun ls hl => ?_)
    refine lv_iload_n hx hb dX3_changeTo_5 rfl (lv_at hl 0 rfl) ?_
    refine lv_iconst (v := (-1)) hx hb dX3_changeTo_6 (by decide) ?_
    refine lv_icmp_eq (tgt := 18) hx hb dX3_changeTo_7 (by decide) (fun _ => ?_) (fun h => absurd (by decide) h)
    refine lv_iconst (v := (-1)) hx hb dX3_changeTo_18 (by decide) ?_
    have hz : zChg T k v = ((-1), T) := by simp [zChg, zTick, c_1_1]
    exact zw_i hx hb hr hlk hP hS ⟨by rw [hz] <;> rfl, by rw [hz] <;> rfl⟩ dX3_changeTo_19
set_option maxHeartbeats 4000000 in
set_option maxRecDepth 100000 in
theorem c_X3_sweepPage (l : Launch) (D : va_G) (ca : Nat → ClassId) (a : Nat → Nat) (T : zTb) (p0 : Nat) (hp : p0 < 6) (t : Int32) (hN : [a 1, a 2, a 3, a 4, a 5].Nodup) : zMw l yX3_sweepPage cX3_sweepPage 7 (some .int) 1 22 D ca [(a 1, .inr (3, [.ref (a 2), .ref (a 3), .ref (a 4), .ref (a 5), .int T.2.2.2.2.1, .int T.2.2.2.2.2])), (a 2, .inl (ca 0, 24, .inl T.1)), (a 3, .inl (ca 0, 24, .inl T.2.1)), (a 4, .inl (ca 0, 24, .inl T.2.2.1)), (a 5, .inl (ca 0, 6, .inl T.2.2.2.1))] ([(a 1, .inr (3, [.ref (a 2), .ref (a 3), .ref (a 4), .ref (a 5), .int (((zSweep T p0 t).2).2.2.2.2.1), .int (((zSweep T p0 t).2).2.2.2.2.2)])), (a 2, .inl (ca 0, 24, .inl (((zSweep T p0 t).2).1))), (a 3, .inl (ca 0, 24, .inl (((zSweep T p0 t).2).2.1))), (a 4, .inl (ca 0, 24, .inl (((zSweep T p0 t).2).2.2.1))), (a 5, .inl (ca 0, 6, .inl (((zSweep T p0 t).2).2.2.2.1)))]) [.ref (a 1), .int (nI p0), .int t] (some (.int ((zSweep T p0 t).1))) := by
  refine zMw_of (own := RX3) (by decide) rfl (Nat.le_of_ble_eq_true rfl) ?_
  intro p e s m args below meth c ls S hr hlk hP hK hl hS
  have hP : va_P D vwCl [(a 1, .inr (3, [.ref (a 2), .ref (a 3), .ref (a 4), .ref (a 5), .int T.2.2.2.2.1, .int T.2.2.2.2.2])), (a 2, .inl (ca 0, 24, .inl T.1)), (a 3, .inl (ca 0, 24, .inl T.2.1)), (a 4, .inl (ca 0, 24, .inl T.2.2.1)), (a 5, .inl (ca 0, 6, .inl T.2.2.2.1))] s.heap := hP
  have hS : va_S (zA [a 1, a 2, a 3, a 4, a 5]) s.heap s.heap [] := hS
  have hA : ∀ q ∈ [a 1, a 2, a 3, a 4, a 5], zA [a 1, a 2, a 3, a 4, a 5] q := fun _ h => h
  have hD := zDto (ws := [(a 1, .inr (3, [.ref (a 2), .ref (a 3), .ref (a 4), .ref (a 5), .int T.2.2.2.2.1, .int T.2.2.2.2.2])), (a 2, .inl (ca 0, 24, .inl T.1)), (a 3, .inl (ca 0, 24, .inl T.2.1)), (a 4, .inl (ca 0, 24, .inl T.2.2.1)), (a 5, .inl (ca 0, 6, .inl T.2.2.2.1))]) hN hA rfl
  have hx := S.1
  have hb := S.2.1
  have hl : lv_has ls 7 [(0, .ref (a 1)), (1, .int (nI p0)), (2, .int t)] := hl
  refine lv_iconst (v := 0) hx hb dX3_sweepPage_0 (by decide) ?_
  refine lv_istore_n (lv' := [(3, .int 0), (0, .ref (a 1)), (1, .int (nI p0)), (2, .int t)]) hx hb dX3_sweepPage_1 rfl hl (by decide) rfl (fun ls hl => ?_)
  refine lv_iconst (v := 1) hx hb dX3_sweepPage_2 (by decide) ?_
  refine lv_istore (lv' := [(4, .int 1), (3, .int 0), (0, .ref (a 1)), (1, .int (nI p0)), (2, .int t)]) hx hb dX3_sweepPage_3 hl (by decide) rfl (fun ls hl => ?_)
  refine lv_iload_n hx hb dX3_sweepPage_5 rfl (lv_at hl 3 rfl) ?_
  refine lv_iconst (v := 4) hx hb dX3_sweepPage_6 (by decide) ?_
  refine zn_mul hx hb (x := p0) (y := 4) (z := p0 * 4) (by first | rfl | omega) dX3_sweepPage_7 ?_
  refine lv_istore (lv' := [(5, .int (nI (p0 * 4))), (4, .int 1), (3, .int 0), (0, .ref (a 1)), (1, .int (nI p0)), (2, .int t)]) hx hb dX3_sweepPage_8 hl (by decide) rfl (fun ls hl => ?_)
  refine lv_iload hx hb dX3_sweepPage_10 (lv_at hl 0 rfl) ?_
  refine lv_istore (lv' := [(6, .int (nI (p0 * 4))), (5, .int (nI (p0 * 4))), (4, .int 1), (3, .int 0), (0, .ref (a 1)), (1, .int (nI p0)), (2, .int t)]) hx hb dX3_sweepPage_12 hl (by decide) rfl (fun ls hl => ?_)
  have loop_0 : ∀ (f : Nat) (k : Nat) (U : zTb) (n : Int32) (b : Bool) (H : Heap) (locs : List Loc) (ls : Array Slot), k + f = p0 * 4 + 4 → zsw t 4 (p0 * 4) T 0 true = zsw t f k U n b → lv_has ls 7 [(0, .ref (a 1)), (1, .int (nI p0)), (2, .int t), (3, .int n), (4, .int (zb b)), (5, .int (nI (p0 * 4))), (6, .int (nI k))] → va_P D vwCl [(a 1, .inr (3, [.ref (a 2), .ref (a 3), .ref (a 4), .ref (a 5), .int U.2.2.2.2.1, .int U.2.2.2.2.2])), (a 2, .inl (ca 0, 24, .inl U.1)), (a 3, .inl (ca 0, 24, .inl U.2.1)), (a 4, .inl (ca 0, 24, .inl U.2.2.1)), (a 5, .inl (ca 0, 6, .inl U.2.2.2.1))] H → va_S (zA [a 1, a 2, a 3, a 4, a 5]) s.heap H locs → W p l e { frames := 1, cells := 0, slots := 0, locals := 22 } s m args below meth c H locs 0 0 (MQ below (zQw D [a 1, a 2, a 3, a 4, a 5] ([(a 1, .inr (3, [.ref (a 2), .ref (a 3), .ref (a 4), .ref (a 5), .int (((zSweep T p0 t).2).2.2.2.2.1), .int (((zSweep T p0 t).2).2.2.2.2.2)])), (a 2, .inl (ca 0, 24, .inl (((zSweep T p0 t).2).1))), (a 3, .inl (ca 0, 24, .inl (((zSweep T p0 t).2).2.1))), (a 4, .inl (ca 0, 24, .inl (((zSweep T p0 t).2).2.2.1))), (a 5, .inl (ca 0, 6, .inl (((zSweep T p0 t).2).2.2.2.1)))]) (some (.int ((zSweep T p0 t).1)))) args s 0 0 (zA [a 1, a 2, a 3, a 4, a 5])) (F0 m 14 ls []) := by
    intro f
    induction f with
    | zero =>
      intro k U n b H locs ls j1 j2 hl hP hS
      have hD := zDto (ws := [(a 1, .inr (3, [.ref (a 2), .ref (a 3), .ref (a 4), .ref (a 5), .int U.2.2.2.2.1, .int U.2.2.2.2.2])), (a 2, .inl (ca 0, 24, .inl U.1)), (a 3, .inl (ca 0, 24, .inl U.2.1)), (a 4, .inl (ca 0, 24, .inl U.2.2.1)), (a 5, .inl (ca 0, 6, .inl U.2.2.2.1))]) hN hA rfl
      refine lv_iload hx hb dX3_sweepPage_14 (lv_at hl 6 rfl) ?_
      refine lv_iload hx hb dX3_sweepPage_16 (lv_at hl 5 rfl) ?_
      refine lv_iconst (v := 4) hx hb dX3_sweepPage_18 (by decide) ?_
      refine zn_add hx hb (x := p0 * 4) (y := 4) (z := (p0 * 4) + 4) (by omega) dX3_sweepPage_19 ?_
      refine zn_ge hx hb (x := k) (y := (p0 * 4) + 4) (by omega) (by omega) (tgt := 75) dX3_sweepPage_20 (by decide) (fun c_20_2 => ?_) (fun h => False.elim (by omega))
      refine lv_iload hx hb dX3_sweepPage_75 (lv_at hl 4 rfl) ?_
      refine zz_eq (tgt := 87) hx hb dX3_sweepPage_77 (by decide) (fun c_77_3 => ?_) (fun c_77_3 => ?_)
      · refine lv_aload_n hx hb dX3_sweepPage_87 rfl (lv_at hl 0 rfl) ?_
        refine lv_dup hx hb dX3_sweepPage_88 rfl ?_
        refine z_get S in_lay_X3 hK hP rfl 0 rfl 5 (by decide) fl_X3_40 rfl rfl dX3_sweepPage_89 ?_
        refine lv_iload_n hx hb dX3_sweepPage_92 rfl (lv_at hl 3 rfl) ?_
        refine lv_iadd hx hb dX3_sweepPage_93 ?_
        refine z_put S in_lay_X3 tyX3_ok nmX3 hK hP hD hS rfl 0 rfl 5 (by decide) fl_X3_40 rfl rfl rfl rfl (Nat.le_of_ble_eq_true rfl) dX3_sweepPage_94 (fun H locs hP hS => ?_)
        have hP : va_P D vwCl [(a 1, .inr (3, [.ref (a 2), .ref (a 3), .ref (a 4), .ref (a 5), .int U.2.2.2.2.1, .int (U.2.2.2.2.2 + n)])), (a 2, .inl (ca 0, 24, .inl U.1)), (a 3, .inl (ca 0, 24, .inl U.2.1)), (a 4, .inl (ca 0, 24, .inl U.2.2.1)), (a 5, .inl (ca 0, 6, .inl U.2.2.2.1))] H := hP
        have hD := zDto (ws := [(a 1, .inr (3, [.ref (a 2), .ref (a 3), .ref (a 4), .ref (a 5), .int U.2.2.2.2.1, .int (U.2.2.2.2.2 + n)])), (a 2, .inl (ca 0, 24, .inl U.1)), (a 3, .inl (ca 0, 24, .inl U.2.1)), (a 4, .inl (ca 0, 24, .inl U.2.2.1)), (a 5, .inl (ca 0, 6, .inl U.2.2.2.1))]) hN hA rfl
        refine lv_iload_n hx hb dX3_sweepPage_97 rfl (lv_at hl 3 rfl) ?_
        have hz : zSweep T p0 t = (n, (U.1, U.2.1, U.2.2.1, U.2.2.2.1, U.2.2.2.2.1, U.2.2.2.2.2 + n)) := by rw [zSweep, j2]; simp [zsw, zswE, c_20_2, c_77_3]
        exact zw_i hx hb hr hlk hP hS ⟨by rw [hz] <;> rfl, by rw [hz] <;> rfl⟩ dX3_sweepPage_98
      · refine lv_aload_n hx hb dX3_sweepPage_80 rfl (lv_at hl 0 rfl) ?_
        refine z_get S in_lay_X3 hK hP rfl 0 rfl 3 (by decide) fl_X3_21 rfl rfl dX3_sweepPage_81 ?_
        refine lv_iload_n hx hb dX3_sweepPage_84 rfl (lv_at hl 1 rfl) ?_
        refine lv_iload_n hx hb dX3_sweepPage_85 rfl (lv_at hl 2 rfl) ?_
        refine z_iast S hK hP hD hS 4 rfl (j := p0) (by omega) (by decide) dX3_sweepPage_86 (fun H locs hP hS => ?_)
        have hP : va_P D vwCl [(a 1, .inr (3, [.ref (a 2), .ref (a 3), .ref (a 4), .ref (a 5), .int U.2.2.2.2.1, .int U.2.2.2.2.2])), (a 2, .inl (ca 0, 24, .inl U.1)), (a 3, .inl (ca 0, 24, .inl U.2.1)), (a 4, .inl (ca 0, 24, .inl U.2.2.1)), (a 5, .inl (ca 0, 6, .inl (upd U.2.2.2.1 p0 t)))] H := hP
        have hD := zDto (ws := [(a 1, .inr (3, [.ref (a 2), .ref (a 3), .ref (a 4), .ref (a 5), .int U.2.2.2.2.1, .int U.2.2.2.2.2])), (a 2, .inl (ca 0, 24, .inl U.1)), (a 3, .inl (ca 0, 24, .inl U.2.1)), (a 4, .inl (ca 0, 24, .inl U.2.2.1)), (a 5, .inl (ca 0, 6, .inl (upd U.2.2.2.1 p0 t)))]) hN hA rfl
        refine lv_aload_n hx hb dX3_sweepPage_87 rfl (lv_at hl 0 rfl) ?_
        refine lv_dup hx hb dX3_sweepPage_88 rfl ?_
        refine z_get S in_lay_X3 hK hP rfl 0 rfl 5 (by decide) fl_X3_40 rfl rfl dX3_sweepPage_89 ?_
        refine lv_iload_n hx hb dX3_sweepPage_92 rfl (lv_at hl 3 rfl) ?_
        refine lv_iadd hx hb dX3_sweepPage_93 ?_
        refine z_put S in_lay_X3 tyX3_ok nmX3 hK hP hD hS rfl 0 rfl 5 (by decide) fl_X3_40 rfl rfl rfl rfl (Nat.le_of_ble_eq_true rfl) dX3_sweepPage_94 (fun H locs hP hS => ?_)
        have hP : va_P D vwCl [(a 1, .inr (3, [.ref (a 2), .ref (a 3), .ref (a 4), .ref (a 5), .int U.2.2.2.2.1, .int (U.2.2.2.2.2 + n)])), (a 2, .inl (ca 0, 24, .inl U.1)), (a 3, .inl (ca 0, 24, .inl U.2.1)), (a 4, .inl (ca 0, 24, .inl U.2.2.1)), (a 5, .inl (ca 0, 6, .inl (upd U.2.2.2.1 p0 t)))] H := hP
        have hD := zDto (ws := [(a 1, .inr (3, [.ref (a 2), .ref (a 3), .ref (a 4), .ref (a 5), .int U.2.2.2.2.1, .int (U.2.2.2.2.2 + n)])), (a 2, .inl (ca 0, 24, .inl U.1)), (a 3, .inl (ca 0, 24, .inl U.2.1)), (a 4, .inl (ca 0, 24, .inl U.2.2.1)), (a 5, .inl (ca 0, 6, .inl (upd U.2.2.2.1 p0 t)))]) hN hA rfl
        refine lv_iload_n hx hb dX3_sweepPage_97 rfl (lv_at hl 3 rfl) ?_
        have hz : zSweep T p0 t = (n, (U.1, U.2.1, U.2.2.1, upd U.2.2.2.1 p0 t, U.2.2.2.2.1, U.2.2.2.2.2 + n)) := by rw [zSweep, j2]; simp [zsw, zswE, c_20_2, c_77_3]
        exact zw_i hx hb hr hlk hP hS ⟨by rw [hz] <;> rfl, by rw [hz] <;> rfl⟩ dX3_sweepPage_98
    | succ f ih =>
      intro k U n b H locs ls j1 j2 hl hP hS
      have hD := zDto (ws := [(a 1, .inr (3, [.ref (a 2), .ref (a 3), .ref (a 4), .ref (a 5), .int U.2.2.2.2.1, .int U.2.2.2.2.2])), (a 2, .inl (ca 0, 24, .inl U.1)), (a 3, .inl (ca 0, 24, .inl U.2.1)), (a 4, .inl (ca 0, 24, .inl U.2.2.1)), (a 5, .inl (ca 0, 6, .inl U.2.2.2.1))]) hN hA rfl
      refine lv_iload hx hb dX3_sweepPage_14 (lv_at hl 6 rfl) ?_
      refine lv_iload hx hb dX3_sweepPage_16 (lv_at hl 5 rfl) ?_
      refine lv_iconst (v := 4) hx hb dX3_sweepPage_18 (by decide) ?_
      refine zn_add hx hb (x := p0 * 4) (y := 4) (z := (p0 * 4) + 4) (by omega) dX3_sweepPage_19 ?_
      refine zn_ge hx hb (x := k) (y := (p0 * 4) + 4) (by omega) (by omega) (tgt := 75) dX3_sweepPage_20 (by decide) (fun h => False.elim (by omega)) (fun c_20_4 => ?_)
      refine lv_aload_n hx hb dX3_sweepPage_23 rfl (lv_at hl 0 rfl) ?_
      refine lv_iload hx hb dX3_sweepPage_24 (lv_at hl 6 rfl) ?_
      refine lv_iload_n hx hb dX3_sweepPage_26 rfl (lv_at hl 2 rfl) ?_
      refine zcr (As := [.int (nI k), .int t]) (rest := []) (q0 := 0) S (c_X3_isToTakeOut l D ca a U k (by omega) t) ml_X3_63 zy_X3_isToTakeOut im_X3_isToTakeOut se_X3_isToTakeOut ⟨Nat.le_of_ble_eq_true rfl, Nat.le_of_ble_eq_true rfl⟩ hK hP [0, 1, 2, 3, 4] rfl rfl rfl rfl rfl hl.1 rfl (Nat.le_of_ble_eq_true rfl) ⟨Nat.zero_le _, Nat.zero_le _⟩ dX3_sweepPage_27 ?_
      refine zz_eq (tgt := 45) hx hb dX3_sweepPage_30 (by decide) (fun c_30_5 => ?_) (fun c_30_5 => ?_)
      · refine lv_aload_n hx hb dX3_sweepPage_45 rfl (lv_at hl 0 rfl) ?_
        refine z_get S in_lay_X3 hK hP rfl 0 rfl 0 (by decide) fl_X3_9 rfl rfl dX3_sweepPage_46 ?_
        refine lv_iload hx hb dX3_sweepPage_49 (lv_at hl 6 rfl) ?_
        refine z_iald S hK hP 1 rfl (j := k) (by omega) (by decide) dX3_sweepPage_51 ?_
        refine lv_iconst (v := (-1)) hx hb dX3_sweepPage_52 (by decide) ?_
        refine lv_icmp_eq (tgt := 69) hx hb dX3_sweepPage_53 (by decide) (fun c_53_6 => ?_) (fun c_53_6 => ?_)
        · refine lv_iinc (v := nI (k + 1)) (lv' := [(6, .int (nI (k + 1))), (0, .ref (a 1)), (1, .int (nI p0)), (2, .int t), (3, .int n), (4, .int (zb b)), (5, .int (nI (p0 * 4)))]) hx hb dX3_sweepPage_69 hl (k := 6) rfl (zinc k 1) (by decide) rfl (fun ls hl => ?_)
          refine lv_goto (tgt := 14) hx hb dX3_sweepPage_72 (by decide) ?_
          exact ih (k + 1) U n b _ _ ls (by omega) (by rw [j2]; simp only [zsw, c_20_4, c_30_5, c_53_6, if_true, if_false, Bool.false_eq_true]) (lv_sub hl [1, 2, 3, 4, 5, 6, 0] rfl) hP hS
        · refine lv_aload_n hx hb dX3_sweepPage_56 rfl (lv_at hl 0 rfl) ?_
          refine lv_iload hx hb dX3_sweepPage_57 (lv_at hl 6 rfl) ?_
          refine lv_iload_n hx hb dX3_sweepPage_59 rfl (lv_at hl 2 rfl) ?_
          refine zcr (As := [.int (nI k), .int t]) (rest := []) (q0 := 0) S (c_X3_isSeenByAll l D ca a U k (by omega) t) ml_X3_69 zy_X3_isSeenByAll im_X3_isSeenByAll se_X3_isSeenByAll ⟨Nat.le_of_ble_eq_true rfl, Nat.le_of_ble_eq_true rfl⟩ hK hP [0, 1, 2, 3, 4] rfl rfl rfl rfl rfl hl.1 rfl (Nat.le_of_ble_eq_true rfl) ⟨Nat.zero_le _, Nat.zero_le _⟩ dX3_sweepPage_60 ?_
          refine zz_ne (tgt := 69) hx hb dX3_sweepPage_63 (by decide) (fun c_63_7 => ?_) (fun c_63_7 => ?_)
          · refine lv_iinc (v := nI (k + 1)) (lv' := [(6, .int (nI (k + 1))), (0, .ref (a 1)), (1, .int (nI p0)), (2, .int t), (3, .int n), (4, .int (zb b)), (5, .int (nI (p0 * 4)))]) hx hb dX3_sweepPage_69 hl (k := 6) rfl (zinc k 1) (by decide) rfl (fun ls hl => ?_)
            refine lv_goto (tgt := 14) hx hb dX3_sweepPage_72 (by decide) ?_
            exact ih (k + 1) U n b _ _ ls (by omega) (by rw [j2]; simp only [zsw, c_20_4, c_30_5, c_53_6, c_63_7, if_true, if_false, Bool.false_eq_true]) (lv_sub hl [1, 2, 3, 4, 5, 6, 0] rfl) hP hS
          · refine lv_iconst (v := 0) hx hb dX3_sweepPage_66 (by decide) ?_
            refine lv_istore (lv' := [(4, .int 0), (0, .ref (a 1)), (1, .int (nI p0)), (2, .int t), (3, .int n), (5, .int (nI (p0 * 4))), (6, .int (nI k))]) hx hb dX3_sweepPage_67 hl (by decide) rfl (fun ls hl => ?_)
            refine lv_iinc (v := nI (k + 1)) (lv' := [(6, .int (nI (k + 1))), (4, .int 0), (0, .ref (a 1)), (1, .int (nI p0)), (2, .int t), (3, .int n), (5, .int (nI (p0 * 4)))]) hx hb dX3_sweepPage_69 hl (k := 6) rfl (zinc k 1) (by decide) rfl (fun ls hl => ?_)
            refine lv_goto (tgt := 14) hx hb dX3_sweepPage_72 (by decide) ?_
            exact ih (k + 1) U n false _ _ ls (by omega) (by rw [j2]; simp only [zsw, c_20_4, c_30_5, c_53_6, c_63_7, if_true, if_false, Bool.false_eq_true]) (lv_sub hl [2, 3, 4, 5, 1, 6, 0] rfl) hP hS
      · refine lv_aload_n hx hb dX3_sweepPage_33 rfl (lv_at hl 0 rfl) ?_
        refine lv_iload hx hb dX3_sweepPage_34 (lv_at hl 6 rfl) ?_
        refine zcw (As := [.int (nI k)]) (rest := []) (st1 := []) (q0 := 0) (lw := [a 1, a 2, a 3, a 4, a 5]) S (c_X3_empty l D ca a U k (by omega) (znd_pick hN [0, 1, 2, 3, 4] rfl rfl)) ml_X3_66 zy_X3_empty im_X3_empty se_X3_empty ⟨Nat.le_of_ble_eq_true rfl, Nat.le_of_ble_eq_true rfl⟩ hK hP hD hS [0, 1, 2, 3, 4] rfl rfl rfl rfl rfl rfl rfl hl.1 rfl rfl (Nat.le_of_ble_eq_true rfl) ⟨Nat.zero_le _, Nat.zero_le _⟩ dX3_sweepPage_36 (fun H locs hP hS => ?_)
        have hP : va_P D vwCl [(a 1, .inr (3, [.ref (a 2), .ref (a 3), .ref (a 4), .ref (a 5), .int ((zEmp U k).2.2.2.2.1), .int ((zEmp U k).2.2.2.2.2)])), (a 2, .inl (ca 0, 24, .inl ((zEmp U k).1))), (a 3, .inl (ca 0, 24, .inl ((zEmp U k).2.1))), (a 4, .inl (ca 0, 24, .inl ((zEmp U k).2.2.1))), (a 5, .inl (ca 0, 6, .inl ((zEmp U k).2.2.2.1)))] H := hP
        have hD := zDto (ws := [(a 1, .inr (3, [.ref (a 2), .ref (a 3), .ref (a 4), .ref (a 5), .int ((zEmp U k).2.2.2.2.1), .int ((zEmp U k).2.2.2.2.2)])), (a 2, .inl (ca 0, 24, .inl ((zEmp U k).1))), (a 3, .inl (ca 0, 24, .inl ((zEmp U k).2.1))), (a 4, .inl (ca 0, 24, .inl ((zEmp U k).2.2.1))), (a 5, .inl (ca 0, 6, .inl ((zEmp U k).2.2.2.1)))]) hN hA rfl
        refine lv_iinc (v := n + 1) (lv' := [(3, .int (n + 1)), (0, .ref (a 1)), (1, .int (nI p0)), (2, .int t), (4, .int (zb b)), (5, .int (nI (p0 * 4))), (6, .int (nI k))]) hx hb dX3_sweepPage_39 hl (k := 3) rfl (rfl) (by decide) rfl (fun ls hl => ?_)
        refine lv_goto (tgt := 69) hx hb dX3_sweepPage_42 (by decide) ?_
        refine lv_iinc (v := nI (k + 1)) (lv' := [(6, .int (nI (k + 1))), (3, .int (n + 1)), (0, .ref (a 1)), (1, .int (nI p0)), (2, .int t), (4, .int (zb b)), (5, .int (nI (p0 * 4)))]) hx hb dX3_sweepPage_69 hl (k := 6) rfl (zinc k 1) (by decide) rfl (fun ls hl => ?_)
        refine lv_goto (tgt := 14) hx hb dX3_sweepPage_72 (by decide) ?_
        exact ih (k + 1) (zEmp U k) (n + 1) b _ _ ls (by omega) (by rw [j2]; simp only [zsw, c_20_4, c_30_5, if_true, if_false, Bool.false_eq_true]) (lv_sub hl [2, 3, 4, 1, 5, 6, 0] rfl) hP hS
  exact loop_0 4 (p0 * 4) T 0 true _ _ ls (by omega) (by rfl) (lv_sub hl [4, 5, 6, 3, 2, 1, 0] rfl) hP hS
