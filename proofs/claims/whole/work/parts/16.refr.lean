set_option maxHeartbeats 4000000 in
set_option maxRecDepth 100000 in
theorem c_X7_in (l : Launch) (D : va_G) (ca : Nat → ClassId) (v u w : Int32) : zMr l yX7_in cX7_in 3 (some .boolean) 0 0 D ca [] [.int v, .int u, .int w] (.int (zb (rIn v u w))) := by
  refine zMr_of (own := RX7) (by decide) rfl (Nat.le_of_ble_eq_true rfl) ?_
  intro p e s m args below meth c ls S hr hlk hP hK hl
  have hx := S.1
  have hb := S.2.1
  have hl : lv_has ls 3 [(0, .int v), (1, .int u), (2, .int w)] := hl
  refine lv_iload_n hx hb dX7_in_0 rfl (lv_at hl 0 rfl) ?_
  refine lv_iload_n hx hb dX7_in_1 rfl (lv_at hl 1 rfl) ?_
  refine lv_icmp_lt (tgt := 14) hx hb dX7_in_2 (by decide) (fun c_2_1 => ?_) (fun c_2_1 => ?_)
  · refine lv_iconst (v := 0) hx hb dX7_in_14 (by decide) ?_
    exact zr_z hx hb hr hlk (by simp [rIn, zb, c_2_1]) dX7_in_15
  · refine lv_iload_n hx hb dX7_in_5 rfl (lv_at hl 0 rfl) ?_
    refine lv_iload_n hx hb dX7_in_6 rfl (lv_at hl 2 rfl) ?_
    refine lv_icmp_gt (tgt := 14) hx hb dX7_in_7 (by decide) (fun c_7_2 => ?_) (fun c_7_2 => ?_)
    · refine lv_iconst (v := 0) hx hb dX7_in_14 (by decide) ?_
      exact zr_z hx hb hr hlk (by simp [rIn, zb, c_2_1, c_7_2]) dX7_in_15
    · refine lv_iconst (v := 1) hx hb dX7_in_10 (by decide) ?_
      refine lv_goto (tgt := 15) hx hb dX7_in_11 (by decide) ?_
      exact zr_z hx hb hr hlk (by simp [rIn, zb, c_2_1, c_7_2]) dX7_in_15
set_option maxHeartbeats 4000000 in
set_option maxRecDepth 100000 in
theorem c_X7_isPlace (l : Launch) (D : va_G) (ca : Nat → ClassId) (v : Int32) : zMr l yX7_isPlace cX7_isPlace 1 (some .boolean) 1 22 D ca [] [.int v] (.int (zb (rIn v 0 23))) := by
  refine zMr_of (own := RX7) (by decide) rfl (Nat.le_of_ble_eq_true rfl) ?_
  intro p e s m args below meth c ls S hr hlk hP hK hl
  have hx := S.1
  have hb := S.2.1
  have hl : lv_has ls 1 [(0, .int v)] := hl
  refine lv_iload_n hx hb dX7_isPlace_0 rfl (lv_at hl 0 rfl) ?_
  refine lv_iconst (v := 0) hx hb dX7_isPlace_1 (by decide) ?_
  refine lv_bipush (v := 23) hx hb dX7_isPlace_2 (by decide) ?_
  refine zcrS (As := [.int v, .int 0, .int 23]) (rest := []) S (c_X7_in l D ca v 0 23) ml_X7_26 zy_X7_in st_X7_in ⟨Nat.le_of_ble_eq_true rfl, Nat.le_of_ble_eq_true rfl⟩ hK hP [] rfl rfl hl.1 rfl (Nat.le_of_ble_eq_true rfl) ⟨Nat.zero_le _, Nat.zero_le _⟩ dX7_isPlace_4 ?_
  exact zr_z hx hb hr hlk (by rfl) dX7_isPlace_7
set_option maxHeartbeats 4000000 in
set_option maxRecDepth 100000 in
theorem c_X7_isPage (l : Launch) (D : va_G) (ca : Nat → ClassId) (v : Int32) : zMr l yX7_isPage cX7_isPage 1 (some .boolean) 1 22 D ca [] [.int v] (.int (zb (rIn v 0 5))) := by
  refine zMr_of (own := RX7) (by decide) rfl (Nat.le_of_ble_eq_true rfl) ?_
  intro p e s m args below meth c ls S hr hlk hP hK hl
  have hx := S.1
  have hb := S.2.1
  have hl : lv_has ls 1 [(0, .int v)] := hl
  refine lv_iload_n hx hb dX7_isPage_0 rfl (lv_at hl 0 rfl) ?_
  refine lv_iconst (v := 0) hx hb dX7_isPage_1 (by decide) ?_
  refine lv_iconst (v := 5) hx hb dX7_isPage_2 (by decide) ?_
  refine zcrS (As := [.int v, .int 0, .int 5]) (rest := []) S (c_X7_in l D ca v 0 5) ml_X7_26 zy_X7_in st_X7_in ⟨Nat.le_of_ble_eq_true rfl, Nat.le_of_ble_eq_true rfl⟩ hK hP [] rfl rfl hl.1 rfl (Nat.le_of_ble_eq_true rfl) ⟨Nat.zero_le _, Nat.zero_le _⟩ dX7_isPage_3 ?_
  exact zr_z hx hb hr hlk (by rfl) dX7_isPage_6
set_option maxHeartbeats 4000000 in
set_option maxRecDepth 100000 in
theorem c_X7_isAsker (l : Launch) (D : va_G) (ca : Nat → ClassId) (v : Int32) : zMr l yX7_isAsker cX7_isAsker 1 (some .boolean) 1 22 D ca [] [.int v] (.int (zb (rIn v 0 3))) := by
  refine zMr_of (own := RX7) (by decide) rfl (Nat.le_of_ble_eq_true rfl) ?_
  intro p e s m args below meth c ls S hr hlk hP hK hl
  have hx := S.1
  have hb := S.2.1
  have hl : lv_has ls 1 [(0, .int v)] := hl
  refine lv_iload_n hx hb dX7_isAsker_0 rfl (lv_at hl 0 rfl) ?_
  refine lv_iconst (v := 0) hx hb dX7_isAsker_1 (by decide) ?_
  refine lv_iconst (v := 3) hx hb dX7_isAsker_2 (by decide) ?_
  refine zcrS (As := [.int v, .int 0, .int 3]) (rest := []) S (c_X7_in l D ca v 0 3) ml_X7_26 zy_X7_in st_X7_in ⟨Nat.le_of_ble_eq_true rfl, Nat.le_of_ble_eq_true rfl⟩ hK hP [] rfl rfl hl.1 rfl (Nat.le_of_ble_eq_true rfl) ⟨Nat.zero_le _, Nat.zero_le _⟩ dX7_isAsker_3 ?_
  exact zr_z hx hb hr hlk (by rfl) dX7_isAsker_6
set_option maxHeartbeats 4000000 in
set_option maxRecDepth 100000 in
theorem c_X7_of (l : Launch) (D : va_G) (ca : Nat → ClassId) (o : Nat → Nat) (f0 f2 f3 f4 f5 f6 f7 f8 f9 f10 : Value) (sf : Nat → Int32) (k w : Nat) (hk : k < 24) (hw : w < 3) : zMr l yX7_of cX7_of 3 (some .int) 0 0 D ca [(o 0, .inr (7, [f0, .ref (o 1), f2, f3, f4, f5, f6, f7, f8, f9, f10])), (o 1, .inl (ca 0, 99, .inl sf))] [.ref (o 0), .int (nI k), .int (nI w)] (.int (rOf sf k w)) := by
  refine zMr_of (own := RX7) (by decide) rfl (Nat.le_of_ble_eq_true rfl) ?_
  intro p e s m args below meth c ls S hr hlk hP hK hl
  have hx := S.1
  have hb := S.2.1
  have hl : lv_has ls 3 [(0, .ref (o 0)), (1, .int (nI k)), (2, .int (nI w))] := hl
  refine lv_aload_n hx hb dX7_of_0 rfl (lv_at hl 0 rfl) ?_
  refine z_get S in_lay_X7 hK hP rfl 0 rfl 1 (by decide) fl_X7_7 rfl rfl dX7_of_1 ?_
  refine lv_bipush (v := 7) hx hb dX7_of_4 (by decide) ?_
  refine lv_iconst (v := 3) hx hb dX7_of_6 (by decide) ?_
  refine lv_iload_n hx hb dX7_of_7 rfl (lv_at hl 1 rfl) ?_
  refine zn_mul hx hb (x := 3) (y := k) (z := 3 * k) (by first | rfl | omega) dX7_of_8 ?_
  refine zn_add hx hb (x := 7) (y := 3 * k) (z := 7 + (3 * k)) (by omega) dX7_of_9 ?_
  refine lv_iload_n hx hb dX7_of_10 rfl (lv_at hl 2 rfl) ?_
  refine zn_add hx hb (x := 7 + (3 * k)) (y := w) (z := (7 + (3 * k)) + w) (by omega) dX7_of_11 ?_
  refine z_iald S hK hP 1 rfl (j := (7 + (3 * k)) + w) (by omega) (by decide) dX7_of_12 ?_
  exact zr_i hx hb hr hlk (by rfl) dX7_of_13
set_option maxHeartbeats 4000000 in
set_option maxRecDepth 100000 in
theorem c_X7_ofPage (l : Launch) (D : va_G) (ca : Nat → ClassId) (o : Nat → Nat) (f0 f2 f3 f4 f5 f6 f7 f8 f9 f10 : Value) (sf : Nat → Int32) (k w : Nat) (hk : k < 6) (hw : w < 2) : zMr l yX7_ofPage cX7_ofPage 3 (some .int) 0 0 D ca [(o 0, .inr (7, [f0, .ref (o 1), f2, f3, f4, f5, f6, f7, f8, f9, f10])), (o 1, .inl (ca 0, 99, .inl sf))] [.ref (o 0), .int (nI k), .int (nI w)] (.int (rPg sf k w)) := by
  refine zMr_of (own := RX7) (by decide) rfl (Nat.le_of_ble_eq_true rfl) ?_
  intro p e s m args below meth c ls S hr hlk hP hK hl
  have hx := S.1
  have hb := S.2.1
  have hl : lv_has ls 3 [(0, .ref (o 0)), (1, .int (nI k)), (2, .int (nI w))] := hl
  refine lv_aload_n hx hb dX7_ofPage_0 rfl (lv_at hl 0 rfl) ?_
  refine z_get S in_lay_X7 hK hP rfl 0 rfl 1 (by decide) fl_X7_7 rfl rfl dX7_ofPage_1 ?_
  refine lv_bipush (v := 79) hx hb dX7_ofPage_4 (by decide) ?_
  refine lv_iconst (v := 2) hx hb dX7_ofPage_6 (by decide) ?_
  refine lv_iload_n hx hb dX7_ofPage_7 rfl (lv_at hl 1 rfl) ?_
  refine zn_mul hx hb (x := 2) (y := k) (z := 2 * k) (by first | rfl | omega) dX7_ofPage_8 ?_
  refine zn_add hx hb (x := 79) (y := 2 * k) (z := 79 + (2 * k)) (by omega) dX7_ofPage_9 ?_
  refine lv_iload_n hx hb dX7_ofPage_10 rfl (lv_at hl 2 rfl) ?_
  refine zn_add hx hb (x := 79 + (2 * k)) (y := w) (z := (79 + (2 * k)) + w) (by omega) dX7_ofPage_11 ?_
  refine z_iald S hK hP 1 rfl (j := (79 + (2 * k)) + w) (by omega) (by decide) dX7_ofPage_12 ?_
  exact zr_i hx hb hr hlk (by rfl) dX7_ofPage_13
set_option maxHeartbeats 4000000 in
set_option maxRecDepth 100000 in
theorem c_X7_snapshotOf (l : Launch) (D : va_G) (ca : Nat → ClassId) (o : Nat → Nat) (f0 f2 f3 f4 f5 f6 f7 f8 f9 f10 : Value) (sf : Nat → Int32) (k : Nat) (hk : k < 4) : zMr l yX7_snapshotOf cX7_snapshotOf 2 (some .int) 0 0 D ca [(o 0, .inr (7, [f0, .ref (o 1), f2, f3, f4, f5, f6, f7, f8, f9, f10])), (o 1, .inl (ca 0, 99, .inl sf))] [.ref (o 0), .int (nI k)] (.int (rSn sf k)) := by
  refine zMr_of (own := RX7) (by decide) rfl (Nat.le_of_ble_eq_true rfl) ?_
  intro p e s m args below meth c ls S hr hlk hP hK hl
  have hx := S.1
  have hb := S.2.1
  have hl : lv_has ls 2 [(0, .ref (o 0)), (1, .int (nI k))] := hl
  refine lv_aload_n hx hb dX7_snapshotOf_0 rfl (lv_at hl 0 rfl) ?_
  refine z_get S in_lay_X7 hK hP rfl 0 rfl 1 (by decide) fl_X7_7 rfl rfl dX7_snapshotOf_1 ?_
  refine lv_bipush (v := 91) hx hb dX7_snapshotOf_4 (by decide) ?_
  refine lv_iconst (v := 2) hx hb dX7_snapshotOf_6 (by decide) ?_
  refine lv_iload_n hx hb dX7_snapshotOf_7 rfl (lv_at hl 1 rfl) ?_
  refine zn_mul hx hb (x := 2) (y := k) (z := 2 * k) (by first | rfl | omega) dX7_snapshotOf_8 ?_
  refine zn_add hx hb (x := 91) (y := 2 * k) (z := 91 + (2 * k)) (by omega) dX7_snapshotOf_9 ?_
  refine lv_iconst (v := 0) hx hb dX7_snapshotOf_10 (by decide) ?_
  refine zn_add hx hb (x := 91 + (2 * k)) (y := 0) (z := 91 + (2 * k)) (by omega) dX7_snapshotOf_11 ?_
  refine z_iald S hK hP 1 rfl (j := 91 + (2 * k)) (by omega) (by decide) dX7_snapshotOf_12 ?_
  refine lv_iconst (v := 1) hx hb dX7_snapshotOf_13 (by decide) ?_
  refine lv_isub hx hb dX7_snapshotOf_14 ?_
  exact zr_i hx hb hr hlk (by rfl) dX7_snapshotOf_15
set_option maxHeartbeats 4000000 in
set_option maxRecDepth 100000 in
theorem c_X7_lay (l : Launch) (D : va_G) (ca : Nat → ClassId) (o : Nat → Nat) (f0 f2 f3 f4 f5 f6 f7 f8 f9 f10 : Value) (sf : Nat → Int32) (k : Nat) (hk : k < 24) (v u w : Int32) (hN : [o 0, o 1].Nodup) : zMw l yX7_lay cX7_lay 5 none 0 0 D ca [(o 0, .inr (7, [f0, .ref (o 1), f2, f3, f4, f5, f6, f7, f8, f9, f10])), (o 1, .inl (ca 0, 99, .inl sf))] ([(o 0, .inr (7, [f0, .ref (o 1), f2, f3, f4, f5, f6, f7, f8, f9, f10])), (o 1, .inl (ca 0, 99, .inl (rLay sf k v u w)))]) [.ref (o 0), .int (nI k), .int v, .int u, .int w] none := by
  refine zMw_of (own := RX7) (by decide) rfl (Nat.le_of_ble_eq_true rfl) ?_
  intro p e s m args below meth c ls S hr hlk hP hK hl hS
  have hP : va_P D vwCl [(o 0, .inr (7, [f0, .ref (o 1), f2, f3, f4, f5, f6, f7, f8, f9, f10])), (o 1, .inl (ca 0, 99, .inl sf))] s.heap := hP
  have hS : va_S (zA [o 0, o 1]) s.heap s.heap [] := hS
  have hA : ∀ q ∈ [o 0, o 1], zA [o 0, o 1] q := fun _ h => h
  have hD := zDto (ws := [(o 0, .inr (7, [f0, .ref (o 1), f2, f3, f4, f5, f6, f7, f8, f9, f10])), (o 1, .inl (ca 0, 99, .inl sf))]) hN hA rfl
  have hx := S.1
  have hb := S.2.1
  have hl : lv_has ls 5 [(0, .ref (o 0)), (1, .int (nI k)), (2, .int v), (3, .int u), (4, .int w)] := hl
  refine lv_aload_n hx hb dX7_lay_0 rfl (lv_at hl 0 rfl) ?_
  refine z_get S in_lay_X7 hK hP rfl 0 rfl 1 (by decide) fl_X7_7 rfl rfl dX7_lay_1 ?_
  refine lv_bipush (v := 7) hx hb dX7_lay_4 (by decide) ?_
  refine lv_iconst (v := 3) hx hb dX7_lay_6 (by decide) ?_
  refine lv_iload_n hx hb dX7_lay_7 rfl (lv_at hl 1 rfl) ?_
  refine zn_mul hx hb (x := 3) (y := k) (z := 3 * k) (by first | rfl | omega) dX7_lay_8 ?_
  refine zn_add hx hb (x := 7) (y := 3 * k) (z := 7 + (3 * k)) (by omega) dX7_lay_9 ?_
  refine lv_iconst (v := 0) hx hb dX7_lay_10 (by decide) ?_
  refine zn_add hx hb (x := 7 + (3 * k)) (y := 0) (z := 7 + (3 * k)) (by omega) dX7_lay_11 ?_
  refine lv_iload_n hx hb dX7_lay_12 rfl (lv_at hl 2 rfl) ?_
  refine z_iast S hK hP hD hS 1 rfl (j := 7 + (3 * k)) (by omega) (by decide) dX7_lay_13 (fun H locs hP hS => ?_)
  have hP : va_P D vwCl [(o 0, .inr (7, [f0, .ref (o 1), f2, f3, f4, f5, f6, f7, f8, f9, f10])), (o 1, .inl (ca 0, 99, .inl (upd sf (7 + (3 * k)) v)))] H := hP
  have hD := zDto (ws := [(o 0, .inr (7, [f0, .ref (o 1), f2, f3, f4, f5, f6, f7, f8, f9, f10])), (o 1, .inl (ca 0, 99, .inl (upd sf (7 + (3 * k)) v)))]) hN hA rfl
  refine lv_aload_n hx hb dX7_lay_14 rfl (lv_at hl 0 rfl) ?_
  refine z_get S in_lay_X7 hK hP rfl 0 rfl 1 (by decide) fl_X7_7 rfl rfl dX7_lay_15 ?_
  refine lv_bipush (v := 7) hx hb dX7_lay_18 (by decide) ?_
  refine lv_iconst (v := 3) hx hb dX7_lay_20 (by decide) ?_
  refine lv_iload_n hx hb dX7_lay_21 rfl (lv_at hl 1 rfl) ?_
  refine zn_mul hx hb (x := 3) (y := k) (z := 3 * k) (by first | rfl | omega) dX7_lay_22 ?_
  refine zn_add hx hb (x := 7) (y := 3 * k) (z := 7 + (3 * k)) (by omega) dX7_lay_23 ?_
  refine lv_iconst (v := 1) hx hb dX7_lay_24 (by decide) ?_
  refine zn_add hx hb (x := 7 + (3 * k)) (y := 1) (z := (7 + (3 * k)) + 1) (by omega) dX7_lay_25 ?_
  refine lv_iload_n hx hb dX7_lay_26 rfl (lv_at hl 3 rfl) ?_
  refine z_iast S hK hP hD hS 1 rfl (j := (7 + (3 * k)) + 1) (by omega) (by decide) dX7_lay_27 (fun H locs hP hS => ?_)
  have hP : va_P D vwCl [(o 0, .inr (7, [f0, .ref (o 1), f2, f3, f4, f5, f6, f7, f8, f9, f10])), (o 1, .inl (ca 0, 99, .inl (upd (upd sf (7 + (3 * k)) v) ((7 + (3 * k)) + 1) u)))] H := hP
  have hD := zDto (ws := [(o 0, .inr (7, [f0, .ref (o 1), f2, f3, f4, f5, f6, f7, f8, f9, f10])), (o 1, .inl (ca 0, 99, .inl (upd (upd sf (7 + (3 * k)) v) ((7 + (3 * k)) + 1) u)))]) hN hA rfl
  refine lv_aload_n hx hb dX7_lay_28 rfl (lv_at hl 0 rfl) ?_
  refine z_get S in_lay_X7 hK hP rfl 0 rfl 1 (by decide) fl_X7_7 rfl rfl dX7_lay_29 ?_
  refine lv_bipush (v := 7) hx hb dX7_lay_32 (by decide) ?_
  refine lv_iconst (v := 3) hx hb dX7_lay_34 (by decide) ?_
  refine lv_iload_n hx hb dX7_lay_35 rfl (lv_at hl 1 rfl) ?_
  refine zn_mul hx hb (x := 3) (y := k) (z := 3 * k) (by first | rfl | omega) dX7_lay_36 ?_
  refine zn_add hx hb (x := 7) (y := 3 * k) (z := 7 + (3 * k)) (by omega) dX7_lay_37 ?_
  refine lv_iconst (v := 2) hx hb dX7_lay_38 (by decide) ?_
  refine zn_add hx hb (x := 7 + (3 * k)) (y := 2) (z := (7 + (3 * k)) + 2) (by omega) dX7_lay_39 ?_
  refine lv_iload hx hb dX7_lay_40 (lv_at hl 4 rfl) ?_
  refine z_iast S hK hP hD hS 1 rfl (j := (7 + (3 * k)) + 2) (by omega) (by decide) dX7_lay_42 (fun H locs hP hS => ?_)
  have hP : va_P D vwCl [(o 0, .inr (7, [f0, .ref (o 1), f2, f3, f4, f5, f6, f7, f8, f9, f10])), (o 1, .inl (ca 0, 99, .inl (upd (upd (upd sf (7 + (3 * k)) v) ((7 + (3 * k)) + 1) u) ((7 + (3 * k)) + 2) w)))] H := hP
  have hD := zDto (ws := [(o 0, .inr (7, [f0, .ref (o 1), f2, f3, f4, f5, f6, f7, f8, f9, f10])), (o 1, .inl (ca 0, 99, .inl (upd (upd (upd sf (7 + (3 * k)) v) ((7 + (3 * k)) + 1) u) ((7 + (3 * k)) + 2) w)))]) hN hA rfl
  have hz : rLay sf k v u w = upd (upd (upd sf (7 + (3 * k)) v) ((7 + (3 * k)) + 1) u) ((7 + (3 * k)) + 2) w := by rfl
  exact zw_v hx hb hr hlk hP hS (by rw [hz] <;> rfl) dX7_lay_43
set_option maxHeartbeats 4000000 in
set_option maxRecDepth 100000 in
theorem c_X7_isFull (l : Launch) (D : va_G) (ca : Nat → ClassId) (o : Nat → Nat) (f0 f2 f3 f4 f5 f6 f7 f8 f9 f10 : Value) (sf : Nat → Int32) (k : Nat) (hk : k < 24) : zMr l yX7_isFull cX7_isFull 2 (some .boolean) 1 22 D ca [(o 0, .inr (7, [f0, .ref (o 1), f2, f3, f4, f5, f6, f7, f8, f9, f10])), (o 1, .inl (ca 0, 99, .inl sf))] [.ref (o 0), .int (nI k)] (.int (zb (rFull sf k))) := by
  refine zMr_of (own := RX7) (by decide) rfl (Nat.le_of_ble_eq_true rfl) ?_
  intro p e s m args below meth c ls S hr hlk hP hK hl
  have hx := S.1
  have hb := S.2.1
  have hl : lv_has ls 2 [(0, .ref (o 0)), (1, .int (nI k))] := hl
  refine lv_aload_n hx hb dX7_isFull_0 rfl (lv_at hl 0 rfl) ?_
  refine lv_iload_n hx hb dX7_isFull_1 rfl (lv_at hl 1 rfl) ?_
  refine lv_iconst (v := 0) hx hb dX7_isFull_2 (by decide) ?_
  refine zcr (As := [.int (nI k), .int 0]) (rest := []) (q0 := 0) S (c_X7_of l D ca o f0 f2 f3 f4 f5 f6 f7 f8 f9 f10 sf k 0 (by omega) (by omega)) ml_X7_33 zy_X7_of im_X7_of se_X7_of ⟨Nat.le_of_ble_eq_true rfl, Nat.le_of_ble_eq_true rfl⟩ hK hP [0, 1] rfl rfl rfl rfl rfl hl.1 rfl (Nat.le_of_ble_eq_true rfl) ⟨Nat.zero_le _, Nat.zero_le _⟩ dX7_isFull_3 ?_
  refine lv_if_le (tgt := 13) hx hb dX7_isFull_6 (by decide) (fun c_6_1 => ?_) (fun c_6_1 => ?_)
  · refine lv_iconst (v := 0) hx hb dX7_isFull_13 (by decide) ?_
    exact zr_z hx hb hr hlk (by simp [rFull, zb, c_6_1]) dX7_isFull_14
  · refine lv_iconst (v := 1) hx hb dX7_isFull_9 (by decide) ?_
    refine lv_goto (tgt := 14) hx hb dX7_isFull_10 (by decide) ?_
    exact zr_z hx hb hr hlk (by simp [rFull, zb, c_6_1]) dX7_isFull_14
set_option maxHeartbeats 4000000 in
set_option maxRecDepth 100000 in
theorem c_X7_isSeen (l : Launch) (D : va_G) (ca : Nat → ClassId) (o : Nat → Nat) (f0 f2 f3 f4 f5 f6 f7 f8 f9 f10 : Value) (sf : Nat → Int32) (k : Nat) (hk : k < 24) (t : Int32) : zMr l yX7_isSeen cX7_isSeen 4 (some .boolean) 2 43 D ca [(o 0, .inr (7, [f0, .ref (o 1), f2, f3, f4, f5, f6, f7, f8, f9, f10])), (o 1, .inl (ca 0, 99, .inl sf))] [.ref (o 0), .int (nI k), .int t] (.int (zb (rSeen sf k t))) := by
  refine zMr_of (own := RX7) (by decide) rfl (Nat.le_of_ble_eq_true rfl) ?_
  intro p e s m args below meth c ls S hr hlk hP hK hl
  have hx := S.1
  have hb := S.2.1
  have hl : lv_has ls 4 [(0, .ref (o 0)), (1, .int (nI k)), (2, .int t)] := hl
  refine lv_aload_n hx hb dX7_isSeen_0 rfl (lv_at hl 0 rfl) ?_
  refine lv_iload_n hx hb dX7_isSeen_1 rfl (lv_at hl 1 rfl) ?_
  refine zcr (As := [.int (nI k)]) (rest := []) (q0 := 0) S (c_X7_isFull l D ca o f0 f2 f3 f4 f5 f6 f7 f8 f9 f10 sf k (by omega)) ml_X7_37 zy_X7_isFull im_X7_isFull se_X7_isFull ⟨Nat.le_of_ble_eq_true rfl, Nat.le_of_ble_eq_true rfl⟩ hK hP [0, 1] rfl rfl rfl rfl rfl hl.1 rfl (Nat.le_of_ble_eq_true rfl) ⟨Nat.zero_le _, Nat.zero_le _⟩ dX7_isSeen_2 ?_
  refine zz_eq (tgt := 22) hx hb dX7_isSeen_5 (by decide) (fun c_5_1 => ?_) (fun c_5_1 => ?_)
  · refine lv_iconst (v := 0) hx hb dX7_isSeen_22 (by decide) ?_
    refine lv_istore_n (lv' := [(3, .int 0), (0, .ref (o 0)), (1, .int (nI k)), (2, .int t)]) hx hb dX7_isSeen_23 rfl hl (by decide) rfl (fun ls hl => ?_)
    refine lv_iload_n hx hb dX7_isSeen_24 rfl (lv_at hl 0 rfl) ?_
    refine lv_if_eq (tgt := 51) hx hb dX7_isSeen_25 (by decide) (fun _ => ?_) (fun h => absurd (by decide) h)
    refine lv_iconst (v := 0) hx hb dX7_isSeen_51 (by decide) ?_
    exact zr_z hx hb hr hlk (by simp [rSeen, zb, c_5_1]) dX7_isSeen_52
  · refine lv_aload_n hx hb dX7_isSeen_8 rfl (lv_at hl 0 rfl) ?_
    refine lv_iload_n hx hb dX7_isSeen_9 rfl (lv_at hl 1 rfl) ?_
    refine lv_iconst (v := 1) hx hb dX7_isSeen_10 (by decide) ?_
    refine zcr (As := [.int (nI k), .int 1]) (rest := []) (q0 := 0) S (c_X7_of l D ca o f0 f2 f3 f4 f5 f6 f7 f8 f9 f10 sf k 1 (by omega) (by omega)) ml_X7_33 zy_X7_of im_X7_of se_X7_of ⟨Nat.le_of_ble_eq_true rfl, Nat.le_of_ble_eq_true rfl⟩ hK hP [0, 1] rfl rfl rfl rfl rfl hl.1 rfl (Nat.le_of_ble_eq_true rfl) ⟨Nat.zero_le _, Nat.zero_le _⟩ dX7_isSeen_11 ?_
    refine lv_iload_n hx hb dX7_isSeen_14 rfl (lv_at hl 2 rfl) ?_
    refine lv_icmp_gt (tgt := 22) hx hb dX7_isSeen_15 (by decide) (fun c_15_2 => ?_) (fun c_15_2 => ?_)
    · refine lv_iconst (v := 0) hx hb dX7_isSeen_22 (by decide) ?_
      refine lv_istore_n (lv' := [(3, .int 0), (0, .ref (o 0)), (1, .int (nI k)), (2, .int t)]) hx hb dX7_isSeen_23 rfl hl (by decide) rfl (fun ls hl => ?_)
      refine lv_iload_n hx hb dX7_isSeen_24 rfl (lv_at hl 0 rfl) ?_
      refine lv_if_eq (tgt := 51) hx hb dX7_isSeen_25 (by decide) (fun _ => ?_) (fun h => absurd (by decide) h)
      refine lv_iconst (v := 0) hx hb dX7_isSeen_51 (by decide) ?_
      exact zr_z hx hb hr hlk (by simp [rSeen, zb, c_5_1, c_15_2]) dX7_isSeen_52
    · refine lv_iconst (v := 1) hx hb dX7_isSeen_18 (by decide) ?_
      refine lv_goto (tgt := 23) hx hb dX7_isSeen_19 (by decide) ?_
      refine lv_istore_n (lv' := [(3, .int 1), (0, .ref (o 0)), (1, .int (nI k)), (2, .int t)]) hx hb dX7_isSeen_23 rfl hl (by decide) rfl (fun ls hl => ?_)
      refine lv_iload_n hx hb dX7_isSeen_24 rfl (lv_at hl 0 rfl) ?_
      refine lv_if_eq (tgt := 51) hx hb dX7_isSeen_25 (by decide) (fun h => absurd h (by decide)) (fun _ => ?_)
      refine lv_aload_n hx hb dX7_isSeen_28 rfl (lv_at hl 1 rfl) ?_
      refine lv_iload_n hx hb dX7_isSeen_29 rfl (lv_at hl 2 rfl) ?_
      refine lv_iconst (v := 2) hx hb dX7_isSeen_30 (by decide) ?_
      refine zcr (As := [.int (nI k), .int 2]) (rest := []) (q0 := 0) S (c_X7_of l D ca o f0 f2 f3 f4 f5 f6 f7 f8 f9 f10 sf k 2 (by omega) (by omega)) ml_X7_33 zy_X7_of im_X7_of se_X7_of ⟨Nat.le_of_ble_eq_true rfl, Nat.le_of_ble_eq_true rfl⟩ hK hP [0, 1] rfl rfl rfl rfl rfl hl.1 rfl (Nat.le_of_ble_eq_true rfl) ⟨Nat.zero_le _, Nat.zero_le _⟩ dX7_isSeen_31 ?_
      refine lv_if_eq (tgt := 47) hx hb dX7_isSeen_34 (by decide) (fun c_34_3 => ?_) (fun c_34_3 => ?_)
      · refine lv_iconst (v := 1) hx hb dX7_isSeen_47 (by decide) ?_
        refine lv_goto (tgt := 52) hx hb dX7_isSeen_48 (by decide) ?_
        exact zr_z hx hb hr hlk (by simp [rSeen, zb, c_5_1, c_15_2, c_34_3]) dX7_isSeen_52
      · refine lv_aload_n hx hb dX7_isSeen_37 rfl (lv_at hl 1 rfl) ?_
        refine lv_iload_n hx hb dX7_isSeen_38 rfl (lv_at hl 2 rfl) ?_
        refine lv_iconst (v := 2) hx hb dX7_isSeen_39 (by decide) ?_
        refine zcr (As := [.int (nI k), .int 2]) (rest := []) (q0 := 0) S (c_X7_of l D ca o f0 f2 f3 f4 f5 f6 f7 f8 f9 f10 sf k 2 (by omega) (by omega)) ml_X7_33 zy_X7_of im_X7_of se_X7_of ⟨Nat.le_of_ble_eq_true rfl, Nat.le_of_ble_eq_true rfl⟩ hK hP [0, 1] rfl rfl rfl rfl rfl hl.1 rfl (Nat.le_of_ble_eq_true rfl) ⟨Nat.zero_le _, Nat.zero_le _⟩ dX7_isSeen_40 ?_
        refine lv_iload_n hx hb dX7_isSeen_43 rfl (lv_at hl 3 rfl) ?_
        refine lv_icmp_le (tgt := 51) hx hb dX7_isSeen_44 (by decide) (fun c_44_4 => ?_) (fun c_44_4 => ?_)
        · refine lv_iconst (v := 0) hx hb dX7_isSeen_51 (by decide) ?_
          exact zr_z hx hb hr hlk (by simp [rSeen, zb, c_5_1, c_15_2, c_34_3, c_44_4]) dX7_isSeen_52
        · refine lv_iconst (v := 1) hx hb dX7_isSeen_47 (by decide) ?_
          refine lv_goto (tgt := 52) hx hb dX7_isSeen_48 (by decide) ?_
          exact zr_z hx hb hr hlk (by simp [rSeen, zb, c_5_1, c_15_2, c_34_3, c_44_4]) dX7_isSeen_52
set_option maxHeartbeats 4000000 in
set_option maxRecDepth 100000 in
theorem c_X7_lowestEmpty (l : Launch) (D : va_G) (ca : Nat → ClassId) (o : Nat → Nat) (f0 f2 f3 f4 f5 f6 f7 f8 f9 f10 : Value) (sf : Nat → Int32)  : zMr l yX7_lowestEmpty cX7_lowestEmpty 2 (some .int) 2 43 D ca [(o 0, .inr (7, [f0, .ref (o 1), f2, f3, f4, f5, f6, f7, f8, f9, f10])), (o 1, .inl (ca 0, 99, .inl sf))] [.ref (o 0)] (.int (zNo (rLow sf))) := by
  refine zMr_of (own := RX7) (by decide) rfl (Nat.le_of_ble_eq_true rfl) ?_
  intro p e s m args below meth c ls S hr hlk hP hK hl
  have hx := S.1
  have hb := S.2.1
  have hl : lv_has ls 2 [(0, .ref (o 0))] := hl
  refine lv_iconst (v := 0) hx hb dX7_lowestEmpty_0 (by decide) ?_
  refine lv_istore_n (lv' := [(1, .int 0), (0, .ref (o 0))]) hx hb dX7_lowestEmpty_1 rfl hl (by decide) rfl (fun ls hl => ?_)
  have loop_0 : ∀ (f : Nat) (k : Nat) (ls : Array Slot), k + f = 24 → rLow sf = zfst (fun k => !rFull sf k) f k → lv_has ls 2 [(0, .ref (o 0)), (1, .int (nI k))] → W p l e { frames := 2, cells := 0, slots := 0, locals := 43 } s m args below meth c s.heap [] 0 0 (MQ below (zQr (.int (zNo (rLow sf)))) args s 0 0 (fun _ => False)) (F0 m 2 ls []) := by
    intro f
    induction f with
    | zero =>
      intro k ls j1 j2 hl
      refine lv_iload_n hx hb dX7_lowestEmpty_2 rfl (lv_at hl 1 rfl) ?_
      refine lv_bipush (v := 24) hx hb dX7_lowestEmpty_3 (by decide) ?_
      refine zn_ge hx hb (x := k) (y := 24) (by omega) (by omega) (tgt := 22) dX7_lowestEmpty_5 (by decide) (fun c_5_2 => ?_) (fun h => False.elim (by omega))
      refine lv_iload_n hx hb dX7_lowestEmpty_22 rfl (lv_at hl 1 rfl) ?_
      refine lv_bipush (v := 24) hx hb dX7_lowestEmpty_23 (by decide) ?_
      refine zn_ge hx hb (x := k) (y := 24) (by omega) (by omega) (tgt := 32) dX7_lowestEmpty_25 (by decide) (fun _ => ?_) (fun h => absurd h (by omega))
      refine lv_iconst (v := (-1)) hx hb dX7_lowestEmpty_32 (by decide) ?_
      exact zr_i hx hb hr hlk (by rw [j2]; show (-1 : Int32) = zNo k; rw [zNo, if_neg (by omega)]) dX7_lowestEmpty_33
    | succ f ih =>
      intro k ls j1 j2 hl
      refine lv_iload_n hx hb dX7_lowestEmpty_2 rfl (lv_at hl 1 rfl) ?_
      refine lv_bipush (v := 24) hx hb dX7_lowestEmpty_3 (by decide) ?_
      refine zn_ge hx hb (x := k) (y := 24) (by omega) (by omega) (tgt := 22) dX7_lowestEmpty_5 (by decide) (fun h => False.elim (by omega)) (fun c_5_3 => ?_)
      refine lv_aload_n hx hb dX7_lowestEmpty_8 rfl (lv_at hl 0 rfl) ?_
      refine lv_iload_n hx hb dX7_lowestEmpty_9 rfl (lv_at hl 1 rfl) ?_
      refine zcr (As := [.int (nI k)]) (rest := []) (q0 := 0) S (c_X7_isFull l D ca o f0 f2 f3 f4 f5 f6 f7 f8 f9 f10 sf k (by omega)) ml_X7_37 zy_X7_isFull im_X7_isFull se_X7_isFull ⟨Nat.le_of_ble_eq_true rfl, Nat.le_of_ble_eq_true rfl⟩ hK hP [0, 1] rfl rfl rfl rfl rfl hl.1 rfl (Nat.le_of_ble_eq_true rfl) ⟨Nat.zero_le _, Nat.zero_le _⟩ dX7_lowestEmpty_10 ?_
      refine zz_eq (tgt := 22) hx hb dX7_lowestEmpty_13 (by decide) (fun c_13_4 => ?_) (fun c_13_4 => ?_)
      · refine lv_iload_n hx hb dX7_lowestEmpty_22 rfl (lv_at hl 1 rfl) ?_
        refine lv_bipush (v := 24) hx hb dX7_lowestEmpty_23 (by decide) ?_
        refine zn_ge hx hb (x := k) (y := 24) (by omega) (by omega) (tgt := 32) dX7_lowestEmpty_25 (by decide) (fun h => absurd h (by omega)) (fun _ => ?_)
        refine lv_iload_n hx hb dX7_lowestEmpty_28 rfl (lv_at hl 1 rfl) ?_
        refine lv_goto (tgt := 33) hx hb dX7_lowestEmpty_29 (by decide) ?_
        exact zr_i hx hb hr hlk (by rw [j2.trans (zfst_t (by simp [c_13_4]))]; rw [zNo, if_pos (by omega)]) dX7_lowestEmpty_33
      · refine lv_iinc (v := nI (k + 1)) (lv' := [(1, .int (nI (k + 1))), (0, .ref (o 0))]) hx hb dX7_lowestEmpty_16 hl (k := 1) rfl (zinc k 1) (by decide) rfl (fun ls hl => ?_)
        refine lv_goto (tgt := 2) hx hb dX7_lowestEmpty_19 (by decide) ?_
        exact ih (k + 1) ls (by omega) (by exact j2.trans (zfst_f (by simp [c_5_3, c_13_4]))) (lv_sub hl [1, 0] rfl)
  exact loop_0 24 0 ls (by omega) (by rfl) (lv_sub hl [1, 0] rfl)
set_option maxHeartbeats 4000000 in
set_option maxRecDepth 100000 in
theorem c_X7_unmarks (l : Launch) (D : va_G) (ca : Nat → ClassId) (o : Nat → Nat) (f0 f2 f3 f4 f5 f6 f7 f8 f9 f10 : Value) (sf : Nat → Int32) (k : Nat) (hk : k < 24) (hN : [o 0, o 1].Nodup) : zMw l yX7_unmarks cX7_unmarks 2 none 0 0 D ca [(o 0, .inr (7, [f0, .ref (o 1), f2, f3, f4, f5, f6, f7, f8, f9, f10])), (o 1, .inl (ca 0, 99, .inl sf))] ([(o 0, .inr (7, [f0, .ref (o 1), f2, f3, f4, f5, f6, f7, f8, f9, f10])), (o 1, .inl (ca 0, 99, .inl (rUn sf k)))]) [.ref (o 0), .int (nI k)] none := by
  refine zMw_of (own := RX7) (by decide) rfl (Nat.le_of_ble_eq_true rfl) ?_
  intro p e s m args below meth c ls S hr hlk hP hK hl hS
  have hP : va_P D vwCl [(o 0, .inr (7, [f0, .ref (o 1), f2, f3, f4, f5, f6, f7, f8, f9, f10])), (o 1, .inl (ca 0, 99, .inl sf))] s.heap := hP
  have hS : va_S (zA [o 0, o 1]) s.heap s.heap [] := hS
  have hA : ∀ q ∈ [o 0, o 1], zA [o 0, o 1] q := fun _ h => h
  have hD := zDto (ws := [(o 0, .inr (7, [f0, .ref (o 1), f2, f3, f4, f5, f6, f7, f8, f9, f10])), (o 1, .inl (ca 0, 99, .inl sf))]) hN hA rfl
  have hx := S.1
  have hb := S.2.1
  have hl : lv_has ls 2 [(0, .ref (o 0)), (1, .int (nI k))] := hl
  refine lv_aload_n hx hb dX7_unmarks_0 rfl (lv_at hl 0 rfl) ?_
  refine z_get S in_lay_X7 hK hP rfl 0 rfl 1 (by decide) fl_X7_7 rfl rfl dX7_unmarks_1 ?_
  refine lv_bipush (v := 79) hx hb dX7_unmarks_4 (by decide) ?_
  refine lv_iconst (v := 2) hx hb dX7_unmarks_6 (by decide) ?_
  refine lv_iload_n hx hb dX7_unmarks_7 rfl (lv_at hl 1 rfl) ?_
  refine lv_iconst (v := 4) hx hb dX7_unmarks_8 (by decide) ?_
  refine zn_div hx hb (x := k) (y := 4) (z := k / 4) (by omega) (by omega) (by omega) (by first | rfl | omega) dX7_unmarks_9 ?_
  refine zn_mul hx hb (x := 2) (y := k / 4) (z := 2 * (k / 4)) (by first | rfl | omega) dX7_unmarks_10 ?_
  refine zn_add hx hb (x := 79) (y := 2 * (k / 4)) (z := 79 + (2 * (k / 4))) (by omega) dX7_unmarks_11 ?_
  refine lv_iconst (v := 0) hx hb dX7_unmarks_12 (by decide) ?_
  refine zn_add hx hb (x := 79 + (2 * (k / 4))) (y := 0) (z := 79 + (2 * (k / 4))) (by omega) dX7_unmarks_13 ?_
  refine lv_iconst (v := 0) hx hb dX7_unmarks_14 (by decide) ?_
  refine z_iast S hK hP hD hS 1 rfl (j := 79 + (2 * (k / 4))) (by omega) (by decide) dX7_unmarks_15 (fun H locs hP hS => ?_)
  have hP : va_P D vwCl [(o 0, .inr (7, [f0, .ref (o 1), f2, f3, f4, f5, f6, f7, f8, f9, f10])), (o 1, .inl (ca 0, 99, .inl (upd sf (79 + (2 * (k / 4))) 0)))] H := hP
  have hD := zDto (ws := [(o 0, .inr (7, [f0, .ref (o 1), f2, f3, f4, f5, f6, f7, f8, f9, f10])), (o 1, .inl (ca 0, 99, .inl (upd sf (79 + (2 * (k / 4))) 0)))]) hN hA rfl
  refine lv_aload_n hx hb dX7_unmarks_16 rfl (lv_at hl 0 rfl) ?_
  refine z_get S in_lay_X7 hK hP rfl 0 rfl 1 (by decide) fl_X7_7 rfl rfl dX7_unmarks_17 ?_
  refine lv_bipush (v := 79) hx hb dX7_unmarks_20 (by decide) ?_
  refine lv_iconst (v := 2) hx hb dX7_unmarks_22 (by decide) ?_
  refine lv_iload_n hx hb dX7_unmarks_23 rfl (lv_at hl 1 rfl) ?_
  refine lv_iconst (v := 4) hx hb dX7_unmarks_24 (by decide) ?_
  refine zn_div hx hb (x := k) (y := 4) (z := k / 4) (by omega) (by omega) (by omega) (by first | rfl | omega) dX7_unmarks_25 ?_
  refine zn_mul hx hb (x := 2) (y := k / 4) (z := 2 * (k / 4)) (by first | rfl | omega) dX7_unmarks_26 ?_
  refine zn_add hx hb (x := 79) (y := 2 * (k / 4)) (z := 79 + (2 * (k / 4))) (by omega) dX7_unmarks_27 ?_
  refine lv_iconst (v := 1) hx hb dX7_unmarks_28 (by decide) ?_
  refine zn_add hx hb (x := 79 + (2 * (k / 4))) (y := 1) (z := (79 + (2 * (k / 4))) + 1) (by omega) dX7_unmarks_29 ?_
  refine lv_iconst (v := 0) hx hb dX7_unmarks_30 (by decide) ?_
  refine z_iast S hK hP hD hS 1 rfl (j := (79 + (2 * (k / 4))) + 1) (by omega) (by decide) dX7_unmarks_31 (fun H locs hP hS => ?_)
  have hP : va_P D vwCl [(o 0, .inr (7, [f0, .ref (o 1), f2, f3, f4, f5, f6, f7, f8, f9, f10])), (o 1, .inl (ca 0, 99, .inl (upd (upd sf (79 + (2 * (k / 4))) 0) ((79 + (2 * (k / 4))) + 1) 0)))] H := hP
  have hD := zDto (ws := [(o 0, .inr (7, [f0, .ref (o 1), f2, f3, f4, f5, f6, f7, f8, f9, f10])), (o 1, .inl (ca 0, 99, .inl (upd (upd sf (79 + (2 * (k / 4))) 0) ((79 + (2 * (k / 4))) + 1) 0)))]) hN hA rfl
  have hz : rUn sf k = upd (upd sf (79 + (2 * (k / 4))) 0) ((79 + (2 * (k / 4))) + 1) 0 := by rfl
  exact zw_v hx hb hr hlk hP hS (by rw [hz] <;> rfl) dX7_unmarks_32
set_option maxHeartbeats 4000000 in
set_option maxRecDepth 100000 in
theorem c_X7_comes (l : Launch) (D : va_G) (ca : Nat → ClassId) (o : Nat → Nat) (f0 f2 f3 f4 f5 f6 f7 f8 f9 f10 : Value) (sf : Nat → Int32) (k : Nat) (hk : k < 24) (v : Int32) (hN : [o 0, o 1].Nodup) : zMw l yX7_comes cX7_comes 3 none 1 24 D ca [(o 0, .inr (7, [f0, .ref (o 1), f2, f3, f4, f5, f6, f7, f8, f9, f10])), (o 1, .inl (ca 0, 99, .inl sf))] ([(o 0, .inr (7, [f0, .ref (o 1), f2, f3, f4, f5, f6, f7, f8, f9, f10])), (o 1, .inl (ca 0, 99, .inl (rCome sf k v)))]) [.ref (o 0), .int (nI k), .int v] none := by
  refine zMw_of (own := RX7) (by decide) rfl (Nat.le_of_ble_eq_true rfl) ?_
  intro p e s m args below meth c ls S hr hlk hP hK hl hS
  have hP : va_P D vwCl [(o 0, .inr (7, [f0, .ref (o 1), f2, f3, f4, f5, f6, f7, f8, f9, f10])), (o 1, .inl (ca 0, 99, .inl sf))] s.heap := hP
  have hS : va_S (zA [o 0, o 1]) s.heap s.heap [] := hS
  have hA : ∀ q ∈ [o 0, o 1], zA [o 0, o 1] q := fun _ h => h
  have hD := zDto (ws := [(o 0, .inr (7, [f0, .ref (o 1), f2, f3, f4, f5, f6, f7, f8, f9, f10])), (o 1, .inl (ca 0, 99, .inl sf))]) hN hA rfl
  have hx := S.1
  have hb := S.2.1
  have hl : lv_has ls 3 [(0, .ref (o 0)), (1, .int (nI k)), (2, .int v)] := hl
  refine lv_aload_n hx hb dX7_comes_0 rfl (lv_at hl 0 rfl) ?_
  refine lv_iload_n hx hb dX7_comes_1 rfl (lv_at hl 1 rfl) ?_
  refine lv_iload_n hx hb dX7_comes_2 rfl (lv_at hl 2 rfl) ?_
  refine lv_iconst (v := 1) hx hb dX7_comes_3 (by decide) ?_
  refine lv_iadd hx hb dX7_comes_4 ?_
  refine lv_aload_n hx hb dX7_comes_5 rfl (lv_at hl 0 rfl) ?_
  refine z_get S in_lay_X7 hK hP rfl 0 rfl 1 (by decide) fl_X7_7 rfl rfl dX7_comes_6 ?_
  refine lv_iconst (v := 0) hx hb dX7_comes_9 (by decide) ?_
  refine z_iald S hK hP 1 rfl (j := 0) (by omega) (by decide) dX7_comes_10 ?_
  refine lv_iconst (v := 0) hx hb dX7_comes_11 (by decide) ?_
  refine zcw (As := [.int (nI k), .int (v + 1), .int (sf 0), .int 0]) (rest := []) (st1 := []) (q0 := 0) (lw := [o 0, o 1]) S (c_X7_lay l D ca o f0 f2 f3 f4 f5 f6 f7 f8 f9 f10 sf k (by omega) (v + 1) (sf 0) 0 (znd_pick hN [0, 1] rfl rfl)) ml_X7_41 zy_X7_lay im_X7_lay se_X7_lay ⟨Nat.le_of_ble_eq_true rfl, Nat.le_of_ble_eq_true rfl⟩ hK hP hD hS [0, 1] rfl rfl rfl rfl rfl rfl rfl hl.1 rfl rfl (Nat.le_of_ble_eq_true rfl) ⟨Nat.zero_le _, Nat.zero_le _⟩ dX7_comes_12 (fun H locs hP hS => ?_)
  have hP : va_P D vwCl [(o 0, .inr (7, [f0, .ref (o 1), f2, f3, f4, f5, f6, f7, f8, f9, f10])), (o 1, .inl (ca 0, 99, .inl (rLay sf k (v + 1) (sf 0) 0)))] H := hP
  have hD := zDto (ws := [(o 0, .inr (7, [f0, .ref (o 1), f2, f3, f4, f5, f6, f7, f8, f9, f10])), (o 1, .inl (ca 0, 99, .inl (rLay sf k (v + 1) (sf 0) 0)))]) hN hA rfl
  refine lv_aload_n hx hb dX7_comes_15 rfl (lv_at hl 0 rfl) ?_
  refine lv_iload_n hx hb dX7_comes_16 rfl (lv_at hl 1 rfl) ?_
  refine zcw (As := [.int (nI k)]) (rest := []) (st1 := []) (q0 := 0) (lw := [o 0, o 1]) S (c_X7_unmarks l D ca o f0 f2 f3 f4 f5 f6 f7 f8 f9 f10 (rLay sf k (v + 1) (sf 0) 0) k (by omega) (znd_pick hN [0, 1] rfl rfl)) ml_X7_45 zy_X7_unmarks im_X7_unmarks se_X7_unmarks ⟨Nat.le_of_ble_eq_true rfl, Nat.le_of_ble_eq_true rfl⟩ hK hP hD hS [0, 1] rfl rfl rfl rfl rfl rfl rfl hl.1 rfl rfl (Nat.le_of_ble_eq_true rfl) ⟨Nat.zero_le _, Nat.zero_le _⟩ dX7_comes_17 (fun H locs hP hS => ?_)
  have hP : va_P D vwCl [(o 0, .inr (7, [f0, .ref (o 1), f2, f3, f4, f5, f6, f7, f8, f9, f10])), (o 1, .inl (ca 0, 99, .inl (rUn (rLay sf k (v + 1) (sf 0) 0) k)))] H := hP
  have hD := zDto (ws := [(o 0, .inr (7, [f0, .ref (o 1), f2, f3, f4, f5, f6, f7, f8, f9, f10])), (o 1, .inl (ca 0, 99, .inl (rUn (rLay sf k (v + 1) (sf 0) 0) k)))]) hN hA rfl
  have hz : rCome sf k v = rUn (rLay sf k (v + 1) (sf 0) 0) k := by rfl
  exact zw_v hx hb hr hlk hP hS (by rw [hz] <;> rfl) dX7_comes_20
set_option maxHeartbeats 4000000 in
set_option maxRecDepth 100000 in
theorem c_X7_goes (l : Launch) (D : va_G) (ca : Nat → ClassId) (o : Nat → Nat) (f0 f2 f3 f4 f5 f6 f7 f8 f9 f10 : Value) (sf : Nat → Int32) (k : Nat) (hk : k < 24) (hN : [o 0, o 1].Nodup) : zMw l yX7_goes cX7_goes 2 none 1 21 D ca [(o 0, .inr (7, [f0, .ref (o 1), f2, f3, f4, f5, f6, f7, f8, f9, f10])), (o 1, .inl (ca 0, 99, .inl sf))] ([(o 0, .inr (7, [f0, .ref (o 1), f2, f3, f4, f5, f6, f7, f8, f9, f10])), (o 1, .inl (ca 0, 99, .inl (rGo sf k)))]) [.ref (o 0), .int (nI k)] none := by
  refine zMw_of (own := RX7) (by decide) rfl (Nat.le_of_ble_eq_true rfl) ?_
  intro p e s m args below meth c ls S hr hlk hP hK hl hS
  have hP : va_P D vwCl [(o 0, .inr (7, [f0, .ref (o 1), f2, f3, f4, f5, f6, f7, f8, f9, f10])), (o 1, .inl (ca 0, 99, .inl sf))] s.heap := hP
  have hS : va_S (zA [o 0, o 1]) s.heap s.heap [] := hS
  have hA : ∀ q ∈ [o 0, o 1], zA [o 0, o 1] q := fun _ h => h
  have hD := zDto (ws := [(o 0, .inr (7, [f0, .ref (o 1), f2, f3, f4, f5, f6, f7, f8, f9, f10])), (o 1, .inl (ca 0, 99, .inl sf))]) hN hA rfl
  have hx := S.1
  have hb := S.2.1
  have hl : lv_has ls 2 [(0, .ref (o 0)), (1, .int (nI k))] := hl
  refine lv_aload_n hx hb dX7_goes_0 rfl (lv_at hl 0 rfl) ?_
  refine z_get S in_lay_X7 hK hP rfl 0 rfl 1 (by decide) fl_X7_7 rfl rfl dX7_goes_1 ?_
  refine lv_bipush (v := 7) hx hb dX7_goes_4 (by decide) ?_
  refine lv_iconst (v := 3) hx hb dX7_goes_6 (by decide) ?_
  refine lv_iload_n hx hb dX7_goes_7 rfl (lv_at hl 1 rfl) ?_
  refine zn_mul hx hb (x := 3) (y := k) (z := 3 * k) (by first | rfl | omega) dX7_goes_8 ?_
  refine zn_add hx hb (x := 7) (y := 3 * k) (z := 7 + (3 * k)) (by omega) dX7_goes_9 ?_
  refine lv_iconst (v := 2) hx hb dX7_goes_10 (by decide) ?_
  refine zn_add hx hb (x := 7 + (3 * k)) (y := 2) (z := (7 + (3 * k)) + 2) (by omega) dX7_goes_11 ?_
  refine lv_aload_n hx hb dX7_goes_12 rfl (lv_at hl 0 rfl) ?_
  refine z_get S in_lay_X7 hK hP rfl 0 rfl 1 (by decide) fl_X7_7 rfl rfl dX7_goes_13 ?_
  refine lv_iconst (v := 0) hx hb dX7_goes_16 (by decide) ?_
  refine z_iald S hK hP 1 rfl (j := 0) (by omega) (by decide) dX7_goes_17 ?_
  refine z_iast S hK hP hD hS 1 rfl (j := (7 + (3 * k)) + 2) (by omega) (by decide) dX7_goes_18 (fun H locs hP hS => ?_)
  have hP : va_P D vwCl [(o 0, .inr (7, [f0, .ref (o 1), f2, f3, f4, f5, f6, f7, f8, f9, f10])), (o 1, .inl (ca 0, 99, .inl (upd sf ((7 + (3 * k)) + 2) (sf 0))))] H := hP
  have hD := zDto (ws := [(o 0, .inr (7, [f0, .ref (o 1), f2, f3, f4, f5, f6, f7, f8, f9, f10])), (o 1, .inl (ca 0, 99, .inl (upd sf ((7 + (3 * k)) + 2) (sf 0))))]) hN hA rfl
  refine lv_aload_n hx hb dX7_goes_19 rfl (lv_at hl 0 rfl) ?_
  refine lv_iload_n hx hb dX7_goes_20 rfl (lv_at hl 1 rfl) ?_
  refine zcw (As := [.int (nI k)]) (rest := []) (st1 := []) (q0 := 0) (lw := [o 0, o 1]) S (c_X7_unmarks l D ca o f0 f2 f3 f4 f5 f6 f7 f8 f9 f10 (upd sf ((7 + (3 * k)) + 2) (sf 0)) k (by omega) (znd_pick hN [0, 1] rfl rfl)) ml_X7_45 zy_X7_unmarks im_X7_unmarks se_X7_unmarks ⟨Nat.le_of_ble_eq_true rfl, Nat.le_of_ble_eq_true rfl⟩ hK hP hD hS [0, 1] rfl rfl rfl rfl rfl rfl rfl hl.1 rfl rfl (Nat.le_of_ble_eq_true rfl) ⟨Nat.zero_le _, Nat.zero_le _⟩ dX7_goes_21 (fun H locs hP hS => ?_)
  have hP : va_P D vwCl [(o 0, .inr (7, [f0, .ref (o 1), f2, f3, f4, f5, f6, f7, f8, f9, f10])), (o 1, .inl (ca 0, 99, .inl (rUn (upd sf ((7 + (3 * k)) + 2) (sf 0)) k)))] H := hP
  have hD := zDto (ws := [(o 0, .inr (7, [f0, .ref (o 1), f2, f3, f4, f5, f6, f7, f8, f9, f10])), (o 1, .inl (ca 0, 99, .inl (rUn (upd sf ((7 + (3 * k)) + 2) (sf 0)) k)))]) hN hA rfl
  have hz : rGo sf k = rUn (upd sf ((7 + (3 * k)) + 2) (sf 0)) k := by rfl
  exact zw_v hx hb hr hlk hP hS (by rw [hz] <;> rfl) dX7_goes_24
set_option maxHeartbeats 4000000 in
set_option maxRecDepth 100000 in
theorem c_X7_changes (l : Launch) (D : va_G) (ca : Nat → ClassId) (o : Nat → Nat) (f0 f2 f3 f4 f5 f6 f7 f8 f9 f10 : Value) (sf : Nat → Int32) (q k : Nat) (v : Int32) (hk : k < 24) (hq : q = 43 ∨ q = 45 ∨ q = 61) (hlo : q ≠ 45 → rLow sf < 24) (hN : [o 0, o 1].Nodup) : zMw l yX7_changes cX7_changes 5 (some .int) 3 64 D ca [(o 0, .inr (7, [f0, .ref (o 1), f2, f3, f4, f5, f6, f7, f8, f9, f10])), (o 1, .inl (ca 0, 99, .inl sf))] ([(o 0, .inr (7, [f0, .ref (o 1), f2, f3, f4, f5, f6, f7, f8, f9, f10])), (o 1, .inl (ca 0, 99, .inl (rChg sf q k v)))]) [.ref (o 0), .int (nI q), .int (nI k), .int v] (some (.int (zNo (rLow sf)))) := by
  refine zMw_of (own := RX7) (by decide) rfl (Nat.le_of_ble_eq_true rfl) ?_
  intro p e s m args below meth c ls S hr hlk hP hK hl hS
  have hP : va_P D vwCl [(o 0, .inr (7, [f0, .ref (o 1), f2, f3, f4, f5, f6, f7, f8, f9, f10])), (o 1, .inl (ca 0, 99, .inl sf))] s.heap := hP
  have hS : va_S (zA [o 0, o 1]) s.heap s.heap [] := hS
  have hA : ∀ q ∈ [o 0, o 1], zA [o 0, o 1] q := fun _ h => h
  have hD := zDto (ws := [(o 0, .inr (7, [f0, .ref (o 1), f2, f3, f4, f5, f6, f7, f8, f9, f10])), (o 1, .inl (ca 0, 99, .inl sf))]) hN hA rfl
  have hx := S.1
  have hb := S.2.1
  have hl : lv_has ls 5 [(0, .ref (o 0)), (1, .int (nI q)), (2, .int (nI k)), (3, .int v)] := hl
  refine lv_aload_n hx hb dX7_changes_0 rfl (lv_at hl 0 rfl) ?_
  refine zcr (As := []) (rest := []) (q0 := 0) S (c_X7_lowestEmpty l D ca o f0 f2 f3 f4 f5 f6 f7 f8 f9 f10 sf ) ml_X7_49 zy_X7_lowestEmpty im_X7_lowestEmpty se_X7_lowestEmpty ⟨Nat.le_of_ble_eq_true rfl, Nat.le_of_ble_eq_true rfl⟩ hK hP [0, 1] rfl rfl rfl rfl rfl hl.1 rfl (Nat.le_of_ble_eq_true rfl) ⟨Nat.zero_le _, Nat.zero_le _⟩ dX7_changes_1 ?_
  refine zNo_c (fun c_1_1 => ?_) (fun c_1_1 => ?_)
  · refine lv_istore (lv' := [(4, .int (nI (rLow sf))), (0, .ref (o 0)), (1, .int (nI q)), (2, .int (nI k)), (3, .int v)]) hx hb dX7_changes_4 hl (by decide) rfl (fun ls hl => ?_)
    refine lv_aload_n hx hb dX7_changes_6 rfl (lv_at hl 1 rfl) ?_
    refine z_get S in_lay_X7 hK hP rfl 0 rfl 1 (by decide) fl_X7_7 rfl rfl dX7_changes_7 ?_
    refine lv_iconst (v := 0) hx hb dX7_changes_10 (by decide) ?_
    refine lv_dup2_11 hx hb dX7_changes_11 rfl rfl ?_
    refine z_iald S hK hP 1 rfl (j := 0) (by omega) (by decide) dX7_changes_12 ?_
    refine lv_iconst (v := 1) hx hb dX7_changes_13 (by decide) ?_
    refine lv_iadd hx hb dX7_changes_14 ?_
    refine z_iast S hK hP hD hS 1 rfl (j := 0) (by omega) (by decide) dX7_changes_15 (fun H locs hP hS => ?_)
    have hP : va_P D vwCl [(o 0, .inr (7, [f0, .ref (o 1), f2, f3, f4, f5, f6, f7, f8, f9, f10])), (o 1, .inl (ca 0, 99, .inl (upd sf 0 ((sf 0) + 1))))] H := hP
    have hD := zDto (ws := [(o 0, .inr (7, [f0, .ref (o 1), f2, f3, f4, f5, f6, f7, f8, f9, f10])), (o 1, .inl (ca 0, 99, .inl (upd sf 0 ((sf 0) + 1))))]) hN hA rfl
    refine lv_iload_n hx hb dX7_changes_16 rfl (lv_at hl 2 rfl) ?_
    refine lv_bipush (v := 43) hx hb dX7_changes_17 (by decide) ?_
    refine zn_eq hx hb (x := q) (y := 43) (by omega) (by omega) (tgt := 27) dX7_changes_19 (by decide) (fun c_19_2 => ?_) (fun c_19_2 => ?_)
    · refine lv_iload_n hx hb dX7_changes_27 rfl (lv_at hl 2 rfl) ?_
      refine lv_bipush (v := 45) hx hb dX7_changes_28 (by decide) ?_
      refine zn_eq hx hb (x := q) (y := 45) (by omega) (by omega) (tgt := 40) dX7_changes_30 (by decide) (fun h => False.elim (by omega)) (fun c_30_3 => ?_)
      refine lv_aload_n hx hb dX7_changes_33 rfl (lv_at hl 1 rfl) ?_
      refine lv_iload hx hb dX7_changes_34 (lv_at hl 0 rfl) ?_
      refine lv_iload_n hx hb dX7_changes_36 rfl (lv_at hl 4 rfl) ?_
      refine zcw (As := [.int (nI (rLow sf)), .int v]) (rest := []) (st1 := []) (q0 := 0) (lw := [o 0, o 1]) S (c_X7_comes l D ca o f0 f2 f3 f4 f5 f6 f7 f8 f9 f10 (upd sf 0 ((sf 0) + 1)) (rLow sf) (by omega) v (znd_pick hN [0, 1] rfl rfl)) ml_X7_56 zy_X7_comes im_X7_comes se_X7_comes ⟨Nat.le_of_ble_eq_true rfl, Nat.le_of_ble_eq_true rfl⟩ hK hP hD hS [0, 1] rfl rfl rfl rfl rfl rfl rfl hl.1 rfl rfl (Nat.le_of_ble_eq_true rfl) ⟨Nat.zero_le _, Nat.zero_le _⟩ dX7_changes_37 (fun H locs hP hS => ?_)
      have hP : va_P D vwCl [(o 0, .inr (7, [f0, .ref (o 1), f2, f3, f4, f5, f6, f7, f8, f9, f10])), (o 1, .inl (ca 0, 99, .inl (rCome (upd sf 0 ((sf 0) + 1)) (rLow sf) v)))] H := hP
      have hD := zDto (ws := [(o 0, .inr (7, [f0, .ref (o 1), f2, f3, f4, f5, f6, f7, f8, f9, f10])), (o 1, .inl (ca 0, 99, .inl (rCome (upd sf 0 ((sf 0) + 1)) (rLow sf) v)))]) hN hA rfl
      refine lv_iload hx hb dX7_changes_40 (lv_at hl 0 rfl) ?_
      have hz : rChg sf q k v = rCome (upd sf 0 ((sf 0) + 1)) (rLow sf) v := by simp [rChg, rTick, c_1_1, c_19_2, c_30_3] <;> omega
      exact zw_i hx hb hr hlk hP hS ⟨by rw [zNo, if_pos (by omega)], by rw [hz] <;> rfl⟩ dX7_changes_42
    · refine lv_aload_n hx hb dX7_changes_22 rfl (lv_at hl 1 rfl) ?_
      refine lv_iload_n hx hb dX7_changes_23 rfl (lv_at hl 3 rfl) ?_
      refine zcw (As := [.int (nI k)]) (rest := []) (st1 := []) (q0 := 0) (lw := [o 0, o 1]) S (c_X7_goes l D ca o f0 f2 f3 f4 f5 f6 f7 f8 f9 f10 (upd sf 0 ((sf 0) + 1)) k (by omega) (znd_pick hN [0, 1] rfl rfl)) ml_X7_53 zy_X7_goes im_X7_goes se_X7_goes ⟨Nat.le_of_ble_eq_true rfl, Nat.le_of_ble_eq_true rfl⟩ hK hP hD hS [0, 1] rfl rfl rfl rfl rfl rfl rfl hl.1 rfl rfl (Nat.le_of_ble_eq_true rfl) ⟨Nat.zero_le _, Nat.zero_le _⟩ dX7_changes_24 (fun H locs hP hS => ?_)
      have hP : va_P D vwCl [(o 0, .inr (7, [f0, .ref (o 1), f2, f3, f4, f5, f6, f7, f8, f9, f10])), (o 1, .inl (ca 0, 99, .inl (rGo (upd sf 0 ((sf 0) + 1)) k)))] H := hP
      have hD := zDto (ws := [(o 0, .inr (7, [f0, .ref (o 1), f2, f3, f4, f5, f6, f7, f8, f9, f10])), (o 1, .inl (ca 0, 99, .inl (rGo (upd sf 0 ((sf 0) + 1)) k)))]) hN hA rfl
      refine lv_iload_n hx hb dX7_changes_27 rfl (lv_at hl 2 rfl) ?_
      refine lv_bipush (v := 45) hx hb dX7_changes_28 (by decide) ?_
      refine zn_eq hx hb (x := q) (y := 45) (by omega) (by omega) (tgt := 40) dX7_changes_30 (by decide) (fun c_30_4 => ?_) (fun c_30_4 => ?_)
      · refine lv_iload hx hb dX7_changes_40 (lv_at hl 0 rfl) ?_
        have hz : rChg sf q k v = rGo (upd sf 0 ((sf 0) + 1)) k := by simp [rChg, rTick, c_1_1, c_19_2, c_30_4] <;> omega
        exact zw_i hx hb hr hlk hP hS ⟨by rw [zNo, if_pos (by omega)], by rw [hz] <;> rfl⟩ dX7_changes_42
      · refine lv_aload_n hx hb dX7_changes_33 rfl (lv_at hl 1 rfl) ?_
        refine lv_iload hx hb dX7_changes_34 (lv_at hl 0 rfl) ?_
        refine lv_iload_n hx hb dX7_changes_36 rfl (lv_at hl 4 rfl) ?_
        refine zcw (As := [.int (nI (rLow sf)), .int v]) (rest := []) (st1 := []) (q0 := 0) (lw := [o 0, o 1]) S (c_X7_comes l D ca o f0 f2 f3 f4 f5 f6 f7 f8 f9 f10 (rGo (upd sf 0 ((sf 0) + 1)) k) (rLow sf) (by omega) v (znd_pick hN [0, 1] rfl rfl)) ml_X7_56 zy_X7_comes im_X7_comes se_X7_comes ⟨Nat.le_of_ble_eq_true rfl, Nat.le_of_ble_eq_true rfl⟩ hK hP hD hS [0, 1] rfl rfl rfl rfl rfl rfl rfl hl.1 rfl rfl (Nat.le_of_ble_eq_true rfl) ⟨Nat.zero_le _, Nat.zero_le _⟩ dX7_changes_37 (fun H locs hP hS => ?_)
        have hP : va_P D vwCl [(o 0, .inr (7, [f0, .ref (o 1), f2, f3, f4, f5, f6, f7, f8, f9, f10])), (o 1, .inl (ca 0, 99, .inl (rCome (rGo (upd sf 0 ((sf 0) + 1)) k) (rLow sf) v)))] H := hP
        have hD := zDto (ws := [(o 0, .inr (7, [f0, .ref (o 1), f2, f3, f4, f5, f6, f7, f8, f9, f10])), (o 1, .inl (ca 0, 99, .inl (rCome (rGo (upd sf 0 ((sf 0) + 1)) k) (rLow sf) v)))]) hN hA rfl
        refine lv_iload hx hb dX7_changes_40 (lv_at hl 0 rfl) ?_
        have hz : rChg sf q k v = rCome (rGo (upd sf 0 ((sf 0) + 1)) k) (rLow sf) v := by simp [rChg, rTick, c_1_1, c_19_2, c_30_4] <;> omega
        exact zw_i hx hb hr hlk hP hS ⟨by rw [zNo, if_pos (by omega)], by rw [hz] <;> rfl⟩ dX7_changes_42
  · refine lv_istore (lv' := [(4, .int (-1)), (0, .ref (o 0)), (1, .int (nI q)), (2, .int (nI k)), (3, .int v)]) hx hb dX7_changes_4 hl (by decide) rfl (fun ls hl => ?_)
    refine lv_aload_n hx hb dX7_changes_6 rfl (lv_at hl 1 rfl) ?_
    refine z_get S in_lay_X7 hK hP rfl 0 rfl 1 (by decide) fl_X7_7 rfl rfl dX7_changes_7 ?_
    refine lv_iconst (v := 0) hx hb dX7_changes_10 (by decide) ?_
    refine lv_dup2_11 hx hb dX7_changes_11 rfl rfl ?_
    refine z_iald S hK hP 1 rfl (j := 0) (by omega) (by decide) dX7_changes_12 ?_
    refine lv_iconst (v := 1) hx hb dX7_changes_13 (by decide) ?_
    refine lv_iadd hx hb dX7_changes_14 ?_
    refine z_iast S hK hP hD hS 1 rfl (j := 0) (by omega) (by decide) dX7_changes_15 (fun H locs hP hS => ?_)
    have hP : va_P D vwCl [(o 0, .inr (7, [f0, .ref (o 1), f2, f3, f4, f5, f6, f7, f8, f9, f10])), (o 1, .inl (ca 0, 99, .inl (upd sf 0 ((sf 0) + 1))))] H := hP
    have hD := zDto (ws := [(o 0, .inr (7, [f0, .ref (o 1), f2, f3, f4, f5, f6, f7, f8, f9, f10])), (o 1, .inl (ca 0, 99, .inl (upd sf 0 ((sf 0) + 1))))]) hN hA rfl
    refine lv_iload_n hx hb dX7_changes_16 rfl (lv_at hl 2 rfl) ?_
    refine lv_bipush (v := 43) hx hb dX7_changes_17 (by decide) ?_
    refine zn_eq hx hb (x := q) (y := 43) (by omega) (by omega) (tgt := 27) dX7_changes_19 (by decide) (fun c_19_5 => ?_) (fun c_19_5 => ?_)
    · refine lv_iload_n hx hb dX7_changes_27 rfl (lv_at hl 2 rfl) ?_
      refine lv_bipush (v := 45) hx hb dX7_changes_28 (by decide) ?_
      refine zn_eq hx hb (x := q) (y := 45) (by omega) (by omega) (tgt := 40) dX7_changes_30 (by decide) (fun h => False.elim (by omega)) (fun c_30_6 => ?_)
      exact False.elim (by omega)
    · refine lv_aload_n hx hb dX7_changes_22 rfl (lv_at hl 1 rfl) ?_
      refine lv_iload_n hx hb dX7_changes_23 rfl (lv_at hl 3 rfl) ?_
      refine zcw (As := [.int (nI k)]) (rest := []) (st1 := []) (q0 := 0) (lw := [o 0, o 1]) S (c_X7_goes l D ca o f0 f2 f3 f4 f5 f6 f7 f8 f9 f10 (upd sf 0 ((sf 0) + 1)) k (by omega) (znd_pick hN [0, 1] rfl rfl)) ml_X7_53 zy_X7_goes im_X7_goes se_X7_goes ⟨Nat.le_of_ble_eq_true rfl, Nat.le_of_ble_eq_true rfl⟩ hK hP hD hS [0, 1] rfl rfl rfl rfl rfl rfl rfl hl.1 rfl rfl (Nat.le_of_ble_eq_true rfl) ⟨Nat.zero_le _, Nat.zero_le _⟩ dX7_changes_24 (fun H locs hP hS => ?_)
      have hP : va_P D vwCl [(o 0, .inr (7, [f0, .ref (o 1), f2, f3, f4, f5, f6, f7, f8, f9, f10])), (o 1, .inl (ca 0, 99, .inl (rGo (upd sf 0 ((sf 0) + 1)) k)))] H := hP
      have hD := zDto (ws := [(o 0, .inr (7, [f0, .ref (o 1), f2, f3, f4, f5, f6, f7, f8, f9, f10])), (o 1, .inl (ca 0, 99, .inl (rGo (upd sf 0 ((sf 0) + 1)) k)))]) hN hA rfl
      refine lv_iload_n hx hb dX7_changes_27 rfl (lv_at hl 2 rfl) ?_
      refine lv_bipush (v := 45) hx hb dX7_changes_28 (by decide) ?_
      refine zn_eq hx hb (x := q) (y := 45) (by omega) (by omega) (tgt := 40) dX7_changes_30 (by decide) (fun c_30_7 => ?_) (fun c_30_7 => ?_)
      · refine lv_iload hx hb dX7_changes_40 (lv_at hl 0 rfl) ?_
        have hz : rChg sf q k v = rGo (upd sf 0 ((sf 0) + 1)) k := by simp [rChg, rTick, c_1_1, c_19_5, c_30_7] <;> omega
        exact zw_i hx hb hr hlk hP hS ⟨by rw [zNo, if_neg (by omega)], by rw [hz] <;> rfl⟩ dX7_changes_42
      · exact False.elim (by omega)
set_option maxHeartbeats 4000000 in
set_option maxRecDepth 100000 in
theorem c_X7_canChange (l : Launch) (D : va_G) (ca : Nat → ClassId) (o : Nat → Nat) (f0 f2 f3 f4 f5 f6 f7 f8 f9 f10 : Value) (sf : Nat → Int32) (q k : Nat) (hk : k < 24) (hq : q < 128) : zMr l yX7_canChange cX7_canChange 4 (some .boolean) 3 66 D ca [(o 0, .inr (7, [f0, .ref (o 1), f2, f3, f4, f5, f6, f7, f8, f9, f10])), (o 1, .inl (ca 0, 99, .inl sf))] [.ref (o 0), .int (nI q), .int (nI k)] (.int (zb (rCan sf q (nI k) (rSeen sf k (sf 0))))) := by
  refine zMr_of (own := RX7) (by decide) rfl (Nat.le_of_ble_eq_true rfl) ?_
  intro p e s m args below meth c ls S hr hlk hP hK hl
  have hx := S.1
  have hb := S.2.1
  have hl : lv_has ls 4 [(0, .ref (o 0)), (1, .int (nI q)), (2, .int (nI k))] := hl
  refine lv_iload_n hx hb dX7_canChange_0 rfl (lv_at hl 1 rfl) ?_
  refine lv_bipush (v := 43) hx hb dX7_canChange_1 (by decide) ?_
  refine zn_eq hx hb (x := q) (y := 43) (by omega) (by omega) (tgt := 27) dX7_canChange_3 (by decide) (fun c_3_1 => ?_) (fun c_3_1 => ?_)
  · refine lv_iconst (v := 1) hx hb dX7_canChange_27 (by decide) ?_
    refine lv_goto (tgt := 32) hx hb dX7_canChange_28 (by decide) ?_
    refine lv_istore_n (lv' := [(3, .int 1), (0, .ref (o 0)), (1, .int (nI q)), (2, .int (nI k))]) hx hb dX7_canChange_32 rfl hl (by decide) rfl (fun ls hl => ?_)
    refine lv_iload_n hx hb dX7_canChange_33 rfl (lv_at hl 0 rfl) ?_
    refine lv_if_eq (tgt := 55) hx hb dX7_canChange_34 (by decide) (fun h => absurd h (by decide)) (fun _ => ?_)
    refine lv_iload_n hx hb dX7_canChange_37 rfl (lv_at hl 2 rfl) ?_
    refine lv_bipush (v := 45) hx hb dX7_canChange_38 (by decide) ?_
    refine zn_eq hx hb (x := q) (y := 45) (by omega) (by omega) (tgt := 51) dX7_canChange_40 (by decide) (fun h => False.elim (by omega)) (fun c_40_2 => ?_)
    refine lv_aload_n hx hb dX7_canChange_43 rfl (lv_at hl 1 rfl) ?_
    refine zcr (As := []) (rest := []) (q0 := 0) S (c_X7_lowestEmpty l D ca o f0 f2 f3 f4 f5 f6 f7 f8 f9 f10 sf ) ml_X7_49 zy_X7_lowestEmpty im_X7_lowestEmpty se_X7_lowestEmpty ⟨Nat.le_of_ble_eq_true rfl, Nat.le_of_ble_eq_true rfl⟩ hK hP [0, 1] rfl rfl rfl rfl rfl hl.1 rfl (Nat.le_of_ble_eq_true rfl) ⟨Nat.zero_le _, Nat.zero_le _⟩ dX7_canChange_44 ?_
    refine zNo_c (fun c_44_3 => ?_) (fun c_44_3 => ?_)
    · refine lv_iconst (v := (-1)) hx hb dX7_canChange_47 (by decide) ?_
      refine lv_icmp_eq (tgt := 55) hx hb dX7_canChange_48 (by decide) (fun h => absurd h (nI_nem1 (by omega))) (fun _ => ?_)
      refine lv_iconst (v := 1) hx hb dX7_canChange_51 (by decide) ?_
      refine lv_goto (tgt := 56) hx hb dX7_canChange_52 (by decide) ?_
      exact zr_z hx hb hr hlk (by simp [rCan, zb, c_3_1, c_40_2, c_44_3]) dX7_canChange_56
    · refine lv_iconst (v := (-1)) hx hb dX7_canChange_47 (by decide) ?_
      refine lv_icmp_eq (tgt := 55) hx hb dX7_canChange_48 (by decide) (fun _ => ?_) (fun h => absurd (by decide) h)
      refine lv_iconst (v := 0) hx hb dX7_canChange_55 (by decide) ?_
      exact zr_z hx hb hr hlk (by simp [rCan, zb, c_3_1, c_40_2, c_44_3]) dX7_canChange_56
  · refine lv_iload_n hx hb dX7_canChange_6 rfl (lv_at hl 2 rfl) ?_
    refine zcrS (As := [.int (nI k)]) (rest := []) S (c_X7_isPlace l D ca (nI k)) ml_X7_60 zy_X7_isPlace st_X7_isPlace ⟨Nat.le_of_ble_eq_true rfl, Nat.le_of_ble_eq_true rfl⟩ hK hP [] rfl rfl hl.1 rfl (Nat.le_of_ble_eq_true rfl) ⟨Nat.zero_le _, Nat.zero_le _⟩ dX7_canChange_7 ?_
    refine zz_eq (tgt := 31) hx hb dX7_canChange_10 (by decide) (fun c_10_4 => ?_) (fun c_10_4 => ?_)
    · refine lv_iconst (v := 0) hx hb dX7_canChange_31 (by decide) ?_
      refine lv_istore_n (lv' := [(3, .int 0), (0, .ref (o 0)), (1, .int (nI q)), (2, .int (nI k))]) hx hb dX7_canChange_32 rfl hl (by decide) rfl (fun ls hl => ?_)
      refine lv_iload_n hx hb dX7_canChange_33 rfl (lv_at hl 0 rfl) ?_
      refine lv_if_eq (tgt := 55) hx hb dX7_canChange_34 (by decide) (fun _ => ?_) (fun h => absurd (by decide) h)
      refine lv_iconst (v := 0) hx hb dX7_canChange_55 (by decide) ?_
      exact zr_z hx hb hr hlk (by simp [rCan, zb, c_3_1, c_10_4]) dX7_canChange_56
    · refine lv_aload_n hx hb dX7_canChange_13 rfl (lv_at hl 0 rfl) ?_
      refine lv_iload_n hx hb dX7_canChange_14 rfl (lv_at hl 2 rfl) ?_
      refine lv_aload_n hx hb dX7_canChange_15 rfl (lv_at hl 0 rfl) ?_
      refine z_get S in_lay_X7 hK hP rfl 0 rfl 1 (by decide) fl_X7_7 rfl rfl dX7_canChange_16 ?_
      refine lv_iconst (v := 0) hx hb dX7_canChange_19 (by decide) ?_
      refine z_iald S hK hP 1 rfl (j := 0) (by omega) (by decide) dX7_canChange_20 ?_
      refine zcr (As := [.int (nI k), .int (sf 0)]) (rest := []) (q0 := 0) S (c_X7_isSeen l D ca o f0 f2 f3 f4 f5 f6 f7 f8 f9 f10 sf k (by omega) (sf 0)) ml_X7_63 zy_X7_isSeen im_X7_isSeen se_X7_isSeen ⟨Nat.le_of_ble_eq_true rfl, Nat.le_of_ble_eq_true rfl⟩ hK hP [0, 1] rfl rfl rfl rfl rfl hl.1 rfl (Nat.le_of_ble_eq_true rfl) ⟨Nat.zero_le _, Nat.zero_le _⟩ dX7_canChange_21 ?_
      refine zz_eq (tgt := 31) hx hb dX7_canChange_24 (by decide) (fun c_24_5 => ?_) (fun c_24_5 => ?_)
      · refine lv_iconst (v := 0) hx hb dX7_canChange_31 (by decide) ?_
        refine lv_istore_n (lv' := [(3, .int 0), (0, .ref (o 0)), (1, .int (nI q)), (2, .int (nI k))]) hx hb dX7_canChange_32 rfl hl (by decide) rfl (fun ls hl => ?_)
        refine lv_iload_n hx hb dX7_canChange_33 rfl (lv_at hl 0 rfl) ?_
        refine lv_if_eq (tgt := 55) hx hb dX7_canChange_34 (by decide) (fun _ => ?_) (fun h => absurd (by decide) h)
        refine lv_iconst (v := 0) hx hb dX7_canChange_55 (by decide) ?_
        exact zr_z hx hb hr hlk (by simp [rCan, zb, c_3_1, c_10_4, c_24_5]) dX7_canChange_56
      · refine lv_iconst (v := 1) hx hb dX7_canChange_27 (by decide) ?_
        refine lv_goto (tgt := 32) hx hb dX7_canChange_28 (by decide) ?_
        refine lv_istore_n (lv' := [(3, .int 1), (0, .ref (o 0)), (1, .int (nI q)), (2, .int (nI k))]) hx hb dX7_canChange_32 rfl hl (by decide) rfl (fun ls hl => ?_)
        refine lv_iload_n hx hb dX7_canChange_33 rfl (lv_at hl 0 rfl) ?_
        refine lv_if_eq (tgt := 55) hx hb dX7_canChange_34 (by decide) (fun h => absurd h (by decide)) (fun _ => ?_)
        refine lv_iload_n hx hb dX7_canChange_37 rfl (lv_at hl 2 rfl) ?_
        refine lv_bipush (v := 45) hx hb dX7_canChange_38 (by decide) ?_
        refine zn_eq hx hb (x := q) (y := 45) (by omega) (by omega) (tgt := 51) dX7_canChange_40 (by decide) (fun c_40_6 => ?_) (fun c_40_6 => ?_)
        · refine lv_iconst (v := 1) hx hb dX7_canChange_51 (by decide) ?_
          refine lv_goto (tgt := 56) hx hb dX7_canChange_52 (by decide) ?_
          exact zr_z hx hb hr hlk (by simp [rCan, zb, c_3_1, c_10_4, c_24_5, c_40_6]) dX7_canChange_56
        · refine lv_aload_n hx hb dX7_canChange_43 rfl (lv_at hl 1 rfl) ?_
          refine zcr (As := []) (rest := []) (q0 := 0) S (c_X7_lowestEmpty l D ca o f0 f2 f3 f4 f5 f6 f7 f8 f9 f10 sf ) ml_X7_49 zy_X7_lowestEmpty im_X7_lowestEmpty se_X7_lowestEmpty ⟨Nat.le_of_ble_eq_true rfl, Nat.le_of_ble_eq_true rfl⟩ hK hP [0, 1] rfl rfl rfl rfl rfl hl.1 rfl (Nat.le_of_ble_eq_true rfl) ⟨Nat.zero_le _, Nat.zero_le _⟩ dX7_canChange_44 ?_
          refine zNo_c (fun c_44_7 => ?_) (fun c_44_7 => ?_)
          · refine lv_iconst (v := (-1)) hx hb dX7_canChange_47 (by decide) ?_
            refine lv_icmp_eq (tgt := 55) hx hb dX7_canChange_48 (by decide) (fun h => absurd h (nI_nem1 (by omega))) (fun _ => ?_)
            refine lv_iconst (v := 1) hx hb dX7_canChange_51 (by decide) ?_
            refine lv_goto (tgt := 56) hx hb dX7_canChange_52 (by decide) ?_
            exact zr_z hx hb hr hlk (by simp [rCan, zb, c_3_1, c_10_4, c_24_5, c_40_6, c_44_7]) dX7_canChange_56
          · refine lv_iconst (v := (-1)) hx hb dX7_canChange_47 (by decide) ?_
            refine lv_icmp_eq (tgt := 55) hx hb dX7_canChange_48 (by decide) (fun _ => ?_) (fun h => absurd (by decide) h)
            refine lv_iconst (v := 0) hx hb dX7_canChange_55 (by decide) ?_
            exact zr_z hx hb hr hlk (by simp [rCan, zb, c_3_1, c_10_4, c_24_5, c_40_6, c_44_7]) dX7_canChange_56
set_option maxHeartbeats 4000000 in
set_option maxRecDepth 100000 in
theorem c_X7_horizonBut (l : Launch) (D : va_G) (ca : Nat → ClassId) (o : Nat → Nat) (f0 f2 f3 f4 f5 f6 f7 f8 f9 f10 : Value) (sf : Nat → Int32) (w0 : Int32) : zMr l yX7_horizonBut cX7_horizonBut 5 (some .int) 1 21 D ca [(o 0, .inr (7, [f0, .ref (o 1), f2, f3, f4, f5, f6, f7, f8, f9, f10])), (o 1, .inl (ca 0, 99, .inl sf))] [.ref (o 0), .int w0] (.int (rHb sf w0)) := by
  refine zMr_of (own := RX7) (by decide) rfl (Nat.le_of_ble_eq_true rfl) ?_
  intro p e s m args below meth c ls S hr hlk hP hK hl
  have hx := S.1
  have hb := S.2.1
  have hl : lv_has ls 5 [(0, .ref (o 0)), (1, .int w0)] := hl
  refine lv_aload_n hx hb dX7_horizonBut_0 rfl (lv_at hl 0 rfl) ?_
  refine z_get S in_lay_X7 hK hP rfl 0 rfl 1 (by decide) fl_X7_7 rfl rfl dX7_horizonBut_1 ?_
  refine lv_iconst (v := 0) hx hb dX7_horizonBut_4 (by decide) ?_
  refine z_iald S hK hP 1 rfl (j := 0) (by omega) (by decide) dX7_horizonBut_5 ?_
  refine lv_istore_n (lv' := [(2, .int (sf 0)), (0, .ref (o 0)), (1, .int w0)]) hx hb dX7_horizonBut_6 rfl hl (by decide) rfl (fun ls hl => ?_)
  refine lv_iconst (v := 0) hx hb dX7_horizonBut_7 (by decide) ?_
  refine lv_istore_n (lv' := [(3, .int 0), (2, .int (sf 0)), (0, .ref (o 0)), (1, .int w0)]) hx hb dX7_horizonBut_8 rfl hl (by decide) rfl (fun ls hl => ?_)
  have loop_0 : ∀ (f : Nat) (k : Nat) (x : Int32) (ls : Array Slot), k + f = 4 → rHb sf w0 = zhz (rSn sf) w0 f k x → lv_has ls 5 [(0, .ref (o 0)), (1, .int w0), (2, .int x), (3, .int (nI k))] → W p l e { frames := 1, cells := 0, slots := 0, locals := 21 } s m args below meth c s.heap [] 0 0 (MQ below (zQr (.int (rHb sf w0))) args s 0 0 (fun _ => False)) (F0 m 9 ls []) := by
    intro f
    induction f with
    | zero =>
      intro k x ls j1 j2 hl
      refine lv_iload_n hx hb dX7_horizonBut_9 rfl (lv_at hl 3 rfl) ?_
      refine lv_iconst (v := 4) hx hb dX7_horizonBut_10 (by decide) ?_
      refine zn_ge hx hb (x := k) (y := 4) (by omega) (by omega) (tgt := 51) dX7_horizonBut_11 (by decide) (fun c_11_2 => ?_) (fun h => False.elim (by omega))
      refine lv_iload_n hx hb dX7_horizonBut_51 rfl (lv_at hl 2 rfl) ?_
      exact zr_i hx hb hr hlk (by exact j2.symm) dX7_horizonBut_52
    | succ f ih =>
      intro k x ls j1 j2 hl
      refine lv_iload_n hx hb dX7_horizonBut_9 rfl (lv_at hl 3 rfl) ?_
      refine lv_iconst (v := 4) hx hb dX7_horizonBut_10 (by decide) ?_
      refine zn_ge hx hb (x := k) (y := 4) (by omega) (by omega) (tgt := 51) dX7_horizonBut_11 (by decide) (fun h => False.elim (by omega)) (fun c_11_3 => ?_)
      refine lv_aload_n hx hb dX7_horizonBut_14 rfl (lv_at hl 0 rfl) ?_
      refine lv_iload_n hx hb dX7_horizonBut_15 rfl (lv_at hl 3 rfl) ?_
      refine zcr (As := [.int (nI k)]) (rest := []) (q0 := 0) S (c_X7_snapshotOf l D ca o f0 f2 f3 f4 f5 f6 f7 f8 f9 f10 sf k (by omega)) ml_X7_81 zy_X7_snapshotOf im_X7_snapshotOf se_X7_snapshotOf ⟨Nat.le_of_ble_eq_true rfl, Nat.le_of_ble_eq_true rfl⟩ hK hP [0, 1] rfl rfl rfl rfl rfl hl.1 rfl (Nat.le_of_ble_eq_true rfl) ⟨Nat.zero_le _, Nat.zero_le _⟩ dX7_horizonBut_16 ?_
      refine lv_istore (lv' := [(4, .int (rSn sf k)), (0, .ref (o 0)), (1, .int w0), (2, .int x), (3, .int (nI k))]) hx hb dX7_horizonBut_19 hl (by decide) rfl (fun ls hl => ?_)
      refine lv_iload_n hx hb dX7_horizonBut_21 rfl (lv_at hl 4 rfl) ?_
      refine lv_iload_n hx hb dX7_horizonBut_22 rfl (lv_at hl 2 rfl) ?_
      refine lv_icmp_eq (tgt := 43) hx hb dX7_horizonBut_23 (by decide) (fun c_23_4 => ?_) (fun c_23_4 => ?_)
      · refine lv_iload_n hx hb dX7_horizonBut_43 rfl (lv_at hl 3 rfl) ?_
        refine lv_istore_n (lv' := [(2, .int x), (4, .int (rSn sf k)), (0, .ref (o 0)), (1, .int w0), (3, .int (nI k))]) hx hb dX7_horizonBut_44 rfl hl (by decide) rfl (fun ls hl => ?_)
        refine lv_iinc (v := nI (k + 1)) (lv' := [(3, .int (nI (k + 1))), (2, .int x), (4, .int (rSn sf k)), (0, .ref (o 0)), (1, .int w0)]) hx hb dX7_horizonBut_45 hl (k := 4) rfl (zinc k 1) (by decide) rfl (fun ls hl => ?_)
        refine lv_goto (tgt := 9) hx hb dX7_horizonBut_48 (by decide) ?_
        exact ih (k + 1) x ls (by omega) (by rw [j2]; simp only [zhz, c_11_3, c_23_4, if_true, if_false]) (lv_sub hl [3, 4, 1, 0] rfl)
      · refine lv_iload hx hb dX7_horizonBut_26 (lv_at hl 0 rfl) ?_
        refine lv_iconst (v := (-1)) hx hb dX7_horizonBut_28 (by decide) ?_
        refine lv_icmp_eq (tgt := 43) hx hb dX7_horizonBut_29 (by decide) (fun c_29_5 => ?_) (fun c_29_5 => ?_)
        · refine lv_iload_n hx hb dX7_horizonBut_43 rfl (lv_at hl 3 rfl) ?_
          refine lv_istore_n (lv' := [(2, .int x), (4, .int (rSn sf k)), (0, .ref (o 0)), (1, .int w0), (3, .int (nI k))]) hx hb dX7_horizonBut_44 rfl hl (by decide) rfl (fun ls hl => ?_)
          refine lv_iinc (v := nI (k + 1)) (lv' := [(3, .int (nI (k + 1))), (2, .int x), (4, .int (rSn sf k)), (0, .ref (o 0)), (1, .int w0)]) hx hb dX7_horizonBut_45 hl (k := 4) rfl (zinc k 1) (by decide) rfl (fun ls hl => ?_)
          refine lv_goto (tgt := 9) hx hb dX7_horizonBut_48 (by decide) ?_
          exact ih (k + 1) x ls (by omega) (by rw [j2]; simp only [zhz, c_11_3, c_23_4, c_29_5, if_true, if_false]) (lv_sub hl [3, 4, 1, 0] rfl)
        · refine lv_iload hx hb dX7_horizonBut_32 (lv_at hl 0 rfl) ?_
          refine lv_iload_n hx hb dX7_horizonBut_34 rfl (lv_at hl 3 rfl) ?_
          refine lv_icmp_ge (tgt := 43) hx hb dX7_horizonBut_35 (by decide) (fun c_35_6 => ?_) (fun c_35_6 => ?_)
          · refine lv_iload_n hx hb dX7_horizonBut_43 rfl (lv_at hl 3 rfl) ?_
            refine lv_istore_n (lv' := [(2, .int x), (4, .int (rSn sf k)), (0, .ref (o 0)), (1, .int w0), (3, .int (nI k))]) hx hb dX7_horizonBut_44 rfl hl (by decide) rfl (fun ls hl => ?_)
            refine lv_iinc (v := nI (k + 1)) (lv' := [(3, .int (nI (k + 1))), (2, .int x), (4, .int (rSn sf k)), (0, .ref (o 0)), (1, .int w0)]) hx hb dX7_horizonBut_45 hl (k := 4) rfl (zinc k 1) (by decide) rfl (fun ls hl => ?_)
            refine lv_goto (tgt := 9) hx hb dX7_horizonBut_48 (by decide) ?_
            exact ih (k + 1) x ls (by omega) (by rw [j2]; simp only [zhz, c_11_3, c_23_4, c_29_5, c_35_6, if_true, if_false]) (lv_sub hl [3, 4, 1, 0] rfl)
          · refine lv_iload hx hb dX7_horizonBut_38 (lv_at hl 0 rfl) ?_
            refine lv_goto (tgt := 44) hx hb dX7_horizonBut_40 (by decide) ?_
            refine lv_istore_n (lv' := [(2, .int (rSn sf k)), (4, .int (rSn sf k)), (0, .ref (o 0)), (1, .int w0), (3, .int (nI k))]) hx hb dX7_horizonBut_44 rfl hl (by decide) rfl (fun ls hl => ?_)
            refine lv_iinc (v := nI (k + 1)) (lv' := [(3, .int (nI (k + 1))), (2, .int (rSn sf k)), (4, .int (rSn sf k)), (0, .ref (o 0)), (1, .int w0)]) hx hb dX7_horizonBut_45 hl (k := 4) rfl (zinc k 1) (by decide) rfl (fun ls hl => ?_)
            refine lv_goto (tgt := 9) hx hb dX7_horizonBut_48 (by decide) ?_
            exact ih (k + 1) (rSn sf k) ls (by omega) (by rw [j2]; simp only [zhz, c_11_3, c_23_4, c_29_5, c_35_6, if_true, if_false]) (lv_sub hl [3, 4, 1, 0] rfl)
  exact loop_0 4 0 (sf 0) ls (by omega) (by rfl) (lv_sub hl [2, 3, 1, 0] rfl)
set_option maxHeartbeats 4000000 in
set_option maxRecDepth 100000 in
theorem c_X7_horizon (l : Launch) (D : va_G) (ca : Nat → ClassId) (o : Nat → Nat) (f0 f2 f3 f4 f5 f6 f7 f8 f9 f10 : Value) (sf : Nat → Int32)  : zMr l yX7_horizon cX7_horizon 1 (some .int) 2 45 D ca [(o 0, .inr (7, [f0, .ref (o 1), f2, f3, f4, f5, f6, f7, f8, f9, f10])), (o 1, .inl (ca 0, 99, .inl sf))] [.ref (o 0)] (.int (rHb sf (-1))) := by
  refine zMr_of (own := RX7) (by decide) rfl (Nat.le_of_ble_eq_true rfl) ?_
  intro p e s m args below meth c ls S hr hlk hP hK hl
  have hx := S.1
  have hb := S.2.1
  have hl : lv_has ls 1 [(0, .ref (o 0))] := hl
  refine lv_aload_n hx hb dX7_horizon_0 rfl (lv_at hl 0 rfl) ?_
  refine lv_iconst (v := (-1)) hx hb dX7_horizon_1 (by decide) ?_
  refine zcr (As := [.int (-1)]) (rest := []) (q0 := 0) S (c_X7_horizonBut l D ca o f0 f2 f3 f4 f5 f6 f7 f8 f9 f10 sf (-1)) ml_X7_84 zy_X7_horizonBut im_X7_horizonBut se_X7_horizonBut ⟨Nat.le_of_ble_eq_true rfl, Nat.le_of_ble_eq_true rfl⟩ hK hP [0, 1] rfl rfl rfl rfl rfl hl.1 rfl (Nat.le_of_ble_eq_true rfl) ⟨Nat.zero_le _, Nat.zero_le _⟩ dX7_horizon_2 ?_
  exact zr_i hx hb hr hlk (by rfl) dX7_horizon_5
set_option maxHeartbeats 4000000 in
set_option maxRecDepth 100000 in
theorem c_X7_isOld (l : Launch) (D : va_G) (ca : Nat → ClassId) (o : Nat → Nat) (f0 f2 f3 f4 f5 f6 f7 f8 f9 f10 : Value) (sf : Nat → Int32) (k : Nat) (hk : k < 24) (t : Int32) : zMr l yX7_isOld cX7_isOld 3 (some .boolean) 2 43 D ca [(o 0, .inr (7, [f0, .ref (o 1), f2, f3, f4, f5, f6, f7, f8, f9, f10])), (o 1, .inl (ca 0, 99, .inl sf))] [.ref (o 0), .int (nI k), .int t] (.int (zb (rOld sf k t))) := by
  refine zMr_of (own := RX7) (by decide) rfl (Nat.le_of_ble_eq_true rfl) ?_
  intro p e s m args below meth c ls S hr hlk hP hK hl
  have hx := S.1
  have hb := S.2.1
  have hl : lv_has ls 3 [(0, .ref (o 0)), (1, .int (nI k)), (2, .int t)] := hl
  refine lv_aload_n hx hb dX7_isOld_0 rfl (lv_at hl 0 rfl) ?_
  refine lv_iload_n hx hb dX7_isOld_1 rfl (lv_at hl 1 rfl) ?_
  refine zcr (As := [.int (nI k)]) (rest := []) (q0 := 0) S (c_X7_isFull l D ca o f0 f2 f3 f4 f5 f6 f7 f8 f9 f10 sf k (by omega)) ml_X7_37 zy_X7_isFull im_X7_isFull se_X7_isFull ⟨Nat.le_of_ble_eq_true rfl, Nat.le_of_ble_eq_true rfl⟩ hK hP [0, 1] rfl rfl rfl rfl rfl hl.1 rfl (Nat.le_of_ble_eq_true rfl) ⟨Nat.zero_le _, Nat.zero_le _⟩ dX7_isOld_2 ?_
  refine zz_eq (tgt := 31) hx hb dX7_isOld_5 (by decide) (fun c_5_1 => ?_) (fun c_5_1 => ?_)
  · refine lv_iconst (v := 0) hx hb dX7_isOld_31 (by decide) ?_
    exact zr_z hx hb hr hlk (by simp [rOld, zb, c_5_1]) dX7_isOld_32
  · refine lv_aload_n hx hb dX7_isOld_8 rfl (lv_at hl 0 rfl) ?_
    refine lv_iload_n hx hb dX7_isOld_9 rfl (lv_at hl 1 rfl) ?_
    refine lv_iconst (v := 2) hx hb dX7_isOld_10 (by decide) ?_
    refine zcr (As := [.int (nI k), .int 2]) (rest := []) (q0 := 0) S (c_X7_of l D ca o f0 f2 f3 f4 f5 f6 f7 f8 f9 f10 sf k 2 (by omega) (by omega)) ml_X7_33 zy_X7_of im_X7_of se_X7_of ⟨Nat.le_of_ble_eq_true rfl, Nat.le_of_ble_eq_true rfl⟩ hK hP [0, 1] rfl rfl rfl rfl rfl hl.1 rfl (Nat.le_of_ble_eq_true rfl) ⟨Nat.zero_le _, Nat.zero_le _⟩ dX7_isOld_11 ?_
    refine lv_if_le (tgt := 31) hx hb dX7_isOld_14 (by decide) (fun c_14_2 => ?_) (fun c_14_2 => ?_)
    · refine lv_iconst (v := 0) hx hb dX7_isOld_31 (by decide) ?_
      exact zr_z hx hb hr hlk (by simp [rOld, zb, c_5_1, c_14_2]) dX7_isOld_32
    · refine lv_aload_n hx hb dX7_isOld_17 rfl (lv_at hl 0 rfl) ?_
      refine lv_iload_n hx hb dX7_isOld_18 rfl (lv_at hl 1 rfl) ?_
      refine lv_iconst (v := 2) hx hb dX7_isOld_19 (by decide) ?_
      refine zcr (As := [.int (nI k), .int 2]) (rest := []) (q0 := 0) S (c_X7_of l D ca o f0 f2 f3 f4 f5 f6 f7 f8 f9 f10 sf k 2 (by omega) (by omega)) ml_X7_33 zy_X7_of im_X7_of se_X7_of ⟨Nat.le_of_ble_eq_true rfl, Nat.le_of_ble_eq_true rfl⟩ hK hP [0, 1] rfl rfl rfl rfl rfl hl.1 rfl (Nat.le_of_ble_eq_true rfl) ⟨Nat.zero_le _, Nat.zero_le _⟩ dX7_isOld_20 ?_
      refine lv_iload_n hx hb dX7_isOld_23 rfl (lv_at hl 2 rfl) ?_
      refine lv_icmp_gt (tgt := 31) hx hb dX7_isOld_24 (by decide) (fun c_24_3 => ?_) (fun c_24_3 => ?_)
      · refine lv_iconst (v := 0) hx hb dX7_isOld_31 (by decide) ?_
        exact zr_z hx hb hr hlk (by simp [rOld, zb, c_5_1, c_14_2, c_24_3]) dX7_isOld_32
      · refine lv_iconst (v := 1) hx hb dX7_isOld_27 (by decide) ?_
        refine lv_goto (tgt := 32) hx hb dX7_isOld_28 (by decide) ?_
        exact zr_z hx hb hr hlk (by simp [rOld, zb, c_5_1, c_14_2, c_24_3]) dX7_isOld_32
set_option maxHeartbeats 4000000 in
set_option maxRecDepth 100000 in
theorem c_X7_oldIn (l : Launch) (D : va_G) (ca : Nat → ClassId) (o : Nat → Nat) (f0 f2 f3 f4 f5 f6 f7 f8 f9 f10 : Value) (sf : Nat → Int32) (p0 : Nat) (hp : p0 < 6) (t : Int32) : zMr l yX7_oldIn cX7_oldIn 5 (some .int) 3 65 D ca [(o 0, .inr (7, [f0, .ref (o 1), f2, f3, f4, f5, f6, f7, f8, f9, f10])), (o 1, .inl (ca 0, 99, .inl sf))] [.ref (o 0), .int (nI p0), .int t] (.int (rOi sf p0 t)) := by
  refine zMr_of (own := RX7) (by decide) rfl (Nat.le_of_ble_eq_true rfl) ?_
  intro p e s m args below meth c ls S hr hlk hP hK hl
  have hx := S.1
  have hb := S.2.1
  have hl : lv_has ls 5 [(0, .ref (o 0)), (1, .int (nI p0)), (2, .int t)] := hl
  refine lv_iconst (v := 0) hx hb dX7_oldIn_0 (by decide) ?_
  refine lv_istore_n (lv' := [(3, .int 0), (0, .ref (o 0)), (1, .int (nI p0)), (2, .int t)]) hx hb dX7_oldIn_1 rfl hl (by decide) rfl (fun ls hl => ?_)
  refine lv_iconst (v := 4) hx hb dX7_oldIn_2 (by decide) ?_
  refine lv_iload_n hx hb dX7_oldIn_3 rfl (lv_at hl 2 rfl) ?_
  refine zn_mul hx hb (x := 4) (y := p0) (z := 4 * p0) (by first | rfl | omega) dX7_oldIn_4 ?_
  refine lv_istore (lv' := [(4, .int (nI (4 * p0))), (3, .int 0), (0, .ref (o 0)), (1, .int (nI p0)), (2, .int t)]) hx hb dX7_oldIn_5 hl (by decide) rfl (fun ls hl => ?_)
  have loop_0 : ∀ (f : Nat) (k : Nat) (x : Int32) (ls : Array Slot), k + f = 4 * p0 + 4 → zcnt (fun k => rOld sf k t) 4 (4 * p0) 0 = zcnt (fun k => rOld sf k t) f k x → lv_has ls 5 [(0, .ref (o 0)), (1, .int (nI p0)), (2, .int t), (3, .int x), (4, .int (nI k))] → W p l e { frames := 3, cells := 0, slots := 0, locals := 65 } s m args below meth c s.heap [] 0 0 (MQ below (zQr (.int (rOi sf p0 t))) args s 0 0 (fun _ => False)) (F0 m 7 ls []) := by
    intro f
    induction f with
    | zero =>
      intro k x ls j1 j2 hl
      refine lv_iload hx hb dX7_oldIn_7 (lv_at hl 4 rfl) ?_
      refine lv_iconst (v := 4) hx hb dX7_oldIn_9 (by decide) ?_
      refine lv_iload_n hx hb dX7_oldIn_10 rfl (lv_at hl 1 rfl) ?_
      refine zn_mul hx hb (x := 4) (y := p0) (z := 4 * p0) (by first | rfl | omega) dX7_oldIn_11 ?_
      refine lv_iconst (v := 4) hx hb dX7_oldIn_12 (by decide) ?_
      refine zn_add hx hb (x := 4 * p0) (y := 4) (z := (4 * p0) + 4) (by omega) dX7_oldIn_13 ?_
      refine zn_ge hx hb (x := k) (y := (4 * p0) + 4) (by omega) (by omega) (tgt := 41) dX7_oldIn_14 (by decide) (fun c_14_2 => ?_) (fun h => False.elim (by omega))
      refine lv_iload_n hx hb dX7_oldIn_41 rfl (lv_at hl 3 rfl) ?_
      exact zr_i hx hb hr hlk (by exact j2.symm) dX7_oldIn_42
    | succ f ih =>
      intro k x ls j1 j2 hl
      refine lv_iload hx hb dX7_oldIn_7 (lv_at hl 4 rfl) ?_
      refine lv_iconst (v := 4) hx hb dX7_oldIn_9 (by decide) ?_
      refine lv_iload_n hx hb dX7_oldIn_10 rfl (lv_at hl 1 rfl) ?_
      refine zn_mul hx hb (x := 4) (y := p0) (z := 4 * p0) (by first | rfl | omega) dX7_oldIn_11 ?_
      refine lv_iconst (v := 4) hx hb dX7_oldIn_12 (by decide) ?_
      refine zn_add hx hb (x := 4 * p0) (y := 4) (z := (4 * p0) + 4) (by omega) dX7_oldIn_13 ?_
      refine zn_ge hx hb (x := k) (y := (4 * p0) + 4) (by omega) (by omega) (tgt := 41) dX7_oldIn_14 (by decide) (fun h => False.elim (by omega)) (fun c_14_3 => ?_)
      refine lv_iload_n hx hb dX7_oldIn_17 rfl (lv_at hl 3 rfl) ?_
      refine lv_aload_n hx hb dX7_oldIn_18 rfl (lv_at hl 0 rfl) ?_
      refine lv_iload hx hb dX7_oldIn_19 (lv_at hl 4 rfl) ?_
      refine lv_iload_n hx hb dX7_oldIn_21 rfl (lv_at hl 2 rfl) ?_
      refine zcr (As := [.int (nI k), .int t]) (rest := [.int x]) (q0 := 0) S (c_X7_isOld l D ca o f0 f2 f3 f4 f5 f6 f7 f8 f9 f10 sf k (by omega) t) ml_X7_90 zy_X7_isOld im_X7_isOld se_X7_isOld ⟨Nat.le_of_ble_eq_true rfl, Nat.le_of_ble_eq_true rfl⟩ hK hP [0, 1] rfl rfl rfl rfl rfl hl.1 rfl (Nat.le_of_ble_eq_true rfl) ⟨Nat.zero_le _, Nat.zero_le _⟩ dX7_oldIn_22 ?_
      refine zz_eq (tgt := 32) hx hb dX7_oldIn_25 (by decide) (fun c_25_4 => ?_) (fun c_25_4 => ?_)
      · refine lv_iconst (v := 0) hx hb dX7_oldIn_32 (by decide) ?_
        refine t_iadd hx hb dX7_oldIn_33 (v := x) (Int32.add_zero _) ?_
        refine lv_istore_n (lv' := [(3, .int x), (0, .ref (o 0)), (1, .int (nI p0)), (2, .int t), (4, .int (nI k))]) hx hb dX7_oldIn_34 rfl hl (by decide) rfl (fun ls hl => ?_)
        refine lv_iinc (v := nI (k + 1)) (lv' := [(4, .int (nI (k + 1))), (3, .int x), (0, .ref (o 0)), (1, .int (nI p0)), (2, .int t)]) hx hb dX7_oldIn_35 hl (k := 4) rfl (zinc k 1) (by decide) rfl (fun ls hl => ?_)
        refine lv_goto (tgt := 7) hx hb dX7_oldIn_38 (by decide) ?_
        exact ih (k + 1) x ls (by omega) (by first | exact j2.trans (zcnt_t (by simp [c_14_3, c_25_4])) | exact j2.trans (zcnt_f (by simp [c_14_3, c_25_4]))) (lv_sub hl [2, 3, 4, 1, 0] rfl)
      · refine lv_iconst (v := 1) hx hb dX7_oldIn_28 (by decide) ?_
        refine lv_goto (tgt := 33) hx hb dX7_oldIn_29 (by decide) ?_
        refine lv_iadd hx hb dX7_oldIn_33 ?_
        refine lv_istore_n (lv' := [(3, .int (x + 1)), (0, .ref (o 0)), (1, .int (nI p0)), (2, .int t), (4, .int (nI k))]) hx hb dX7_oldIn_34 rfl hl (by decide) rfl (fun ls hl => ?_)
        refine lv_iinc (v := nI (k + 1)) (lv' := [(4, .int (nI (k + 1))), (3, .int (x + 1)), (0, .ref (o 0)), (1, .int (nI p0)), (2, .int t)]) hx hb dX7_oldIn_35 hl (k := 4) rfl (zinc k 1) (by decide) rfl (fun ls hl => ?_)
        refine lv_goto (tgt := 7) hx hb dX7_oldIn_38 (by decide) ?_
        exact ih (k + 1) (x + 1) ls (by omega) (by first | exact j2.trans (zcnt_t (by simp [c_14_3, c_25_4])) | exact j2.trans (zcnt_f (by simp [c_14_3, c_25_4]))) (lv_sub hl [2, 3, 4, 1, 0] rfl)
  exact loop_0 4 (4 * p0) 0 ls (by omega) (by rfl) (lv_sub hl [2, 3, 4, 1, 0] rfl)
set_option maxHeartbeats 4000000 in
set_option maxRecDepth 100000 in
theorem c_X7_sweeps (l : Launch) (D : va_G) (ca : Nat → ClassId) (o : Nat → Nat) (f0 f2 f3 f4 f5 f6 f7 f8 f9 f10 : Value) (sf : Nat → Int32) (p0 : Nat) (hp : p0 < 6) (hN : [o 0, o 1].Nodup) : zMw l yX7_sweeps cX7_sweeps 6 (some .int) 4 89 D ca [(o 0, .inr (7, [f0, .ref (o 1), f2, f3, f4, f5, f6, f7, f8, f9, f10])), (o 1, .inl (ca 0, 99, .inl sf))] ([(o 0, .inr (7, [f0, .ref (o 1), f2, f3, f4, f5, f6, f7, f8, f9, f10])), (o 1, .inl (ca 0, 99, .inl ((rSw sf p0).2)))]) [.ref (o 0), .int (nI p0)] (some (.int ((rSw sf p0).1))) := by
  refine zMw_of (own := RX7) (by decide) rfl (Nat.le_of_ble_eq_true rfl) ?_
  intro p e s m args below meth c ls S hr hlk hP hK hl hS
  have hP : va_P D vwCl [(o 0, .inr (7, [f0, .ref (o 1), f2, f3, f4, f5, f6, f7, f8, f9, f10])), (o 1, .inl (ca 0, 99, .inl sf))] s.heap := hP
  have hS : va_S (zA [o 0, o 1]) s.heap s.heap [] := hS
  have hA : ∀ q ∈ [o 0, o 1], zA [o 0, o 1] q := fun _ h => h
  have hD := zDto (ws := [(o 0, .inr (7, [f0, .ref (o 1), f2, f3, f4, f5, f6, f7, f8, f9, f10])), (o 1, .inl (ca 0, 99, .inl sf))]) hN hA rfl
  have hx := S.1
  have hb := S.2.1
  have hl : lv_has ls 6 [(0, .ref (o 0)), (1, .int (nI p0))] := hl
  refine lv_aload_n hx hb dX7_sweeps_0 rfl (lv_at hl 0 rfl) ?_
  refine zcr (As := []) (rest := []) (q0 := 0) S (c_X7_horizon l D ca o f0 f2 f3 f4 f5 f6 f7 f8 f9 f10 sf ) ml_X7_93 zy_X7_horizon im_X7_horizon se_X7_horizon ⟨Nat.le_of_ble_eq_true rfl, Nat.le_of_ble_eq_true rfl⟩ hK hP [0, 1] rfl rfl rfl rfl rfl hl.1 rfl (Nat.le_of_ble_eq_true rfl) ⟨Nat.zero_le _, Nat.zero_le _⟩ dX7_sweeps_1 ?_
  refine lv_istore_n (lv' := [(2, .int (rHb sf (-1))), (0, .ref (o 0)), (1, .int (nI p0))]) hx hb dX7_sweeps_4 rfl hl (by decide) rfl (fun ls hl => ?_)
  refine lv_aload_n hx hb dX7_sweeps_5 rfl (lv_at hl 1 rfl) ?_
  refine lv_iload_n hx hb dX7_sweeps_6 rfl (lv_at hl 2 rfl) ?_
  refine lv_iload_n hx hb dX7_sweeps_7 rfl (lv_at hl 0 rfl) ?_
  refine zcr (As := [.int (nI p0), .int (rHb sf (-1))]) (rest := []) (q0 := 0) S (c_X7_oldIn l D ca o f0 f2 f3 f4 f5 f6 f7 f8 f9 f10 sf p0 (by omega) (rHb sf (-1))) ml_X7_96 zy_X7_oldIn im_X7_oldIn se_X7_oldIn ⟨Nat.le_of_ble_eq_true rfl, Nat.le_of_ble_eq_true rfl⟩ hK hP [0, 1] rfl rfl rfl rfl rfl hl.1 rfl (Nat.le_of_ble_eq_true rfl) ⟨Nat.zero_le _, Nat.zero_le _⟩ dX7_sweeps_8 ?_
  refine lv_istore_n (lv' := [(3, .int (rOi sf p0 (rHb sf (-1)))), (2, .int (rHb sf (-1))), (0, .ref (o 0)), (1, .int (nI p0))]) hx hb dX7_sweeps_11 rfl hl (by decide) rfl (fun ls hl => ?_)
  refine lv_iconst (v := 1) hx hb dX7_sweeps_12 (by decide) ?_
  refine lv_istore (lv' := [(4, .int 1), (3, .int (rOi sf p0 (rHb sf (-1)))), (2, .int (rHb sf (-1))), (0, .ref (o 0)), (1, .int (nI p0))]) hx hb dX7_sweeps_13 hl (by decide) rfl (fun ls hl => ?_)
  refine lv_iconst (v := 4) hx hb dX7_sweeps_15 (by decide) ?_
  refine lv_iload_n hx hb dX7_sweeps_16 rfl (lv_at hl 4 rfl) ?_
  refine zn_mul hx hb (x := 4) (y := p0) (z := 4 * p0) (by first | rfl | omega) dX7_sweeps_17 ?_
  refine lv_istore (lv' := [(5, .int (nI (4 * p0))), (4, .int 1), (3, .int (rOi sf p0 (rHb sf (-1)))), (2, .int (rHb sf (-1))), (0, .ref (o 0)), (1, .int (nI p0))]) hx hb dX7_sweeps_18 hl (by decide) rfl (fun ls hl => ?_)
  have loop_0 : ∀ (f : Nat) (k : Nat) (uf : Nat → Int32) (b : Bool) (H : Heap) (locs : List Loc) (ls : Array Slot), k + f = 4 * p0 + 4 → rsw (rHb sf (-1)) 4 (4 * p0) sf true = rsw (rHb sf (-1)) f k uf b → lv_has ls 6 [(0, .ref (o 0)), (1, .int (nI p0)), (2, .int (rHb sf (-1))), (3, .int (rOi sf p0 (rHb sf (-1)))), (4, .int (zb b)), (5, .int (nI k))] → va_P D vwCl [(o 0, .inr (7, [f0, .ref (o 1), f2, f3, f4, f5, f6, f7, f8, f9, f10])), (o 1, .inl (ca 0, 99, .inl uf))] H → va_S (zA [o 0, o 1]) s.heap H locs → W p l e { frames := 4, cells := 0, slots := 0, locals := 89 } s m args below meth c H locs 0 0 (MQ below (zQw D [o 0, o 1] ([(o 0, .inr (7, [f0, .ref (o 1), f2, f3, f4, f5, f6, f7, f8, f9, f10])), (o 1, .inl (ca 0, 99, .inl ((rSw sf p0).2)))]) (some (.int ((rSw sf p0).1)))) args s 0 0 (zA [o 0, o 1])) (F0 m 20 ls []) := by
    intro f
    induction f with
    | zero =>
      intro k uf b H locs ls j1 j2 hl hP hS
      have hD := zDto (ws := [(o 0, .inr (7, [f0, .ref (o 1), f2, f3, f4, f5, f6, f7, f8, f9, f10])), (o 1, .inl (ca 0, 99, .inl uf))]) hN hA rfl
      refine lv_iload hx hb dX7_sweeps_20 (lv_at hl 5 rfl) ?_
      refine lv_iconst (v := 4) hx hb dX7_sweeps_22 (by decide) ?_
      refine lv_iload_n hx hb dX7_sweeps_23 rfl (lv_at hl 1 rfl) ?_
      refine zn_mul hx hb (x := 4) (y := p0) (z := 4 * p0) (by first | rfl | omega) dX7_sweeps_24 ?_
      refine lv_iconst (v := 4) hx hb dX7_sweeps_25 (by decide) ?_
      refine zn_add hx hb (x := 4 * p0) (y := 4) (z := (4 * p0) + 4) (by omega) dX7_sweeps_26 ?_
      refine zn_ge hx hb (x := k) (y := (4 * p0) + 4) (by omega) (by omega) (tgt := 97) dX7_sweeps_27 (by decide) (fun c_27_2 => ?_) (fun h => False.elim (by omega))
      refine lv_iload hx hb dX7_sweeps_97 (lv_at hl 4 rfl) ?_
      refine zz_eq (tgt := 130) hx hb dX7_sweeps_99 (by decide) (fun c_99_3 => ?_) (fun c_99_3 => ?_)
      · refine lv_aload_n hx hb dX7_sweeps_130 rfl (lv_at hl 0 rfl) ?_
        refine z_get S in_lay_X7 hK hP rfl 0 rfl 1 (by decide) fl_X7_7 rfl rfl dX7_sweeps_131 ?_
        refine lv_bipush (v := 6) hx hb dX7_sweeps_134 (by decide) ?_
        refine lv_dup2_11 hx hb dX7_sweeps_136 rfl rfl ?_
        refine z_iald S hK hP 1 rfl (j := 6) (by omega) (by decide) dX7_sweeps_137 ?_
        refine lv_iload_n hx hb dX7_sweeps_138 rfl (lv_at hl 3 rfl) ?_
        refine lv_iadd hx hb dX7_sweeps_139 ?_
        refine z_iast S hK hP hD hS 1 rfl (j := 6) (by omega) (by decide) dX7_sweeps_140 (fun H locs hP hS => ?_)
        have hP : va_P D vwCl [(o 0, .inr (7, [f0, .ref (o 1), f2, f3, f4, f5, f6, f7, f8, f9, f10])), (o 1, .inl (ca 0, 99, .inl (upd uf 6 ((uf 6) + (rOi sf p0 (rHb sf (-1)))))))] H := hP
        have hD := zDto (ws := [(o 0, .inr (7, [f0, .ref (o 1), f2, f3, f4, f5, f6, f7, f8, f9, f10])), (o 1, .inl (ca 0, 99, .inl (upd uf 6 ((uf 6) + (rOi sf p0 (rHb sf (-1)))))))]) hN hA rfl
        refine lv_iload_n hx hb dX7_sweeps_141 rfl (lv_at hl 3 rfl) ?_
        have hz : rSw sf p0 = (rOi sf p0 (rHb sf (-1)), upd uf 6 ((uf 6) + (rOi sf p0 (rHb sf (-1))))) := by rw [rSw, j2]; simp [rsw, rswE, c_27_2, c_99_3]
        exact zw_i hx hb hr hlk hP hS ⟨by rw [hz] <;> rfl, by rw [hz] <;> rfl⟩ dX7_sweeps_142
      · refine lv_aload_n hx hb dX7_sweeps_102 rfl (lv_at hl 0 rfl) ?_
        refine z_get S in_lay_X7 hK hP rfl 0 rfl 1 (by decide) fl_X7_7 rfl rfl dX7_sweeps_103 ?_
        refine lv_bipush (v := 79) hx hb dX7_sweeps_106 (by decide) ?_
        refine lv_iconst (v := 2) hx hb dX7_sweeps_108 (by decide) ?_
        refine lv_iload_n hx hb dX7_sweeps_109 rfl (lv_at hl 1 rfl) ?_
        refine zn_mul hx hb (x := 2) (y := p0) (z := 2 * p0) (by first | rfl | omega) dX7_sweeps_110 ?_
        refine zn_add hx hb (x := 79) (y := 2 * p0) (z := 79 + (2 * p0)) (by omega) dX7_sweeps_111 ?_
        refine lv_iconst (v := 0) hx hb dX7_sweeps_112 (by decide) ?_
        refine zn_add hx hb (x := 79 + (2 * p0)) (y := 0) (z := 79 + (2 * p0)) (by omega) dX7_sweeps_113 ?_
        refine lv_iconst (v := 1) hx hb dX7_sweeps_114 (by decide) ?_
        refine z_iast S hK hP hD hS 1 rfl (j := 79 + (2 * p0)) (by omega) (by decide) dX7_sweeps_115 (fun H locs hP hS => ?_)
        have hP : va_P D vwCl [(o 0, .inr (7, [f0, .ref (o 1), f2, f3, f4, f5, f6, f7, f8, f9, f10])), (o 1, .inl (ca 0, 99, .inl (upd uf (79 + (2 * p0)) 1)))] H := hP
        have hD := zDto (ws := [(o 0, .inr (7, [f0, .ref (o 1), f2, f3, f4, f5, f6, f7, f8, f9, f10])), (o 1, .inl (ca 0, 99, .inl (upd uf (79 + (2 * p0)) 1)))]) hN hA rfl
        refine lv_aload_n hx hb dX7_sweeps_116 rfl (lv_at hl 0 rfl) ?_
        refine z_get S in_lay_X7 hK hP rfl 0 rfl 1 (by decide) fl_X7_7 rfl rfl dX7_sweeps_117 ?_
        refine lv_bipush (v := 79) hx hb dX7_sweeps_120 (by decide) ?_
        refine lv_iconst (v := 2) hx hb dX7_sweeps_122 (by decide) ?_
        refine lv_iload_n hx hb dX7_sweeps_123 rfl (lv_at hl 1 rfl) ?_
        refine zn_mul hx hb (x := 2) (y := p0) (z := 2 * p0) (by first | rfl | omega) dX7_sweeps_124 ?_
        refine zn_add hx hb (x := 79) (y := 2 * p0) (z := 79 + (2 * p0)) (by omega) dX7_sweeps_125 ?_
        refine lv_iconst (v := 1) hx hb dX7_sweeps_126 (by decide) ?_
        refine zn_add hx hb (x := 79 + (2 * p0)) (y := 1) (z := (79 + (2 * p0)) + 1) (by omega) dX7_sweeps_127 ?_
        refine lv_iload_n hx hb dX7_sweeps_128 rfl (lv_at hl 2 rfl) ?_
        refine z_iast S hK hP hD hS 1 rfl (j := (79 + (2 * p0)) + 1) (by omega) (by decide) dX7_sweeps_129 (fun H locs hP hS => ?_)
        have hP : va_P D vwCl [(o 0, .inr (7, [f0, .ref (o 1), f2, f3, f4, f5, f6, f7, f8, f9, f10])), (o 1, .inl (ca 0, 99, .inl (upd (upd uf (79 + (2 * p0)) 1) ((79 + (2 * p0)) + 1) (rHb sf (-1)))))] H := hP
        have hD := zDto (ws := [(o 0, .inr (7, [f0, .ref (o 1), f2, f3, f4, f5, f6, f7, f8, f9, f10])), (o 1, .inl (ca 0, 99, .inl (upd (upd uf (79 + (2 * p0)) 1) ((79 + (2 * p0)) + 1) (rHb sf (-1)))))]) hN hA rfl
        refine lv_aload_n hx hb dX7_sweeps_130 rfl (lv_at hl 0 rfl) ?_
        refine z_get S in_lay_X7 hK hP rfl 0 rfl 1 (by decide) fl_X7_7 rfl rfl dX7_sweeps_131 ?_
        refine lv_bipush (v := 6) hx hb dX7_sweeps_134 (by decide) ?_
        refine lv_dup2_11 hx hb dX7_sweeps_136 rfl rfl ?_
        refine z_iald S hK hP 1 rfl (j := 6) (by omega) (by decide) dX7_sweeps_137 ?_
        refine lv_iload_n hx hb dX7_sweeps_138 rfl (lv_at hl 3 rfl) ?_
        refine lv_iadd hx hb dX7_sweeps_139 ?_
        refine z_iast S hK hP hD hS 1 rfl (j := 6) (by omega) (by decide) dX7_sweeps_140 (fun H locs hP hS => ?_)
        have hP : va_P D vwCl [(o 0, .inr (7, [f0, .ref (o 1), f2, f3, f4, f5, f6, f7, f8, f9, f10])), (o 1, .inl (ca 0, 99, .inl (upd (upd (upd uf (79 + (2 * p0)) 1) ((79 + (2 * p0)) + 1) (rHb sf (-1))) 6 (((upd (upd uf (79 + (2 * p0)) 1) ((79 + (2 * p0)) + 1) (rHb sf (-1))) 6) + (rOi sf p0 (rHb sf (-1)))))))] H := hP
        have hD := zDto (ws := [(o 0, .inr (7, [f0, .ref (o 1), f2, f3, f4, f5, f6, f7, f8, f9, f10])), (o 1, .inl (ca 0, 99, .inl (upd (upd (upd uf (79 + (2 * p0)) 1) ((79 + (2 * p0)) + 1) (rHb sf (-1))) 6 (((upd (upd uf (79 + (2 * p0)) 1) ((79 + (2 * p0)) + 1) (rHb sf (-1))) 6) + (rOi sf p0 (rHb sf (-1)))))))]) hN hA rfl
        refine lv_iload_n hx hb dX7_sweeps_141 rfl (lv_at hl 3 rfl) ?_
        have hz : rSw sf p0 = (rOi sf p0 (rHb sf (-1)), upd (upd (upd uf (79 + (2 * p0)) 1) ((79 + (2 * p0)) + 1) (rHb sf (-1))) 6 (((upd (upd uf (79 + (2 * p0)) 1) ((79 + (2 * p0)) + 1) (rHb sf (-1))) 6) + (rOi sf p0 (rHb sf (-1))))) := by rw [rSw, j2]; simp [rsw, rswE, c_27_2, c_99_3]
        exact zw_i hx hb hr hlk hP hS ⟨by rw [hz] <;> rfl, by rw [hz] <;> rfl⟩ dX7_sweeps_142
    | succ f ih =>
      intro k uf b H locs ls j1 j2 hl hP hS
      have hD := zDto (ws := [(o 0, .inr (7, [f0, .ref (o 1), f2, f3, f4, f5, f6, f7, f8, f9, f10])), (o 1, .inl (ca 0, 99, .inl uf))]) hN hA rfl
      refine lv_iload hx hb dX7_sweeps_20 (lv_at hl 5 rfl) ?_
      refine lv_iconst (v := 4) hx hb dX7_sweeps_22 (by decide) ?_
      refine lv_iload_n hx hb dX7_sweeps_23 rfl (lv_at hl 1 rfl) ?_
      refine zn_mul hx hb (x := 4) (y := p0) (z := 4 * p0) (by first | rfl | omega) dX7_sweeps_24 ?_
      refine lv_iconst (v := 4) hx hb dX7_sweeps_25 (by decide) ?_
      refine zn_add hx hb (x := 4 * p0) (y := 4) (z := (4 * p0) + 4) (by omega) dX7_sweeps_26 ?_
      refine zn_ge hx hb (x := k) (y := (4 * p0) + 4) (by omega) (by omega) (tgt := 97) dX7_sweeps_27 (by decide) (fun h => False.elim (by omega)) (fun c_27_4 => ?_)
      refine lv_aload_n hx hb dX7_sweeps_30 rfl (lv_at hl 0 rfl) ?_
      refine lv_iload hx hb dX7_sweeps_31 (lv_at hl 5 rfl) ?_
      refine lv_iload_n hx hb dX7_sweeps_33 rfl (lv_at hl 2 rfl) ?_
      refine zcr (As := [.int (nI k), .int (rHb sf (-1))]) (rest := []) (q0 := 0) S (c_X7_isOld l D ca o f0 f2 f3 f4 f5 f6 f7 f8 f9 f10 uf k (by omega) (rHb sf (-1))) ml_X7_90 zy_X7_isOld im_X7_isOld se_X7_isOld ⟨Nat.le_of_ble_eq_true rfl, Nat.le_of_ble_eq_true rfl⟩ hK hP [0, 1] rfl rfl rfl rfl rfl hl.1 rfl (Nat.le_of_ble_eq_true rfl) ⟨Nat.zero_le _, Nat.zero_le _⟩ dX7_sweeps_34 ?_
      refine zz_eq (tgt := 49) hx hb dX7_sweeps_37 (by decide) (fun c_37_5 => ?_) (fun c_37_5 => ?_)
      · refine lv_iload hx hb dX7_sweeps_49 (lv_at hl 4 rfl) ?_
        refine zz_eq (tgt := 88) hx hb dX7_sweeps_51 (by decide) (fun c_51_6 => ?_) (fun c_51_6 => ?_)
        · refine lv_iconst (v := 0) hx hb dX7_sweeps_88 (by decide) ?_
          refine lv_istore (lv' := [(4, .int 0), (0, .ref (o 0)), (1, .int (nI p0)), (2, .int (rHb sf (-1))), (3, .int (rOi sf p0 (rHb sf (-1)))), (5, .int (nI k))]) hx hb dX7_sweeps_89 hl (by decide) rfl (fun ls hl => ?_)
          refine lv_iinc (v := nI (k + 1)) (lv' := [(5, .int (nI (k + 1))), (4, .int 0), (0, .ref (o 0)), (1, .int (nI p0)), (2, .int (rHb sf (-1))), (3, .int (rOi sf p0 (rHb sf (-1))))]) hx hb dX7_sweeps_91 hl (k := 5) rfl (zinc k 1) (by decide) rfl (fun ls hl => ?_)
          refine lv_goto (tgt := 20) hx hb dX7_sweeps_94 (by decide) ?_
          exact ih (k + 1) uf false _ _ ls (by omega) (by rw [j2]; simp [rsw, rswS, rswB, c_27_4, c_37_5, c_51_6]) (lv_sub hl [2, 3, 4, 5, 1, 0] rfl) hP hS
        · refine lv_aload_n hx hb dX7_sweeps_54 rfl (lv_at hl 0 rfl) ?_
          refine lv_iload hx hb dX7_sweeps_55 (lv_at hl 5 rfl) ?_
          refine zcr (As := [.int (nI k)]) (rest := []) (q0 := 0) S (c_X7_isFull l D ca o f0 f2 f3 f4 f5 f6 f7 f8 f9 f10 uf k (by omega)) ml_X7_37 zy_X7_isFull im_X7_isFull se_X7_isFull ⟨Nat.le_of_ble_eq_true rfl, Nat.le_of_ble_eq_true rfl⟩ hK hP [0, 1] rfl rfl rfl rfl rfl hl.1 rfl (Nat.le_of_ble_eq_true rfl) ⟨Nat.zero_le _, Nat.zero_le _⟩ dX7_sweeps_57 ?_
          refine zz_eq (tgt := 84) hx hb dX7_sweeps_60 (by decide) (fun c_60_7 => ?_) (fun c_60_7 => ?_)
          · refine lv_iconst (v := 1) hx hb dX7_sweeps_84 (by decide) ?_
            refine lv_goto (tgt := 89) hx hb dX7_sweeps_85 (by decide) ?_
            refine lv_istore (lv' := [(4, .int 1), (0, .ref (o 0)), (1, .int (nI p0)), (2, .int (rHb sf (-1))), (3, .int (rOi sf p0 (rHb sf (-1)))), (5, .int (nI k))]) hx hb dX7_sweeps_89 hl (by decide) rfl (fun ls hl => ?_)
            refine lv_iinc (v := nI (k + 1)) (lv' := [(5, .int (nI (k + 1))), (4, .int 1), (0, .ref (o 0)), (1, .int (nI p0)), (2, .int (rHb sf (-1))), (3, .int (rOi sf p0 (rHb sf (-1))))]) hx hb dX7_sweeps_91 hl (k := 5) rfl (zinc k 1) (by decide) rfl (fun ls hl => ?_)
            refine lv_goto (tgt := 20) hx hb dX7_sweeps_94 (by decide) ?_
            exact ih (k + 1) uf true _ _ ls (by omega) (by rw [j2]; simp [rsw, rswS, rswB, c_27_4, c_37_5, c_51_6, c_60_7]) (lv_sub hl [2, 3, 4, 5, 1, 0] rfl) hP hS
          · refine lv_aload_n hx hb dX7_sweeps_63 rfl (lv_at hl 0 rfl) ?_
            refine lv_iload hx hb dX7_sweeps_64 (lv_at hl 5 rfl) ?_
            refine lv_iconst (v := 1) hx hb dX7_sweeps_66 (by decide) ?_
            refine zcr (As := [.int (nI k), .int 1]) (rest := []) (q0 := 0) S (c_X7_of l D ca o f0 f2 f3 f4 f5 f6 f7 f8 f9 f10 uf k 1 (by omega) (by omega)) ml_X7_33 zy_X7_of im_X7_of se_X7_of ⟨Nat.le_of_ble_eq_true rfl, Nat.le_of_ble_eq_true rfl⟩ hK hP [0, 1] rfl rfl rfl rfl rfl hl.1 rfl (Nat.le_of_ble_eq_true rfl) ⟨Nat.zero_le _, Nat.zero_le _⟩ dX7_sweeps_67 ?_
            refine lv_iload_n hx hb dX7_sweeps_70 rfl (lv_at hl 2 rfl) ?_
            refine lv_icmp_gt (tgt := 88) hx hb dX7_sweeps_71 (by decide) (fun c_71_8 => ?_) (fun c_71_8 => ?_)
            · refine lv_iconst (v := 0) hx hb dX7_sweeps_88 (by decide) ?_
              refine lv_istore (lv' := [(4, .int 0), (0, .ref (o 0)), (1, .int (nI p0)), (2, .int (rHb sf (-1))), (3, .int (rOi sf p0 (rHb sf (-1)))), (5, .int (nI k))]) hx hb dX7_sweeps_89 hl (by decide) rfl (fun ls hl => ?_)
              refine lv_iinc (v := nI (k + 1)) (lv' := [(5, .int (nI (k + 1))), (4, .int 0), (0, .ref (o 0)), (1, .int (nI p0)), (2, .int (rHb sf (-1))), (3, .int (rOi sf p0 (rHb sf (-1))))]) hx hb dX7_sweeps_91 hl (k := 5) rfl (zinc k 1) (by decide) rfl (fun ls hl => ?_)
              refine lv_goto (tgt := 20) hx hb dX7_sweeps_94 (by decide) ?_
              exact ih (k + 1) uf false _ _ ls (by omega) (by rw [j2]; simp [rsw, rswS, rswB, c_27_4, c_37_5, c_51_6, c_60_7, c_71_8]) (lv_sub hl [2, 3, 4, 5, 1, 0] rfl) hP hS
            · refine lv_aload_n hx hb dX7_sweeps_74 rfl (lv_at hl 0 rfl) ?_
              refine lv_iload hx hb dX7_sweeps_75 (lv_at hl 5 rfl) ?_
              refine lv_iconst (v := 2) hx hb dX7_sweeps_77 (by decide) ?_
              refine zcr (As := [.int (nI k), .int 2]) (rest := []) (q0 := 0) S (c_X7_of l D ca o f0 f2 f3 f4 f5 f6 f7 f8 f9 f10 uf k 2 (by omega) (by omega)) ml_X7_33 zy_X7_of im_X7_of se_X7_of ⟨Nat.le_of_ble_eq_true rfl, Nat.le_of_ble_eq_true rfl⟩ hK hP [0, 1] rfl rfl rfl rfl rfl hl.1 rfl (Nat.le_of_ble_eq_true rfl) ⟨Nat.zero_le _, Nat.zero_le _⟩ dX7_sweeps_78 ?_
              refine lv_if_ne (tgt := 88) hx hb dX7_sweeps_81 (by decide) (fun c_81_9 => ?_) (fun c_81_9 => ?_)
              · refine lv_iconst (v := 0) hx hb dX7_sweeps_88 (by decide) ?_
                refine lv_istore (lv' := [(4, .int 0), (0, .ref (o 0)), (1, .int (nI p0)), (2, .int (rHb sf (-1))), (3, .int (rOi sf p0 (rHb sf (-1)))), (5, .int (nI k))]) hx hb dX7_sweeps_89 hl (by decide) rfl (fun ls hl => ?_)
                refine lv_iinc (v := nI (k + 1)) (lv' := [(5, .int (nI (k + 1))), (4, .int 0), (0, .ref (o 0)), (1, .int (nI p0)), (2, .int (rHb sf (-1))), (3, .int (rOi sf p0 (rHb sf (-1))))]) hx hb dX7_sweeps_91 hl (k := 5) rfl (zinc k 1) (by decide) rfl (fun ls hl => ?_)
                refine lv_goto (tgt := 20) hx hb dX7_sweeps_94 (by decide) ?_
                exact ih (k + 1) uf false _ _ ls (by omega) (by rw [j2]; simp [rsw, rswS, rswB, c_27_4, c_37_5, c_51_6, c_60_7, c_71_8, c_81_9]) (lv_sub hl [2, 3, 4, 5, 1, 0] rfl) hP hS
              · refine lv_iconst (v := 1) hx hb dX7_sweeps_84 (by decide) ?_
                refine lv_goto (tgt := 89) hx hb dX7_sweeps_85 (by decide) ?_
                refine lv_istore (lv' := [(4, .int 1), (0, .ref (o 0)), (1, .int (nI p0)), (2, .int (rHb sf (-1))), (3, .int (rOi sf p0 (rHb sf (-1)))), (5, .int (nI k))]) hx hb dX7_sweeps_89 hl (by decide) rfl (fun ls hl => ?_)
                refine lv_iinc (v := nI (k + 1)) (lv' := [(5, .int (nI (k + 1))), (4, .int 1), (0, .ref (o 0)), (1, .int (nI p0)), (2, .int (rHb sf (-1))), (3, .int (rOi sf p0 (rHb sf (-1))))]) hx hb dX7_sweeps_91 hl (k := 5) rfl (zinc k 1) (by decide) rfl (fun ls hl => ?_)
                refine lv_goto (tgt := 20) hx hb dX7_sweeps_94 (by decide) ?_
                exact ih (k + 1) uf true _ _ ls (by omega) (by rw [j2]; simp [rsw, rswS, rswB, c_27_4, c_37_5, c_51_6, c_60_7, c_71_8, c_81_9]) (lv_sub hl [2, 3, 4, 5, 1, 0] rfl) hP hS
      · refine lv_aload_n hx hb dX7_sweeps_40 rfl (lv_at hl 0 rfl) ?_
        refine lv_iload hx hb dX7_sweeps_41 (lv_at hl 5 rfl) ?_
        refine lv_iconst (v := 0) hx hb dX7_sweeps_43 (by decide) ?_
        refine lv_iconst (v := 0) hx hb dX7_sweeps_44 (by decide) ?_
        refine lv_iconst (v := 0) hx hb dX7_sweeps_45 (by decide) ?_
        refine zcw (As := [.int (nI k), .int 0, .int 0, .int 0]) (rest := []) (st1 := []) (q0 := 0) (lw := [o 0, o 1]) S (c_X7_lay l D ca o f0 f2 f3 f4 f5 f6 f7 f8 f9 f10 uf k (by omega) 0 0 0 (znd_pick hN [0, 1] rfl rfl)) ml_X7_41 zy_X7_lay im_X7_lay se_X7_lay ⟨Nat.le_of_ble_eq_true rfl, Nat.le_of_ble_eq_true rfl⟩ hK hP hD hS [0, 1] rfl rfl rfl rfl rfl rfl rfl hl.1 rfl rfl (Nat.le_of_ble_eq_true rfl) ⟨Nat.zero_le _, Nat.zero_le _⟩ dX7_sweeps_46 (fun H locs hP hS => ?_)
        have hP : va_P D vwCl [(o 0, .inr (7, [f0, .ref (o 1), f2, f3, f4, f5, f6, f7, f8, f9, f10])), (o 1, .inl (ca 0, 99, .inl (rLay uf k 0 0 0)))] H := hP
        have hD := zDto (ws := [(o 0, .inr (7, [f0, .ref (o 1), f2, f3, f4, f5, f6, f7, f8, f9, f10])), (o 1, .inl (ca 0, 99, .inl (rLay uf k 0 0 0)))]) hN hA rfl
        refine lv_iload hx hb dX7_sweeps_49 (lv_at hl 4 rfl) ?_
        refine zz_eq (tgt := 88) hx hb dX7_sweeps_51 (by decide) (fun c_51_10 => ?_) (fun c_51_10 => ?_)
        · refine lv_iconst (v := 0) hx hb dX7_sweeps_88 (by decide) ?_
          refine lv_istore (lv' := [(4, .int 0), (0, .ref (o 0)), (1, .int (nI p0)), (2, .int (rHb sf (-1))), (3, .int (rOi sf p0 (rHb sf (-1)))), (5, .int (nI k))]) hx hb dX7_sweeps_89 hl (by decide) rfl (fun ls hl => ?_)
          refine lv_iinc (v := nI (k + 1)) (lv' := [(5, .int (nI (k + 1))), (4, .int 0), (0, .ref (o 0)), (1, .int (nI p0)), (2, .int (rHb sf (-1))), (3, .int (rOi sf p0 (rHb sf (-1))))]) hx hb dX7_sweeps_91 hl (k := 5) rfl (zinc k 1) (by decide) rfl (fun ls hl => ?_)
          refine lv_goto (tgt := 20) hx hb dX7_sweeps_94 (by decide) ?_
          exact ih (k + 1) (rLay uf k 0 0 0) false _ _ ls (by omega) (by rw [j2]; simp [rsw, rswS, rswB, c_27_4, c_37_5, c_51_10]) (lv_sub hl [2, 3, 4, 5, 1, 0] rfl) hP hS
        · refine lv_aload_n hx hb dX7_sweeps_54 rfl (lv_at hl 0 rfl) ?_
          refine lv_iload hx hb dX7_sweeps_55 (lv_at hl 5 rfl) ?_
          refine zcr (As := [.int (nI k)]) (rest := []) (q0 := 0) S (c_X7_isFull l D ca o f0 f2 f3 f4 f5 f6 f7 f8 f9 f10 (rLay uf k 0 0 0) k (by omega)) ml_X7_37 zy_X7_isFull im_X7_isFull se_X7_isFull ⟨Nat.le_of_ble_eq_true rfl, Nat.le_of_ble_eq_true rfl⟩ hK hP [0, 1] rfl rfl rfl rfl rfl hl.1 rfl (Nat.le_of_ble_eq_true rfl) ⟨Nat.zero_le _, Nat.zero_le _⟩ dX7_sweeps_57 ?_
          refine zz_eq (tgt := 84) hx hb dX7_sweeps_60 (by decide) (fun c_60_11 => ?_) (fun c_60_11 => ?_)
          · refine lv_iconst (v := 1) hx hb dX7_sweeps_84 (by decide) ?_
            refine lv_goto (tgt := 89) hx hb dX7_sweeps_85 (by decide) ?_
            refine lv_istore (lv' := [(4, .int 1), (0, .ref (o 0)), (1, .int (nI p0)), (2, .int (rHb sf (-1))), (3, .int (rOi sf p0 (rHb sf (-1)))), (5, .int (nI k))]) hx hb dX7_sweeps_89 hl (by decide) rfl (fun ls hl => ?_)
            refine lv_iinc (v := nI (k + 1)) (lv' := [(5, .int (nI (k + 1))), (4, .int 1), (0, .ref (o 0)), (1, .int (nI p0)), (2, .int (rHb sf (-1))), (3, .int (rOi sf p0 (rHb sf (-1))))]) hx hb dX7_sweeps_91 hl (k := 5) rfl (zinc k 1) (by decide) rfl (fun ls hl => ?_)
            refine lv_goto (tgt := 20) hx hb dX7_sweeps_94 (by decide) ?_
            exact ih (k + 1) (rLay uf k 0 0 0) true _ _ ls (by omega) (by rw [j2]; simp [rsw, rswS, rswB, c_27_4, c_37_5, c_51_10, c_60_11]) (lv_sub hl [2, 3, 4, 5, 1, 0] rfl) hP hS
          · refine lv_aload_n hx hb dX7_sweeps_63 rfl (lv_at hl 0 rfl) ?_
            refine lv_iload hx hb dX7_sweeps_64 (lv_at hl 5 rfl) ?_
            refine lv_iconst (v := 1) hx hb dX7_sweeps_66 (by decide) ?_
            refine zcr (As := [.int (nI k), .int 1]) (rest := []) (q0 := 0) S (c_X7_of l D ca o f0 f2 f3 f4 f5 f6 f7 f8 f9 f10 (rLay uf k 0 0 0) k 1 (by omega) (by omega)) ml_X7_33 zy_X7_of im_X7_of se_X7_of ⟨Nat.le_of_ble_eq_true rfl, Nat.le_of_ble_eq_true rfl⟩ hK hP [0, 1] rfl rfl rfl rfl rfl hl.1 rfl (Nat.le_of_ble_eq_true rfl) ⟨Nat.zero_le _, Nat.zero_le _⟩ dX7_sweeps_67 ?_
            refine lv_iload_n hx hb dX7_sweeps_70 rfl (lv_at hl 2 rfl) ?_
            refine lv_icmp_gt (tgt := 88) hx hb dX7_sweeps_71 (by decide) (fun c_71_12 => ?_) (fun c_71_12 => ?_)
            · refine lv_iconst (v := 0) hx hb dX7_sweeps_88 (by decide) ?_
              refine lv_istore (lv' := [(4, .int 0), (0, .ref (o 0)), (1, .int (nI p0)), (2, .int (rHb sf (-1))), (3, .int (rOi sf p0 (rHb sf (-1)))), (5, .int (nI k))]) hx hb dX7_sweeps_89 hl (by decide) rfl (fun ls hl => ?_)
              refine lv_iinc (v := nI (k + 1)) (lv' := [(5, .int (nI (k + 1))), (4, .int 0), (0, .ref (o 0)), (1, .int (nI p0)), (2, .int (rHb sf (-1))), (3, .int (rOi sf p0 (rHb sf (-1))))]) hx hb dX7_sweeps_91 hl (k := 5) rfl (zinc k 1) (by decide) rfl (fun ls hl => ?_)
              refine lv_goto (tgt := 20) hx hb dX7_sweeps_94 (by decide) ?_
              exact ih (k + 1) (rLay uf k 0 0 0) false _ _ ls (by omega) (by rw [j2]; simp [rsw, rswS, rswB, c_27_4, c_37_5, c_51_10, c_60_11, c_71_12]) (lv_sub hl [2, 3, 4, 5, 1, 0] rfl) hP hS
            · refine lv_aload_n hx hb dX7_sweeps_74 rfl (lv_at hl 0 rfl) ?_
              refine lv_iload hx hb dX7_sweeps_75 (lv_at hl 5 rfl) ?_
              refine lv_iconst (v := 2) hx hb dX7_sweeps_77 (by decide) ?_
              refine zcr (As := [.int (nI k), .int 2]) (rest := []) (q0 := 0) S (c_X7_of l D ca o f0 f2 f3 f4 f5 f6 f7 f8 f9 f10 (rLay uf k 0 0 0) k 2 (by omega) (by omega)) ml_X7_33 zy_X7_of im_X7_of se_X7_of ⟨Nat.le_of_ble_eq_true rfl, Nat.le_of_ble_eq_true rfl⟩ hK hP [0, 1] rfl rfl rfl rfl rfl hl.1 rfl (Nat.le_of_ble_eq_true rfl) ⟨Nat.zero_le _, Nat.zero_le _⟩ dX7_sweeps_78 ?_
              refine lv_if_ne (tgt := 88) hx hb dX7_sweeps_81 (by decide) (fun c_81_13 => ?_) (fun c_81_13 => ?_)
              · refine lv_iconst (v := 0) hx hb dX7_sweeps_88 (by decide) ?_
                refine lv_istore (lv' := [(4, .int 0), (0, .ref (o 0)), (1, .int (nI p0)), (2, .int (rHb sf (-1))), (3, .int (rOi sf p0 (rHb sf (-1)))), (5, .int (nI k))]) hx hb dX7_sweeps_89 hl (by decide) rfl (fun ls hl => ?_)
                refine lv_iinc (v := nI (k + 1)) (lv' := [(5, .int (nI (k + 1))), (4, .int 0), (0, .ref (o 0)), (1, .int (nI p0)), (2, .int (rHb sf (-1))), (3, .int (rOi sf p0 (rHb sf (-1))))]) hx hb dX7_sweeps_91 hl (k := 5) rfl (zinc k 1) (by decide) rfl (fun ls hl => ?_)
                refine lv_goto (tgt := 20) hx hb dX7_sweeps_94 (by decide) ?_
                exact ih (k + 1) (rLay uf k 0 0 0) false _ _ ls (by omega) (by rw [j2]; simp [rsw, rswS, rswB, c_27_4, c_37_5, c_51_10, c_60_11, c_71_12, c_81_13]) (lv_sub hl [2, 3, 4, 5, 1, 0] rfl) hP hS
              · refine lv_iconst (v := 1) hx hb dX7_sweeps_84 (by decide) ?_
                refine lv_goto (tgt := 89) hx hb dX7_sweeps_85 (by decide) ?_
                refine lv_istore (lv' := [(4, .int 1), (0, .ref (o 0)), (1, .int (nI p0)), (2, .int (rHb sf (-1))), (3, .int (rOi sf p0 (rHb sf (-1)))), (5, .int (nI k))]) hx hb dX7_sweeps_89 hl (by decide) rfl (fun ls hl => ?_)
                refine lv_iinc (v := nI (k + 1)) (lv' := [(5, .int (nI (k + 1))), (4, .int 1), (0, .ref (o 0)), (1, .int (nI p0)), (2, .int (rHb sf (-1))), (3, .int (rOi sf p0 (rHb sf (-1))))]) hx hb dX7_sweeps_91 hl (k := 5) rfl (zinc k 1) (by decide) rfl (fun ls hl => ?_)
                refine lv_goto (tgt := 20) hx hb dX7_sweeps_94 (by decide) ?_
                exact ih (k + 1) (rLay uf k 0 0 0) true _ _ ls (by omega) (by rw [j2]; simp [rsw, rswS, rswB, c_27_4, c_37_5, c_51_10, c_60_11, c_71_12, c_81_13]) (lv_sub hl [2, 3, 4, 5, 1, 0] rfl) hP hS
  exact loop_0 4 (4 * p0) sf true _ _ ls (by omega) (by rfl) (lv_sub hl [4, 5, 3, 2, 1, 0] rfl) hP hS
set_option maxHeartbeats 4000000 in
set_option maxRecDepth 100000 in
theorem c_X7_markedPages (l : Launch) (D : va_G) (ca : Nat → ClassId) (o : Nat → Nat) (f0 f2 f3 f4 f5 f6 f7 f8 f9 f10 : Value) (sf : Nat → Int32)  : zMr l yX7_markedPages cX7_markedPages 3 (some .int) 1 22 D ca [(o 0, .inr (7, [f0, .ref (o 1), f2, f3, f4, f5, f6, f7, f8, f9, f10])), (o 1, .inl (ca 0, 99, .inl sf))] [.ref (o 0)] (.int (rMp sf)) := by
  refine zMr_of (own := RX7) (by decide) rfl (Nat.le_of_ble_eq_true rfl) ?_
  intro p e s m args below meth c ls S hr hlk hP hK hl
  have hx := S.1
  have hb := S.2.1
  have hl : lv_has ls 3 [(0, .ref (o 0))] := hl
  refine lv_iconst (v := 0) hx hb dX7_markedPages_0 (by decide) ?_
  refine lv_istore_n (lv' := [(1, .int 0), (0, .ref (o 0))]) hx hb dX7_markedPages_1 rfl hl (by decide) rfl (fun ls hl => ?_)
  refine lv_iconst (v := 0) hx hb dX7_markedPages_2 (by decide) ?_
  refine lv_istore_n (lv' := [(2, .int 0), (1, .int 0), (0, .ref (o 0))]) hx hb dX7_markedPages_3 rfl hl (by decide) rfl (fun ls hl => ?_)
  have loop_0 : ∀ (f : Nat) (k : Nat) (x : Int32) (ls : Array Slot), k + f = 6 → zsum (fun p => rPg sf p 0) 6 0 0 = zsum (fun p => rPg sf p 0) f k x → lv_has ls 3 [(0, .ref (o 0)), (1, .int x), (2, .int (nI k))] → W p l e { frames := 1, cells := 0, slots := 0, locals := 22 } s m args below meth c s.heap [] 0 0 (MQ below (zQr (.int (rMp sf))) args s 0 0 (fun _ => False)) (F0 m 4 ls []) := by
    intro f
    induction f with
    | zero =>
      intro k x ls j1 j2 hl
      refine lv_iload_n hx hb dX7_markedPages_4 rfl (lv_at hl 2 rfl) ?_
      refine lv_bipush (v := 6) hx hb dX7_markedPages_5 (by decide) ?_
      refine zn_ge hx hb (x := k) (y := 6) (by omega) (by omega) (tgt := 25) dX7_markedPages_7 (by decide) (fun c_7_2 => ?_) (fun h => False.elim (by omega))
      refine lv_iload_n hx hb dX7_markedPages_25 rfl (lv_at hl 1 rfl) ?_
      exact zr_i hx hb hr hlk (by exact j2.symm) dX7_markedPages_26
    | succ f ih =>
      intro k x ls j1 j2 hl
      refine lv_iload_n hx hb dX7_markedPages_4 rfl (lv_at hl 2 rfl) ?_
      refine lv_bipush (v := 6) hx hb dX7_markedPages_5 (by decide) ?_
      refine zn_ge hx hb (x := k) (y := 6) (by omega) (by omega) (tgt := 25) dX7_markedPages_7 (by decide) (fun h => False.elim (by omega)) (fun c_7_3 => ?_)
      refine lv_iload_n hx hb dX7_markedPages_10 rfl (lv_at hl 1 rfl) ?_
      refine lv_aload_n hx hb dX7_markedPages_11 rfl (lv_at hl 0 rfl) ?_
      refine lv_iload_n hx hb dX7_markedPages_12 rfl (lv_at hl 2 rfl) ?_
      refine lv_iconst (v := 0) hx hb dX7_markedPages_13 (by decide) ?_
      refine zcr (As := [.int (nI k), .int 0]) (rest := [.int x]) (q0 := 0) S (c_X7_ofPage l D ca o f0 f2 f3 f4 f5 f6 f7 f8 f9 f10 sf k 0 (by omega) (by omega)) ml_X7_105 zy_X7_ofPage im_X7_ofPage se_X7_ofPage ⟨Nat.le_of_ble_eq_true rfl, Nat.le_of_ble_eq_true rfl⟩ hK hP [0, 1] rfl rfl rfl rfl rfl hl.1 rfl (Nat.le_of_ble_eq_true rfl) ⟨Nat.zero_le _, Nat.zero_le _⟩ dX7_markedPages_14 ?_
      refine lv_iadd hx hb dX7_markedPages_17 ?_
      refine lv_istore_n (lv' := [(1, .int (x + (rPg sf k 0))), (0, .ref (o 0)), (2, .int (nI k))]) hx hb dX7_markedPages_18 rfl hl (by decide) rfl (fun ls hl => ?_)
      refine lv_iinc (v := nI (k + 1)) (lv' := [(2, .int (nI (k + 1))), (1, .int (x + (rPg sf k 0))), (0, .ref (o 0))]) hx hb dX7_markedPages_19 hl (k := 2) rfl (zinc k 1) (by decide) rfl (fun ls hl => ?_)
      refine lv_goto (tgt := 4) hx hb dX7_markedPages_22 (by decide) ?_
      exact ih (k + 1) (x + (rPg sf k 0)) ls (by omega) (by exact j2) (lv_sub hl [2, 1, 0] rfl)
  exact loop_0 6 0 0 ls (by omega) (by rfl) (lv_sub hl [2, 1, 0] rfl)
set_option maxHeartbeats 4000000 in
set_option maxRecDepth 100000 in
theorem c_X7_greatestMark (l : Launch) (D : va_G) (ca : Nat → ClassId) (o : Nat → Nat) (f0 f2 f3 f4 f5 f6 f7 f8 f9 f10 : Value) (sf : Nat → Int32)  : zMr l yX7_greatestMark cX7_greatestMark 3 (some .int) 1 22 D ca [(o 0, .inr (7, [f0, .ref (o 1), f2, f3, f4, f5, f6, f7, f8, f9, f10])), (o 1, .inl (ca 0, 99, .inl sf))] [.ref (o 0)] (.int (rGm sf)) := by
  refine zMr_of (own := RX7) (by decide) rfl (Nat.le_of_ble_eq_true rfl) ?_
  intro p e s m args below meth c ls S hr hlk hP hK hl
  have hx := S.1
  have hb := S.2.1
  have hl : lv_has ls 3 [(0, .ref (o 0))] := hl
  refine lv_iconst (v := 0) hx hb dX7_greatestMark_0 (by decide) ?_
  refine lv_istore_n (lv' := [(1, .int 0), (0, .ref (o 0))]) hx hb dX7_greatestMark_1 rfl hl (by decide) rfl (fun ls hl => ?_)
  refine lv_iconst (v := 0) hx hb dX7_greatestMark_2 (by decide) ?_
  refine lv_istore_n (lv' := [(2, .int 0), (1, .int 0), (0, .ref (o 0))]) hx hb dX7_greatestMark_3 rfl hl (by decide) rfl (fun ls hl => ?_)
  have loop_0 : ∀ (f : Nat) (k : Nat) (x : Int32) (ls : Array Slot), k + f = 6 → rGm sf = rgm sf f k x → lv_has ls 3 [(0, .ref (o 0)), (1, .int x), (2, .int (nI k))] → W p l e { frames := 1, cells := 0, slots := 0, locals := 22 } s m args below meth c s.heap [] 0 0 (MQ below (zQr (.int (rGm sf))) args s 0 0 (fun _ => False)) (F0 m 4 ls []) := by
    intro f
    induction f with
    | zero =>
      intro k x ls j1 j2 hl
      refine lv_iload_n hx hb dX7_greatestMark_4 rfl (lv_at hl 2 rfl) ?_
      refine lv_bipush (v := 6) hx hb dX7_greatestMark_5 (by decide) ?_
      refine zn_ge hx hb (x := k) (y := 6) (by omega) (by omega) (tgt := 47) dX7_greatestMark_7 (by decide) (fun c_7_2 => ?_) (fun h => False.elim (by omega))
      refine lv_iload_n hx hb dX7_greatestMark_47 rfl (lv_at hl 1 rfl) ?_
      exact zr_i hx hb hr hlk (by exact j2.symm) dX7_greatestMark_48
    | succ f ih =>
      intro k x ls j1 j2 hl
      refine lv_iload_n hx hb dX7_greatestMark_4 rfl (lv_at hl 2 rfl) ?_
      refine lv_bipush (v := 6) hx hb dX7_greatestMark_5 (by decide) ?_
      refine zn_ge hx hb (x := k) (y := 6) (by omega) (by omega) (tgt := 47) dX7_greatestMark_7 (by decide) (fun h => False.elim (by omega)) (fun c_7_3 => ?_)
      refine lv_aload_n hx hb dX7_greatestMark_10 rfl (lv_at hl 0 rfl) ?_
      refine lv_iload_n hx hb dX7_greatestMark_11 rfl (lv_at hl 2 rfl) ?_
      refine lv_iconst (v := 0) hx hb dX7_greatestMark_12 (by decide) ?_
      refine zcr (As := [.int (nI k), .int 0]) (rest := []) (q0 := 0) S (c_X7_ofPage l D ca o f0 f2 f3 f4 f5 f6 f7 f8 f9 f10 sf k 0 (by omega) (by omega)) ml_X7_105 zy_X7_ofPage im_X7_ofPage se_X7_ofPage ⟨Nat.le_of_ble_eq_true rfl, Nat.le_of_ble_eq_true rfl⟩ hK hP [0, 1] rfl rfl rfl rfl rfl hl.1 rfl (Nat.le_of_ble_eq_true rfl) ⟨Nat.zero_le _, Nat.zero_le _⟩ dX7_greatestMark_13 ?_
      refine lv_iconst (v := 1) hx hb dX7_greatestMark_16 (by decide) ?_
      refine lv_icmp_ne (tgt := 39) hx hb dX7_greatestMark_17 (by decide) (fun c_17_4 => ?_) (fun c_17_4 => ?_)
      · refine lv_iload_n hx hb dX7_greatestMark_39 rfl (lv_at hl 1 rfl) ?_
        refine lv_istore_n (lv' := [(1, .int x), (0, .ref (o 0)), (2, .int (nI k))]) hx hb dX7_greatestMark_40 rfl hl (by decide) rfl (fun ls hl => ?_)
        refine lv_iinc (v := nI (k + 1)) (lv' := [(2, .int (nI (k + 1))), (1, .int x), (0, .ref (o 0))]) hx hb dX7_greatestMark_41 hl (k := 2) rfl (zinc k 1) (by decide) rfl (fun ls hl => ?_)
        refine lv_goto (tgt := 4) hx hb dX7_greatestMark_44 (by decide) ?_
        exact ih (k + 1) x ls (by omega) (by rw [j2]; simp only [rgm, c_7_3, c_17_4, if_true, if_false]) (lv_sub hl [2, 1, 0] rfl)
      · refine lv_aload_n hx hb dX7_greatestMark_20 rfl (lv_at hl 0 rfl) ?_
        refine lv_iload_n hx hb dX7_greatestMark_21 rfl (lv_at hl 2 rfl) ?_
        refine lv_iconst (v := 1) hx hb dX7_greatestMark_22 (by decide) ?_
        refine zcr (As := [.int (nI k), .int 1]) (rest := []) (q0 := 0) S (c_X7_ofPage l D ca o f0 f2 f3 f4 f5 f6 f7 f8 f9 f10 sf k 1 (by omega) (by omega)) ml_X7_105 zy_X7_ofPage im_X7_ofPage se_X7_ofPage ⟨Nat.le_of_ble_eq_true rfl, Nat.le_of_ble_eq_true rfl⟩ hK hP [0, 1] rfl rfl rfl rfl rfl hl.1 rfl (Nat.le_of_ble_eq_true rfl) ⟨Nat.zero_le _, Nat.zero_le _⟩ dX7_greatestMark_23 ?_
        refine lv_iload_n hx hb dX7_greatestMark_26 rfl (lv_at hl 1 rfl) ?_
        refine lv_icmp_le (tgt := 39) hx hb dX7_greatestMark_27 (by decide) (fun c_27_5 => ?_) (fun c_27_5 => ?_)
        · refine lv_iload_n hx hb dX7_greatestMark_39 rfl (lv_at hl 1 rfl) ?_
          refine lv_istore_n (lv' := [(1, .int x), (0, .ref (o 0)), (2, .int (nI k))]) hx hb dX7_greatestMark_40 rfl hl (by decide) rfl (fun ls hl => ?_)
          refine lv_iinc (v := nI (k + 1)) (lv' := [(2, .int (nI (k + 1))), (1, .int x), (0, .ref (o 0))]) hx hb dX7_greatestMark_41 hl (k := 2) rfl (zinc k 1) (by decide) rfl (fun ls hl => ?_)
          refine lv_goto (tgt := 4) hx hb dX7_greatestMark_44 (by decide) ?_
          exact ih (k + 1) x ls (by omega) (by rw [j2]; simp only [rgm, c_7_3, c_17_4, c_27_5, if_true, if_false]) (lv_sub hl [2, 1, 0] rfl)
        · refine lv_aload_n hx hb dX7_greatestMark_30 rfl (lv_at hl 0 rfl) ?_
          refine lv_iload_n hx hb dX7_greatestMark_31 rfl (lv_at hl 2 rfl) ?_
          refine lv_iconst (v := 1) hx hb dX7_greatestMark_32 (by decide) ?_
          refine zcr (As := [.int (nI k), .int 1]) (rest := []) (q0 := 0) S (c_X7_ofPage l D ca o f0 f2 f3 f4 f5 f6 f7 f8 f9 f10 sf k 1 (by omega) (by omega)) ml_X7_105 zy_X7_ofPage im_X7_ofPage se_X7_ofPage ⟨Nat.le_of_ble_eq_true rfl, Nat.le_of_ble_eq_true rfl⟩ hK hP [0, 1] rfl rfl rfl rfl rfl hl.1 rfl (Nat.le_of_ble_eq_true rfl) ⟨Nat.zero_le _, Nat.zero_le _⟩ dX7_greatestMark_33 ?_
          refine lv_goto (tgt := 40) hx hb dX7_greatestMark_36 (by decide) ?_
          refine lv_istore_n (lv' := [(1, .int (rPg sf k 1)), (0, .ref (o 0)), (2, .int (nI k))]) hx hb dX7_greatestMark_40 rfl hl (by decide) rfl (fun ls hl => ?_)
          refine lv_iinc (v := nI (k + 1)) (lv' := [(2, .int (nI (k + 1))), (1, .int (rPg sf k 1)), (0, .ref (o 0))]) hx hb dX7_greatestMark_41 hl (k := 2) rfl (zinc k 1) (by decide) rfl (fun ls hl => ?_)
          refine lv_goto (tgt := 4) hx hb dX7_greatestMark_44 (by decide) ?_
          exact ih (k + 1) (rPg sf k 1) ls (by omega) (by rw [j2]; simp only [rgm, c_7_3, c_17_4, c_27_5, if_true, if_false]) (lv_sub hl [2, 1, 0] rfl)
  exact loop_0 6 0 0 ls (by omega) (by rfl) (lv_sub hl [2, 1, 0] rfl)
set_option maxHeartbeats 4000000 in
set_option maxRecDepth 100000 in
theorem c_X7_truly (l : Launch) (D : va_G) (ca : Nat → ClassId) (o : Nat → Nat) (f0 f2 f3 f4 f5 f6 f7 f8 f9 f10 : Value) (sf : Nat → Int32) (t : Int32) (w : Nat) (hw : w < 3) : zMr l yX7_truly cX7_truly 3 (some .int) 2 44 D ca [(o 0, .inr (7, [f0, .ref (o 1), f2, f3, f4, f5, f6, f7, f8, f9, f10])), (o 1, .inl (ca 0, 99, .inl sf))] [.ref (o 0), .int t, .int (nI w)] (.int (nI (rTru sf t w))) := by
  refine zMr_of (own := RX7) (by decide) rfl (Nat.le_of_ble_eq_true rfl) ?_
  intro p e s m args below meth c ls S hr hlk hP hK hl
  have hx := S.1
  have hb := S.2.1
  have hl : lv_has ls 3 [(0, .ref (o 0)), (1, .int t), (2, .int (nI w))] := hl
  refine lv_iload_n hx hb dX7_truly_0 rfl (lv_at hl 2 rfl) ?_
  refine lv_iconst (v := 2) hx hb dX7_truly_1 (by decide) ?_
  refine zn_ne hx hb (x := w) (y := 2) (by omega) (by omega) (tgt := 17) dX7_truly_2 (by decide) (fun c_2_1 => ?_) (fun c_2_1 => ?_)
  · refine lv_iload_n hx hb dX7_truly_17 rfl (lv_at hl 2 rfl) ?_
    exact zr_i hx hb hr hlk (by simp [rTru, c_2_1] <;> omega) dX7_truly_18
  · refine lv_iload_n hx hb dX7_truly_5 rfl (lv_at hl 1 rfl) ?_
    refine lv_aload_n hx hb dX7_truly_6 rfl (lv_at hl 0 rfl) ?_
    refine zcr (As := []) (rest := [.int t]) (q0 := 0) S (c_X7_greatestMark l D ca o f0 f2 f3 f4 f5 f6 f7 f8 f9 f10 sf ) ml_X7_111 zy_X7_greatestMark im_X7_greatestMark se_X7_greatestMark ⟨Nat.le_of_ble_eq_true rfl, Nat.le_of_ble_eq_true rfl⟩ hK hP [0, 1] rfl rfl rfl rfl rfl hl.1 rfl (Nat.le_of_ble_eq_true rfl) ⟨Nat.zero_le _, Nat.zero_le _⟩ dX7_truly_7 ?_
    refine lv_icmp_ge (tgt := 17) hx hb dX7_truly_10 (by decide) (fun c_10_2 => ?_) (fun c_10_2 => ?_)
    · refine lv_iload_n hx hb dX7_truly_17 rfl (lv_at hl 2 rfl) ?_
      exact zr_i hx hb hr hlk (by simp [rTru, c_2_1, c_10_2] <;> omega) dX7_truly_18
    · refine lv_iconst (v := 1) hx hb dX7_truly_13 (by decide) ?_
      refine lv_goto (tgt := 18) hx hb dX7_truly_14 (by decide) ?_
      exact zr_i hx hb hr hlk (by simp [rTru, c_2_1, c_10_2]; rfl) dX7_truly_18
set_option maxHeartbeats 4000000 in
set_option maxRecDepth 100000 in
theorem c_X7_hasValue (l : Launch) (D : va_G) (ca : Nat → ClassId) (o : Nat → Nat) (f0 f2 f3 f4 f5 f6 f7 f8 f9 f10 : Value) (sf : Nat → Int32) (k : Nat) (hk : k < 24) (v : Int32) : zMr l yX7_hasValue cX7_hasValue 3 (some .boolean) 1 22 D ca [(o 0, .inr (7, [f0, .ref (o 1), f2, f3, f4, f5, f6, f7, f8, f9, f10])), (o 1, .inl (ca 0, 99, .inl sf))] [.ref (o 0), .int (nI k), .int v] (.int (zb (rHv sf v k))) := by
  refine zMr_of (own := RX7) (by decide) rfl (Nat.le_of_ble_eq_true rfl) ?_
  intro p e s m args below meth c ls S hr hlk hP hK hl
  have hx := S.1
  have hb := S.2.1
  have hl : lv_has ls 3 [(0, .ref (o 0)), (1, .int (nI k)), (2, .int v)] := hl
  refine lv_aload_n hx hb dX7_hasValue_0 rfl (lv_at hl 0 rfl) ?_
  refine lv_iload_n hx hb dX7_hasValue_1 rfl (lv_at hl 1 rfl) ?_
  refine lv_iconst (v := 0) hx hb dX7_hasValue_2 (by decide) ?_
  refine zcr (As := [.int (nI k), .int 0]) (rest := []) (q0 := 0) S (c_X7_of l D ca o f0 f2 f3 f4 f5 f6 f7 f8 f9 f10 sf k 0 (by omega) (by omega)) ml_X7_33 zy_X7_of im_X7_of se_X7_of ⟨Nat.le_of_ble_eq_true rfl, Nat.le_of_ble_eq_true rfl⟩ hK hP [0, 1] rfl rfl rfl rfl rfl hl.1 rfl (Nat.le_of_ble_eq_true rfl) ⟨Nat.zero_le _, Nat.zero_le _⟩ dX7_hasValue_3 ?_
  refine lv_iload_n hx hb dX7_hasValue_6 rfl (lv_at hl 2 rfl) ?_
  refine lv_iconst (v := 1) hx hb dX7_hasValue_7 (by decide) ?_
  refine lv_iadd hx hb dX7_hasValue_8 ?_
  refine lv_icmp_ne (tgt := 16) hx hb dX7_hasValue_9 (by decide) (fun c_9_1 => ?_) (fun c_9_1 => ?_)
  · refine lv_iconst (v := 0) hx hb dX7_hasValue_16 (by decide) ?_
    exact zr_z hx hb hr hlk (by simp [rHv, zb, c_9_1]) dX7_hasValue_17
  · refine lv_iconst (v := 1) hx hb dX7_hasValue_12 (by decide) ?_
    refine lv_goto (tgt := 17) hx hb dX7_hasValue_13 (by decide) ?_
    exact zr_z hx hb hr hlk (by simp [rHv, zb, c_9_1]) dX7_hasValue_17
set_option maxHeartbeats 4000000 in
set_option maxRecDepth 100000 in
theorem c_X7_answers (l : Launch) (D : va_G) (ca : Nat → ClassId) (o : Nat → Nat) (f0 f2 f3 f4 f5 f6 f7 f8 f9 f10 : Value) (sf : Nat → Int32) (t v : Int32) (w : Nat) (hw : w < 3) : zMr l yX7_answers cX7_answers 8 (some .int) 3 66 D ca [(o 0, .inr (7, [f0, .ref (o 1), f2, f3, f4, f5, f6, f7, f8, f9, f10])), (o 1, .inl (ca 0, 99, .inl sf))] [.ref (o 0), .int t, .int v, .int (nI w)] (.int (rAns sf t v w)) := by
  refine zMr_of (own := RX7) (by decide) rfl (Nat.le_of_ble_eq_true rfl) ?_
  intro p e s m args below meth c ls S hr hlk hP hK hl
  have hx := S.1
  have hb := S.2.1
  have hl : lv_has ls 8 [(0, .ref (o 0)), (1, .int t), (2, .int v), (3, .int (nI w))] := hl
  have cut_15_0 : W p l e { frames := 3, cells := 0, slots := 0, locals := 66 } s m args below meth c s.heap [] 0 0 (MQ below (zQr (.int (rAns sf t v w))) args s 0 0 (fun _ => False)) (F0 m 15 ls [.int (zb (decide (rTru sf t w = 2)))]) := by
    refine lv_istore (lv' := [(4, .int (zb (decide (rTru sf t w = 2)))), (0, .ref (o 0)), (1, .int t), (2, .int v), (3, .int (nI w))]) hx hb dX7_answers_15 hl (by decide) rfl (fun ls hl => ?_)
    refine lv_iconst (v := 0) hx hb dX7_answers_17 (by decide) ?_
    refine lv_istore (lv' := [(5, .int 0), (4, .int (zb (decide (rTru sf t w = 2)))), (0, .ref (o 0)), (1, .int t), (2, .int v), (3, .int (nI w))]) hx hb dX7_answers_18 hl (by decide) rfl (fun ls hl => ?_)
    refine lv_iconst (v := 0) hx hb dX7_answers_20 (by decide) ?_
    refine lv_istore (lv' := [(6, .int 0), (5, .int 0), (4, .int (zb (decide (rTru sf t w = 2)))), (0, .ref (o 0)), (1, .int t), (2, .int v), (3, .int (nI w))]) hx hb dX7_answers_21 hl (by decide) rfl (fun ls hl => ?_)
    have loop_1 : ∀ (f : Nat) (k : Nat) (x : Int32) (ls : Array Slot), k + f = 24 → zcnt (fun k => rHv sf v k && (rSeen sf k t || (decide (rTru sf t w = 2) && decide (rPg sf (k / 4) 0 = 1)))) 24 0 0 = zcnt (fun k => rHv sf v k && (rSeen sf k t || (decide (rTru sf t w = 2) && decide (rPg sf (k / 4) 0 = 1)))) f k x → lv_has ls 8 [(0, .ref (o 0)), (1, .int t), (2, .int v), (3, .int (nI w)), (4, .int (zb (decide (rTru sf t w = 2)))), (5, .int x), (6, .int (nI k))] → W p l e { frames := 3, cells := 0, slots := 0, locals := 66 } s m args below meth c s.heap [] 0 0 (MQ below (zQr (.int (rAns sf t v w))) args s 0 0 (fun _ => False)) (F0 m 23 ls []) := by
      intro f
      induction f with
      | zero =>
        intro k x ls j1 j2 hl
        refine lv_iload hx hb dX7_answers_23 (lv_at hl 6 rfl) ?_
        refine lv_bipush (v := 24) hx hb dX7_answers_25 (by decide) ?_
        refine zn_ge hx hb (x := k) (y := 24) (by omega) (by omega) (tgt := 96) dX7_answers_27 (by decide) (fun c_27_3 => ?_) (fun h => False.elim (by omega))
        refine lv_iload hx hb dX7_answers_96 (lv_at hl 5 rfl) ?_
        exact zr_i hx hb hr hlk (by exact j2.symm) dX7_answers_98
      | succ f ih =>
        intro k x ls j1 j2 hl
        refine lv_iload hx hb dX7_answers_23 (lv_at hl 6 rfl) ?_
        refine lv_bipush (v := 24) hx hb dX7_answers_25 (by decide) ?_
        refine zn_ge hx hb (x := k) (y := 24) (by omega) (by omega) (tgt := 96) dX7_answers_27 (by decide) (fun h => False.elim (by omega)) (fun c_27_4 => ?_)
        refine lv_aload_n hx hb dX7_answers_30 rfl (lv_at hl 0 rfl) ?_
        refine lv_iload hx hb dX7_answers_31 (lv_at hl 6 rfl) ?_
        refine lv_iload_n hx hb dX7_answers_33 rfl (lv_at hl 1 rfl) ?_
        refine zcr (As := [.int (nI k), .int t]) (rest := []) (q0 := 0) S (c_X7_isSeen l D ca o f0 f2 f3 f4 f5 f6 f7 f8 f9 f10 sf k (by omega) t) ml_X7_63 zy_X7_isSeen im_X7_isSeen se_X7_isSeen ⟨Nat.le_of_ble_eq_true rfl, Nat.le_of_ble_eq_true rfl⟩ hK hP [0, 1] rfl rfl rfl rfl rfl hl.1 rfl (Nat.le_of_ble_eq_true rfl) ⟨Nat.zero_le _, Nat.zero_le _⟩ dX7_answers_34 ?_
        refine zz_ne (tgt := 58) hx hb dX7_answers_37 (by decide) (fun c_37_5 => ?_) (fun c_37_5 => ?_)
        · refine lv_iconst (v := 1) hx hb dX7_answers_58 (by decide) ?_
          refine lv_goto (tgt := 63) hx hb dX7_answers_59 (by decide) ?_
          refine lv_istore (lv' := [(7, .int 1), (0, .ref (o 0)), (1, .int t), (2, .int v), (3, .int (nI w)), (4, .int (zb (decide (rTru sf t w = 2)))), (5, .int x), (6, .int (nI k))]) hx hb dX7_answers_63 hl (by decide) rfl (fun ls hl => ?_)
          refine lv_iload hx hb dX7_answers_65 (lv_at hl 6 rfl) ?_
          refine lv_aload_n hx hb dX7_answers_67 rfl (lv_at hl 1 rfl) ?_
          refine lv_iload hx hb dX7_answers_68 (lv_at hl 7 rfl) ?_
          refine lv_iload_n hx hb dX7_answers_70 rfl (lv_at hl 3 rfl) ?_
          refine zcr (As := [.int (nI k), .int v]) (rest := [.int x]) (q0 := 0) S (c_X7_hasValue l D ca o f0 f2 f3 f4 f5 f6 f7 f8 f9 f10 sf k (by omega) v) ml_X7_117 zy_X7_hasValue im_X7_hasValue se_X7_hasValue ⟨Nat.le_of_ble_eq_true rfl, Nat.le_of_ble_eq_true rfl⟩ hK hP [0, 1] rfl rfl rfl rfl rfl hl.1 rfl (Nat.le_of_ble_eq_true rfl) ⟨Nat.zero_le _, Nat.zero_le _⟩ dX7_answers_71 ?_
          refine zz_eq (tgt := 86) hx hb dX7_answers_74 (by decide) (fun c_74_6 => ?_) (fun c_74_6 => ?_)
          · refine lv_iconst (v := 0) hx hb dX7_answers_86 (by decide) ?_
            refine t_iadd hx hb dX7_answers_87 (v := x) (Int32.add_zero _) ?_
            refine lv_istore (lv' := [(5, .int x), (7, .int 1), (0, .ref (o 0)), (1, .int t), (2, .int v), (3, .int (nI w)), (4, .int (zb (decide (rTru sf t w = 2)))), (6, .int (nI k))]) hx hb dX7_answers_88 hl (by decide) rfl (fun ls hl => ?_)
            refine lv_iinc (v := nI (k + 1)) (lv' := [(6, .int (nI (k + 1))), (5, .int x), (7, .int 1), (0, .ref (o 0)), (1, .int t), (2, .int v), (3, .int (nI w)), (4, .int (zb (decide (rTru sf t w = 2))))]) hx hb dX7_answers_90 hl (k := 7) rfl (zinc k 1) (by decide) rfl (fun ls hl => ?_)
            refine lv_goto (tgt := 23) hx hb dX7_answers_93 (by decide) ?_
            exact ih (k + 1) x ls (by omega) (by first | exact j2.trans (zcnt_t (by simp [c_27_4, c_37_5, c_74_6])) | exact j2.trans (zcnt_f (by simp [c_27_4, c_37_5, c_74_6]))) (lv_sub hl [3, 4, 5, 6, 7, 1, 0] rfl)
          · refine lv_iload hx hb dX7_answers_77 (lv_at hl 0 rfl) ?_
            refine lv_if_eq (tgt := 86) hx hb dX7_answers_79 (by decide) (fun h => absurd h (by decide)) (fun _ => ?_)
            refine lv_iconst (v := 1) hx hb dX7_answers_82 (by decide) ?_
            refine lv_goto (tgt := 87) hx hb dX7_answers_83 (by decide) ?_
            refine lv_iadd hx hb dX7_answers_87 ?_
            refine lv_istore (lv' := [(5, .int (x + 1)), (7, .int 1), (0, .ref (o 0)), (1, .int t), (2, .int v), (3, .int (nI w)), (4, .int (zb (decide (rTru sf t w = 2)))), (6, .int (nI k))]) hx hb dX7_answers_88 hl (by decide) rfl (fun ls hl => ?_)
            refine lv_iinc (v := nI (k + 1)) (lv' := [(6, .int (nI (k + 1))), (5, .int (x + 1)), (7, .int 1), (0, .ref (o 0)), (1, .int t), (2, .int v), (3, .int (nI w)), (4, .int (zb (decide (rTru sf t w = 2))))]) hx hb dX7_answers_90 hl (k := 7) rfl (zinc k 1) (by decide) rfl (fun ls hl => ?_)
            refine lv_goto (tgt := 23) hx hb dX7_answers_93 (by decide) ?_
            exact ih (k + 1) (x + 1) ls (by omega) (by first | exact j2.trans (zcnt_t (by simp [c_27_4, c_37_5, c_74_6])) | exact j2.trans (zcnt_f (by simp [c_27_4, c_37_5, c_74_6]))) (lv_sub hl [3, 4, 5, 6, 7, 1, 0] rfl)
        · refine lv_iload hx hb dX7_answers_40 (lv_at hl 4 rfl) ?_
          refine zz_eq (tgt := 62) hx hb dX7_answers_42 (by decide) (fun c_42_7 => ?_) (fun c_42_7 => ?_)
          · refine lv_iconst (v := 0) hx hb dX7_answers_62 (by decide) ?_
            refine lv_istore (lv' := [(7, .int 0), (0, .ref (o 0)), (1, .int t), (2, .int v), (3, .int (nI w)), (4, .int (zb (decide (rTru sf t w = 2)))), (5, .int x), (6, .int (nI k))]) hx hb dX7_answers_63 hl (by decide) rfl (fun ls hl => ?_)
            refine lv_iload hx hb dX7_answers_65 (lv_at hl 6 rfl) ?_
            refine lv_aload_n hx hb dX7_answers_67 rfl (lv_at hl 1 rfl) ?_
            refine lv_iload hx hb dX7_answers_68 (lv_at hl 7 rfl) ?_
            refine lv_iload_n hx hb dX7_answers_70 rfl (lv_at hl 3 rfl) ?_
            refine zcr (As := [.int (nI k), .int v]) (rest := [.int x]) (q0 := 0) S (c_X7_hasValue l D ca o f0 f2 f3 f4 f5 f6 f7 f8 f9 f10 sf k (by omega) v) ml_X7_117 zy_X7_hasValue im_X7_hasValue se_X7_hasValue ⟨Nat.le_of_ble_eq_true rfl, Nat.le_of_ble_eq_true rfl⟩ hK hP [0, 1] rfl rfl rfl rfl rfl hl.1 rfl (Nat.le_of_ble_eq_true rfl) ⟨Nat.zero_le _, Nat.zero_le _⟩ dX7_answers_71 ?_
            refine zz_eq (tgt := 86) hx hb dX7_answers_74 (by decide) (fun c_74_8 => ?_) (fun c_74_8 => ?_)
            · refine lv_iconst (v := 0) hx hb dX7_answers_86 (by decide) ?_
              refine t_iadd hx hb dX7_answers_87 (v := x) (Int32.add_zero _) ?_
              refine lv_istore (lv' := [(5, .int x), (7, .int 0), (0, .ref (o 0)), (1, .int t), (2, .int v), (3, .int (nI w)), (4, .int (zb (decide (rTru sf t w = 2)))), (6, .int (nI k))]) hx hb dX7_answers_88 hl (by decide) rfl (fun ls hl => ?_)
              refine lv_iinc (v := nI (k + 1)) (lv' := [(6, .int (nI (k + 1))), (5, .int x), (7, .int 0), (0, .ref (o 0)), (1, .int t), (2, .int v), (3, .int (nI w)), (4, .int (zb (decide (rTru sf t w = 2))))]) hx hb dX7_answers_90 hl (k := 7) rfl (zinc k 1) (by decide) rfl (fun ls hl => ?_)
              refine lv_goto (tgt := 23) hx hb dX7_answers_93 (by decide) ?_
              exact ih (k + 1) x ls (by omega) (by first | exact j2.trans (zcnt_t (by simp [c_27_4, c_37_5, c_42_7, c_74_8])) | exact j2.trans (zcnt_f (by simp [c_27_4, c_37_5, c_42_7, c_74_8]))) (lv_sub hl [3, 4, 5, 6, 7, 1, 0] rfl)
            · refine lv_iload hx hb dX7_answers_77 (lv_at hl 0 rfl) ?_
              refine lv_if_eq (tgt := 86) hx hb dX7_answers_79 (by decide) (fun _ => ?_) (fun h => absurd (by decide) h)
              refine lv_iconst (v := 0) hx hb dX7_answers_86 (by decide) ?_
              refine t_iadd hx hb dX7_answers_87 (v := x) (Int32.add_zero _) ?_
              refine lv_istore (lv' := [(5, .int x), (7, .int 0), (0, .ref (o 0)), (1, .int t), (2, .int v), (3, .int (nI w)), (4, .int (zb (decide (rTru sf t w = 2)))), (6, .int (nI k))]) hx hb dX7_answers_88 hl (by decide) rfl (fun ls hl => ?_)
              refine lv_iinc (v := nI (k + 1)) (lv' := [(6, .int (nI (k + 1))), (5, .int x), (7, .int 0), (0, .ref (o 0)), (1, .int t), (2, .int v), (3, .int (nI w)), (4, .int (zb (decide (rTru sf t w = 2))))]) hx hb dX7_answers_90 hl (k := 7) rfl (zinc k 1) (by decide) rfl (fun ls hl => ?_)
              refine lv_goto (tgt := 23) hx hb dX7_answers_93 (by decide) ?_
              exact ih (k + 1) x ls (by omega) (by first | exact j2.trans (zcnt_t (by simp [c_27_4, c_37_5, c_42_7, c_74_8])) | exact j2.trans (zcnt_f (by simp [c_27_4, c_37_5, c_42_7, c_74_8]))) (lv_sub hl [3, 4, 5, 6, 7, 1, 0] rfl)
          · refine lv_aload_n hx hb dX7_answers_45 rfl (lv_at hl 0 rfl) ?_
            refine lv_iload hx hb dX7_answers_46 (lv_at hl 6 rfl) ?_
            refine lv_iconst (v := 4) hx hb dX7_answers_48 (by decide) ?_
            refine zn_div hx hb (x := k) (y := 4) (z := k / 4) (by omega) (by omega) (by omega) (by first | rfl | omega) dX7_answers_49 ?_
            refine lv_iconst (v := 0) hx hb dX7_answers_50 (by decide) ?_
            refine zcr (As := [.int (nI (k / 4)), .int 0]) (rest := []) (q0 := 0) S (c_X7_ofPage l D ca o f0 f2 f3 f4 f5 f6 f7 f8 f9 f10 sf (k / 4) 0 (by omega) (by omega)) ml_X7_105 zy_X7_ofPage im_X7_ofPage se_X7_ofPage ⟨Nat.le_of_ble_eq_true rfl, Nat.le_of_ble_eq_true rfl⟩ hK hP [0, 1] rfl rfl rfl rfl rfl hl.1 rfl (Nat.le_of_ble_eq_true rfl) ⟨Nat.zero_le _, Nat.zero_le _⟩ dX7_answers_51 ?_
            refine lv_iconst (v := 1) hx hb dX7_answers_54 (by decide) ?_
            refine lv_icmp_ne (tgt := 62) hx hb dX7_answers_55 (by decide) (fun c_55_9 => ?_) (fun c_55_9 => ?_)
            · refine lv_iconst (v := 0) hx hb dX7_answers_62 (by decide) ?_
              refine lv_istore (lv' := [(7, .int 0), (0, .ref (o 0)), (1, .int t), (2, .int v), (3, .int (nI w)), (4, .int (zb (decide (rTru sf t w = 2)))), (5, .int x), (6, .int (nI k))]) hx hb dX7_answers_63 hl (by decide) rfl (fun ls hl => ?_)
              refine lv_iload hx hb dX7_answers_65 (lv_at hl 6 rfl) ?_
              refine lv_aload_n hx hb dX7_answers_67 rfl (lv_at hl 1 rfl) ?_
              refine lv_iload hx hb dX7_answers_68 (lv_at hl 7 rfl) ?_
              refine lv_iload_n hx hb dX7_answers_70 rfl (lv_at hl 3 rfl) ?_
              refine zcr (As := [.int (nI k), .int v]) (rest := [.int x]) (q0 := 0) S (c_X7_hasValue l D ca o f0 f2 f3 f4 f5 f6 f7 f8 f9 f10 sf k (by omega) v) ml_X7_117 zy_X7_hasValue im_X7_hasValue se_X7_hasValue ⟨Nat.le_of_ble_eq_true rfl, Nat.le_of_ble_eq_true rfl⟩ hK hP [0, 1] rfl rfl rfl rfl rfl hl.1 rfl (Nat.le_of_ble_eq_true rfl) ⟨Nat.zero_le _, Nat.zero_le _⟩ dX7_answers_71 ?_
              refine zz_eq (tgt := 86) hx hb dX7_answers_74 (by decide) (fun c_74_10 => ?_) (fun c_74_10 => ?_)
              · refine lv_iconst (v := 0) hx hb dX7_answers_86 (by decide) ?_
                refine t_iadd hx hb dX7_answers_87 (v := x) (Int32.add_zero _) ?_
                refine lv_istore (lv' := [(5, .int x), (7, .int 0), (0, .ref (o 0)), (1, .int t), (2, .int v), (3, .int (nI w)), (4, .int (zb (decide (rTru sf t w = 2)))), (6, .int (nI k))]) hx hb dX7_answers_88 hl (by decide) rfl (fun ls hl => ?_)
                refine lv_iinc (v := nI (k + 1)) (lv' := [(6, .int (nI (k + 1))), (5, .int x), (7, .int 0), (0, .ref (o 0)), (1, .int t), (2, .int v), (3, .int (nI w)), (4, .int (zb (decide (rTru sf t w = 2))))]) hx hb dX7_answers_90 hl (k := 7) rfl (zinc k 1) (by decide) rfl (fun ls hl => ?_)
                refine lv_goto (tgt := 23) hx hb dX7_answers_93 (by decide) ?_
                exact ih (k + 1) x ls (by omega) (by first | exact j2.trans (zcnt_t (by simp [c_27_4, c_37_5, c_42_7, c_55_9, c_74_10])) | exact j2.trans (zcnt_f (by simp [c_27_4, c_37_5, c_42_7, c_55_9, c_74_10]))) (lv_sub hl [3, 4, 5, 6, 7, 1, 0] rfl)
              · refine lv_iload hx hb dX7_answers_77 (lv_at hl 0 rfl) ?_
                refine lv_if_eq (tgt := 86) hx hb dX7_answers_79 (by decide) (fun _ => ?_) (fun h => absurd (by decide) h)
                refine lv_iconst (v := 0) hx hb dX7_answers_86 (by decide) ?_
                refine t_iadd hx hb dX7_answers_87 (v := x) (Int32.add_zero _) ?_
                refine lv_istore (lv' := [(5, .int x), (7, .int 0), (0, .ref (o 0)), (1, .int t), (2, .int v), (3, .int (nI w)), (4, .int (zb (decide (rTru sf t w = 2)))), (6, .int (nI k))]) hx hb dX7_answers_88 hl (by decide) rfl (fun ls hl => ?_)
                refine lv_iinc (v := nI (k + 1)) (lv' := [(6, .int (nI (k + 1))), (5, .int x), (7, .int 0), (0, .ref (o 0)), (1, .int t), (2, .int v), (3, .int (nI w)), (4, .int (zb (decide (rTru sf t w = 2))))]) hx hb dX7_answers_90 hl (k := 7) rfl (zinc k 1) (by decide) rfl (fun ls hl => ?_)
                refine lv_goto (tgt := 23) hx hb dX7_answers_93 (by decide) ?_
                exact ih (k + 1) x ls (by omega) (by first | exact j2.trans (zcnt_t (by simp [c_27_4, c_37_5, c_42_7, c_55_9, c_74_10])) | exact j2.trans (zcnt_f (by simp [c_27_4, c_37_5, c_42_7, c_55_9, c_74_10]))) (lv_sub hl [3, 4, 5, 6, 7, 1, 0] rfl)
            · refine lv_iconst (v := 1) hx hb dX7_answers_58 (by decide) ?_
              refine lv_goto (tgt := 63) hx hb dX7_answers_59 (by decide) ?_
              refine lv_istore (lv' := [(7, .int 1), (0, .ref (o 0)), (1, .int t), (2, .int v), (3, .int (nI w)), (4, .int (zb (decide (rTru sf t w = 2)))), (5, .int x), (6, .int (nI k))]) hx hb dX7_answers_63 hl (by decide) rfl (fun ls hl => ?_)
              refine lv_iload hx hb dX7_answers_65 (lv_at hl 6 rfl) ?_
              refine lv_aload_n hx hb dX7_answers_67 rfl (lv_at hl 1 rfl) ?_
              refine lv_iload hx hb dX7_answers_68 (lv_at hl 7 rfl) ?_
              refine lv_iload_n hx hb dX7_answers_70 rfl (lv_at hl 3 rfl) ?_
              refine zcr (As := [.int (nI k), .int v]) (rest := [.int x]) (q0 := 0) S (c_X7_hasValue l D ca o f0 f2 f3 f4 f5 f6 f7 f8 f9 f10 sf k (by omega) v) ml_X7_117 zy_X7_hasValue im_X7_hasValue se_X7_hasValue ⟨Nat.le_of_ble_eq_true rfl, Nat.le_of_ble_eq_true rfl⟩ hK hP [0, 1] rfl rfl rfl rfl rfl hl.1 rfl (Nat.le_of_ble_eq_true rfl) ⟨Nat.zero_le _, Nat.zero_le _⟩ dX7_answers_71 ?_
              refine zz_eq (tgt := 86) hx hb dX7_answers_74 (by decide) (fun c_74_11 => ?_) (fun c_74_11 => ?_)
              · refine lv_iconst (v := 0) hx hb dX7_answers_86 (by decide) ?_
                refine t_iadd hx hb dX7_answers_87 (v := x) (Int32.add_zero _) ?_
                refine lv_istore (lv' := [(5, .int x), (7, .int 1), (0, .ref (o 0)), (1, .int t), (2, .int v), (3, .int (nI w)), (4, .int (zb (decide (rTru sf t w = 2)))), (6, .int (nI k))]) hx hb dX7_answers_88 hl (by decide) rfl (fun ls hl => ?_)
                refine lv_iinc (v := nI (k + 1)) (lv' := [(6, .int (nI (k + 1))), (5, .int x), (7, .int 1), (0, .ref (o 0)), (1, .int t), (2, .int v), (3, .int (nI w)), (4, .int (zb (decide (rTru sf t w = 2))))]) hx hb dX7_answers_90 hl (k := 7) rfl (zinc k 1) (by decide) rfl (fun ls hl => ?_)
                refine lv_goto (tgt := 23) hx hb dX7_answers_93 (by decide) ?_
                exact ih (k + 1) x ls (by omega) (by first | exact j2.trans (zcnt_t (by simp [c_27_4, c_37_5, c_42_7, c_55_9, c_74_11])) | exact j2.trans (zcnt_f (by simp [c_27_4, c_37_5, c_42_7, c_55_9, c_74_11]))) (lv_sub hl [3, 4, 5, 6, 7, 1, 0] rfl)
              · refine lv_iload hx hb dX7_answers_77 (lv_at hl 0 rfl) ?_
                refine lv_if_eq (tgt := 86) hx hb dX7_answers_79 (by decide) (fun h => absurd h (by decide)) (fun _ => ?_)
                refine lv_iconst (v := 1) hx hb dX7_answers_82 (by decide) ?_
                refine lv_goto (tgt := 87) hx hb dX7_answers_83 (by decide) ?_
                refine lv_iadd hx hb dX7_answers_87 ?_
                refine lv_istore (lv' := [(5, .int (x + 1)), (7, .int 1), (0, .ref (o 0)), (1, .int t), (2, .int v), (3, .int (nI w)), (4, .int (zb (decide (rTru sf t w = 2)))), (6, .int (nI k))]) hx hb dX7_answers_88 hl (by decide) rfl (fun ls hl => ?_)
                refine lv_iinc (v := nI (k + 1)) (lv' := [(6, .int (nI (k + 1))), (5, .int (x + 1)), (7, .int 1), (0, .ref (o 0)), (1, .int t), (2, .int v), (3, .int (nI w)), (4, .int (zb (decide (rTru sf t w = 2))))]) hx hb dX7_answers_90 hl (k := 7) rfl (zinc k 1) (by decide) rfl (fun ls hl => ?_)
                refine lv_goto (tgt := 23) hx hb dX7_answers_93 (by decide) ?_
                exact ih (k + 1) (x + 1) ls (by omega) (by first | exact j2.trans (zcnt_t (by simp [c_27_4, c_37_5, c_42_7, c_55_9, c_74_11])) | exact j2.trans (zcnt_f (by simp [c_27_4, c_37_5, c_42_7, c_55_9, c_74_11]))) (lv_sub hl [3, 4, 5, 6, 7, 1, 0] rfl)
    exact loop_1 24 0 0 ls (by omega) (by rfl) (lv_sub hl [3, 4, 5, 6, 2, 1, 0] rfl)
  refine lv_aload_n hx hb dX7_answers_0 rfl (lv_at hl 0 rfl) ?_
  refine lv_iload_n hx hb dX7_answers_1 rfl (lv_at hl 1 rfl) ?_
  refine lv_iload_n hx hb dX7_answers_2 rfl (lv_at hl 3 rfl) ?_
  refine zcr (As := [.int t, .int (nI w)]) (rest := []) (q0 := 0) S (c_X7_truly l D ca o f0 f2 f3 f4 f5 f6 f7 f8 f9 f10 sf t w (by omega)) ml_X7_114 zy_X7_truly im_X7_truly se_X7_truly ⟨Nat.le_of_ble_eq_true rfl, Nat.le_of_ble_eq_true rfl⟩ hK hP [0, 1] rfl rfl rfl rfl rfl hl.1 rfl (Nat.le_of_ble_eq_true rfl) ⟨Nat.zero_le _, Nat.zero_le _⟩ dX7_answers_3 ?_
  have hzt := rTru_lt (sf := sf) (t := t) (w := w) (by omega)
  refine lv_iconst (v := 2) hx hb dX7_answers_6 (by decide) ?_
  refine zn_ne hx hb (x := rTru sf t w) (y := 2) (by omega) (by omega) (tgt := 14) dX7_answers_7 (by decide) (fun c_7_12 => ?_) (fun c_7_12 => ?_)
  · refine lv_iconst (v := 0) hx hb dX7_answers_14 (by decide) ?_
    exact W.eq (congrArg (fun z => F0 m 15 ls [.int z]) (by simp [zb, c_7_12] : (0 : Int32) = zb (decide (rTru sf t w = 2)))) cut_15_0
  · refine lv_iconst (v := 1) hx hb dX7_answers_10 (by decide) ?_
    refine lv_goto (tgt := 15) hx hb dX7_answers_11 (by decide) ?_
    exact W.eq (congrArg (fun z => F0 m 15 ls [.int z]) (by simp [zb, c_7_12] : (1 : Int32) = zb (decide (rTru sf t w = 2)))) cut_15_0
set_option maxHeartbeats 4000000 in
set_option maxRecDepth 100000 in
theorem c_X7_hasIn (l : Launch) (D : va_G) (ca : Nat → ClassId) (o : Nat → Nat) (f0 f2 f3 f4 f5 f6 f7 f8 f9 f10 : Value) (sf : Nat → Int32) (p0 : Nat) (hp : p0 < 6) (v : Int32) : zMr l yX7_hasIn cX7_hasIn 5 (some .boolean) 2 44 D ca [(o 0, .inr (7, [f0, .ref (o 1), f2, f3, f4, f5, f6, f7, f8, f9, f10])), (o 1, .inl (ca 0, 99, .inl sf))] [.ref (o 0), .int (nI p0), .int v] (.int (zb (rHas sf p0 v))) := by
  refine zMr_of (own := RX7) (by decide) rfl (Nat.le_of_ble_eq_true rfl) ?_
  intro p e s m args below meth c ls S hr hlk hP hK hl
  have hx := S.1
  have hb := S.2.1
  have hl : lv_has ls 5 [(0, .ref (o 0)), (1, .int (nI p0)), (2, .int v)] := hl
  refine lv_iconst (v := 0) hx hb dX7_hasIn_0 (by decide) ?_
  refine lv_istore_n (lv' := [(3, .int 0), (0, .ref (o 0)), (1, .int (nI p0)), (2, .int v)]) hx hb dX7_hasIn_1 rfl hl (by decide) rfl (fun ls hl => ?_)
  refine lv_iconst (v := 4) hx hb dX7_hasIn_2 (by decide) ?_
  refine lv_iload_n hx hb dX7_hasIn_3 rfl (lv_at hl 2 rfl) ?_
  refine zn_mul hx hb (x := 4) (y := p0) (z := 4 * p0) (by first | rfl | omega) dX7_hasIn_4 ?_
  refine lv_istore (lv' := [(4, .int (nI (4 * p0))), (3, .int 0), (0, .ref (o 0)), (1, .int (nI p0)), (2, .int v)]) hx hb dX7_hasIn_5 hl (by decide) rfl (fun ls hl => ?_)
  have loop_0 : ∀ (f : Nat) (k : Nat) (b : Bool) (ls : Array Slot), k + f = 4 * p0 + 4 → rHas sf p0 v = (b || zany (rHv sf v) f k) → lv_has ls 5 [(0, .ref (o 0)), (1, .int (nI p0)), (2, .int v), (3, .int (zb b)), (4, .int (nI k))] → W p l e { frames := 2, cells := 0, slots := 0, locals := 44 } s m args below meth c s.heap [] 0 0 (MQ below (zQr (.int (zb (rHas sf p0 v)))) args s 0 0 (fun _ => False)) (F0 m 7 ls []) := by
    intro f
    induction f with
    | zero =>
      intro k b ls j1 j2 hl
      refine lv_iload hx hb dX7_hasIn_7 (lv_at hl 4 rfl) ?_
      refine lv_iconst (v := 4) hx hb dX7_hasIn_9 (by decide) ?_
      refine lv_iload_n hx hb dX7_hasIn_10 rfl (lv_at hl 1 rfl) ?_
      refine zn_mul hx hb (x := 4) (y := p0) (z := 4 * p0) (by first | rfl | omega) dX7_hasIn_11 ?_
      refine lv_iconst (v := 4) hx hb dX7_hasIn_12 (by decide) ?_
      refine zn_add hx hb (x := 4 * p0) (y := 4) (z := (4 * p0) + 4) (by omega) dX7_hasIn_13 ?_
      refine zn_ge hx hb (x := k) (y := (4 * p0) + 4) (by omega) (by omega) (tgt := 43) dX7_hasIn_14 (by decide) (fun c_14_2 => ?_) (fun h => False.elim (by omega))
      refine lv_iload_n hx hb dX7_hasIn_43 rfl (lv_at hl 3 rfl) ?_
      exact zr_z hx hb hr hlk (by rw [j2]; simp [zany]) dX7_hasIn_44
    | succ f ih =>
      intro k b ls j1 j2 hl
      refine lv_iload hx hb dX7_hasIn_7 (lv_at hl 4 rfl) ?_
      refine lv_iconst (v := 4) hx hb dX7_hasIn_9 (by decide) ?_
      refine lv_iload_n hx hb dX7_hasIn_10 rfl (lv_at hl 1 rfl) ?_
      refine zn_mul hx hb (x := 4) (y := p0) (z := 4 * p0) (by first | rfl | omega) dX7_hasIn_11 ?_
      refine lv_iconst (v := 4) hx hb dX7_hasIn_12 (by decide) ?_
      refine zn_add hx hb (x := 4 * p0) (y := 4) (z := (4 * p0) + 4) (by omega) dX7_hasIn_13 ?_
      refine zn_ge hx hb (x := k) (y := (4 * p0) + 4) (by omega) (by omega) (tgt := 43) dX7_hasIn_14 (by decide) (fun h => False.elim (by omega)) (fun c_14_3 => ?_)
      refine lv_iload_n hx hb dX7_hasIn_17 rfl (lv_at hl 3 rfl) ?_
      refine zz_ne (tgt := 31) hx hb dX7_hasIn_18 (by decide) (fun c_18_4 => ?_) (fun c_18_4 => ?_)
      · refine lv_iconst (v := 1) hx hb dX7_hasIn_31 (by decide) ?_
        refine lv_goto (tgt := 36) hx hb dX7_hasIn_32 (by decide) ?_
        refine lv_istore_n (lv' := [(3, .int 1), (0, .ref (o 0)), (1, .int (nI p0)), (2, .int v), (4, .int (nI k))]) hx hb dX7_hasIn_36 rfl hl (by decide) rfl (fun ls hl => ?_)
        refine lv_iinc (v := nI (k + 1)) (lv' := [(4, .int (nI (k + 1))), (3, .int 1), (0, .ref (o 0)), (1, .int (nI p0)), (2, .int v)]) hx hb dX7_hasIn_37 hl (k := 4) rfl (zinc k 1) (by decide) rfl (fun ls hl => ?_)
        refine lv_goto (tgt := 7) hx hb dX7_hasIn_40 (by decide) ?_
        exact ih (k + 1) true ls (by omega) (by rw [j2]; simp [zany, c_14_3, c_18_4]) (lv_sub hl [2, 3, 4, 1, 0] rfl)
      · refine lv_aload_n hx hb dX7_hasIn_21 rfl (lv_at hl 0 rfl) ?_
        refine lv_iload hx hb dX7_hasIn_22 (lv_at hl 4 rfl) ?_
        refine lv_iload_n hx hb dX7_hasIn_24 rfl (lv_at hl 2 rfl) ?_
        refine zcr (As := [.int (nI k), .int v]) (rest := []) (q0 := 0) S (c_X7_hasValue l D ca o f0 f2 f3 f4 f5 f6 f7 f8 f9 f10 sf k (by omega) v) ml_X7_117 zy_X7_hasValue im_X7_hasValue se_X7_hasValue ⟨Nat.le_of_ble_eq_true rfl, Nat.le_of_ble_eq_true rfl⟩ hK hP [0, 1] rfl rfl rfl rfl rfl hl.1 rfl (Nat.le_of_ble_eq_true rfl) ⟨Nat.zero_le _, Nat.zero_le _⟩ dX7_hasIn_25 ?_
        refine zz_eq (tgt := 35) hx hb dX7_hasIn_28 (by decide) (fun c_28_5 => ?_) (fun c_28_5 => ?_)
        · refine lv_iconst (v := 0) hx hb dX7_hasIn_35 (by decide) ?_
          refine lv_istore_n (lv' := [(3, .int 0), (0, .ref (o 0)), (1, .int (nI p0)), (2, .int v), (4, .int (nI k))]) hx hb dX7_hasIn_36 rfl hl (by decide) rfl (fun ls hl => ?_)
          refine lv_iinc (v := nI (k + 1)) (lv' := [(4, .int (nI (k + 1))), (3, .int 0), (0, .ref (o 0)), (1, .int (nI p0)), (2, .int v)]) hx hb dX7_hasIn_37 hl (k := 4) rfl (zinc k 1) (by decide) rfl (fun ls hl => ?_)
          refine lv_goto (tgt := 7) hx hb dX7_hasIn_40 (by decide) ?_
          exact ih (k + 1) false ls (by omega) (by rw [j2]; simp [zany, c_14_3, c_18_4, c_28_5]) (lv_sub hl [2, 3, 4, 1, 0] rfl)
        · refine lv_iconst (v := 1) hx hb dX7_hasIn_31 (by decide) ?_
          refine lv_goto (tgt := 36) hx hb dX7_hasIn_32 (by decide) ?_
          refine lv_istore_n (lv' := [(3, .int 1), (0, .ref (o 0)), (1, .int (nI p0)), (2, .int v), (4, .int (nI k))]) hx hb dX7_hasIn_36 rfl hl (by decide) rfl (fun ls hl => ?_)
          refine lv_iinc (v := nI (k + 1)) (lv' := [(4, .int (nI (k + 1))), (3, .int 1), (0, .ref (o 0)), (1, .int (nI p0)), (2, .int v)]) hx hb dX7_hasIn_37 hl (k := 4) rfl (zinc k 1) (by decide) rfl (fun ls hl => ?_)
          refine lv_goto (tgt := 7) hx hb dX7_hasIn_40 (by decide) ?_
          exact ih (k + 1) true ls (by omega) (by rw [j2]; simp [zany, c_14_3, c_18_4, c_28_5]) (lv_sub hl [2, 3, 4, 1, 0] rfl)
  exact loop_0 4 (4 * p0) false ls (by omega) (by rfl) (lv_sub hl [2, 3, 4, 1, 0] rfl)
set_option maxHeartbeats 4000000 in
set_option maxRecDepth 100000 in
theorem c_X7_costs (l : Launch) (D : va_G) (ca : Nat → ClassId) (o : Nat → Nat) (f0 f2 f3 f4 f5 f6 f7 f8 f9 f10 : Value) (sf : Nat → Int32) (t v : Int32) (w : Nat) (hw : w < 3) : zMr l yX7_costs cX7_costs 8 (some .int) 3 68 D ca [(o 0, .inr (7, [f0, .ref (o 1), f2, f3, f4, f5, f6, f7, f8, f9, f10])), (o 1, .inl (ca 0, 99, .inl sf))] [.ref (o 0), .int t, .int v, .int (nI w)] (.int (rCost sf t v w)) := by
  refine zMr_of (own := RX7) (by decide) rfl (Nat.le_of_ble_eq_true rfl) ?_
  intro p e s m args below meth c ls S hr hlk hP hK hl
  have hx := S.1
  have hb := S.2.1
  have hl : lv_has ls 8 [(0, .ref (o 0)), (1, .int t), (2, .int v), (3, .int (nI w))] := hl
  refine lv_aload_n hx hb dX7_costs_0 rfl (lv_at hl 0 rfl) ?_
  refine lv_iload_n hx hb dX7_costs_1 rfl (lv_at hl 1 rfl) ?_
  refine lv_iload_n hx hb dX7_costs_2 rfl (lv_at hl 3 rfl) ?_
  refine zcr (As := [.int t, .int (nI w)]) (rest := []) (q0 := 0) S (c_X7_truly l D ca o f0 f2 f3 f4 f5 f6 f7 f8 f9 f10 sf t w (by omega)) ml_X7_114 zy_X7_truly im_X7_truly se_X7_truly ⟨Nat.le_of_ble_eq_true rfl, Nat.le_of_ble_eq_true rfl⟩ hK hP [0, 1] rfl rfl rfl rfl rfl hl.1 rfl (Nat.le_of_ble_eq_true rfl) ⟨Nat.zero_le _, Nat.zero_le _⟩ dX7_costs_3 ?_
  have hzt := rTru_lt (sf := sf) (t := t) (w := w) (by omega)
  refine lv_istore (lv' := [(4, .int (nI (rTru sf t w))), (0, .ref (o 0)), (1, .int t), (2, .int v), (3, .int (nI w))]) hx hb dX7_costs_6 hl (by decide) rfl (fun ls hl => ?_)
  refine lv_iconst (v := 0) hx hb dX7_costs_8 (by decide) ?_
  refine lv_istore (lv' := [(5, .int 0), (4, .int (nI (rTru sf t w))), (0, .ref (o 0)), (1, .int t), (2, .int v), (3, .int (nI w))]) hx hb dX7_costs_9 hl (by decide) rfl (fun ls hl => ?_)
  refine lv_iconst (v := 0) hx hb dX7_costs_11 (by decide) ?_
  refine lv_istore (lv' := [(6, .int 0), (5, .int 0), (4, .int (nI (rTru sf t w))), (0, .ref (o 0)), (1, .int t), (2, .int v), (3, .int (nI w))]) hx hb dX7_costs_12 hl (by decide) rfl (fun ls hl => ?_)
  have loop_0 : ∀ (f : Nat) (k : Nat) (x : Int32) (ls : Array Slot), k + f = 6 → zcnt (fun p => decide (rTru sf t w = 0) || (rHas sf p v && (decide (rTru sf t w = 1) || decide (rPg sf p 0 = 0)))) 6 0 0 = zcnt (fun p => decide (rTru sf t w = 0) || (rHas sf p v && (decide (rTru sf t w = 1) || decide (rPg sf p 0 = 0)))) f k x → lv_has ls 8 [(0, .ref (o 0)), (1, .int t), (2, .int v), (3, .int (nI w)), (4, .int (nI (rTru sf t w))), (5, .int x), (6, .int (nI k))] → W p l e { frames := 3, cells := 0, slots := 0, locals := 68 } s m args below meth c s.heap [] 0 0 (MQ below (zQr (.int (rCost sf t v w))) args s 0 0 (fun _ => False)) (F0 m 14 ls []) := by
    intro f
    induction f with
    | zero =>
      intro k x ls j1 j2 hl
      refine lv_iload hx hb dX7_costs_14 (lv_at hl 6 rfl) ?_
      refine lv_bipush (v := 6) hx hb dX7_costs_16 (by decide) ?_
      refine zn_ge hx hb (x := k) (y := 6) (by omega) (by omega) (tgt := 80) dX7_costs_18 (by decide) (fun c_18_2 => ?_) (fun h => False.elim (by omega))
      refine lv_iload hx hb dX7_costs_80 (lv_at hl 5 rfl) ?_
      exact zr_i hx hb hr hlk (by exact j2.symm) dX7_costs_82
    | succ f ih =>
      intro k x ls j1 j2 hl
      refine lv_iload hx hb dX7_costs_14 (lv_at hl 6 rfl) ?_
      refine lv_bipush (v := 6) hx hb dX7_costs_16 (by decide) ?_
      refine zn_ge hx hb (x := k) (y := 6) (by omega) (by omega) (tgt := 80) dX7_costs_18 (by decide) (fun h => False.elim (by omega)) (fun c_18_3 => ?_)
      refine lv_iload hx hb dX7_costs_21 (lv_at hl 4 rfl) ?_
      refine zn_eq0 hx hb (x := rTru sf t w) (by omega) (tgt := 52) dX7_costs_23 (by decide) (fun c_23_4 => ?_) (fun c_23_4 => ?_)
      · refine lv_iconst (v := 1) hx hb dX7_costs_52 (by decide) ?_
        refine lv_goto (tgt := 57) hx hb dX7_costs_53 (by decide) ?_
        refine lv_istore (lv' := [(7, .int 1), (0, .ref (o 0)), (1, .int t), (2, .int v), (3, .int (nI w)), (4, .int (nI (rTru sf t w))), (5, .int x), (6, .int (nI k))]) hx hb dX7_costs_57 hl (by decide) rfl (fun ls hl => ?_)
        refine lv_iload hx hb dX7_costs_59 (lv_at hl 6 rfl) ?_
        refine lv_iload hx hb dX7_costs_61 (lv_at hl 0 rfl) ?_
        refine lv_if_eq (tgt := 70) hx hb dX7_costs_63 (by decide) (fun h => absurd h (by decide)) (fun _ => ?_)
        refine lv_iconst (v := 1) hx hb dX7_costs_66 (by decide) ?_
        refine lv_goto (tgt := 71) hx hb dX7_costs_67 (by decide) ?_
        refine lv_iadd hx hb dX7_costs_71 ?_
        refine lv_istore (lv' := [(5, .int (x + 1)), (7, .int 1), (0, .ref (o 0)), (1, .int t), (2, .int v), (3, .int (nI w)), (4, .int (nI (rTru sf t w))), (6, .int (nI k))]) hx hb dX7_costs_72 hl (by decide) rfl (fun ls hl => ?_)
        refine lv_iinc (v := nI (k + 1)) (lv' := [(6, .int (nI (k + 1))), (5, .int (x + 1)), (7, .int 1), (0, .ref (o 0)), (1, .int t), (2, .int v), (3, .int (nI w)), (4, .int (nI (rTru sf t w)))]) hx hb dX7_costs_74 hl (k := 7) rfl (zinc k 1) (by decide) rfl (fun ls hl => ?_)
        refine lv_goto (tgt := 14) hx hb dX7_costs_77 (by decide) ?_
        exact ih (k + 1) (x + 1) ls (by omega) (by first | exact j2.trans (zcnt_t (by simp [c_18_3, c_23_4])) | exact j2.trans (zcnt_f (by simp [c_18_3, c_23_4]))) (lv_sub hl [3, 4, 5, 6, 7, 1, 0] rfl)
      · refine lv_aload_n hx hb dX7_costs_26 rfl (lv_at hl 0 rfl) ?_
        refine lv_iload hx hb dX7_costs_27 (lv_at hl 6 rfl) ?_
        refine lv_iload_n hx hb dX7_costs_29 rfl (lv_at hl 2 rfl) ?_
        refine zcr (As := [.int (nI k), .int v]) (rest := []) (q0 := 0) S (c_X7_hasIn l D ca o f0 f2 f3 f4 f5 f6 f7 f8 f9 f10 sf k (by omega) v) ml_X7_120 zy_X7_hasIn im_X7_hasIn se_X7_hasIn ⟨Nat.le_of_ble_eq_true rfl, Nat.le_of_ble_eq_true rfl⟩ hK hP [0, 1] rfl rfl rfl rfl rfl hl.1 rfl (Nat.le_of_ble_eq_true rfl) ⟨Nat.zero_le _, Nat.zero_le _⟩ dX7_costs_30 ?_
        refine zz_eq (tgt := 56) hx hb dX7_costs_33 (by decide) (fun c_33_5 => ?_) (fun c_33_5 => ?_)
        · refine lv_iconst (v := 0) hx hb dX7_costs_56 (by decide) ?_
          refine lv_istore (lv' := [(7, .int 0), (0, .ref (o 0)), (1, .int t), (2, .int v), (3, .int (nI w)), (4, .int (nI (rTru sf t w))), (5, .int x), (6, .int (nI k))]) hx hb dX7_costs_57 hl (by decide) rfl (fun ls hl => ?_)
          refine lv_iload hx hb dX7_costs_59 (lv_at hl 6 rfl) ?_
          refine lv_iload hx hb dX7_costs_61 (lv_at hl 0 rfl) ?_
          refine lv_if_eq (tgt := 70) hx hb dX7_costs_63 (by decide) (fun _ => ?_) (fun h => absurd (by decide) h)
          refine lv_iconst (v := 0) hx hb dX7_costs_70 (by decide) ?_
          refine t_iadd hx hb dX7_costs_71 (v := x) (Int32.add_zero _) ?_
          refine lv_istore (lv' := [(5, .int x), (7, .int 0), (0, .ref (o 0)), (1, .int t), (2, .int v), (3, .int (nI w)), (4, .int (nI (rTru sf t w))), (6, .int (nI k))]) hx hb dX7_costs_72 hl (by decide) rfl (fun ls hl => ?_)
          refine lv_iinc (v := nI (k + 1)) (lv' := [(6, .int (nI (k + 1))), (5, .int x), (7, .int 0), (0, .ref (o 0)), (1, .int t), (2, .int v), (3, .int (nI w)), (4, .int (nI (rTru sf t w)))]) hx hb dX7_costs_74 hl (k := 7) rfl (zinc k 1) (by decide) rfl (fun ls hl => ?_)
          refine lv_goto (tgt := 14) hx hb dX7_costs_77 (by decide) ?_
          exact ih (k + 1) x ls (by omega) (by first | exact j2.trans (zcnt_t (by simp [c_18_3, c_23_4, c_33_5])) | exact j2.trans (zcnt_f (by simp [c_18_3, c_23_4, c_33_5]))) (lv_sub hl [3, 4, 5, 6, 7, 1, 0] rfl)
        · refine lv_iload hx hb dX7_costs_36 (lv_at hl 4 rfl) ?_
          refine lv_iconst (v := 1) hx hb dX7_costs_38 (by decide) ?_
          refine zn_eq hx hb (x := rTru sf t w) (y := 1) (by omega) (by omega) (tgt := 52) dX7_costs_39 (by decide) (fun c_39_6 => ?_) (fun c_39_6 => ?_)
          · refine lv_iconst (v := 1) hx hb dX7_costs_52 (by decide) ?_
            refine lv_goto (tgt := 57) hx hb dX7_costs_53 (by decide) ?_
            refine lv_istore (lv' := [(7, .int 1), (0, .ref (o 0)), (1, .int t), (2, .int v), (3, .int (nI w)), (4, .int (nI (rTru sf t w))), (5, .int x), (6, .int (nI k))]) hx hb dX7_costs_57 hl (by decide) rfl (fun ls hl => ?_)
            refine lv_iload hx hb dX7_costs_59 (lv_at hl 6 rfl) ?_
            refine lv_iload hx hb dX7_costs_61 (lv_at hl 0 rfl) ?_
            refine lv_if_eq (tgt := 70) hx hb dX7_costs_63 (by decide) (fun h => absurd h (by decide)) (fun _ => ?_)
            refine lv_iconst (v := 1) hx hb dX7_costs_66 (by decide) ?_
            refine lv_goto (tgt := 71) hx hb dX7_costs_67 (by decide) ?_
            refine lv_iadd hx hb dX7_costs_71 ?_
            refine lv_istore (lv' := [(5, .int (x + 1)), (7, .int 1), (0, .ref (o 0)), (1, .int t), (2, .int v), (3, .int (nI w)), (4, .int (nI (rTru sf t w))), (6, .int (nI k))]) hx hb dX7_costs_72 hl (by decide) rfl (fun ls hl => ?_)
            refine lv_iinc (v := nI (k + 1)) (lv' := [(6, .int (nI (k + 1))), (5, .int (x + 1)), (7, .int 1), (0, .ref (o 0)), (1, .int t), (2, .int v), (3, .int (nI w)), (4, .int (nI (rTru sf t w)))]) hx hb dX7_costs_74 hl (k := 7) rfl (zinc k 1) (by decide) rfl (fun ls hl => ?_)
            refine lv_goto (tgt := 14) hx hb dX7_costs_77 (by decide) ?_
            exact ih (k + 1) (x + 1) ls (by omega) (by first | exact j2.trans (zcnt_t (by simp [c_18_3, c_23_4, c_33_5, c_39_6])) | exact j2.trans (zcnt_f (by simp [c_18_3, c_23_4, c_33_5, c_39_6]))) (lv_sub hl [3, 4, 5, 6, 7, 1, 0] rfl)
          · refine lv_aload_n hx hb dX7_costs_42 rfl (lv_at hl 0 rfl) ?_
            refine lv_iload hx hb dX7_costs_43 (lv_at hl 6 rfl) ?_
            refine lv_iconst (v := 0) hx hb dX7_costs_45 (by decide) ?_
            refine zcr (As := [.int (nI k), .int 0]) (rest := []) (q0 := 0) S (c_X7_ofPage l D ca o f0 f2 f3 f4 f5 f6 f7 f8 f9 f10 sf k 0 (by omega) (by omega)) ml_X7_105 zy_X7_ofPage im_X7_ofPage se_X7_ofPage ⟨Nat.le_of_ble_eq_true rfl, Nat.le_of_ble_eq_true rfl⟩ hK hP [0, 1] rfl rfl rfl rfl rfl hl.1 rfl (Nat.le_of_ble_eq_true rfl) ⟨Nat.zero_le _, Nat.zero_le _⟩ dX7_costs_46 ?_
            refine lv_if_ne (tgt := 56) hx hb dX7_costs_49 (by decide) (fun c_49_7 => ?_) (fun c_49_7 => ?_)
            · refine lv_iconst (v := 0) hx hb dX7_costs_56 (by decide) ?_
              refine lv_istore (lv' := [(7, .int 0), (0, .ref (o 0)), (1, .int t), (2, .int v), (3, .int (nI w)), (4, .int (nI (rTru sf t w))), (5, .int x), (6, .int (nI k))]) hx hb dX7_costs_57 hl (by decide) rfl (fun ls hl => ?_)
              refine lv_iload hx hb dX7_costs_59 (lv_at hl 6 rfl) ?_
              refine lv_iload hx hb dX7_costs_61 (lv_at hl 0 rfl) ?_
              refine lv_if_eq (tgt := 70) hx hb dX7_costs_63 (by decide) (fun _ => ?_) (fun h => absurd (by decide) h)
              refine lv_iconst (v := 0) hx hb dX7_costs_70 (by decide) ?_
              refine t_iadd hx hb dX7_costs_71 (v := x) (Int32.add_zero _) ?_
              refine lv_istore (lv' := [(5, .int x), (7, .int 0), (0, .ref (o 0)), (1, .int t), (2, .int v), (3, .int (nI w)), (4, .int (nI (rTru sf t w))), (6, .int (nI k))]) hx hb dX7_costs_72 hl (by decide) rfl (fun ls hl => ?_)
              refine lv_iinc (v := nI (k + 1)) (lv' := [(6, .int (nI (k + 1))), (5, .int x), (7, .int 0), (0, .ref (o 0)), (1, .int t), (2, .int v), (3, .int (nI w)), (4, .int (nI (rTru sf t w)))]) hx hb dX7_costs_74 hl (k := 7) rfl (zinc k 1) (by decide) rfl (fun ls hl => ?_)
              refine lv_goto (tgt := 14) hx hb dX7_costs_77 (by decide) ?_
              exact ih (k + 1) x ls (by omega) (by first | exact j2.trans (zcnt_t (by simp [c_18_3, c_23_4, c_33_5, c_39_6, c_49_7])) | exact j2.trans (zcnt_f (by simp [c_18_3, c_23_4, c_33_5, c_39_6, c_49_7]))) (lv_sub hl [3, 4, 5, 6, 7, 1, 0] rfl)
            · refine lv_iconst (v := 1) hx hb dX7_costs_52 (by decide) ?_
              refine lv_goto (tgt := 57) hx hb dX7_costs_53 (by decide) ?_
              refine lv_istore (lv' := [(7, .int 1), (0, .ref (o 0)), (1, .int t), (2, .int v), (3, .int (nI w)), (4, .int (nI (rTru sf t w))), (5, .int x), (6, .int (nI k))]) hx hb dX7_costs_57 hl (by decide) rfl (fun ls hl => ?_)
              refine lv_iload hx hb dX7_costs_59 (lv_at hl 6 rfl) ?_
              refine lv_iload hx hb dX7_costs_61 (lv_at hl 0 rfl) ?_
              refine lv_if_eq (tgt := 70) hx hb dX7_costs_63 (by decide) (fun h => absurd h (by decide)) (fun _ => ?_)
              refine lv_iconst (v := 1) hx hb dX7_costs_66 (by decide) ?_
              refine lv_goto (tgt := 71) hx hb dX7_costs_67 (by decide) ?_
              refine lv_iadd hx hb dX7_costs_71 ?_
              refine lv_istore (lv' := [(5, .int (x + 1)), (7, .int 1), (0, .ref (o 0)), (1, .int t), (2, .int v), (3, .int (nI w)), (4, .int (nI (rTru sf t w))), (6, .int (nI k))]) hx hb dX7_costs_72 hl (by decide) rfl (fun ls hl => ?_)
              refine lv_iinc (v := nI (k + 1)) (lv' := [(6, .int (nI (k + 1))), (5, .int (x + 1)), (7, .int 1), (0, .ref (o 0)), (1, .int t), (2, .int v), (3, .int (nI w)), (4, .int (nI (rTru sf t w)))]) hx hb dX7_costs_74 hl (k := 7) rfl (zinc k 1) (by decide) rfl (fun ls hl => ?_)
              refine lv_goto (tgt := 14) hx hb dX7_costs_77 (by decide) ?_
              exact ih (k + 1) (x + 1) ls (by omega) (by first | exact j2.trans (zcnt_t (by simp [c_18_3, c_23_4, c_33_5, c_39_6, c_49_7])) | exact j2.trans (zcnt_f (by simp [c_18_3, c_23_4, c_33_5, c_39_6, c_49_7]))) (lv_sub hl [3, 4, 5, 6, 7, 1, 0] rfl)
  exact loop_0 6 0 0 ls (by omega) (by rfl) (lv_sub hl [3, 4, 5, 6, 2, 1, 0] rfl)
set_option maxHeartbeats 4000000 in
set_option maxRecDepth 100000 in
theorem c_X7_versions (l : Launch) (D : va_G) (ca : Nat → ClassId) (o : Nat → Nat) (f0 f2 f3 f4 f5 f6 f7 f8 f9 f10 : Value) (sf : Nat → Int32) (i n : Nat) (hi : i + n ≤ 24) (b : Bool) (t : Int32) : zMr l yX7_versions cX7_versions 7 (some .int) 3 66 D ca [(o 0, .inr (7, [f0, .ref (o 1), f2, f3, f4, f5, f6, f7, f8, f9, f10])), (o 1, .inl (ca 0, 99, .inl sf))] [.ref (o 0), .int (nI i), .int (nI (i + n)), .int (zb b), .int t] (.int (rVs sf n i b t)) := by
  refine zMr_of (own := RX7) (by decide) rfl (Nat.le_of_ble_eq_true rfl) ?_
  intro p e s m args below meth c ls S hr hlk hP hK hl
  have hx := S.1
  have hb := S.2.1
  have hl : lv_has ls 7 [(0, .ref (o 0)), (1, .int (nI i)), (2, .int (nI (i + n))), (3, .int (zb b)), (4, .int t)] := hl
  refine lv_iconst (v := 0) hx hb dX7_versions_0 (by decide) ?_
  refine lv_istore (lv' := [(5, .int 0), (0, .ref (o 0)), (1, .int (nI i)), (2, .int (nI (i + n))), (3, .int (zb b)), (4, .int t)]) hx hb dX7_versions_1 hl (by decide) rfl (fun ls hl => ?_)
  refine lv_iload_n hx hb dX7_versions_3 rfl (lv_at hl 2 rfl) ?_
  refine lv_istore (lv' := [(6, .int (nI i)), (5, .int 0), (0, .ref (o 0)), (1, .int (nI i)), (2, .int (nI (i + n))), (3, .int (zb b)), (4, .int t)]) hx hb dX7_versions_4 hl (by decide) rfl (fun ls hl => ?_)
  have loop_0 : ∀ (f : Nat) (k : Nat) (x : Int32) (ls : Array Slot), k + f = i + n → zcnt (fun k => if b then rSeen sf k t else rFull sf k) n i 0 = zcnt (fun k => if b then rSeen sf k t else rFull sf k) f k x → lv_has ls 7 [(0, .ref (o 0)), (1, .int (nI i)), (2, .int (nI (i + n))), (3, .int (zb b)), (4, .int t), (5, .int x), (6, .int (nI k))] → W p l e { frames := 3, cells := 0, slots := 0, locals := 66 } s m args below meth c s.heap [] 0 0 (MQ below (zQr (.int (rVs sf n i b t))) args s 0 0 (fun _ => False)) (F0 m 6 ls []) := by
    intro f
    induction f with
    | zero =>
      intro k x ls j1 j2 hl
      refine lv_iload hx hb dX7_versions_6 (lv_at hl 6 rfl) ?_
      refine lv_iload_n hx hb dX7_versions_8 rfl (lv_at hl 2 rfl) ?_
      refine zn_ge hx hb (x := k) (y := i + n) (by omega) (by omega) (tgt := 60) dX7_versions_9 (by decide) (fun c_9_2 => ?_) (fun h => False.elim (by omega))
      refine lv_iload hx hb dX7_versions_60 (lv_at hl 5 rfl) ?_
      exact zr_i hx hb hr hlk (by exact j2.symm) dX7_versions_62
    | succ f ih =>
      intro k x ls j1 j2 hl
      refine lv_iload hx hb dX7_versions_6 (lv_at hl 6 rfl) ?_
      refine lv_iload_n hx hb dX7_versions_8 rfl (lv_at hl 2 rfl) ?_
      refine zn_ge hx hb (x := k) (y := i + n) (by omega) (by omega) (tgt := 60) dX7_versions_9 (by decide) (fun h => False.elim (by omega)) (fun c_9_3 => ?_)
      refine lv_iload hx hb dX7_versions_12 (lv_at hl 5 rfl) ?_
      refine lv_iload_n hx hb dX7_versions_14 rfl (lv_at hl 3 rfl) ?_
      refine zz_eq (tgt := 37) hx hb dX7_versions_15 (by decide) (fun c_15_4 => ?_) (fun c_15_4 => ?_)
      · refine lv_aload_n hx hb dX7_versions_37 rfl (lv_at hl 0 rfl) ?_
        refine lv_iload hx hb dX7_versions_38 (lv_at hl 6 rfl) ?_
        refine zcr (As := [.int (nI k)]) (rest := [.int x]) (q0 := 0) S (c_X7_isFull l D ca o f0 f2 f3 f4 f5 f6 f7 f8 f9 f10 sf k (by omega)) ml_X7_37 zy_X7_isFull im_X7_isFull se_X7_isFull ⟨Nat.le_of_ble_eq_true rfl, Nat.le_of_ble_eq_true rfl⟩ hK hP [0, 1] rfl rfl rfl rfl rfl hl.1 rfl (Nat.le_of_ble_eq_true rfl) ⟨Nat.zero_le _, Nat.zero_le _⟩ dX7_versions_40 ?_
        refine zz_eq (tgt := 50) hx hb dX7_versions_43 (by decide) (fun c_43_5 => ?_) (fun c_43_5 => ?_)
        · refine lv_iconst (v := 0) hx hb dX7_versions_50 (by decide) ?_
          refine t_iadd hx hb dX7_versions_51 (v := x) (Int32.add_zero _) ?_
          refine lv_istore (lv' := [(5, .int x), (0, .ref (o 0)), (1, .int (nI i)), (2, .int (nI (i + n))), (3, .int (zb b)), (4, .int t), (6, .int (nI k))]) hx hb dX7_versions_52 hl (by decide) rfl (fun ls hl => ?_)
          refine lv_iinc (v := nI (k + 1)) (lv' := [(6, .int (nI (k + 1))), (5, .int x), (0, .ref (o 0)), (1, .int (nI i)), (2, .int (nI (i + n))), (3, .int (zb b)), (4, .int t)]) hx hb dX7_versions_54 hl (k := 6) rfl (zinc k 1) (by decide) rfl (fun ls hl => ?_)
          refine lv_goto (tgt := 6) hx hb dX7_versions_57 (by decide) ?_
          exact ih (k + 1) x ls (by omega) (by first | exact j2.trans (zcnt_t (by simp [c_9_3, c_15_4, c_43_5])) | exact j2.trans (zcnt_f (by simp [c_9_3, c_15_4, c_43_5]))) (lv_sub hl [2, 3, 4, 5, 6, 1, 0] rfl)
        · refine lv_iconst (v := 1) hx hb dX7_versions_46 (by decide) ?_
          refine lv_goto (tgt := 51) hx hb dX7_versions_47 (by decide) ?_
          refine lv_iadd hx hb dX7_versions_51 ?_
          refine lv_istore (lv' := [(5, .int (x + 1)), (0, .ref (o 0)), (1, .int (nI i)), (2, .int (nI (i + n))), (3, .int (zb b)), (4, .int t), (6, .int (nI k))]) hx hb dX7_versions_52 hl (by decide) rfl (fun ls hl => ?_)
          refine lv_iinc (v := nI (k + 1)) (lv' := [(6, .int (nI (k + 1))), (5, .int (x + 1)), (0, .ref (o 0)), (1, .int (nI i)), (2, .int (nI (i + n))), (3, .int (zb b)), (4, .int t)]) hx hb dX7_versions_54 hl (k := 6) rfl (zinc k 1) (by decide) rfl (fun ls hl => ?_)
          refine lv_goto (tgt := 6) hx hb dX7_versions_57 (by decide) ?_
          exact ih (k + 1) (x + 1) ls (by omega) (by first | exact j2.trans (zcnt_t (by simp [c_9_3, c_15_4, c_43_5])) | exact j2.trans (zcnt_f (by simp [c_9_3, c_15_4, c_43_5]))) (lv_sub hl [2, 3, 4, 5, 6, 1, 0] rfl)
      · refine lv_aload_n hx hb dX7_versions_18 rfl (lv_at hl 0 rfl) ?_
        refine lv_iload hx hb dX7_versions_19 (lv_at hl 6 rfl) ?_
        refine lv_iload hx hb dX7_versions_21 (lv_at hl 4 rfl) ?_
        refine zcr (As := [.int (nI k), .int t]) (rest := [.int x]) (q0 := 0) S (c_X7_isSeen l D ca o f0 f2 f3 f4 f5 f6 f7 f8 f9 f10 sf k (by omega) t) ml_X7_63 zy_X7_isSeen im_X7_isSeen se_X7_isSeen ⟨Nat.le_of_ble_eq_true rfl, Nat.le_of_ble_eq_true rfl⟩ hK hP [0, 1] rfl rfl rfl rfl rfl hl.1 rfl (Nat.le_of_ble_eq_true rfl) ⟨Nat.zero_le _, Nat.zero_le _⟩ dX7_versions_23 ?_
        refine zz_eq (tgt := 33) hx hb dX7_versions_26 (by decide) (fun c_26_6 => ?_) (fun c_26_6 => ?_)
        · refine lv_iconst (v := 0) hx hb dX7_versions_33 (by decide) ?_
          refine lv_goto (tgt := 51) hx hb dX7_versions_34 (by decide) ?_
          refine t_iadd hx hb dX7_versions_51 (v := x) (Int32.add_zero _) ?_
          refine lv_istore (lv' := [(5, .int x), (0, .ref (o 0)), (1, .int (nI i)), (2, .int (nI (i + n))), (3, .int (zb b)), (4, .int t), (6, .int (nI k))]) hx hb dX7_versions_52 hl (by decide) rfl (fun ls hl => ?_)
          refine lv_iinc (v := nI (k + 1)) (lv' := [(6, .int (nI (k + 1))), (5, .int x), (0, .ref (o 0)), (1, .int (nI i)), (2, .int (nI (i + n))), (3, .int (zb b)), (4, .int t)]) hx hb dX7_versions_54 hl (k := 6) rfl (zinc k 1) (by decide) rfl (fun ls hl => ?_)
          refine lv_goto (tgt := 6) hx hb dX7_versions_57 (by decide) ?_
          exact ih (k + 1) x ls (by omega) (by first | exact j2.trans (zcnt_t (by simp [c_9_3, c_15_4, c_26_6])) | exact j2.trans (zcnt_f (by simp [c_9_3, c_15_4, c_26_6]))) (lv_sub hl [2, 3, 4, 5, 6, 1, 0] rfl)
        · refine lv_iconst (v := 1) hx hb dX7_versions_29 (by decide) ?_
          refine lv_goto (tgt := 51) hx hb dX7_versions_30 (by decide) ?_
          refine lv_iadd hx hb dX7_versions_51 ?_
          refine lv_istore (lv' := [(5, .int (x + 1)), (0, .ref (o 0)), (1, .int (nI i)), (2, .int (nI (i + n))), (3, .int (zb b)), (4, .int t), (6, .int (nI k))]) hx hb dX7_versions_52 hl (by decide) rfl (fun ls hl => ?_)
          refine lv_iinc (v := nI (k + 1)) (lv' := [(6, .int (nI (k + 1))), (5, .int (x + 1)), (0, .ref (o 0)), (1, .int (nI i)), (2, .int (nI (i + n))), (3, .int (zb b)), (4, .int t)]) hx hb dX7_versions_54 hl (k := 6) rfl (zinc k 1) (by decide) rfl (fun ls hl => ?_)
          refine lv_goto (tgt := 6) hx hb dX7_versions_57 (by decide) ?_
          exact ih (k + 1) (x + 1) ls (by omega) (by first | exact j2.trans (zcnt_t (by simp [c_9_3, c_15_4, c_26_6])) | exact j2.trans (zcnt_f (by simp [c_9_3, c_15_4, c_26_6]))) (lv_sub hl [2, 3, 4, 5, 6, 1, 0] rfl)
  exact loop_0 n i 0 ls (by omega) (by rfl) (lv_sub hl [2, 3, 4, 5, 6, 1, 0] rfl)
set_option maxHeartbeats 4000000 in
set_option maxRecDepth 100000 in
theorem c_X7_tellsSlot (l : Launch) (D : va_G) (ca : Nat → ClassId) (o : Nat → Nat) (f0 f2 f3 f4 f5 f6 f7 f8 f9 f10 : Value) (sf : Nat → Int32) (k w : Nat) (hk : k < 24) (hw : w < 4) : zMr l yX7_tellsSlot cX7_tellsSlot 3 (some .int) 3 66 D ca [(o 0, .inr (7, [f0, .ref (o 1), f2, f3, f4, f5, f6, f7, f8, f9, f10])), (o 1, .inl (ca 0, 99, .inl sf))] [.ref (o 0), .int (nI k), .int (nI w)] (.int (rTs sf k w)) := by
  refine zMr_of (own := RX7) (by decide) rfl (Nat.le_of_ble_eq_true rfl) ?_
  intro p e s m args below meth c ls S hr hlk hP hK hl
  have hx := S.1
  have hb := S.2.1
  have hl : lv_has ls 3 [(0, .ref (o 0)), (1, .int (nI k)), (2, .int (nI w))] := hl
  refine lv_iload_n hx hb dX7_tellsSlot_0 rfl (lv_at hl 2 rfl) ?_
  by_cases w_1_1 : w = 0
  · refine z_tabIn hx hb (x := w) (k := 0) w_1_1 (by decide) dX7_tellsSlot_1 (by decide) (by decide) rfl (by decide) ?_ (tgt := 28)
    refine lv_aload_n hx hb dX7_tellsSlot_28 rfl (lv_at hl 0 rfl) ?_
    refine lv_iload_n hx hb dX7_tellsSlot_29 rfl (lv_at hl 1 rfl) ?_
    refine lv_iconst (v := 0) hx hb dX7_tellsSlot_30 (by decide) ?_
    refine zcr (As := [.int (nI k), .int 0]) (rest := []) (q0 := 0) S (c_X7_of l D ca o f0 f2 f3 f4 f5 f6 f7 f8 f9 f10 sf k 0 (by omega) (by omega)) ml_X7_33 zy_X7_of im_X7_of se_X7_of ⟨Nat.le_of_ble_eq_true rfl, Nat.le_of_ble_eq_true rfl⟩ hK hP [0, 1] rfl rfl rfl rfl rfl hl.1 rfl (Nat.le_of_ble_eq_true rfl) ⟨Nat.zero_le _, Nat.zero_le _⟩ dX7_tellsSlot_31 ?_
    refine lv_iconst (v := 1) hx hb dX7_tellsSlot_34 (by decide) ?_
    refine lv_isub hx hb dX7_tellsSlot_35 ?_
    exact zr_i hx hb hr hlk (by simp [rTs, zb, w_1_1]) dX7_tellsSlot_36
  by_cases w_1_2 : w = 1
  · refine z_tabIn hx hb (x := w) (k := 1) w_1_2 (by decide) dX7_tellsSlot_1 (by decide) (by decide) rfl (by decide) ?_ (tgt := 37)
    refine lv_aload_n hx hb dX7_tellsSlot_37 rfl (lv_at hl 0 rfl) ?_
    refine lv_iload_n hx hb dX7_tellsSlot_38 rfl (lv_at hl 1 rfl) ?_
    refine zcr (As := [.int (nI k)]) (rest := []) (q0 := 0) S (c_X7_isFull l D ca o f0 f2 f3 f4 f5 f6 f7 f8 f9 f10 sf k (by omega)) ml_X7_37 zy_X7_isFull im_X7_isFull se_X7_isFull ⟨Nat.le_of_ble_eq_true rfl, Nat.le_of_ble_eq_true rfl⟩ hK hP [0, 1] rfl rfl rfl rfl rfl hl.1 rfl (Nat.le_of_ble_eq_true rfl) ⟨Nat.zero_le _, Nat.zero_le _⟩ dX7_tellsSlot_39 ?_
    refine zz_eq (tgt := 54) hx hb dX7_tellsSlot_42 (by decide) (fun c_42_3 => ?_) (fun c_42_3 => ?_)
    · refine lv_iconst (v := (-1)) hx hb dX7_tellsSlot_54 (by decide) ?_
      exact zr_i hx hb hr hlk (by simp [rTs, zb, w_1_1, w_1_2, c_42_3]) dX7_tellsSlot_55
    · refine lv_aload_n hx hb dX7_tellsSlot_45 rfl (lv_at hl 0 rfl) ?_
      refine lv_iload_n hx hb dX7_tellsSlot_46 rfl (lv_at hl 1 rfl) ?_
      refine lv_iload_n hx hb dX7_tellsSlot_47 rfl (lv_at hl 2 rfl) ?_
      refine zcr (As := [.int (nI k), .int (nI w)]) (rest := []) (q0 := 0) S (c_X7_of l D ca o f0 f2 f3 f4 f5 f6 f7 f8 f9 f10 sf k w (by omega) (by omega)) ml_X7_33 zy_X7_of im_X7_of se_X7_of ⟨Nat.le_of_ble_eq_true rfl, Nat.le_of_ble_eq_true rfl⟩ hK hP [0, 1] rfl rfl rfl rfl rfl hl.1 rfl (Nat.le_of_ble_eq_true rfl) ⟨Nat.zero_le _, Nat.zero_le _⟩ dX7_tellsSlot_48 ?_
      refine lv_goto (tgt := 55) hx hb dX7_tellsSlot_51 (by decide) ?_
      exact zr_i hx hb hr hlk (by simp [rTs, zb, w_1_1, w_1_2, c_42_3]) dX7_tellsSlot_55
  by_cases w_1_4 : w = 2
  · refine z_tabIn hx hb (x := w) (k := 2) w_1_4 (by decide) dX7_tellsSlot_1 (by decide) (by decide) rfl (by decide) ?_ (tgt := 37)
    refine lv_aload_n hx hb dX7_tellsSlot_37 rfl (lv_at hl 0 rfl) ?_
    refine lv_iload_n hx hb dX7_tellsSlot_38 rfl (lv_at hl 1 rfl) ?_
    refine zcr (As := [.int (nI k)]) (rest := []) (q0 := 0) S (c_X7_isFull l D ca o f0 f2 f3 f4 f5 f6 f7 f8 f9 f10 sf k (by omega)) ml_X7_37 zy_X7_isFull im_X7_isFull se_X7_isFull ⟨Nat.le_of_ble_eq_true rfl, Nat.le_of_ble_eq_true rfl⟩ hK hP [0, 1] rfl rfl rfl rfl rfl hl.1 rfl (Nat.le_of_ble_eq_true rfl) ⟨Nat.zero_le _, Nat.zero_le _⟩ dX7_tellsSlot_39 ?_
    refine zz_eq (tgt := 54) hx hb dX7_tellsSlot_42 (by decide) (fun c_42_5 => ?_) (fun c_42_5 => ?_)
    · refine lv_iconst (v := (-1)) hx hb dX7_tellsSlot_54 (by decide) ?_
      exact zr_i hx hb hr hlk (by simp [rTs, zb, w_1_1, w_1_2, w_1_4, c_42_5]) dX7_tellsSlot_55
    · refine lv_aload_n hx hb dX7_tellsSlot_45 rfl (lv_at hl 0 rfl) ?_
      refine lv_iload_n hx hb dX7_tellsSlot_46 rfl (lv_at hl 1 rfl) ?_
      refine lv_iload_n hx hb dX7_tellsSlot_47 rfl (lv_at hl 2 rfl) ?_
      refine zcr (As := [.int (nI k), .int (nI w)]) (rest := []) (q0 := 0) S (c_X7_of l D ca o f0 f2 f3 f4 f5 f6 f7 f8 f9 f10 sf k w (by omega) (by omega)) ml_X7_33 zy_X7_of im_X7_of se_X7_of ⟨Nat.le_of_ble_eq_true rfl, Nat.le_of_ble_eq_true rfl⟩ hK hP [0, 1] rfl rfl rfl rfl rfl hl.1 rfl (Nat.le_of_ble_eq_true rfl) ⟨Nat.zero_le _, Nat.zero_le _⟩ dX7_tellsSlot_48 ?_
      refine lv_goto (tgt := 55) hx hb dX7_tellsSlot_51 (by decide) ?_
      exact zr_i hx hb hr hlk (by simp [rTs, zb, w_1_1, w_1_2, w_1_4, c_42_5]) dX7_tellsSlot_55
  refine z_tabOut hx hb (x := w) (by omega) dX7_tellsSlot_1 (by omega) (by decide) ?_ (tgt := 56)
  refine lv_aload_n hx hb dX7_tellsSlot_56 rfl (lv_at hl 0 rfl) ?_
  refine lv_iload_n hx hb dX7_tellsSlot_57 rfl (lv_at hl 1 rfl) ?_
  refine lv_aload_n hx hb dX7_tellsSlot_58 rfl (lv_at hl 0 rfl) ?_
  refine z_get S in_lay_X7 hK hP rfl 0 rfl 1 (by decide) fl_X7_7 rfl rfl dX7_tellsSlot_59 ?_
  refine lv_iconst (v := 0) hx hb dX7_tellsSlot_62 (by decide) ?_
  refine z_iald S hK hP 1 rfl (j := 0) (by omega) (by decide) dX7_tellsSlot_63 ?_
  refine zcr (As := [.int (nI k), .int (sf 0)]) (rest := []) (q0 := 0) S (c_X7_isSeen l D ca o f0 f2 f3 f4 f5 f6 f7 f8 f9 f10 sf k (by omega) (sf 0)) ml_X7_63 zy_X7_isSeen im_X7_isSeen se_X7_isSeen ⟨Nat.le_of_ble_eq_true rfl, Nat.le_of_ble_eq_true rfl⟩ hK hP [0, 1] rfl rfl rfl rfl rfl hl.1 rfl (Nat.le_of_ble_eq_true rfl) ⟨Nat.zero_le _, Nat.zero_le _⟩ dX7_tellsSlot_64 ?_
  refine zz_eq (tgt := 74) hx hb dX7_tellsSlot_67 (by decide) (fun c_67_6 => ?_) (fun c_67_6 => ?_)
  · refine lv_iconst (v := 0) hx hb dX7_tellsSlot_74 (by decide) ?_
    exact zr_i hx hb hr hlk (by simp [rTs, zb, w_1_1, w_1_2, w_1_4, c_67_6]) dX7_tellsSlot_75
  · refine lv_iconst (v := 1) hx hb dX7_tellsSlot_70 (by decide) ?_
    refine lv_goto (tgt := 75) hx hb dX7_tellsSlot_71 (by decide) ?_
    exact zr_i hx hb hr hlk (by simp [rTs, zb, w_1_1, w_1_2, w_1_4, c_67_6]) dX7_tellsSlot_75
set_option maxHeartbeats 4000000 in
set_option maxRecDepth 100000 in
theorem c_X7_tellsPage (l : Launch) (D : va_G) (ca : Nat → ClassId) (o : Nat → Nat) (f0 f2 f3 f4 f5 f6 f7 f8 f9 f10 : Value) (sf : Nat → Int32) (k w : Nat) (hk : k < 6) (hw : w < 5) : zMr l yX7_tellsPage cX7_tellsPage 3 (some .int) 4 92 D ca [(o 0, .inr (7, [f0, .ref (o 1), f2, f3, f4, f5, f6, f7, f8, f9, f10])), (o 1, .inl (ca 0, 99, .inl sf))] [.ref (o 0), .int (nI k), .int (nI w)] (.int (rTp sf k w)) := by
  refine zMr_of (own := RX7) (by decide) rfl (Nat.le_of_ble_eq_true rfl) ?_
  intro p e s m args below meth c ls S hr hlk hP hK hl
  have hx := S.1
  have hb := S.2.1
  have hl : lv_has ls 3 [(0, .ref (o 0)), (1, .int (nI k)), (2, .int (nI w))] := hl
  refine lv_iload_n hx hb dX7_tellsPage_0 rfl (lv_at hl 2 rfl) ?_
  by_cases w_1_1 : w = 0
  · refine z_tabIn hx hb (x := w) (k := 0) w_1_1 (by decide) dX7_tellsPage_1 (by decide) (by decide) rfl (by decide) ?_ (tgt := 32)
    refine lv_aload_n hx hb dX7_tellsPage_32 rfl (lv_at hl 0 rfl) ?_
    refine lv_iload_n hx hb dX7_tellsPage_33 rfl (lv_at hl 1 rfl) ?_
    refine lv_iconst (v := 0) hx hb dX7_tellsPage_34 (by decide) ?_
    refine zcr (As := [.int (nI k), .int 0]) (rest := []) (q0 := 0) S (c_X7_ofPage l D ca o f0 f2 f3 f4 f5 f6 f7 f8 f9 f10 sf k 0 (by omega) (by omega)) ml_X7_105 zy_X7_ofPage im_X7_ofPage se_X7_ofPage ⟨Nat.le_of_ble_eq_true rfl, Nat.le_of_ble_eq_true rfl⟩ hK hP [0, 1] rfl rfl rfl rfl rfl hl.1 rfl (Nat.le_of_ble_eq_true rfl) ⟨Nat.zero_le _, Nat.zero_le _⟩ dX7_tellsPage_35 ?_
    exact zr_i hx hb hr hlk (by simp [rTp, zb, w_1_1]) dX7_tellsPage_38
  by_cases w_1_2 : w = 1
  · refine z_tabIn hx hb (x := w) (k := 1) w_1_2 (by decide) dX7_tellsPage_1 (by decide) (by decide) rfl (by decide) ?_ (tgt := 39)
    refine lv_aload_n hx hb dX7_tellsPage_39 rfl (lv_at hl 0 rfl) ?_
    refine lv_iconst (v := 4) hx hb dX7_tellsPage_40 (by decide) ?_
    refine lv_iload_n hx hb dX7_tellsPage_41 rfl (lv_at hl 1 rfl) ?_
    refine zn_mul hx hb (x := 4) (y := k) (z := 4 * k) (by first | rfl | omega) dX7_tellsPage_42 ?_
    refine lv_iconst (v := 4) hx hb dX7_tellsPage_43 (by decide) ?_
    refine lv_iload_n hx hb dX7_tellsPage_44 rfl (lv_at hl 1 rfl) ?_
    refine zn_mul hx hb (x := 4) (y := k) (z := 4 * k) (by first | rfl | omega) dX7_tellsPage_45 ?_
    refine lv_iconst (v := 4) hx hb dX7_tellsPage_46 (by decide) ?_
    refine zn_add hx hb (x := 4 * k) (y := 4) (z := (4 * k) + 4) (by omega) dX7_tellsPage_47 ?_
    refine lv_iload_n hx hb dX7_tellsPage_48 rfl (lv_at hl 2 rfl) ?_
    refine lv_iconst (v := 2) hx hb dX7_tellsPage_49 (by decide) ?_
    refine zn_ne hx hb (x := w) (y := 2) (by omega) (by omega) (tgt := 57) dX7_tellsPage_50 (by decide) (fun c_50_3 => ?_) (fun h => False.elim (by omega))
    refine lv_iconst (v := 0) hx hb dX7_tellsPage_57 (by decide) ?_
    refine lv_aload_n hx hb dX7_tellsPage_58 rfl (lv_at hl 0 rfl) ?_
    refine z_get S in_lay_X7 hK hP rfl 0 rfl 1 (by decide) fl_X7_7 rfl rfl dX7_tellsPage_59 ?_
    refine lv_iconst (v := 0) hx hb dX7_tellsPage_62 (by decide) ?_
    refine z_iald S hK hP 1 rfl (j := 0) (by omega) (by decide) dX7_tellsPage_63 ?_
    refine zcr (As := [.int (nI (4 * k)), .int (nI ((4 * k) + 4)), .int 0, .int (sf 0)]) (rest := []) (q0 := 0) S (c_X7_versions l D ca o f0 f2 f3 f4 f5 f6 f7 f8 f9 f10 sf (4 * k) 4 (by omega) false (sf 0)) ml_X7_163 zy_X7_versions im_X7_versions se_X7_versions ⟨Nat.le_of_ble_eq_true rfl, Nat.le_of_ble_eq_true rfl⟩ hK hP [0, 1] rfl rfl rfl rfl rfl hl.1 rfl (Nat.le_of_ble_eq_true rfl) ⟨Nat.zero_le _, Nat.zero_le _⟩ dX7_tellsPage_64 ?_
    exact zr_i hx hb hr hlk (by simp [rTp, zb, w_1_1, w_1_2, c_50_3]) dX7_tellsPage_67
  by_cases w_1_4 : w = 2
  · refine z_tabIn hx hb (x := w) (k := 2) w_1_4 (by decide) dX7_tellsPage_1 (by decide) (by decide) rfl (by decide) ?_ (tgt := 39)
    refine lv_aload_n hx hb dX7_tellsPage_39 rfl (lv_at hl 0 rfl) ?_
    refine lv_iconst (v := 4) hx hb dX7_tellsPage_40 (by decide) ?_
    refine lv_iload_n hx hb dX7_tellsPage_41 rfl (lv_at hl 1 rfl) ?_
    refine zn_mul hx hb (x := 4) (y := k) (z := 4 * k) (by first | rfl | omega) dX7_tellsPage_42 ?_
    refine lv_iconst (v := 4) hx hb dX7_tellsPage_43 (by decide) ?_
    refine lv_iload_n hx hb dX7_tellsPage_44 rfl (lv_at hl 1 rfl) ?_
    refine zn_mul hx hb (x := 4) (y := k) (z := 4 * k) (by first | rfl | omega) dX7_tellsPage_45 ?_
    refine lv_iconst (v := 4) hx hb dX7_tellsPage_46 (by decide) ?_
    refine zn_add hx hb (x := 4 * k) (y := 4) (z := (4 * k) + 4) (by omega) dX7_tellsPage_47 ?_
    refine lv_iload_n hx hb dX7_tellsPage_48 rfl (lv_at hl 2 rfl) ?_
    refine lv_iconst (v := 2) hx hb dX7_tellsPage_49 (by decide) ?_
    refine zn_ne hx hb (x := w) (y := 2) (by omega) (by omega) (tgt := 57) dX7_tellsPage_50 (by decide) (fun h => False.elim (by omega)) (fun c_50_5 => ?_)
    refine lv_iconst (v := 1) hx hb dX7_tellsPage_53 (by decide) ?_
    refine lv_goto (tgt := 58) hx hb dX7_tellsPage_54 (by decide) ?_
    refine lv_aload_n hx hb dX7_tellsPage_58 rfl (lv_at hl 0 rfl) ?_
    refine z_get S in_lay_X7 hK hP rfl 0 rfl 1 (by decide) fl_X7_7 rfl rfl dX7_tellsPage_59 ?_
    refine lv_iconst (v := 0) hx hb dX7_tellsPage_62 (by decide) ?_
    refine z_iald S hK hP 1 rfl (j := 0) (by omega) (by decide) dX7_tellsPage_63 ?_
    refine zcr (As := [.int (nI (4 * k)), .int (nI ((4 * k) + 4)), .int 1, .int (sf 0)]) (rest := []) (q0 := 0) S (c_X7_versions l D ca o f0 f2 f3 f4 f5 f6 f7 f8 f9 f10 sf (4 * k) 4 (by omega) true (sf 0)) ml_X7_163 zy_X7_versions im_X7_versions se_X7_versions ⟨Nat.le_of_ble_eq_true rfl, Nat.le_of_ble_eq_true rfl⟩ hK hP [0, 1] rfl rfl rfl rfl rfl hl.1 rfl (Nat.le_of_ble_eq_true rfl) ⟨Nat.zero_le _, Nat.zero_le _⟩ dX7_tellsPage_64 ?_
    exact zr_i hx hb hr hlk (by simp [rTp, zb, w_1_1, w_1_2, w_1_4, c_50_5]) dX7_tellsPage_67
  by_cases w_1_6 : w = 3
  · refine z_tabIn hx hb (x := w) (k := 3) w_1_6 (by decide) dX7_tellsPage_1 (by decide) (by decide) rfl (by decide) ?_ (tgt := 68)
    refine lv_aload_n hx hb dX7_tellsPage_68 rfl (lv_at hl 0 rfl) ?_
    refine lv_iload_n hx hb dX7_tellsPage_69 rfl (lv_at hl 1 rfl) ?_
    refine lv_aload_n hx hb dX7_tellsPage_70 rfl (lv_at hl 0 rfl) ?_
    refine zcr (As := []) (rest := [.int (nI k), .ref (o 0)]) (q0 := 0) S (c_X7_horizon l D ca o f0 f2 f3 f4 f5 f6 f7 f8 f9 f10 sf ) ml_X7_93 zy_X7_horizon im_X7_horizon se_X7_horizon ⟨Nat.le_of_ble_eq_true rfl, Nat.le_of_ble_eq_true rfl⟩ hK hP [0, 1] rfl rfl rfl rfl rfl hl.1 rfl (Nat.le_of_ble_eq_true rfl) ⟨Nat.zero_le _, Nat.zero_le _⟩ dX7_tellsPage_71 ?_
    refine zcr (As := [.int (nI k), .int (rHb sf (-1))]) (rest := []) (q0 := 0) S (c_X7_oldIn l D ca o f0 f2 f3 f4 f5 f6 f7 f8 f9 f10 sf k (by omega) (rHb sf (-1))) ml_X7_96 zy_X7_oldIn im_X7_oldIn se_X7_oldIn ⟨Nat.le_of_ble_eq_true rfl, Nat.le_of_ble_eq_true rfl⟩ hK hP [0, 1] rfl rfl rfl rfl rfl hl.1 rfl (Nat.le_of_ble_eq_true rfl) ⟨Nat.zero_le _, Nat.zero_le _⟩ dX7_tellsPage_74 ?_
    exact zr_i hx hb hr hlk (by simp [rTp, zb, w_1_1, w_1_2, w_1_4, w_1_6]) dX7_tellsPage_77
  refine z_tabOut hx hb (x := w) (by omega) dX7_tellsPage_1 (by omega) (by decide) ?_ (tgt := 78)
  refine lv_aload_n hx hb dX7_tellsPage_78 rfl (lv_at hl 0 rfl) ?_
  refine lv_iload_n hx hb dX7_tellsPage_79 rfl (lv_at hl 1 rfl) ?_
  refine lv_iconst (v := 0) hx hb dX7_tellsPage_80 (by decide) ?_
  refine zcr (As := [.int (nI k), .int 0]) (rest := []) (q0 := 0) S (c_X7_ofPage l D ca o f0 f2 f3 f4 f5 f6 f7 f8 f9 f10 sf k 0 (by omega) (by omega)) ml_X7_105 zy_X7_ofPage im_X7_ofPage se_X7_ofPage ⟨Nat.le_of_ble_eq_true rfl, Nat.le_of_ble_eq_true rfl⟩ hK hP [0, 1] rfl rfl rfl rfl rfl hl.1 rfl (Nat.le_of_ble_eq_true rfl) ⟨Nat.zero_le _, Nat.zero_le _⟩ dX7_tellsPage_81 ?_
  refine lv_iconst (v := 1) hx hb dX7_tellsPage_84 (by decide) ?_
  refine lv_icmp_ne (tgt := 97) hx hb dX7_tellsPage_85 (by decide) (fun c_85_7 => ?_) (fun c_85_7 => ?_)
  · refine lv_iconst (v := (-1)) hx hb dX7_tellsPage_97 (by decide) ?_
    exact zr_i hx hb hr hlk (by simp [rTp, zb, w_1_1, w_1_2, w_1_4, w_1_6, c_85_7]) dX7_tellsPage_98
  · refine lv_aload_n hx hb dX7_tellsPage_88 rfl (lv_at hl 0 rfl) ?_
    refine lv_iload_n hx hb dX7_tellsPage_89 rfl (lv_at hl 1 rfl) ?_
    refine lv_iconst (v := 1) hx hb dX7_tellsPage_90 (by decide) ?_
    refine zcr (As := [.int (nI k), .int 1]) (rest := []) (q0 := 0) S (c_X7_ofPage l D ca o f0 f2 f3 f4 f5 f6 f7 f8 f9 f10 sf k 1 (by omega) (by omega)) ml_X7_105 zy_X7_ofPage im_X7_ofPage se_X7_ofPage ⟨Nat.le_of_ble_eq_true rfl, Nat.le_of_ble_eq_true rfl⟩ hK hP [0, 1] rfl rfl rfl rfl rfl hl.1 rfl (Nat.le_of_ble_eq_true rfl) ⟨Nat.zero_le _, Nat.zero_le _⟩ dX7_tellsPage_91 ?_
    refine lv_goto (tgt := 98) hx hb dX7_tellsPage_94 (by decide) ?_
    exact zr_i hx hb hr hlk (by simp [rTp, zb, w_1_1, w_1_2, w_1_4, w_1_6, c_85_7]) dX7_tellsPage_98
set_option maxHeartbeats 4000000 in
set_option maxRecDepth 100000 in
theorem c_X7_tellsAsker (l : Launch) (D : va_G) (ca : Nat → ClassId) (o : Nat → Nat) (f0 f2 f3 f4 f5 f6 f7 f8 f9 f10 : Value) (sf : Nat → Int32) (k w : Nat) (hk : k < 4) (hw : w < 3) : zMr l yX7_tellsAsker cX7_tellsAsker 4 (some .int) 4 92 D ca [(o 0, .inr (7, [f0, .ref (o 1), f2, f3, f4, f5, f6, f7, f8, f9, f10])), (o 1, .inl (ca 0, 99, .inl sf))] [.ref (o 0), .int (nI k), .int (nI w)] (.int (rTa sf k w)) := by
  refine zMr_of (own := RX7) (by decide) rfl (Nat.le_of_ble_eq_true rfl) ?_
  intro p e s m args below meth c ls S hr hlk hP hK hl
  have hx := S.1
  have hb := S.2.1
  have hl : lv_has ls 4 [(0, .ref (o 0)), (1, .int (nI k)), (2, .int (nI w))] := hl
  refine lv_aload_n hx hb dX7_tellsAsker_0 rfl (lv_at hl 0 rfl) ?_
  refine lv_iload_n hx hb dX7_tellsAsker_1 rfl (lv_at hl 1 rfl) ?_
  refine zcr (As := [.int (nI k)]) (rest := []) (q0 := 0) S (c_X7_snapshotOf l D ca o f0 f2 f3 f4 f5 f6 f7 f8 f9 f10 sf k (by omega)) ml_X7_81 zy_X7_snapshotOf im_X7_snapshotOf se_X7_snapshotOf ⟨Nat.le_of_ble_eq_true rfl, Nat.le_of_ble_eq_true rfl⟩ hK hP [0, 1] rfl rfl rfl rfl rfl hl.1 rfl (Nat.le_of_ble_eq_true rfl) ⟨Nat.zero_le _, Nat.zero_le _⟩ dX7_tellsAsker_2 ?_
  refine lv_istore_n (lv' := [(3, .int (rSn sf k)), (0, .ref (o 0)), (1, .int (nI k)), (2, .int (nI w))]) hx hb dX7_tellsAsker_5 rfl hl (by decide) rfl (fun ls hl => ?_)
  refine lv_iload_n hx hb dX7_tellsAsker_6 rfl (lv_at hl 3 rfl) ?_
  by_cases w_7_1 : w = 0
  · refine z_look (x := w) (k := 0) hx hb w_7_1 (by decide) dX7_tellsAsker_7 (by decide) rfl (by decide) ?_ (tgt := 32)
    refine lv_iload_n hx hb dX7_tellsAsker_32 rfl (lv_at hl 0 rfl) ?_
    exact zr_i hx hb hr hlk (by simp [rTa, zb, w_7_1]) dX7_tellsAsker_33
  by_cases w_7_2 : w = 1
  · refine z_look (x := w) (k := 1) hx hb w_7_2 (by decide) dX7_tellsAsker_7 (by decide) rfl (by decide) ?_ (tgt := 34)
    refine lv_iload_n hx hb dX7_tellsAsker_34 rfl (lv_at hl 0 rfl) ?_
    refine lv_iconst (v := (-1)) hx hb dX7_tellsAsker_35 (by decide) ?_
    refine lv_icmp_ne (tgt := 43) hx hb dX7_tellsAsker_36 (by decide) (fun c_36_3 => ?_) (fun c_36_3 => ?_)
    · refine lv_aload_n hx hb dX7_tellsAsker_43 rfl (lv_at hl 1 rfl) ?_
      refine lv_iconst (v := 0) hx hb dX7_tellsAsker_44 (by decide) ?_
      refine lv_bipush (v := 24) hx hb dX7_tellsAsker_45 (by decide) ?_
      refine lv_iconst (v := 1) hx hb dX7_tellsAsker_47 (by decide) ?_
      refine lv_iload_n hx hb dX7_tellsAsker_48 rfl (lv_at hl 0 rfl) ?_
      refine zcr (As := [.int 0, .int 24, .int 1, .int (rSn sf k)]) (rest := []) (q0 := 0) S (c_X7_versions l D ca o f0 f2 f3 f4 f5 f6 f7 f8 f9 f10 sf 0 24 (by omega) true (rSn sf k)) ml_X7_163 zy_X7_versions im_X7_versions se_X7_versions ⟨Nat.le_of_ble_eq_true rfl, Nat.le_of_ble_eq_true rfl⟩ hK hP [0, 1] rfl rfl rfl rfl rfl hl.1 rfl (Nat.le_of_ble_eq_true rfl) ⟨Nat.zero_le _, Nat.zero_le _⟩ dX7_tellsAsker_49 ?_
      exact zr_i hx hb hr hlk (by simp [rTa, zb, w_7_1, w_7_2, c_36_3]) dX7_tellsAsker_52
    · refine lv_iconst (v := (-1)) hx hb dX7_tellsAsker_39 (by decide) ?_
      refine lv_goto (tgt := 52) hx hb dX7_tellsAsker_40 (by decide) ?_
      exact zr_i hx hb hr hlk (by simp [rTa, zb, w_7_1, w_7_2, c_36_3]) dX7_tellsAsker_52
  refine z_look (x := w) (k := w) (off := 46) hx hb rfl (by omega) dX7_tellsAsker_7 (by decide) (by show Op.lookupswitch.offset [(0, 25), (1, 27)] 46 _ = _; rw [Op.lookupswitch.offset_cons, if_neg (by omega), Op.lookupswitch.offset_cons, if_neg (by omega)] <;> rfl) (by decide) ?_ (tgt := 53)
  refine lv_aload_n hx hb dX7_tellsAsker_53 rfl (lv_at hl 1 rfl) ?_
  refine z_get S in_lay_X7 hK hP rfl 0 rfl 1 (by decide) fl_X7_7 rfl rfl dX7_tellsAsker_54 ?_
  refine lv_bipush (v := 91) hx hb dX7_tellsAsker_57 (by decide) ?_
  refine lv_iconst (v := 2) hx hb dX7_tellsAsker_59 (by decide) ?_
  refine lv_iload_n hx hb dX7_tellsAsker_60 rfl (lv_at hl 2 rfl) ?_
  refine zn_mul hx hb (x := 2) (y := k) (z := 2 * k) (by first | rfl | omega) dX7_tellsAsker_61 ?_
  refine zn_add hx hb (x := 91) (y := 2 * k) (z := 91 + (2 * k)) (by omega) dX7_tellsAsker_62 ?_
  refine lv_iconst (v := 1) hx hb dX7_tellsAsker_63 (by decide) ?_
  refine zn_add hx hb (x := 91 + (2 * k)) (y := 1) (z := (91 + (2 * k)) + 1) (by omega) dX7_tellsAsker_64 ?_
  refine z_iald S hK hP 1 rfl (j := (91 + (2 * k)) + 1) (by omega) (by decide) dX7_tellsAsker_65 ?_
  exact zr_i hx hb hr hlk (by simp [rTa, zb, w_7_1, w_7_2]) dX7_tellsAsker_66
set_option maxHeartbeats 4000000 in
set_option maxRecDepth 100000 in
theorem c_X7_tellsCount (l : Launch) (D : va_G) (ca : Nat → ClassId) (o : Nat → Nat) (f0 f2 f4 f5 f6 f7 f8 f9 f10 : Value) (mm : Nat) (hmm : mm < 1000) (sf : Nat → Int32) (w : Nat) (hw : w < 13) : zMr l yX7_tellsCount cX7_tellsCount 2 (some .int) 4 92 D ca [(o 0, .inr (7, [f0, .ref (o 1), f2, .int (nI mm), f4, f5, f6, f7, f8, f9, f10])), (o 1, .inl (ca 0, 99, .inl sf))] [.ref (o 0), .int (nI w)] (.int (rTc sf mm w)) := by
  refine zMr_of (own := RX7) (by decide) rfl (Nat.le_of_ble_eq_true rfl) ?_
  intro p e s m args below meth c ls S hr hlk hP hK hl
  have hx := S.1
  have hb := S.2.1
  have hl : lv_has ls 2 [(0, .ref (o 0)), (1, .int (nI w))] := hl
  refine lv_iload_n hx hb dX7_tellsCount_0 rfl (lv_at hl 1 rfl) ?_
  by_cases w_1_1 : w = 0
  · refine z_tabIn hx hb (x := w) (k := 0) w_1_1 (by decide) dX7_tellsCount_1 (by decide) (by decide) rfl (by decide) ?_ (tgt := 68)
    refine lv_aload_n hx hb dX7_tellsCount_68 rfl (lv_at hl 0 rfl) ?_
    refine z_get S in_lay_X7 hK hP rfl 0 rfl 1 (by decide) fl_X7_7 rfl rfl dX7_tellsCount_69 ?_
    refine lv_iconst (v := 0) hx hb dX7_tellsCount_72 (by decide) ?_
    refine z_iald S hK hP 1 rfl (j := 0) (by omega) (by decide) dX7_tellsCount_73 ?_
    exact zr_i hx hb hr hlk (by simp [rTc, zb, w_1_1]) dX7_tellsCount_74
  by_cases w_1_2 : w = 1
  · refine z_tabIn hx hb (x := w) (k := 1) w_1_2 (by decide) dX7_tellsCount_1 (by decide) (by decide) rfl (by decide) ?_ (tgt := 75)
    refine lv_aload_n hx hb dX7_tellsCount_75 rfl (lv_at hl 0 rfl) ?_
    refine zcr (As := []) (rest := []) (q0 := 0) S (c_X7_horizon l D ca o f0 f2 (.int (nI mm)) f4 f5 f6 f7 f8 f9 f10 sf ) ml_X7_93 zy_X7_horizon im_X7_horizon se_X7_horizon ⟨Nat.le_of_ble_eq_true rfl, Nat.le_of_ble_eq_true rfl⟩ hK hP [0, 1] rfl rfl rfl rfl rfl hl.1 rfl (Nat.le_of_ble_eq_true rfl) ⟨Nat.zero_le _, Nat.zero_le _⟩ dX7_tellsCount_76 ?_
    exact zr_i hx hb hr hlk (by simp [rTc, zb, w_1_1, w_1_2]) dX7_tellsCount_79
  by_cases w_1_3 : w = 2
  · refine z_tabIn hx hb (x := w) (k := 2) w_1_3 (by decide) dX7_tellsCount_1 (by decide) (by decide) rfl (by decide) ?_ (tgt := 80)
    refine lv_aload_n hx hb dX7_tellsCount_80 rfl (lv_at hl 0 rfl) ?_
    refine lv_iconst (v := 0) hx hb dX7_tellsCount_81 (by decide) ?_
    refine lv_bipush (v := 24) hx hb dX7_tellsCount_82 (by decide) ?_
    refine lv_iload_n hx hb dX7_tellsCount_84 rfl (lv_at hl 1 rfl) ?_
    refine lv_iconst (v := 3) hx hb dX7_tellsCount_85 (by decide) ?_
    refine zn_ne hx hb (x := w) (y := 3) (by omega) (by omega) (tgt := 93) dX7_tellsCount_86 (by decide) (fun c_86_4 => ?_) (fun h => False.elim (by omega))
    refine lv_iconst (v := 0) hx hb dX7_tellsCount_93 (by decide) ?_
    refine lv_aload_n hx hb dX7_tellsCount_94 rfl (lv_at hl 0 rfl) ?_
    refine z_get S in_lay_X7 hK hP rfl 0 rfl 1 (by decide) fl_X7_7 rfl rfl dX7_tellsCount_95 ?_
    refine lv_iconst (v := 0) hx hb dX7_tellsCount_98 (by decide) ?_
    refine z_iald S hK hP 1 rfl (j := 0) (by omega) (by decide) dX7_tellsCount_99 ?_
    refine zcr (As := [.int 0, .int 24, .int 0, .int (sf 0)]) (rest := []) (q0 := 0) S (c_X7_versions l D ca o f0 f2 (.int (nI mm)) f4 f5 f6 f7 f8 f9 f10 sf 0 24 (by omega) false (sf 0)) ml_X7_163 zy_X7_versions im_X7_versions se_X7_versions ⟨Nat.le_of_ble_eq_true rfl, Nat.le_of_ble_eq_true rfl⟩ hK hP [0, 1] rfl rfl rfl rfl rfl hl.1 rfl (Nat.le_of_ble_eq_true rfl) ⟨Nat.zero_le _, Nat.zero_le _⟩ dX7_tellsCount_100 ?_
    exact zr_i hx hb hr hlk (by simp [rTc, zb, w_1_1, w_1_2, w_1_3, c_86_4]) dX7_tellsCount_103
  by_cases w_1_5 : w = 3
  · refine z_tabIn hx hb (x := w) (k := 3) w_1_5 (by decide) dX7_tellsCount_1 (by decide) (by decide) rfl (by decide) ?_ (tgt := 80)
    refine lv_aload_n hx hb dX7_tellsCount_80 rfl (lv_at hl 0 rfl) ?_
    refine lv_iconst (v := 0) hx hb dX7_tellsCount_81 (by decide) ?_
    refine lv_bipush (v := 24) hx hb dX7_tellsCount_82 (by decide) ?_
    refine lv_iload_n hx hb dX7_tellsCount_84 rfl (lv_at hl 1 rfl) ?_
    refine lv_iconst (v := 3) hx hb dX7_tellsCount_85 (by decide) ?_
    refine zn_ne hx hb (x := w) (y := 3) (by omega) (by omega) (tgt := 93) dX7_tellsCount_86 (by decide) (fun h => False.elim (by omega)) (fun c_86_6 => ?_)
    refine lv_iconst (v := 1) hx hb dX7_tellsCount_89 (by decide) ?_
    refine lv_goto (tgt := 94) hx hb dX7_tellsCount_90 (by decide) ?_
    refine lv_aload_n hx hb dX7_tellsCount_94 rfl (lv_at hl 0 rfl) ?_
    refine z_get S in_lay_X7 hK hP rfl 0 rfl 1 (by decide) fl_X7_7 rfl rfl dX7_tellsCount_95 ?_
    refine lv_iconst (v := 0) hx hb dX7_tellsCount_98 (by decide) ?_
    refine z_iald S hK hP 1 rfl (j := 0) (by omega) (by decide) dX7_tellsCount_99 ?_
    refine zcr (As := [.int 0, .int 24, .int 1, .int (sf 0)]) (rest := []) (q0 := 0) S (c_X7_versions l D ca o f0 f2 (.int (nI mm)) f4 f5 f6 f7 f8 f9 f10 sf 0 24 (by omega) true (sf 0)) ml_X7_163 zy_X7_versions im_X7_versions se_X7_versions ⟨Nat.le_of_ble_eq_true rfl, Nat.le_of_ble_eq_true rfl⟩ hK hP [0, 1] rfl rfl rfl rfl rfl hl.1 rfl (Nat.le_of_ble_eq_true rfl) ⟨Nat.zero_le _, Nat.zero_le _⟩ dX7_tellsCount_100 ?_
    exact zr_i hx hb hr hlk (by simp [rTc, zb, w_1_1, w_1_2, w_1_3, w_1_5, c_86_6]) dX7_tellsCount_103
  by_cases w_1_7 : w = 4
  · refine z_tabIn hx hb (x := w) (k := 4) w_1_7 (by decide) dX7_tellsCount_1 (by decide) (by decide) rfl (by decide) ?_ (tgt := 104)
    refine lv_bipush (v := 24) hx hb dX7_tellsCount_104 (by decide) ?_
    refine lv_aload_n hx hb dX7_tellsCount_106 rfl (lv_at hl 0 rfl) ?_
    refine lv_iconst (v := 0) hx hb dX7_tellsCount_107 (by decide) ?_
    refine lv_bipush (v := 24) hx hb dX7_tellsCount_108 (by decide) ?_
    refine lv_iconst (v := 0) hx hb dX7_tellsCount_110 (by decide) ?_
    refine lv_iconst (v := 0) hx hb dX7_tellsCount_111 (by decide) ?_
    refine zcr (As := [.int 0, .int 24, .int 0, .int 0]) (rest := [.int 24]) (q0 := 0) S (c_X7_versions l D ca o f0 f2 (.int (nI mm)) f4 f5 f6 f7 f8 f9 f10 sf 0 24 (by omega) false 0) ml_X7_163 zy_X7_versions im_X7_versions se_X7_versions ⟨Nat.le_of_ble_eq_true rfl, Nat.le_of_ble_eq_true rfl⟩ hK hP [0, 1] rfl rfl rfl rfl rfl hl.1 rfl (Nat.le_of_ble_eq_true rfl) ⟨Nat.zero_le _, Nat.zero_le _⟩ dX7_tellsCount_112 ?_
    refine lv_isub hx hb dX7_tellsCount_115 ?_
    exact zr_i hx hb hr hlk (by simp [rTc, zb, w_1_1, w_1_2, w_1_3, w_1_5, w_1_7]) dX7_tellsCount_116
  by_cases w_1_8 : w = 5
  · refine z_tabIn hx hb (x := w) (k := 5) w_1_8 (by decide) dX7_tellsCount_1 (by decide) (by decide) rfl (by decide) ?_ (tgt := 117)
    refine lv_aload_n hx hb dX7_tellsCount_117 rfl (lv_at hl 0 rfl) ?_
    refine zcr (As := []) (rest := []) (q0 := 0) S (c_X7_markedPages l D ca o f0 f2 (.int (nI mm)) f4 f5 f6 f7 f8 f9 f10 sf ) ml_X7_108 zy_X7_markedPages im_X7_markedPages se_X7_markedPages ⟨Nat.le_of_ble_eq_true rfl, Nat.le_of_ble_eq_true rfl⟩ hK hP [0, 1] rfl rfl rfl rfl rfl hl.1 rfl (Nat.le_of_ble_eq_true rfl) ⟨Nat.zero_le _, Nat.zero_le _⟩ dX7_tellsCount_118 ?_
    exact zr_i hx hb hr hlk (by simp [rTc, zb, w_1_1, w_1_2, w_1_3, w_1_5, w_1_7, w_1_8]) dX7_tellsCount_121
  by_cases w_1_9 : w = 6
  · refine z_tabIn hx hb (x := w) (k := 6) w_1_9 (by decide) dX7_tellsCount_1 (by decide) (by decide) rfl (by decide) ?_ (tgt := 127)
    refine lv_aload_n hx hb dX7_tellsCount_127 rfl (lv_at hl 0 rfl) ?_
    refine z_get S in_lay_X7 hK hP rfl 0 rfl 1 (by decide) fl_X7_7 rfl rfl dX7_tellsCount_128 ?_
    refine lv_iconst (v := 1) hx hb dX7_tellsCount_131 (by decide) ?_
    refine lv_iload_n hx hb dX7_tellsCount_132 rfl (lv_at hl 1 rfl) ?_
    refine zn_add hx hb (x := 1) (y := w) (z := 1 + w) (by omega) dX7_tellsCount_133 ?_
    refine lv_bipush (v := 6) hx hb dX7_tellsCount_134 (by decide) ?_
    refine zn_sub hx hb (x := 1 + w) (y := 6) (z := 1 + w - 6) (by omega) dX7_tellsCount_136 ?_
    refine z_iald S hK hP 1 rfl (j := 1 + w - 6) (by omega) (by decide) dX7_tellsCount_137 ?_
    exact zr_i hx hb hr hlk (by simp [rTc, zb, w_1_1, w_1_2, w_1_3, w_1_5, w_1_7, w_1_8, w_1_9]) dX7_tellsCount_138
  by_cases w_1_10 : w = 7
  · refine z_tabIn hx hb (x := w) (k := 7) w_1_10 (by decide) dX7_tellsCount_1 (by decide) (by decide) rfl (by decide) ?_ (tgt := 127)
    refine lv_aload_n hx hb dX7_tellsCount_127 rfl (lv_at hl 0 rfl) ?_
    refine z_get S in_lay_X7 hK hP rfl 0 rfl 1 (by decide) fl_X7_7 rfl rfl dX7_tellsCount_128 ?_
    refine lv_iconst (v := 1) hx hb dX7_tellsCount_131 (by decide) ?_
    refine lv_iload_n hx hb dX7_tellsCount_132 rfl (lv_at hl 1 rfl) ?_
    refine zn_add hx hb (x := 1) (y := w) (z := 1 + w) (by omega) dX7_tellsCount_133 ?_
    refine lv_bipush (v := 6) hx hb dX7_tellsCount_134 (by decide) ?_
    refine zn_sub hx hb (x := 1 + w) (y := 6) (z := 1 + w - 6) (by omega) dX7_tellsCount_136 ?_
    refine z_iald S hK hP 1 rfl (j := 1 + w - 6) (by omega) (by decide) dX7_tellsCount_137 ?_
    exact zr_i hx hb hr hlk (by simp [rTc, zb, w_1_1, w_1_2, w_1_3, w_1_5, w_1_7, w_1_8, w_1_9, w_1_10]) dX7_tellsCount_138
  by_cases w_1_11 : w = 8
  · refine z_tabIn hx hb (x := w) (k := 8) w_1_11 (by decide) dX7_tellsCount_1 (by decide) (by decide) rfl (by decide) ?_ (tgt := 127)
    refine lv_aload_n hx hb dX7_tellsCount_127 rfl (lv_at hl 0 rfl) ?_
    refine z_get S in_lay_X7 hK hP rfl 0 rfl 1 (by decide) fl_X7_7 rfl rfl dX7_tellsCount_128 ?_
    refine lv_iconst (v := 1) hx hb dX7_tellsCount_131 (by decide) ?_
    refine lv_iload_n hx hb dX7_tellsCount_132 rfl (lv_at hl 1 rfl) ?_
    refine zn_add hx hb (x := 1) (y := w) (z := 1 + w) (by omega) dX7_tellsCount_133 ?_
    refine lv_bipush (v := 6) hx hb dX7_tellsCount_134 (by decide) ?_
    refine zn_sub hx hb (x := 1 + w) (y := 6) (z := 1 + w - 6) (by omega) dX7_tellsCount_136 ?_
    refine z_iald S hK hP 1 rfl (j := 1 + w - 6) (by omega) (by decide) dX7_tellsCount_137 ?_
    exact zr_i hx hb hr hlk (by simp [rTc, zb, w_1_1, w_1_2, w_1_3, w_1_5, w_1_7, w_1_8, w_1_9, w_1_10, w_1_11]) dX7_tellsCount_138
  by_cases w_1_12 : w = 9
  · refine z_tabIn hx hb (x := w) (k := 9) w_1_12 (by decide) dX7_tellsCount_1 (by decide) (by decide) rfl (by decide) ?_ (tgt := 127)
    refine lv_aload_n hx hb dX7_tellsCount_127 rfl (lv_at hl 0 rfl) ?_
    refine z_get S in_lay_X7 hK hP rfl 0 rfl 1 (by decide) fl_X7_7 rfl rfl dX7_tellsCount_128 ?_
    refine lv_iconst (v := 1) hx hb dX7_tellsCount_131 (by decide) ?_
    refine lv_iload_n hx hb dX7_tellsCount_132 rfl (lv_at hl 1 rfl) ?_
    refine zn_add hx hb (x := 1) (y := w) (z := 1 + w) (by omega) dX7_tellsCount_133 ?_
    refine lv_bipush (v := 6) hx hb dX7_tellsCount_134 (by decide) ?_
    refine zn_sub hx hb (x := 1 + w) (y := 6) (z := 1 + w - 6) (by omega) dX7_tellsCount_136 ?_
    refine z_iald S hK hP 1 rfl (j := 1 + w - 6) (by omega) (by decide) dX7_tellsCount_137 ?_
    exact zr_i hx hb hr hlk (by simp [rTc, zb, w_1_1, w_1_2, w_1_3, w_1_5, w_1_7, w_1_8, w_1_9, w_1_10, w_1_11, w_1_12]) dX7_tellsCount_138
  by_cases w_1_13 : w = 10
  · refine z_tabIn hx hb (x := w) (k := 10) w_1_13 (by decide) dX7_tellsCount_1 (by decide) (by decide) rfl (by decide) ?_ (tgt := 127)
    refine lv_aload_n hx hb dX7_tellsCount_127 rfl (lv_at hl 0 rfl) ?_
    refine z_get S in_lay_X7 hK hP rfl 0 rfl 1 (by decide) fl_X7_7 rfl rfl dX7_tellsCount_128 ?_
    refine lv_iconst (v := 1) hx hb dX7_tellsCount_131 (by decide) ?_
    refine lv_iload_n hx hb dX7_tellsCount_132 rfl (lv_at hl 1 rfl) ?_
    refine zn_add hx hb (x := 1) (y := w) (z := 1 + w) (by omega) dX7_tellsCount_133 ?_
    refine lv_bipush (v := 6) hx hb dX7_tellsCount_134 (by decide) ?_
    refine zn_sub hx hb (x := 1 + w) (y := 6) (z := 1 + w - 6) (by omega) dX7_tellsCount_136 ?_
    refine z_iald S hK hP 1 rfl (j := 1 + w - 6) (by omega) (by decide) dX7_tellsCount_137 ?_
    exact zr_i hx hb hr hlk (by simp [rTc, zb, w_1_1, w_1_2, w_1_3, w_1_5, w_1_7, w_1_8, w_1_9, w_1_10, w_1_11, w_1_12, w_1_13]) dX7_tellsCount_138
  by_cases w_1_14 : w = 11
  · refine z_tabIn hx hb (x := w) (k := 11) w_1_14 (by decide) dX7_tellsCount_1 (by decide) (by decide) rfl (by decide) ?_ (tgt := 127)
    refine lv_aload_n hx hb dX7_tellsCount_127 rfl (lv_at hl 0 rfl) ?_
    refine z_get S in_lay_X7 hK hP rfl 0 rfl 1 (by decide) fl_X7_7 rfl rfl dX7_tellsCount_128 ?_
    refine lv_iconst (v := 1) hx hb dX7_tellsCount_131 (by decide) ?_
    refine lv_iload_n hx hb dX7_tellsCount_132 rfl (lv_at hl 1 rfl) ?_
    refine zn_add hx hb (x := 1) (y := w) (z := 1 + w) (by omega) dX7_tellsCount_133 ?_
    refine lv_bipush (v := 6) hx hb dX7_tellsCount_134 (by decide) ?_
    refine zn_sub hx hb (x := 1 + w) (y := 6) (z := 1 + w - 6) (by omega) dX7_tellsCount_136 ?_
    refine z_iald S hK hP 1 rfl (j := 1 + w - 6) (by omega) (by decide) dX7_tellsCount_137 ?_
    exact zr_i hx hb hr hlk (by simp [rTc, zb, w_1_1, w_1_2, w_1_3, w_1_5, w_1_7, w_1_8, w_1_9, w_1_10, w_1_11, w_1_12, w_1_13, w_1_14]) dX7_tellsCount_138
  have w_1_15 : w = 12 := by omega
  refine z_tabIn hx hb (x := w) (k := 12) w_1_15 (by decide) dX7_tellsCount_1 (by decide) (by decide) rfl (by decide) ?_ (tgt := 122)
  refine lv_aload_n hx hb dX7_tellsCount_122 rfl (lv_at hl 0 rfl) ?_
  refine z_get S in_lay_X7 hK hP rfl 0 rfl 3 (by decide) fl_X7_30 rfl rfl dX7_tellsCount_123 ?_
  exact zr_i hx hb hr hlk (by simp [rTc, zb, w_1_1, w_1_2, w_1_3, w_1_5, w_1_7, w_1_8, w_1_9, w_1_10, w_1_11, w_1_12, w_1_13, w_1_14, w_1_15]) dX7_tellsCount_126
set_option maxHeartbeats 4000000 in
set_option maxRecDepth 100000 in
theorem c_X7_tellsLies (l : Launch) (D : va_G) (ca : Nat → ClassId) (o : Nat → Nat) (f0 f2 f3 f4 f5 f6 f7 f8 f9 f10 : Value) (sf : Nat → Int32) (v : Int32) : zMr l yX7_tellsLies cX7_tellsLies 4 (some .int) 3 66 D ca [(o 0, .inr (7, [f0, .ref (o 1), f2, f3, f4, f5, f6, f7, f8, f9, f10])), (o 1, .inl (ca 0, 99, .inl sf))] [.ref (o 0), .int v] (.int (rLie sf v)) := by
  refine zMr_of (own := RX7) (by decide) rfl (Nat.le_of_ble_eq_true rfl) ?_
  intro p e s m args below meth c ls S hr hlk hP hK hl
  have hx := S.1
  have hb := S.2.1
  have hl : lv_has ls 4 [(0, .ref (o 0)), (1, .int v)] := hl
  refine lv_iconst (v := 0) hx hb dX7_tellsLies_0 (by decide) ?_
  refine lv_istore_n (lv' := [(2, .int 0), (0, .ref (o 0)), (1, .int v)]) hx hb dX7_tellsLies_1 rfl hl (by decide) rfl (fun ls hl => ?_)
  refine lv_iconst (v := 0) hx hb dX7_tellsLies_2 (by decide) ?_
  refine lv_istore_n (lv' := [(3, .int 0), (2, .int 0), (0, .ref (o 0)), (1, .int v)]) hx hb dX7_tellsLies_3 rfl hl (by decide) rfl (fun ls hl => ?_)
  have loop_0 : ∀ (f : Nat) (k : Nat) (x : Int32) (ls : Array Slot), k + f = 24 → zcnt (fun k => rHv sf v k && !rSeen sf k (sf 0)) 24 0 0 = zcnt (fun k => rHv sf v k && !rSeen sf k (sf 0)) f k x → lv_has ls 4 [(0, .ref (o 0)), (1, .int v), (2, .int x), (3, .int (nI k))] → W p l e { frames := 3, cells := 0, slots := 0, locals := 66 } s m args below meth c s.heap [] 0 0 (MQ below (zQr (.int (rLie sf v))) args s 0 0 (fun _ => False)) (F0 m 4 ls []) := by
    intro f
    induction f with
    | zero =>
      intro k x ls j1 j2 hl
      refine lv_iload_n hx hb dX7_tellsLies_4 rfl (lv_at hl 3 rfl) ?_
      refine lv_bipush (v := 24) hx hb dX7_tellsLies_5 (by decide) ?_
      refine zn_ge hx hb (x := k) (y := 24) (by omega) (by omega) (tgt := 47) dX7_tellsLies_7 (by decide) (fun c_7_2 => ?_) (fun h => False.elim (by omega))
      refine lv_iload_n hx hb dX7_tellsLies_47 rfl (lv_at hl 2 rfl) ?_
      exact zr_i hx hb hr hlk (by exact j2.symm) dX7_tellsLies_48
    | succ f ih =>
      intro k x ls j1 j2 hl
      refine lv_iload_n hx hb dX7_tellsLies_4 rfl (lv_at hl 3 rfl) ?_
      refine lv_bipush (v := 24) hx hb dX7_tellsLies_5 (by decide) ?_
      refine zn_ge hx hb (x := k) (y := 24) (by omega) (by omega) (tgt := 47) dX7_tellsLies_7 (by decide) (fun h => False.elim (by omega)) (fun c_7_3 => ?_)
      refine lv_iload_n hx hb dX7_tellsLies_10 rfl (lv_at hl 2 rfl) ?_
      refine lv_aload_n hx hb dX7_tellsLies_11 rfl (lv_at hl 0 rfl) ?_
      refine lv_iload_n hx hb dX7_tellsLies_12 rfl (lv_at hl 3 rfl) ?_
      refine lv_iload_n hx hb dX7_tellsLies_13 rfl (lv_at hl 1 rfl) ?_
      refine zcr (As := [.int (nI k), .int v]) (rest := [.int x]) (q0 := 0) S (c_X7_hasValue l D ca o f0 f2 f3 f4 f5 f6 f7 f8 f9 f10 sf k (by omega) v) ml_X7_117 zy_X7_hasValue im_X7_hasValue se_X7_hasValue ⟨Nat.le_of_ble_eq_true rfl, Nat.le_of_ble_eq_true rfl⟩ hK hP [0, 1] rfl rfl rfl rfl rfl hl.1 rfl (Nat.le_of_ble_eq_true rfl) ⟨Nat.zero_le _, Nat.zero_le _⟩ dX7_tellsLies_14 ?_
      refine zz_eq (tgt := 38) hx hb dX7_tellsLies_17 (by decide) (fun c_17_4 => ?_) (fun c_17_4 => ?_)
      · refine lv_iconst (v := 0) hx hb dX7_tellsLies_38 (by decide) ?_
        refine t_iadd hx hb dX7_tellsLies_39 (v := x) (Int32.add_zero _) ?_
        refine lv_istore_n (lv' := [(2, .int x), (0, .ref (o 0)), (1, .int v), (3, .int (nI k))]) hx hb dX7_tellsLies_40 rfl hl (by decide) rfl (fun ls hl => ?_)
        refine lv_iinc (v := nI (k + 1)) (lv' := [(3, .int (nI (k + 1))), (2, .int x), (0, .ref (o 0)), (1, .int v)]) hx hb dX7_tellsLies_41 hl (k := 3) rfl (zinc k 1) (by decide) rfl (fun ls hl => ?_)
        refine lv_goto (tgt := 4) hx hb dX7_tellsLies_44 (by decide) ?_
        exact ih (k + 1) x ls (by omega) (by first | exact j2.trans (zcnt_t (by simp [c_7_3, c_17_4])) | exact j2.trans (zcnt_f (by simp [c_7_3, c_17_4]))) (lv_sub hl [2, 3, 1, 0] rfl)
      · refine lv_aload_n hx hb dX7_tellsLies_20 rfl (lv_at hl 0 rfl) ?_
        refine lv_iload_n hx hb dX7_tellsLies_21 rfl (lv_at hl 3 rfl) ?_
        refine lv_aload_n hx hb dX7_tellsLies_22 rfl (lv_at hl 0 rfl) ?_
        refine z_get S in_lay_X7 hK hP rfl 0 rfl 1 (by decide) fl_X7_7 rfl rfl dX7_tellsLies_23 ?_
        refine lv_iconst (v := 0) hx hb dX7_tellsLies_26 (by decide) ?_
        refine z_iald S hK hP 1 rfl (j := 0) (by omega) (by decide) dX7_tellsLies_27 ?_
        refine zcr (As := [.int (nI k), .int (sf 0)]) (rest := [.int x]) (q0 := 0) S (c_X7_isSeen l D ca o f0 f2 f3 f4 f5 f6 f7 f8 f9 f10 sf k (by omega) (sf 0)) ml_X7_63 zy_X7_isSeen im_X7_isSeen se_X7_isSeen ⟨Nat.le_of_ble_eq_true rfl, Nat.le_of_ble_eq_true rfl⟩ hK hP [0, 1] rfl rfl rfl rfl rfl hl.1 rfl (Nat.le_of_ble_eq_true rfl) ⟨Nat.zero_le _, Nat.zero_le _⟩ dX7_tellsLies_28 ?_
        refine zz_ne (tgt := 38) hx hb dX7_tellsLies_31 (by decide) (fun c_31_5 => ?_) (fun c_31_5 => ?_)
        · refine lv_iconst (v := 0) hx hb dX7_tellsLies_38 (by decide) ?_
          refine t_iadd hx hb dX7_tellsLies_39 (v := x) (Int32.add_zero _) ?_
          refine lv_istore_n (lv' := [(2, .int x), (0, .ref (o 0)), (1, .int v), (3, .int (nI k))]) hx hb dX7_tellsLies_40 rfl hl (by decide) rfl (fun ls hl => ?_)
          refine lv_iinc (v := nI (k + 1)) (lv' := [(3, .int (nI (k + 1))), (2, .int x), (0, .ref (o 0)), (1, .int v)]) hx hb dX7_tellsLies_41 hl (k := 3) rfl (zinc k 1) (by decide) rfl (fun ls hl => ?_)
          refine lv_goto (tgt := 4) hx hb dX7_tellsLies_44 (by decide) ?_
          exact ih (k + 1) x ls (by omega) (by first | exact j2.trans (zcnt_t (by simp [c_7_3, c_17_4, c_31_5])) | exact j2.trans (zcnt_f (by simp [c_7_3, c_17_4, c_31_5]))) (lv_sub hl [2, 3, 1, 0] rfl)
        · refine lv_iconst (v := 1) hx hb dX7_tellsLies_34 (by decide) ?_
          refine lv_goto (tgt := 39) hx hb dX7_tellsLies_35 (by decide) ?_
          refine lv_iadd hx hb dX7_tellsLies_39 ?_
          refine lv_istore_n (lv' := [(2, .int (x + 1)), (0, .ref (o 0)), (1, .int v), (3, .int (nI k))]) hx hb dX7_tellsLies_40 rfl hl (by decide) rfl (fun ls hl => ?_)
          refine lv_iinc (v := nI (k + 1)) (lv' := [(3, .int (nI (k + 1))), (2, .int (x + 1)), (0, .ref (o 0)), (1, .int v)]) hx hb dX7_tellsLies_41 hl (k := 3) rfl (zinc k 1) (by decide) rfl (fun ls hl => ?_)
          refine lv_goto (tgt := 4) hx hb dX7_tellsLies_44 (by decide) ?_
          exact ih (k + 1) (x + 1) ls (by omega) (by first | exact j2.trans (zcnt_t (by simp [c_7_3, c_17_4, c_31_5])) | exact j2.trans (zcnt_f (by simp [c_7_3, c_17_4, c_31_5]))) (lv_sub hl [2, 3, 1, 0] rfl)
  exact loop_0 24 0 0 ls (by omega) (by rfl) (lv_sub hl [2, 3, 1, 0] rfl)
set_option maxHeartbeats 4000000 in
set_option maxRecDepth 100000 in
theorem c_X7_cheapestWay (l : Launch) (D : va_G) (ca : Nat → ClassId) (o : Nat → Nat) (f0 f2 f3 f4 f5 f6 f7 f8 f9 f10 : Value) (sf : Nat → Int32) (v : Int32) : zMr l yX7_cheapestWay cX7_cheapestWay 4 (some .int) 4 95 D ca [(o 0, .inr (7, [f0, .ref (o 1), f2, f3, f4, f5, f6, f7, f8, f9, f10])), (o 1, .inl (ca 0, 99, .inl sf))] [.ref (o 0), .int v] (.int (nI (rLc sf v))) := by
  refine zMr_of (own := RX7) (by decide) rfl (Nat.le_of_ble_eq_true rfl) ?_
  intro p e s m args below meth c ls S hr hlk hP hK hl
  have hx := S.1
  have hb := S.2.1
  have hl : lv_has ls 4 [(0, .ref (o 0)), (1, .int v)] := hl
  refine lv_iconst (v := 0) hx hb dX7_cheapestWay_0 (by decide) ?_
  refine lv_istore_n (lv' := [(2, .int 0), (0, .ref (o 0)), (1, .int v)]) hx hb dX7_cheapestWay_1 rfl hl (by decide) rfl (fun ls hl => ?_)
  refine lv_iconst (v := 1) hx hb dX7_cheapestWay_2 (by decide) ?_
  refine lv_istore_n (lv' := [(3, .int 1), (2, .int 0), (0, .ref (o 0)), (1, .int v)]) hx hb dX7_cheapestWay_3 rfl hl (by decide) rfl (fun ls hl => ?_)
  have loop_0 : ∀ (f : Nat) (k : Nat) (b : Nat) (ls : Array Slot), k + f = 3 → b < 3 → rLc sf v = zlcF (rCost sf (sf 0) v) f k b → lv_has ls 4 [(0, .ref (o 0)), (1, .int v), (2, .int (nI b)), (3, .int (nI k))] → W p l e { frames := 4, cells := 0, slots := 0, locals := 95 } s m args below meth c s.heap [] 0 0 (MQ below (zQr (.int (nI (rLc sf v)))) args s 0 0 (fun _ => False)) (F0 m 4 ls []) := by
    intro f
    induction f with
    | zero =>
      intro k b ls j1 j3 j2 hl
      refine lv_iload_n hx hb dX7_cheapestWay_4 rfl (lv_at hl 3 rfl) ?_
      refine lv_iconst (v := 3) hx hb dX7_cheapestWay_5 (by decide) ?_
      refine zn_ge hx hb (x := k) (y := 3) (by omega) (by omega) (tgt := 48) dX7_cheapestWay_6 (by decide) (fun c_6_2 => ?_) (fun h => False.elim (by omega))
      refine lv_iload_n hx hb dX7_cheapestWay_48 rfl (lv_at hl 2 rfl) ?_
      exact zr_i hx hb hr hlk (by exact congrArg nI j2.symm) dX7_cheapestWay_49
    | succ f ih =>
      intro k b ls j1 j3 j2 hl
      refine lv_iload_n hx hb dX7_cheapestWay_4 rfl (lv_at hl 3 rfl) ?_
      refine lv_iconst (v := 3) hx hb dX7_cheapestWay_5 (by decide) ?_
      refine zn_ge hx hb (x := k) (y := 3) (by omega) (by omega) (tgt := 48) dX7_cheapestWay_6 (by decide) (fun h => False.elim (by omega)) (fun c_6_3 => ?_)
      refine lv_aload_n hx hb dX7_cheapestWay_9 rfl (lv_at hl 0 rfl) ?_
      refine lv_aload_n hx hb dX7_cheapestWay_10 rfl (lv_at hl 0 rfl) ?_
      refine z_get S in_lay_X7 hK hP rfl 0 rfl 1 (by decide) fl_X7_7 rfl rfl dX7_cheapestWay_11 ?_
      refine lv_iconst (v := 0) hx hb dX7_cheapestWay_14 (by decide) ?_
      refine z_iald S hK hP 1 rfl (j := 0) (by omega) (by decide) dX7_cheapestWay_15 ?_
      refine lv_iload_n hx hb dX7_cheapestWay_16 rfl (lv_at hl 1 rfl) ?_
      refine lv_iload_n hx hb dX7_cheapestWay_17 rfl (lv_at hl 3 rfl) ?_
      refine zcr (As := [.int (sf 0), .int v, .int (nI k)]) (rest := []) (q0 := 0) S (c_X7_costs l D ca o f0 f2 f3 f4 f5 f6 f7 f8 f9 f10 sf (sf 0) v k (by omega)) ml_X7_123 zy_X7_costs im_X7_costs se_X7_costs ⟨Nat.le_of_ble_eq_true rfl, Nat.le_of_ble_eq_true rfl⟩ hK hP [0, 1] rfl rfl rfl rfl rfl hl.1 rfl (Nat.le_of_ble_eq_true rfl) ⟨Nat.zero_le _, Nat.zero_le _⟩ dX7_cheapestWay_18 ?_
      refine lv_aload_n hx hb dX7_cheapestWay_21 rfl (lv_at hl 0 rfl) ?_
      refine lv_aload_n hx hb dX7_cheapestWay_22 rfl (lv_at hl 0 rfl) ?_
      refine z_get S in_lay_X7 hK hP rfl 0 rfl 1 (by decide) fl_X7_7 rfl rfl dX7_cheapestWay_23 ?_
      refine lv_iconst (v := 0) hx hb dX7_cheapestWay_26 (by decide) ?_
      refine z_iald S hK hP 1 rfl (j := 0) (by omega) (by decide) dX7_cheapestWay_27 ?_
      refine lv_iload_n hx hb dX7_cheapestWay_28 rfl (lv_at hl 1 rfl) ?_
      refine lv_iload_n hx hb dX7_cheapestWay_29 rfl (lv_at hl 2 rfl) ?_
      refine zcr (As := [.int (sf 0), .int v, .int (nI b)]) (rest := [.int (rCost sf (sf 0) v k)]) (q0 := 0) S (c_X7_costs l D ca o f0 f2 f3 f4 f5 f6 f7 f8 f9 f10 sf (sf 0) v b (by omega)) ml_X7_123 zy_X7_costs im_X7_costs se_X7_costs ⟨Nat.le_of_ble_eq_true rfl, Nat.le_of_ble_eq_true rfl⟩ hK hP [0, 1] rfl rfl rfl rfl rfl hl.1 rfl (Nat.le_of_ble_eq_true rfl) ⟨Nat.zero_le _, Nat.zero_le _⟩ dX7_cheapestWay_30 ?_
      refine lv_icmp_gt (tgt := 40) hx hb dX7_cheapestWay_33 (by decide) (fun c_33_4 => ?_) (fun c_33_4 => ?_)
      · refine lv_iload_n hx hb dX7_cheapestWay_40 rfl (lv_at hl 2 rfl) ?_
        refine lv_istore_n (lv' := [(2, .int (nI b)), (0, .ref (o 0)), (1, .int v), (3, .int (nI k))]) hx hb dX7_cheapestWay_41 rfl hl (by decide) rfl (fun ls hl => ?_)
        refine lv_iinc (v := nI (k + 1)) (lv' := [(3, .int (nI (k + 1))), (2, .int (nI b)), (0, .ref (o 0)), (1, .int v)]) hx hb dX7_cheapestWay_42 hl (k := 3) rfl (zinc k 1) (by decide) rfl (fun ls hl => ?_)
        refine lv_goto (tgt := 4) hx hb dX7_cheapestWay_45 (by decide) ?_
        exact ih (k + 1) b ls (by omega) (by omega) (by first | (rw [j2]; simp [zlcF, c_6_3, c_33_4]; done) | simp [zlcF, j2, c_6_3, c_33_4]) (lv_sub hl [2, 3, 1, 0] rfl)
      · refine lv_iload_n hx hb dX7_cheapestWay_36 rfl (lv_at hl 3 rfl) ?_
        refine lv_goto (tgt := 41) hx hb dX7_cheapestWay_37 (by decide) ?_
        refine lv_istore_n (lv' := [(2, .int (nI k)), (0, .ref (o 0)), (1, .int v), (3, .int (nI k))]) hx hb dX7_cheapestWay_41 rfl hl (by decide) rfl (fun ls hl => ?_)
        refine lv_iinc (v := nI (k + 1)) (lv' := [(3, .int (nI (k + 1))), (2, .int (nI k)), (0, .ref (o 0)), (1, .int v)]) hx hb dX7_cheapestWay_42 hl (k := 3) rfl (zinc k 1) (by decide) rfl (fun ls hl => ?_)
        refine lv_goto (tgt := 4) hx hb dX7_cheapestWay_45 (by decide) ?_
        exact ih (k + 1) k ls (by omega) (by omega) (by first | (rw [j2]; simp [zlcF, c_6_3, c_33_4]; done) | simp [zlcF, j2, c_6_3, c_33_4]) (lv_sub hl [2, 3, 1, 0] rfl)
  exact loop_0 2 1 0 ls (by omega) (by omega) (by rfl) (lv_sub hl [2, 3, 1, 0] rfl)
set_option maxHeartbeats 4000000 in
set_option maxRecDepth 100000 in
theorem c_X7_oldOnes (l : Launch) (D : va_G) (ca : Nat → ClassId) (o : Nat → Nat) (f0 f2 f3 f4 f5 f6 f7 f8 f9 f10 : Value) (sf : Nat → Int32) (t : Int32) : zMr l yX7_oldOnes cX7_oldOnes 4 (some .int) 4 89 D ca [(o 0, .inr (7, [f0, .ref (o 1), f2, f3, f4, f5, f6, f7, f8, f9, f10])), (o 1, .inl (ca 0, 99, .inl sf))] [.ref (o 0), .int t] (.int (rOo sf t)) := by
  refine zMr_of (own := RX7) (by decide) rfl (Nat.le_of_ble_eq_true rfl) ?_
  intro p e s m args below meth c ls S hr hlk hP hK hl
  have hx := S.1
  have hb := S.2.1
  have hl : lv_has ls 4 [(0, .ref (o 0)), (1, .int t)] := hl
  refine lv_iconst (v := 0) hx hb dX7_oldOnes_0 (by decide) ?_
  refine lv_istore_n (lv' := [(2, .int 0), (0, .ref (o 0)), (1, .int t)]) hx hb dX7_oldOnes_1 rfl hl (by decide) rfl (fun ls hl => ?_)
  refine lv_iconst (v := 0) hx hb dX7_oldOnes_2 (by decide) ?_
  refine lv_istore_n (lv' := [(3, .int 0), (2, .int 0), (0, .ref (o 0)), (1, .int t)]) hx hb dX7_oldOnes_3 rfl hl (by decide) rfl (fun ls hl => ?_)
  have loop_0 : ∀ (f : Nat) (k : Nat) (x : Int32) (ls : Array Slot), k + f = 6 → zsum (fun p => rOi sf p t) 6 0 0 = zsum (fun p => rOi sf p t) f k x → lv_has ls 4 [(0, .ref (o 0)), (1, .int t), (2, .int x), (3, .int (nI k))] → W p l e { frames := 4, cells := 0, slots := 0, locals := 89 } s m args below meth c s.heap [] 0 0 (MQ below (zQr (.int (rOo sf t))) args s 0 0 (fun _ => False)) (F0 m 4 ls []) := by
    intro f
    induction f with
    | zero =>
      intro k x ls j1 j2 hl
      refine lv_iload_n hx hb dX7_oldOnes_4 rfl (lv_at hl 3 rfl) ?_
      refine lv_bipush (v := 6) hx hb dX7_oldOnes_5 (by decide) ?_
      refine zn_ge hx hb (x := k) (y := 6) (by omega) (by omega) (tgt := 25) dX7_oldOnes_7 (by decide) (fun c_7_2 => ?_) (fun h => False.elim (by omega))
      refine lv_iload_n hx hb dX7_oldOnes_25 rfl (lv_at hl 2 rfl) ?_
      exact zr_i hx hb hr hlk (by exact j2.symm) dX7_oldOnes_26
    | succ f ih =>
      intro k x ls j1 j2 hl
      refine lv_iload_n hx hb dX7_oldOnes_4 rfl (lv_at hl 3 rfl) ?_
      refine lv_bipush (v := 6) hx hb dX7_oldOnes_5 (by decide) ?_
      refine zn_ge hx hb (x := k) (y := 6) (by omega) (by omega) (tgt := 25) dX7_oldOnes_7 (by decide) (fun h => False.elim (by omega)) (fun c_7_3 => ?_)
      refine lv_iload_n hx hb dX7_oldOnes_10 rfl (lv_at hl 2 rfl) ?_
      refine lv_aload_n hx hb dX7_oldOnes_11 rfl (lv_at hl 0 rfl) ?_
      refine lv_iload_n hx hb dX7_oldOnes_12 rfl (lv_at hl 3 rfl) ?_
      refine lv_iload_n hx hb dX7_oldOnes_13 rfl (lv_at hl 1 rfl) ?_
      refine zcr (As := [.int (nI k), .int t]) (rest := [.int x]) (q0 := 0) S (c_X7_oldIn l D ca o f0 f2 f3 f4 f5 f6 f7 f8 f9 f10 sf k (by omega) t) ml_X7_96 zy_X7_oldIn im_X7_oldIn se_X7_oldIn ⟨Nat.le_of_ble_eq_true rfl, Nat.le_of_ble_eq_true rfl⟩ hK hP [0, 1] rfl rfl rfl rfl rfl hl.1 rfl (Nat.le_of_ble_eq_true rfl) ⟨Nat.zero_le _, Nat.zero_le _⟩ dX7_oldOnes_14 ?_
      refine lv_iadd hx hb dX7_oldOnes_17 ?_
      refine lv_istore_n (lv' := [(2, .int (x + (rOi sf k t))), (0, .ref (o 0)), (1, .int t), (3, .int (nI k))]) hx hb dX7_oldOnes_18 rfl hl (by decide) rfl (fun ls hl => ?_)
      refine lv_iinc (v := nI (k + 1)) (lv' := [(3, .int (nI (k + 1))), (2, .int (x + (rOi sf k t))), (0, .ref (o 0)), (1, .int t)]) hx hb dX7_oldOnes_19 hl (k := 3) rfl (zinc k 1) (by decide) rfl (fun ls hl => ?_)
      refine lv_goto (tgt := 4) hx hb dX7_oldOnes_22 (by decide) ?_
      exact ih (k + 1) (x + (rOi sf k t)) ls (by omega) (by exact j2) (lv_sub hl [2, 3, 1, 0] rfl)
  exact loop_0 6 0 0 ls (by omega) (by rfl) (lv_sub hl [2, 3, 1, 0] rfl)
set_option maxHeartbeats 4000000 in
set_option maxRecDepth 100000 in
theorem c_X7_holderNow (l : Launch) (D : va_G) (ca : Nat → ClassId) (o : Nat → Nat) (f0 f2 f3 f4 f5 f6 f7 f8 f9 f10 : Value) (sf : Nat → Int32)  : zMr l yX7_holderNow cX7_holderNow 5 (some .int) 5 112 D ca [(o 0, .inr (7, [f0, .ref (o 1), f2, f3, f4, f5, f6, f7, f8, f9, f10])), (o 1, .inl (ca 0, 99, .inl sf))] [.ref (o 0)] (.int (rHo sf)) := by
  refine zMr_of (own := RX7) (by decide) rfl (Nat.le_of_ble_eq_true rfl) ?_
  intro p e s m args below meth c ls S hr hlk hP hK hl
  have hx := S.1
  have hb := S.2.1
  have hl : lv_has ls 5 [(0, .ref (o 0))] := hl
  refine lv_iconst (v := (-1)) hx hb dX7_holderNow_0 (by decide) ?_
  refine lv_istore_n (lv' := [(1, .int (-1)), (0, .ref (o 0))]) hx hb dX7_holderNow_1 rfl hl (by decide) rfl (fun ls hl => ?_)
  refine lv_aload_n hx hb dX7_holderNow_2 rfl (lv_at hl 1 rfl) ?_
  refine lv_aload_n hx hb dX7_holderNow_3 rfl (lv_at hl 1 rfl) ?_
  refine zcr (As := []) (rest := [.ref (o 0)]) (q0 := 0) S (c_X7_horizon l D ca o f0 f2 f3 f4 f5 f6 f7 f8 f9 f10 sf ) ml_X7_93 zy_X7_horizon im_X7_horizon se_X7_horizon ⟨Nat.le_of_ble_eq_true rfl, Nat.le_of_ble_eq_true rfl⟩ hK hP [0, 1] rfl rfl rfl rfl rfl hl.1 rfl (Nat.le_of_ble_eq_true rfl) ⟨Nat.zero_le _, Nat.zero_le _⟩ dX7_holderNow_4 ?_
  refine zcr (As := [.int (rHb sf (-1))]) (rest := []) (q0 := 0) S (c_X7_oldOnes l D ca o f0 f2 f3 f4 f5 f6 f7 f8 f9 f10 sf (rHb sf (-1))) ml_X7_182 zy_X7_oldOnes im_X7_oldOnes se_X7_oldOnes ⟨Nat.le_of_ble_eq_true rfl, Nat.le_of_ble_eq_true rfl⟩ hK hP [0, 1] rfl rfl rfl rfl rfl hl.1 rfl (Nat.le_of_ble_eq_true rfl) ⟨Nat.zero_le _, Nat.zero_le _⟩ dX7_holderNow_7 ?_
  refine lv_istore_n (lv' := [(2, .int (rOo sf (rHb sf (-1)))), (1, .int (-1)), (0, .ref (o 0))]) hx hb dX7_holderNow_10 rfl hl (by decide) rfl (fun ls hl => ?_)
  refine lv_iconst (v := 0) hx hb dX7_holderNow_11 (by decide) ?_
  refine lv_istore_n (lv' := [(3, .int 0), (2, .int (rOo sf (rHb sf (-1)))), (1, .int (-1)), (0, .ref (o 0))]) hx hb dX7_holderNow_12 rfl hl (by decide) rfl (fun ls hl => ?_)
  have loop_0 : ∀ (f : Nat) (k : Nat) (b : Int32) (x : Int32) (ls : Array Slot), k + f = 4 → rHo sf = rhn sf f k b x → lv_has ls 5 [(0, .ref (o 0)), (1, .int b), (2, .int x), (3, .int (nI k))] → W p l e { frames := 5, cells := 0, slots := 0, locals := 112 } s m args below meth c s.heap [] 0 0 (MQ below (zQr (.int (rHo sf))) args s 0 0 (fun _ => False)) (F0 m 13 ls []) := by
    intro f
    induction f with
    | zero =>
      intro k b x ls j1 j2 hl
      refine lv_iload_n hx hb dX7_holderNow_13 rfl (lv_at hl 3 rfl) ?_
      refine lv_iconst (v := 4) hx hb dX7_holderNow_14 (by decide) ?_
      refine zn_ge hx hb (x := k) (y := 4) (by omega) (by omega) (tgt := 73) dX7_holderNow_15 (by decide) (fun c_15_2 => ?_) (fun h => False.elim (by omega))
      refine lv_iload_n hx hb dX7_holderNow_73 rfl (lv_at hl 1 rfl) ?_
      exact zr_i hx hb hr hlk (by exact j2.symm) dX7_holderNow_74
    | succ f ih =>
      intro k b x ls j1 j2 hl
      refine lv_iload_n hx hb dX7_holderNow_13 rfl (lv_at hl 3 rfl) ?_
      refine lv_iconst (v := 4) hx hb dX7_holderNow_14 (by decide) ?_
      refine zn_ge hx hb (x := k) (y := 4) (by omega) (by omega) (tgt := 73) dX7_holderNow_15 (by decide) (fun h => False.elim (by omega)) (fun c_15_3 => ?_)
      refine lv_aload_n hx hb dX7_holderNow_18 rfl (lv_at hl 0 rfl) ?_
      refine lv_iload_n hx hb dX7_holderNow_19 rfl (lv_at hl 3 rfl) ?_
      refine zcr (As := [.int (nI k)]) (rest := []) (q0 := 0) S (c_X7_snapshotOf l D ca o f0 f2 f3 f4 f5 f6 f7 f8 f9 f10 sf k (by omega)) ml_X7_81 zy_X7_snapshotOf im_X7_snapshotOf se_X7_snapshotOf ⟨Nat.le_of_ble_eq_true rfl, Nat.le_of_ble_eq_true rfl⟩ hK hP [0, 1] rfl rfl rfl rfl rfl hl.1 rfl (Nat.le_of_ble_eq_true rfl) ⟨Nat.zero_le _, Nat.zero_le _⟩ dX7_holderNow_20 ?_
      refine lv_iconst (v := (-1)) hx hb dX7_holderNow_23 (by decide) ?_
      refine lv_icmp_ne (tgt := 31) hx hb dX7_holderNow_24 (by decide) (fun c_24_4 => ?_) (fun c_24_4 => ?_)
      · refine lv_aload_n hx hb dX7_holderNow_31 rfl (lv_at hl 0 rfl) ?_
        refine lv_aload_n hx hb dX7_holderNow_32 rfl (lv_at hl 0 rfl) ?_
        refine lv_iload_n hx hb dX7_holderNow_33 rfl (lv_at hl 3 rfl) ?_
        refine zcr (As := [.int (nI k)]) (rest := [.ref (o 0)]) (q0 := 0) S (c_X7_horizonBut l D ca o f0 f2 f3 f4 f5 f6 f7 f8 f9 f10 sf (nI k)) ml_X7_84 zy_X7_horizonBut im_X7_horizonBut se_X7_horizonBut ⟨Nat.le_of_ble_eq_true rfl, Nat.le_of_ble_eq_true rfl⟩ hK hP [0, 1] rfl rfl rfl rfl rfl hl.1 rfl (Nat.le_of_ble_eq_true rfl) ⟨Nat.zero_le _, Nat.zero_le _⟩ dX7_holderNow_34 ?_
        refine zcr (As := [.int (rHb sf (nI k))]) (rest := []) (q0 := 0) S (c_X7_oldOnes l D ca o f0 f2 f3 f4 f5 f6 f7 f8 f9 f10 sf (rHb sf (nI k))) ml_X7_182 zy_X7_oldOnes im_X7_oldOnes se_X7_oldOnes ⟨Nat.le_of_ble_eq_true rfl, Nat.le_of_ble_eq_true rfl⟩ hK hP [0, 1] rfl rfl rfl rfl rfl hl.1 rfl (Nat.le_of_ble_eq_true rfl) ⟨Nat.zero_le _, Nat.zero_le _⟩ dX7_holderNow_37 ?_
        refine lv_istore (lv' := [(4, .int (rOo sf (rHb sf (nI k)))), (0, .ref (o 0)), (1, .int b), (2, .int x), (3, .int (nI k))]) hx hb dX7_holderNow_40 hl (by decide) rfl (fun ls hl => ?_)
        refine lv_iload hx hb dX7_holderNow_42 (lv_at hl 0 rfl) ?_
        refine lv_iload_n hx hb dX7_holderNow_44 rfl (lv_at hl 3 rfl) ?_
        refine lv_icmp_le (tgt := 52) hx hb dX7_holderNow_45 (by decide) (fun c_45_5 => ?_) (fun c_45_5 => ?_)
        · refine lv_iload_n hx hb dX7_holderNow_52 rfl (lv_at hl 2 rfl) ?_
          refine lv_istore_n (lv' := [(1, .int b), (4, .int (rOo sf (rHb sf (nI k)))), (0, .ref (o 0)), (2, .int x), (3, .int (nI k))]) hx hb dX7_holderNow_53 rfl hl (by decide) rfl (fun ls hl => ?_)
          refine lv_iload hx hb dX7_holderNow_54 (lv_at hl 1 rfl) ?_
          refine lv_iload_n hx hb dX7_holderNow_56 rfl (lv_at hl 3 rfl) ?_
          refine lv_icmp_le (tgt := 65) hx hb dX7_holderNow_57 (by decide) (fun _ => ?_) (fun h => by first | exact absurd h c_45_5 | exact absurd c_45_5 h)
          refine lv_iload_n hx hb dX7_holderNow_65 rfl (lv_at hl 3 rfl) ?_
          refine lv_istore_n (lv' := [(2, .int x), (1, .int b), (4, .int (rOo sf (rHb sf (nI k)))), (0, .ref (o 0)), (3, .int (nI k))]) hx hb dX7_holderNow_66 rfl hl (by decide) rfl (fun ls hl => ?_)
          refine lv_iinc (v := nI (k + 1)) (lv' := [(3, .int (nI (k + 1))), (2, .int x), (1, .int b), (4, .int (rOo sf (rHb sf (nI k)))), (0, .ref (o 0))]) hx hb dX7_holderNow_67 hl (k := 4) rfl (zinc k 1) (by decide) rfl (fun ls hl => ?_)
          refine lv_goto (tgt := 13) hx hb dX7_holderNow_70 (by decide) ?_
          exact ih (k + 1) b x ls (by omega) (by rw [j2]; simp only [rhn, c_15_3, c_24_4, c_45_5, if_true, if_false]) (lv_sub hl [4, 2, 1, 0] rfl)
        · refine lv_iload_n hx hb dX7_holderNow_48 rfl (lv_at hl 4 rfl) ?_
          refine lv_goto (tgt := 53) hx hb dX7_holderNow_49 (by decide) ?_
          refine lv_istore_n (lv' := [(1, .int (nI k)), (4, .int (rOo sf (rHb sf (nI k)))), (0, .ref (o 0)), (2, .int x), (3, .int (nI k))]) hx hb dX7_holderNow_53 rfl hl (by decide) rfl (fun ls hl => ?_)
          refine lv_iload hx hb dX7_holderNow_54 (lv_at hl 1 rfl) ?_
          refine lv_iload_n hx hb dX7_holderNow_56 rfl (lv_at hl 3 rfl) ?_
          refine lv_icmp_le (tgt := 65) hx hb dX7_holderNow_57 (by decide) (fun h => by first | exact absurd h c_45_5 | exact absurd c_45_5 h) (fun _ => ?_)
          refine lv_iload hx hb dX7_holderNow_60 (lv_at hl 1 rfl) ?_
          refine lv_goto (tgt := 66) hx hb dX7_holderNow_62 (by decide) ?_
          refine lv_istore_n (lv' := [(2, .int (rOo sf (rHb sf (nI k)))), (1, .int (nI k)), (4, .int (rOo sf (rHb sf (nI k)))), (0, .ref (o 0)), (3, .int (nI k))]) hx hb dX7_holderNow_66 rfl hl (by decide) rfl (fun ls hl => ?_)
          refine lv_iinc (v := nI (k + 1)) (lv' := [(3, .int (nI (k + 1))), (2, .int (rOo sf (rHb sf (nI k)))), (1, .int (nI k)), (4, .int (rOo sf (rHb sf (nI k)))), (0, .ref (o 0))]) hx hb dX7_holderNow_67 hl (k := 4) rfl (zinc k 1) (by decide) rfl (fun ls hl => ?_)
          refine lv_goto (tgt := 13) hx hb dX7_holderNow_70 (by decide) ?_
          exact ih (k + 1) (nI k) (rOo sf (rHb sf (nI k))) ls (by omega) (by rw [j2]; simp only [rhn, c_15_3, c_24_4, c_45_5, if_true, if_false]) (lv_sub hl [4, 2, 1, 0] rfl)
      · refine lv_iconst (v := 0) hx hb dX7_holderNow_27 (by decide) ?_
        refine lv_goto (tgt := 40) hx hb dX7_holderNow_28 (by decide) ?_
        refine lv_istore (lv' := [(4, .int 0), (0, .ref (o 0)), (1, .int b), (2, .int x), (3, .int (nI k))]) hx hb dX7_holderNow_40 hl (by decide) rfl (fun ls hl => ?_)
        refine lv_iload hx hb dX7_holderNow_42 (lv_at hl 0 rfl) ?_
        refine lv_iload_n hx hb dX7_holderNow_44 rfl (lv_at hl 3 rfl) ?_
        refine lv_icmp_le (tgt := 52) hx hb dX7_holderNow_45 (by decide) (fun c_45_6 => ?_) (fun c_45_6 => ?_)
        · refine lv_iload_n hx hb dX7_holderNow_52 rfl (lv_at hl 2 rfl) ?_
          refine lv_istore_n (lv' := [(1, .int b), (4, .int 0), (0, .ref (o 0)), (2, .int x), (3, .int (nI k))]) hx hb dX7_holderNow_53 rfl hl (by decide) rfl (fun ls hl => ?_)
          refine lv_iload hx hb dX7_holderNow_54 (lv_at hl 1 rfl) ?_
          refine lv_iload_n hx hb dX7_holderNow_56 rfl (lv_at hl 3 rfl) ?_
          refine lv_icmp_le (tgt := 65) hx hb dX7_holderNow_57 (by decide) (fun _ => ?_) (fun h => by first | exact absurd h c_45_6 | exact absurd c_45_6 h)
          refine lv_iload_n hx hb dX7_holderNow_65 rfl (lv_at hl 3 rfl) ?_
          refine lv_istore_n (lv' := [(2, .int x), (1, .int b), (4, .int 0), (0, .ref (o 0)), (3, .int (nI k))]) hx hb dX7_holderNow_66 rfl hl (by decide) rfl (fun ls hl => ?_)
          refine lv_iinc (v := nI (k + 1)) (lv' := [(3, .int (nI (k + 1))), (2, .int x), (1, .int b), (4, .int 0), (0, .ref (o 0))]) hx hb dX7_holderNow_67 hl (k := 4) rfl (zinc k 1) (by decide) rfl (fun ls hl => ?_)
          refine lv_goto (tgt := 13) hx hb dX7_holderNow_70 (by decide) ?_
          exact ih (k + 1) b x ls (by omega) (by rw [j2]; simp only [rhn, c_15_3, c_24_4, c_45_6, if_true, if_false]) (lv_sub hl [4, 2, 1, 0] rfl)
        · refine lv_iload_n hx hb dX7_holderNow_48 rfl (lv_at hl 4 rfl) ?_
          refine lv_goto (tgt := 53) hx hb dX7_holderNow_49 (by decide) ?_
          refine lv_istore_n (lv' := [(1, .int (nI k)), (4, .int 0), (0, .ref (o 0)), (2, .int x), (3, .int (nI k))]) hx hb dX7_holderNow_53 rfl hl (by decide) rfl (fun ls hl => ?_)
          refine lv_iload hx hb dX7_holderNow_54 (lv_at hl 1 rfl) ?_
          refine lv_iload_n hx hb dX7_holderNow_56 rfl (lv_at hl 3 rfl) ?_
          refine lv_icmp_le (tgt := 65) hx hb dX7_holderNow_57 (by decide) (fun h => by first | exact absurd h c_45_6 | exact absurd c_45_6 h) (fun _ => ?_)
          refine lv_iload hx hb dX7_holderNow_60 (lv_at hl 1 rfl) ?_
          refine lv_goto (tgt := 66) hx hb dX7_holderNow_62 (by decide) ?_
          refine lv_istore_n (lv' := [(2, .int 0), (1, .int (nI k)), (4, .int 0), (0, .ref (o 0)), (3, .int (nI k))]) hx hb dX7_holderNow_66 rfl hl (by decide) rfl (fun ls hl => ?_)
          refine lv_iinc (v := nI (k + 1)) (lv' := [(3, .int (nI (k + 1))), (2, .int 0), (1, .int (nI k)), (4, .int 0), (0, .ref (o 0))]) hx hb dX7_holderNow_67 hl (k := 4) rfl (zinc k 1) (by decide) rfl (fun ls hl => ?_)
          refine lv_goto (tgt := 13) hx hb dX7_holderNow_70 (by decide) ?_
          exact ih (k + 1) (nI k) 0 ls (by omega) (by rw [j2]; simp only [rhn, c_15_3, c_24_4, c_45_6, if_true, if_false]) (lv_sub hl [4, 2, 1, 0] rfl)
  exact loop_0 4 0 (-1) (rOo sf (rHb sf (-1))) ls (by omega) (by rfl) (lv_sub hl [3, 2, 1, 0] rfl)
