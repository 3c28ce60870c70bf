set_option maxHeartbeats 4000000 in
set_option maxRecDepth 100000 in
theorem c_X0_horizonWithout (l : Launch) (D : va_G) (ca : Nat → ClassId) (a : Nat → Nat) (sn : Nat → Int32) (o ck : Int32) : zMr l yX0_horizonWithout cX0_horizonWithout 5 (some .int) 0 0 D ca [(a 6, .inr (0, [.ref (a 7), .ref (a 8)])), (a 7, .inl (ca 0, 4, .inl sn))] [.ref (a 6), .int o, .int ck] (.int (zHw sn o ck)) := by
  refine zMr_of (own := RX0) (by decide) rfl (Nat.le_of_ble_eq_true rfl) ?_
  intro p e s m args below meth c ls S hr hlk hP hK hl
  have hx := S.1
  have hb := S.2.1
  have hl : lv_has ls 5 [(0, .ref (a 6)), (1, .int o), (2, .int ck)] := hl
  refine lv_iload_n hx hb dX0_horizonWithout_0 rfl (lv_at hl 2 rfl) ?_
  refine lv_istore_n (lv' := [(3, .int ck), (0, .ref (a 6)), (1, .int o), (2, .int ck)]) hx hb dX0_horizonWithout_1 rfl hl (by decide) rfl (fun ls hl => ?_)
  refine lv_iconst (v := 0) hx hb dX0_horizonWithout_2 (by decide) ?_
  refine lv_istore (lv' := [(4, .int 0), (3, .int ck), (0, .ref (a 6)), (1, .int o), (2, .int ck)]) hx hb dX0_horizonWithout_3 hl (by decide) rfl (fun ls hl => ?_)
  have loop_0 : ∀ (f : Nat) (k : Nat) (x : Int32) (ls : Array Slot), k + f = 4 → zHw sn o ck = zhz sn o f k x → lv_has ls 5 [(0, .ref (a 6)), (1, .int o), (2, .int ck), (3, .int x), (4, .int (nI k))] → W p l e { frames := 0, cells := 0, slots := 0, locals := 0 } s m args below meth c s.heap [] 0 0 (MQ below (zQr (.int (zHw sn o ck))) args s 0 0 (fun _ => False)) (F0 m 5 ls []) := by
    intro f
    induction f with
    | zero =>
      intro k x ls j1 j2 hl
      refine lv_iload hx hb dX0_horizonWithout_5 (lv_at hl 4 rfl) ?_
      refine lv_iconst (v := 4) hx hb dX0_horizonWithout_7 (by decide) ?_
      refine zn_ge hx hb (x := k) (y := 4) (by omega) (by omega) (tgt := 53) dX0_horizonWithout_8 (by decide) (fun c_8_2 => ?_) (fun h => False.elim (by omega))
      refine lv_iload_n hx hb dX0_horizonWithout_53 rfl (lv_at hl 3 rfl) ?_
      exact zr_i hx hb hr hlk (by exact j2.symm) dX0_horizonWithout_54
    | succ f ih =>
      intro k x ls j1 j2 hl
      refine lv_iload hx hb dX0_horizonWithout_5 (lv_at hl 4 rfl) ?_
      refine lv_iconst (v := 4) hx hb dX0_horizonWithout_7 (by decide) ?_
      refine zn_ge hx hb (x := k) (y := 4) (by omega) (by omega) (tgt := 53) dX0_horizonWithout_8 (by decide) (fun h => False.elim (by omega)) (fun c_8_3 => ?_)
      refine lv_iload hx hb dX0_horizonWithout_11 (lv_at hl 4 rfl) ?_
      refine lv_iload_n hx hb dX0_horizonWithout_13 rfl (lv_at hl 1 rfl) ?_
      refine lv_icmp_eq (tgt := 47) hx hb dX0_horizonWithout_14 (by decide) (fun c_14_4 => ?_) (fun c_14_4 => ?_)
      · refine lv_iinc (v := nI (k + 1)) (lv' := [(4, .int (nI (k + 1))), (0, .ref (a 6)), (1, .int o), (2, .int ck), (3, .int x)]) hx hb dX0_horizonWithout_47 hl (k := 4) rfl (zinc k 1) (by decide) rfl (fun ls hl => ?_)
        refine lv_goto (tgt := 5) hx hb dX0_horizonWithout_50 (by decide) ?_
        exact ih (k + 1) x ls (by omega) (by rw [j2]; simp only [zhz, c_8_3, c_14_4, if_true, if_false]) (lv_sub hl [1, 2, 3, 4, 0] rfl)
      · refine lv_aload_n hx hb dX0_horizonWithout_17 rfl (lv_at hl 0 rfl) ?_
        refine z_get S in_lay_X0 hK hP rfl 0 rfl 0 (by decide) fl_X0_9 rfl rfl dX0_horizonWithout_18 ?_
        refine lv_iload hx hb dX0_horizonWithout_21 (lv_at hl 4 rfl) ?_
        refine z_iald S hK hP 1 rfl (j := k) (by omega) (by decide) dX0_horizonWithout_23 ?_
        refine lv_iconst (v := (-1)) hx hb dX0_horizonWithout_24 (by decide) ?_
        refine lv_icmp_eq (tgt := 47) hx hb dX0_horizonWithout_25 (by decide) (fun c_25_5 => ?_) (fun c_25_5 => ?_)
        · refine lv_iinc (v := nI (k + 1)) (lv' := [(4, .int (nI (k + 1))), (0, .ref (a 6)), (1, .int o), (2, .int ck), (3, .int x)]) hx hb dX0_horizonWithout_47 hl (k := 4) rfl (zinc k 1) (by decide) rfl (fun ls hl => ?_)
          refine lv_goto (tgt := 5) hx hb dX0_horizonWithout_50 (by decide) ?_
          exact ih (k + 1) x ls (by omega) (by rw [j2]; simp only [zhz, c_8_3, c_14_4, c_25_5, if_true, if_false]) (lv_sub hl [1, 2, 3, 4, 0] rfl)
        · refine lv_aload_n hx hb dX0_horizonWithout_28 rfl (lv_at hl 0 rfl) ?_
          refine z_get S in_lay_X0 hK hP rfl 0 rfl 0 (by decide) fl_X0_9 rfl rfl dX0_horizonWithout_29 ?_
          refine lv_iload hx hb dX0_horizonWithout_32 (lv_at hl 4 rfl) ?_
          refine z_iald S hK hP 1 rfl (j := k) (by omega) (by decide) dX0_horizonWithout_34 ?_
          refine lv_iload_n hx hb dX0_horizonWithout_35 rfl (lv_at hl 3 rfl) ?_
          refine lv_icmp_ge (tgt := 47) hx hb dX0_horizonWithout_36 (by decide) (fun c_36_6 => ?_) (fun c_36_6 => ?_)
          · refine lv_iinc (v := nI (k + 1)) (lv' := [(4, .int (nI (k + 1))), (0, .ref (a 6)), (1, .int o), (2, .int ck), (3, .int x)]) hx hb dX0_horizonWithout_47 hl (k := 4) rfl (zinc k 1) (by decide) rfl (fun ls hl => ?_)
            refine lv_goto (tgt := 5) hx hb dX0_horizonWithout_50 (by decide) ?_
            exact ih (k + 1) x ls (by omega) (by rw [j2]; simp only [zhz, c_8_3, c_14_4, c_25_5, c_36_6, if_true, if_false]) (lv_sub hl [1, 2, 3, 4, 0] rfl)
          · refine lv_aload_n hx hb dX0_horizonWithout_39 rfl (lv_at hl 0 rfl) ?_
            refine z_get S in_lay_X0 hK hP rfl 0 rfl 0 (by decide) fl_X0_9 rfl rfl dX0_horizonWithout_40 ?_
            refine lv_iload hx hb dX0_horizonWithout_43 (lv_at hl 4 rfl) ?_
            refine z_iald S hK hP 1 rfl (j := k) (by omega) (by decide) dX0_horizonWithout_45 ?_
            refine lv_istore_n (lv' := [(3, .int (sn k)), (0, .ref (a 6)), (1, .int o), (2, .int ck), (4, .int (nI k))]) hx hb dX0_horizonWithout_46 rfl hl (by decide) rfl (fun ls hl => ?_)
            refine lv_iinc (v := nI (k + 1)) (lv' := [(4, .int (nI (k + 1))), (3, .int (sn k)), (0, .ref (a 6)), (1, .int o), (2, .int ck)]) hx hb dX0_horizonWithout_47 hl (k := 4) rfl (zinc k 1) (by decide) rfl (fun ls hl => ?_)
            refine lv_goto (tgt := 5) hx hb dX0_horizonWithout_50 (by decide) ?_
            exact ih (k + 1) (sn k) ls (by omega) (by rw [j2]; simp only [zhz, c_8_3, c_14_4, c_25_5, c_36_6, if_true, if_false]) (lv_sub hl [2, 3, 4, 1, 0] rfl)
  exact loop_0 4 0 ck ls (by omega) (by rfl) (lv_sub hl [2, 3, 4, 1, 0] rfl)
set_option maxHeartbeats 4000000 in
set_option maxRecDepth 100000 in
theorem c_X2_horizon (l : Launch) (D : va_G) (ca : Nat → ClassId) (a : Nat → Nat) (Z : zSt) : zMr l yX2_horizon cX2_horizon 1 (some .int) 1 24 D ca [(a 0, .inr (2, [.ref (a 1), .ref (a 6), .ref (a 9)])), (a 1, .inr (3, [.ref (a 2), .ref (a 3), .ref (a 4), .ref (a 5), .int Z.1.2.2.2.2.1, .int Z.1.2.2.2.2.2])), (a 6, .inr (0, [.ref (a 7), .ref (a 8)])), (a 7, .inl (ca 0, 4, .inl Z.2.1.1))] [.ref (a 0)] (.int (zHor Z)) := by
  refine zMr_of (own := RX2) (by decide) rfl (Nat.le_of_ble_eq_true rfl) ?_
  intro p e s m args below meth c ls S hr hlk hP hK hl
  have hx := S.1
  have hb := S.2.1
  have hl : lv_has ls 1 [(0, .ref (a 0))] := hl
  refine lv_aload_n hx hb dX2_horizon_0 rfl (lv_at hl 0 rfl) ?_
  refine z_get S in_lay_X2 hK hP rfl 0 rfl 1 (by decide) fl_X2_21 rfl rfl dX2_horizon_1 ?_
  refine lv_iconst (v := (-1)) hx hb dX2_horizon_4 (by decide) ?_
  refine lv_aload_n hx hb dX2_horizon_5 rfl (lv_at hl 0 rfl) ?_
  refine z_get S in_lay_X2 hK hP rfl 0 rfl 0 (by decide) fl_X2_12 rfl rfl dX2_horizon_6 ?_
  refine z_get S in_lay_X3 hK hP rfl 1 rfl 4 (by decide) fl_X2_42 rfl rfl dX2_horizon_9 ?_
  refine zcr (As := [.int (-1), .int Z.1.2.2.2.2.1]) (rest := []) (q0 := 0) S (c_X0_horizonWithout l D ca a Z.2.1.1 (-1) Z.1.2.2.2.2.1) ml_X2_46 zy_X0_horizonWithout im_X0_horizonWithout se_X0_horizonWithout ⟨Nat.le_of_ble_eq_true rfl, Nat.le_of_ble_eq_true rfl⟩ hK hP [2, 3] rfl rfl rfl rfl rfl hl.1 rfl (Nat.le_of_ble_eq_true rfl) ⟨Nat.zero_le _, Nat.zero_le _⟩ dX2_horizon_12 ?_
  exact zr_i hx hb hr hlk (by rfl) dX2_horizon_15
set_option maxHeartbeats 4000000 in
set_option maxRecDepth 100000 in
theorem c_X4_add (l : Launch) (D : va_G) (ca : Nat → ClassId) (a : Nat → Nat) (Y : zTl) (w : Nat) (hw : w < 3) (x : Int32) (b : Bool) (hN : [a 9, a 10].Nodup) : zMw l yX4_add cX4_add 4 none 0 0 D ca [(a 9, .inr (4, [.ref (a 10), .int Y.2.1, .int Y.2.2])), (a 10, .inl (ca 0, 3, .inl Y.1))] ([(a 9, .inr (4, [.ref (a 10), .int ((zTly Y w x b).2.1), .int ((zTly Y w x b).2.2)])), (a 10, .inl (ca 0, 3, .inl ((zTly Y w x b).1)))]) [.ref (a 9), .int (nI w), .int x, .int (zb b)] none := by
  refine zMw_of (own := RX4) (by decide) rfl (Nat.le_of_ble_eq_true rfl) ?_
  intro p e s m args below meth c ls S hr hlk hP hK hl hS
  have hP : va_P D vwCl [(a 9, .inr (4, [.ref (a 10), .int Y.2.1, .int Y.2.2])), (a 10, .inl (ca 0, 3, .inl Y.1))] s.heap := hP
  have hS : va_S (zA [a 9, a 10]) s.heap s.heap [] := hS
  have hA : ∀ q ∈ [a 9, a 10], zA [a 9, a 10] q := fun _ h => h
  have hD := zDto (ws := [(a 9, .inr (4, [.ref (a 10), .int Y.2.1, .int Y.2.2])), (a 10, .inl (ca 0, 3, .inl Y.1))]) hN hA rfl
  have hx := S.1
  have hb := S.2.1
  have hl : lv_has ls 4 [(0, .ref (a 9)), (1, .int (nI w)), (2, .int x), (3, .int (zb b))] := hl
  refine lv_aload_n hx hb dX4_add_0 rfl (lv_at hl 0 rfl) ?_
  refine z_get S in_lay_X4 hK hP rfl 0 rfl 0 (by decide) fl_X4_9 rfl rfl dX4_add_1 ?_
  refine lv_iload_n hx hb dX4_add_4 rfl (lv_at hl 1 rfl) ?_
  refine lv_dup2_11 hx hb dX4_add_5 rfl rfl ?_
  refine z_iald S hK hP 1 rfl (j := w) (by omega) (by decide) dX4_add_6 ?_
  refine lv_iconst (v := 1) hx hb dX4_add_7 (by decide) ?_
  refine lv_iadd hx hb dX4_add_8 ?_
  refine z_iast S hK hP hD hS 1 rfl (j := w) (by omega) (by decide) dX4_add_9 (fun H locs hP hS => ?_)
  have hP : va_P D vwCl [(a 9, .inr (4, [.ref (a 10), .int Y.2.1, .int Y.2.2])), (a 10, .inl (ca 0, 3, .inl (upd Y.1 w ((Y.1 w) + 1))))] H := hP
  have hD := zDto (ws := [(a 9, .inr (4, [.ref (a 10), .int Y.2.1, .int Y.2.2])), (a 10, .inl (ca 0, 3, .inl (upd Y.1 w ((Y.1 w) + 1))))]) hN hA rfl
  refine lv_aload_n hx hb dX4_add_10 rfl (lv_at hl 0 rfl) ?_
  refine lv_dup hx hb dX4_add_11 rfl ?_
  refine z_get S in_lay_X4 hK hP rfl 0 rfl 2 (by decide) fl_X4_25 rfl rfl dX4_add_12 ?_
  refine lv_iload_n hx hb dX4_add_15 rfl (lv_at hl 2 rfl) ?_
  refine lv_iadd hx hb dX4_add_16 ?_
  refine z_put S in_lay_X4 tyX4_ok nmX4 hK hP hD hS rfl 0 rfl 2 (by decide) fl_X4_25 rfl rfl rfl rfl (Nat.le_of_ble_eq_true rfl) dX4_add_17 (fun H locs hP hS => ?_)
  have hP : va_P D vwCl [(a 9, .inr (4, [.ref (a 10), .int Y.2.1, .int (Y.2.2 + x)])), (a 10, .inl (ca 0, 3, .inl (upd Y.1 w ((Y.1 w) + 1))))] H := hP
  have hD := zDto (ws := [(a 9, .inr (4, [.ref (a 10), .int Y.2.1, .int (Y.2.2 + x)])), (a 10, .inl (ca 0, 3, .inl (upd Y.1 w ((Y.1 w) + 1))))]) hN hA rfl
  refine lv_iload_n hx hb dX4_add_20 rfl (lv_at hl 1 rfl) ?_
  refine lv_iconst (v := 2) hx hb dX4_add_21 (by decide) ?_
  refine zn_ne hx hb (x := w) (y := 2) (by omega) (by omega) (tgt := 39) dX4_add_22 (by decide) (fun c_22_1 => ?_) (fun c_22_1 => ?_)
  · have hz : zTly Y w x b = (upd Y.1 w ((Y.1 w) + 1), Y.2.1, Y.2.2 + x) := by simp [zTly, c_22_1]
    exact zw_v hx hb hr hlk hP hS (by rw [hz] <;> rfl) dX4_add_39
  · refine lv_iload_n hx hb dX4_add_25 rfl (lv_at hl 3 rfl) ?_
    refine zz_eq (tgt := 39) hx hb dX4_add_26 (by decide) (fun c_26_2 => ?_) (fun c_26_2 => ?_)
    · have hz : zTly Y w x b = (upd Y.1 w ((Y.1 w) + 1), Y.2.1, Y.2.2 + x) := by simp [zTly, c_22_1, c_26_2]
      exact zw_v hx hb hr hlk hP hS (by rw [hz] <;> rfl) dX4_add_39
    · refine lv_aload_n hx hb dX4_add_29 rfl (lv_at hl 0 rfl) ?_
      refine lv_dup hx hb dX4_add_30 rfl ?_
      refine z_get S in_lay_X4 hK hP rfl 0 rfl 1 (by decide) fl_X4_21 rfl rfl dX4_add_31 ?_
      refine lv_iconst (v := 1) hx hb dX4_add_34 (by decide) ?_
      refine lv_iadd hx hb dX4_add_35 ?_
      refine z_put S in_lay_X4 tyX4_ok nmX4 hK hP hD hS rfl 0 rfl 1 (by decide) fl_X4_21 rfl rfl rfl rfl (Nat.le_of_ble_eq_true rfl) dX4_add_36 (fun H locs hP hS => ?_)
      have hP : va_P D vwCl [(a 9, .inr (4, [.ref (a 10), .int (Y.2.1 + 1), .int (Y.2.2 + x)])), (a 10, .inl (ca 0, 3, .inl (upd Y.1 w ((Y.1 w) + 1))))] H := hP
      have hD := zDto (ws := [(a 9, .inr (4, [.ref (a 10), .int (Y.2.1 + 1), .int (Y.2.2 + x)])), (a 10, .inl (ca 0, 3, .inl (upd Y.1 w ((Y.1 w) + 1))))]) hN hA rfl
      have hz : zTly Y w x b = (upd Y.1 w ((Y.1 w) + 1), Y.2.1 + 1, Y.2.2 + x) := by simp [zTly, c_22_1, c_26_2]
      exact zw_v hx hb hr hlk hP hS (by rw [hz] <;> rfl) dX4_add_39
set_option maxHeartbeats 4000000 in
set_option maxRecDepth 100000 in
theorem c_X3_copyFrom (l : Launch) (D : va_G) (ca : Nat → ClassId) (a b : Nat → Nat) (T U : zTb) (hN : [a 1, a 2, a 3, a 4, a 5, b 1, b 2, b 3, b 4, b 5].Nodup) : zMw l yX3_copyFrom cX3_copyFrom 2 none 1 18 D ca [(a 1, .inr (3, [.ref (a 2), .ref (a 3), .ref (a 4), .ref (a 5), .int T.2.2.2.2.1, .int T.2.2.2.2.2])), (a 2, .inl (ca 0, 24, .inl T.1)), (a 3, .inl (ca 0, 24, .inl T.2.1)), (a 4, .inl (ca 0, 24, .inl T.2.2.1)), (a 5, .inl (ca 0, 6, .inl T.2.2.2.1)), (b 1, .inr (3, [.ref (b 2), .ref (b 3), .ref (b 4), .ref (b 5), .int U.2.2.2.2.1, .int U.2.2.2.2.2])), (b 2, .inl (ca 0, 24, .inl U.1)), (b 3, .inl (ca 0, 24, .inl U.2.1)), (b 4, .inl (ca 0, 24, .inl U.2.2.1)), (b 5, .inl (ca 0, 6, .inl U.2.2.2.1))] ([(a 1, .inr (3, [.ref (a 2), .ref (a 3), .ref (a 4), .ref (a 5), .int U.2.2.2.2.1, .int U.2.2.2.2.2])), (a 2, .inl (ca 0, 24, .inl U.1)), (a 3, .inl (ca 0, 24, .inl U.2.1)), (a 4, .inl (ca 0, 24, .inl U.2.2.1)), (a 5, .inl (ca 0, 6, .inl U.2.2.2.1)), (b 1, .inr (3, [.ref (b 2), .ref (b 3), .ref (b 4), .ref (b 5), .int U.2.2.2.2.1, .int U.2.2.2.2.2])), (b 2, .inl (ca 0, 24, .inl U.1)), (b 3, .inl (ca 0, 24, .inl U.2.1)), (b 4, .inl (ca 0, 24, .inl U.2.2.1)), (b 5, .inl (ca 0, 6, .inl U.2.2.2.1))]) [.ref (a 1), .ref (b 1)] none := by
  refine zMw_of (own := RX3) (by decide) rfl (Nat.le_of_ble_eq_true rfl) ?_
  intro p e s m args below meth c ls S hr hlk hP hK hl hS
  have hP : va_P D vwCl [(a 1, .inr (3, [.ref (a 2), .ref (a 3), .ref (a 4), .ref (a 5), .int T.2.2.2.2.1, .int T.2.2.2.2.2])), (a 2, .inl (ca 0, 24, .inl T.1)), (a 3, .inl (ca 0, 24, .inl T.2.1)), (a 4, .inl (ca 0, 24, .inl T.2.2.1)), (a 5, .inl (ca 0, 6, .inl T.2.2.2.1)), (b 1, .inr (3, [.ref (b 2), .ref (b 3), .ref (b 4), .ref (b 5), .int U.2.2.2.2.1, .int U.2.2.2.2.2])), (b 2, .inl (ca 0, 24, .inl U.1)), (b 3, .inl (ca 0, 24, .inl U.2.1)), (b 4, .inl (ca 0, 24, .inl U.2.2.1)), (b 5, .inl (ca 0, 6, .inl U.2.2.2.1))] s.heap := hP
  have hS : va_S (zA [a 1, a 2, a 3, a 4, a 5, b 1, b 2, b 3, b 4, b 5]) s.heap s.heap [] := hS
  have hA : ∀ q ∈ [a 1, a 2, a 3, a 4, a 5, b 1, b 2, b 3, b 4, b 5], zA [a 1, a 2, a 3, a 4, a 5, b 1, b 2, b 3, b 4, b 5] q := fun _ h => h
  have hD := zDto (ws := [(a 1, .inr (3, [.ref (a 2), .ref (a 3), .ref (a 4), .ref (a 5), .int T.2.2.2.2.1, .int T.2.2.2.2.2])), (a 2, .inl (ca 0, 24, .inl T.1)), (a 3, .inl (ca 0, 24, .inl T.2.1)), (a 4, .inl (ca 0, 24, .inl T.2.2.1)), (a 5, .inl (ca 0, 6, .inl T.2.2.2.1)), (b 1, .inr (3, [.ref (b 2), .ref (b 3), .ref (b 4), .ref (b 5), .int U.2.2.2.2.1, .int U.2.2.2.2.2])), (b 2, .inl (ca 0, 24, .inl U.1)), (b 3, .inl (ca 0, 24, .inl U.2.1)), (b 4, .inl (ca 0, 24, .inl U.2.2.1)), (b 5, .inl (ca 0, 6, .inl U.2.2.2.1))]) hN hA rfl
  have hx := S.1
  have hb := S.2.1
  have hl : lv_has ls 2 [(0, .ref (a 1)), (1, .ref (b 1))] := hl
  refine lv_aload_n hx hb dX3_copyFrom_0 rfl (lv_at hl 1 rfl) ?_
  refine z_get S in_lay_X3 hK hP rfl 5 rfl 0 (by decide) fl_X3_9 rfl rfl dX3_copyFrom_1 ?_
  refine lv_iconst (v := 0) hx hb dX3_copyFrom_4 (by decide) ?_
  refine lv_aload_n hx hb dX3_copyFrom_5 rfl (lv_at hl 0 rfl) ?_
  refine z_get S in_lay_X3 hK hP rfl 0 rfl 0 (by decide) fl_X3_9 rfl rfl dX3_copyFrom_6 ?_
  refine lv_iconst (v := 0) hx hb dX3_copyFrom_9 (by decide) ?_
  refine lv_bipush (v := 24) hx hb dX3_copyFrom_10 (by decide) ?_
  refine z_copyi (n := 24) (q0 := 6) (q1 := 1) (rest := []) S hl.1 ml_X3_30 hK hP hD hS rfl rfl (by decide) (Nat.le_of_ble_eq_true rfl) (by decide) dX3_copyFrom_12 (fun H locs hP hS => ?_)
  have hP : va_P D vwCl [(a 1, .inr (3, [.ref (a 2), .ref (a 3), .ref (a 4), .ref (a 5), .int T.2.2.2.2.1, .int T.2.2.2.2.2])), (a 2, .inl (ca 0, 24, .inl U.1)), (a 3, .inl (ca 0, 24, .inl T.2.1)), (a 4, .inl (ca 0, 24, .inl T.2.2.1)), (a 5, .inl (ca 0, 6, .inl T.2.2.2.1)), (b 1, .inr (3, [.ref (b 2), .ref (b 3), .ref (b 4), .ref (b 5), .int U.2.2.2.2.1, .int U.2.2.2.2.2])), (b 2, .inl (ca 0, 24, .inl U.1)), (b 3, .inl (ca 0, 24, .inl U.2.1)), (b 4, .inl (ca 0, 24, .inl U.2.2.1)), (b 5, .inl (ca 0, 6, .inl U.2.2.2.1))] H := hP
  have hD := zDto (ws := [(a 1, .inr (3, [.ref (a 2), .ref (a 3), .ref (a 4), .ref (a 5), .int T.2.2.2.2.1, .int T.2.2.2.2.2])), (a 2, .inl (ca 0, 24, .inl U.1)), (a 3, .inl (ca 0, 24, .inl T.2.1)), (a 4, .inl (ca 0, 24, .inl T.2.2.1)), (a 5, .inl (ca 0, 6, .inl T.2.2.2.1)), (b 1, .inr (3, [.ref (b 2), .ref (b 3), .ref (b 4), .ref (b 5), .int U.2.2.2.2.1, .int U.2.2.2.2.2])), (b 2, .inl (ca 0, 24, .inl U.1)), (b 3, .inl (ca 0, 24, .inl U.2.1)), (b 4, .inl (ca 0, 24, .inl U.2.2.1)), (b 5, .inl (ca 0, 6, .inl U.2.2.2.1))]) hN hA rfl
  refine lv_aload_n hx hb dX3_copyFrom_15 rfl (lv_at hl 1 rfl) ?_
  refine z_get S in_lay_X3 hK hP rfl 5 rfl 1 (by decide) fl_X3_15 rfl rfl dX3_copyFrom_16 ?_
  refine lv_iconst (v := 0) hx hb dX3_copyFrom_19 (by decide) ?_
  refine lv_aload_n hx hb dX3_copyFrom_20 rfl (lv_at hl 0 rfl) ?_
  refine z_get S in_lay_X3 hK hP rfl 0 rfl 1 (by decide) fl_X3_15 rfl rfl dX3_copyFrom_21 ?_
  refine lv_iconst (v := 0) hx hb dX3_copyFrom_24 (by decide) ?_
  refine lv_bipush (v := 24) hx hb dX3_copyFrom_25 (by decide) ?_
  refine z_copyi (n := 24) (q0 := 7) (q1 := 2) (rest := []) S hl.1 ml_X3_30 hK hP hD hS rfl rfl (by decide) (Nat.le_of_ble_eq_true rfl) (by decide) dX3_copyFrom_27 (fun H locs hP hS => ?_)
  have hP : va_P D vwCl [(a 1, .inr (3, [.ref (a 2), .ref (a 3), .ref (a 4), .ref (a 5), .int T.2.2.2.2.1, .int T.2.2.2.2.2])), (a 2, .inl (ca 0, 24, .inl U.1)), (a 3, .inl (ca 0, 24, .inl U.2.1)), (a 4, .inl (ca 0, 24, .inl T.2.2.1)), (a 5, .inl (ca 0, 6, .inl T.2.2.2.1)), (b 1, .inr (3, [.ref (b 2), .ref (b 3), .ref (b 4), .ref (b 5), .int U.2.2.2.2.1, .int U.2.2.2.2.2])), (b 2, .inl (ca 0, 24, .inl U.1)), (b 3, .inl (ca 0, 24, .inl U.2.1)), (b 4, .inl (ca 0, 24, .inl U.2.2.1)), (b 5, .inl (ca 0, 6, .inl U.2.2.2.1))] H := hP
  have hD := zDto (ws := [(a 1, .inr (3, [.ref (a 2), .ref (a 3), .ref (a 4), .ref (a 5), .int T.2.2.2.2.1, .int T.2.2.2.2.2])), (a 2, .inl (ca 0, 24, .inl U.1)), (a 3, .inl (ca 0, 24, .inl U.2.1)), (a 4, .inl (ca 0, 24, .inl T.2.2.1)), (a 5, .inl (ca 0, 6, .inl T.2.2.2.1)), (b 1, .inr (3, [.ref (b 2), .ref (b 3), .ref (b 4), .ref (b 5), .int U.2.2.2.2.1, .int U.2.2.2.2.2])), (b 2, .inl (ca 0, 24, .inl U.1)), (b 3, .inl (ca 0, 24, .inl U.2.1)), (b 4, .inl (ca 0, 24, .inl U.2.2.1)), (b 5, .inl (ca 0, 6, .inl U.2.2.2.1))]) hN hA rfl
  refine lv_aload_n hx hb dX3_copyFrom_30 rfl (lv_at hl 1 rfl) ?_
  refine z_get S in_lay_X3 hK hP rfl 5 rfl 2 (by decide) fl_X3_18 rfl rfl dX3_copyFrom_31 ?_
  refine lv_iconst (v := 0) hx hb dX3_copyFrom_34 (by decide) ?_
  refine lv_aload_n hx hb dX3_copyFrom_35 rfl (lv_at hl 0 rfl) ?_
  refine z_get S in_lay_X3 hK hP rfl 0 rfl 2 (by decide) fl_X3_18 rfl rfl dX3_copyFrom_36 ?_
  refine lv_iconst (v := 0) hx hb dX3_copyFrom_39 (by decide) ?_
  refine lv_bipush (v := 24) hx hb dX3_copyFrom_40 (by decide) ?_
  refine z_copyi (n := 24) (q0 := 8) (q1 := 3) (rest := []) S hl.1 ml_X3_30 hK hP hD hS rfl rfl (by decide) (Nat.le_of_ble_eq_true rfl) (by decide) dX3_copyFrom_42 (fun H locs hP hS => ?_)
  have hP : va_P D vwCl [(a 1, .inr (3, [.ref (a 2), .ref (a 3), .ref (a 4), .ref (a 5), .int T.2.2.2.2.1, .int T.2.2.2.2.2])), (a 2, .inl (ca 0, 24, .inl U.1)), (a 3, .inl (ca 0, 24, .inl U.2.1)), (a 4, .inl (ca 0, 24, .inl U.2.2.1)), (a 5, .inl (ca 0, 6, .inl T.2.2.2.1)), (b 1, .inr (3, [.ref (b 2), .ref (b 3), .ref (b 4), .ref (b 5), .int U.2.2.2.2.1, .int U.2.2.2.2.2])), (b 2, .inl (ca 0, 24, .inl U.1)), (b 3, .inl (ca 0, 24, .inl U.2.1)), (b 4, .inl (ca 0, 24, .inl U.2.2.1)), (b 5, .inl (ca 0, 6, .inl U.2.2.2.1))] H := hP
  have hD := zDto (ws := [(a 1, .inr (3, [.ref (a 2), .ref (a 3), .ref (a 4), .ref (a 5), .int T.2.2.2.2.1, .int T.2.2.2.2.2])), (a 2, .inl (ca 0, 24, .inl U.1)), (a 3, .inl (ca 0, 24, .inl U.2.1)), (a 4, .inl (ca 0, 24, .inl U.2.2.1)), (a 5, .inl (ca 0, 6, .inl T.2.2.2.1)), (b 1, .inr (3, [.ref (b 2), .ref (b 3), .ref (b 4), .ref (b 5), .int U.2.2.2.2.1, .int U.2.2.2.2.2])), (b 2, .inl (ca 0, 24, .inl U.1)), (b 3, .inl (ca 0, 24, .inl U.2.1)), (b 4, .inl (ca 0, 24, .inl U.2.2.1)), (b 5, .inl (ca 0, 6, .inl U.2.2.2.1))]) hN hA rfl
  refine lv_aload_n hx hb dX3_copyFrom_45 rfl (lv_at hl 1 rfl) ?_
  refine z_get S in_lay_X3 hK hP rfl 5 rfl 3 (by decide) fl_X3_21 rfl rfl dX3_copyFrom_46 ?_
  refine lv_iconst (v := 0) hx hb dX3_copyFrom_49 (by decide) ?_
  refine lv_aload_n hx hb dX3_copyFrom_50 rfl (lv_at hl 0 rfl) ?_
  refine z_get S in_lay_X3 hK hP rfl 0 rfl 3 (by decide) fl_X3_21 rfl rfl dX3_copyFrom_51 ?_
  refine lv_iconst (v := 0) hx hb dX3_copyFrom_54 (by decide) ?_
  refine lv_bipush (v := 6) hx hb dX3_copyFrom_55 (by decide) ?_
  refine z_copyi (n := 6) (q0 := 9) (q1 := 4) (rest := []) S hl.1 ml_X3_30 hK hP hD hS rfl rfl (by decide) (Nat.le_of_ble_eq_true rfl) (by decide) dX3_copyFrom_57 (fun H locs hP hS => ?_)
  have hP : va_P D vwCl [(a 1, .inr (3, [.ref (a 2), .ref (a 3), .ref (a 4), .ref (a 5), .int T.2.2.2.2.1, .int T.2.2.2.2.2])), (a 2, .inl (ca 0, 24, .inl U.1)), (a 3, .inl (ca 0, 24, .inl U.2.1)), (a 4, .inl (ca 0, 24, .inl U.2.2.1)), (a 5, .inl (ca 0, 6, .inl U.2.2.2.1)), (b 1, .inr (3, [.ref (b 2), .ref (b 3), .ref (b 4), .ref (b 5), .int U.2.2.2.2.1, .int U.2.2.2.2.2])), (b 2, .inl (ca 0, 24, .inl U.1)), (b 3, .inl (ca 0, 24, .inl U.2.1)), (b 4, .inl (ca 0, 24, .inl U.2.2.1)), (b 5, .inl (ca 0, 6, .inl U.2.2.2.1))] H := hP
  have hD := zDto (ws := [(a 1, .inr (3, [.ref (a 2), .ref (a 3), .ref (a 4), .ref (a 5), .int T.2.2.2.2.1, .int T.2.2.2.2.2])), (a 2, .inl (ca 0, 24, .inl U.1)), (a 3, .inl (ca 0, 24, .inl U.2.1)), (a 4, .inl (ca 0, 24, .inl U.2.2.1)), (a 5, .inl (ca 0, 6, .inl U.2.2.2.1)), (b 1, .inr (3, [.ref (b 2), .ref (b 3), .ref (b 4), .ref (b 5), .int U.2.2.2.2.1, .int U.2.2.2.2.2])), (b 2, .inl (ca 0, 24, .inl U.1)), (b 3, .inl (ca 0, 24, .inl U.2.1)), (b 4, .inl (ca 0, 24, .inl U.2.2.1)), (b 5, .inl (ca 0, 6, .inl U.2.2.2.1))]) hN hA rfl
  refine lv_aload_n hx hb dX3_copyFrom_60 rfl (lv_at hl 0 rfl) ?_
  refine lv_aload_n hx hb dX3_copyFrom_61 rfl (lv_at hl 1 rfl) ?_
  refine z_get S in_lay_X3 hK hP rfl 5 rfl 4 (by decide) fl_X3_36 rfl rfl dX3_copyFrom_62 ?_
  refine z_put S in_lay_X3 tyX3_ok nmX3 hK hP hD hS rfl 0 rfl 4 (by decide) fl_X3_36 rfl rfl rfl rfl (Nat.le_of_ble_eq_true rfl) dX3_copyFrom_65 (fun H locs hP hS => ?_)
  have hP : va_P D vwCl [(a 1, .inr (3, [.ref (a 2), .ref (a 3), .ref (a 4), .ref (a 5), .int U.2.2.2.2.1, .int T.2.2.2.2.2])), (a 2, .inl (ca 0, 24, .inl U.1)), (a 3, .inl (ca 0, 24, .inl U.2.1)), (a 4, .inl (ca 0, 24, .inl U.2.2.1)), (a 5, .inl (ca 0, 6, .inl U.2.2.2.1)), (b 1, .inr (3, [.ref (b 2), .ref (b 3), .ref (b 4), .ref (b 5), .int U.2.2.2.2.1, .int U.2.2.2.2.2])), (b 2, .inl (ca 0, 24, .inl U.1)), (b 3, .inl (ca 0, 24, .inl U.2.1)), (b 4, .inl (ca 0, 24, .inl U.2.2.1)), (b 5, .inl (ca 0, 6, .inl U.2.2.2.1))] H := hP
  have hD := zDto (ws := [(a 1, .inr (3, [.ref (a 2), .ref (a 3), .ref (a 4), .ref (a 5), .int U.2.2.2.2.1, .int T.2.2.2.2.2])), (a 2, .inl (ca 0, 24, .inl U.1)), (a 3, .inl (ca 0, 24, .inl U.2.1)), (a 4, .inl (ca 0, 24, .inl U.2.2.1)), (a 5, .inl (ca 0, 6, .inl U.2.2.2.1)), (b 1, .inr (3, [.ref (b 2), .ref (b 3), .ref (b 4), .ref (b 5), .int U.2.2.2.2.1, .int U.2.2.2.2.2])), (b 2, .inl (ca 0, 24, .inl U.1)), (b 3, .inl (ca 0, 24, .inl U.2.1)), (b 4, .inl (ca 0, 24, .inl U.2.2.1)), (b 5, .inl (ca 0, 6, .inl U.2.2.2.1))]) hN hA rfl
  refine lv_aload_n hx hb dX3_copyFrom_68 rfl (lv_at hl 0 rfl) ?_
  refine lv_aload_n hx hb dX3_copyFrom_69 rfl (lv_at hl 1 rfl) ?_
  refine z_get S in_lay_X3 hK hP rfl 5 rfl 5 (by decide) fl_X3_40 rfl rfl dX3_copyFrom_70 ?_
  refine z_put S in_lay_X3 tyX3_ok nmX3 hK hP hD hS rfl 0 rfl 5 (by decide) fl_X3_40 rfl rfl rfl rfl (Nat.le_of_ble_eq_true rfl) dX3_copyFrom_73 (fun H locs hP hS => ?_)
  have hP : va_P D vwCl [(a 1, .inr (3, [.ref (a 2), .ref (a 3), .ref (a 4), .ref (a 5), .int U.2.2.2.2.1, .int U.2.2.2.2.2])), (a 2, .inl (ca 0, 24, .inl U.1)), (a 3, .inl (ca 0, 24, .inl U.2.1)), (a 4, .inl (ca 0, 24, .inl U.2.2.1)), (a 5, .inl (ca 0, 6, .inl U.2.2.2.1)), (b 1, .inr (3, [.ref (b 2), .ref (b 3), .ref (b 4), .ref (b 5), .int U.2.2.2.2.1, .int U.2.2.2.2.2])), (b 2, .inl (ca 0, 24, .inl U.1)), (b 3, .inl (ca 0, 24, .inl U.2.1)), (b 4, .inl (ca 0, 24, .inl U.2.2.1)), (b 5, .inl (ca 0, 6, .inl U.2.2.2.1))] H := hP
  have hD := zDto (ws := [(a 1, .inr (3, [.ref (a 2), .ref (a 3), .ref (a 4), .ref (a 5), .int U.2.2.2.2.1, .int U.2.2.2.2.2])), (a 2, .inl (ca 0, 24, .inl U.1)), (a 3, .inl (ca 0, 24, .inl U.2.1)), (a 4, .inl (ca 0, 24, .inl U.2.2.1)), (a 5, .inl (ca 0, 6, .inl U.2.2.2.1)), (b 1, .inr (3, [.ref (b 2), .ref (b 3), .ref (b 4), .ref (b 5), .int U.2.2.2.2.1, .int U.2.2.2.2.2])), (b 2, .inl (ca 0, 24, .inl U.1)), (b 3, .inl (ca 0, 24, .inl U.2.1)), (b 4, .inl (ca 0, 24, .inl U.2.2.1)), (b 5, .inl (ca 0, 6, .inl U.2.2.2.1))]) hN hA rfl
  exact zw_v hx hb hr hlk hP hS (by rfl) dX3_copyFrom_76
set_option maxHeartbeats 4000000 in
set_option maxRecDepth 100000 in
theorem c_X0_copyFrom (l : Launch) (D : va_G) (ca : Nat → ClassId) (a b : Nat → Nat) (T U : zAk) (hN : [a 6, a 7, a 8, b 6, b 7, b 8].Nodup) : zMw l yX0_copyFrom cX0_copyFrom 2 none 1 18 D ca [(a 6, .inr (0, [.ref (a 7), .ref (a 8)])), (a 7, .inl (ca 0, 4, .inl T.1)), (a 8, .inl (ca 0, 4, .inl T.2)), (b 6, .inr (0, [.ref (b 7), .ref (b 8)])), (b 7, .inl (ca 0, 4, .inl U.1)), (b 8, .inl (ca 0, 4, .inl U.2))] ([(a 6, .inr (0, [.ref (a 7), .ref (a 8)])), (a 7, .inl (ca 0, 4, .inl U.1)), (a 8, .inl (ca 0, 4, .inl U.2)), (b 6, .inr (0, [.ref (b 7), .ref (b 8)])), (b 7, .inl (ca 0, 4, .inl U.1)), (b 8, .inl (ca 0, 4, .inl U.2))]) [.ref (a 6), .ref (b 6)] none := by
  refine zMw_of (own := RX0) (by decide) rfl (Nat.le_of_ble_eq_true rfl) ?_
  intro p e s m args below meth c ls S hr hlk hP hK hl hS
  have hP : va_P D vwCl [(a 6, .inr (0, [.ref (a 7), .ref (a 8)])), (a 7, .inl (ca 0, 4, .inl T.1)), (a 8, .inl (ca 0, 4, .inl T.2)), (b 6, .inr (0, [.ref (b 7), .ref (b 8)])), (b 7, .inl (ca 0, 4, .inl U.1)), (b 8, .inl (ca 0, 4, .inl U.2))] s.heap := hP
  have hS : va_S (zA [a 6, a 7, a 8, b 6, b 7, b 8]) s.heap s.heap [] := hS
  have hA : ∀ q ∈ [a 6, a 7, a 8, b 6, b 7, b 8], zA [a 6, a 7, a 8, b 6, b 7, b 8] q := fun _ h => h
  have hD := zDto (ws := [(a 6, .inr (0, [.ref (a 7), .ref (a 8)])), (a 7, .inl (ca 0, 4, .inl T.1)), (a 8, .inl (ca 0, 4, .inl T.2)), (b 6, .inr (0, [.ref (b 7), .ref (b 8)])), (b 7, .inl (ca 0, 4, .inl U.1)), (b 8, .inl (ca 0, 4, .inl U.2))]) hN hA rfl
  have hx := S.1
  have hb := S.2.1
  have hl : lv_has ls 2 [(0, .ref (a 6)), (1, .ref (b 6))] := hl
  refine lv_aload_n hx hb dX0_copyFrom_0 rfl (lv_at hl 1 rfl) ?_
  refine z_get S in_lay_X0 hK hP rfl 3 rfl 0 (by decide) fl_X0_9 rfl rfl dX0_copyFrom_1 ?_
  refine lv_iconst (v := 0) hx hb dX0_copyFrom_4 (by decide) ?_
  refine lv_aload_n hx hb dX0_copyFrom_5 rfl (lv_at hl 0 rfl) ?_
  refine z_get S in_lay_X0 hK hP rfl 0 rfl 0 (by decide) fl_X0_9 rfl rfl dX0_copyFrom_6 ?_
  refine lv_iconst (v := 0) hx hb dX0_copyFrom_9 (by decide) ?_
  refine lv_iconst (v := 4) hx hb dX0_copyFrom_10 (by decide) ?_
  refine z_copyi (n := 4) (q0 := 4) (q1 := 1) (rest := []) S hl.1 ml_X0_24 hK hP hD hS rfl rfl (by decide) (Nat.le_of_ble_eq_true rfl) (by decide) dX0_copyFrom_11 (fun H locs hP hS => ?_)
  have hP : va_P D vwCl [(a 6, .inr (0, [.ref (a 7), .ref (a 8)])), (a 7, .inl (ca 0, 4, .inl U.1)), (a 8, .inl (ca 0, 4, .inl T.2)), (b 6, .inr (0, [.ref (b 7), .ref (b 8)])), (b 7, .inl (ca 0, 4, .inl U.1)), (b 8, .inl (ca 0, 4, .inl U.2))] H := hP
  have hD := zDto (ws := [(a 6, .inr (0, [.ref (a 7), .ref (a 8)])), (a 7, .inl (ca 0, 4, .inl U.1)), (a 8, .inl (ca 0, 4, .inl T.2)), (b 6, .inr (0, [.ref (b 7), .ref (b 8)])), (b 7, .inl (ca 0, 4, .inl U.1)), (b 8, .inl (ca 0, 4, .inl U.2))]) hN hA rfl
  refine lv_aload_n hx hb dX0_copyFrom_14 rfl (lv_at hl 1 rfl) ?_
  refine z_get S in_lay_X0 hK hP rfl 3 rfl 1 (by decide) fl_X0_15 rfl rfl dX0_copyFrom_15 ?_
  refine lv_iconst (v := 0) hx hb dX0_copyFrom_18 (by decide) ?_
  refine lv_aload_n hx hb dX0_copyFrom_19 rfl (lv_at hl 0 rfl) ?_
  refine z_get S in_lay_X0 hK hP rfl 0 rfl 1 (by decide) fl_X0_15 rfl rfl dX0_copyFrom_20 ?_
  refine lv_iconst (v := 0) hx hb dX0_copyFrom_23 (by decide) ?_
  refine lv_iconst (v := 4) hx hb dX0_copyFrom_24 (by decide) ?_
  refine z_copyi (n := 4) (q0 := 5) (q1 := 2) (rest := []) S hl.1 ml_X0_24 hK hP hD hS rfl rfl (by decide) (Nat.le_of_ble_eq_true rfl) (by decide) dX0_copyFrom_25 (fun H locs hP hS => ?_)
  have hP : va_P D vwCl [(a 6, .inr (0, [.ref (a 7), .ref (a 8)])), (a 7, .inl (ca 0, 4, .inl U.1)), (a 8, .inl (ca 0, 4, .inl U.2)), (b 6, .inr (0, [.ref (b 7), .ref (b 8)])), (b 7, .inl (ca 0, 4, .inl U.1)), (b 8, .inl (ca 0, 4, .inl U.2))] H := hP
  have hD := zDto (ws := [(a 6, .inr (0, [.ref (a 7), .ref (a 8)])), (a 7, .inl (ca 0, 4, .inl U.1)), (a 8, .inl (ca 0, 4, .inl U.2)), (b 6, .inr (0, [.ref (b 7), .ref (b 8)])), (b 7, .inl (ca 0, 4, .inl U.1)), (b 8, .inl (ca 0, 4, .inl U.2))]) hN hA rfl
  exact zw_v hx hb hr hlk hP hS (by rfl) dX0_copyFrom_28
set_option maxHeartbeats 4000000 in
set_option maxRecDepth 100000 in
theorem c_X4_copyFrom (l : Launch) (D : va_G) (ca : Nat → ClassId) (a b : Nat → Nat) (T U : zTl) (hN : [a 9, a 10, b 9, b 10].Nodup) : zMw l yX4_copyFrom cX4_copyFrom 2 none 1 18 D ca [(a 9, .inr (4, [.ref (a 10), .int T.2.1, .int T.2.2])), (a 10, .inl (ca 0, 3, .inl T.1)), (b 9, .inr (4, [.ref (b 10), .int U.2.1, .int U.2.2])), (b 10, .inl (ca 0, 3, .inl U.1))] ([(a 9, .inr (4, [.ref (a 10), .int U.2.1, .int U.2.2])), (a 10, .inl (ca 0, 3, .inl U.1)), (b 9, .inr (4, [.ref (b 10), .int U.2.1, .int U.2.2])), (b 10, .inl (ca 0, 3, .inl U.1))]) [.ref (a 9), .ref (b 9)] none := by
  refine zMw_of (own := RX4) (by decide) rfl (Nat.le_of_ble_eq_true rfl) ?_
  intro p e s m args below meth c ls S hr hlk hP hK hl hS
  have hP : va_P D vwCl [(a 9, .inr (4, [.ref (a 10), .int T.2.1, .int T.2.2])), (a 10, .inl (ca 0, 3, .inl T.1)), (b 9, .inr (4, [.ref (b 10), .int U.2.1, .int U.2.2])), (b 10, .inl (ca 0, 3, .inl U.1))] s.heap := hP
  have hS : va_S (zA [a 9, a 10, b 9, b 10]) s.heap s.heap [] := hS
  have hA : ∀ q ∈ [a 9, a 10, b 9, b 10], zA [a 9, a 10, b 9, b 10] q := fun _ h => h
  have hD := zDto (ws := [(a 9, .inr (4, [.ref (a 10), .int T.2.1, .int T.2.2])), (a 10, .inl (ca 0, 3, .inl T.1)), (b 9, .inr (4, [.ref (b 10), .int U.2.1, .int U.2.2])), (b 10, .inl (ca 0, 3, .inl U.1))]) hN hA rfl
  have hx := S.1
  have hb := S.2.1
  have hl : lv_has ls 2 [(0, .ref (a 9)), (1, .ref (b 9))] := hl
  refine lv_aload_n hx hb dX4_copyFrom_0 rfl (lv_at hl 1 rfl) ?_
  refine z_get S in_lay_X4 hK hP rfl 2 rfl 0 (by decide) fl_X4_9 rfl rfl dX4_copyFrom_1 ?_
  refine lv_iconst (v := 0) hx hb dX4_copyFrom_4 (by decide) ?_
  refine lv_aload_n hx hb dX4_copyFrom_5 rfl (lv_at hl 0 rfl) ?_
  refine z_get S in_lay_X4 hK hP rfl 0 rfl 0 (by decide) fl_X4_9 rfl rfl dX4_copyFrom_6 ?_
  refine lv_iconst (v := 0) hx hb dX4_copyFrom_9 (by decide) ?_
  refine lv_iconst (v := 3) hx hb dX4_copyFrom_10 (by decide) ?_
  refine z_copyi (n := 3) (q0 := 3) (q1 := 1) (rest := []) S hl.1 ml_X4_15 hK hP hD hS rfl rfl (by decide) (Nat.le_of_ble_eq_true rfl) (by decide) dX4_copyFrom_11 (fun H locs hP hS => ?_)
  have hP : va_P D vwCl [(a 9, .inr (4, [.ref (a 10), .int T.2.1, .int T.2.2])), (a 10, .inl (ca 0, 3, .inl U.1)), (b 9, .inr (4, [.ref (b 10), .int U.2.1, .int U.2.2])), (b 10, .inl (ca 0, 3, .inl U.1))] H := hP
  have hD := zDto (ws := [(a 9, .inr (4, [.ref (a 10), .int T.2.1, .int T.2.2])), (a 10, .inl (ca 0, 3, .inl U.1)), (b 9, .inr (4, [.ref (b 10), .int U.2.1, .int U.2.2])), (b 10, .inl (ca 0, 3, .inl U.1))]) hN hA rfl
  refine lv_aload_n hx hb dX4_copyFrom_14 rfl (lv_at hl 0 rfl) ?_
  refine lv_aload_n hx hb dX4_copyFrom_15 rfl (lv_at hl 1 rfl) ?_
  refine z_get S in_lay_X4 hK hP rfl 2 rfl 1 (by decide) fl_X4_21 rfl rfl dX4_copyFrom_16 ?_
  refine z_put S in_lay_X4 tyX4_ok nmX4 hK hP hD hS rfl 0 rfl 1 (by decide) fl_X4_21 rfl rfl rfl rfl (Nat.le_of_ble_eq_true rfl) dX4_copyFrom_19 (fun H locs hP hS => ?_)
  have hP : va_P D vwCl [(a 9, .inr (4, [.ref (a 10), .int U.2.1, .int T.2.2])), (a 10, .inl (ca 0, 3, .inl U.1)), (b 9, .inr (4, [.ref (b 10), .int U.2.1, .int U.2.2])), (b 10, .inl (ca 0, 3, .inl U.1))] H := hP
  have hD := zDto (ws := [(a 9, .inr (4, [.ref (a 10), .int U.2.1, .int T.2.2])), (a 10, .inl (ca 0, 3, .inl U.1)), (b 9, .inr (4, [.ref (b 10), .int U.2.1, .int U.2.2])), (b 10, .inl (ca 0, 3, .inl U.1))]) hN hA rfl
  refine lv_aload_n hx hb dX4_copyFrom_22 rfl (lv_at hl 0 rfl) ?_
  refine lv_aload_n hx hb dX4_copyFrom_23 rfl (lv_at hl 1 rfl) ?_
  refine z_get S in_lay_X4 hK hP rfl 2 rfl 2 (by decide) fl_X4_25 rfl rfl dX4_copyFrom_24 ?_
  refine z_put S in_lay_X4 tyX4_ok nmX4 hK hP hD hS rfl 0 rfl 2 (by decide) fl_X4_25 rfl rfl rfl rfl (Nat.le_of_ble_eq_true rfl) dX4_copyFrom_27 (fun H locs hP hS => ?_)
  have hP : va_P D vwCl [(a 9, .inr (4, [.ref (a 10), .int U.2.1, .int U.2.2])), (a 10, .inl (ca 0, 3, .inl U.1)), (b 9, .inr (4, [.ref (b 10), .int U.2.1, .int U.2.2])), (b 10, .inl (ca 0, 3, .inl U.1))] H := hP
  have hD := zDto (ws := [(a 9, .inr (4, [.ref (a 10), .int U.2.1, .int U.2.2])), (a 10, .inl (ca 0, 3, .inl U.1)), (b 9, .inr (4, [.ref (b 10), .int U.2.1, .int U.2.2])), (b 10, .inl (ca 0, 3, .inl U.1))]) hN hA rfl
  exact zw_v hx hb hr hlk hP hS (by rfl) dX4_copyFrom_30
set_option maxHeartbeats 4000000 in
set_option maxRecDepth 100000 in
theorem c_X2_copyFrom (l : Launch) (D : va_G) (ca : Nat → ClassId) (a b : Nat → Nat) (T U : zSt) (hN : [a 0, a 1, a 2, a 3, a 4, a 5, a 6, a 7, a 8, a 9, a 10, b 0, b 1, b 2, b 3, b 4, b 5, b 6, b 7, b 8, b 9, b 10].Nodup) : zMw l yX2_copyFrom cX2_copyFrom 2 none 2 39 D ca [(a 0, .inr (2, [.ref (a 1), .ref (a 6), .ref (a 9)])), (a 1, .inr (3, [.ref (a 2), .ref (a 3), .ref (a 4), .ref (a 5), .int T.1.2.2.2.2.1, .int T.1.2.2.2.2.2])), (a 2, .inl (ca 0, 24, .inl T.1.1)), (a 3, .inl (ca 0, 24, .inl T.1.2.1)), (a 4, .inl (ca 0, 24, .inl T.1.2.2.1)), (a 5, .inl (ca 0, 6, .inl T.1.2.2.2.1)), (a 6, .inr (0, [.ref (a 7), .ref (a 8)])), (a 7, .inl (ca 0, 4, .inl T.2.1.1)), (a 8, .inl (ca 0, 4, .inl T.2.1.2)), (a 9, .inr (4, [.ref (a 10), .int T.2.2.2.1, .int T.2.2.2.2])), (a 10, .inl (ca 0, 3, .inl T.2.2.1)), (b 0, .inr (2, [.ref (b 1), .ref (b 6), .ref (b 9)])), (b 1, .inr (3, [.ref (b 2), .ref (b 3), .ref (b 4), .ref (b 5), .int U.1.2.2.2.2.1, .int U.1.2.2.2.2.2])), (b 2, .inl (ca 0, 24, .inl U.1.1)), (b 3, .inl (ca 0, 24, .inl U.1.2.1)), (b 4, .inl (ca 0, 24, .inl U.1.2.2.1)), (b 5, .inl (ca 0, 6, .inl U.1.2.2.2.1)), (b 6, .inr (0, [.ref (b 7), .ref (b 8)])), (b 7, .inl (ca 0, 4, .inl U.2.1.1)), (b 8, .inl (ca 0, 4, .inl U.2.1.2)), (b 9, .inr (4, [.ref (b 10), .int U.2.2.2.1, .int U.2.2.2.2])), (b 10, .inl (ca 0, 3, .inl U.2.2.1))] ([(a 0, .inr (2, [.ref (a 1), .ref (a 6), .ref (a 9)])), (a 1, .inr (3, [.ref (a 2), .ref (a 3), .ref (a 4), .ref (a 5), .int U.1.2.2.2.2.1, .int U.1.2.2.2.2.2])), (a 2, .inl (ca 0, 24, .inl U.1.1)), (a 3, .inl (ca 0, 24, .inl U.1.2.1)), (a 4, .inl (ca 0, 24, .inl U.1.2.2.1)), (a 5, .inl (ca 0, 6, .inl U.1.2.2.2.1)), (a 6, .inr (0, [.ref (a 7), .ref (a 8)])), (a 7, .inl (ca 0, 4, .inl U.2.1.1)), (a 8, .inl (ca 0, 4, .inl U.2.1.2)), (a 9, .inr (4, [.ref (a 10), .int U.2.2.2.1, .int U.2.2.2.2])), (a 10, .inl (ca 0, 3, .inl U.2.2.1)), (b 0, .inr (2, [.ref (b 1), .ref (b 6), .ref (b 9)])), (b 1, .inr (3, [.ref (b 2), .ref (b 3), .ref (b 4), .ref (b 5), .int U.1.2.2.2.2.1, .int U.1.2.2.2.2.2])), (b 2, .inl (ca 0, 24, .inl U.1.1)), (b 3, .inl (ca 0, 24, .inl U.1.2.1)), (b 4, .inl (ca 0, 24, .inl U.1.2.2.1)), (b 5, .inl (ca 0, 6, .inl U.1.2.2.2.1)), (b 6, .inr (0, [.ref (b 7), .ref (b 8)])), (b 7, .inl (ca 0, 4, .inl U.2.1.1)), (b 8, .inl (ca 0, 4, .inl U.2.1.2)), (b 9, .inr (4, [.ref (b 10), .int U.2.2.2.1, .int U.2.2.2.2])), (b 10, .inl (ca 0, 3, .inl U.2.2.1))]) [.ref (a 0), .ref (b 0)] none := by
  refine zMw_of (own := RX2) (by decide) rfl (Nat.le_of_ble_eq_true rfl) ?_
  intro p e s m args below meth c ls S hr hlk hP hK hl hS
  have hP : va_P D vwCl [(a 0, .inr (2, [.ref (a 1), .ref (a 6), .ref (a 9)])), (a 1, .inr (3, [.ref (a 2), .ref (a 3), .ref (a 4), .ref (a 5), .int T.1.2.2.2.2.1, .int T.1.2.2.2.2.2])), (a 2, .inl (ca 0, 24, .inl T.1.1)), (a 3, .inl (ca 0, 24, .inl T.1.2.1)), (a 4, .inl (ca 0, 24, .inl T.1.2.2.1)), (a 5, .inl (ca 0, 6, .inl T.1.2.2.2.1)), (a 6, .inr (0, [.ref (a 7), .ref (a 8)])), (a 7, .inl (ca 0, 4, .inl T.2.1.1)), (a 8, .inl (ca 0, 4, .inl T.2.1.2)), (a 9, .inr (4, [.ref (a 10), .int T.2.2.2.1, .int T.2.2.2.2])), (a 10, .inl (ca 0, 3, .inl T.2.2.1)), (b 0, .inr (2, [.ref (b 1), .ref (b 6), .ref (b 9)])), (b 1, .inr (3, [.ref (b 2), .ref (b 3), .ref (b 4), .ref (b 5), .int U.1.2.2.2.2.1, .int U.1.2.2.2.2.2])), (b 2, .inl (ca 0, 24, .inl U.1.1)), (b 3, .inl (ca 0, 24, .inl U.1.2.1)), (b 4, .inl (ca 0, 24, .inl U.1.2.2.1)), (b 5, .inl (ca 0, 6, .inl U.1.2.2.2.1)), (b 6, .inr (0, [.ref (b 7), .ref (b 8)])), (b 7, .inl (ca 0, 4, .inl U.2.1.1)), (b 8, .inl (ca 0, 4, .inl U.2.1.2)), (b 9, .inr (4, [.ref (b 10), .int U.2.2.2.1, .int U.2.2.2.2])), (b 10, .inl (ca 0, 3, .inl U.2.2.1))] s.heap := hP
  have hS : va_S (zA [a 0, a 1, a 2, a 3, a 4, a 5, a 6, a 7, a 8, a 9, a 10, b 0, b 1, b 2, b 3, b 4, b 5, b 6, b 7, b 8, b 9, b 10]) s.heap s.heap [] := hS
  have hA : ∀ q ∈ [a 0, a 1, a 2, a 3, a 4, a 5, a 6, a 7, a 8, a 9, a 10, b 0, b 1, b 2, b 3, b 4, b 5, b 6, b 7, b 8, b 9, b 10], zA [a 0, a 1, a 2, a 3, a 4, a 5, a 6, a 7, a 8, a 9, a 10, b 0, b 1, b 2, b 3, b 4, b 5, b 6, b 7, b 8, b 9, b 10] q := fun _ h => h
  have hD := zDto (ws := [(a 0, .inr (2, [.ref (a 1), .ref (a 6), .ref (a 9)])), (a 1, .inr (3, [.ref (a 2), .ref (a 3), .ref (a 4), .ref (a 5), .int T.1.2.2.2.2.1, .int T.1.2.2.2.2.2])), (a 2, .inl (ca 0, 24, .inl T.1.1)), (a 3, .inl (ca 0, 24, .inl T.1.2.1)), (a 4, .inl (ca 0, 24, .inl T.1.2.2.1)), (a 5, .inl (ca 0, 6, .inl T.1.2.2.2.1)), (a 6, .inr (0, [.ref (a 7), .ref (a 8)])), (a 7, .inl (ca 0, 4, .inl T.2.1.1)), (a 8, .inl (ca 0, 4, .inl T.2.1.2)), (a 9, .inr (4, [.ref (a 10), .int T.2.2.2.1, .int T.2.2.2.2])), (a 10, .inl (ca 0, 3, .inl T.2.2.1)), (b 0, .inr (2, [.ref (b 1), .ref (b 6), .ref (b 9)])), (b 1, .inr (3, [.ref (b 2), .ref (b 3), .ref (b 4), .ref (b 5), .int U.1.2.2.2.2.1, .int U.1.2.2.2.2.2])), (b 2, .inl (ca 0, 24, .inl U.1.1)), (b 3, .inl (ca 0, 24, .inl U.1.2.1)), (b 4, .inl (ca 0, 24, .inl U.1.2.2.1)), (b 5, .inl (ca 0, 6, .inl U.1.2.2.2.1)), (b 6, .inr (0, [.ref (b 7), .ref (b 8)])), (b 7, .inl (ca 0, 4, .inl U.2.1.1)), (b 8, .inl (ca 0, 4, .inl U.2.1.2)), (b 9, .inr (4, [.ref (b 10), .int U.2.2.2.1, .int U.2.2.2.2])), (b 10, .inl (ca 0, 3, .inl U.2.2.1))]) hN hA rfl
  have hx := S.1
  have hb := S.2.1
  have hl : lv_has ls 2 [(0, .ref (a 0)), (1, .ref (b 0))] := hl
  refine lv_aload_n hx hb dX2_copyFrom_0 rfl (lv_at hl 0 rfl) ?_
  refine z_get S in_lay_X2 hK hP rfl 0 rfl 0 (by decide) fl_X2_12 rfl rfl dX2_copyFrom_1 ?_
  refine lv_aload_n hx hb dX2_copyFrom_4 rfl (lv_at hl 1 rfl) ?_
  refine z_get S in_lay_X2 hK hP rfl 11 rfl 0 (by decide) fl_X2_12 rfl rfl dX2_copyFrom_5 ?_
  refine zcw (As := [.ref (b 1)]) (rest := []) (st1 := []) (q0 := 0) (lw := [a 1, a 2, a 3, a 4, a 5, b 1, b 2, b 3, b 4, b 5]) S (c_X3_copyFrom l D ca a b T.1 U.1 (znd_pick hN [1, 2, 3, 4, 5, 12, 13, 14, 15, 16] rfl rfl)) ml_X2_32 zy_X3_copyFrom im_X3_copyFrom se_X3_copyFrom ⟨Nat.le_of_ble_eq_true rfl, Nat.le_of_ble_eq_true rfl⟩ hK hP hD hS [1, 2, 3, 4, 5, 12, 13, 14, 15, 16] rfl rfl rfl rfl rfl rfl rfl hl.1 rfl rfl (Nat.le_of_ble_eq_true rfl) ⟨Nat.zero_le _, Nat.zero_le _⟩ dX2_copyFrom_8 (fun H locs hP hS => ?_)
  have hP : va_P D vwCl [(a 0, .inr (2, [.ref (a 1), .ref (a 6), .ref (a 9)])), (a 1, .inr (3, [.ref (a 2), .ref (a 3), .ref (a 4), .ref (a 5), .int U.1.2.2.2.2.1, .int U.1.2.2.2.2.2])), (a 2, .inl (ca 0, 24, .inl U.1.1)), (a 3, .inl (ca 0, 24, .inl U.1.2.1)), (a 4, .inl (ca 0, 24, .inl U.1.2.2.1)), (a 5, .inl (ca 0, 6, .inl U.1.2.2.2.1)), (a 6, .inr (0, [.ref (a 7), .ref (a 8)])), (a 7, .inl (ca 0, 4, .inl T.2.1.1)), (a 8, .inl (ca 0, 4, .inl T.2.1.2)), (a 9, .inr (4, [.ref (a 10), .int T.2.2.2.1, .int T.2.2.2.2])), (a 10, .inl (ca 0, 3, .inl T.2.2.1)), (b 0, .inr (2, [.ref (b 1), .ref (b 6), .ref (b 9)])), (b 1, .inr (3, [.ref (b 2), .ref (b 3), .ref (b 4), .ref (b 5), .int U.1.2.2.2.2.1, .int U.1.2.2.2.2.2])), (b 2, .inl (ca 0, 24, .inl U.1.1)), (b 3, .inl (ca 0, 24, .inl U.1.2.1)), (b 4, .inl (ca 0, 24, .inl U.1.2.2.1)), (b 5, .inl (ca 0, 6, .inl U.1.2.2.2.1)), (b 6, .inr (0, [.ref (b 7), .ref (b 8)])), (b 7, .inl (ca 0, 4, .inl U.2.1.1)), (b 8, .inl (ca 0, 4, .inl U.2.1.2)), (b 9, .inr (4, [.ref (b 10), .int U.2.2.2.1, .int U.2.2.2.2])), (b 10, .inl (ca 0, 3, .inl U.2.2.1))] H := hP
  have hD := zDto (ws := [(a 0, .inr (2, [.ref (a 1), .ref (a 6), .ref (a 9)])), (a 1, .inr (3, [.ref (a 2), .ref (a 3), .ref (a 4), .ref (a 5), .int U.1.2.2.2.2.1, .int U.1.2.2.2.2.2])), (a 2, .inl (ca 0, 24, .inl U.1.1)), (a 3, .inl (ca 0, 24, .inl U.1.2.1)), (a 4, .inl (ca 0, 24, .inl U.1.2.2.1)), (a 5, .inl (ca 0, 6, .inl U.1.2.2.2.1)), (a 6, .inr (0, [.ref (a 7), .ref (a 8)])), (a 7, .inl (ca 0, 4, .inl T.2.1.1)), (a 8, .inl (ca 0, 4, .inl T.2.1.2)), (a 9, .inr (4, [.ref (a 10), .int T.2.2.2.1, .int T.2.2.2.2])), (a 10, .inl (ca 0, 3, .inl T.2.2.1)), (b 0, .inr (2, [.ref (b 1), .ref (b 6), .ref (b 9)])), (b 1, .inr (3, [.ref (b 2), .ref (b 3), .ref (b 4), .ref (b 5), .int U.1.2.2.2.2.1, .int U.1.2.2.2.2.2])), (b 2, .inl (ca 0, 24, .inl U.1.1)), (b 3, .inl (ca 0, 24, .inl U.1.2.1)), (b 4, .inl (ca 0, 24, .inl U.1.2.2.1)), (b 5, .inl (ca 0, 6, .inl U.1.2.2.2.1)), (b 6, .inr (0, [.ref (b 7), .ref (b 8)])), (b 7, .inl (ca 0, 4, .inl U.2.1.1)), (b 8, .inl (ca 0, 4, .inl U.2.1.2)), (b 9, .inr (4, [.ref (b 10), .int U.2.2.2.1, .int U.2.2.2.2])), (b 10, .inl (ca 0, 3, .inl U.2.2.1))]) hN hA rfl
  refine lv_aload_n hx hb dX2_copyFrom_11 rfl (lv_at hl 0 rfl) ?_
  refine z_get S in_lay_X2 hK hP rfl 0 rfl 1 (by decide) fl_X2_21 rfl rfl dX2_copyFrom_12 ?_
  refine lv_aload_n hx hb dX2_copyFrom_15 rfl (lv_at hl 1 rfl) ?_
  refine z_get S in_lay_X2 hK hP rfl 11 rfl 1 (by decide) fl_X2_21 rfl rfl dX2_copyFrom_16 ?_
  refine zcw (As := [.ref (b 6)]) (rest := []) (st1 := []) (q0 := 0) (lw := [a 6, a 7, a 8, b 6, b 7, b 8]) S (c_X0_copyFrom l D ca a b T.2.1 U.2.1 (znd_pick hN [6, 7, 8, 17, 18, 19] rfl rfl)) ml_X2_36 zy_X0_copyFrom im_X0_copyFrom se_X0_copyFrom ⟨Nat.le_of_ble_eq_true rfl, Nat.le_of_ble_eq_true rfl⟩ hK hP hD hS [6, 7, 8, 17, 18, 19] rfl rfl rfl rfl rfl rfl rfl hl.1 rfl rfl (Nat.le_of_ble_eq_true rfl) ⟨Nat.zero_le _, Nat.zero_le _⟩ dX2_copyFrom_19 (fun H locs hP hS => ?_)
  have hP : va_P D vwCl [(a 0, .inr (2, [.ref (a 1), .ref (a 6), .ref (a 9)])), (a 1, .inr (3, [.ref (a 2), .ref (a 3), .ref (a 4), .ref (a 5), .int U.1.2.2.2.2.1, .int U.1.2.2.2.2.2])), (a 2, .inl (ca 0, 24, .inl U.1.1)), (a 3, .inl (ca 0, 24, .inl U.1.2.1)), (a 4, .inl (ca 0, 24, .inl U.1.2.2.1)), (a 5, .inl (ca 0, 6, .inl U.1.2.2.2.1)), (a 6, .inr (0, [.ref (a 7), .ref (a 8)])), (a 7, .inl (ca 0, 4, .inl U.2.1.1)), (a 8, .inl (ca 0, 4, .inl U.2.1.2)), (a 9, .inr (4, [.ref (a 10), .int T.2.2.2.1, .int T.2.2.2.2])), (a 10, .inl (ca 0, 3, .inl T.2.2.1)), (b 0, .inr (2, [.ref (b 1), .ref (b 6), .ref (b 9)])), (b 1, .inr (3, [.ref (b 2), .ref (b 3), .ref (b 4), .ref (b 5), .int U.1.2.2.2.2.1, .int U.1.2.2.2.2.2])), (b 2, .inl (ca 0, 24, .inl U.1.1)), (b 3, .inl (ca 0, 24, .inl U.1.2.1)), (b 4, .inl (ca 0, 24, .inl U.1.2.2.1)), (b 5, .inl (ca 0, 6, .inl U.1.2.2.2.1)), (b 6, .inr (0, [.ref (b 7), .ref (b 8)])), (b 7, .inl (ca 0, 4, .inl U.2.1.1)), (b 8, .inl (ca 0, 4, .inl U.2.1.2)), (b 9, .inr (4, [.ref (b 10), .int U.2.2.2.1, .int U.2.2.2.2])), (b 10, .inl (ca 0, 3, .inl U.2.2.1))] H := hP
  have hD := zDto (ws := [(a 0, .inr (2, [.ref (a 1), .ref (a 6), .ref (a 9)])), (a 1, .inr (3, [.ref (a 2), .ref (a 3), .ref (a 4), .ref (a 5), .int U.1.2.2.2.2.1, .int U.1.2.2.2.2.2])), (a 2, .inl (ca 0, 24, .inl U.1.1)), (a 3, .inl (ca 0, 24, .inl U.1.2.1)), (a 4, .inl (ca 0, 24, .inl U.1.2.2.1)), (a 5, .inl (ca 0, 6, .inl U.1.2.2.2.1)), (a 6, .inr (0, [.ref (a 7), .ref (a 8)])), (a 7, .inl (ca 0, 4, .inl U.2.1.1)), (a 8, .inl (ca 0, 4, .inl U.2.1.2)), (a 9, .inr (4, [.ref (a 10), .int T.2.2.2.1, .int T.2.2.2.2])), (a 10, .inl (ca 0, 3, .inl T.2.2.1)), (b 0, .inr (2, [.ref (b 1), .ref (b 6), .ref (b 9)])), (b 1, .inr (3, [.ref (b 2), .ref (b 3), .ref (b 4), .ref (b 5), .int U.1.2.2.2.2.1, .int U.1.2.2.2.2.2])), (b 2, .inl (ca 0, 24, .inl U.1.1)), (b 3, .inl (ca 0, 24, .inl U.1.2.1)), (b 4, .inl (ca 0, 24, .inl U.1.2.2.1)), (b 5, .inl (ca 0, 6, .inl U.1.2.2.2.1)), (b 6, .inr (0, [.ref (b 7), .ref (b 8)])), (b 7, .inl (ca 0, 4, .inl U.2.1.1)), (b 8, .inl (ca 0, 4, .inl U.2.1.2)), (b 9, .inr (4, [.ref (b 10), .int U.2.2.2.1, .int U.2.2.2.2])), (b 10, .inl (ca 0, 3, .inl U.2.2.1))]) hN hA rfl
  refine lv_aload_n hx hb dX2_copyFrom_22 rfl (lv_at hl 0 rfl) ?_
  refine z_get S in_lay_X2 hK hP rfl 0 rfl 2 (by decide) fl_X2_28 rfl rfl dX2_copyFrom_23 ?_
  refine lv_aload_n hx hb dX2_copyFrom_26 rfl (lv_at hl 1 rfl) ?_
  refine z_get S in_lay_X2 hK hP rfl 11 rfl 2 (by decide) fl_X2_28 rfl rfl dX2_copyFrom_27 ?_
  refine zcw (As := [.ref (b 9)]) (rest := []) (st1 := []) (q0 := 0) (lw := [a 9, a 10, b 9, b 10]) S (c_X4_copyFrom l D ca a b T.2.2 U.2.2 (znd_pick hN [9, 10, 20, 21] rfl rfl)) ml_X2_39 zy_X4_copyFrom im_X4_copyFrom se_X4_copyFrom ⟨Nat.le_of_ble_eq_true rfl, Nat.le_of_ble_eq_true rfl⟩ hK hP hD hS [9, 10, 20, 21] rfl rfl rfl rfl rfl rfl rfl hl.1 rfl rfl (Nat.le_of_ble_eq_true rfl) ⟨Nat.zero_le _, Nat.zero_le _⟩ dX2_copyFrom_30 (fun H locs hP hS => ?_)
  have hP : va_P D vwCl [(a 0, .inr (2, [.ref (a 1), .ref (a 6), .ref (a 9)])), (a 1, .inr (3, [.ref (a 2), .ref (a 3), .ref (a 4), .ref (a 5), .int U.1.2.2.2.2.1, .int U.1.2.2.2.2.2])), (a 2, .inl (ca 0, 24, .inl U.1.1)), (a 3, .inl (ca 0, 24, .inl U.1.2.1)), (a 4, .inl (ca 0, 24, .inl U.1.2.2.1)), (a 5, .inl (ca 0, 6, .inl U.1.2.2.2.1)), (a 6, .inr (0, [.ref (a 7), .ref (a 8)])), (a 7, .inl (ca 0, 4, .inl U.2.1.1)), (a 8, .inl (ca 0, 4, .inl U.2.1.2)), (a 9, .inr (4, [.ref (a 10), .int U.2.2.2.1, .int U.2.2.2.2])), (a 10, .inl (ca 0, 3, .inl U.2.2.1)), (b 0, .inr (2, [.ref (b 1), .ref (b 6), .ref (b 9)])), (b 1, .inr (3, [.ref (b 2), .ref (b 3), .ref (b 4), .ref (b 5), .int U.1.2.2.2.2.1, .int U.1.2.2.2.2.2])), (b 2, .inl (ca 0, 24, .inl U.1.1)), (b 3, .inl (ca 0, 24, .inl U.1.2.1)), (b 4, .inl (ca 0, 24, .inl U.1.2.2.1)), (b 5, .inl (ca 0, 6, .inl U.1.2.2.2.1)), (b 6, .inr (0, [.ref (b 7), .ref (b 8)])), (b 7, .inl (ca 0, 4, .inl U.2.1.1)), (b 8, .inl (ca 0, 4, .inl U.2.1.2)), (b 9, .inr (4, [.ref (b 10), .int U.2.2.2.1, .int U.2.2.2.2])), (b 10, .inl (ca 0, 3, .inl U.2.2.1))] H := hP
  have hD := zDto (ws := [(a 0, .inr (2, [.ref (a 1), .ref (a 6), .ref (a 9)])), (a 1, .inr (3, [.ref (a 2), .ref (a 3), .ref (a 4), .ref (a 5), .int U.1.2.2.2.2.1, .int U.1.2.2.2.2.2])), (a 2, .inl (ca 0, 24, .inl U.1.1)), (a 3, .inl (ca 0, 24, .inl U.1.2.1)), (a 4, .inl (ca 0, 24, .inl U.1.2.2.1)), (a 5, .inl (ca 0, 6, .inl U.1.2.2.2.1)), (a 6, .inr (0, [.ref (a 7), .ref (a 8)])), (a 7, .inl (ca 0, 4, .inl U.2.1.1)), (a 8, .inl (ca 0, 4, .inl U.2.1.2)), (a 9, .inr (4, [.ref (a 10), .int U.2.2.2.1, .int U.2.2.2.2])), (a 10, .inl (ca 0, 3, .inl U.2.2.1)), (b 0, .inr (2, [.ref (b 1), .ref (b 6), .ref (b 9)])), (b 1, .inr (3, [.ref (b 2), .ref (b 3), .ref (b 4), .ref (b 5), .int U.1.2.2.2.2.1, .int U.1.2.2.2.2.2])), (b 2, .inl (ca 0, 24, .inl U.1.1)), (b 3, .inl (ca 0, 24, .inl U.1.2.1)), (b 4, .inl (ca 0, 24, .inl U.1.2.2.1)), (b 5, .inl (ca 0, 6, .inl U.1.2.2.2.1)), (b 6, .inr (0, [.ref (b 7), .ref (b 8)])), (b 7, .inl (ca 0, 4, .inl U.2.1.1)), (b 8, .inl (ca 0, 4, .inl U.2.1.2)), (b 9, .inr (4, [.ref (b 10), .int U.2.2.2.1, .int U.2.2.2.2])), (b 10, .inl (ca 0, 3, .inl U.2.2.1))]) hN hA rfl
  exact zw_v hx hb hr hlk hP hS (by rfl) dX2_copyFrom_33
