set_option maxHeartbeats 4000000 in
set_option maxRecDepth 100000 in
theorem c_X0_horizonWithout (l : Launch) (D : va_G) (ca : Nat → ClassId) (a : Nat → Nat) (sn : Nat → Int32) (o ck : Int32) : zMr l yX0_horizonWithout cX0_horizonWithout 5 (some .int) 0 0 D ca [(a 6, .inr (0, [.ref (a 7), .ref (a 8)])), (a 7, .inl (ca 0, 4, .inl sn))] [.ref (a 6), .int o, .int ck] (.int (zHw sn o ck)) := by
  refine zMr_of (own := RX0) (by decide) rfl (Nat.le_of_ble_eq_true rfl) ?_
  intro p e s m args below meth c ls S hr hlk hP hK hl
  have hx := S.1
  have hb := S.2.1
  have hl : lv_has ls 5 [(0, .ref (a 6)), (1, .int o), (2, .int ck)] := hl
  refine lv_iload_n hx hb dX0_horizonWithout_0 rfl (lv_at hl 2 rfl) ?_
  refine lv_istore_n (lv' := [(3, .int ck), (0, .ref (a 6)), (1, .int o), (2, .int ck)]) hx hb dX0_horizonWithout_1 rfl hl (by decide) rfl (fun ls hl => ?_)
  refine lv_iconst (v := 0) hx hb dX0_horizonWithout_2 (by decide) ?_
  refine lv_istore (lv' := [(4, .int 0), (3, .int ck), (0, .ref (a 6)), (1, .int o), (2, .int ck)]) hx hb dX0_horizonWithout_3 hl (by decide) rfl (fun ls hl => ?_)
  have loop_0 : ∀ (f : Nat) (k : Nat) (x : Int32) (ls : Array Slot), k + f = 4 → zHw sn o ck = zhz sn o f k x → lv_has ls 5 [(0, .ref (a 6)), (1, .int o), (2, .int ck), (3, .int x), (4, .int (nI k))] → W p l e { frames := 0, cells := 0, slots := 0, locals := 0 } s m args below meth c s.heap [] 0 0 (MQ below (zQr (.int (zHw sn o ck))) args s 0 0 (fun _ => False)) (F0 m 5 ls []) := by
    intro f
    induction f with
    | zero =>
      intro k x ls j1 j2 hl
      refine lv_iload hx hb dX0_horizonWithout_5 (lv_at hl 4 rfl) ?_
      refine lv_iconst (v := 4) hx hb dX0_horizonWithout_7 (by decide) ?_
      refine zn_ge hx hb (x := k) (y := 4) (by omega) (by omega) (tgt := 53) dX0_horizonWithout_8 (by decide) (fun c_8_2 => ?_) (fun h => False.elim (by omega))
      refine lv_iload_n hx hb dX0_horizonWithout_53 rfl (lv_at hl 3 rfl) ?_
      exact zr_i hx hb hr hlk (by exact j2.symm) dX0_horizonWithout_54
    | succ f ih =>
      intro k x ls j1 j2 hl
      refine lv_iload hx hb dX0_horizonWithout_5 (lv_at hl 4 rfl) ?_
      refine lv_iconst (v := 4) hx hb dX0_horizonWithout_7 (by decide) ?_
      refine zn_ge hx hb (x := k) (y := 4) (by omega) (by omega) (tgt := 53) dX0_horizonWithout_8 (by decide) (fun h => False.elim (by omega)) (fun c_8_3 => ?_)
      refine lv_iload hx hb dX0_horizonWithout_11 (lv_at hl 4 rfl) ?_
      refine lv_iload_n hx hb dX0_horizonWithout_13 rfl (lv_at hl 1 rfl) ?_
      refine lv_icmp_eq (tgt := 47) hx hb dX0_horizonWithout_14 (by decide) (fun c_14_4 => ?_) (fun c_14_4 => ?_)
      · refine lv_iinc (v := nI (k + 1)) (lv' := [(4, .int (nI (k + 1))), (0, .ref (a 6)), (1, .int o), (2, .int ck), (3, .int x)]) hx hb dX0_horizonWithout_47 hl (k := 4) rfl (zinc k 1) (by decide) rfl (fun ls hl => ?_)
        refine lv_goto (tgt := 5) hx hb dX0_horizonWithout_50 (by decide) ?_
        exact ih (k + 1) x ls (by omega) (by rw [j2]; simp only [zhz, c_8_3, c_14_4, if_true, if_false]) (lv_sub hl [1, 2, 3, 4, 0] rfl)
      · refine lv_aload_n hx hb dX0_horizonWithout_17 rfl (lv_at hl 0 rfl) ?_
        refine z_get S in_lay_X0 hK hP rfl 0 rfl 0 (by decide) fl_X0_9 rfl rfl dX0_horizonWithout_18 ?_
        refine lv_iload hx hb dX0_horizonWithout_21 (lv_at hl 4 rfl) ?_
        refine z_iald S hK hP 1 rfl (j := k) (by omega) (by decide) dX0_horizonWithout_23 ?_
        refine lv_iconst (v := (-1)) hx hb dX0_horizonWithout_24 (by decide) ?_
        refine lv_icmp_eq (tgt := 47) hx hb dX0_horizonWithout_25 (by decide) (fun c_25_5 => ?_) (fun c_25_5 => ?_)
        · refine lv_iinc (v := nI (k + 1)) (lv' := [(4, .int (nI (k + 1))), (0, .ref (a 6)), (1, .int o), (2, .int ck), (3, .int x)]) hx hb dX0_horizonWithout_47 hl (k := 4) rfl (zinc k 1) (by decide) rfl (fun ls hl => ?_)
          refine lv_goto (tgt := 5) hx hb dX0_horizonWithout_50 (by decide) ?_
          exact ih (k + 1) x ls (by omega) (by rw [j2]; simp only [zhz, c_8_3, c_14_4, c_25_5, if_true, if_false]) (lv_sub hl [1, 2, 3, 4, 0] rfl)
        · refine lv_aload_n hx hb dX0_horizonWithout_28 rfl (lv_at hl 0 rfl) ?_
          refine z_get S in_lay_X0 hK hP rfl 0 rfl 0 (by decide) fl_X0_9 rfl rfl dX0_horizonWithout_29 ?_
          refine lv_iload hx hb dX0_horizonWithout_32 (lv_at hl 4 rfl) ?_
          refine z_iald S hK hP 1 rfl (j := k) (by omega) (by decide) dX0_horizonWithout_34 ?_
          refine lv_iload_n hx hb dX0_horizonWithout_35 rfl (lv_at hl 3 rfl) ?_
          refine lv_icmp_ge (tgt := 47) hx hb dX0_horizonWithout_36 (by decide) (fun c_36_6 => ?_) (fun c_36_6 => ?_)
          · refine lv_iinc (v := nI (k + 1)) (lv' := [(4, .int (nI (k + 1))), (0, .ref (a 6)), (1, .int o), (2, .int ck), (3, .int x)]) hx hb dX0_horizonWithout_47 hl (k := 4) rfl (zinc k 1) (by decide) rfl (fun ls hl => ?_)
            refine lv_goto (tgt := 5) hx hb dX0_horizonWithout_50 (by decide) ?_
            exact ih (k + 1) x ls (by omega) (by rw [j2]; simp only [zhz, c_8_3, c_14_4, c_25_5, c_36_6, if_true, if_false]) (lv_sub hl [1, 2, 3, 4, 0] rfl)
          · refine lv_aload_n hx hb dX0_horizonWithout_39 rfl (lv_at hl 0 rfl) ?_
            refine z_get S in_lay_X0 hK hP rfl 0 rfl 0 (by decide) fl_X0_9 rfl rfl dX0_horizonWithout_40 ?_
            refine lv_iload hx hb dX0_horizonWithout_43 (lv_at hl 4 rfl) ?_
            refine z_iald S hK hP 1 rfl (j := k) (by omega) (by decide) dX0_horizonWithout_45 ?_
            refine lv_istore_n (lv' := [(3, .int (sn k)), (0, .ref (a 6)), (1, .int o), (2, .int ck), (4, .int (nI k))]) hx hb dX0_horizonWithout_46 rfl hl (by decide) rfl (fun ls hl => ?_)
            refine lv_iinc (v := nI (k + 1)) (lv' := [(4, .int (nI (k + 1))), (3, .int (sn k)), (0, .ref (a 6)), (1, .int o), (2, .int ck)]) hx hb dX0_horizonWithout_47 hl (k := 4) rfl (zinc k 1) (by decide) rfl (fun ls hl => ?_)
            refine lv_goto (tgt := 5) hx hb dX0_horizonWithout_50 (by decide) ?_
            exact ih (k + 1) (sn k) ls (by omega) (by rw [j2]; simp only [zhz, c_8_3, c_14_4, c_25_5, c_36_6, if_true, if_false]) (lv_sub hl [2, 3, 4, 1, 0] rfl)
  exact loop_0 4 0 ck ls (by omega) (by rfl) (lv_sub hl [2, 3, 4, 1, 0] rfl)
set_option maxHeartbeats 4000000 in
set_option maxRecDepth 100000 in
theorem c_X2_horizon (l : Launch) (D : va_G) (ca : Nat → ClassId) (a : Nat → Nat) (Z : zSt) : zMr l yX2_horizon cX2_horizon 1 (some .int) 1 24 D ca [(a 0, .inr (2, [.ref (a 1), .ref (a 6), .ref (a 9)])), (a 1, .inr (3, [.ref (a 2), .ref (a 3), .ref (a 4), .ref (a 5), .int Z.1.2.2.2.2.1, .int Z.1.2.2.2.2.2])), (a 6, .inr (0, [.ref (a 7), .ref (a 8)])), (a 7, .inl (ca 0, 4, .inl Z.2.1.1))] [.ref (a 0)] (.int (zHor Z)) := by
  refine zMr_of (own := RX2) (by decide) rfl (Nat.le_of_ble_eq_true rfl) ?_
  intro p e s m args below meth c ls S hr hlk hP hK hl
  have hx := S.1
  have hb := S.2.1
  have hl : lv_has ls 1 [(0, .ref (a 0))] := hl
  refine lv_aload_n hx hb dX2_horizon_0 rfl (lv_at hl 0 rfl) ?_
  refine z_get S in_lay_X2 hK hP rfl 0 rfl 1 (by decide) fl_X2_21 rfl rfl dX2_horizon_1 ?_
  refine lv_iconst (v := (-1)) hx hb dX2_horizon_4 (by decide) ?_
  refine lv_aload_n hx hb dX2_horizon_5 rfl (lv_at hl 0 rfl) ?_
  refine z_get S in_lay_X2 hK hP rfl 0 rfl 0 (by decide) fl_X2_12 rfl rfl dX2_horizon_6 ?_
  refine z_get S in_lay_X3 hK hP rfl 1 rfl 4 (by decide) fl_X2_42 rfl rfl dX2_horizon_9 ?_
  refine zcr (As := [.int (-1), .int Z.1.2.2.2.2.1]) (rest := []) (q0 := 0) S (c_X0_horizonWithout l D ca a Z.2.1.1 (-1) Z.1.2.2.2.2.1) ml_X2_46 zy_X0_horizonWithout im_X0_horizonWithout se_X0_horizonWithout ⟨Nat.le_of_ble_eq_true rfl, Nat.le_of_ble_eq_true rfl⟩ hK hP [2, 3] rfl rfl rfl rfl rfl hl.1 rfl (Nat.le_of_ble_eq_true rfl) ⟨Nat.zero_le _, Nat.zero_le _⟩ dX2_horizon_12 ?_
  exact zr_i hx hb hr hlk (by rfl) dX2_horizon_15
set_option maxHeartbeats 4000000 in
set_option maxRecDepth 100000 in
theorem c_X4_add (l : Launch) (D : va_G) (ca : Nat → ClassId) (a : Nat → Nat) (Y : zTl) (w : Nat) (hw : w < 3) (x : Int32) (b : Bool) (hN : [a 9, a 10].Nodup) : zMw l yX4_add cX4_add 4 none 0 0 D ca [(a 9, .inr (4, [.ref (a 10), .int Y.2.1, .int Y.2.2])), (a 10, .inl (ca 0, 3, .inl Y.1))] ([(a 9, .inr (4, [.ref (a 10), .int ((zTly Y w x b).2.1), .int ((zTly Y w x b).2.2)])), (a 10, .inl (ca 0, 3, .inl ((zTly Y w x b).1)))]) [.ref (a 9), .int (nI w), .int x, .int (zb b)] none := by
  refine zMw_of (own := RX4) (by decide) rfl (Nat.le_of_ble_eq_true rfl) ?_
  intro p e s m args below meth c ls S hr hlk hP hK hl hS
  have hP : va_P D vwCl [(a 9, .inr (4, [.ref (a 10), .int Y.2.1, .int Y.2.2])), (a 10, .inl (ca 0, 3, .inl Y.1))] s.heap := hP
  have hS : va_S (zA [a 9, a 10]) s.heap s.heap [] := hS
  have hA : ∀ q ∈ [a 9, a 10], zA [a 9, a 10] q := fun _ h => h
  have hD := zDto (ws := [(a 9, .inr (4, [.ref (a 10), .int Y.2.1, .int Y.2.2])), (a 10, .inl (ca 0, 3, .inl Y.1))]) hN hA rfl
  have hx := S.1
  have hb := S.2.1
  have hl : lv_has ls 4 [(0, .ref (a 9)), (1, .int (nI w)), (2, .int x), (3, .int (zb b))] := hl
  refine lv_aload_n hx hb dX4_add_0 rfl (lv_at hl 0 rfl) ?_
  refine z_get S in_lay_X4 hK hP rfl 0 rfl 0 (by decide) fl_X4_9 rfl rfl dX4_add_1 ?_
  refine lv_iload_n hx hb dX4_add_4 rfl (lv_at hl 1 rfl) ?_
  refine lv_dup2_11 hx hb dX4_add_5 rfl rfl ?_
  refine z_iald S hK hP 1 rfl (j := w) (by omega) (by decide) dX4_add_6 ?_
  refine lv_iconst (v := 1) hx hb dX4_add_7 (by decide) ?_
  refine lv_iadd hx hb dX4_add_8 ?_
  refine z_iast S hK hP hD hS 1 rfl (j := w) (by omega) (by decide) dX4_add_9 (fun H locs hP hS => ?_)
  have hP : va_P D vwCl [(a 9, .inr (4, [.ref (a 10), .int Y.2.1, .int Y.2.2])), (a 10, .inl (ca 0, 3, .inl (upd Y.1 w ((Y.1 w) + 1))))] H := hP
  have hD := zDto (ws := [(a 9, .inr (4, [.ref (a 10), .int Y.2.1, .int Y.2.2])), (a 10, .inl (ca 0, 3, .inl (upd Y.1 w ((Y.1 w) + 1))))]) hN hA rfl
  refine lv_aload_n hx hb dX4_add_10 rfl (lv_at hl 0 rfl) ?_
  refine lv_dup hx hb dX4_add_11 rfl ?_
  refine z_get S in_lay_X4 hK hP rfl 0 rfl 2 (by decide) fl_X4_25 rfl rfl dX4_add_12 ?_
  refine lv_iload_n hx hb dX4_add_15 rfl (lv_at hl 2 rfl) ?_
  refine lv_iadd hx hb dX4_add_16 ?_
  refine z_put S in_lay_X4 tyX4_ok nmX4 hK hP hD hS rfl 0 rfl 2 (by decide) fl_X4_25 rfl rfl rfl rfl (Nat.le_of_ble_eq_true rfl) dX4_add_17 (fun H locs hP hS => ?_)
  have hP : va_P D vwCl [(a 9, .inr (4, [.ref (a 10), .int Y.2.1, .int (Y.2.2 + x)])), (a 10, .inl (ca 0, 3, .inl (upd Y.1 w ((Y.1 w) + 1))))] H := hP
  have hD := zDto (ws := [(a 9, .inr (4, [.ref (a 10), .int Y.2.1, .int (Y.2.2 + x)])), (a 10, .inl (ca 0, 3, .inl (upd Y.1 w ((Y.1 w) + 1))))]) hN hA rfl
  refine lv_iload_n hx hb dX4_add_20 rfl (lv_at hl 1 rfl) ?_
  refine lv_iconst (v := 2) hx hb dX4_add_21 (by decide) ?_
  refine zn_ne hx hb (x := w) (y := 2) (by omega) (by omega) (tgt := 39) dX4_add_22 (by decide) (fun c_22_1 => ?_) (fun c_22_1 => ?_)
  · have hz : zTly Y w x b = (upd Y.1 w ((Y.1 w) + 1), Y.2.1, Y.2.2 + x) := by simp [zTly, c_22_1]
    exact zw_v hx hb hr hlk hP hS (by rw [hz] <;> rfl) dX4_add_39
  · refine lv_iload_n hx hb dX4_add_25 rfl (lv_at hl 3 rfl) ?_
    refine zz_eq (tgt := 39) hx hb dX4_add_26 (by decide) (fun c_26_2 => ?_) (fun c_26_2 => ?_)
    · have hz : zTly Y w x b = (upd Y.1 w ((Y.1 w) + 1), Y.2.1, Y.2.2 + x) := by simp [zTly, c_22_1, c_26_2]
      exact zw_v hx hb hr hlk hP hS (by rw [hz] <;> rfl) dX4_add_39
    · refine lv_aload_n hx hb dX4_add_29 rfl (lv_at hl 0 rfl) ?_
      refine lv_dup hx hb dX4_add_30 rfl ?_
      refine z_get S in_lay_X4 hK hP rfl 0 rfl 1 (by decide) fl_X4_21 rfl rfl dX4_add_31 ?_
      refine lv_iconst (v := 1) hx hb dX4_add_34 (by decide) ?_
      refine lv_iadd hx hb dX4_add_35 ?_
      refine z_put S in_lay_X4 tyX4_ok nmX4 hK hP hD hS rfl 0 rfl 1 (by decide) fl_X4_21 rfl rfl rfl rfl (Nat.le_of_ble_eq_true rfl) dX4_add_36 (fun H locs hP hS => ?_)
      have hP : va_P D vwCl [(a 9, .inr (4, [.ref (a 10), .int (Y.2.1 + 1), .int (Y.2.2 + x)])), (a 10, .inl (ca 0, 3, .inl (upd Y.1 w ((Y.1 w) + 1))))] H := hP
      have hD := zDto (ws := [(a 9, .inr (4, [.ref (a 10), .int (Y.2.1 + 1), .int (Y.2.2 + x)])), (a 10, .inl (ca 0, 3, .inl (upd Y.1 w ((Y.1 w) + 1))))]) hN hA rfl
      have hz : zTly Y w x b = (upd Y.1 w ((Y.1 w) + 1), Y.2.1 + 1, Y.2.2 + x) := by simp [zTly, c_22_1, c_26_2]
      exact zw_v hx hb hr hlk hP hS (by rw [hz] <;> rfl) dX4_add_39
set_option maxHeartbeats 4000000 in
set_option maxRecDepth 100000 in
theorem c_X3_copyFrom (l : Launch) (D : va_G) (ca : Nat → ClassId) (a b : Nat → Nat) (T U : zTb) (hN : [a 1, a 2, a 3, a 4, a 5, b 1, b 2, b 3, b 4, b 5].Nodup) : zMw l yX3_copyFrom cX3_copyFrom 2 none 1 18 D ca [(a 1, .inr (3, [.ref (a 2), .ref (a 3), .ref (a 4), .ref (a 5), .int T.2.2.2.2.1, .int T.2.2.2.2.2])), (a 2, .inl (ca 0, 24, .inl T.1)), (a 3, .inl (ca 0, 24, .inl T.2.1)), (a 4, .inl (ca 0, 24, .inl T.2.2.1)), (a 5, .inl (ca 0, 6, .inl T.2.2.2.1)), (b 1, .inr (3, [.ref (b 2), .ref (b 3), .ref (b 4), .ref (b 5), .int U.2.2.2.2.1, .int U.2.2.2.2.2])), (b 2, .inl (ca 0, 24, .inl U.1)), (b 3, .inl (ca 0, 24, .inl U.2.1)), (b 4, .inl (ca 0, 24, .inl U.2.2.1)), (b 5, .inl (ca 0, 6, .inl U.2.2.2.1))] ([(a 1, .inr (3, [.ref (a 2), .ref (a 3), .ref (a 4), .ref (a 5), .int U.2.2.2.2.1, .int U.2.2.2.2.2])), (a 2, .inl (ca 0, 24, .inl U.1)), (a 3, .inl (ca 0, 24, .inl U.2.1)), (a 4, .inl (ca 0, 24, .inl U.2.2.1)), (a 5, .inl (ca 0, 6, .inl U.2.2.2.1)), (b 1, .inr (3, [.ref (b 2), .ref (b 3), .ref (b 4), .ref (b 5), .int U.2.2.2.2.1, .int U.2.2.2.2.2])), (b 2, .inl (ca 0, 24, .inl U.1)), (b 3, .inl (ca 0, 24, .inl U.2.1)), (b 4, .inl (ca 0, 24, .inl U.2.2.1)), (b 5, .inl (ca 0, 6, .inl U.2.2.2.1))]) [.ref (a 1), .ref (b 1)] none := by
  refine zMw_of (own := RX3) (by decide) rfl (Nat.le_of_ble_eq_true rfl) ?_
  intro p e s m args below meth c ls S hr hlk hP hK hl hS
  have hP : va_P D vwCl [(a 1, .inr (3, [.ref (a 2), .ref (a 3), .ref (a 4), .ref (a 5), .int T.2.2.2.2.1, .int T.2.2.2.2.2])), (a 2, .inl (ca 0, 24, .inl T.1)), (a 3, .inl (ca 0, 24, .inl T.2.1)), (a 4, .inl (ca 0, 24, .inl T.2.2.1)), (a 5, .inl (ca 0, 6, .inl T.2.2.2.1)), (b 1, .inr (3, [.ref (b 2), .ref (b 3), .ref (b 4), .ref (b 5), .int U.2.2.2.2.1, .int U.2.2.2.2.2])), (b 2, .inl (ca 0, 24, .inl U.1)), (b 3, .inl (ca 0, 24, .inl U.2.1)), (b 4, .inl (ca 0, 24, .inl U.2.2.1)), (b 5, .inl (ca 0, 6, .inl U.2.2.2.1))] s.heap := hP
  have hS : va_S (zA [a 1, a 2, a 3, a 4, a 5, b 1, b 2, b 3, b 4, b 5]) s.heap s.heap [] := hS
  have hA : ∀ q ∈ [a 1, a 2, a 3, a 4, a 5, b 1, b 2, b 3, b 4, b 5], zA [a 1, a 2, a 3, a 4, a 5, b 1, b 2, b 3, b 4, b 5] q := fun _ h => h
  have hD := zDto (ws := [(a 1, .inr (3, [.ref (a 2), .ref (a 3), .ref (a 4), .ref (a 5), .int T.2.2.2.2.1, .int T.2.2.2.2.2])), (a 2, .inl (ca 0, 24, .inl T.1)), (a 3, .inl (ca 0, 24, .inl T.2.1)), (a 4, .inl (ca 0, 24, .inl T.2.2.1)), (a 5, .inl (ca 0, 6, .inl T.2.2.2.1)), (b 1, .inr (3, [.ref (b 2), .ref (b 3), .ref (b 4), .ref (b 5), .int U.2.2.2.2.1, .int U.2.2.2.2.2])), (b 2, .inl (ca 0, 24, .inl U.1)), (b 3, .inl (ca 0, 24, .inl U.2.1)), (b 4, .inl (ca 0, 24, .inl U.2.2.1)), (b 5, .inl (ca 0, 6, .inl U.2.2.2.1))]) hN hA rfl
  have hx := S.1
  have hb := S.2.1
  have hl : lv_has ls 2 [(0, .ref (a 1)), (1, .ref (b 1))] := hl
  refine lv_aload_n hx hb dX3_copyFrom_0 rfl (lv_at hl 1 rfl) ?_
  refine z_get S in_lay_X3 hK hP rfl 5 rfl 0 (by decide) fl_X3_9 rfl rfl dX3_copyFrom_1 ?_
  refine lv_iconst (v := 0) hx hb dX3_copyFrom_4 (by decide) ?_
  refine lv_aload_n hx hb dX3_copyFrom_5 rfl (lv_at hl 0 rfl) ?_
  refine z_get S in_lay_X3 hK hP rfl 0 rfl 0 (by decide) fl_X3_9 rfl rfl dX3_copyFrom_6 ?_
  refine lv_iconst (v := 0) hx hb dX3_copyFrom_9 (by decide) ?_
  refine lv_bipush (v := 24) hx hb dX3_copyFrom_10 (by decide) ?_
  refine z_copyi (n := 24) (q0 := 6) (q1 := 1) (rest := []) S hl.1 ml_X3_30 hK hP hD hS rfl rfl (by decide) (Nat.le_of_ble_eq_true rfl) (by decide) dX3_copyFrom_12 (fun H locs hP hS => ?_)
  have hP : va_P D vwCl [(a 1, .inr (3, [.ref (a 2), .ref (a 3), .ref (a 4), .ref (a 5), .int T.2.2.2.2.1, .int T.2.2.2.2.2])), (a 2, .inl (ca 0, 24, .inl U.1)), (a 3, .inl (ca 0, 24, .inl T.2.1)), (a 4, .inl (ca 0, 24, .inl T.2.2.1)), (a 5, .inl (ca 0, 6, .inl T.2.2.2.1)), (b 1, .inr (3, [.ref (b 2), .ref (b 3), .ref (b 4), .ref (b 5), .int U.2.2.2.2.1, .int U.2.2.2.2.2])), (b 2, .inl (ca 0, 24, .inl U.1)), (b 3, .inl (ca 0, 24, .inl U.2.1)), (b 4, .inl (ca 0, 24, .inl U.2.2.1)), (b 5, .inl (ca 0, 6, .inl U.2.2.2.1))] H := hP
  have hD := zDto (ws := [(a 1, .inr (3, [.ref (a 2), .ref (a 3), .ref (a 4), .ref (a 5), .int T.2.2.2.2.1, .int T.2.2.2.2.2])), (a 2, .inl (ca 0, 24, .inl U.1)), (a 3, .inl (ca 0, 24, .inl T.2.1)), (a 4, .inl (ca 0, 24, .inl T.2.2.1)), (a 5, .inl (ca 0, 6, .inl T.2.2.2.1)), (b 1, .inr (3, [.ref (b 2), .ref (b 3), .ref (b 4), .ref (b 5), .int U.2.2.2.2.1, .int U.2.2.2.2.2])), (b 2, .inl (ca 0, 24, .inl U.1)), (b 3, .inl (ca 0, 24, .inl U.2.1)), (b 4, .inl (ca 0, 24, .inl U.2.2.1)), (b 5, .inl (ca 0, 6, .inl U.2.2.2.1))]) hN hA rfl
  refine lv_aload_n hx hb dX3_copyFrom_15 rfl (lv_at hl 1 rfl) ?_
  refine z_get S in_lay_X3 hK hP rfl 5 rfl 1 (by decide) fl_X3_15 rfl rfl dX3_copyFrom_16 ?_
  refine lv_iconst (v := 0) hx hb dX3_copyFrom_19 (by decide) ?_
  refine lv_aload_n hx hb dX3_copyFrom_20 rfl (lv_at hl 0 rfl) ?_
  refine z_get S in_lay_X3 hK hP rfl 0 rfl 1 (by decide) fl_X3_15 rfl rfl dX3_copyFrom_21 ?_
  refine lv_iconst (v := 0) hx hb dX3_copyFrom_24 (by decide) ?_
  refine lv_bipush (v := 24) hx hb dX3_copyFrom_25 (by decide) ?_
  refine z_copyi (n := 24) (q0 := 7) (q1 := 2) (rest := []) S hl.1 ml_X3_30 hK hP hD hS rfl rfl (by decide) (Nat.le_of_ble_eq_true rfl) (by decide) dX3_copyFrom_27 (fun H locs hP hS => ?_)
  have hP : va_P D vwCl [(a 1, .inr (3, [.ref (a 2), .ref (a 3), .ref (a 4), .ref (a 5), .int T.2.2.2.2.1, .int T.2.2.2.2.2])), (a 2, .inl (ca 0, 24, .inl U.1)), (a 3, .inl (ca 0, 24, .inl U.2.1)), (a 4, .inl (ca 0, 24, .inl T.2.2.1)), (a 5, .inl (ca 0, 6, .inl T.2.2.2.1)), (b 1, .inr (3, [.ref (b 2), .ref (b 3), .ref (b 4), .ref (b 5), .int U.2.2.2.2.1, .int U.2.2.2.2.2])), (b 2, .inl (ca 0, 24, .inl U.1)), (b 3, .inl (ca 0, 24, .inl U.2.1)), (b 4, .inl (ca 0, 24, .inl U.2.2.1)), (b 5, .inl (ca 0, 6, .inl U.2.2.2.1))] H := hP
  have hD := zDto (ws := [(a 1, .inr (3, [.ref (a 2), .ref (a 3), .ref (a 4), .ref (a 5), .int T.2.2.2.2.1, .int T.2.2.2.2.2])), (a 2, .inl (ca 0, 24, .inl U.1)), (a 3, .inl (ca 0, 24, .inl U.2.1)), (a 4, .inl (ca 0, 24, .inl T.2.2.1)), (a 5, .inl (ca 0, 6, .inl T.2.2.2.1)), (b 1, .inr (3, [.ref (b 2), .ref (b 3), .ref (b 4), .ref (b 5), .int U.2.2.2.2.1, .int U.2.2.2.2.2])), (b 2, .inl (ca 0, 24, .inl U.1)), (b 3, .inl (ca 0, 24, .inl U.2.1)), (b 4, .inl (ca 0, 24, .inl U.2.2.1)), (b 5, .inl (ca 0, 6, .inl U.2.2.2.1))]) hN hA rfl
  refine lv_aload_n hx hb dX3_copyFrom_30 rfl (lv_at hl 1 rfl) ?_
  refine z_get S in_lay_X3 hK hP rfl 5 rfl 2 (by decide) fl_X3_18 rfl rfl dX3_copyFrom_31 ?_
  refine lv_iconst (v := 0) hx hb dX3_copyFrom_34 (by decide) ?_
  refine lv_aload_n hx hb dX3_copyFrom_35 rfl (lv_at hl 0 rfl) ?_
  refine z_get S in_lay_X3 hK hP rfl 0 rfl 2 (by decide) fl_X3_18 rfl rfl dX3_copyFrom_36 ?_
  refine lv_iconst (v := 0) hx hb dX3_copyFrom_39 (by decide) ?_
  refine lv_bipush (v := 24) hx hb dX3_copyFrom_40 (by decide) ?_
  refine z_copyi (n := 24) (q0 := 8) (q1 := 3) (rest := []) S hl.1 ml_X3_30 hK hP hD hS rfl rfl (by decide) (Nat.le_of_ble_eq_true rfl) (by decide) dX3_copyFrom_42 (fun H locs hP hS => ?_)
  have hP : va_P D vwCl [(a 1, .inr (3, [.ref (a 2), .ref (a 3), .ref (a 4), .ref (a 5), .int T.2.2.2.2.1, .int T.2.2.2.2.2])), (a 2, .inl (ca 0, 24, .inl U.1)), (a 3, .inl (ca 0, 24, .inl U.2.1)), (a 4, .inl (ca 0, 24, .inl U.2.2.1)), (a 5, .inl (ca 0, 6, .inl T.2.2.2.1)), (b 1, .inr (3, [.ref (b 2), .ref (b 3), .ref (b 4), .ref (b 5), .int U.2.2.2.2.1, .int U.2.2.2.2.2])), (b 2, .inl (ca 0, 24, .inl U.1)), (b 3, .inl (ca 0, 24, .inl U.2.1)), (b 4, .inl (ca 0, 24, .inl U.2.2.1)), (b 5, .inl (ca 0, 6, .inl U.2.2.2.1))] H := hP
  have hD := zDto (ws := [(a 1, .inr (3, [.ref (a 2), .ref (a 3), .ref (a 4), .ref (a 5), .int T.2.2.2.2.1, .int T.2.2.2.2.2])), (a 2, .inl (ca 0, 24, .inl U.1)), (a 3, .inl (ca 0, 24, .inl U.2.1)), (a 4, .inl (ca 0, 24, .inl U.2.2.1)), (a 5, .inl (ca 0, 6, .inl T.2.2.2.1)), (b 1, .inr (3, [.ref (b 2), .ref (b 3), .ref (b 4), .ref (b 5), .int U.2.2.2.2.1, .int U.2.2.2.2.2])), (b 2, .inl (ca 0, 24, .inl U.1)), (b 3, .inl (ca 0, 24, .inl U.2.1)), (b 4, .inl (ca 0, 24, .inl U.2.2.1)), (b 5, .inl (ca 0, 6, .inl U.2.2.2.1))]) hN hA rfl
  refine lv_aload_n hx hb dX3_copyFrom_45 rfl (lv_at hl 1 rfl) ?_
  refine z_get S in_lay_X3 hK hP rfl 5 rfl 3 (by decide) fl_X3_21 rfl rfl dX3_copyFrom_46 ?_
  refine lv_iconst (v := 0) hx hb dX3_copyFrom_49 (by decide) ?_
  refine lv_aload_n hx hb dX3_copyFrom_50 rfl (lv_at hl 0 rfl) ?_
  refine z_get S in_lay_X3 hK hP rfl 0 rfl 3 (by decide) fl_X3_21 rfl rfl dX3_copyFrom_51 ?_
  refine lv_iconst (v := 0) hx hb dX3_copyFrom_54 (by decide) ?_
  refine lv_bipush (v := 6) hx hb dX3_copyFrom_55 (by decide) ?_
  refine z_copyi (n := 6) (q0 := 9) (q1 := 4) (rest := []) S hl.1 ml_X3_30 hK hP hD hS rfl rfl (by decide) (Nat.le_of_ble_eq_true rfl) (by decide) dX3_copyFrom_57 (fun H locs hP hS => ?_)
  have hP : va_P D vwCl [(a 1, .inr (3, [.ref (a 2), .ref (a 3), .ref (a 4), .ref (a 5), .int T.2.2.2.2.1, .int T.2.2.2.2.2])), (a 2, .inl (ca 0, 24, .inl U.1)), (a 3, .inl (ca 0, 24, .inl U.2.1)), (a 4, .inl (ca 0, 24, .inl U.2.2.1)), (a 5, .inl (ca 0, 6, .inl U.2.2.2.1)), (b 1, .inr (3, [.ref (b 2), .ref (b 3), .ref (b 4), .ref (b 5), .int U.2.2.2.2.1, .int U.2.2.2.2.2])), (b 2, .inl (ca 0, 24, .inl U.1)), (b 3, .inl (ca 0, 24, .inl U.2.1)), (b 4, .inl (ca 0, 24, .inl U.2.2.1)), (b 5, .inl (ca 0, 6, .inl U.2.2.2.1))] H := hP
  have hD := zDto (ws := [(a 1, .inr (3, [.ref (a 2), .ref (a 3), .ref (a 4), .ref (a 5), .int T.2.2.2.2.1, .int T.2.2.2.2.2])), (a 2, .inl (ca 0, 24, .inl U.1)), (a 3, .inl (ca 0, 24, .inl U.2.1)), (a 4, .inl (ca 0, 24, .inl U.2.2.1)), (a 5, .inl (ca 0, 6, .inl U.2.2.2.1)), (b 1, .inr (3, [.ref (b 2), .ref (b 3), .ref (b 4), .ref (b 5), .int U.2.2.2.2.1, .int U.2.2.2.2.2])), (b 2, .inl (ca 0, 24, .inl U.1)), (b 3, .inl (ca 0, 24, .inl U.2.1)), (b 4, .inl (ca 0, 24, .inl U.2.2.1)), (b 5, .inl (ca 0, 6, .inl U.2.2.2.1))]) hN hA rfl
  refine lv_aload_n hx hb dX3_copyFrom_60 rfl (lv_at hl 0 rfl) ?_
  refine lv_aload_n hx hb dX3_copyFrom_61 rfl (lv_at hl 1 rfl) ?_
  refine z_get S in_lay_X3 hK hP rfl 5 rfl 4 (by decide) fl_X3_36 rfl rfl dX3_copyFrom_62 ?_
  refine z_put S in_lay_X3 tyX3_ok nmX3 hK hP hD hS rfl 0 rfl 4 (by decide) fl_X3_36 rfl rfl rfl rfl (Nat.le_of_ble_eq_true rfl) dX3_copyFrom_65 (fun H locs hP hS => ?_)
  have hP : va_P D vwCl [(a 1, .inr (3, [.ref (a 2), .ref (a 3), .ref (a 4), .ref (a 5), .int U.2.2.2.2.1, .int T.2.2.2.2.2])), (a 2, .inl (ca 0, 24, .inl U.1)), (a 3, .inl (ca 0, 24, .inl U.2.1)), (a 4, .inl (ca 0, 24, .inl U.2.2.1)), (a 5, .inl (ca 0, 6, .inl U.2.2.2.1)), (b 1, .inr (3, [.ref (b 2), .ref (b 3), .ref (b 4), .ref (b 5), .int U.2.2.2.2.1, .int U.2.2.2.2.2])), (b 2, .inl (ca 0, 24, .inl U.1)), (b 3, .inl (ca 0, 24, .inl U.2.1)), (b 4, .inl (ca 0, 24, .inl U.2.2.1)), (b 5, .inl (ca 0, 6, .inl U.2.2.2.1))] H := hP
  have hD := zDto (ws := [(a 1, .inr (3, [.ref (a 2), .ref (a 3), .ref (a 4), .ref (a 5), .int U.2.2.2.2.1, .int T.2.2.2.2.2])), (a 2, .inl (ca 0, 24, .inl U.1)), (a 3, .inl (ca 0, 24, .inl U.2.1)), (a 4, .inl (ca 0, 24, .inl U.2.2.1)), (a 5, .inl (ca 0, 6, .inl U.2.2.2.1)), (b 1, .inr (3, [.ref (b 2), .ref (b 3), .ref (b 4), .ref (b 5), .int U.2.2.2.2.1, .int U.2.2.2.2.2])), (b 2, .inl (ca 0, 24, .inl U.1)), (b 3, .inl (ca 0, 24, .inl U.2.1)), (b 4, .inl (ca 0, 24, .inl U.2.2.1)), (b 5, .inl (ca 0, 6, .inl U.2.2.2.1))]) hN hA rfl
  refine lv_aload_n hx hb dX3_copyFrom_68 rfl (lv_at hl 0 rfl) ?_
  refine lv_aload_n hx hb dX3_copyFrom_69 rfl (lv_at hl 1 rfl) ?_
  refine z_get S in_lay_X3 hK hP rfl 5 rfl 5 (by decide) fl_X3_40 rfl rfl dX3_copyFrom_70 ?_
  refine z_put S in_lay_X3 tyX3_ok nmX3 hK hP hD hS rfl 0 rfl 5 (by decide) fl_X3_40 rfl rfl rfl rfl (Nat.le_of_ble_eq_true rfl) dX3_copyFrom_73 (fun H locs hP hS => ?_)
  have hP : va_P D vwCl [(a 1, .inr (3, [.ref (a 2), .ref (a 3), .ref (a 4), .ref (a 5), .int U.2.2.2.2.1, .int U.2.2.2.2.2])), (a 2, .inl (ca 0, 24, .inl U.1)), (a 3, .inl (ca 0, 24, .inl U.2.1)), (a 4, .inl (ca 0, 24, .inl U.2.2.1)), (a 5, .inl (ca 0, 6, .inl U.2.2.2.1)), (b 1, .inr (3, [.ref (b 2), .ref (b 3), .ref (b 4), .ref (b 5), .int U.2.2.2.2.1, .int U.2.2.2.2.2])), (b 2, .inl (ca 0, 24, .inl U.1)), (b 3, .inl (ca 0, 24, .inl U.2.1)), (b 4, .inl (ca 0, 24, .inl U.2.2.1)), (b 5, .inl (ca 0, 6, .inl U.2.2.2.1))] H := hP
  have hD := zDto (ws := [(a 1, .inr (3, [.ref (a 2), .ref (a 3), .ref (a 4), .ref (a 5), .int U.2.2.2.2.1, .int U.2.2.2.2.2])), (a 2, .inl (ca 0, 24, .inl U.1)), (a 3, .inl (ca 0, 24, .inl U.2.1)), (a 4, .inl (ca 0, 24, .inl U.2.2.1)), (a 5, .inl (ca 0, 6, .inl U.2.2.2.1)), (b 1, .inr (3, [.ref (b 2), .ref (b 3), .ref (b 4), .ref (b 5), .int U.2.2.2.2.1, .int U.2.2.2.2.2])), (b 2, .inl (ca 0, 24, .inl U.1)), (b 3, .inl (ca 0, 24, .inl U.2.1)), (b 4, .inl (ca 0, 24, .inl U.2.2.1)), (b 5, .inl (ca 0, 6, .inl U.2.2.2.1))]) hN hA rfl
  exact zw_v hx hb hr hlk hP hS (by rfl) dX3_copyFrom_76
set_option maxHeartbeats 4000000 in
set_option maxRecDepth 100000 in
theorem c_X0_copyFrom (l : Launch) (D : va_G) (ca : Nat → ClassId) (a b : Nat → Nat) (T U : zAk) (hN : [a 6, a 7, a 8, b 6, b 7, b 8].Nodup) : zMw l yX0_copyFrom cX0_copyFrom 2 none 1 18 D ca [(a 6, .inr (0, [.ref (a 7), .ref (a 8)])), (a 7, .inl (ca 0, 4, .inl T.1)), (a 8, .inl (ca 0, 4, .inl T.2)), (b 6, .inr (0, [.ref (b 7), .ref (b 8)])), (b 7, .inl (ca 0, 4, .inl U.1)), (b 8, .inl (ca 0, 4, .inl U.2))] ([(a 6, .inr (0, [.ref (a 7), .ref (a 8)])), (a 7, .inl (ca 0, 4, .inl U.1)), (a 8, .inl (ca 0, 4, .inl U.2)), (b 6, .inr (0, [.ref (b 7), .ref (b 8)])), (b 7, .inl (ca 0, 4, .inl U.1)), (b 8, .inl (ca 0, 4, .inl U.2))]) [.ref (a 6), .ref (b 6)] none := by
  refine zMw_of (own := RX0) (by decide) rfl (Nat.le_of_ble_eq_true rfl) ?_
  intro p e s m args below meth c ls S hr hlk hP hK hl hS
  have hP : va_P D vwCl [(a 6, .inr (0, [.ref (a 7), .ref (a 8)])), (a 7, .inl (ca 0, 4, .inl T.1)), (a 8, .inl (ca 0, 4, .inl T.2)), (b 6, .inr (0, [.ref (b 7), .ref (b 8)])), (b 7, .inl (ca 0, 4, .inl U.1)), (b 8, .inl (ca 0, 4, .inl U.2))] s.heap := hP
  have hS : va_S (zA [a 6, a 7, a 8, b 6, b 7, b 8]) s.heap s.heap [] := hS
  have hA : ∀ q ∈ [a 6, a 7, a 8, b 6, b 7, b 8], zA [a 6, a 7, a 8, b 6, b 7, b 8] q := fun _ h => h
  have hD := zDto (ws := [(a 6, .inr (0, [.ref (a 7), .ref (a 8)])), (a 7, .inl (ca 0, 4, .inl T.1)), (a 8, .inl (ca 0, 4, .inl T.2)), (b 6, .inr (0, [.ref (b 7), .ref (b 8)])), (b 7, .inl (ca 0, 4, .inl U.1)), (b 8, .inl (ca 0, 4, .inl U.2))]) hN hA rfl
  have hx := S.1
  have hb := S.2.1
  have hl : lv_has ls 2 [(0, .ref (a 6)), (1, .ref (b 6))] := hl
  refine lv_aload_n hx hb dX0_copyFrom_0 rfl (lv_at hl 1 rfl) ?_
  refine z_get S in_lay_X0 hK hP rfl 3 rfl 0 (by decide) fl_X0_9 rfl rfl dX0_copyFrom_1 ?_
  refine lv_iconst (v := 0) hx hb dX0_copyFrom_4 (by decide) ?_
  refine lv_aload_n hx hb dX0_copyFrom_5 rfl (lv_at hl 0 rfl) ?_
  refine z_get S in_lay_X0 hK hP rfl 0 rfl 0 (by decide) fl_X0_9 rfl rfl dX0_copyFrom_6 ?_
  refine lv_iconst (v := 0) hx hb dX0_copyFrom_9 (by decide) ?_
  refine lv_iconst (v := 4) hx hb dX0_copyFrom_10 (by decide) ?_
  refine z_copyi (n := 4) (q0 := 4) (q1 := 1) (rest := []) S hl.1 ml_X0_24 hK hP hD hS rfl rfl (by decide) (Nat.le_of_ble_eq_true rfl) (by decide) dX0_copyFrom_11 (fun H locs hP hS => ?_)
  have hP : va_P D vwCl [(a 6, .inr (0, [.ref (a 7), .ref (a 8)])), (a 7, .inl (ca 0, 4, .inl U.1)), (a 8, .inl (ca 0, 4, .inl T.2)), (b 6, .inr (0, [.ref (b 7), .ref (b 8)])), (b 7, .inl (ca 0, 4, .inl U.1)), (b 8, .inl (ca 0, 4, .inl U.2))] H := hP
  have hD := zDto (ws := [(a 6, .inr (0, [.ref (a 7), .ref (a 8)])), (a 7, .inl (ca 0, 4, .inl U.1)), (a 8, .inl (ca 0, 4, .inl T.2)), (b 6, .inr (0, [.ref (b 7), .ref (b 8)])), (b 7, .inl (ca 0, 4, .inl U.1)), (b 8, .inl (ca 0, 4, .inl U.2))]) hN hA rfl
  refine lv_aload_n hx hb dX0_copyFrom_14 rfl (lv_at hl 1 rfl) ?_
  refine z_get S in_lay_X0 hK hP rfl 3 rfl 1 (by decide) fl_X0_15 rfl rfl dX0_copyFrom_15 ?_
  refine lv_iconst (v := 0) hx hb dX0_copyFrom_18 (by decide) ?_
  refine lv_aload_n hx hb dX0_copyFrom_19 rfl (lv_at hl 0 rfl) ?_
  refine z_get S in_lay_X0 hK hP rfl 0 rfl 1 (by decide) fl_X0_15 rfl rfl dX0_copyFrom_20 ?_
  refine lv_iconst (v := 0) hx hb dX0_copyFrom_23 (by decide) ?_
  refine lv_iconst (v := 4) hx hb dX0_copyFrom_24 (by decide) ?_
  refine z_copyi (n := 4) (q0 := 5) (q1 := 2) (rest := []) S hl.1 ml_X0_24 hK hP hD hS rfl rfl (by decide) (Nat.le_of_ble_eq_true rfl) (by decide) dX0_copyFrom_25 (fun H locs hP hS => ?_)
  have hP : va_P D vwCl [(a 6, .inr (0, [.ref (a 7), .ref (a 8)])), (a 7, .inl (ca 0, 4, .inl U.1)), (a 8, .inl (ca 0, 4, .inl U.2)), (b 6, .inr (0, [.ref (b 7), .ref (b 8)])), (b 7, .inl (ca 0, 4, .inl U.1)), (b 8, .inl (ca 0, 4, .inl U.2))] H := hP
  have hD := zDto (ws := [(a 6, .inr (0, [.ref (a 7), .ref (a 8)])), (a 7, .inl (ca 0, 4, .inl U.1)), (a 8, .inl (ca 0, 4, .inl U.2)), (b 6, .inr (0, [.ref (b 7), .ref (b 8)])), (b 7, .inl (ca 0, 4, .inl U.1)), (b 8, .inl (ca 0, 4, .inl U.2))]) hN hA rfl
  exact zw_v hx hb hr hlk hP hS (by rfl) dX0_copyFrom_28
set_option maxHeartbeats 4000000 in
set_option maxRecDepth 100000 in
theorem c_X4_copyFrom (l : Launch) (D : va_G) (ca : Nat → ClassId) (a b : Nat → Nat) (T U : zTl) (hN : [a 9, a 10, b 9, b 10].Nodup) : zMw l yX4_copyFrom cX4_copyFrom 2 none 1 18 D ca [(a 9, .inr (4, [.ref (a 10), .int T.2.1, .int T.2.2])), (a 10, .inl (ca 0, 3, .inl T.1)), (b 9, .inr (4, [.ref (b 10), .int U.2.1, .int U.2.2])), (b 10, .inl (ca 0, 3, .inl U.1))] ([(a 9, .inr (4, [.ref (a 10), .int U.2.1, .int U.2.2])), (a 10, .inl (ca 0, 3, .inl U.1)), (b 9, .inr (4, [.ref (b 10), .int U.2.1, .int U.2.2])), (b 10, .inl (ca 0, 3, .inl U.1))]) [.ref (a 9), .ref (b 9)] none := by
  refine zMw_of (own := RX4) (by decide) rfl (Nat.le_of_ble_eq_true rfl) ?_
  intro p e s m args below meth c ls S hr hlk hP hK hl hS
  have hP : va_P D vwCl [(a 9, .inr (4, [.ref (a 10), .int T.2.1, .int T.2.2])), (a 10, .inl (ca 0, 3, .inl T.1)), (b 9, .inr (4, [.ref (b 10), .int U.2.1, .int U.2.2])), (b 10, .inl (ca 0, 3, .inl U.1))] s.heap := hP
  have hS : va_S (zA [a 9, a 10, b 9, b 10]) s.heap s.heap [] := hS
  have hA : ∀ q ∈ [a 9, a 10, b 9, b 10], zA [a 9, a 10, b 9, b 10] q := fun _ h => h
  have hD := zDto (ws := [(a 9, .inr (4, [.ref (a 10), .int T.2.1, .int T.2.2])), (a 10, .inl (ca 0, 3, .inl T.1)), (b 9, .inr (4, [.ref (b 10), .int U.2.1, .int U.2.2])), (b 10, .inl (ca 0, 3, .inl U.1))]) hN hA rfl
  have hx := S.1
  have hb := S.2.1
  have hl : lv_has ls 2 [(0, .ref (a 9)), (1, .ref (b 9))] := hl
  refine lv_aload_n hx hb dX4_copyFrom_0 rfl (lv_at hl 1 rfl) ?_
  refine z_get S in_lay_X4 hK hP rfl 2 rfl 0 (by decide) fl_X4_9 rfl rfl dX4_copyFrom_1 ?_
  refine lv_iconst (v := 0) hx hb dX4_copyFrom_4 (by decide) ?_
  refine lv_aload_n hx hb dX4_copyFrom_5 rfl (lv_at hl 0 rfl) ?_
  refine z_get S in_lay_X4 hK hP rfl 0 rfl 0 (by decide) fl_X4_9 rfl rfl dX4_copyFrom_6 ?_
  refine lv_iconst (v := 0) hx hb dX4_copyFrom_9 (by decide) ?_
  refine lv_iconst (v := 3) hx hb dX4_copyFrom_10 (by decide) ?_
  refine z_copyi (n := 3) (q0 := 3) (q1 := 1) (rest := []) S hl.1 ml_X4_15 hK hP hD hS rfl rfl (by decide) (Nat.le_of_ble_eq_true rfl) (by decide) dX4_copyFrom_11 (fun H locs hP hS => ?_)
  have hP : va_P D vwCl [(a 9, .inr (4, [.ref (a 10), .int T.2.1, .int T.2.2])), (a 10, .inl (ca 0, 3, .inl U.1)), (b 9, .inr (4, [.ref (b 10), .int U.2.1, .int U.2.2])), (b 10, .inl (ca 0, 3, .inl U.1))] H := hP
  have hD := zDto (ws := [(a 9, .inr (4, [.ref (a 10), .int T.2.1, .int T.2.2])), (a 10, .inl (ca 0, 3, .inl U.1)), (b 9, .inr (4, [.ref (b 10), .int U.2.1, .int U.2.2])), (b 10, .inl (ca 0, 3, .inl U.1))]) hN hA rfl
  refine lv_aload_n hx hb dX4_copyFrom_14 rfl (lv_at hl 0 rfl) ?_
  refine lv_aload_n hx hb dX4_copyFrom_15 rfl (lv_at hl 1 rfl) ?_
  refine z_get S in_lay_X4 hK hP rfl 2 rfl 1 (by decide) fl_X4_21 rfl rfl dX4_copyFrom_16 ?_
  refine z_put S in_lay_X4 tyX4_ok nmX4 hK hP hD hS rfl 0 rfl 1 (by decide) fl_X4_21 rfl rfl rfl rfl (Nat.le_of_ble_eq_true rfl) dX4_copyFrom_19 (fun H locs hP hS => ?_)
  have hP : va_P D vwCl [(a 9, .inr (4, [.ref (a 10), .int U.2.1, .int T.2.2])), (a 10, .inl (ca 0, 3, .inl U.1)), (b 9, .inr (4, [.ref (b 10), .int U.2.1, .int U.2.2])), (b 10, .inl (ca 0, 3, .inl U.1))] H := hP
  have hD := zDto (ws := [(a 9, .inr (4, [.ref (a 10), .int U.2.1, .int T.2.2])), (a 10, .inl (ca 0, 3, .inl U.1)), (b 9, .inr (4, [.ref (b 10), .int U.2.1, .int U.2.2])), (b 10, .inl (ca 0, 3, .inl U.1))]) hN hA rfl
  refine lv_aload_n hx hb dX4_copyFrom_22 rfl (lv_at hl 0 rfl) ?_
  refine lv_aload_n hx hb dX4_copyFrom_23 rfl (lv_at hl 1 rfl) ?_
  refine z_get S in_lay_X4 hK hP rfl 2 rfl 2 (by decide) fl_X4_25 rfl rfl dX4_copyFrom_24 ?_
  refine z_put S in_lay_X4 tyX4_ok nmX4 hK hP hD hS rfl 0 rfl 2 (by decide) fl_X4_25 rfl rfl rfl rfl (Nat.le_of_ble_eq_true rfl) dX4_copyFrom_27 (fun H locs hP hS => ?_)
  have hP : va_P D vwCl [(a 9, .inr (4, [.ref (a 10), .int U.2.1, .int U.2.2])), (a 10, .inl (ca 0, 3, .inl U.1)), (b 9, .inr (4, [.ref (b 10), .int U.2.1, .int U.2.2])), (b 10, .inl (ca 0, 3, .inl U.1))] H := hP
  have hD := zDto (ws := [(a 9, .inr (4, [.ref (a 10), .int U.2.1, .int U.2.2])), (a 10, .inl (ca 0, 3, .inl U.1)), (b 9, .inr (4, [.ref (b 10), .int U.2.1, .int U.2.2])), (b 10, .inl (ca 0, 3, .inl U.1))]) hN hA rfl
  exact zw_v hx hb hr hlk hP hS (by rfl) dX4_copyFrom_30
set_option maxHeartbeats 4000000 in
set_option maxRecDepth 100000 in
theorem c_X2_copyFrom (l : Launch) (D : va_G) (ca : Nat → ClassId) (a b : Nat → Nat) (T U : zSt) (hN : [a 0, a 1, a 2, a 3, a 4, a 5, a 6, a 7, a 8, a 9, a 10, b 0, b 1, b 2, b 3, b 4, b 5, b 6, b 7, b 8, b 9, b 10].Nodup) : zMw l yX2_copyFrom cX2_copyFrom 2 none 2 39 D ca [(a 0, .inr (2, [.ref (a 1), .ref (a 6), .ref (a 9)])), (a 1, .inr (3, [.ref (a 2), .ref (a 3), .ref (a 4), .ref (a 5), .int T.1.2.2.2.2.1, .int T.1.2.2.2.2.2])), (a 2, .inl (ca 0, 24, .inl T.1.1)), (a 3, .inl (ca 0, 24, .inl T.1.2.1)), (a 4, .inl (ca 0, 24, .inl T.1.2.2.1)), (a 5, .inl (ca 0, 6, .inl T.1.2.2.2.1)), (a 6, .inr (0, [.ref (a 7), .ref (a 8)])), (a 7, .inl (ca 0, 4, .inl T.2.1.1)), (a 8, .inl (ca 0, 4, .inl T.2.1.2)), (a 9, .inr (4, [.ref (a 10), .int T.2.2.2.1, .int T.2.2.2.2])), (a 10, .inl (ca 0, 3, .inl T.2.2.1)), (b 0, .inr (2, [.ref (b 1), .ref (b 6), .ref (b 9)])), (b 1, .inr (3, [.ref (b 2), .ref (b 3), .ref (b 4), .ref (b 5), .int U.1.2.2.2.2.1, .int U.1.2.2.2.2.2])), (b 2, .inl (ca 0, 24, .inl U.1.1)), (b 3, .inl (ca 0, 24, .inl U.1.2.1)), (b 4, .inl (ca 0, 24, .inl U.1.2.2.1)), (b 5, .inl (ca 0, 6, .inl U.1.2.2.2.1)), (b 6, .inr (0, [.ref (b 7), .ref (b 8)])), (b 7, .inl (ca 0, 4, .inl U.2.1.1)), (b 8, .inl (ca 0, 4, .inl U.2.1.2)), (b 9, .inr (4, [.ref (b 10), .int U.2.2.2.1, .int U.2.2.2.2])), (b 10, .inl (ca 0, 3, .inl U.2.2.1))] ([(a 0, .inr (2, [.ref (a 1), .ref (a 6), .ref (a 9)])), (a 1, .inr (3, [.ref (a 2), .ref (a 3), .ref (a 4), .ref (a 5), .int U.1.2.2.2.2.1, .int U.1.2.2.2.2.2])), (a 2, .inl (ca 0, 24, .inl U.1.1)), (a 3, .inl (ca 0, 24, .inl U.1.2.1)), (a 4, .inl (ca 0, 24, .inl U.1.2.2.1)), (a 5, .inl (ca 0, 6, .inl U.1.2.2.2.1)), (a 6, .inr (0, [.ref (a 7), .ref (a 8)])), (a 7, .inl (ca 0, 4, .inl U.2.1.1)), (a 8, .inl (ca 0, 4, .inl U.2.1.2)), (a 9, .inr (4, [.ref (a 10), .int U.2.2.2.1, .int U.2.2.2.2])), (a 10, .inl (ca 0, 3, .inl U.2.2.1)), (b 0, .inr (2, [.ref (b 1), .ref (b 6), .ref (b 9)])), (b 1, .inr (3, [.ref (b 2), .ref (b 3), .ref (b 4), .ref (b 5), .int U.1.2.2.2.2.1, .int U.1.2.2.2.2.2])), (b 2, .inl (ca 0, 24, .inl U.1.1)), (b 3, .inl (ca 0, 24, .inl U.1.2.1)), (b 4, .inl (ca 0, 24, .inl U.1.2.2.1)), (b 5, .inl (ca 0, 6, .inl U.1.2.2.2.1)), (b 6, .inr (0, [.ref (b 7), .ref (b 8)])), (b 7, .inl (ca 0, 4, .inl U.2.1.1)), (b 8, .inl (ca 0, 4, .inl U.2.1.2)), (b 9, .inr (4, [.ref (b 10), .int U.2.2.2.1, .int U.2.2.2.2])), (b 10, .inl (ca 0, 3, .inl U.2.2.1))]) [.ref (a 0), .ref (b 0)] none := by
  refine zMw_of (own := RX2) (by decide) rfl (Nat.le_of_ble_eq_true rfl) ?_
  intro p e s m args below meth c ls S hr hlk hP hK hl hS
  have hP : va_P D vwCl [(a 0, .inr (2, [.ref (a 1), .ref (a 6), .ref (a 9)])), (a 1, .inr (3, [.ref (a 2), .ref (a 3), .ref (a 4), .ref (a 5), .int T.1.2.2.2.2.1, .int T.1.2.2.2.2.2])), (a 2, .inl (ca 0, 24, .inl T.1.1)), (a 3, .inl (ca 0, 24, .inl T.1.2.1)), (a 4, .inl (ca 0, 24, .inl T.1.2.2.1)), (a 5, .inl (ca 0, 6, .inl T.1.2.2.2.1)), (a 6, .inr (0, [.ref (a 7), .ref (a 8)])), (a 7, .inl (ca 0, 4, .inl T.2.1.1)), (a 8, .inl (ca 0, 4, .inl T.2.1.2)), (a 9, .inr (4, [.ref (a 10), .int T.2.2.2.1, .int T.2.2.2.2])), (a 10, .inl (ca 0, 3, .inl T.2.2.1)), (b 0, .inr (2, [.ref (b 1), .ref (b 6), .ref (b 9)])), (b 1, .inr (3, [.ref (b 2), .ref (b 3), .ref (b 4), .ref (b 5), .int U.1.2.2.2.2.1, .int U.1.2.2.2.2.2])), (b 2, .inl (ca 0, 24, .inl U.1.1)), (b 3, .inl (ca 0, 24, .inl U.1.2.1)), (b 4, .inl (ca 0, 24, .inl U.1.2.2.1)), (b 5, .inl (ca 0, 6, .inl U.1.2.2.2.1)), (b 6, .inr (0, [.ref (b 7), .ref (b 8)])), (b 7, .inl (ca 0, 4, .inl U.2.1.1)), (b 8, .inl (ca 0, 4, .inl U.2.1.2)), (b 9, .inr (4, [.ref (b 10), .int U.2.2.2.1, .int U.2.2.2.2])), (b 10, .inl (ca 0, 3, .inl U.2.2.1))] s.heap := hP
  have hS : va_S (zA [a 0, a 1, a 2, a 3, a 4, a 5, a 6, a 7, a 8, a 9, a 10, b 0, b 1, b 2, b 3, b 4, b 5, b 6, b 7, b 8, b 9, b 10]) s.heap s.heap [] := hS
  have hA : ∀ q ∈ [a 0, a 1, a 2, a 3, a 4, a 5, a 6, a 7, a 8, a 9, a 10, b 0, b 1, b 2, b 3, b 4, b 5, b 6, b 7, b 8, b 9, b 10], zA [a 0, a 1, a 2, a 3, a 4, a 5, a 6, a 7, a 8, a 9, a 10, b 0, b 1, b 2, b 3, b 4, b 5, b 6, b 7, b 8, b 9, b 10] q := fun _ h => h
  have hD := zDto (ws := [(a 0, .inr (2, [.ref (a 1), .ref (a 6), .ref (a 9)])), (a 1, .inr (3, [.ref (a 2), .ref (a 3), .ref (a 4), .ref (a 5), .int T.1.2.2.2.2.1, .int T.1.2.2.2.2.2])), (a 2, .inl (ca 0, 24, .inl T.1.1)), (a 3, .inl (ca 0, 24, .inl T.1.2.1)), (a 4, .inl (ca 0, 24, .inl T.1.2.2.1)), (a 5, .inl (ca 0, 6, .inl T.1.2.2.2.1)), (a 6, .inr (0, [.ref (a 7), .ref (a 8)])), (a 7, .inl (ca 0, 4, .inl T.2.1.1)), (a 8, .inl (ca 0, 4, .inl T.2.1.2)), (a 9, .inr (4, [.ref (a 10), .int T.2.2.2.1, .int T.2.2.2.2])), (a 10, .inl (ca 0, 3, .inl T.2.2.1)), (b 0, .inr (2, [.ref (b 1), .ref (b 6), .ref (b 9)])), (b 1, .inr (3, [.ref (b 2), .ref (b 3), .ref (b 4), .ref (b 5), .int U.1.2.2.2.2.1, .int U.1.2.2.2.2.2])), (b 2, .inl (ca 0, 24, .inl U.1.1)), (b 3, .inl (ca 0, 24, .inl U.1.2.1)), (b 4, .inl (ca 0, 24, .inl U.1.2.2.1)), (b 5, .inl (ca 0, 6, .inl U.1.2.2.2.1)), (b 6, .inr (0, [.ref (b 7), .ref (b 8)])), (b 7, .inl (ca 0, 4, .inl U.2.1.1)), (b 8, .inl (ca 0, 4, .inl U.2.1.2)), (b 9, .inr (4, [.ref (b 10), .int U.2.2.2.1, .int U.2.2.2.2])), (b 10, .inl (ca 0, 3, .inl U.2.2.1))]) hN hA rfl
  have hx := S.1
  have hb := S.2.1
  have hl : lv_has ls 2 [(0, .ref (a 0)), (1, .ref (b 0))] := hl
  refine lv_aload_n hx hb dX2_copyFrom_0 rfl (lv_at hl 0 rfl) ?_
  refine z_get S in_lay_X2 hK hP rfl 0 rfl 0 (by decide) fl_X2_12 rfl rfl dX2_copyFrom_1 ?_
  refine lv_aload_n hx hb dX2_copyFrom_4 rfl (lv_at hl 1 rfl) ?_
  refine z_get S in_lay_X2 hK hP rfl 11 rfl 0 (by decide) fl_X2_12 rfl rfl dX2_copyFrom_5 ?_
  refine zcw (As := [.ref (b 1)]) (rest := []) (st1 := []) (q0 := 0) (lw := [a 1, a 2, a 3, a 4, a 5, b 1, b 2, b 3, b 4, b 5]) S (c_X3_copyFrom l D ca a b T.1 U.1 (znd_pick hN [1, 2, 3, 4, 5, 12, 13, 14, 15, 16] rfl rfl)) ml_X2_32 zy_X3_copyFrom im_X3_copyFrom se_X3_copyFrom ⟨Nat.le_of_ble_eq_true rfl, Nat.le_of_ble_eq_true rfl⟩ hK hP hD hS [1, 2, 3, 4, 5, 12, 13, 14, 15, 16] rfl rfl rfl rfl rfl rfl rfl hl.1 rfl rfl (Nat.le_of_ble_eq_true rfl) ⟨Nat.zero_le _, Nat.zero_le _⟩ dX2_copyFrom_8 (fun H locs hP hS => ?_)
  have hP : va_P D vwCl [(a 0, .inr (2, [.ref (a 1), .ref (a 6), .ref (a 9)])), (a 1, .inr (3, [.ref (a 2), .ref (a 3), .ref (a 4), .ref (a 5), .int U.1.2.2.2.2.1, .int U.1.2.2.2.2.2])), (a 2, .inl (ca 0, 24, .inl U.1.1)), (a 3, .inl (ca 0, 24, .inl U.1.2.1)), (a 4, .inl (ca 0, 24, .inl U.1.2.2.1)), (a 5, .inl (ca 0, 6, .inl U.1.2.2.2.1)), (a 6, .inr (0, [.ref (a 7), .ref (a 8)])), (a 7, .inl (ca 0, 4, .inl T.2.1.1)), (a 8, .inl (ca 0, 4, .inl T.2.1.2)), (a 9, .inr (4, [.ref (a 10), .int T.2.2.2.1, .int T.2.2.2.2])), (a 10, .inl (ca 0, 3, .inl T.2.2.1)), (b 0, .inr (2, [.ref (b 1), .ref (b 6), .ref (b 9)])), (b 1, .inr (3, [.ref (b 2), .ref (b 3), .ref (b 4), .ref (b 5), .int U.1.2.2.2.2.1, .int U.1.2.2.2.2.2])), (b 2, .inl (ca 0, 24, .inl U.1.1)), (b 3, .inl (ca 0, 24, .inl U.1.2.1)), (b 4, .inl (ca 0, 24, .inl U.1.2.2.1)), (b 5, .inl (ca 0, 6, .inl U.1.2.2.2.1)), (b 6, .inr (0, [.ref (b 7), .ref (b 8)])), (b 7, .inl (ca 0, 4, .inl U.2.1.1)), (b 8, .inl (ca 0, 4, .inl U.2.1.2)), (b 9, .inr (4, [.ref (b 10), .int U.2.2.2.1, .int U.2.2.2.2])), (b 10, .inl (ca 0, 3, .inl U.2.2.1))] H := hP
  have hD := zDto (ws := [(a 0, .inr (2, [.ref (a 1), .ref (a 6), .ref (a 9)])), (a 1, .inr (3, [.ref (a 2), .ref (a 3), .ref (a 4), .ref (a 5), .int U.1.2.2.2.2.1, .int U.1.2.2.2.2.2])), (a 2, .inl (ca 0, 24, .inl U.1.1)), (a 3, .inl (ca 0, 24, .inl U.1.2.1)), (a 4, .inl (ca 0, 24, .inl U.1.2.2.1)), (a 5, .inl (ca 0, 6, .inl U.1.2.2.2.1)), (a 6, .inr (0, [.ref (a 7), .ref (a 8)])), (a 7, .inl (ca 0, 4, .inl T.2.1.1)), (a 8, .inl (ca 0, 4, .inl T.2.1.2)), (a 9, .inr (4, [.ref (a 10), .int T.2.2.2.1, .int T.2.2.2.2])), (a 10, .inl (ca 0, 3, .inl T.2.2.1)), (b 0, .inr (2, [.ref (b 1), .ref (b 6), .ref (b 9)])), (b 1, .inr (3, [.ref (b 2), .ref (b 3), .ref (b 4), .ref (b 5), .int U.1.2.2.2.2.1, .int U.1.2.2.2.2.2])), (b 2, .inl (ca 0, 24, .inl U.1.1)), (b 3, .inl (ca 0, 24, .inl U.1.2.1)), (b 4, .inl (ca 0, 24, .inl U.1.2.2.1)), (b 5, .inl (ca 0, 6, .inl U.1.2.2.2.1)), (b 6, .inr (0, [.ref (b 7), .ref (b 8)])), (b 7, .inl (ca 0, 4, .inl U.2.1.1)), (b 8, .inl (ca 0, 4, .inl U.2.1.2)), (b 9, .inr (4, [.ref (b 10), .int U.2.2.2.1, .int U.2.2.2.2])), (b 10, .inl (ca 0, 3, .inl U.2.2.1))]) hN hA rfl
  refine lv_aload_n hx hb dX2_copyFrom_11 rfl (lv_at hl 0 rfl) ?_
  refine z_get S in_lay_X2 hK hP rfl 0 rfl 1 (by decide) fl_X2_21 rfl rfl dX2_copyFrom_12 ?_
  refine lv_aload_n hx hb dX2_copyFrom_15 rfl (lv_at hl 1 rfl) ?_
  refine z_get S in_lay_X2 hK hP rfl 11 rfl 1 (by decide) fl_X2_21 rfl rfl dX2_copyFrom_16 ?_
  refine zcw (As := [.ref (b 6)]) (rest := []) (st1 := []) (q0 := 0) (lw := [a 6, a 7, a 8, b 6, b 7, b 8]) S (c_X0_copyFrom l D ca a b T.2.1 U.2.1 (znd_pick hN [6, 7, 8, 17, 18, 19] rfl rfl)) ml_X2_36 zy_X0_copyFrom im_X0_copyFrom se_X0_copyFrom ⟨Nat.le_of_ble_eq_true rfl, Nat.le_of_ble_eq_true rfl⟩ hK hP hD hS [6, 7, 8, 17, 18, 19] rfl rfl rfl rfl rfl rfl rfl hl.1 rfl rfl (Nat.le_of_ble_eq_true rfl) ⟨Nat.zero_le _, Nat.zero_le _⟩ dX2_copyFrom_19 (fun H locs hP hS => ?_)
  have hP : va_P D vwCl [(a 0, .inr (2, [.ref (a 1), .ref (a 6), .ref (a 9)])), (a 1, .inr (3, [.ref (a 2), .ref (a 3), .ref (a 4), .ref (a 5), .int U.1.2.2.2.2.1, .int U.1.2.2.2.2.2])), (a 2, .inl (ca 0, 24, .inl U.1.1)), (a 3, .inl (ca 0, 24, .inl U.1.2.1)), (a 4, .inl (ca 0, 24, .inl U.1.2.2.1)), (a 5, .inl (ca 0, 6, .inl U.1.2.2.2.1)), (a 6, .inr (0, [.ref (a 7), .ref (a 8)])), (a 7, .inl (ca 0, 4, .inl U.2.1.1)), (a 8, .inl (ca 0, 4, .inl U.2.1.2)), (a 9, .inr (4, [.ref (a 10), .int T.2.2.2.1, .int T.2.2.2.2])), (a 10, .inl (ca 0, 3, .inl T.2.2.1)), (b 0, .inr (2, [.ref (b 1), .ref (b 6), .ref (b 9)])), (b 1, .inr (3, [.ref (b 2), .ref (b 3), .ref (b 4), .ref (b 5), .int U.1.2.2.2.2.1, .int U.1.2.2.2.2.2])), (b 2, .inl (ca 0, 24, .inl U.1.1)), (b 3, .inl (ca 0, 24, .inl U.1.2.1)), (b 4, .inl (ca 0, 24, .inl U.1.2.2.1)), (b 5, .inl (ca 0, 6, .inl U.1.2.2.2.1)), (b 6, .inr (0, [.ref (b 7), .ref (b 8)])), (b 7, .inl (ca 0, 4, .inl U.2.1.1)), (b 8, .inl (ca 0, 4, .inl U.2.1.2)), (b 9, .inr (4, [.ref (b 10), .int U.2.2.2.1, .int U.2.2.2.2])), (b 10, .inl (ca 0, 3, .inl U.2.2.1))] H := hP
  have hD := zDto (ws := [(a 0, .inr (2, [.ref (a 1), .ref (a 6), .ref (a 9)])), (a 1, .inr (3, [.ref (a 2), .ref (a 3), .ref (a 4), .ref (a 5), .int U.1.2.2.2.2.1, .int U.1.2.2.2.2.2])), (a 2, .inl (ca 0, 24, .inl U.1.1)), (a 3, .inl (ca 0, 24, .inl U.1.2.1)), (a 4, .inl (ca 0, 24, .inl U.1.2.2.1)), (a 5, .inl (ca 0, 6, .inl U.1.2.2.2.1)), (a 6, .inr (0, [.ref (a 7), .ref (a 8)])), (a 7, .inl (ca 0, 4, .inl U.2.1.1)), (a 8, .inl (ca 0, 4, .inl U.2.1.2)), (a 9, .inr (4, [.ref (a 10), .int T.2.2.2.1, .int T.2.2.2.2])), (a 10, .inl (ca 0, 3, .inl T.2.2.1)), (b 0, .inr (2, [.ref (b 1), .ref (b 6), .ref (b 9)])), (b 1, .inr (3, [.ref (b 2), .ref (b 3), .ref (b 4), .ref (b 5), .int U.1.2.2.2.2.1, .int U.1.2.2.2.2.2])), (b 2, .inl (ca 0, 24, .inl U.1.1)), (b 3, .inl (ca 0, 24, .inl U.1.2.1)), (b 4, .inl (ca 0, 24, .inl U.1.2.2.1)), (b 5, .inl (ca 0, 6, .inl U.1.2.2.2.1)), (b 6, .inr (0, [.ref (b 7), .ref (b 8)])), (b 7, .inl (ca 0, 4, .inl U.2.1.1)), (b 8, .inl (ca 0, 4, .inl U.2.1.2)), (b 9, .inr (4, [.ref (b 10), .int U.2.2.2.1, .int U.2.2.2.2])), (b 10, .inl (ca 0, 3, .inl U.2.2.1))]) hN hA rfl
  refine lv_aload_n hx hb dX2_copyFrom_22 rfl (lv_at hl 0 rfl) ?_
  refine z_get S in_lay_X2 hK hP rfl 0 rfl 2 (by decide) fl_X2_28 rfl rfl dX2_copyFrom_23 ?_
  refine lv_aload_n hx hb dX2_copyFrom_26 rfl (lv_at hl 1 rfl) ?_
  refine z_get S in_lay_X2 hK hP rfl 11 rfl 2 (by decide) fl_X2_28 rfl rfl dX2_copyFrom_27 ?_
  refine zcw (As := [.ref (b 9)]) (rest := []) (st1 := []) (q0 := 0) (lw := [a 9, a 10, b 9, b 10]) S (c_X4_copyFrom l D ca a b T.2.2 U.2.2 (znd_pick hN [9, 10, 20, 21] rfl rfl)) ml_X2_39 zy_X4_copyFrom im_X4_copyFrom se_X4_copyFrom ⟨Nat.le_of_ble_eq_true rfl, Nat.le_of_ble_eq_true rfl⟩ hK hP hD hS [9, 10, 20, 21] rfl rfl rfl rfl rfl rfl rfl hl.1 rfl rfl (Nat.le_of_ble_eq_true rfl) ⟨Nat.zero_le _, Nat.zero_le _⟩ dX2_copyFrom_30 (fun H locs hP hS => ?_)
  have hP : va_P D vwCl [(a 0, .inr (2, [.ref (a 1), .ref (a 6), .ref (a 9)])), (a 1, .inr (3, [.ref (a 2), .ref (a 3), .ref (a 4), .ref (a 5), .int U.1.2.2.2.2.1, .int U.1.2.2.2.2.2])), (a 2, .inl (ca 0, 24, .inl U.1.1)), (a 3, .inl (ca 0, 24, .inl U.1.2.1)), (a 4, .inl (ca 0, 24, .inl U.1.2.2.1)), (a 5, .inl (ca 0, 6, .inl U.1.2.2.2.1)), (a 6, .inr (0, [.ref (a 7), .ref (a 8)])), (a 7, .inl (ca 0, 4, .inl U.2.1.1)), (a 8, .inl (ca 0, 4, .inl U.2.1.2)), (a 9, .inr (4, [.ref (a 10), .int U.2.2.2.1, .int U.2.2.2.2])), (a 10, .inl (ca 0, 3, .inl U.2.2.1)), (b 0, .inr (2, [.ref (b 1), .ref (b 6), .ref (b 9)])), (b 1, .inr (3, [.ref (b 2), .ref (b 3), .ref (b 4), .ref (b 5), .int U.1.2.2.2.2.1, .int U.1.2.2.2.2.2])), (b 2, .inl (ca 0, 24, .inl U.1.1)), (b 3, .inl (ca 0, 24, .inl U.1.2.1)), (b 4, .inl (ca 0, 24, .inl U.1.2.2.1)), (b 5, .inl (ca 0, 6, .inl U.1.2.2.2.1)), (b 6, .inr (0, [.ref (b 7), .ref (b 8)])), (b 7, .inl (ca 0, 4, .inl U.2.1.1)), (b 8, .inl (ca 0, 4, .inl U.2.1.2)), (b 9, .inr (4, [.ref (b 10), .int U.2.2.2.1, .int U.2.2.2.2])), (b 10, .inl (ca 0, 3, .inl U.2.2.1))] H := hP
  have hD := zDto (ws := [(a 0, .inr (2, [.ref (a 1), .ref (a 6), .ref (a 9)])), (a 1, .inr (3, [.ref (a 2), .ref (a 3), .ref (a 4), .ref (a 5), .int U.1.2.2.2.2.1, .int U.1.2.2.2.2.2])), (a 2, .inl (ca 0, 24, .inl U.1.1)), (a 3, .inl (ca 0, 24, .inl U.1.2.1)), (a 4, .inl (ca 0, 24, .inl U.1.2.2.1)), (a 5, .inl (ca 0, 6, .inl U.1.2.2.2.1)), (a 6, .inr (0, [.ref (a 7), .ref (a 8)])), (a 7, .inl (ca 0, 4, .inl U.2.1.1)), (a 8, .inl (ca 0, 4, .inl U.2.1.2)), (a 9, .inr (4, [.ref (a 10), .int U.2.2.2.1, .int U.2.2.2.2])), (a 10, .inl (ca 0, 3, .inl U.2.2.1)), (b 0, .inr (2, [.ref (b 1), .ref (b 6), .ref (b 9)])), (b 1, .inr (3, [.ref (b 2), .ref (b 3), .ref (b 4), .ref (b 5), .int U.1.2.2.2.2.1, .int U.1.2.2.2.2.2])), (b 2, .inl (ca 0, 24, .inl U.1.1)), (b 3, .inl (ca 0, 24, .inl U.1.2.1)), (b 4, .inl (ca 0, 24, .inl U.1.2.2.1)), (b 5, .inl (ca 0, 6, .inl U.1.2.2.2.1)), (b 6, .inr (0, [.ref (b 7), .ref (b 8)])), (b 7, .inl (ca 0, 4, .inl U.2.1.1)), (b 8, .inl (ca 0, 4, .inl U.2.1.2)), (b 9, .inr (4, [.ref (b 10), .int U.2.2.2.1, .int U.2.2.2.2])), (b 10, .inl (ca 0, 3, .inl U.2.2.1))]) hN hA rfl
  exact zw_v hx hb hr hlk hP hS (by rfl) dX2_copyFrom_33
set_option maxHeartbeats 4000000 in
set_option maxRecDepth 100000 in
theorem c_X2_make (l : Launch) (D : va_G) (ca : Nat → ClassId) (a : Nat → Nat) (Z : zSt) (q p0 d : Nat) (hp : p0 < 24) (hd : d < 10) (hs : q = 43 ∨ q = 45 ∨ q = 61 ∨ (q = 126 ∧ d < 6)) (hN : [a 0, a 1, a 2, a 3, a 4, a 5, a 6, a 7, a 8, a 9, a 10].Nodup) : zMw l yX2_make cX2_make 4 (some .boolean) 3 66 D ca [(a 0, .inr (2, [.ref (a 1), .ref (a 6), .ref (a 9)])), (a 1, .inr (3, [.ref (a 2), .ref (a 3), .ref (a 4), .ref (a 5), .int Z.1.2.2.2.2.1, .int Z.1.2.2.2.2.2])), (a 2, .inl (ca 0, 24, .inl Z.1.1)), (a 3, .inl (ca 0, 24, .inl Z.1.2.1)), (a 4, .inl (ca 0, 24, .inl Z.1.2.2.1)), (a 5, .inl (ca 0, 6, .inl Z.1.2.2.2.1)), (a 6, .inr (0, [.ref (a 7), .ref (a 8)])), (a 7, .inl (ca 0, 4, .inl Z.2.1.1)), (a 8, .inl (ca 0, 4, .inl Z.2.1.2)), (a 9, .inr (4, [.ref (a 10), .int Z.2.2.2.1, .int Z.2.2.2.2])), (a 10, .inl (ca 0, 3, .inl Z.2.2.1))] ([(a 0, .inr (2, [.ref (a 1), .ref (a 6), .ref (a 9)])), (a 1, .inr (3, [.ref (a 2), .ref (a 3), .ref (a 4), .ref (a 5), .int ((((zMake Z q p0 d).2).1).2.2.2.2.1), .int ((((zMake Z q p0 d).2).1).2.2.2.2.2)])), (a 2, .inl (ca 0, 24, .inl ((((zMake Z q p0 d).2).1).1))), (a 3, .inl (ca 0, 24, .inl ((((zMake Z q p0 d).2).1).2.1))), (a 4, .inl (ca 0, 24, .inl ((((zMake Z q p0 d).2).1).2.2.1))), (a 5, .inl (ca 0, 6, .inl ((((zMake Z q p0 d).2).1).2.2.2.1))), (a 6, .inr (0, [.ref (a 7), .ref (a 8)])), (a 7, .inl (ca 0, 4, .inl ((((zMake Z q p0 d).2).2.1).1))), (a 8, .inl (ca 0, 4, .inl ((((zMake Z q p0 d).2).2.1).2))), (a 9, .inr (4, [.ref (a 10), .int ((((zMake Z q p0 d).2).2.2).2.1), .int ((((zMake Z q p0 d).2).2.2).2.2)])), (a 10, .inl (ca 0, 3, .inl ((((zMake Z q p0 d).2).2.2).1)))]) [.ref (a 0), .int (nI q), .int (nI p0), .int (nI d)] (some (.int (zb ((zMake Z q p0 d).1)))) := by
  refine zMw_of (own := RX2) (by decide) rfl (Nat.le_of_ble_eq_true rfl) ?_
  intro p e s m args below meth c ls S hr hlk hP hK hl hS
  have hP : va_P D vwCl [(a 0, .inr (2, [.ref (a 1), .ref (a 6), .ref (a 9)])), (a 1, .inr (3, [.ref (a 2), .ref (a 3), .ref (a 4), .ref (a 5), .int Z.1.2.2.2.2.1, .int Z.1.2.2.2.2.2])), (a 2, .inl (ca 0, 24, .inl Z.1.1)), (a 3, .inl (ca 0, 24, .inl Z.1.2.1)), (a 4, .inl (ca 0, 24, .inl Z.1.2.2.1)), (a 5, .inl (ca 0, 6, .inl Z.1.2.2.2.1)), (a 6, .inr (0, [.ref (a 7), .ref (a 8)])), (a 7, .inl (ca 0, 4, .inl Z.2.1.1)), (a 8, .inl (ca 0, 4, .inl Z.2.1.2)), (a 9, .inr (4, [.ref (a 10), .int Z.2.2.2.1, .int Z.2.2.2.2])), (a 10, .inl (ca 0, 3, .inl Z.2.2.1))] s.heap := hP
  have hS : va_S (zA [a 0, a 1, a 2, a 3, a 4, a 5, a 6, a 7, a 8, a 9, a 10]) s.heap s.heap [] := hS
  have hA : ∀ q ∈ [a 0, a 1, a 2, a 3, a 4, a 5, a 6, a 7, a 8, a 9, a 10], zA [a 0, a 1, a 2, a 3, a 4, a 5, a 6, a 7, a 8, a 9, a 10] q := fun _ h => h
  have hD := zDto (ws := [(a 0, .inr (2, [.ref (a 1), .ref (a 6), .ref (a 9)])), (a 1, .inr (3, [.ref (a 2), .ref (a 3), .ref (a 4), .ref (a 5), .int Z.1.2.2.2.2.1, .int Z.1.2.2.2.2.2])), (a 2, .inl (ca 0, 24, .inl Z.1.1)), (a 3, .inl (ca 0, 24, .inl Z.1.2.1)), (a 4, .inl (ca 0, 24, .inl Z.1.2.2.1)), (a 5, .inl (ca 0, 6, .inl Z.1.2.2.2.1)), (a 6, .inr (0, [.ref (a 7), .ref (a 8)])), (a 7, .inl (ca 0, 4, .inl Z.2.1.1)), (a 8, .inl (ca 0, 4, .inl Z.2.1.2)), (a 9, .inr (4, [.ref (a 10), .int Z.2.2.2.1, .int Z.2.2.2.2])), (a 10, .inl (ca 0, 3, .inl Z.2.2.1))]) hN hA rfl
  have hx := S.1
  have hb := S.2.1
  have hl : lv_has ls 4 [(0, .ref (a 0)), (1, .int (nI q)), (2, .int (nI p0)), (3, .int (nI d))] := hl
  refine lv_iload_n hx hb dX2_make_0 rfl (lv_at hl 1 rfl) ?_
  by_cases w_1_1 : q = 43
  · refine z_look (x := q) (k := 43) hx hb w_1_1 (by decide) dX2_make_1 (by decide) rfl (by decide) ?_ (tgt := 36)
    refine lv_aload_n hx hb dX2_make_36 rfl (lv_at hl 0 rfl) ?_
    refine z_get S in_lay_X2 hK hP rfl 0 rfl 0 (by decide) fl_X2_12 rfl rfl dX2_make_37 ?_
    refine lv_iload_n hx hb dX2_make_40 rfl (lv_at hl 3 rfl) ?_
    refine zcw (As := [.int (nI d)]) (rest := []) (st1 := [.int ((zPut Z.1 (nI d)).1)]) (q0 := 0) (lw := [a 1, a 2, a 3, a 4, a 5]) S (c_X3_putValue l D ca a Z.1 (nI d) (znd_pick hN [1, 2, 3, 4, 5] rfl rfl)) ml_X2_50 zy_X3_putValue im_X3_putValue se_X3_putValue ⟨Nat.le_of_ble_eq_true rfl, Nat.le_of_ble_eq_true rfl⟩ hK hP hD hS [1, 2, 3, 4, 5] rfl rfl rfl rfl rfl rfl rfl hl.1 rfl rfl (Nat.le_of_ble_eq_true rfl) ⟨Nat.zero_le _, Nat.zero_le _⟩ dX2_make_41 (fun H locs hP hS => ?_)
    have hP : va_P D vwCl [(a 0, .inr (2, [.ref (a 1), .ref (a 6), .ref (a 9)])), (a 1, .inr (3, [.ref (a 2), .ref (a 3), .ref (a 4), .ref (a 5), .int (((zPut Z.1 (nI d)).2).2.2.2.2.1), .int (((zPut Z.1 (nI d)).2).2.2.2.2.2)])), (a 2, .inl (ca 0, 24, .inl (((zPut Z.1 (nI d)).2).1))), (a 3, .inl (ca 0, 24, .inl (((zPut Z.1 (nI d)).2).2.1))), (a 4, .inl (ca 0, 24, .inl (((zPut Z.1 (nI d)).2).2.2.1))), (a 5, .inl (ca 0, 6, .inl (((zPut Z.1 (nI d)).2).2.2.2.1))), (a 6, .inr (0, [.ref (a 7), .ref (a 8)])), (a 7, .inl (ca 0, 4, .inl Z.2.1.1)), (a 8, .inl (ca 0, 4, .inl Z.2.1.2)), (a 9, .inr (4, [.ref (a 10), .int Z.2.2.2.1, .int Z.2.2.2.2])), (a 10, .inl (ca 0, 3, .inl Z.2.2.1))] H := hP
    have hD := zDto (ws := [(a 0, .inr (2, [.ref (a 1), .ref (a 6), .ref (a 9)])), (a 1, .inr (3, [.ref (a 2), .ref (a 3), .ref (a 4), .ref (a 5), .int (((zPut Z.1 (nI d)).2).2.2.2.2.1), .int (((zPut Z.1 (nI d)).2).2.2.2.2.2)])), (a 2, .inl (ca 0, 24, .inl (((zPut Z.1 (nI d)).2).1))), (a 3, .inl (ca 0, 24, .inl (((zPut Z.1 (nI d)).2).2.1))), (a 4, .inl (ca 0, 24, .inl (((zPut Z.1 (nI d)).2).2.2.1))), (a 5, .inl (ca 0, 6, .inl (((zPut Z.1 (nI d)).2).2.2.2.1))), (a 6, .inr (0, [.ref (a 7), .ref (a 8)])), (a 7, .inl (ca 0, 4, .inl Z.2.1.1)), (a 8, .inl (ca 0, 4, .inl Z.2.1.2)), (a 9, .inr (4, [.ref (a 10), .int Z.2.2.2.1, .int Z.2.2.2.2])), (a 10, .inl (ca 0, 3, .inl Z.2.2.1))]) hN hA rfl
    refine lv_iconst (v := (-1)) hx hb dX2_make_44 (by decide) ?_
    refine lv_icmp_eq (tgt := 52) hx hb dX2_make_45 (by decide) (fun c_45_2 => ?_) (fun c_45_2 => ?_)
    · refine lv_iconst (v := 0) hx hb dX2_make_52 (by decide) ?_
      have hz : zMake Z q p0 d = (false, (((zPut Z.1 (nI d)).2), Z.2.1, Z.2.2)) := by simp [zMake, w_1_1, c_45_2]
      exact zw_z hx hb hr hlk hP hS ⟨by rw [hz] <;> rfl, by rw [hz] <;> rfl⟩ dX2_make_53
    · refine lv_iconst (v := 1) hx hb dX2_make_48 (by decide) ?_
      refine lv_goto (tgt := 53) hx hb dX2_make_49 (by decide) ?_
      have hz : zMake Z q p0 d = (true, (((zPut Z.1 (nI d)).2), Z.2.1, Z.2.2)) := by simp [zMake, w_1_1, c_45_2]
      exact zw_z hx hb hr hlk hP hS ⟨by rw [hz] <;> rfl, by rw [hz] <;> rfl⟩ dX2_make_53
  by_cases w_1_3 : q = 45
  · refine z_look (x := q) (k := 45) hx hb w_1_3 (by decide) dX2_make_1 (by decide) rfl (by decide) ?_ (tgt := 54)
    refine lv_aload_n hx hb dX2_make_54 rfl (lv_at hl 0 rfl) ?_
    refine z_get S in_lay_X2 hK hP rfl 0 rfl 0 (by decide) fl_X2_12 rfl rfl dX2_make_55 ?_
    refine lv_iload_n hx hb dX2_make_58 rfl (lv_at hl 2 rfl) ?_
    refine zcw (As := [.int (nI p0)]) (rest := []) (st1 := [.int (zb ((zTake Z.1 p0).1))]) (q0 := 0) (lw := [a 1, a 2, a 3, a 4, a 5]) S (c_X3_takeAway l D ca a Z.1 p0 (by omega) (znd_pick hN [1, 2, 3, 4, 5] rfl rfl)) ml_X2_54 zy_X3_takeAway im_X3_takeAway se_X3_takeAway ⟨Nat.le_of_ble_eq_true rfl, Nat.le_of_ble_eq_true rfl⟩ hK hP hD hS [1, 2, 3, 4, 5] rfl rfl rfl rfl rfl rfl rfl hl.1 rfl rfl (Nat.le_of_ble_eq_true rfl) ⟨Nat.zero_le _, Nat.zero_le _⟩ dX2_make_59 (fun H locs hP hS => ?_)
    have hP : va_P D vwCl [(a 0, .inr (2, [.ref (a 1), .ref (a 6), .ref (a 9)])), (a 1, .inr (3, [.ref (a 2), .ref (a 3), .ref (a 4), .ref (a 5), .int (((zTake Z.1 p0).2).2.2.2.2.1), .int (((zTake Z.1 p0).2).2.2.2.2.2)])), (a 2, .inl (ca 0, 24, .inl (((zTake Z.1 p0).2).1))), (a 3, .inl (ca 0, 24, .inl (((zTake Z.1 p0).2).2.1))), (a 4, .inl (ca 0, 24, .inl (((zTake Z.1 p0).2).2.2.1))), (a 5, .inl (ca 0, 6, .inl (((zTake Z.1 p0).2).2.2.2.1))), (a 6, .inr (0, [.ref (a 7), .ref (a 8)])), (a 7, .inl (ca 0, 4, .inl Z.2.1.1)), (a 8, .inl (ca 0, 4, .inl Z.2.1.2)), (a 9, .inr (4, [.ref (a 10), .int Z.2.2.2.1, .int Z.2.2.2.2])), (a 10, .inl (ca 0, 3, .inl Z.2.2.1))] H := hP
    have hD := zDto (ws := [(a 0, .inr (2, [.ref (a 1), .ref (a 6), .ref (a 9)])), (a 1, .inr (3, [.ref (a 2), .ref (a 3), .ref (a 4), .ref (a 5), .int (((zTake Z.1 p0).2).2.2.2.2.1), .int (((zTake Z.1 p0).2).2.2.2.2.2)])), (a 2, .inl (ca 0, 24, .inl (((zTake Z.1 p0).2).1))), (a 3, .inl (ca 0, 24, .inl (((zTake Z.1 p0).2).2.1))), (a 4, .inl (ca 0, 24, .inl (((zTake Z.1 p0).2).2.2.1))), (a 5, .inl (ca 0, 6, .inl (((zTake Z.1 p0).2).2.2.2.1))), (a 6, .inr (0, [.ref (a 7), .ref (a 8)])), (a 7, .inl (ca 0, 4, .inl Z.2.1.1)), (a 8, .inl (ca 0, 4, .inl Z.2.1.2)), (a 9, .inr (4, [.ref (a 10), .int Z.2.2.2.1, .int Z.2.2.2.2])), (a 10, .inl (ca 0, 3, .inl Z.2.2.1))]) hN hA rfl
    have hz : zMake Z q p0 d = ((zTake Z.1 p0).1, (((zTake Z.1 p0).2), Z.2.1, Z.2.2)) := by simp [zMake, w_1_1, w_1_3]
    exact zw_z hx hb hr hlk hP hS ⟨by rw [hz] <;> rfl, by rw [hz] <;> rfl⟩ dX2_make_62
  by_cases w_1_4 : q = 61
  · refine z_look (x := q) (k := 61) hx hb w_1_4 (by decide) dX2_make_1 (by decide) rfl (by decide) ?_ (tgt := 63)
    refine lv_aload_n hx hb dX2_make_63 rfl (lv_at hl 0 rfl) ?_
    refine z_get S in_lay_X2 hK hP rfl 0 rfl 0 (by decide) fl_X2_12 rfl rfl dX2_make_64 ?_
    refine lv_iload_n hx hb dX2_make_67 rfl (lv_at hl 2 rfl) ?_
    refine lv_iload_n hx hb dX2_make_68 rfl (lv_at hl 3 rfl) ?_
    refine zcw (As := [.int (nI p0), .int (nI d)]) (rest := []) (st1 := [.int ((zChg Z.1 p0 (nI d)).1)]) (q0 := 0) (lw := [a 1, a 2, a 3, a 4, a 5]) S (c_X3_changeTo l D ca a Z.1 p0 (by omega) (nI d) (znd_pick hN [1, 2, 3, 4, 5] rfl rfl)) ml_X2_58 zy_X3_changeTo im_X3_changeTo se_X3_changeTo ⟨Nat.le_of_ble_eq_true rfl, Nat.le_of_ble_eq_true rfl⟩ hK hP hD hS [1, 2, 3, 4, 5] rfl rfl rfl rfl rfl rfl rfl hl.1 rfl rfl (Nat.le_of_ble_eq_true rfl) ⟨Nat.zero_le _, Nat.zero_le _⟩ dX2_make_69 (fun H locs hP hS => ?_)
    have hP : va_P D vwCl [(a 0, .inr (2, [.ref (a 1), .ref (a 6), .ref (a 9)])), (a 1, .inr (3, [.ref (a 2), .ref (a 3), .ref (a 4), .ref (a 5), .int (((zChg Z.1 p0 (nI d)).2).2.2.2.2.1), .int (((zChg Z.1 p0 (nI d)).2).2.2.2.2.2)])), (a 2, .inl (ca 0, 24, .inl (((zChg Z.1 p0 (nI d)).2).1))), (a 3, .inl (ca 0, 24, .inl (((zChg Z.1 p0 (nI d)).2).2.1))), (a 4, .inl (ca 0, 24, .inl (((zChg Z.1 p0 (nI d)).2).2.2.1))), (a 5, .inl (ca 0, 6, .inl (((zChg Z.1 p0 (nI d)).2).2.2.2.1))), (a 6, .inr (0, [.ref (a 7), .ref (a 8)])), (a 7, .inl (ca 0, 4, .inl Z.2.1.1)), (a 8, .inl (ca 0, 4, .inl Z.2.1.2)), (a 9, .inr (4, [.ref (a 10), .int Z.2.2.2.1, .int Z.2.2.2.2])), (a 10, .inl (ca 0, 3, .inl Z.2.2.1))] H := hP
    have hD := zDto (ws := [(a 0, .inr (2, [.ref (a 1), .ref (a 6), .ref (a 9)])), (a 1, .inr (3, [.ref (a 2), .ref (a 3), .ref (a 4), .ref (a 5), .int (((zChg Z.1 p0 (nI d)).2).2.2.2.2.1), .int (((zChg Z.1 p0 (nI d)).2).2.2.2.2.2)])), (a 2, .inl (ca 0, 24, .inl (((zChg Z.1 p0 (nI d)).2).1))), (a 3, .inl (ca 0, 24, .inl (((zChg Z.1 p0 (nI d)).2).2.1))), (a 4, .inl (ca 0, 24, .inl (((zChg Z.1 p0 (nI d)).2).2.2.1))), (a 5, .inl (ca 0, 6, .inl (((zChg Z.1 p0 (nI d)).2).2.2.2.1))), (a 6, .inr (0, [.ref (a 7), .ref (a 8)])), (a 7, .inl (ca 0, 4, .inl Z.2.1.1)), (a 8, .inl (ca 0, 4, .inl Z.2.1.2)), (a 9, .inr (4, [.ref (a 10), .int Z.2.2.2.1, .int Z.2.2.2.2])), (a 10, .inl (ca 0, 3, .inl Z.2.2.1))]) hN hA rfl
    refine lv_iconst (v := (-1)) hx hb dX2_make_72 (by decide) ?_
    refine lv_icmp_eq (tgt := 80) hx hb dX2_make_73 (by decide) (fun c_73_5 => ?_) (fun c_73_5 => ?_)
    · refine lv_iconst (v := 0) hx hb dX2_make_80 (by decide) ?_
      have hz : zMake Z q p0 d = (false, (((zChg Z.1 p0 (nI d)).2), Z.2.1, Z.2.2)) := by simp [zMake, w_1_1, w_1_3, w_1_4, c_73_5]
      exact zw_z hx hb hr hlk hP hS ⟨by rw [hz] <;> rfl, by rw [hz] <;> rfl⟩ dX2_make_81
    · refine lv_iconst (v := 1) hx hb dX2_make_76 (by decide) ?_
      refine lv_goto (tgt := 81) hx hb dX2_make_77 (by decide) ?_
      have hz : zMake Z q p0 d = (true, (((zChg Z.1 p0 (nI d)).2), Z.2.1, Z.2.2)) := by simp [zMake, w_1_1, w_1_3, w_1_4, c_73_5]
      exact zw_z hx hb hr hlk hP hS ⟨by rw [hz] <;> rfl, by rw [hz] <;> rfl⟩ dX2_make_81
  refine z_look (x := q) (k := q) (off := 81) hx hb rfl (by omega) dX2_make_1 (by decide) (by show Op.lookupswitch.offset [(43, 35), (45, 53), (61, 62)] 81 _ = _; rw [Op.lookupswitch.offset_cons, if_neg (by omega), Op.lookupswitch.offset_cons, if_neg (by omega), Op.lookupswitch.offset_cons, if_neg (by omega)] <;> rfl) (by decide) ?_ (tgt := 82)
  refine lv_aload_n hx hb dX2_make_82 rfl (lv_at hl 0 rfl) ?_
  refine z_get S in_lay_X2 hK hP rfl 0 rfl 0 (by decide) fl_X2_12 rfl rfl dX2_make_83 ?_
  refine lv_iload_n hx hb dX2_make_86 rfl (lv_at hl 3 rfl) ?_
  refine lv_aload_n hx hb dX2_make_87 rfl (lv_at hl 0 rfl) ?_
  refine zcr (As := []) (rest := [.int (nI d), .ref (a 1)]) (q0 := 0) S (c_X2_horizon l D ca a Z) ml_X2_61 zy_X2_horizon im_X2_horizon se_X2_horizon ⟨Nat.le_of_ble_eq_true rfl, Nat.le_of_ble_eq_true rfl⟩ hK hP [0, 1, 6, 7] rfl rfl rfl rfl rfl hl.1 rfl (Nat.le_of_ble_eq_true rfl) ⟨Nat.zero_le _, Nat.zero_le _⟩ dX2_make_88 ?_
  refine zcw (As := [.int (nI d), .int (zHor Z)]) (rest := []) (st1 := [.int ((zSweep Z.1 d (zHor Z)).1)]) (q0 := 0) (lw := [a 1, a 2, a 3, a 4, a 5]) S (c_X3_sweepPage l D ca a Z.1 d (by omega) (zHor Z) (znd_pick hN [1, 2, 3, 4, 5] rfl rfl)) ml_X2_65 zy_X3_sweepPage im_X3_sweepPage se_X3_sweepPage ⟨Nat.le_of_ble_eq_true rfl, Nat.le_of_ble_eq_true rfl⟩ hK hP hD hS [1, 2, 3, 4, 5] rfl rfl rfl rfl rfl rfl rfl hl.1 rfl rfl (Nat.le_of_ble_eq_true rfl) ⟨Nat.zero_le _, Nat.zero_le _⟩ dX2_make_91 (fun H locs hP hS => ?_)
  have hP : va_P D vwCl [(a 0, .inr (2, [.ref (a 1), .ref (a 6), .ref (a 9)])), (a 1, .inr (3, [.ref (a 2), .ref (a 3), .ref (a 4), .ref (a 5), .int (((zSweep Z.1 d (zHor Z)).2).2.2.2.2.1), .int (((zSweep Z.1 d (zHor Z)).2).2.2.2.2.2)])), (a 2, .inl (ca 0, 24, .inl (((zSweep Z.1 d (zHor Z)).2).1))), (a 3, .inl (ca 0, 24, .inl (((zSweep Z.1 d (zHor Z)).2).2.1))), (a 4, .inl (ca 0, 24, .inl (((zSweep Z.1 d (zHor Z)).2).2.2.1))), (a 5, .inl (ca 0, 6, .inl (((zSweep Z.1 d (zHor Z)).2).2.2.2.1))), (a 6, .inr (0, [.ref (a 7), .ref (a 8)])), (a 7, .inl (ca 0, 4, .inl Z.2.1.1)), (a 8, .inl (ca 0, 4, .inl Z.2.1.2)), (a 9, .inr (4, [.ref (a 10), .int Z.2.2.2.1, .int Z.2.2.2.2])), (a 10, .inl (ca 0, 3, .inl Z.2.2.1))] H := hP
  have hD := zDto (ws := [(a 0, .inr (2, [.ref (a 1), .ref (a 6), .ref (a 9)])), (a 1, .inr (3, [.ref (a 2), .ref (a 3), .ref (a 4), .ref (a 5), .int (((zSweep Z.1 d (zHor Z)).2).2.2.2.2.1), .int (((zSweep Z.1 d (zHor Z)).2).2.2.2.2.2)])), (a 2, .inl (ca 0, 24, .inl (((zSweep Z.1 d (zHor Z)).2).1))), (a 3, .inl (ca 0, 24, .inl (((zSweep Z.1 d (zHor Z)).2).2.1))), (a 4, .inl (ca 0, 24, .inl (((zSweep Z.1 d (zHor Z)).2).2.2.1))), (a 5, .inl (ca 0, 6, .inl (((zSweep Z.1 d (zHor Z)).2).2.2.2.1))), (a 6, .inr (0, [.ref (a 7), .ref (a 8)])), (a 7, .inl (ca 0, 4, .inl Z.2.1.1)), (a 8, .inl (ca 0, 4, .inl Z.2.1.2)), (a 9, .inr (4, [.ref (a 10), .int Z.2.2.2.1, .int Z.2.2.2.2])), (a 10, .inl (ca 0, 3, .inl Z.2.2.1))]) hN hA rfl
  refine lv_pop hx hb dX2_make_94 rfl ?_
  refine lv_iconst (v := 1) hx hb dX2_make_95 (by decide) ?_
  have hz : zMake Z q p0 d = (true, (((zSweep Z.1 d (zHor Z)).2), Z.2.1, Z.2.2)) := by simp [zMake, w_1_1, w_1_3, w_1_4]
  exact zw_z hx hb hr hlk hP hS ⟨by rw [hz] <;> rfl, by rw [hz] <;> rfl⟩ dX2_make_96
set_option maxHeartbeats 4000000 in
set_option maxRecDepth 100000 in
theorem c_X5_signAt (l : Launch) (D : va_G) (ca : Nat → ClassId) (x : Nat → Nat) (g : Nat → Nat) (n i q pl dg : Nat) (hn : n ≤ 60) (hg : ∀ k, g k < 128) (j : Nat) (hj : j ≤ 60) : zMr l yX5_signAt cX5_signAt 2 (some .char) 0 0 D ca [(x 0, .inr (5, [.ref (x 1), .int (nI n), .int (nI i), .int (nI q), .int (nI pl), .int (nI dg)])), (x 1, .inl (ca 1, 60, .inl (fun k => nI (g k))))] [.ref (x 0), .int (nI j)] (.int (nI (zSg g n j))) := by
  refine zMr_of (own := RX5) (by decide) rfl (Nat.le_of_ble_eq_true rfl) ?_
  intro p e s m args below meth c ls S hr hlk hP hK hl
  have hx := S.1
  have hb := S.2.1
  have hl : lv_has ls 2 [(0, .ref (x 0)), (1, .int (nI j))] := hl
  refine lv_iload_n hx hb dX5_signAt_0 rfl (lv_at hl 1 rfl) ?_
  refine lv_if_lt (tgt := 21) hx hb dX5_signAt_1 (by decide) (fun h => absurd h (nI_pos (by omega))) (fun _ => ?_)
  refine lv_iload_n hx hb dX5_signAt_4 rfl (lv_at hl 1 rfl) ?_
  refine lv_aload_n hx hb dX5_signAt_5 rfl (lv_at hl 0 rfl) ?_
  refine z_get S in_lay_X5 hK hP rfl 0 rfl 1 (by decide) fl_X5_15 rfl rfl dX5_signAt_6 ?_
  refine zn_ge hx hb (x := j) (y := n) (by omega) (by omega) (tgt := 21) dX5_signAt_9 (by decide) (fun c_9_1 => ?_) (fun c_9_1 => ?_)
  · refine lv_iconst (v := 0) hx hb dX5_signAt_21 (by decide) ?_
    exact zr_n hx hb hr hlk (by unfold zSg; split <;> first | rfl | (exfalso; omega)) (by exact (pk_charN (Nat.lt_of_lt_of_le (zSg_lt hg) (by decide))).1) dX5_signAt_22
  · refine lv_aload_n hx hb dX5_signAt_12 rfl (lv_at hl 0 rfl) ?_
    refine z_get S in_lay_X5 hK hP rfl 0 rfl 0 (by decide) fl_X5_9 rfl rfl dX5_signAt_13 ?_
    refine lv_iload_n hx hb dX5_signAt_16 rfl (lv_at hl 1 rfl) ?_
    refine z_cald S hK hP 1 rfl (j := j) (by omega) (by decide) dX5_signAt_17 ?_
    refine lv_goto (tgt := 22) hx hb dX5_signAt_18 (by decide) ?_
    exact zr_n hx hb hr hlk (by unfold zSg; split <;> first | rfl | (exfalso; omega)) (by exact (pk_charN (Nat.lt_of_lt_of_le (zSg_lt hg) (by decide))).1) dX5_signAt_22
set_option maxHeartbeats 4000000 in
set_option maxRecDepth 100000 in
theorem c_X5_digitHere (l : Launch) (D : va_G) (ca : Nat → ClassId) (x : Nat → Nat) (g : Nat → Nat) (n i q pl dg : Nat) (hn : n ≤ 60) (hg : ∀ k, g k < 128) (hi : i ≤ n) : zMr l yX5_digitHere cX5_digitHere 2 (some .int) 1 21 D ca [(x 0, .inr (5, [.ref (x 1), .int (nI n), .int (nI i), .int (nI q), .int (nI pl), .int (nI dg)])), (x 1, .inl (ca 1, 60, .inl (fun k => nI (g k))))] [.ref (x 0)] (.int (zD (zDh g n i))) := by
  refine zMr_of (own := RX5) (by decide) rfl (Nat.le_of_ble_eq_true rfl) ?_
  intro p e s m args below meth c ls S hr hlk hP hK hl
  have hx := S.1
  have hb := S.2.1
  have hl : lv_has ls 2 [(0, .ref (x 0))] := hl
  refine lv_aload_n hx hb dX5_digitHere_0 rfl (lv_at hl 0 rfl) ?_
  refine lv_aload_n hx hb dX5_digitHere_1 rfl (lv_at hl 0 rfl) ?_
  refine z_get S in_lay_X5 hK hP rfl 0 rfl 2 (by decide) fl_X5_19 rfl rfl dX5_digitHere_2 ?_
  refine zcr (As := [.int (nI i)]) (rest := []) (q0 := 0) S (c_X5_signAt l D ca x g n i q pl dg (by omega) hg i (by omega)) ml_X5_33 zy_X5_signAt im_X5_signAt se_X5_signAt ⟨Nat.le_of_ble_eq_true rfl, Nat.le_of_ble_eq_true rfl⟩ hK hP [0, 1] rfl rfl rfl rfl rfl hl.1 rfl (Nat.le_of_ble_eq_true rfl) ⟨Nat.zero_le _, Nat.zero_le _⟩ dX5_digitHere_5 ?_
  have hsg := zSg_lt (g := g) (n := n) (i := i) hg
  refine lv_istore_n (lv' := [(1, .int (nI (zSg g n i))), (0, .ref (x 0))]) hx hb dX5_digitHere_8 rfl hl (by decide) rfl (fun ls hl => ?_)
  refine lv_iload_n hx hb dX5_digitHere_9 rfl (lv_at hl 0 rfl) ?_
  refine lv_bipush (v := 48) hx hb dX5_digitHere_10 (by decide) ?_
  refine zn_lt hx hb (x := zSg g n i) (y := 48) (by omega) (by omega) (tgt := 28) dX5_digitHere_12 (by decide) (fun c_12_1 => ?_) (fun c_12_1 => ?_)
  · refine lv_iconst (v := (-1)) hx hb dX5_digitHere_28 (by decide) ?_
    exact zr_i hx hb hr hlk (by first | (rw [zDh_no1 (by omega)]; rfl) | (rw [zDh_no2 (by omega)]; rfl)) dX5_digitHere_29
  · refine lv_iload_n hx hb dX5_digitHere_15 rfl (lv_at hl 0 rfl) ?_
    refine lv_bipush (v := 57) hx hb dX5_digitHere_16 (by decide) ?_
    refine zn_gt hx hb (x := zSg g n i) (y := 57) (by omega) (by omega) (tgt := 28) dX5_digitHere_18 (by decide) (fun c_18_2 => ?_) (fun c_18_2 => ?_)
    · refine lv_iconst (v := (-1)) hx hb dX5_digitHere_28 (by decide) ?_
      exact zr_i hx hb hr hlk (by first | (rw [zDh_no1 (by omega)]; rfl) | (rw [zDh_no2 (by omega)]; rfl)) dX5_digitHere_29
    · refine lv_iload_n hx hb dX5_digitHere_21 rfl (lv_at hl 0 rfl) ?_
      refine lv_bipush (v := 48) hx hb dX5_digitHere_22 (by decide) ?_
      refine lv_isub hx hb dX5_digitHere_24 ?_
      refine lv_goto (tgt := 29) hx hb dX5_digitHere_25 (by decide) ?_
      exact zr_i hx hb hr hlk (by rw [zDh_yes (by omega) (by omega), zD, if_pos (by omega)]; exact pk_sub (by omega)) dX5_digitHere_29
set_option maxHeartbeats 4000000 in
set_option maxRecDepth 100000 in
theorem c_X5_readSign (l : Launch) (D : va_G) (ca : Nat → ClassId) (x : Nat → Nat) (g : Nat → Nat) (n i q pl dg : Nat) (hn : n ≤ 60) (hg : ∀ k, g k < 128) (hi : i ≤ n) (d : Nat) (hd : 0 < d) (hd2 : d < 128) (hN : [x 0, x 1].Nodup) : zMw l yX5_readSign cX5_readSign 2 (some .boolean) 1 21 D ca [(x 0, .inr (5, [.ref (x 1), .int (nI n), .int (nI i), .int (nI q), .int (nI pl), .int (nI dg)])), (x 1, .inl (ca 1, 60, .inl (fun k => nI (g k))))] ([(x 0, .inr (5, [.ref (x 1), .int (nI n), .int (nI ((zRs g n i d).2)), .int (nI q), .int (nI pl), .int (nI dg)])), (x 1, .inl (ca 1, 60, .inl (fun k => nI (g k))))]) [.ref (x 0), .int (nI d)] (some (.int (zb ((zRs g n i d).1)))) := by
  refine zMw_of (own := RX5) (by decide) rfl (Nat.le_of_ble_eq_true rfl) ?_
  intro p e s m args below meth c ls S hr hlk hP hK hl hS
  have hP : va_P D vwCl [(x 0, .inr (5, [.ref (x 1), .int (nI n), .int (nI i), .int (nI q), .int (nI pl), .int (nI dg)])), (x 1, .inl (ca 1, 60, .inl (fun k => nI (g k))))] s.heap := hP
  have hS : va_S (zA [x 0, x 1]) s.heap s.heap [] := hS
  have hA : ∀ q ∈ [x 0, x 1], zA [x 0, x 1] q := fun _ h => h
  have hD := zDto (ws := [(x 0, .inr (5, [.ref (x 1), .int (nI n), .int (nI i), .int (nI q), .int (nI pl), .int (nI dg)])), (x 1, .inl (ca 1, 60, .inl (fun k => nI (g k))))]) hN hA rfl
  have hx := S.1
  have hb := S.2.1
  have hl : lv_has ls 2 [(0, .ref (x 0)), (1, .int (nI d))] := hl
  refine lv_aload_n hx hb dX5_readSign_0 rfl (lv_at hl 0 rfl) ?_
  refine lv_aload_n hx hb dX5_readSign_1 rfl (lv_at hl 0 rfl) ?_
  refine z_get S in_lay_X5 hK hP rfl 0 rfl 2 (by decide) fl_X5_19 rfl rfl dX5_readSign_2 ?_
  refine zcr (As := [.int (nI i)]) (rest := []) (q0 := 0) S (c_X5_signAt l D ca x g n i q pl dg (by omega) hg i (by omega)) ml_X5_33 zy_X5_signAt im_X5_signAt se_X5_signAt ⟨Nat.le_of_ble_eq_true rfl, Nat.le_of_ble_eq_true rfl⟩ hK hP [0, 1] rfl rfl rfl rfl rfl hl.1 rfl (Nat.le_of_ble_eq_true rfl) ⟨Nat.zero_le _, Nat.zero_le _⟩ dX5_readSign_5 ?_
  have hsg := zSg_lt (g := g) (n := n) (i := i) hg
  refine lv_iload_n hx hb dX5_readSign_8 rfl (lv_at hl 1 rfl) ?_
  refine zn_eq hx hb (x := zSg g n i) (y := d) (by omega) (by omega) (tgt := 14) dX5_readSign_9 (by decide) (fun c_9_1 => ?_) (fun c_9_1 => ?_)
  · refine lv_aload_n hx hb dX5_readSign_14 rfl (lv_at hl 0 rfl) ?_
    refine lv_dup hx hb dX5_readSign_15 rfl ?_
    refine z_get S in_lay_X5 hK hP rfl 0 rfl 2 (by decide) fl_X5_19 rfl rfl dX5_readSign_16 ?_
    refine lv_iconst (v := 1) hx hb dX5_readSign_19 (by decide) ?_
    refine zn_add hx hb (x := i) (y := 1) (z := i + 1) (by omega) dX5_readSign_20 ?_
    refine z_put S in_lay_X5 tyX5_ok nmX5 hK hP hD hS rfl 0 rfl 2 (by decide) fl_X5_19 rfl rfl rfl rfl (Nat.le_of_ble_eq_true rfl) dX5_readSign_21 (fun H locs hP hS => ?_)
    have hP : va_P D vwCl [(x 0, .inr (5, [.ref (x 1), .int (nI n), .int (nI (i + 1)), .int (nI q), .int (nI pl), .int (nI dg)])), (x 1, .inl (ca 1, 60, .inl (fun k => nI (g k))))] H := hP
    have hD := zDto (ws := [(x 0, .inr (5, [.ref (x 1), .int (nI n), .int (nI (i + 1)), .int (nI q), .int (nI pl), .int (nI dg)])), (x 1, .inl (ca 1, 60, .inl (fun k => nI (g k))))]) hN hA rfl
    refine lv_iconst (v := 1) hx hb dX5_readSign_24 (by decide) ?_
    have hz : zRs g n i d = (true, i + 1) := by simp [zRs, c_9_1]
    exact zw_z hx hb hr hlk hP hS ⟨by rw [hz] <;> rfl, by rw [hz] <;> rfl⟩ dX5_readSign_25
  · refine lv_iconst (v := 0) hx hb dX5_readSign_12 (by decide) ?_
    have hz : zRs g n i d = (false, i) := by simp [zRs, c_9_1]
    exact zw_z hx hb hr hlk hP hS ⟨by rw [hz] <;> rfl, by rw [hz] <;> rfl⟩ dX5_readSign_13
set_option maxHeartbeats 4000000 in
set_option maxRecDepth 100000 in
theorem c_X5_readDigit (l : Launch) (D : va_G) (ca : Nat → ClassId) (x : Nat → Nat) (g : Nat → Nat) (n i q pl dg : Nat) (hn : n ≤ 60) (hg : ∀ k, g k < 128) (hi : i ≤ n) (e0 : Nat) (he : e0 < 128) (hN : [x 0, x 1].Nodup) : zMw l yX5_readDigit cX5_readDigit 3 (some .boolean) 2 42 D ca [(x 0, .inr (5, [.ref (x 1), .int (nI n), .int (nI i), .int (nI q), .int (nI pl), .int (nI dg)])), (x 1, .inl (ca 1, 60, .inl (fun k => nI (g k))))] ([(x 0, .inr (5, [.ref (x 1), .int (nI n), .int (nI ((zRd g n i dg e0).2.1)), .int (nI q), .int (nI pl), .int (nI ((zRd g n i dg e0).2.2))])), (x 1, .inl (ca 1, 60, .inl (fun k => nI (g k))))]) [.ref (x 0), .int (nI e0)] (some (.int (zb ((zRd g n i dg e0).1)))) := by
  refine zMw_of (own := RX5) (by decide) rfl (Nat.le_of_ble_eq_true rfl) ?_
  intro p e s m args below meth c ls S hr hlk hP hK hl hS
  have hP : va_P D vwCl [(x 0, .inr (5, [.ref (x 1), .int (nI n), .int (nI i), .int (nI q), .int (nI pl), .int (nI dg)])), (x 1, .inl (ca 1, 60, .inl (fun k => nI (g k))))] s.heap := hP
  have hS : va_S (zA [x 0, x 1]) s.heap s.heap [] := hS
  have hA : ∀ q ∈ [x 0, x 1], zA [x 0, x 1] q := fun _ h => h
  have hD := zDto (ws := [(x 0, .inr (5, [.ref (x 1), .int (nI n), .int (nI i), .int (nI q), .int (nI pl), .int (nI dg)])), (x 1, .inl (ca 1, 60, .inl (fun k => nI (g k))))]) hN hA rfl
  have hx := S.1
  have hb := S.2.1
  have hl : lv_has ls 3 [(0, .ref (x 0)), (1, .int (nI e0))] := hl
  refine lv_aload_n hx hb dX5_readDigit_0 rfl (lv_at hl 0 rfl) ?_
  refine zcr (As := []) (rest := []) (q0 := 0) S (c_X5_digitHere l D ca x g n i q pl dg (by omega) hg (by omega) ) ml_X5_48 zy_X5_digitHere im_X5_digitHere se_X5_digitHere ⟨Nat.le_of_ble_eq_true rfl, Nat.le_of_ble_eq_true rfl⟩ hK hP [0, 1] rfl rfl rfl rfl rfl hl.1 rfl (Nat.le_of_ble_eq_true rfl) ⟨Nat.zero_le _, Nat.zero_le _⟩ dX5_readDigit_1 ?_
  refine zD_c (fun c_1_1 => ?_) (fun c_1_1 => ?_)
  · have hzin := zDh_in c_1_1
    refine lv_istore_n (lv' := [(2, .int (nI (zDh g n i))), (0, .ref (x 0)), (1, .int (nI e0))]) hx hb dX5_readDigit_4 rfl hl (by decide) rfl (fun ls hl => ?_)
    refine lv_iload_n hx hb dX5_readDigit_5 rfl (lv_at hl 0 rfl) ?_
    refine lv_iconst (v := (-1)) hx hb dX5_readDigit_6 (by decide) ?_
    refine lv_icmp_eq (tgt := 15) hx hb dX5_readDigit_7 (by decide) (fun h => absurd h (nI_nem1 (by omega))) (fun _ => ?_)
    refine lv_iload_n hx hb dX5_readDigit_10 rfl (lv_at hl 0 rfl) ?_
    refine lv_iload_n hx hb dX5_readDigit_11 rfl (lv_at hl 2 rfl) ?_
    refine zn_lt hx hb (x := zDh g n i) (y := e0) (by omega) (by omega) (tgt := 17) dX5_readDigit_12 (by decide) (fun c_12_2 => ?_) (fun c_12_2 => ?_)
    · refine lv_aload_n hx hb dX5_readDigit_17 rfl (lv_at hl 1 rfl) ?_
      refine lv_iload_n hx hb dX5_readDigit_18 rfl (lv_at hl 0 rfl) ?_
      refine z_put S in_lay_X5 tyX5_ok nmX5 hK hP hD hS rfl 0 rfl 5 (by decide) fl_X5_52 rfl rfl rfl rfl (Nat.le_of_ble_eq_true rfl) dX5_readDigit_19 (fun H locs hP hS => ?_)
      have hP : va_P D vwCl [(x 0, .inr (5, [.ref (x 1), .int (nI n), .int (nI i), .int (nI q), .int (nI pl), .int (nI (zDh g n i))])), (x 1, .inl (ca 1, 60, .inl (fun k => nI (g k))))] H := hP
      have hD := zDto (ws := [(x 0, .inr (5, [.ref (x 1), .int (nI n), .int (nI i), .int (nI q), .int (nI pl), .int (nI (zDh g n i))])), (x 1, .inl (ca 1, 60, .inl (fun k => nI (g k))))]) hN hA rfl
      refine lv_aload_n hx hb dX5_readDigit_22 rfl (lv_at hl 1 rfl) ?_
      refine lv_dup hx hb dX5_readDigit_23 rfl ?_
      refine z_get S in_lay_X5 hK hP rfl 0 rfl 2 (by decide) fl_X5_19 rfl rfl dX5_readDigit_24 ?_
      refine lv_iconst (v := 1) hx hb dX5_readDigit_27 (by decide) ?_
      refine zn_add hx hb (x := i) (y := 1) (z := i + 1) (by omega) dX5_readDigit_28 ?_
      refine z_put S in_lay_X5 tyX5_ok nmX5 hK hP hD hS rfl 0 rfl 2 (by decide) fl_X5_19 rfl rfl rfl rfl (Nat.le_of_ble_eq_true rfl) dX5_readDigit_29 (fun H locs hP hS => ?_)
      have hP : va_P D vwCl [(x 0, .inr (5, [.ref (x 1), .int (nI n), .int (nI (i + 1)), .int (nI q), .int (nI pl), .int (nI (zDh g n i))])), (x 1, .inl (ca 1, 60, .inl (fun k => nI (g k))))] H := hP
      have hD := zDto (ws := [(x 0, .inr (5, [.ref (x 1), .int (nI n), .int (nI (i + 1)), .int (nI q), .int (nI pl), .int (nI (zDh g n i))])), (x 1, .inl (ca 1, 60, .inl (fun k => nI (g k))))]) hN hA rfl
      refine lv_iconst (v := 1) hx hb dX5_readDigit_32 (by decide) ?_
      have hz : zRd g n i dg e0 = (true, (i + 1, zDh g n i)) := by simp [zRd, Nat.not_lt.mpr, c_1_1, c_12_2]
      exact zw_z hx hb hr hlk hP hS ⟨by rw [hz] <;> rfl, by rw [hz] <;> rfl⟩ dX5_readDigit_33
    · refine lv_iconst (v := 0) hx hb dX5_readDigit_15 (by decide) ?_
      have hz : zRd g n i dg e0 = (false, (i, dg)) := by simp [zRd, Nat.not_lt.mpr, c_1_1, c_12_2]
      exact zw_z hx hb hr hlk hP hS ⟨by rw [hz] <;> rfl, by rw [hz] <;> rfl⟩ dX5_readDigit_16
  · refine lv_istore_n (lv' := [(2, .int (-1)), (0, .ref (x 0)), (1, .int (nI e0))]) hx hb dX5_readDigit_4 rfl hl (by decide) rfl (fun ls hl => ?_)
    refine lv_iload_n hx hb dX5_readDigit_5 rfl (lv_at hl 0 rfl) ?_
    refine lv_iconst (v := (-1)) hx hb dX5_readDigit_6 (by decide) ?_
    refine lv_icmp_eq (tgt := 15) hx hb dX5_readDigit_7 (by decide) (fun _ => ?_) (fun h => absurd (by decide) h)
    refine lv_iconst (v := 0) hx hb dX5_readDigit_15 (by decide) ?_
    have hz : zRd g n i dg e0 = (false, (i, dg)) := by simp [zRd, Nat.not_lt.mpr, c_1_1]
    exact zw_z hx hb hr hlk hP hS ⟨by rw [hz] <;> rfl, by rw [hz] <;> rfl⟩ dX5_readDigit_16
set_option maxHeartbeats 4000000 in
set_option maxRecDepth 100000 in
theorem c_X5_readPlace (l : Launch) (D : va_G) (ca : Nat → ClassId) (x : Nat → Nat) (g : Nat → Nat) (n i q pl dg : Nat) (hn : n ≤ 60) (hg : ∀ k, g k < 128) (hi : i ≤ n) (hN : [x 0, x 1].Nodup) : zMw l yX5_readPlace cX5_readPlace 3 (some .boolean) 2 42 D ca [(x 0, .inr (5, [.ref (x 1), .int (nI n), .int (nI i), .int (nI q), .int (nI pl), .int (nI dg)])), (x 1, .inl (ca 1, 60, .inl (fun k => nI (g k))))] ([(x 0, .inr (5, [.ref (x 1), .int (nI n), .int (nI ((zRp g n i pl).2.1)), .int (nI q), .int (nI ((zRp g n i pl).2.2)), .int (nI dg)])), (x 1, .inl (ca 1, 60, .inl (fun k => nI (g k))))]) [.ref (x 0)] (some (.int (zb ((zRp g n i pl).1)))) := by
  refine zMw_of (own := RX5) (by decide) rfl (Nat.le_of_ble_eq_true rfl) ?_
  intro p e s m args below meth c ls S hr hlk hP hK hl hS
  have hP : va_P D vwCl [(x 0, .inr (5, [.ref (x 1), .int (nI n), .int (nI i), .int (nI q), .int (nI pl), .int (nI dg)])), (x 1, .inl (ca 1, 60, .inl (fun k => nI (g k))))] s.heap := hP
  have hS : va_S (zA [x 0, x 1]) s.heap s.heap [] := hS
  have hA : ∀ q ∈ [x 0, x 1], zA [x 0, x 1] q := fun _ h => h
  have hD := zDto (ws := [(x 0, .inr (5, [.ref (x 1), .int (nI n), .int (nI i), .int (nI q), .int (nI pl), .int (nI dg)])), (x 1, .inl (ca 1, 60, .inl (fun k => nI (g k))))]) hN hA rfl
  have hx := S.1
  have hb := S.2.1
  have hl : lv_has ls 3 [(0, .ref (x 0))] := hl
  refine lv_aload_n hx hb dX5_readPlace_0 rfl (lv_at hl 0 rfl) ?_
  refine zcr (As := []) (rest := []) (q0 := 0) S (c_X5_digitHere l D ca x g n i q pl dg (by omega) hg (by omega) ) ml_X5_48 zy_X5_digitHere im_X5_digitHere se_X5_digitHere ⟨Nat.le_of_ble_eq_true rfl, Nat.le_of_ble_eq_true rfl⟩ hK hP [0, 1] rfl rfl rfl rfl rfl hl.1 rfl (Nat.le_of_ble_eq_true rfl) ⟨Nat.zero_le _, Nat.zero_le _⟩ dX5_readPlace_1 ?_
  refine zD_c (fun c_1_1 => ?_) (fun c_1_1 => ?_)
  · have hzin := zDh_in c_1_1
    refine lv_istore_n (lv' := [(1, .int (nI (zDh g n i))), (0, .ref (x 0))]) hx hb dX5_readPlace_4 rfl hl (by decide) rfl (fun ls hl => ?_)
    refine lv_iload_n hx hb dX5_readPlace_5 rfl (lv_at hl 0 rfl) ?_
    refine lv_iconst (v := (-1)) hx hb dX5_readPlace_6 (by decide) ?_
    refine lv_icmp_ne (tgt := 12) hx hb dX5_readPlace_7 (by decide) (fun _ => ?_) (fun h => absurd h (nI_nem1 (by omega)))
    refine lv_aload_n hx hb dX5_readPlace_12 rfl (lv_at hl 1 rfl) ?_
    refine lv_iload_n hx hb dX5_readPlace_13 rfl (lv_at hl 0 rfl) ?_
    refine z_put S in_lay_X5 tyX5_ok nmX5 hK hP hD hS rfl 0 rfl 4 (by decide) fl_X5_55 rfl rfl rfl rfl (Nat.le_of_ble_eq_true rfl) dX5_readPlace_14 (fun H locs hP hS => ?_)
    have hP : va_P D vwCl [(x 0, .inr (5, [.ref (x 1), .int (nI n), .int (nI i), .int (nI q), .int (nI (zDh g n i)), .int (nI dg)])), (x 1, .inl (ca 1, 60, .inl (fun k => nI (g k))))] H := hP
    have hD := zDto (ws := [(x 0, .inr (5, [.ref (x 1), .int (nI n), .int (nI i), .int (nI q), .int (nI (zDh g n i)), .int (nI dg)])), (x 1, .inl (ca 1, 60, .inl (fun k => nI (g k))))]) hN hA rfl
    refine lv_aload_n hx hb dX5_readPlace_17 rfl (lv_at hl 1 rfl) ?_
    refine lv_dup hx hb dX5_readPlace_18 rfl ?_
    refine z_get S in_lay_X5 hK hP rfl 0 rfl 2 (by decide) fl_X5_19 rfl rfl dX5_readPlace_19 ?_
    refine lv_iconst (v := 1) hx hb dX5_readPlace_22 (by decide) ?_
    refine zn_add hx hb (x := i) (y := 1) (z := i + 1) (by omega) dX5_readPlace_23 ?_
    refine z_put S in_lay_X5 tyX5_ok nmX5 hK hP hD hS rfl 0 rfl 2 (by decide) fl_X5_19 rfl rfl rfl rfl (Nat.le_of_ble_eq_true rfl) dX5_readPlace_24 (fun H locs hP hS => ?_)
    have hP : va_P D vwCl [(x 0, .inr (5, [.ref (x 1), .int (nI n), .int (nI (i + 1)), .int (nI q), .int (nI (zDh g n i)), .int (nI dg)])), (x 1, .inl (ca 1, 60, .inl (fun k => nI (g k))))] H := hP
    have hD := zDto (ws := [(x 0, .inr (5, [.ref (x 1), .int (nI n), .int (nI (i + 1)), .int (nI q), .int (nI (zDh g n i)), .int (nI dg)])), (x 1, .inl (ca 1, 60, .inl (fun k => nI (g k))))]) hN hA rfl
    refine lv_aload_n hx hb dX5_readPlace_27 rfl (lv_at hl 1 rfl) ?_
    refine zcr (As := []) (rest := []) (q0 := 0) S (c_X5_digitHere l D ca x g n (i + 1) q (zDh g n i) dg (by omega) hg (by omega) ) ml_X5_48 zy_X5_digitHere im_X5_digitHere se_X5_digitHere ⟨Nat.le_of_ble_eq_true rfl, Nat.le_of_ble_eq_true rfl⟩ hK hP [0, 1] rfl rfl rfl rfl rfl hl.1 rfl (Nat.le_of_ble_eq_true rfl) ⟨Nat.zero_le _, Nat.zero_le _⟩ dX5_readPlace_28 ?_
    refine zD_c (fun c_28_2 => ?_) (fun c_28_2 => ?_)
    · have hzin := zDh_in c_28_2
      refine lv_istore_n (lv' := [(2, .int (nI (zDh g n (i + 1)))), (1, .int (nI (zDh g n i))), (0, .ref (x 0))]) hx hb dX5_readPlace_31 rfl hl (by decide) rfl (fun ls hl => ?_)
      refine lv_iload_n hx hb dX5_readPlace_32 rfl (lv_at hl 1 rfl) ?_
      refine zn_le0 hx hb (x := zDh g n i) (by omega) (tgt := 72) dX5_readPlace_33 (by decide) (fun c_33_3 => ?_) (fun c_33_3 => ?_)
      · refine lv_iconst (v := 1) hx hb dX5_readPlace_72 (by decide) ?_
        have hz : zRp g n i pl = (true, (i + 1, zDh g n i)) := by simp [zRp, Nat.not_lt.mpr, Nat.not_le.mpr, c_1_1, c_28_2, c_33_3]
        exact zw_z hx hb hr hlk hP hS ⟨by rw [hz] <;> rfl, by rw [hz] <;> rfl⟩ dX5_readPlace_73
      · refine lv_iload_n hx hb dX5_readPlace_36 rfl (lv_at hl 0 rfl) ?_
        refine lv_iconst (v := (-1)) hx hb dX5_readPlace_37 (by decide) ?_
        refine lv_icmp_eq (tgt := 72) hx hb dX5_readPlace_38 (by decide) (fun h => absurd h (nI_nem1 (by omega))) (fun _ => ?_)
        refine lv_bipush (v := 10) hx hb dX5_readPlace_41 (by decide) ?_
        refine lv_iload_n hx hb dX5_readPlace_43 rfl (lv_at hl 1 rfl) ?_
        refine zn_mul hx hb (x := 10) (y := zDh g n i) (z := 10 * (zDh g n i)) (by first | rfl | omega) dX5_readPlace_44 ?_
        refine lv_iload_n hx hb dX5_readPlace_45 rfl (lv_at hl 0 rfl) ?_
        refine zn_add hx hb (x := 10 * (zDh g n i)) (y := zDh g n (i + 1)) (z := (10 * (zDh g n i)) + (zDh g n (i + 1))) (by omega) dX5_readPlace_46 ?_
        refine lv_bipush (v := 24) hx hb dX5_readPlace_47 (by decide) ?_
        refine zn_ge hx hb (x := (10 * (zDh g n i)) + (zDh g n (i + 1))) (y := 24) (by omega) (by omega) (tgt := 72) dX5_readPlace_49 (by decide) (fun c_49_4 => ?_) (fun c_49_4 => ?_)
        · refine lv_iconst (v := 1) hx hb dX5_readPlace_72 (by decide) ?_
          have hz : zRp g n i pl = (true, (i + 1, zDh g n i)) := by simp [zRp, Nat.not_lt.mpr, Nat.not_le.mpr, c_1_1, c_28_2, c_33_3, c_49_4]
          exact zw_z hx hb hr hlk hP hS ⟨by rw [hz] <;> rfl, by rw [hz] <;> rfl⟩ dX5_readPlace_73
        · refine lv_aload_n hx hb dX5_readPlace_52 rfl (lv_at hl 2 rfl) ?_
          refine lv_bipush (v := 10) hx hb dX5_readPlace_53 (by decide) ?_
          refine lv_iload_n hx hb dX5_readPlace_55 rfl (lv_at hl 1 rfl) ?_
          refine zn_mul hx hb (x := 10) (y := zDh g n i) (z := 10 * (zDh g n i)) (by first | rfl | omega) dX5_readPlace_56 ?_
          refine lv_iload_n hx hb dX5_readPlace_57 rfl (lv_at hl 0 rfl) ?_
          refine zn_add hx hb (x := 10 * (zDh g n i)) (y := zDh g n (i + 1)) (z := (10 * (zDh g n i)) + (zDh g n (i + 1))) (by omega) dX5_readPlace_58 ?_
          refine z_put S in_lay_X5 tyX5_ok nmX5 hK hP hD hS rfl 0 rfl 4 (by decide) fl_X5_55 rfl rfl rfl rfl (Nat.le_of_ble_eq_true rfl) dX5_readPlace_59 (fun H locs hP hS => ?_)
          have hP : va_P D vwCl [(x 0, .inr (5, [.ref (x 1), .int (nI n), .int (nI (i + 1)), .int (nI q), .int (nI ((10 * (zDh g n i)) + (zDh g n (i + 1)))), .int (nI dg)])), (x 1, .inl (ca 1, 60, .inl (fun k => nI (g k))))] H := hP
          have hD := zDto (ws := [(x 0, .inr (5, [.ref (x 1), .int (nI n), .int (nI (i + 1)), .int (nI q), .int (nI ((10 * (zDh g n i)) + (zDh g n (i + 1)))), .int (nI dg)])), (x 1, .inl (ca 1, 60, .inl (fun k => nI (g k))))]) hN hA rfl
          refine lv_aload_n hx hb dX5_readPlace_62 rfl (lv_at hl 2 rfl) ?_
          refine lv_dup hx hb dX5_readPlace_63 rfl ?_
          refine z_get S in_lay_X5 hK hP rfl 0 rfl 2 (by decide) fl_X5_19 rfl rfl dX5_readPlace_64 ?_
          refine lv_iconst (v := 1) hx hb dX5_readPlace_67 (by decide) ?_
          refine zn_add hx hb (x := i + 1) (y := 1) (z := (i + 1) + 1) (by omega) dX5_readPlace_68 ?_
          refine z_put S in_lay_X5 tyX5_ok nmX5 hK hP hD hS rfl 0 rfl 2 (by decide) fl_X5_19 rfl rfl rfl rfl (Nat.le_of_ble_eq_true rfl) dX5_readPlace_69 (fun H locs hP hS => ?_)
          have hP : va_P D vwCl [(x 0, .inr (5, [.ref (x 1), .int (nI n), .int (nI ((i + 1) + 1)), .int (nI q), .int (nI ((10 * (zDh g n i)) + (zDh g n (i + 1)))), .int (nI dg)])), (x 1, .inl (ca 1, 60, .inl (fun k => nI (g k))))] H := hP
          have hD := zDto (ws := [(x 0, .inr (5, [.ref (x 1), .int (nI n), .int (nI ((i + 1) + 1)), .int (nI q), .int (nI ((10 * (zDh g n i)) + (zDh g n (i + 1)))), .int (nI dg)])), (x 1, .inl (ca 1, 60, .inl (fun k => nI (g k))))]) hN hA rfl
          refine lv_iconst (v := 1) hx hb dX5_readPlace_72 (by decide) ?_
          have hz : zRp g n i pl = (true, ((i + 1) + 1, (10 * (zDh g n i)) + (zDh g n (i + 1)))) := by simp [zRp, Nat.not_lt.mpr, Nat.not_le.mpr, c_1_1, c_28_2, c_33_3, c_49_4]
          exact zw_z hx hb hr hlk hP hS ⟨by rw [hz] <;> rfl, by rw [hz] <;> rfl⟩ dX5_readPlace_73
    · refine lv_istore_n (lv' := [(2, .int (-1)), (1, .int (nI (zDh g n i))), (0, .ref (x 0))]) hx hb dX5_readPlace_31 rfl hl (by decide) rfl (fun ls hl => ?_)
      refine lv_iload_n hx hb dX5_readPlace_32 rfl (lv_at hl 1 rfl) ?_
      refine zn_le0 hx hb (x := zDh g n i) (by omega) (tgt := 72) dX5_readPlace_33 (by decide) (fun c_33_5 => ?_) (fun c_33_5 => ?_)
      · refine lv_iconst (v := 1) hx hb dX5_readPlace_72 (by decide) ?_
        have hz : zRp g n i pl = (true, (i + 1, zDh g n i)) := by simp [zRp, Nat.not_lt.mpr, Nat.not_le.mpr, c_1_1, c_28_2, c_33_5]
        exact zw_z hx hb hr hlk hP hS ⟨by rw [hz] <;> rfl, by rw [hz] <;> rfl⟩ dX5_readPlace_73
      · refine lv_iload_n hx hb dX5_readPlace_36 rfl (lv_at hl 0 rfl) ?_
        refine lv_iconst (v := (-1)) hx hb dX5_readPlace_37 (by decide) ?_
        refine lv_icmp_eq (tgt := 72) hx hb dX5_readPlace_38 (by decide) (fun _ => ?_) (fun h => absurd (by decide) h)
        refine lv_iconst (v := 1) hx hb dX5_readPlace_72 (by decide) ?_
        have hz : zRp g n i pl = (true, (i + 1, zDh g n i)) := by simp [zRp, Nat.not_lt.mpr, Nat.not_le.mpr, c_1_1, c_28_2, c_33_5]
        exact zw_z hx hb hr hlk hP hS ⟨by rw [hz] <;> rfl, by rw [hz] <;> rfl⟩ dX5_readPlace_73
  · refine lv_istore_n (lv' := [(1, .int (-1)), (0, .ref (x 0))]) hx hb dX5_readPlace_4 rfl hl (by decide) rfl (fun ls hl => ?_)
    refine lv_iload_n hx hb dX5_readPlace_5 rfl (lv_at hl 0 rfl) ?_
    refine lv_iconst (v := (-1)) hx hb dX5_readPlace_6 (by decide) ?_
    refine lv_icmp_ne (tgt := 12) hx hb dX5_readPlace_7 (by decide) (fun h => absurd (by decide) h) (fun _ => ?_)
    refine lv_iconst (v := 0) hx hb dX5_readPlace_10 (by decide) ?_
    have hz : zRp g n i pl = (false, (i, pl)) := by simp [zRp, Nat.not_lt.mpr, Nat.not_le.mpr, c_1_1]
    exact zw_z hx hb hr hlk hP hS ⟨by rw [hz] <;> rfl, by rw [hz] <;> rfl⟩ dX5_readPlace_11
set_option maxHeartbeats 4000000 in
set_option maxRecDepth 100000 in
theorem c_X5_readNext (l : Launch) (D : va_G) (ca : Nat → ClassId) (x : Nat → Nat) (g : Nat → Nat) (n i q pl dg : Nat) (hn : n ≤ 60) (hg : ∀ k, g k < 128) (hi : i ≤ n) (hN : [x 0, x 1].Nodup) : zMw l yX5_readNext cX5_readNext 2 (some .boolean) 3 64 D ca [(x 0, .inr (5, [.ref (x 1), .int (nI n), .int (nI i), .int (nI q), .int (nI pl), .int (nI dg)])), (x 1, .inl (ca 1, 60, .inl (fun k => nI (g k))))] ([(x 0, .inr (5, [.ref (x 1), .int (nI n), .int (nI ((zRn g n i q pl dg).2.1)), .int (nI ((zRn g n i q pl dg).2.2.1)), .int (nI ((zRn g n i q pl dg).2.2.2.1)), .int (nI ((zRn g n i q pl dg).2.2.2.2))])), (x 1, .inl (ca 1, 60, .inl (fun k => nI (g k))))]) [.ref (x 0)] (some (.int (zb ((zRn g n i q pl dg).1)))) := by
  refine zMw_of (own := RX5) (by decide) rfl (Nat.le_of_ble_eq_true rfl) ?_
  intro p e s m args below meth c ls S hr hlk hP hK hl hS
  have hP : va_P D vwCl [(x 0, .inr (5, [.ref (x 1), .int (nI n), .int (nI i), .int (nI q), .int (nI pl), .int (nI dg)])), (x 1, .inl (ca 1, 60, .inl (fun k => nI (g k))))] s.heap := hP
  have hS : va_S (zA [x 0, x 1]) s.heap s.heap [] := hS
  have hA : ∀ q ∈ [x 0, x 1], zA [x 0, x 1] q := fun _ h => h
  have hD := zDto (ws := [(x 0, .inr (5, [.ref (x 1), .int (nI n), .int (nI i), .int (nI q), .int (nI pl), .int (nI dg)])), (x 1, .inl (ca 1, 60, .inl (fun k => nI (g k))))]) hN hA rfl
  have hx := S.1
  have hb := S.2.1
  have hl : lv_has ls 2 [(0, .ref (x 0))] := hl
  refine lv_aload_n hx hb dX5_readNext_0 rfl (lv_at hl 0 rfl) ?_
  refine z_get S in_lay_X5 hK hP rfl 0 rfl 2 (by decide) fl_X5_19 rfl rfl dX5_readNext_1 ?_
  refine zn_le0 hx hb (x := i) (by omega) (tgt := 18) dX5_readNext_4 (by decide) (fun c_4_1 => ?_) (fun c_4_1 => ?_)
  · refine lv_aload_n hx hb dX5_readNext_18 rfl (lv_at hl 0 rfl) ?_
    refine lv_aload_n hx hb dX5_readNext_19 rfl (lv_at hl 0 rfl) ?_
    refine z_get S in_lay_X5 hK hP rfl 0 rfl 2 (by decide) fl_X5_19 rfl rfl dX5_readNext_20 ?_
    refine zcr (As := [.int (nI i)]) (rest := []) (q0 := 0) S (c_X5_signAt l D ca x g n i q pl dg (by omega) hg i (by omega)) ml_X5_33 zy_X5_signAt im_X5_signAt se_X5_signAt ⟨Nat.le_of_ble_eq_true rfl, Nat.le_of_ble_eq_true rfl⟩ hK hP [0, 1] rfl rfl rfl rfl rfl hl.1 rfl (Nat.le_of_ble_eq_true rfl) ⟨Nat.zero_le _, Nat.zero_le _⟩ dX5_readNext_23 ?_
    have hsg := zSg_lt (g := g) (n := n) (i := i) hg
    refine lv_istore_n (lv' := [(1, .int (nI (zSg g n i))), (0, .ref (x 0))]) hx hb dX5_readNext_26 rfl hl (by decide) rfl (fun ls hl => ?_)
    refine lv_iload_n hx hb dX5_readNext_27 rfl (lv_at hl 0 rfl) ?_
    by_cases w_28_2 : zSg g n i = 43
    · refine z_look (x := zSg g n i) (k := 43) hx hb w_28_2 (by decide) dX5_readNext_28 (by decide) rfl (by decide) ?_ (tgt := 64)
      have hzi := zSg_in (g := g) (n := n) (i := i) (by omega)
      refine lv_aload_n hx hb dX5_readNext_64 rfl (lv_at hl 1 rfl) ?_
      refine lv_bipush (v := 43) hx hb dX5_readNext_65 (by decide) ?_
      refine z_put S in_lay_X5 tyX5_ok nmX5 hK hP hD hS rfl 0 rfl 3 (by decide) fl_X5_37 rfl rfl rfl rfl (Nat.le_of_ble_eq_true rfl) dX5_readNext_67 (fun H locs hP hS => ?_)
      have hP : va_P D vwCl [(x 0, .inr (5, [.ref (x 1), .int (nI n), .int (nI i), .int 43, .int (nI pl), .int (nI dg)])), (x 1, .inl (ca 1, 60, .inl (fun k => nI (g k))))] H := hP
      have hD := zDto (ws := [(x 0, .inr (5, [.ref (x 1), .int (nI n), .int (nI i), .int 43, .int (nI pl), .int (nI dg)])), (x 1, .inl (ca 1, 60, .inl (fun k => nI (g k))))]) hN hA rfl
      refine lv_aload_n hx hb dX5_readNext_70 rfl (lv_at hl 1 rfl) ?_
      refine lv_dup hx hb dX5_readNext_71 rfl ?_
      refine z_get S in_lay_X5 hK hP rfl 0 rfl 2 (by decide) fl_X5_19 rfl rfl dX5_readNext_72 ?_
      refine lv_iconst (v := 1) hx hb dX5_readNext_75 (by decide) ?_
      refine zn_add hx hb (x := i) (y := 1) (z := i + 1) (by omega) dX5_readNext_76 ?_
      refine z_put S in_lay_X5 tyX5_ok nmX5 hK hP hD hS rfl 0 rfl 2 (by decide) fl_X5_19 rfl rfl rfl rfl (Nat.le_of_ble_eq_true rfl) dX5_readNext_77 (fun H locs hP hS => ?_)
      have hP : va_P D vwCl [(x 0, .inr (5, [.ref (x 1), .int (nI n), .int (nI (i + 1)), .int 43, .int (nI pl), .int (nI dg)])), (x 1, .inl (ca 1, 60, .inl (fun k => nI (g k))))] H := hP
      have hD := zDto (ws := [(x 0, .inr (5, [.ref (x 1), .int (nI n), .int (nI (i + 1)), .int 43, .int (nI pl), .int (nI dg)])), (x 1, .inl (ca 1, 60, .inl (fun k => nI (g k))))]) hN hA rfl
      refine lv_aload_n hx hb dX5_readNext_80 rfl (lv_at hl 1 rfl) ?_
      refine lv_bipush (v := 10) hx hb dX5_readNext_81 (by decide) ?_
      refine zcw (As := [.int 10]) (rest := []) (st1 := [.int (zb ((zRd g n (i + 1) dg 10).1))]) (q0 := 0) (lw := [x 0, x 1]) S (c_X5_readDigit l D ca x g n (i + 1) 43 pl dg (by omega) hg (by omega) 10 (by omega) (znd_pick hN [0, 1] rfl rfl)) ml_X5_41 zy_X5_readDigit im_X5_readDigit se_X5_readDigit ⟨Nat.le_of_ble_eq_true rfl, Nat.le_of_ble_eq_true rfl⟩ hK hP hD hS [0, 1] rfl rfl rfl rfl rfl rfl rfl hl.1 rfl rfl (Nat.le_of_ble_eq_true rfl) ⟨Nat.zero_le _, Nat.zero_le _⟩ dX5_readNext_83 (fun H locs hP hS => ?_)
      have hP : va_P D vwCl [(x 0, .inr (5, [.ref (x 1), .int (nI n), .int (nI ((zRd g n (i + 1) dg 10).2.1)), .int 43, .int (nI pl), .int (nI ((zRd g n (i + 1) dg 10).2.2))])), (x 1, .inl (ca 1, 60, .inl (fun k => nI (g k))))] H := hP
      have hD := zDto (ws := [(x 0, .inr (5, [.ref (x 1), .int (nI n), .int (nI ((zRd g n (i + 1) dg 10).2.1)), .int 43, .int (nI pl), .int (nI ((zRd g n (i + 1) dg 10).2.2))])), (x 1, .inl (ca 1, 60, .inl (fun k => nI (g k))))]) hN hA rfl
      have hzle := zRd_le (g := g) (n := n) (i := i + 1) (dg := dg) (e := 10) (by omega)
      have hz : zRn g n i q pl dg = ((zRd g n (i + 1) dg 10).1, ((zRd g n (i + 1) dg 10).2.1, 43, pl, (zRd g n (i + 1) dg 10).2.2)) := by first | (rw [zRn, if_pos (by assumption)]; simp [zRb, w_28_2]; done) | (rw [zRn, if_neg (by assumption)]; simp [zRb, w_28_2])
      exact zw_z hx hb hr hlk hP hS ⟨by rw [hz] <;> rfl, by rw [hz] <;> rfl⟩ dX5_readNext_86
    by_cases w_28_3 : zSg g n i = 45
    · refine z_look (x := zSg g n i) (k := 45) hx hb w_28_3 (by decide) dX5_readNext_28 (by decide) rfl (by decide) ?_ (tgt := 87)
      have hzi := zSg_in (g := g) (n := n) (i := i) (by omega)
      refine lv_aload_n hx hb dX5_readNext_87 rfl (lv_at hl 1 rfl) ?_
      refine lv_bipush (v := 45) hx hb dX5_readNext_88 (by decide) ?_
      refine z_put S in_lay_X5 tyX5_ok nmX5 hK hP hD hS rfl 0 rfl 3 (by decide) fl_X5_37 rfl rfl rfl rfl (Nat.le_of_ble_eq_true rfl) dX5_readNext_90 (fun H locs hP hS => ?_)
      have hP : va_P D vwCl [(x 0, .inr (5, [.ref (x 1), .int (nI n), .int (nI i), .int 45, .int (nI pl), .int (nI dg)])), (x 1, .inl (ca 1, 60, .inl (fun k => nI (g k))))] H := hP
      have hD := zDto (ws := [(x 0, .inr (5, [.ref (x 1), .int (nI n), .int (nI i), .int 45, .int (nI pl), .int (nI dg)])), (x 1, .inl (ca 1, 60, .inl (fun k => nI (g k))))]) hN hA rfl
      refine lv_aload_n hx hb dX5_readNext_93 rfl (lv_at hl 1 rfl) ?_
      refine lv_dup hx hb dX5_readNext_94 rfl ?_
      refine z_get S in_lay_X5 hK hP rfl 0 rfl 2 (by decide) fl_X5_19 rfl rfl dX5_readNext_95 ?_
      refine lv_iconst (v := 1) hx hb dX5_readNext_98 (by decide) ?_
      refine zn_add hx hb (x := i) (y := 1) (z := i + 1) (by omega) dX5_readNext_99 ?_
      refine z_put S in_lay_X5 tyX5_ok nmX5 hK hP hD hS rfl 0 rfl 2 (by decide) fl_X5_19 rfl rfl rfl rfl (Nat.le_of_ble_eq_true rfl) dX5_readNext_100 (fun H locs hP hS => ?_)
      have hP : va_P D vwCl [(x 0, .inr (5, [.ref (x 1), .int (nI n), .int (nI (i + 1)), .int 45, .int (nI pl), .int (nI dg)])), (x 1, .inl (ca 1, 60, .inl (fun k => nI (g k))))] H := hP
      have hD := zDto (ws := [(x 0, .inr (5, [.ref (x 1), .int (nI n), .int (nI (i + 1)), .int 45, .int (nI pl), .int (nI dg)])), (x 1, .inl (ca 1, 60, .inl (fun k => nI (g k))))]) hN hA rfl
      refine lv_aload_n hx hb dX5_readNext_103 rfl (lv_at hl 1 rfl) ?_
      refine zcw (As := []) (rest := []) (st1 := [.int (zb ((zRp g n (i + 1) pl).1))]) (q0 := 0) (lw := [x 0, x 1]) S (c_X5_readPlace l D ca x g n (i + 1) 45 pl dg (by omega) hg (by omega)  (znd_pick hN [0, 1] rfl rfl)) ml_X5_45 zy_X5_readPlace im_X5_readPlace se_X5_readPlace ⟨Nat.le_of_ble_eq_true rfl, Nat.le_of_ble_eq_true rfl⟩ hK hP hD hS [0, 1] rfl rfl rfl rfl rfl rfl rfl hl.1 rfl rfl (Nat.le_of_ble_eq_true rfl) ⟨Nat.zero_le _, Nat.zero_le _⟩ dX5_readNext_104 (fun H locs hP hS => ?_)
      have hP : va_P D vwCl [(x 0, .inr (5, [.ref (x 1), .int (nI n), .int (nI ((zRp g n (i + 1) pl).2.1)), .int 45, .int (nI ((zRp g n (i + 1) pl).2.2)), .int (nI dg)])), (x 1, .inl (ca 1, 60, .inl (fun k => nI (g k))))] H := hP
      have hD := zDto (ws := [(x 0, .inr (5, [.ref (x 1), .int (nI n), .int (nI ((zRp g n (i + 1) pl).2.1)), .int 45, .int (nI ((zRp g n (i + 1) pl).2.2)), .int (nI dg)])), (x 1, .inl (ca 1, 60, .inl (fun k => nI (g k))))]) hN hA rfl
      have hzle := zRp_le (g := g) (n := n) (i := i + 1) (pl := pl) (by omega)
      have hz : zRn g n i q pl dg = ((zRp g n (i + 1) pl).1, ((zRp g n (i + 1) pl).2.1, 45, (zRp g n (i + 1) pl).2.2, dg)) := by first | (rw [zRn, if_pos (by assumption)]; simp [zRb, w_28_2, w_28_3]; done) | (rw [zRn, if_neg (by assumption)]; simp [zRb, w_28_2, w_28_3])
      exact zw_z hx hb hr hlk hP hS ⟨by rw [hz] <;> rfl, by rw [hz] <;> rfl⟩ dX5_readNext_107
    by_cases w_28_4 : zSg g n i = 126
    · refine z_look (x := zSg g n i) (k := 126) hx hb w_28_4 (by decide) dX5_readNext_28 (by decide) rfl (by decide) ?_ (tgt := 108)
      have hzi := zSg_in (g := g) (n := n) (i := i) (by omega)
      refine lv_aload_n hx hb dX5_readNext_108 rfl (lv_at hl 1 rfl) ?_
      refine lv_bipush (v := 126) hx hb dX5_readNext_109 (by decide) ?_
      refine z_put S in_lay_X5 tyX5_ok nmX5 hK hP hD hS rfl 0 rfl 3 (by decide) fl_X5_37 rfl rfl rfl rfl (Nat.le_of_ble_eq_true rfl) dX5_readNext_111 (fun H locs hP hS => ?_)
      have hP : va_P D vwCl [(x 0, .inr (5, [.ref (x 1), .int (nI n), .int (nI i), .int 126, .int (nI pl), .int (nI dg)])), (x 1, .inl (ca 1, 60, .inl (fun k => nI (g k))))] H := hP
      have hD := zDto (ws := [(x 0, .inr (5, [.ref (x 1), .int (nI n), .int (nI i), .int 126, .int (nI pl), .int (nI dg)])), (x 1, .inl (ca 1, 60, .inl (fun k => nI (g k))))]) hN hA rfl
      refine lv_aload_n hx hb dX5_readNext_114 rfl (lv_at hl 1 rfl) ?_
      refine lv_dup hx hb dX5_readNext_115 rfl ?_
      refine z_get S in_lay_X5 hK hP rfl 0 rfl 2 (by decide) fl_X5_19 rfl rfl dX5_readNext_116 ?_
      refine lv_iconst (v := 1) hx hb dX5_readNext_119 (by decide) ?_
      refine zn_add hx hb (x := i) (y := 1) (z := i + 1) (by omega) dX5_readNext_120 ?_
      refine z_put S in_lay_X5 tyX5_ok nmX5 hK hP hD hS rfl 0 rfl 2 (by decide) fl_X5_19 rfl rfl rfl rfl (Nat.le_of_ble_eq_true rfl) dX5_readNext_121 (fun H locs hP hS => ?_)
      have hP : va_P D vwCl [(x 0, .inr (5, [.ref (x 1), .int (nI n), .int (nI (i + 1)), .int 126, .int (nI pl), .int (nI dg)])), (x 1, .inl (ca 1, 60, .inl (fun k => nI (g k))))] H := hP
      have hD := zDto (ws := [(x 0, .inr (5, [.ref (x 1), .int (nI n), .int (nI (i + 1)), .int 126, .int (nI pl), .int (nI dg)])), (x 1, .inl (ca 1, 60, .inl (fun k => nI (g k))))]) hN hA rfl
      refine lv_aload_n hx hb dX5_readNext_124 rfl (lv_at hl 1 rfl) ?_
      refine lv_bipush (v := 6) hx hb dX5_readNext_125 (by decide) ?_
      refine zcw (As := [.int 6]) (rest := []) (st1 := [.int (zb ((zRd g n (i + 1) dg 6).1))]) (q0 := 0) (lw := [x 0, x 1]) S (c_X5_readDigit l D ca x g n (i + 1) 126 pl dg (by omega) hg (by omega) 6 (by omega) (znd_pick hN [0, 1] rfl rfl)) ml_X5_41 zy_X5_readDigit im_X5_readDigit se_X5_readDigit ⟨Nat.le_of_ble_eq_true rfl, Nat.le_of_ble_eq_true rfl⟩ hK hP hD hS [0, 1] rfl rfl rfl rfl rfl rfl rfl hl.1 rfl rfl (Nat.le_of_ble_eq_true rfl) ⟨Nat.zero_le _, Nat.zero_le _⟩ dX5_readNext_127 (fun H locs hP hS => ?_)
      have hP : va_P D vwCl [(x 0, .inr (5, [.ref (x 1), .int (nI n), .int (nI ((zRd g n (i + 1) dg 6).2.1)), .int 126, .int (nI pl), .int (nI ((zRd g n (i + 1) dg 6).2.2))])), (x 1, .inl (ca 1, 60, .inl (fun k => nI (g k))))] H := hP
      have hD := zDto (ws := [(x 0, .inr (5, [.ref (x 1), .int (nI n), .int (nI ((zRd g n (i + 1) dg 6).2.1)), .int 126, .int (nI pl), .int (nI ((zRd g n (i + 1) dg 6).2.2))])), (x 1, .inl (ca 1, 60, .inl (fun k => nI (g k))))]) hN hA rfl
      have hzle := zRd_le (g := g) (n := n) (i := i + 1) (dg := dg) (e := 6) (by omega)
      have hz : zRn g n i q pl dg = ((zRd g n (i + 1) dg 6).1, ((zRd g n (i + 1) dg 6).2.1, 126, pl, (zRd g n (i + 1) dg 6).2.2)) := by first | (rw [zRn, if_pos (by assumption)]; simp [zRb, w_28_2, w_28_3, w_28_4]; done) | (rw [zRn, if_neg (by assumption)]; simp [zRb, w_28_2, w_28_3, w_28_4])
      exact zw_z hx hb hr hlk hP hS ⟨by rw [hz] <;> rfl, by rw [hz] <;> rfl⟩ dX5_readNext_130
    refine z_look (x := zSg g n i) (k := zSg g n i) (off := 103) hx hb rfl (by omega) dX5_readNext_28 (by decide) (by show Op.lookupswitch.offset [(43, 36), (45, 59), (126, 80)] 103 _ = _; rw [Op.lookupswitch.offset_cons, if_neg (by omega), Op.lookupswitch.offset_cons, if_neg (by omega), Op.lookupswitch.offset_cons, if_neg (by omega)] <;> rfl) (by decide) ?_ (tgt := 131)
    refine lv_aload_n hx hb dX5_readNext_131 rfl (lv_at hl 1 rfl) ?_
    refine lv_bipush (v := 61) hx hb dX5_readNext_132 (by decide) ?_
    refine z_put S in_lay_X5 tyX5_ok nmX5 hK hP hD hS rfl 0 rfl 3 (by decide) fl_X5_37 rfl rfl rfl rfl (Nat.le_of_ble_eq_true rfl) dX5_readNext_134 (fun H locs hP hS => ?_)
    have hP : va_P D vwCl [(x 0, .inr (5, [.ref (x 1), .int (nI n), .int (nI i), .int 61, .int (nI pl), .int (nI dg)])), (x 1, .inl (ca 1, 60, .inl (fun k => nI (g k))))] H := hP
    have hD := zDto (ws := [(x 0, .inr (5, [.ref (x 1), .int (nI n), .int (nI i), .int 61, .int (nI pl), .int (nI dg)])), (x 1, .inl (ca 1, 60, .inl (fun k => nI (g k))))]) hN hA rfl
    refine lv_aload_n hx hb dX5_readNext_137 rfl (lv_at hl 1 rfl) ?_
    refine zcw (As := []) (rest := []) (st1 := [.int (zb ((zRp g n i pl).1))]) (q0 := 0) (lw := [x 0, x 1]) S (c_X5_readPlace l D ca x g n i 61 pl dg (by omega) hg (by omega)  (znd_pick hN [0, 1] rfl rfl)) ml_X5_45 zy_X5_readPlace im_X5_readPlace se_X5_readPlace ⟨Nat.le_of_ble_eq_true rfl, Nat.le_of_ble_eq_true rfl⟩ hK hP hD hS [0, 1] rfl rfl rfl rfl rfl rfl rfl hl.1 rfl rfl (Nat.le_of_ble_eq_true rfl) ⟨Nat.zero_le _, Nat.zero_le _⟩ dX5_readNext_138 (fun H locs hP hS => ?_)
    have hP : va_P D vwCl [(x 0, .inr (5, [.ref (x 1), .int (nI n), .int (nI ((zRp g n i pl).2.1)), .int 61, .int (nI ((zRp g n i pl).2.2)), .int (nI dg)])), (x 1, .inl (ca 1, 60, .inl (fun k => nI (g k))))] H := hP
    have hD := zDto (ws := [(x 0, .inr (5, [.ref (x 1), .int (nI n), .int (nI ((zRp g n i pl).2.1)), .int 61, .int (nI ((zRp g n i pl).2.2)), .int (nI dg)])), (x 1, .inl (ca 1, 60, .inl (fun k => nI (g k))))]) hN hA rfl
    have hzle := zRp_le (g := g) (n := n) (i := i) (pl := pl) (by omega)
    refine zz_eq (tgt := 166) hx hb dX5_readNext_141 (by decide) (fun c_141_5 => ?_) (fun c_141_5 => ?_)
    · refine lv_iconst (v := 0) hx hb dX5_readNext_166 (by decide) ?_
      have hz : zRn g n i q pl dg = (false, ((zRp g n i pl).2.1, 61, (zRp g n i pl).2.2, dg)) := by first | (rw [zRn, if_pos (by assumption)]; simp [zRb, w_28_2, w_28_3, w_28_4, c_141_5]; done) | (rw [zRn, if_neg (by assumption)]; simp [zRb, w_28_2, w_28_3, w_28_4, c_141_5])
      exact zw_z hx hb hr hlk hP hS ⟨by rw [hz] <;> rfl, by rw [hz] <;> rfl⟩ dX5_readNext_167
    · refine lv_aload_n hx hb dX5_readNext_144 rfl (lv_at hl 1 rfl) ?_
      refine lv_bipush (v := 61) hx hb dX5_readNext_145 (by decide) ?_
      refine zcw (As := [.int 61]) (rest := []) (st1 := [.int (zb ((zRs g n ((zRp g n i pl).2.1) 61).1))]) (q0 := 0) (lw := [x 0, x 1]) S (c_X5_readSign l D ca x g n ((zRp g n i pl).2.1) 61 ((zRp g n i pl).2.2) dg (by omega) hg (by omega) 61 (by omega) (by omega) (znd_pick hN [0, 1] rfl rfl)) ml_X5_29 zy_X5_readSign im_X5_readSign se_X5_readSign ⟨Nat.le_of_ble_eq_true rfl, Nat.le_of_ble_eq_true rfl⟩ hK hP hD hS [0, 1] rfl rfl rfl rfl rfl rfl rfl hl.1 rfl rfl (Nat.le_of_ble_eq_true rfl) ⟨Nat.zero_le _, Nat.zero_le _⟩ dX5_readNext_147 (fun H locs hP hS => ?_)
      have hP : va_P D vwCl [(x 0, .inr (5, [.ref (x 1), .int (nI n), .int (nI ((zRs g n ((zRp g n i pl).2.1) 61).2)), .int 61, .int (nI ((zRp g n i pl).2.2)), .int (nI dg)])), (x 1, .inl (ca 1, 60, .inl (fun k => nI (g k))))] H := hP
      have hD := zDto (ws := [(x 0, .inr (5, [.ref (x 1), .int (nI n), .int (nI ((zRs g n ((zRp g n i pl).2.1) 61).2)), .int 61, .int (nI ((zRp g n i pl).2.2)), .int (nI dg)])), (x 1, .inl (ca 1, 60, .inl (fun k => nI (g k))))]) hN hA rfl
      have hzle := zRs_le (g := g) (n := n) (i := (zRp g n i pl).2.1) (d := 61) (by omega) (by omega)
      refine zz_eq (tgt := 166) hx hb dX5_readNext_150 (by decide) (fun c_150_6 => ?_) (fun c_150_6 => ?_)
      · refine lv_iconst (v := 0) hx hb dX5_readNext_166 (by decide) ?_
        have hz : zRn g n i q pl dg = (false, ((zRs g n ((zRp g n i pl).2.1) 61).2, 61, (zRp g n i pl).2.2, dg)) := by first | (rw [zRn, if_pos (by assumption)]; simp [zRb, w_28_2, w_28_3, w_28_4, c_141_5, c_150_6]; done) | (rw [zRn, if_neg (by assumption)]; simp [zRb, w_28_2, w_28_3, w_28_4, c_141_5, c_150_6])
        exact zw_z hx hb hr hlk hP hS ⟨by rw [hz] <;> rfl, by rw [hz] <;> rfl⟩ dX5_readNext_167
      · refine lv_aload_n hx hb dX5_readNext_153 rfl (lv_at hl 1 rfl) ?_
        refine lv_bipush (v := 10) hx hb dX5_readNext_154 (by decide) ?_
        refine zcw (As := [.int 10]) (rest := []) (st1 := [.int (zb ((zRd g n ((zRs g n ((zRp g n i pl).2.1) 61).2) dg 10).1))]) (q0 := 0) (lw := [x 0, x 1]) S (c_X5_readDigit l D ca x g n ((zRs g n ((zRp g n i pl).2.1) 61).2) 61 ((zRp g n i pl).2.2) dg (by omega) hg (by omega) 10 (by omega) (znd_pick hN [0, 1] rfl rfl)) ml_X5_41 zy_X5_readDigit im_X5_readDigit se_X5_readDigit ⟨Nat.le_of_ble_eq_true rfl, Nat.le_of_ble_eq_true rfl⟩ hK hP hD hS [0, 1] rfl rfl rfl rfl rfl rfl rfl hl.1 rfl rfl (Nat.le_of_ble_eq_true rfl) ⟨Nat.zero_le _, Nat.zero_le _⟩ dX5_readNext_156 (fun H locs hP hS => ?_)
        have hP : va_P D vwCl [(x 0, .inr (5, [.ref (x 1), .int (nI n), .int (nI ((zRd g n ((zRs g n ((zRp g n i pl).2.1) 61).2) dg 10).2.1)), .int 61, .int (nI ((zRp g n i pl).2.2)), .int (nI ((zRd g n ((zRs g n ((zRp g n i pl).2.1) 61).2) dg 10).2.2))])), (x 1, .inl (ca 1, 60, .inl (fun k => nI (g k))))] H := hP
        have hD := zDto (ws := [(x 0, .inr (5, [.ref (x 1), .int (nI n), .int (nI ((zRd g n ((zRs g n ((zRp g n i pl).2.1) 61).2) dg 10).2.1)), .int 61, .int (nI ((zRp g n i pl).2.2)), .int (nI ((zRd g n ((zRs g n ((zRp g n i pl).2.1) 61).2) dg 10).2.2))])), (x 1, .inl (ca 1, 60, .inl (fun k => nI (g k))))]) hN hA rfl
        have hzle := zRd_le (g := g) (n := n) (i := (zRs g n ((zRp g n i pl).2.1) 61).2) (dg := dg) (e := 10) (by omega)
        refine zz_eq (tgt := 166) hx hb dX5_readNext_159 (by decide) (fun c_159_7 => ?_) (fun c_159_7 => ?_)
        · refine lv_iconst (v := 0) hx hb dX5_readNext_166 (by decide) ?_
          have hz : zRn g n i q pl dg = (false, ((zRd g n ((zRs g n ((zRp g n i pl).2.1) 61).2) dg 10).2.1, 61, (zRp g n i pl).2.2, (zRd g n ((zRs g n ((zRp g n i pl).2.1) 61).2) dg 10).2.2)) := by first | (rw [zRn, if_pos (by assumption)]; simp [zRb, w_28_2, w_28_3, w_28_4, c_141_5, c_150_6, c_159_7]; done) | (rw [zRn, if_neg (by assumption)]; simp [zRb, w_28_2, w_28_3, w_28_4, c_141_5, c_150_6, c_159_7])
          exact zw_z hx hb hr hlk hP hS ⟨by rw [hz] <;> rfl, by rw [hz] <;> rfl⟩ dX5_readNext_167
        · refine lv_iconst (v := 1) hx hb dX5_readNext_162 (by decide) ?_
          refine lv_goto (tgt := 167) hx hb dX5_readNext_163 (by decide) ?_
          have hz : zRn g n i q pl dg = (true, ((zRd g n ((zRs g n ((zRp g n i pl).2.1) 61).2) dg 10).2.1, 61, (zRp g n i pl).2.2, (zRd g n ((zRs g n ((zRp g n i pl).2.1) 61).2) dg 10).2.2)) := by first | (rw [zRn, if_pos (by assumption)]; simp [zRb, w_28_2, w_28_3, w_28_4, c_141_5, c_150_6, c_159_7]; done) | (rw [zRn, if_neg (by assumption)]; simp [zRb, w_28_2, w_28_3, w_28_4, c_141_5, c_150_6, c_159_7])
          exact zw_z hx hb hr hlk hP hS ⟨by rw [hz] <;> rfl, by rw [hz] <;> rfl⟩ dX5_readNext_167
  · refine lv_aload_n hx hb dX5_readNext_7 rfl (lv_at hl 0 rfl) ?_
    refine lv_bipush (v := 44) hx hb dX5_readNext_8 (by decide) ?_
    refine zcw (As := [.int 44]) (rest := []) (st1 := [.int (zb ((zRs g n i 44).1))]) (q0 := 0) (lw := [x 0, x 1]) S (c_X5_readSign l D ca x g n i q pl dg (by omega) hg (by omega) 44 (by omega) (by omega) (znd_pick hN [0, 1] rfl rfl)) ml_X5_29 zy_X5_readSign im_X5_readSign se_X5_readSign ⟨Nat.le_of_ble_eq_true rfl, Nat.le_of_ble_eq_true rfl⟩ hK hP hD hS [0, 1] rfl rfl rfl rfl rfl rfl rfl hl.1 rfl rfl (Nat.le_of_ble_eq_true rfl) ⟨Nat.zero_le _, Nat.zero_le _⟩ dX5_readNext_10 (fun H locs hP hS => ?_)
    have hP : va_P D vwCl [(x 0, .inr (5, [.ref (x 1), .int (nI n), .int (nI ((zRs g n i 44).2)), .int (nI q), .int (nI pl), .int (nI dg)])), (x 1, .inl (ca 1, 60, .inl (fun k => nI (g k))))] H := hP
    have hD := zDto (ws := [(x 0, .inr (5, [.ref (x 1), .int (nI n), .int (nI ((zRs g n i 44).2)), .int (nI q), .int (nI pl), .int (nI dg)])), (x 1, .inl (ca 1, 60, .inl (fun k => nI (g k))))]) hN hA rfl
    have hzle := zRs_le (g := g) (n := n) (i := i) (d := 44) (by omega) (by omega)
    refine zz_ne (tgt := 18) hx hb dX5_readNext_13 (by decide) (fun c_13_8 => ?_) (fun c_13_8 => ?_)
    · refine lv_aload_n hx hb dX5_readNext_18 rfl (lv_at hl 0 rfl) ?_
      refine lv_aload_n hx hb dX5_readNext_19 rfl (lv_at hl 0 rfl) ?_
      refine z_get S in_lay_X5 hK hP rfl 0 rfl 2 (by decide) fl_X5_19 rfl rfl dX5_readNext_20 ?_
      refine zcr (As := [.int (nI ((zRs g n i 44).2))]) (rest := []) (q0 := 0) S (c_X5_signAt l D ca x g n ((zRs g n i 44).2) q pl dg (by omega) hg ((zRs g n i 44).2) (by omega)) ml_X5_33 zy_X5_signAt im_X5_signAt se_X5_signAt ⟨Nat.le_of_ble_eq_true rfl, Nat.le_of_ble_eq_true rfl⟩ hK hP [0, 1] rfl rfl rfl rfl rfl hl.1 rfl (Nat.le_of_ble_eq_true rfl) ⟨Nat.zero_le _, Nat.zero_le _⟩ dX5_readNext_23 ?_
      have hsg := zSg_lt (g := g) (n := n) (i := (zRs g n i 44).2) hg
      refine lv_istore_n (lv' := [(1, .int (nI (zSg g n ((zRs g n i 44).2)))), (0, .ref (x 0))]) hx hb dX5_readNext_26 rfl hl (by decide) rfl (fun ls hl => ?_)
      refine lv_iload_n hx hb dX5_readNext_27 rfl (lv_at hl 0 rfl) ?_
      by_cases w_28_9 : zSg g n ((zRs g n i 44).2) = 43
      · refine z_look (x := zSg g n ((zRs g n i 44).2)) (k := 43) hx hb w_28_9 (by decide) dX5_readNext_28 (by decide) rfl (by decide) ?_ (tgt := 64)
        have hzi := zSg_in (g := g) (n := n) (i := (zRs g n i 44).2) (by omega)
        refine lv_aload_n hx hb dX5_readNext_64 rfl (lv_at hl 1 rfl) ?_
        refine lv_bipush (v := 43) hx hb dX5_readNext_65 (by decide) ?_
        refine z_put S in_lay_X5 tyX5_ok nmX5 hK hP hD hS rfl 0 rfl 3 (by decide) fl_X5_37 rfl rfl rfl rfl (Nat.le_of_ble_eq_true rfl) dX5_readNext_67 (fun H locs hP hS => ?_)
        have hP : va_P D vwCl [(x 0, .inr (5, [.ref (x 1), .int (nI n), .int (nI ((zRs g n i 44).2)), .int 43, .int (nI pl), .int (nI dg)])), (x 1, .inl (ca 1, 60, .inl (fun k => nI (g k))))] H := hP
        have hD := zDto (ws := [(x 0, .inr (5, [.ref (x 1), .int (nI n), .int (nI ((zRs g n i 44).2)), .int 43, .int (nI pl), .int (nI dg)])), (x 1, .inl (ca 1, 60, .inl (fun k => nI (g k))))]) hN hA rfl
        refine lv_aload_n hx hb dX5_readNext_70 rfl (lv_at hl 1 rfl) ?_
        refine lv_dup hx hb dX5_readNext_71 rfl ?_
        refine z_get S in_lay_X5 hK hP rfl 0 rfl 2 (by decide) fl_X5_19 rfl rfl dX5_readNext_72 ?_
        refine lv_iconst (v := 1) hx hb dX5_readNext_75 (by decide) ?_
        refine zn_add hx hb (x := (zRs g n i 44).2) (y := 1) (z := ((zRs g n i 44).2) + 1) (by omega) dX5_readNext_76 ?_
        refine z_put S in_lay_X5 tyX5_ok nmX5 hK hP hD hS rfl 0 rfl 2 (by decide) fl_X5_19 rfl rfl rfl rfl (Nat.le_of_ble_eq_true rfl) dX5_readNext_77 (fun H locs hP hS => ?_)
        have hP : va_P D vwCl [(x 0, .inr (5, [.ref (x 1), .int (nI n), .int (nI (((zRs g n i 44).2) + 1)), .int 43, .int (nI pl), .int (nI dg)])), (x 1, .inl (ca 1, 60, .inl (fun k => nI (g k))))] H := hP
        have hD := zDto (ws := [(x 0, .inr (5, [.ref (x 1), .int (nI n), .int (nI (((zRs g n i 44).2) + 1)), .int 43, .int (nI pl), .int (nI dg)])), (x 1, .inl (ca 1, 60, .inl (fun k => nI (g k))))]) hN hA rfl
        refine lv_aload_n hx hb dX5_readNext_80 rfl (lv_at hl 1 rfl) ?_
        refine lv_bipush (v := 10) hx hb dX5_readNext_81 (by decide) ?_
        refine zcw (As := [.int 10]) (rest := []) (st1 := [.int (zb ((zRd g n (((zRs g n i 44).2) + 1) dg 10).1))]) (q0 := 0) (lw := [x 0, x 1]) S (c_X5_readDigit l D ca x g n (((zRs g n i 44).2) + 1) 43 pl dg (by omega) hg (by omega) 10 (by omega) (znd_pick hN [0, 1] rfl rfl)) ml_X5_41 zy_X5_readDigit im_X5_readDigit se_X5_readDigit ⟨Nat.le_of_ble_eq_true rfl, Nat.le_of_ble_eq_true rfl⟩ hK hP hD hS [0, 1] rfl rfl rfl rfl rfl rfl rfl hl.1 rfl rfl (Nat.le_of_ble_eq_true rfl) ⟨Nat.zero_le _, Nat.zero_le _⟩ dX5_readNext_83 (fun H locs hP hS => ?_)
        have hP : va_P D vwCl [(x 0, .inr (5, [.ref (x 1), .int (nI n), .int (nI ((zRd g n (((zRs g n i 44).2) + 1) dg 10).2.1)), .int 43, .int (nI pl), .int (nI ((zRd g n (((zRs g n i 44).2) + 1) dg 10).2.2))])), (x 1, .inl (ca 1, 60, .inl (fun k => nI (g k))))] H := hP
        have hD := zDto (ws := [(x 0, .inr (5, [.ref (x 1), .int (nI n), .int (nI ((zRd g n (((zRs g n i 44).2) + 1) dg 10).2.1)), .int 43, .int (nI pl), .int (nI ((zRd g n (((zRs g n i 44).2) + 1) dg 10).2.2))])), (x 1, .inl (ca 1, 60, .inl (fun k => nI (g k))))]) hN hA rfl
        have hzle := zRd_le (g := g) (n := n) (i := ((zRs g n i 44).2) + 1) (dg := dg) (e := 10) (by omega)
        have hz : zRn g n i q pl dg = ((zRd g n (((zRs g n i 44).2) + 1) dg 10).1, ((zRd g n (((zRs g n i 44).2) + 1) dg 10).2.1, 43, pl, (zRd g n (((zRs g n i 44).2) + 1) dg 10).2.2)) := by first | (rw [zRn, if_pos (by assumption)]; simp [zRb, c_13_8, w_28_9]; done) | (rw [zRn, if_neg (by assumption)]; simp [zRb, c_13_8, w_28_9])
        exact zw_z hx hb hr hlk hP hS ⟨by rw [hz] <;> rfl, by rw [hz] <;> rfl⟩ dX5_readNext_86
      by_cases w_28_10 : zSg g n ((zRs g n i 44).2) = 45
      · refine z_look (x := zSg g n ((zRs g n i 44).2)) (k := 45) hx hb w_28_10 (by decide) dX5_readNext_28 (by decide) rfl (by decide) ?_ (tgt := 87)
        have hzi := zSg_in (g := g) (n := n) (i := (zRs g n i 44).2) (by omega)
        refine lv_aload_n hx hb dX5_readNext_87 rfl (lv_at hl 1 rfl) ?_
        refine lv_bipush (v := 45) hx hb dX5_readNext_88 (by decide) ?_
        refine z_put S in_lay_X5 tyX5_ok nmX5 hK hP hD hS rfl 0 rfl 3 (by decide) fl_X5_37 rfl rfl rfl rfl (Nat.le_of_ble_eq_true rfl) dX5_readNext_90 (fun H locs hP hS => ?_)
        have hP : va_P D vwCl [(x 0, .inr (5, [.ref (x 1), .int (nI n), .int (nI ((zRs g n i 44).2)), .int 45, .int (nI pl), .int (nI dg)])), (x 1, .inl (ca 1, 60, .inl (fun k => nI (g k))))] H := hP
        have hD := zDto (ws := [(x 0, .inr (5, [.ref (x 1), .int (nI n), .int (nI ((zRs g n i 44).2)), .int 45, .int (nI pl), .int (nI dg)])), (x 1, .inl (ca 1, 60, .inl (fun k => nI (g k))))]) hN hA rfl
        refine lv_aload_n hx hb dX5_readNext_93 rfl (lv_at hl 1 rfl) ?_
        refine lv_dup hx hb dX5_readNext_94 rfl ?_
        refine z_get S in_lay_X5 hK hP rfl 0 rfl 2 (by decide) fl_X5_19 rfl rfl dX5_readNext_95 ?_
        refine lv_iconst (v := 1) hx hb dX5_readNext_98 (by decide) ?_
        refine zn_add hx hb (x := (zRs g n i 44).2) (y := 1) (z := ((zRs g n i 44).2) + 1) (by omega) dX5_readNext_99 ?_
        refine z_put S in_lay_X5 tyX5_ok nmX5 hK hP hD hS rfl 0 rfl 2 (by decide) fl_X5_19 rfl rfl rfl rfl (Nat.le_of_ble_eq_true rfl) dX5_readNext_100 (fun H locs hP hS => ?_)
        have hP : va_P D vwCl [(x 0, .inr (5, [.ref (x 1), .int (nI n), .int (nI (((zRs g n i 44).2) + 1)), .int 45, .int (nI pl), .int (nI dg)])), (x 1, .inl (ca 1, 60, .inl (fun k => nI (g k))))] H := hP
        have hD := zDto (ws := [(x 0, .inr (5, [.ref (x 1), .int (nI n), .int (nI (((zRs g n i 44).2) + 1)), .int 45, .int (nI pl), .int (nI dg)])), (x 1, .inl (ca 1, 60, .inl (fun k => nI (g k))))]) hN hA rfl
        refine lv_aload_n hx hb dX5_readNext_103 rfl (lv_at hl 1 rfl) ?_
        refine zcw (As := []) (rest := []) (st1 := [.int (zb ((zRp g n (((zRs g n i 44).2) + 1) pl).1))]) (q0 := 0) (lw := [x 0, x 1]) S (c_X5_readPlace l D ca x g n (((zRs g n i 44).2) + 1) 45 pl dg (by omega) hg (by omega)  (znd_pick hN [0, 1] rfl rfl)) ml_X5_45 zy_X5_readPlace im_X5_readPlace se_X5_readPlace ⟨Nat.le_of_ble_eq_true rfl, Nat.le_of_ble_eq_true rfl⟩ hK hP hD hS [0, 1] rfl rfl rfl rfl rfl rfl rfl hl.1 rfl rfl (Nat.le_of_ble_eq_true rfl) ⟨Nat.zero_le _, Nat.zero_le _⟩ dX5_readNext_104 (fun H locs hP hS => ?_)
        have hP : va_P D vwCl [(x 0, .inr (5, [.ref (x 1), .int (nI n), .int (nI ((zRp g n (((zRs g n i 44).2) + 1) pl).2.1)), .int 45, .int (nI ((zRp g n (((zRs g n i 44).2) + 1) pl).2.2)), .int (nI dg)])), (x 1, .inl (ca 1, 60, .inl (fun k => nI (g k))))] H := hP
        have hD := zDto (ws := [(x 0, .inr (5, [.ref (x 1), .int (nI n), .int (nI ((zRp g n (((zRs g n i 44).2) + 1) pl).2.1)), .int 45, .int (nI ((zRp g n (((zRs g n i 44).2) + 1) pl).2.2)), .int (nI dg)])), (x 1, .inl (ca 1, 60, .inl (fun k => nI (g k))))]) hN hA rfl
        have hzle := zRp_le (g := g) (n := n) (i := ((zRs g n i 44).2) + 1) (pl := pl) (by omega)
        have hz : zRn g n i q pl dg = ((zRp g n (((zRs g n i 44).2) + 1) pl).1, ((zRp g n (((zRs g n i 44).2) + 1) pl).2.1, 45, (zRp g n (((zRs g n i 44).2) + 1) pl).2.2, dg)) := by first | (rw [zRn, if_pos (by assumption)]; simp [zRb, c_13_8, w_28_9, w_28_10]; done) | (rw [zRn, if_neg (by assumption)]; simp [zRb, c_13_8, w_28_9, w_28_10])
        exact zw_z hx hb hr hlk hP hS ⟨by rw [hz] <;> rfl, by rw [hz] <;> rfl⟩ dX5_readNext_107
      by_cases w_28_11 : zSg g n ((zRs g n i 44).2) = 126
      · refine z_look (x := zSg g n ((zRs g n i 44).2)) (k := 126) hx hb w_28_11 (by decide) dX5_readNext_28 (by decide) rfl (by decide) ?_ (tgt := 108)
        have hzi := zSg_in (g := g) (n := n) (i := (zRs g n i 44).2) (by omega)
        refine lv_aload_n hx hb dX5_readNext_108 rfl (lv_at hl 1 rfl) ?_
        refine lv_bipush (v := 126) hx hb dX5_readNext_109 (by decide) ?_
        refine z_put S in_lay_X5 tyX5_ok nmX5 hK hP hD hS rfl 0 rfl 3 (by decide) fl_X5_37 rfl rfl rfl rfl (Nat.le_of_ble_eq_true rfl) dX5_readNext_111 (fun H locs hP hS => ?_)
        have hP : va_P D vwCl [(x 0, .inr (5, [.ref (x 1), .int (nI n), .int (nI ((zRs g n i 44).2)), .int 126, .int (nI pl), .int (nI dg)])), (x 1, .inl (ca 1, 60, .inl (fun k => nI (g k))))] H := hP
        have hD := zDto (ws := [(x 0, .inr (5, [.ref (x 1), .int (nI n), .int (nI ((zRs g n i 44).2)), .int 126, .int (nI pl), .int (nI dg)])), (x 1, .inl (ca 1, 60, .inl (fun k => nI (g k))))]) hN hA rfl
        refine lv_aload_n hx hb dX5_readNext_114 rfl (lv_at hl 1 rfl) ?_
        refine lv_dup hx hb dX5_readNext_115 rfl ?_
        refine z_get S in_lay_X5 hK hP rfl 0 rfl 2 (by decide) fl_X5_19 rfl rfl dX5_readNext_116 ?_
        refine lv_iconst (v := 1) hx hb dX5_readNext_119 (by decide) ?_
        refine zn_add hx hb (x := (zRs g n i 44).2) (y := 1) (z := ((zRs g n i 44).2) + 1) (by omega) dX5_readNext_120 ?_
        refine z_put S in_lay_X5 tyX5_ok nmX5 hK hP hD hS rfl 0 rfl 2 (by decide) fl_X5_19 rfl rfl rfl rfl (Nat.le_of_ble_eq_true rfl) dX5_readNext_121 (fun H locs hP hS => ?_)
        have hP : va_P D vwCl [(x 0, .inr (5, [.ref (x 1), .int (nI n), .int (nI (((zRs g n i 44).2) + 1)), .int 126, .int (nI pl), .int (nI dg)])), (x 1, .inl (ca 1, 60, .inl (fun k => nI (g k))))] H := hP
        have hD := zDto (ws := [(x 0, .inr (5, [.ref (x 1), .int (nI n), .int (nI (((zRs g n i 44).2) + 1)), .int 126, .int (nI pl), .int (nI dg)])), (x 1, .inl (ca 1, 60, .inl (fun k => nI (g k))))]) hN hA rfl
        refine lv_aload_n hx hb dX5_readNext_124 rfl (lv_at hl 1 rfl) ?_
        refine lv_bipush (v := 6) hx hb dX5_readNext_125 (by decide) ?_
        refine zcw (As := [.int 6]) (rest := []) (st1 := [.int (zb ((zRd g n (((zRs g n i 44).2) + 1) dg 6).1))]) (q0 := 0) (lw := [x 0, x 1]) S (c_X5_readDigit l D ca x g n (((zRs g n i 44).2) + 1) 126 pl dg (by omega) hg (by omega) 6 (by omega) (znd_pick hN [0, 1] rfl rfl)) ml_X5_41 zy_X5_readDigit im_X5_readDigit se_X5_readDigit ⟨Nat.le_of_ble_eq_true rfl, Nat.le_of_ble_eq_true rfl⟩ hK hP hD hS [0, 1] rfl rfl rfl rfl rfl rfl rfl hl.1 rfl rfl (Nat.le_of_ble_eq_true rfl) ⟨Nat.zero_le _, Nat.zero_le _⟩ dX5_readNext_127 (fun H locs hP hS => ?_)
        have hP : va_P D vwCl [(x 0, .inr (5, [.ref (x 1), .int (nI n), .int (nI ((zRd g n (((zRs g n i 44).2) + 1) dg 6).2.1)), .int 126, .int (nI pl), .int (nI ((zRd g n (((zRs g n i 44).2) + 1) dg 6).2.2))])), (x 1, .inl (ca 1, 60, .inl (fun k => nI (g k))))] H := hP
        have hD := zDto (ws := [(x 0, .inr (5, [.ref (x 1), .int (nI n), .int (nI ((zRd g n (((zRs g n i 44).2) + 1) dg 6).2.1)), .int 126, .int (nI pl), .int (nI ((zRd g n (((zRs g n i 44).2) + 1) dg 6).2.2))])), (x 1, .inl (ca 1, 60, .inl (fun k => nI (g k))))]) hN hA rfl
        have hzle := zRd_le (g := g) (n := n) (i := ((zRs g n i 44).2) + 1) (dg := dg) (e := 6) (by omega)
        have hz : zRn g n i q pl dg = ((zRd g n (((zRs g n i 44).2) + 1) dg 6).1, ((zRd g n (((zRs g n i 44).2) + 1) dg 6).2.1, 126, pl, (zRd g n (((zRs g n i 44).2) + 1) dg 6).2.2)) := by first | (rw [zRn, if_pos (by assumption)]; simp [zRb, c_13_8, w_28_9, w_28_10, w_28_11]; done) | (rw [zRn, if_neg (by assumption)]; simp [zRb, c_13_8, w_28_9, w_28_10, w_28_11])
        exact zw_z hx hb hr hlk hP hS ⟨by rw [hz] <;> rfl, by rw [hz] <;> rfl⟩ dX5_readNext_130
      refine z_look (x := zSg g n ((zRs g n i 44).2)) (k := zSg g n ((zRs g n i 44).2)) (off := 103) hx hb rfl (by omega) dX5_readNext_28 (by decide) (by show Op.lookupswitch.offset [(43, 36), (45, 59), (126, 80)] 103 _ = _; rw [Op.lookupswitch.offset_cons, if_neg (by omega), Op.lookupswitch.offset_cons, if_neg (by omega), Op.lookupswitch.offset_cons, if_neg (by omega)] <;> rfl) (by decide) ?_ (tgt := 131)
      refine lv_aload_n hx hb dX5_readNext_131 rfl (lv_at hl 1 rfl) ?_
      refine lv_bipush (v := 61) hx hb dX5_readNext_132 (by decide) ?_
      refine z_put S in_lay_X5 tyX5_ok nmX5 hK hP hD hS rfl 0 rfl 3 (by decide) fl_X5_37 rfl rfl rfl rfl (Nat.le_of_ble_eq_true rfl) dX5_readNext_134 (fun H locs hP hS => ?_)
      have hP : va_P D vwCl [(x 0, .inr (5, [.ref (x 1), .int (nI n), .int (nI ((zRs g n i 44).2)), .int 61, .int (nI pl), .int (nI dg)])), (x 1, .inl (ca 1, 60, .inl (fun k => nI (g k))))] H := hP
      have hD := zDto (ws := [(x 0, .inr (5, [.ref (x 1), .int (nI n), .int (nI ((zRs g n i 44).2)), .int 61, .int (nI pl), .int (nI dg)])), (x 1, .inl (ca 1, 60, .inl (fun k => nI (g k))))]) hN hA rfl
      refine lv_aload_n hx hb dX5_readNext_137 rfl (lv_at hl 1 rfl) ?_
      refine zcw (As := []) (rest := []) (st1 := [.int (zb ((zRp g n ((zRs g n i 44).2) pl).1))]) (q0 := 0) (lw := [x 0, x 1]) S (c_X5_readPlace l D ca x g n ((zRs g n i 44).2) 61 pl dg (by omega) hg (by omega)  (znd_pick hN [0, 1] rfl rfl)) ml_X5_45 zy_X5_readPlace im_X5_readPlace se_X5_readPlace ⟨Nat.le_of_ble_eq_true rfl, Nat.le_of_ble_eq_true rfl⟩ hK hP hD hS [0, 1] rfl rfl rfl rfl rfl rfl rfl hl.1 rfl rfl (Nat.le_of_ble_eq_true rfl) ⟨Nat.zero_le _, Nat.zero_le _⟩ dX5_readNext_138 (fun H locs hP hS => ?_)
      have hP : va_P D vwCl [(x 0, .inr (5, [.ref (x 1), .int (nI n), .int (nI ((zRp g n ((zRs g n i 44).2) pl).2.1)), .int 61, .int (nI ((zRp g n ((zRs g n i 44).2) pl).2.2)), .int (nI dg)])), (x 1, .inl (ca 1, 60, .inl (fun k => nI (g k))))] H := hP
      have hD := zDto (ws := [(x 0, .inr (5, [.ref (x 1), .int (nI n), .int (nI ((zRp g n ((zRs g n i 44).2) pl).2.1)), .int 61, .int (nI ((zRp g n ((zRs g n i 44).2) pl).2.2)), .int (nI dg)])), (x 1, .inl (ca 1, 60, .inl (fun k => nI (g k))))]) hN hA rfl
      have hzle := zRp_le (g := g) (n := n) (i := (zRs g n i 44).2) (pl := pl) (by omega)
      refine zz_eq (tgt := 166) hx hb dX5_readNext_141 (by decide) (fun c_141_12 => ?_) (fun c_141_12 => ?_)
      · refine lv_iconst (v := 0) hx hb dX5_readNext_166 (by decide) ?_
        have hz : zRn g n i q pl dg = (false, ((zRp g n ((zRs g n i 44).2) pl).2.1, 61, (zRp g n ((zRs g n i 44).2) pl).2.2, dg)) := by first | (rw [zRn, if_pos (by assumption)]; simp [zRb, c_13_8, w_28_9, w_28_10, w_28_11, c_141_12]; done) | (rw [zRn, if_neg (by assumption)]; simp [zRb, c_13_8, w_28_9, w_28_10, w_28_11, c_141_12])
        exact zw_z hx hb hr hlk hP hS ⟨by rw [hz] <;> rfl, by rw [hz] <;> rfl⟩ dX5_readNext_167
      · refine lv_aload_n hx hb dX5_readNext_144 rfl (lv_at hl 1 rfl) ?_
        refine lv_bipush (v := 61) hx hb dX5_readNext_145 (by decide) ?_
        refine zcw (As := [.int 61]) (rest := []) (st1 := [.int (zb ((zRs g n ((zRp g n ((zRs g n i 44).2) pl).2.1) 61).1))]) (q0 := 0) (lw := [x 0, x 1]) S (c_X5_readSign l D ca x g n ((zRp g n ((zRs g n i 44).2) pl).2.1) 61 ((zRp g n ((zRs g n i 44).2) pl).2.2) dg (by omega) hg (by omega) 61 (by omega) (by omega) (znd_pick hN [0, 1] rfl rfl)) ml_X5_29 zy_X5_readSign im_X5_readSign se_X5_readSign ⟨Nat.le_of_ble_eq_true rfl, Nat.le_of_ble_eq_true rfl⟩ hK hP hD hS [0, 1] rfl rfl rfl rfl rfl rfl rfl hl.1 rfl rfl (Nat.le_of_ble_eq_true rfl) ⟨Nat.zero_le _, Nat.zero_le _⟩ dX5_readNext_147 (fun H locs hP hS => ?_)
        have hP : va_P D vwCl [(x 0, .inr (5, [.ref (x 1), .int (nI n), .int (nI ((zRs g n ((zRp g n ((zRs g n i 44).2) pl).2.1) 61).2)), .int 61, .int (nI ((zRp g n ((zRs g n i 44).2) pl).2.2)), .int (nI dg)])), (x 1, .inl (ca 1, 60, .inl (fun k => nI (g k))))] H := hP
        have hD := zDto (ws := [(x 0, .inr (5, [.ref (x 1), .int (nI n), .int (nI ((zRs g n ((zRp g n ((zRs g n i 44).2) pl).2.1) 61).2)), .int 61, .int (nI ((zRp g n ((zRs g n i 44).2) pl).2.2)), .int (nI dg)])), (x 1, .inl (ca 1, 60, .inl (fun k => nI (g k))))]) hN hA rfl
        have hzle := zRs_le (g := g) (n := n) (i := (zRp g n ((zRs g n i 44).2) pl).2.1) (d := 61) (by omega) (by omega)
        refine zz_eq (tgt := 166) hx hb dX5_readNext_150 (by decide) (fun c_150_13 => ?_) (fun c_150_13 => ?_)
        · refine lv_iconst (v := 0) hx hb dX5_readNext_166 (by decide) ?_
          have hz : zRn g n i q pl dg = (false, ((zRs g n ((zRp g n ((zRs g n i 44).2) pl).2.1) 61).2, 61, (zRp g n ((zRs g n i 44).2) pl).2.2, dg)) := by first | (rw [zRn, if_pos (by assumption)]; simp [zRb, c_13_8, w_28_9, w_28_10, w_28_11, c_141_12, c_150_13]; done) | (rw [zRn, if_neg (by assumption)]; simp [zRb, c_13_8, w_28_9, w_28_10, w_28_11, c_141_12, c_150_13])
          exact zw_z hx hb hr hlk hP hS ⟨by rw [hz] <;> rfl, by rw [hz] <;> rfl⟩ dX5_readNext_167
        · refine lv_aload_n hx hb dX5_readNext_153 rfl (lv_at hl 1 rfl) ?_
          refine lv_bipush (v := 10) hx hb dX5_readNext_154 (by decide) ?_
          refine zcw (As := [.int 10]) (rest := []) (st1 := [.int (zb ((zRd g n ((zRs g n ((zRp g n ((zRs g n i 44).2) pl).2.1) 61).2) dg 10).1))]) (q0 := 0) (lw := [x 0, x 1]) S (c_X5_readDigit l D ca x g n ((zRs g n ((zRp g n ((zRs g n i 44).2) pl).2.1) 61).2) 61 ((zRp g n ((zRs g n i 44).2) pl).2.2) dg (by omega) hg (by omega) 10 (by omega) (znd_pick hN [0, 1] rfl rfl)) ml_X5_41 zy_X5_readDigit im_X5_readDigit se_X5_readDigit ⟨Nat.le_of_ble_eq_true rfl, Nat.le_of_ble_eq_true rfl⟩ hK hP hD hS [0, 1] rfl rfl rfl rfl rfl rfl rfl hl.1 rfl rfl (Nat.le_of_ble_eq_true rfl) ⟨Nat.zero_le _, Nat.zero_le _⟩ dX5_readNext_156 (fun H locs hP hS => ?_)
          have hP : va_P D vwCl [(x 0, .inr (5, [.ref (x 1), .int (nI n), .int (nI ((zRd g n ((zRs g n ((zRp g n ((zRs g n i 44).2) pl).2.1) 61).2) dg 10).2.1)), .int 61, .int (nI ((zRp g n ((zRs g n i 44).2) pl).2.2)), .int (nI ((zRd g n ((zRs g n ((zRp g n ((zRs g n i 44).2) pl).2.1) 61).2) dg 10).2.2))])), (x 1, .inl (ca 1, 60, .inl (fun k => nI (g k))))] H := hP
          have hD := zDto (ws := [(x 0, .inr (5, [.ref (x 1), .int (nI n), .int (nI ((zRd g n ((zRs g n ((zRp g n ((zRs g n i 44).2) pl).2.1) 61).2) dg 10).2.1)), .int 61, .int (nI ((zRp g n ((zRs g n i 44).2) pl).2.2)), .int (nI ((zRd g n ((zRs g n ((zRp g n ((zRs g n i 44).2) pl).2.1) 61).2) dg 10).2.2))])), (x 1, .inl (ca 1, 60, .inl (fun k => nI (g k))))]) hN hA rfl
          have hzle := zRd_le (g := g) (n := n) (i := (zRs g n ((zRp g n ((zRs g n i 44).2) pl).2.1) 61).2) (dg := dg) (e := 10) (by omega)
          refine zz_eq (tgt := 166) hx hb dX5_readNext_159 (by decide) (fun c_159_14 => ?_) (fun c_159_14 => ?_)
          · refine lv_iconst (v := 0) hx hb dX5_readNext_166 (by decide) ?_
            have hz : zRn g n i q pl dg = (false, ((zRd g n ((zRs g n ((zRp g n ((zRs g n i 44).2) pl).2.1) 61).2) dg 10).2.1, 61, (zRp g n ((zRs g n i 44).2) pl).2.2, (zRd g n ((zRs g n ((zRp g n ((zRs g n i 44).2) pl).2.1) 61).2) dg 10).2.2)) := by first | (rw [zRn, if_pos (by assumption)]; simp [zRb, c_13_8, w_28_9, w_28_10, w_28_11, c_141_12, c_150_13, c_159_14]; done) | (rw [zRn, if_neg (by assumption)]; simp [zRb, c_13_8, w_28_9, w_28_10, w_28_11, c_141_12, c_150_13, c_159_14])
            exact zw_z hx hb hr hlk hP hS ⟨by rw [hz] <;> rfl, by rw [hz] <;> rfl⟩ dX5_readNext_167
          · refine lv_iconst (v := 1) hx hb dX5_readNext_162 (by decide) ?_
            refine lv_goto (tgt := 167) hx hb dX5_readNext_163 (by decide) ?_
            have hz : zRn g n i q pl dg = (true, ((zRd g n ((zRs g n ((zRp g n ((zRs g n i 44).2) pl).2.1) 61).2) dg 10).2.1, 61, (zRp g n ((zRs g n i 44).2) pl).2.2, (zRd g n ((zRs g n ((zRp g n ((zRs g n i 44).2) pl).2.1) 61).2) dg 10).2.2)) := by first | (rw [zRn, if_pos (by assumption)]; simp [zRb, c_13_8, w_28_9, w_28_10, w_28_11, c_141_12, c_150_13, c_159_14]; done) | (rw [zRn, if_neg (by assumption)]; simp [zRb, c_13_8, w_28_9, w_28_10, w_28_11, c_141_12, c_150_13, c_159_14])
            exact zw_z hx hb hr hlk hP hS ⟨by rw [hz] <;> rfl, by rw [hz] <;> rfl⟩ dX5_readNext_167
    · refine lv_iconst (v := 0) hx hb dX5_readNext_16 (by decide) ?_
      have hz : zRn g n i q pl dg = (false, ((zRs g n i 44).2, q, pl, dg)) := by first | (rw [zRn, if_pos (by assumption)]; simp [zRb, c_13_8]; done) | (rw [zRn, if_neg (by assumption)]; simp [zRb, c_13_8])
      exact zw_z hx hb hr hlk hP hS ⟨by rw [hz] <;> rfl, by rw [hz] <;> rfl⟩ dX5_readNext_17
set_option maxHeartbeats 4000000 in
set_option maxRecDepth 100000 in
theorem c_X5_rewind (l : Launch) (D : va_G) (ca : Nat → ClassId) (x : Nat → Nat) (g : Nat → Nat) (n i q pl dg : Nat) (hn : n ≤ 60) (hg : ∀ k, g k < 128) (hN : [x 0, x 1].Nodup) : zMw l yX5_rewind cX5_rewind 1 none 0 0 D ca [(x 0, .inr (5, [.ref (x 1), .int (nI n), .int (nI i), .int (nI q), .int (nI pl), .int (nI dg)])), (x 1, .inl (ca 1, 60, .inl (fun k => nI (g k))))] ([(x 0, .inr (5, [.ref (x 1), .int (nI n), .int 0, .int (nI q), .int (nI pl), .int (nI dg)])), (x 1, .inl (ca 1, 60, .inl (fun k => nI (g k))))]) [.ref (x 0)] none := by
  refine zMw_of (own := RX5) (by decide) rfl (Nat.le_of_ble_eq_true rfl) ?_
  intro p e s m args below meth c ls S hr hlk hP hK hl hS
  have hP : va_P D vwCl [(x 0, .inr (5, [.ref (x 1), .int (nI n), .int (nI i), .int (nI q), .int (nI pl), .int (nI dg)])), (x 1, .inl (ca 1, 60, .inl (fun k => nI (g k))))] s.heap := hP
  have hS : va_S (zA [x 0, x 1]) s.heap s.heap [] := hS
  have hA : ∀ q ∈ [x 0, x 1], zA [x 0, x 1] q := fun _ h => h
  have hD := zDto (ws := [(x 0, .inr (5, [.ref (x 1), .int (nI n), .int (nI i), .int (nI q), .int (nI pl), .int (nI dg)])), (x 1, .inl (ca 1, 60, .inl (fun k => nI (g k))))]) hN hA rfl
  have hx := S.1
  have hb := S.2.1
  have hl : lv_has ls 1 [(0, .ref (x 0))] := hl
  refine lv_aload_n hx hb dX5_rewind_0 rfl (lv_at hl 0 rfl) ?_
  refine lv_iconst (v := 0) hx hb dX5_rewind_1 (by decide) ?_
  refine z_put S in_lay_X5 tyX5_ok nmX5 hK hP hD hS rfl 0 rfl 2 (by decide) fl_X5_19 rfl rfl rfl rfl (Nat.le_of_ble_eq_true rfl) dX5_rewind_2 (fun H locs hP hS => ?_)
  have hP : va_P D vwCl [(x 0, .inr (5, [.ref (x 1), .int (nI n), .int 0, .int (nI q), .int (nI pl), .int (nI dg)])), (x 1, .inl (ca 1, 60, .inl (fun k => nI (g k))))] H := hP
  have hD := zDto (ws := [(x 0, .inr (5, [.ref (x 1), .int (nI n), .int 0, .int (nI q), .int (nI pl), .int (nI dg)])), (x 1, .inl (ca 1, 60, .inl (fun k => nI (g k))))]) hN hA rfl
  exact zw_v hx hb hr hlk hP hS (by rfl) dX5_rewind_5
set_option maxHeartbeats 4000000 in
set_option maxRecDepth 100000 in
theorem c_X5_wipe (l : Launch) (D : va_G) (ca : Nat → ClassId) (x : Nat → Nat) (g : Nat → Nat) (n i q pl dg : Nat) (hn : n ≤ 60) (hg : ∀ k, g k < 128) (hN : [x 0, x 1].Nodup) : zMw l yX5_wipe cX5_wipe 2 (some .int) 0 0 D ca [(x 0, .inr (5, [.ref (x 1), .int (nI n), .int (nI i), .int (nI q), .int (nI pl), .int (nI dg)])), (x 1, .inl (ca 1, 60, .inl (fun k => nI (g k))))] ([(x 0, .inr (5, [.ref (x 1), .int 0, .int (nI i), .int (nI q), .int (nI pl), .int (nI dg)])), (x 1, .inl (ca 1, 60, .inl (fun k => nI (g k))))]) [.ref (x 0)] (some (.int (nI n))) := by
  refine zMw_of (own := RX5) (by decide) rfl (Nat.le_of_ble_eq_true rfl) ?_
  intro p e s m args below meth c ls S hr hlk hP hK hl hS
  have hP : va_P D vwCl [(x 0, .inr (5, [.ref (x 1), .int (nI n), .int (nI i), .int (nI q), .int (nI pl), .int (nI dg)])), (x 1, .inl (ca 1, 60, .inl (fun k => nI (g k))))] s.heap := hP
  have hS : va_S (zA [x 0, x 1]) s.heap s.heap [] := hS
  have hA : ∀ q ∈ [x 0, x 1], zA [x 0, x 1] q := fun _ h => h
  have hD := zDto (ws := [(x 0, .inr (5, [.ref (x 1), .int (nI n), .int (nI i), .int (nI q), .int (nI pl), .int (nI dg)])), (x 1, .inl (ca 1, 60, .inl (fun k => nI (g k))))]) hN hA rfl
  have hx := S.1
  have hb := S.2.1
  have hl : lv_has ls 2 [(0, .ref (x 0))] := hl
  refine lv_aload_n hx hb dX5_wipe_0 rfl (lv_at hl 0 rfl) ?_
  refine z_get S in_lay_X5 hK hP rfl 0 rfl 1 (by decide) fl_X5_15 rfl rfl dX5_wipe_1 ?_
  refine lv_istore_n (lv' := [(1, .int (nI n)), (0, .ref (x 0))]) hx hb dX5_wipe_4 rfl hl (by decide) rfl (fun ls hl => ?_)
  refine lv_aload_n hx hb dX5_wipe_5 rfl (lv_at hl 1 rfl) ?_
  refine lv_iconst (v := 0) hx hb dX5_wipe_6 (by decide) ?_
  refine z_put S in_lay_X5 tyX5_ok nmX5 hK hP hD hS rfl 0 rfl 1 (by decide) fl_X5_15 rfl rfl rfl rfl (Nat.le_of_ble_eq_true rfl) dX5_wipe_7 (fun H locs hP hS => ?_)
  have hP : va_P D vwCl [(x 0, .inr (5, [.ref (x 1), .int 0, .int (nI i), .int (nI q), .int (nI pl), .int (nI dg)])), (x 1, .inl (ca 1, 60, .inl (fun k => nI (g k))))] H := hP
  have hD := zDto (ws := [(x 0, .inr (5, [.ref (x 1), .int 0, .int (nI i), .int (nI q), .int (nI pl), .int (nI dg)])), (x 1, .inl (ca 1, 60, .inl (fun k => nI (g k))))]) hN hA rfl
  refine lv_iload_n hx hb dX5_wipe_10 rfl (lv_at hl 0 rfl) ?_
  exact zw_i hx hb hr hlk hP hS ⟨by rfl, by rfl⟩ dX5_wipe_11
set_option maxHeartbeats 4000000 in
set_option maxRecDepth 100000 in
theorem c_X5_readAll (l : Launch) (D : va_G) (ca : Nat → ClassId) (x : Nat → Nat) (g : Nat → Nat) (n i q pl dg : Nat) (hn : n ≤ 60) (hg : ∀ k, g k < 128) (hN : [x 0, x 1].Nodup) : zMw l yX5_readAll cX5_readAll 3 (some .boolean) 4 85 D ca [(x 0, .inr (5, [.ref (x 1), .int (nI n), .int (nI i), .int (nI q), .int (nI pl), .int (nI dg)])), (x 1, .inl (ca 1, 60, .inl (fun k => nI (g k))))] ([(x 0, .inr (5, [.ref (x 1), .int (nI n), .int (nI ((zRa g n q pl dg).2.1)), .int (nI ((zRa g n q pl dg).2.2.1)), .int (nI ((zRa g n q pl dg).2.2.2.1)), .int (nI ((zRa g n q pl dg).2.2.2.2))])), (x 1, .inl (ca 1, 60, .inl (fun k => nI (g k))))]) [.ref (x 0)] (some (.int (zb ((zRa g n q pl dg).1)))) := by
  refine zMw_of (own := RX5) (by decide) rfl (Nat.le_of_ble_eq_true rfl) ?_
  intro p e s m args below meth c ls S hr hlk hP hK hl hS
  have hP : va_P D vwCl [(x 0, .inr (5, [.ref (x 1), .int (nI n), .int (nI i), .int (nI q), .int (nI pl), .int (nI dg)])), (x 1, .inl (ca 1, 60, .inl (fun k => nI (g k))))] s.heap := hP
  have hS : va_S (zA [x 0, x 1]) s.heap s.heap [] := hS
  have hA : ∀ q ∈ [x 0, x 1], zA [x 0, x 1] q := fun _ h => h
  have hD := zDto (ws := [(x 0, .inr (5, [.ref (x 1), .int (nI n), .int (nI i), .int (nI q), .int (nI pl), .int (nI dg)])), (x 1, .inl (ca 1, 60, .inl (fun k => nI (g k))))]) hN hA rfl
  have hx := S.1
  have hb := S.2.1
  have hl : lv_has ls 3 [(0, .ref (x 0))] := hl
  refine lv_aload_n hx hb dX5_readAll_0 rfl (lv_at hl 0 rfl) ?_
  refine zcw (As := []) (rest := []) (st1 := []) (q0 := 0) (lw := [x 0, x 1]) S (c_X5_rewind l D ca x g n i q pl dg (by omega) hg  (znd_pick hN [0, 1] rfl rfl)) ml_X5_22 zy_X5_rewind im_X5_rewind se_X5_rewind ⟨Nat.le_of_ble_eq_true rfl, Nat.le_of_ble_eq_true rfl⟩ hK hP hD hS [0, 1] rfl rfl rfl rfl rfl rfl rfl hl.1 rfl rfl (Nat.le_of_ble_eq_true rfl) ⟨Nat.zero_le _, Nat.zero_le _⟩ dX5_readAll_1 (fun H locs hP hS => ?_)
  have hP : va_P D vwCl [(x 0, .inr (5, [.ref (x 1), .int (nI n), .int 0, .int (nI q), .int (nI pl), .int (nI dg)])), (x 1, .inl (ca 1, 60, .inl (fun k => nI (g k))))] H := hP
  have hD := zDto (ws := [(x 0, .inr (5, [.ref (x 1), .int (nI n), .int 0, .int (nI q), .int (nI pl), .int (nI dg)])), (x 1, .inl (ca 1, 60, .inl (fun k => nI (g k))))]) hN hA rfl
  refine lv_aload_n hx hb dX5_readAll_4 rfl (lv_at hl 0 rfl) ?_
  refine zcw (As := []) (rest := []) (st1 := [.int (zb ((zRn g n 0 q pl dg).1))]) (q0 := 0) (lw := [x 0, x 1]) S (c_X5_readNext l D ca x g n 0 q pl dg (by omega) hg (by omega)  (znd_pick hN [0, 1] rfl rfl)) ml_X5_25 zy_X5_readNext im_X5_readNext se_X5_readNext ⟨Nat.le_of_ble_eq_true rfl, Nat.le_of_ble_eq_true rfl⟩ hK hP hD hS [0, 1] rfl rfl rfl rfl rfl rfl rfl hl.1 rfl rfl (Nat.le_of_ble_eq_true rfl) ⟨Nat.zero_le _, Nat.zero_le _⟩ dX5_readAll_5 (fun H locs hP hS => ?_)
  have hP : va_P D vwCl [(x 0, .inr (5, [.ref (x 1), .int (nI n), .int (nI ((zRn g n 0 q pl dg).2.1)), .int (nI ((zRn g n 0 q pl dg).2.2.1)), .int (nI ((zRn g n 0 q pl dg).2.2.2.1)), .int (nI ((zRn g n 0 q pl dg).2.2.2.2))])), (x 1, .inl (ca 1, 60, .inl (fun k => nI (g k))))] H := hP
  have hD := zDto (ws := [(x 0, .inr (5, [.ref (x 1), .int (nI n), .int (nI ((zRn g n 0 q pl dg).2.1)), .int (nI ((zRn g n 0 q pl dg).2.2.1)), .int (nI ((zRn g n 0 q pl dg).2.2.2.1)), .int (nI ((zRn g n 0 q pl dg).2.2.2.2))])), (x 1, .inl (ca 1, 60, .inl (fun k => nI (g k))))]) hN hA rfl
  have hzle := zRn_le (g := g) (n := n) (i := 0) (q := q) (pl := pl) (dg := dg) (by omega)
  refine lv_istore_n (lv' := [(1, .int (zb ((zRn g n 0 q pl dg).1))), (0, .ref (x 0))]) hx hb dX5_readAll_8 rfl hl (by decide) rfl (fun ls hl => ?_)
  refine lv_iconst (v := 1) hx hb dX5_readAll_9 (by decide) ?_
  refine lv_istore_n (lv' := [(2, .int 1), (1, .int (zb ((zRn g n 0 q pl dg).1))), (0, .ref (x 0))]) hx hb dX5_readAll_10 rfl hl (by decide) rfl (fun ls hl => ?_)
  have loop_0 : ∀ (f : Nat) (k : Nat) (w : Bool) (i0 : Nat) (q0 : Nat) (p0 : Nat) (d0 : Nat) (H : Heap) (locs : List Loc) (ls : Array Slot), k + f = 60 → i0 ≤ n → zRa g n q pl dg = zraF g n f w (i0, q0, p0, d0) → lv_has ls 3 [(0, .ref (x 0)), (1, .int (zb w)), (2, .int (nI k))] → va_P D vwCl [(x 0, .inr (5, [.ref (x 1), .int (nI n), .int (nI i0), .int (nI q0), .int (nI p0), .int (nI d0)])), (x 1, .inl (ca 1, 60, .inl (fun k => nI (g k))))] H → va_S (zA [x 0, x 1]) s.heap H locs → W p l e { frames := 4, cells := 0, slots := 0, locals := 85 } s m args below meth c H locs 0 0 (MQ below (zQw D [x 0, x 1] ([(x 0, .inr (5, [.ref (x 1), .int (nI n), .int (nI ((zRa g n q pl dg).2.1)), .int (nI ((zRa g n q pl dg).2.2.1)), .int (nI ((zRa g n q pl dg).2.2.2.1)), .int (nI ((zRa g n q pl dg).2.2.2.2))])), (x 1, .inl (ca 1, 60, .inl (fun k => nI (g k))))]) (some (.int (zb ((zRa g n q pl dg).1))))) args s 0 0 (zA [x 0, x 1])) (F0 m 11 ls []) := by
    intro f
    induction f with
    | zero =>
      intro k w i0 q0 p0 d0 H locs ls j1 j3 j2 hl hP hS
      have hD := zDto (ws := [(x 0, .inr (5, [.ref (x 1), .int (nI n), .int (nI i0), .int (nI q0), .int (nI p0), .int (nI d0)])), (x 1, .inl (ca 1, 60, .inl (fun k => nI (g k))))]) hN hA rfl
      refine lv_iload_n hx hb dX5_readAll_11 rfl (lv_at hl 1 rfl) ?_
      refine zz_eq (tgt := 43) hx hb dX5_readAll_12 (by decide) (fun c_12_2 => ?_) (fun c_12_2 => ?_)
      · refine lv_iload_n hx hb dX5_readAll_43 rfl (lv_at hl 1 rfl) ?_
        have hz : zRa g n q pl dg = (w, (i0, q0, p0, d0)) := by rw [j2]; first | rfl | simp [zraF, c_12_2]
        exact zw_z hx hb hr hlk hP hS ⟨by rw [hz] <;> rfl, by rw [hz] <;> rfl⟩ dX5_readAll_44
      · refine lv_aload_n hx hb dX5_readAll_15 rfl (lv_at hl 0 rfl) ?_
        refine z_get S in_lay_X5 hK hP rfl 0 rfl 2 (by decide) fl_X5_19 rfl rfl dX5_readAll_16 ?_
        refine lv_aload_n hx hb dX5_readAll_19 rfl (lv_at hl 0 rfl) ?_
        refine z_get S in_lay_X5 hK hP rfl 0 rfl 1 (by decide) fl_X5_15 rfl rfl dX5_readAll_20 ?_
        refine zn_ge hx hb (x := i0) (y := n) (by omega) (by omega) (tgt := 43) dX5_readAll_23 (by decide) (fun c_23_3 => ?_) (fun c_23_3 => ?_)
        · refine lv_iload_n hx hb dX5_readAll_43 rfl (lv_at hl 1 rfl) ?_
          have hz : zRa g n q pl dg = (w, (i0, q0, p0, d0)) := by rw [j2]; first | rfl | simp [zraF, c_12_2, c_23_3]
          exact zw_z hx hb hr hlk hP hS ⟨by rw [hz] <;> rfl, by rw [hz] <;> rfl⟩ dX5_readAll_44
        · refine lv_iload_n hx hb dX5_readAll_26 rfl (lv_at hl 2 rfl) ?_
          refine lv_bipush (v := 60) hx hb dX5_readAll_27 (by decide) ?_
          refine zn_ge hx hb (x := k) (y := 60) (by omega) (by omega) (tgt := 43) dX5_readAll_29 (by decide) (fun c_29_4 => ?_) (fun h => False.elim (by omega))
          refine lv_iload_n hx hb dX5_readAll_43 rfl (lv_at hl 1 rfl) ?_
          have hz : zRa g n q pl dg = (w, (i0, q0, p0, d0)) := by rw [j2]; first | rfl | simp [zraF, c_12_2, c_23_3, c_29_4]
          exact zw_z hx hb hr hlk hP hS ⟨by rw [hz] <;> rfl, by rw [hz] <;> rfl⟩ dX5_readAll_44
    | succ f ih =>
      intro k w i0 q0 p0 d0 H locs ls j1 j3 j2 hl hP hS
      have hD := zDto (ws := [(x 0, .inr (5, [.ref (x 1), .int (nI n), .int (nI i0), .int (nI q0), .int (nI p0), .int (nI d0)])), (x 1, .inl (ca 1, 60, .inl (fun k => nI (g k))))]) hN hA rfl
      refine lv_iload_n hx hb dX5_readAll_11 rfl (lv_at hl 1 rfl) ?_
      refine zz_eq (tgt := 43) hx hb dX5_readAll_12 (by decide) (fun c_12_5 => ?_) (fun c_12_5 => ?_)
      · refine lv_iload_n hx hb dX5_readAll_43 rfl (lv_at hl 1 rfl) ?_
        have hz : zRa g n q pl dg = (w, (i0, q0, p0, d0)) := by rw [j2]; first | rfl | simp [zraF, c_12_5]
        exact zw_z hx hb hr hlk hP hS ⟨by rw [hz] <;> rfl, by rw [hz] <;> rfl⟩ dX5_readAll_44
      · refine lv_aload_n hx hb dX5_readAll_15 rfl (lv_at hl 0 rfl) ?_
        refine z_get S in_lay_X5 hK hP rfl 0 rfl 2 (by decide) fl_X5_19 rfl rfl dX5_readAll_16 ?_
        refine lv_aload_n hx hb dX5_readAll_19 rfl (lv_at hl 0 rfl) ?_
        refine z_get S in_lay_X5 hK hP rfl 0 rfl 1 (by decide) fl_X5_15 rfl rfl dX5_readAll_20 ?_
        refine zn_ge hx hb (x := i0) (y := n) (by omega) (by omega) (tgt := 43) dX5_readAll_23 (by decide) (fun c_23_6 => ?_) (fun c_23_6 => ?_)
        · refine lv_iload_n hx hb dX5_readAll_43 rfl (lv_at hl 1 rfl) ?_
          have hz : zRa g n q pl dg = (w, (i0, q0, p0, d0)) := by rw [j2]; first | rfl | simp [zraF, c_12_5, c_23_6]
          exact zw_z hx hb hr hlk hP hS ⟨by rw [hz] <;> rfl, by rw [hz] <;> rfl⟩ dX5_readAll_44
        · refine lv_iload_n hx hb dX5_readAll_26 rfl (lv_at hl 2 rfl) ?_
          refine lv_bipush (v := 60) hx hb dX5_readAll_27 (by decide) ?_
          refine zn_ge hx hb (x := k) (y := 60) (by omega) (by omega) (tgt := 43) dX5_readAll_29 (by decide) (fun h => False.elim (by omega)) (fun c_29_7 => ?_)
          refine lv_aload_n hx hb dX5_readAll_32 rfl (lv_at hl 0 rfl) ?_
          refine zcw (As := []) (rest := []) (st1 := [.int (zb ((zRn g n i0 q0 p0 d0).1))]) (q0 := 0) (lw := [x 0, x 1]) S (c_X5_readNext l D ca x g n i0 q0 p0 d0 (by omega) hg (by omega)  (znd_pick hN [0, 1] rfl rfl)) ml_X5_25 zy_X5_readNext im_X5_readNext se_X5_readNext ⟨Nat.le_of_ble_eq_true rfl, Nat.le_of_ble_eq_true rfl⟩ hK hP hD hS [0, 1] rfl rfl rfl rfl rfl rfl rfl hl.1 rfl rfl (Nat.le_of_ble_eq_true rfl) ⟨Nat.zero_le _, Nat.zero_le _⟩ dX5_readAll_33 (fun H locs hP hS => ?_)
          have hP : va_P D vwCl [(x 0, .inr (5, [.ref (x 1), .int (nI n), .int (nI ((zRn g n i0 q0 p0 d0).2.1)), .int (nI ((zRn g n i0 q0 p0 d0).2.2.1)), .int (nI ((zRn g n i0 q0 p0 d0).2.2.2.1)), .int (nI ((zRn g n i0 q0 p0 d0).2.2.2.2))])), (x 1, .inl (ca 1, 60, .inl (fun k => nI (g k))))] H := hP
          have hD := zDto (ws := [(x 0, .inr (5, [.ref (x 1), .int (nI n), .int (nI ((zRn g n i0 q0 p0 d0).2.1)), .int (nI ((zRn g n i0 q0 p0 d0).2.2.1)), .int (nI ((zRn g n i0 q0 p0 d0).2.2.2.1)), .int (nI ((zRn g n i0 q0 p0 d0).2.2.2.2))])), (x 1, .inl (ca 1, 60, .inl (fun k => nI (g k))))]) hN hA rfl
          have hzle := zRn_le (g := g) (n := n) (i := i0) (q := q0) (pl := p0) (dg := d0) (by omega)
          refine lv_istore_n (lv' := [(1, .int (zb ((zRn g n i0 q0 p0 d0).1))), (0, .ref (x 0)), (2, .int (nI k))]) hx hb dX5_readAll_36 rfl hl (by decide) rfl (fun ls hl => ?_)
          refine lv_iinc (v := nI (k + 1)) (lv' := [(2, .int (nI (k + 1))), (1, .int (zb ((zRn g n i0 q0 p0 d0).1))), (0, .ref (x 0))]) hx hb dX5_readAll_37 hl (k := 2) rfl (zinc k 1) (by decide) rfl (fun ls hl => ?_)
          refine lv_goto (tgt := 11) hx hb dX5_readAll_40 (by decide) ?_
          exact ih (k + 1) ((zRn g n i0 q0 p0 d0).1) ((zRn g n i0 q0 p0 d0).2.1) ((zRn g n i0 q0 p0 d0).2.2.1) ((zRn g n i0 q0 p0 d0).2.2.2.1) ((zRn g n i0 q0 p0 d0).2.2.2.2) _ _ ls (by omega) (by omega) (by rw [j2]; simp [zraF, Nat.not_le.mpr, c_12_5, c_23_6, c_29_7]) (lv_sub hl [2, 1, 0] rfl) hP hS
  exact loop_0 59 1 ((zRn g n 0 q pl dg).1) ((zRn g n 0 q pl dg).2.1) ((zRn g n 0 q pl dg).2.2.1) ((zRn g n 0 q pl dg).2.2.2.1) ((zRn g n 0 q pl dg).2.2.2.2) _ _ ls (by omega) (by omega) (by rfl) (lv_sub hl [2, 1, 0] rfl) hP hS
set_option maxHeartbeats 4000000 in
set_option maxRecDepth 100000 in
theorem c_X5_add (l : Launch) (D : va_G) (ca : Nat → ClassId) (x : Nat → Nat) (g : Nat → Nat) (n i q pl dg : Nat) (hn : n < 60) (c0 : Nat) (hc : c0 < 128) (hN : [x 0, x 1].Nodup) : zMw l yX5_add cX5_add 2 (some .int) 0 0 D ca [(x 0, .inr (5, [.ref (x 1), .int (nI n), .int (nI i), .int (nI q), .int (nI pl), .int (nI dg)])), (x 1, .inl (ca 1, 60, .inl (fun k => nI (g k))))] ([(x 0, .inr (5, [.ref (x 1), .int (nI (n + 1)), .int (nI i), .int (nI q), .int (nI pl), .int (nI dg)])), (x 1, .inl (ca 1, 60, .inl (fun k => nI ((va_up g n c0) k))))]) [.ref (x 0), .int (nI c0)] (some (.int (nI (n + 1)))) := by
  refine zMw_of (own := RX5) (by decide) rfl (Nat.le_of_ble_eq_true rfl) ?_
  intro p e s m args below meth c ls S hr hlk hP hK hl hS
  have hP : va_P D vwCl [(x 0, .inr (5, [.ref (x 1), .int (nI n), .int (nI i), .int (nI q), .int (nI pl), .int (nI dg)])), (x 1, .inl (ca 1, 60, .inl (fun k => nI (g k))))] s.heap := hP
  have hS : va_S (zA [x 0, x 1]) s.heap s.heap [] := hS
  have hA : ∀ q ∈ [x 0, x 1], zA [x 0, x 1] q := fun _ h => h
  have hD := zDto (ws := [(x 0, .inr (5, [.ref (x 1), .int (nI n), .int (nI i), .int (nI q), .int (nI pl), .int (nI dg)])), (x 1, .inl (ca 1, 60, .inl (fun k => nI (g k))))]) hN hA rfl
  have hx := S.1
  have hb := S.2.1
  have hl : lv_has ls 2 [(0, .ref (x 0)), (1, .int (nI c0))] := hl
  refine lv_aload_n hx hb dX5_add_0 rfl (lv_at hl 0 rfl) ?_
  refine z_get S in_lay_X5 hK hP rfl 0 rfl 1 (by decide) fl_X5_15 rfl rfl dX5_add_1 ?_
  refine lv_bipush (v := 60) hx hb dX5_add_4 (by decide) ?_
  refine zn_ge hx hb (x := n) (y := 60) (by omega) (by omega) (tgt := 29) dX5_add_6 (by decide) (fun h => False.elim (by omega)) (fun c_6_1 => ?_)
  refine lv_aload_n hx hb dX5_add_9 rfl (lv_at hl 0 rfl) ?_
  refine z_get S in_lay_X5 hK hP rfl 0 rfl 0 (by decide) fl_X5_9 rfl rfl dX5_add_10 ?_
  refine lv_aload_n hx hb dX5_add_13 rfl (lv_at hl 0 rfl) ?_
  refine z_get S in_lay_X5 hK hP rfl 0 rfl 1 (by decide) fl_X5_15 rfl rfl dX5_add_14 ?_
  refine lv_iload_n hx hb dX5_add_17 rfl (lv_at hl 1 rfl) ?_
  refine z_cast S hK hP hD hS 1 rfl (j := n) (by omega) (by decide) (k := c0) (by omega) dX5_add_18 (fun H locs hP hS => ?_)
  have hP : va_P D vwCl [(x 0, .inr (5, [.ref (x 1), .int (nI n), .int (nI i), .int (nI q), .int (nI pl), .int (nI dg)])), (x 1, .inl (ca 1, 60, .inl (upd (fun k => nI (g k)) n (nI c0))))] H := hP
  have hD := zDto (ws := [(x 0, .inr (5, [.ref (x 1), .int (nI n), .int (nI i), .int (nI q), .int (nI pl), .int (nI dg)])), (x 1, .inl (ca 1, 60, .inl (upd (fun k => nI (g k)) n (nI c0))))]) hN hA rfl
  refine lv_aload_n hx hb dX5_add_19 rfl (lv_at hl 0 rfl) ?_
  refine lv_dup hx hb dX5_add_20 rfl ?_
  refine z_get S in_lay_X5 hK hP rfl 0 rfl 1 (by decide) fl_X5_15 rfl rfl dX5_add_21 ?_
  refine lv_iconst (v := 1) hx hb dX5_add_24 (by decide) ?_
  refine zn_add hx hb (x := n) (y := 1) (z := n + 1) (by omega) dX5_add_25 ?_
  refine z_put S in_lay_X5 tyX5_ok nmX5 hK hP hD hS rfl 0 rfl 1 (by decide) fl_X5_15 rfl rfl rfl rfl (Nat.le_of_ble_eq_true rfl) dX5_add_26 (fun H locs hP hS => ?_)
  have hP : va_P D vwCl [(x 0, .inr (5, [.ref (x 1), .int (nI (n + 1)), .int (nI i), .int (nI q), .int (nI pl), .int (nI dg)])), (x 1, .inl (ca 1, 60, .inl (upd (fun k => nI (g k)) n (nI c0))))] H := hP
  have hD := zDto (ws := [(x 0, .inr (5, [.ref (x 1), .int (nI (n + 1)), .int (nI i), .int (nI q), .int (nI pl), .int (nI dg)])), (x 1, .inl (ca 1, 60, .inl (upd (fun k => nI (g k)) n (nI c0))))]) hN hA rfl
  refine lv_aload_n hx hb dX5_add_29 rfl (lv_at hl 0 rfl) ?_
  refine z_get S in_lay_X5 hK hP rfl 0 rfl 1 (by decide) fl_X5_15 rfl rfl dX5_add_30 ?_
  exact zw_i hx hb hr hlk hP hS ⟨by rfl, by rw [zupd_nI g n c0] <;> rfl⟩ dX5_add_33
