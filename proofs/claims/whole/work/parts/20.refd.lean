set_option maxHeartbeats 4000000 in
set_option maxRecDepth 100000 in
theorem c_X7_ifAsked_A1 (l : Launch) (D : va_G) (ca : Nat → ClassId) (o : Nat → Nat) (f2 f3 f4 f5 f6 f7 f8 f9 f10 : Value) (thr : Int32) (sf : Nat → Int32) (t u w z : Int32) (h1 : rIn t 0 (sf 0) = false) (hN : [o 0, o 1].Nodup) : zMw l yX7_ifAsked cX7_ifAsked 6 (some .int) 1 22 D ca [(o 0, .inr (7, [.int thr, .ref (o 1), f2, f3, f4, f5, f6, f7, f8, f9, f10])), (o 1, .inl (ca 0, 99, .inl sf))] ([(o 0, .inr (7, [.int 1, .ref (o 1), f2, f3, f4, f5, f6, f7, f8, f9, f10])), (o 1, .inl (ca 0, 99, .inl sf))]) [.ref (o 0), .int t, .int u, .int w, .int z] (some (.int 0)) := by
  refine zMw_of (own := RX7) (by decide) rfl (Nat.le_of_ble_eq_true rfl) ?_
  intro p e s m args below meth c ls S hr hlk hP hK hl hS
  have hP : va_P D vwCl [(o 0, .inr (7, [.int thr, .ref (o 1), f2, f3, f4, f5, f6, f7, f8, f9, f10])), (o 1, .inl (ca 0, 99, .inl sf))] s.heap := hP
  have hS : va_S (zA [o 0, o 1]) s.heap s.heap [] := hS
  have hA : ∀ q ∈ [o 0, o 1], zA [o 0, o 1] q := fun _ h => h
  have hD := zDto (ws := [(o 0, .inr (7, [.int thr, .ref (o 1), f2, f3, f4, f5, f6, f7, f8, f9, f10])), (o 1, .inl (ca 0, 99, .inl sf))]) hN hA rfl
  have hx := S.1
  have hb := S.2.1
  have hl : lv_has ls 6 [(0, .ref (o 0)), (1, .int t), (2, .int u), (3, .int w), (4, .int z)] := hl
  refine lv_aload_n hx hb dX7_ifAsked_0 rfl (lv_at hl 0 rfl) ?_
  refine lv_iconst (v := 0) hx hb dX7_ifAsked_1 (by decide) ?_
  refine z_put S in_lay_X7 tyX7_ok nmX7 hK hP hD hS rfl 0 rfl 0 (by decide) fl_X7_22 rfl rfl rfl rfl (Nat.le_of_ble_eq_true rfl) dX7_ifAsked_2 (fun H locs hP hS => ?_)
  have hP : va_P D vwCl [(o 0, .inr (7, [.int 0, .ref (o 1), f2, f3, f4, f5, f6, f7, f8, f9, f10])), (o 1, .inl (ca 0, 99, .inl sf))] H := hP
  have hD := zDto (ws := [(o 0, .inr (7, [.int 0, .ref (o 1), f2, f3, f4, f5, f6, f7, f8, f9, f10])), (o 1, .inl (ca 0, 99, .inl sf))]) hN hA rfl
  refine lv_iload_n hx hb dX7_ifAsked_5 rfl (lv_at hl 1 rfl) ?_
  refine lv_iconst (v := 0) hx hb dX7_ifAsked_6 (by decide) ?_
  refine lv_aload_n hx hb dX7_ifAsked_7 rfl (lv_at hl 0 rfl) ?_
  refine z_get S in_lay_X7 hK hP rfl 0 rfl 1 (by decide) fl_X7_7 rfl rfl dX7_ifAsked_8 ?_
  refine lv_iconst (v := 0) hx hb dX7_ifAsked_11 (by decide) ?_
  refine z_iald S hK hP 1 rfl (j := 0) (by omega) (by decide) dX7_ifAsked_12 ?_
  refine zcrS (As := [.int t, .int 0, .int (sf 0)]) (rest := []) S (c_X7_in l D ca t 0 (sf 0)) ml_X7_26 zy_X7_in st_X7_in ⟨Nat.le_of_ble_eq_true rfl, Nat.le_of_ble_eq_true rfl⟩ hK hP [] rfl rfl hl.1 rfl (Nat.le_of_ble_eq_true rfl) ⟨Nat.zero_le _, Nat.zero_le _⟩ dX7_ifAsked_13 ?_
  refine zz_eq (tgt := 52) hx hb dX7_ifAsked_16 (by decide) (fun _ => ?_) (fun h => False.elim (by revert h; intro h; rw [h1] at h; exact absurd h (by decide)))
  refine lv_iconst (v := 0) hx hb dX7_ifAsked_52 (by decide) ?_
  refine lv_istore (lv' := [(5, .int 0), (0, .ref (o 0)), (1, .int t), (2, .int u), (3, .int w), (4, .int z)]) hx hb dX7_ifAsked_53 hl (by decide) rfl (fun ls hl => ?_)
  refine lv_iload hx hb dX7_ifAsked_55 (lv_at hl 0 rfl) ?_
  refine lv_if_ne (tgt := 66) hx hb dX7_ifAsked_57 (by decide) (fun h => absurd (by decide) h) (fun _ => ?_)
  refine lv_aload_n hx hb dX7_ifAsked_60 rfl (lv_at hl 1 rfl) ?_
  refine lv_iconst (v := 1) hx hb dX7_ifAsked_61 (by decide) ?_
  refine zcw (As := [.int 1]) (rest := []) (st1 := [.int 0]) (q0 := 0) (lw := [o 0]) S (c_X7_fails l D ca o (.ref (o 1)) f2 f3 f4 f5 f6 f7 f8 f9 f10 0  1 (znd_pick hN [0] rfl rfl)) ml_X7_67 zy_X7_fails im_X7_fails se_X7_fails ⟨Nat.le_of_ble_eq_true rfl, Nat.le_of_ble_eq_true rfl⟩ hK hP hD hS [0] rfl rfl rfl rfl rfl rfl rfl hl.1 rfl rfl (Nat.le_of_ble_eq_true rfl) ⟨Nat.zero_le _, Nat.zero_le _⟩ dX7_ifAsked_62 (fun H locs hP hS => ?_)
  have hP : va_P D vwCl [(o 0, .inr (7, [.int 1, .ref (o 1), f2, f3, f4, f5, f6, f7, f8, f9, f10])), (o 1, .inl (ca 0, 99, .inl sf))] H := hP
  have hD := zDto (ws := [(o 0, .inr (7, [.int 1, .ref (o 1), f2, f3, f4, f5, f6, f7, f8, f9, f10])), (o 1, .inl (ca 0, 99, .inl sf))]) hN hA rfl
  exact zw_i hx hb hr hlk hP hS ⟨by rfl, by rfl⟩ dX7_ifAsked_65
set_option maxHeartbeats 4000000 in
set_option maxRecDepth 100000 in
theorem c_X7_ifAsked_A2 (l : Launch) (D : va_G) (ca : Nat → ClassId) (o : Nat → Nat) (f2 f3 f4 f5 f6 f7 f8 f9 f10 : Value) (thr : Int32) (sf : Nat → Int32) (t u w z : Int32) (h1 : rIn t 0 (sf 0) = true) (h2 : rIn u 0 9 = false) (hN : [o 0, o 1].Nodup) : zMw l yX7_ifAsked cX7_ifAsked 6 (some .int) 1 22 D ca [(o 0, .inr (7, [.int thr, .ref (o 1), f2, f3, f4, f5, f6, f7, f8, f9, f10])), (o 1, .inl (ca 0, 99, .inl sf))] ([(o 0, .inr (7, [.int 1, .ref (o 1), f2, f3, f4, f5, f6, f7, f8, f9, f10])), (o 1, .inl (ca 0, 99, .inl sf))]) [.ref (o 0), .int t, .int u, .int w, .int z] (some (.int 0)) := by
  refine zMw_of (own := RX7) (by decide) rfl (Nat.le_of_ble_eq_true rfl) ?_
  intro p e s m args below meth c ls S hr hlk hP hK hl hS
  have hP : va_P D vwCl [(o 0, .inr (7, [.int thr, .ref (o 1), f2, f3, f4, f5, f6, f7, f8, f9, f10])), (o 1, .inl (ca 0, 99, .inl sf))] s.heap := hP
  have hS : va_S (zA [o 0, o 1]) s.heap s.heap [] := hS
  have hA : ∀ q ∈ [o 0, o 1], zA [o 0, o 1] q := fun _ h => h
  have hD := zDto (ws := [(o 0, .inr (7, [.int thr, .ref (o 1), f2, f3, f4, f5, f6, f7, f8, f9, f10])), (o 1, .inl (ca 0, 99, .inl sf))]) hN hA rfl
  have hx := S.1
  have hb := S.2.1
  have hl : lv_has ls 6 [(0, .ref (o 0)), (1, .int t), (2, .int u), (3, .int w), (4, .int z)] := hl
  refine lv_aload_n hx hb dX7_ifAsked_0 rfl (lv_at hl 0 rfl) ?_
  refine lv_iconst (v := 0) hx hb dX7_ifAsked_1 (by decide) ?_
  refine z_put S in_lay_X7 tyX7_ok nmX7 hK hP hD hS rfl 0 rfl 0 (by decide) fl_X7_22 rfl rfl rfl rfl (Nat.le_of_ble_eq_true rfl) dX7_ifAsked_2 (fun H locs hP hS => ?_)
  have hP : va_P D vwCl [(o 0, .inr (7, [.int 0, .ref (o 1), f2, f3, f4, f5, f6, f7, f8, f9, f10])), (o 1, .inl (ca 0, 99, .inl sf))] H := hP
  have hD := zDto (ws := [(o 0, .inr (7, [.int 0, .ref (o 1), f2, f3, f4, f5, f6, f7, f8, f9, f10])), (o 1, .inl (ca 0, 99, .inl sf))]) hN hA rfl
  refine lv_iload_n hx hb dX7_ifAsked_5 rfl (lv_at hl 1 rfl) ?_
  refine lv_iconst (v := 0) hx hb dX7_ifAsked_6 (by decide) ?_
  refine lv_aload_n hx hb dX7_ifAsked_7 rfl (lv_at hl 0 rfl) ?_
  refine z_get S in_lay_X7 hK hP rfl 0 rfl 1 (by decide) fl_X7_7 rfl rfl dX7_ifAsked_8 ?_
  refine lv_iconst (v := 0) hx hb dX7_ifAsked_11 (by decide) ?_
  refine z_iald S hK hP 1 rfl (j := 0) (by omega) (by decide) dX7_ifAsked_12 ?_
  refine zcrS (As := [.int t, .int 0, .int (sf 0)]) (rest := []) S (c_X7_in l D ca t 0 (sf 0)) ml_X7_26 zy_X7_in st_X7_in ⟨Nat.le_of_ble_eq_true rfl, Nat.le_of_ble_eq_true rfl⟩ hK hP [] rfl rfl hl.1 rfl (Nat.le_of_ble_eq_true rfl) ⟨Nat.zero_le _, Nat.zero_le _⟩ dX7_ifAsked_13 ?_
  refine zz_eq (tgt := 52) hx hb dX7_ifAsked_16 (by decide) (fun h => False.elim (by revert h; intro h; rw [h1] at h; exact absurd h (by decide))) (fun _ => ?_)
  refine lv_iload_n hx hb dX7_ifAsked_19 rfl (lv_at hl 2 rfl) ?_
  refine lv_iconst (v := 0) hx hb dX7_ifAsked_20 (by decide) ?_
  refine lv_bipush (v := 9) hx hb dX7_ifAsked_21 (by decide) ?_
  refine zcrS (As := [.int u, .int 0, .int 9]) (rest := []) S (c_X7_in l D ca u 0 9) ml_X7_26 zy_X7_in st_X7_in ⟨Nat.le_of_ble_eq_true rfl, Nat.le_of_ble_eq_true rfl⟩ hK hP [] rfl rfl hl.1 rfl (Nat.le_of_ble_eq_true rfl) ⟨Nat.zero_le _, Nat.zero_le _⟩ dX7_ifAsked_23 ?_
  refine zz_eq (tgt := 52) hx hb dX7_ifAsked_26 (by decide) (fun _ => ?_) (fun h => False.elim (by revert h; intro h; rw [h2] at h; exact absurd h (by decide)))
  refine lv_iconst (v := 0) hx hb dX7_ifAsked_52 (by decide) ?_
  refine lv_istore (lv' := [(5, .int 0), (0, .ref (o 0)), (1, .int t), (2, .int u), (3, .int w), (4, .int z)]) hx hb dX7_ifAsked_53 hl (by decide) rfl (fun ls hl => ?_)
  refine lv_iload hx hb dX7_ifAsked_55 (lv_at hl 0 rfl) ?_
  refine lv_if_ne (tgt := 66) hx hb dX7_ifAsked_57 (by decide) (fun h => absurd (by decide) h) (fun _ => ?_)
  refine lv_aload_n hx hb dX7_ifAsked_60 rfl (lv_at hl 1 rfl) ?_
  refine lv_iconst (v := 1) hx hb dX7_ifAsked_61 (by decide) ?_
  refine zcw (As := [.int 1]) (rest := []) (st1 := [.int 0]) (q0 := 0) (lw := [o 0]) S (c_X7_fails l D ca o (.ref (o 1)) f2 f3 f4 f5 f6 f7 f8 f9 f10 0  1 (znd_pick hN [0] rfl rfl)) ml_X7_67 zy_X7_fails im_X7_fails se_X7_fails ⟨Nat.le_of_ble_eq_true rfl, Nat.le_of_ble_eq_true rfl⟩ hK hP hD hS [0] rfl rfl rfl rfl rfl rfl rfl hl.1 rfl rfl (Nat.le_of_ble_eq_true rfl) ⟨Nat.zero_le _, Nat.zero_le _⟩ dX7_ifAsked_62 (fun H locs hP hS => ?_)
  have hP : va_P D vwCl [(o 0, .inr (7, [.int 1, .ref (o 1), f2, f3, f4, f5, f6, f7, f8, f9, f10])), (o 1, .inl (ca 0, 99, .inl sf))] H := hP
  have hD := zDto (ws := [(o 0, .inr (7, [.int 1, .ref (o 1), f2, f3, f4, f5, f6, f7, f8, f9, f10])), (o 1, .inl (ca 0, 99, .inl sf))]) hN hA rfl
  exact zw_i hx hb hr hlk hP hS ⟨by rfl, by rfl⟩ dX7_ifAsked_65
set_option maxHeartbeats 4000000 in
set_option maxRecDepth 100000 in
theorem c_X7_ifAsked_A3 (l : Launch) (D : va_G) (ca : Nat → ClassId) (o : Nat → Nat) (f2 f3 f4 f5 f6 f7 f8 f9 f10 : Value) (thr : Int32) (sf : Nat → Int32) (t u w z : Int32) (h1 : rIn t 0 (sf 0) = true) (h2 : rIn u 0 9 = true) (h3 : rIn w 0 2 = false) (hN : [o 0, o 1].Nodup) : zMw l yX7_ifAsked cX7_ifAsked 6 (some .int) 1 22 D ca [(o 0, .inr (7, [.int thr, .ref (o 1), f2, f3, f4, f5, f6, f7, f8, f9, f10])), (o 1, .inl (ca 0, 99, .inl sf))] ([(o 0, .inr (7, [.int 1, .ref (o 1), f2, f3, f4, f5, f6, f7, f8, f9, f10])), (o 1, .inl (ca 0, 99, .inl sf))]) [.ref (o 0), .int t, .int u, .int w, .int z] (some (.int 0)) := by
  refine zMw_of (own := RX7) (by decide) rfl (Nat.le_of_ble_eq_true rfl) ?_
  intro p e s m args below meth c ls S hr hlk hP hK hl hS
  have hP : va_P D vwCl [(o 0, .inr (7, [.int thr, .ref (o 1), f2, f3, f4, f5, f6, f7, f8, f9, f10])), (o 1, .inl (ca 0, 99, .inl sf))] s.heap := hP
  have hS : va_S (zA [o 0, o 1]) s.heap s.heap [] := hS
  have hA : ∀ q ∈ [o 0, o 1], zA [o 0, o 1] q := fun _ h => h
  have hD := zDto (ws := [(o 0, .inr (7, [.int thr, .ref (o 1), f2, f3, f4, f5, f6, f7, f8, f9, f10])), (o 1, .inl (ca 0, 99, .inl sf))]) hN hA rfl
  have hx := S.1
  have hb := S.2.1
  have hl : lv_has ls 6 [(0, .ref (o 0)), (1, .int t), (2, .int u), (3, .int w), (4, .int z)] := hl
  refine lv_aload_n hx hb dX7_ifAsked_0 rfl (lv_at hl 0 rfl) ?_
  refine lv_iconst (v := 0) hx hb dX7_ifAsked_1 (by decide) ?_
  refine z_put S in_lay_X7 tyX7_ok nmX7 hK hP hD hS rfl 0 rfl 0 (by decide) fl_X7_22 rfl rfl rfl rfl (Nat.le_of_ble_eq_true rfl) dX7_ifAsked_2 (fun H locs hP hS => ?_)
  have hP : va_P D vwCl [(o 0, .inr (7, [.int 0, .ref (o 1), f2, f3, f4, f5, f6, f7, f8, f9, f10])), (o 1, .inl (ca 0, 99, .inl sf))] H := hP
  have hD := zDto (ws := [(o 0, .inr (7, [.int 0, .ref (o 1), f2, f3, f4, f5, f6, f7, f8, f9, f10])), (o 1, .inl (ca 0, 99, .inl sf))]) hN hA rfl
  refine lv_iload_n hx hb dX7_ifAsked_5 rfl (lv_at hl 1 rfl) ?_
  refine lv_iconst (v := 0) hx hb dX7_ifAsked_6 (by decide) ?_
  refine lv_aload_n hx hb dX7_ifAsked_7 rfl (lv_at hl 0 rfl) ?_
  refine z_get S in_lay_X7 hK hP rfl 0 rfl 1 (by decide) fl_X7_7 rfl rfl dX7_ifAsked_8 ?_
  refine lv_iconst (v := 0) hx hb dX7_ifAsked_11 (by decide) ?_
  refine z_iald S hK hP 1 rfl (j := 0) (by omega) (by decide) dX7_ifAsked_12 ?_
  refine zcrS (As := [.int t, .int 0, .int (sf 0)]) (rest := []) S (c_X7_in l D ca t 0 (sf 0)) ml_X7_26 zy_X7_in st_X7_in ⟨Nat.le_of_ble_eq_true rfl, Nat.le_of_ble_eq_true rfl⟩ hK hP [] rfl rfl hl.1 rfl (Nat.le_of_ble_eq_true rfl) ⟨Nat.zero_le _, Nat.zero_le _⟩ dX7_ifAsked_13 ?_
  refine zz_eq (tgt := 52) hx hb dX7_ifAsked_16 (by decide) (fun h => False.elim (by revert h; intro h; rw [h1] at h; exact absurd h (by decide))) (fun _ => ?_)
  refine lv_iload_n hx hb dX7_ifAsked_19 rfl (lv_at hl 2 rfl) ?_
  refine lv_iconst (v := 0) hx hb dX7_ifAsked_20 (by decide) ?_
  refine lv_bipush (v := 9) hx hb dX7_ifAsked_21 (by decide) ?_
  refine zcrS (As := [.int u, .int 0, .int 9]) (rest := []) S (c_X7_in l D ca u 0 9) ml_X7_26 zy_X7_in st_X7_in ⟨Nat.le_of_ble_eq_true rfl, Nat.le_of_ble_eq_true rfl⟩ hK hP [] rfl rfl hl.1 rfl (Nat.le_of_ble_eq_true rfl) ⟨Nat.zero_le _, Nat.zero_le _⟩ dX7_ifAsked_23 ?_
  refine zz_eq (tgt := 52) hx hb dX7_ifAsked_26 (by decide) (fun h => False.elim (by revert h; intro h; rw [h2] at h; exact absurd h (by decide))) (fun _ => ?_)
  refine lv_iload_n hx hb dX7_ifAsked_29 rfl (lv_at hl 3 rfl) ?_
  refine lv_iconst (v := 0) hx hb dX7_ifAsked_30 (by decide) ?_
  refine lv_iconst (v := 2) hx hb dX7_ifAsked_31 (by decide) ?_
  refine zcrS (As := [.int w, .int 0, .int 2]) (rest := []) S (c_X7_in l D ca w 0 2) ml_X7_26 zy_X7_in st_X7_in ⟨Nat.le_of_ble_eq_true rfl, Nat.le_of_ble_eq_true rfl⟩ hK hP [] rfl rfl hl.1 rfl (Nat.le_of_ble_eq_true rfl) ⟨Nat.zero_le _, Nat.zero_le _⟩ dX7_ifAsked_32 ?_
  refine zz_eq (tgt := 52) hx hb dX7_ifAsked_35 (by decide) (fun _ => ?_) (fun h => False.elim (by revert h; intro h; rw [h3] at h; exact absurd h (by decide)))
  refine lv_iconst (v := 0) hx hb dX7_ifAsked_52 (by decide) ?_
  refine lv_istore (lv' := [(5, .int 0), (0, .ref (o 0)), (1, .int t), (2, .int u), (3, .int w), (4, .int z)]) hx hb dX7_ifAsked_53 hl (by decide) rfl (fun ls hl => ?_)
  refine lv_iload hx hb dX7_ifAsked_55 (lv_at hl 0 rfl) ?_
  refine lv_if_ne (tgt := 66) hx hb dX7_ifAsked_57 (by decide) (fun h => absurd (by decide) h) (fun _ => ?_)
  refine lv_aload_n hx hb dX7_ifAsked_60 rfl (lv_at hl 1 rfl) ?_
  refine lv_iconst (v := 1) hx hb dX7_ifAsked_61 (by decide) ?_
  refine zcw (As := [.int 1]) (rest := []) (st1 := [.int 0]) (q0 := 0) (lw := [o 0]) S (c_X7_fails l D ca o (.ref (o 1)) f2 f3 f4 f5 f6 f7 f8 f9 f10 0  1 (znd_pick hN [0] rfl rfl)) ml_X7_67 zy_X7_fails im_X7_fails se_X7_fails ⟨Nat.le_of_ble_eq_true rfl, Nat.le_of_ble_eq_true rfl⟩ hK hP hD hS [0] rfl rfl rfl rfl rfl rfl rfl hl.1 rfl rfl (Nat.le_of_ble_eq_true rfl) ⟨Nat.zero_le _, Nat.zero_le _⟩ dX7_ifAsked_62 (fun H locs hP hS => ?_)
  have hP : va_P D vwCl [(o 0, .inr (7, [.int 1, .ref (o 1), f2, f3, f4, f5, f6, f7, f8, f9, f10])), (o 1, .inl (ca 0, 99, .inl sf))] H := hP
  have hD := zDto (ws := [(o 0, .inr (7, [.int 1, .ref (o 1), f2, f3, f4, f5, f6, f7, f8, f9, f10])), (o 1, .inl (ca 0, 99, .inl sf))]) hN hA rfl
  exact zw_i hx hb hr hlk hP hS ⟨by rfl, by rfl⟩ dX7_ifAsked_65
set_option maxHeartbeats 4000000 in
set_option maxRecDepth 100000 in
theorem c_X7_ifAsked_A4 (l : Launch) (D : va_G) (ca : Nat → ClassId) (o : Nat → Nat) (f2 f3 f4 f5 f6 f7 f8 f9 f10 : Value) (thr : Int32) (sf : Nat → Int32) (t u w z : Int32) (h1 : rIn t 0 (sf 0) = true) (h2 : rIn u 0 9 = true) (h3 : rIn w 0 2 = true) (h4 : rIn z 0 1 = false) (hN : [o 0, o 1].Nodup) : zMw l yX7_ifAsked cX7_ifAsked 6 (some .int) 1 22 D ca [(o 0, .inr (7, [.int thr, .ref (o 1), f2, f3, f4, f5, f6, f7, f8, f9, f10])), (o 1, .inl (ca 0, 99, .inl sf))] ([(o 0, .inr (7, [.int 1, .ref (o 1), f2, f3, f4, f5, f6, f7, f8, f9, f10])), (o 1, .inl (ca 0, 99, .inl sf))]) [.ref (o 0), .int t, .int u, .int w, .int z] (some (.int 0)) := by
  refine zMw_of (own := RX7) (by decide) rfl (Nat.le_of_ble_eq_true rfl) ?_
  intro p e s m args below meth c ls S hr hlk hP hK hl hS
  have hP : va_P D vwCl [(o 0, .inr (7, [.int thr, .ref (o 1), f2, f3, f4, f5, f6, f7, f8, f9, f10])), (o 1, .inl (ca 0, 99, .inl sf))] s.heap := hP
  have hS : va_S (zA [o 0, o 1]) s.heap s.heap [] := hS
  have hA : ∀ q ∈ [o 0, o 1], zA [o 0, o 1] q := fun _ h => h
  have hD := zDto (ws := [(o 0, .inr (7, [.int thr, .ref (o 1), f2, f3, f4, f5, f6, f7, f8, f9, f10])), (o 1, .inl (ca 0, 99, .inl sf))]) hN hA rfl
  have hx := S.1
  have hb := S.2.1
  have hl : lv_has ls 6 [(0, .ref (o 0)), (1, .int t), (2, .int u), (3, .int w), (4, .int z)] := hl
  refine lv_aload_n hx hb dX7_ifAsked_0 rfl (lv_at hl 0 rfl) ?_
  refine lv_iconst (v := 0) hx hb dX7_ifAsked_1 (by decide) ?_
  refine z_put S in_lay_X7 tyX7_ok nmX7 hK hP hD hS rfl 0 rfl 0 (by decide) fl_X7_22 rfl rfl rfl rfl (Nat.le_of_ble_eq_true rfl) dX7_ifAsked_2 (fun H locs hP hS => ?_)
  have hP : va_P D vwCl [(o 0, .inr (7, [.int 0, .ref (o 1), f2, f3, f4, f5, f6, f7, f8, f9, f10])), (o 1, .inl (ca 0, 99, .inl sf))] H := hP
  have hD := zDto (ws := [(o 0, .inr (7, [.int 0, .ref (o 1), f2, f3, f4, f5, f6, f7, f8, f9, f10])), (o 1, .inl (ca 0, 99, .inl sf))]) hN hA rfl
  refine lv_iload_n hx hb dX7_ifAsked_5 rfl (lv_at hl 1 rfl) ?_
  refine lv_iconst (v := 0) hx hb dX7_ifAsked_6 (by decide) ?_
  refine lv_aload_n hx hb dX7_ifAsked_7 rfl (lv_at hl 0 rfl) ?_
  refine z_get S in_lay_X7 hK hP rfl 0 rfl 1 (by decide) fl_X7_7 rfl rfl dX7_ifAsked_8 ?_
  refine lv_iconst (v := 0) hx hb dX7_ifAsked_11 (by decide) ?_
  refine z_iald S hK hP 1 rfl (j := 0) (by omega) (by decide) dX7_ifAsked_12 ?_
  refine zcrS (As := [.int t, .int 0, .int (sf 0)]) (rest := []) S (c_X7_in l D ca t 0 (sf 0)) ml_X7_26 zy_X7_in st_X7_in ⟨Nat.le_of_ble_eq_true rfl, Nat.le_of_ble_eq_true rfl⟩ hK hP [] rfl rfl hl.1 rfl (Nat.le_of_ble_eq_true rfl) ⟨Nat.zero_le _, Nat.zero_le _⟩ dX7_ifAsked_13 ?_
  refine zz_eq (tgt := 52) hx hb dX7_ifAsked_16 (by decide) (fun h => False.elim (by revert h; intro h; rw [h1] at h; exact absurd h (by decide))) (fun _ => ?_)
  refine lv_iload_n hx hb dX7_ifAsked_19 rfl (lv_at hl 2 rfl) ?_
  refine lv_iconst (v := 0) hx hb dX7_ifAsked_20 (by decide) ?_
  refine lv_bipush (v := 9) hx hb dX7_ifAsked_21 (by decide) ?_
  refine zcrS (As := [.int u, .int 0, .int 9]) (rest := []) S (c_X7_in l D ca u 0 9) ml_X7_26 zy_X7_in st_X7_in ⟨Nat.le_of_ble_eq_true rfl, Nat.le_of_ble_eq_true rfl⟩ hK hP [] rfl rfl hl.1 rfl (Nat.le_of_ble_eq_true rfl) ⟨Nat.zero_le _, Nat.zero_le _⟩ dX7_ifAsked_23 ?_
  refine zz_eq (tgt := 52) hx hb dX7_ifAsked_26 (by decide) (fun h => False.elim (by revert h; intro h; rw [h2] at h; exact absurd h (by decide))) (fun _ => ?_)
  refine lv_iload_n hx hb dX7_ifAsked_29 rfl (lv_at hl 3 rfl) ?_
  refine lv_iconst (v := 0) hx hb dX7_ifAsked_30 (by decide) ?_
  refine lv_iconst (v := 2) hx hb dX7_ifAsked_31 (by decide) ?_
  refine zcrS (As := [.int w, .int 0, .int 2]) (rest := []) S (c_X7_in l D ca w 0 2) ml_X7_26 zy_X7_in st_X7_in ⟨Nat.le_of_ble_eq_true rfl, Nat.le_of_ble_eq_true rfl⟩ hK hP [] rfl rfl hl.1 rfl (Nat.le_of_ble_eq_true rfl) ⟨Nat.zero_le _, Nat.zero_le _⟩ dX7_ifAsked_32 ?_
  refine zz_eq (tgt := 52) hx hb dX7_ifAsked_35 (by decide) (fun h => False.elim (by revert h; intro h; rw [h3] at h; exact absurd h (by decide))) (fun _ => ?_)
  refine lv_iload hx hb dX7_ifAsked_38 (lv_at hl 4 rfl) ?_
  refine lv_iconst (v := 0) hx hb dX7_ifAsked_40 (by decide) ?_
  refine lv_iconst (v := 1) hx hb dX7_ifAsked_41 (by decide) ?_
  refine zcrS (As := [.int z, .int 0, .int 1]) (rest := []) S (c_X7_in l D ca z 0 1) ml_X7_26 zy_X7_in st_X7_in ⟨Nat.le_of_ble_eq_true rfl, Nat.le_of_ble_eq_true rfl⟩ hK hP [] rfl rfl hl.1 rfl (Nat.le_of_ble_eq_true rfl) ⟨Nat.zero_le _, Nat.zero_le _⟩ dX7_ifAsked_42 ?_
  refine zz_eq (tgt := 52) hx hb dX7_ifAsked_45 (by decide) (fun _ => ?_) (fun h => False.elim (by revert h; intro h; rw [h4] at h; exact absurd h (by decide)))
  refine lv_iconst (v := 0) hx hb dX7_ifAsked_52 (by decide) ?_
  refine lv_istore (lv' := [(5, .int 0), (0, .ref (o 0)), (1, .int t), (2, .int u), (3, .int w), (4, .int z)]) hx hb dX7_ifAsked_53 hl (by decide) rfl (fun ls hl => ?_)
  refine lv_iload hx hb dX7_ifAsked_55 (lv_at hl 0 rfl) ?_
  refine lv_if_ne (tgt := 66) hx hb dX7_ifAsked_57 (by decide) (fun h => absurd (by decide) h) (fun _ => ?_)
  refine lv_aload_n hx hb dX7_ifAsked_60 rfl (lv_at hl 1 rfl) ?_
  refine lv_iconst (v := 1) hx hb dX7_ifAsked_61 (by decide) ?_
  refine zcw (As := [.int 1]) (rest := []) (st1 := [.int 0]) (q0 := 0) (lw := [o 0]) S (c_X7_fails l D ca o (.ref (o 1)) f2 f3 f4 f5 f6 f7 f8 f9 f10 0  1 (znd_pick hN [0] rfl rfl)) ml_X7_67 zy_X7_fails im_X7_fails se_X7_fails ⟨Nat.le_of_ble_eq_true rfl, Nat.le_of_ble_eq_true rfl⟩ hK hP hD hS [0] rfl rfl rfl rfl rfl rfl rfl hl.1 rfl rfl (Nat.le_of_ble_eq_true rfl) ⟨Nat.zero_le _, Nat.zero_le _⟩ dX7_ifAsked_62 (fun H locs hP hS => ?_)
  have hP : va_P D vwCl [(o 0, .inr (7, [.int 1, .ref (o 1), f2, f3, f4, f5, f6, f7, f8, f9, f10])), (o 1, .inl (ca 0, 99, .inl sf))] H := hP
  have hD := zDto (ws := [(o 0, .inr (7, [.int 1, .ref (o 1), f2, f3, f4, f5, f6, f7, f8, f9, f10])), (o 1, .inl (ca 0, 99, .inl sf))]) hN hA rfl
  exact zw_i hx hb hr hlk hP hS ⟨by rfl, by rfl⟩ dX7_ifAsked_65
set_option maxHeartbeats 4000000 in
set_option maxRecDepth 100000 in
theorem c_X7_ifAsked_C0 (l : Launch) (D : va_G) (ca : Nat → ClassId) (o : Nat → Nat) (f2 f3 f4 f5 f6 f7 f8 f9 f10 : Value) (thr : Int32) (sf : Nat → Int32) (t u : Int32) (w : Nat) (hw : w < 3) (h1 : rIn t 0 (sf 0) = true) (h2 : rIn u 0 9 = true) (hN : [o 0, o 1].Nodup) : zMw l yX7_ifAsked cX7_ifAsked 6 (some .int) 4 93 D ca [(o 0, .inr (7, [.int thr, .ref (o 1), f2, f3, f4, f5, f6, f7, f8, f9, f10])), (o 1, .inl (ca 0, 99, .inl sf))] ([(o 0, .inr (7, [.int 0, .ref (o 1), f2, f3, f4, f5, f6, f7, f8, f9, f10])), (o 1, .inl (ca 0, 99, .inl sf))]) [.ref (o 0), .int t, .int u, .int (nI w), .int 0] (some (.int (rAns sf t u w))) := by
  refine zMw_of (own := RX7) (by decide) rfl (Nat.le_of_ble_eq_true rfl) ?_
  intro p e s m args below meth c ls S hr hlk hP hK hl hS
  have hP : va_P D vwCl [(o 0, .inr (7, [.int thr, .ref (o 1), f2, f3, f4, f5, f6, f7, f8, f9, f10])), (o 1, .inl (ca 0, 99, .inl sf))] s.heap := hP
  have hS : va_S (zA [o 0, o 1]) s.heap s.heap [] := hS
  have hA : ∀ q ∈ [o 0, o 1], zA [o 0, o 1] q := fun _ h => h
  have hD := zDto (ws := [(o 0, .inr (7, [.int thr, .ref (o 1), f2, f3, f4, f5, f6, f7, f8, f9, f10])), (o 1, .inl (ca 0, 99, .inl sf))]) hN hA rfl
  have hx := S.1
  have hb := S.2.1
  have hl : lv_has ls 6 [(0, .ref (o 0)), (1, .int t), (2, .int u), (3, .int (nI w)), (4, .int 0)] := hl
  have hin2 : rIn (nI w) 0 2 = true := rIn_t (a := 0) (b := 2) (by omega) (by omega) (by decide)
  have hin3 : rIn 0 0 1 = true := by decide
  refine lv_aload_n hx hb dX7_ifAsked_0 rfl (lv_at hl 0 rfl) ?_
  refine lv_iconst (v := 0) hx hb dX7_ifAsked_1 (by decide) ?_
  refine z_put S in_lay_X7 tyX7_ok nmX7 hK hP hD hS rfl 0 rfl 0 (by decide) fl_X7_22 rfl rfl rfl rfl (Nat.le_of_ble_eq_true rfl) dX7_ifAsked_2 (fun H locs hP hS => ?_)
  have hP : va_P D vwCl [(o 0, .inr (7, [.int 0, .ref (o 1), f2, f3, f4, f5, f6, f7, f8, f9, f10])), (o 1, .inl (ca 0, 99, .inl sf))] H := hP
  have hD := zDto (ws := [(o 0, .inr (7, [.int 0, .ref (o 1), f2, f3, f4, f5, f6, f7, f8, f9, f10])), (o 1, .inl (ca 0, 99, .inl sf))]) hN hA rfl
  refine lv_iload_n hx hb dX7_ifAsked_5 rfl (lv_at hl 1 rfl) ?_
  refine lv_iconst (v := 0) hx hb dX7_ifAsked_6 (by decide) ?_
  refine lv_aload_n hx hb dX7_ifAsked_7 rfl (lv_at hl 0 rfl) ?_
  refine z_get S in_lay_X7 hK hP rfl 0 rfl 1 (by decide) fl_X7_7 rfl rfl dX7_ifAsked_8 ?_
  refine lv_iconst (v := 0) hx hb dX7_ifAsked_11 (by decide) ?_
  refine z_iald S hK hP 1 rfl (j := 0) (by omega) (by decide) dX7_ifAsked_12 ?_
  refine zcrS (As := [.int t, .int 0, .int (sf 0)]) (rest := []) S (c_X7_in l D ca t 0 (sf 0)) ml_X7_26 zy_X7_in st_X7_in ⟨Nat.le_of_ble_eq_true rfl, Nat.le_of_ble_eq_true rfl⟩ hK hP [] rfl rfl hl.1 rfl (Nat.le_of_ble_eq_true rfl) ⟨Nat.zero_le _, Nat.zero_le _⟩ dX7_ifAsked_13 ?_
  refine zz_eq (tgt := 52) hx hb dX7_ifAsked_16 (by decide) (fun h => False.elim (by revert h; intro h; rw [h1] at h; exact absurd h (by decide))) (fun _ => ?_)
  refine lv_iload_n hx hb dX7_ifAsked_19 rfl (lv_at hl 2 rfl) ?_
  refine lv_iconst (v := 0) hx hb dX7_ifAsked_20 (by decide) ?_
  refine lv_bipush (v := 9) hx hb dX7_ifAsked_21 (by decide) ?_
  refine zcrS (As := [.int u, .int 0, .int 9]) (rest := []) S (c_X7_in l D ca u 0 9) ml_X7_26 zy_X7_in st_X7_in ⟨Nat.le_of_ble_eq_true rfl, Nat.le_of_ble_eq_true rfl⟩ hK hP [] rfl rfl hl.1 rfl (Nat.le_of_ble_eq_true rfl) ⟨Nat.zero_le _, Nat.zero_le _⟩ dX7_ifAsked_23 ?_
  refine zz_eq (tgt := 52) hx hb dX7_ifAsked_26 (by decide) (fun h => False.elim (by revert h; intro h; rw [h2] at h; exact absurd h (by decide))) (fun _ => ?_)
  refine lv_iload_n hx hb dX7_ifAsked_29 rfl (lv_at hl 3 rfl) ?_
  refine lv_iconst (v := 0) hx hb dX7_ifAsked_30 (by decide) ?_
  refine lv_iconst (v := 2) hx hb dX7_ifAsked_31 (by decide) ?_
  refine zcrS (As := [.int (nI w), .int 0, .int 2]) (rest := []) S (c_X7_in l D ca (nI w) 0 2) ml_X7_26 zy_X7_in st_X7_in ⟨Nat.le_of_ble_eq_true rfl, Nat.le_of_ble_eq_true rfl⟩ hK hP [] rfl rfl hl.1 rfl (Nat.le_of_ble_eq_true rfl) ⟨Nat.zero_le _, Nat.zero_le _⟩ dX7_ifAsked_32 ?_
  refine zz_eq (tgt := 52) hx hb dX7_ifAsked_35 (by decide) (fun h => False.elim (by revert h; intro h; rw [hin2] at h; exact absurd h (by decide))) (fun _ => ?_)
  refine lv_iload hx hb dX7_ifAsked_38 (lv_at hl 4 rfl) ?_
  refine lv_iconst (v := 0) hx hb dX7_ifAsked_40 (by decide) ?_
  refine lv_iconst (v := 1) hx hb dX7_ifAsked_41 (by decide) ?_
  refine zcrS (As := [.int 0, .int 0, .int 1]) (rest := []) S (c_X7_in l D ca 0 0 1) ml_X7_26 zy_X7_in st_X7_in ⟨Nat.le_of_ble_eq_true rfl, Nat.le_of_ble_eq_true rfl⟩ hK hP [] rfl rfl hl.1 rfl (Nat.le_of_ble_eq_true rfl) ⟨Nat.zero_le _, Nat.zero_le _⟩ dX7_ifAsked_42 ?_
  refine zz_eq (tgt := 52) hx hb dX7_ifAsked_45 (by decide) (fun h => False.elim (by revert h; intro h; rw [hin3] at h; exact absurd h (by decide))) (fun _ => ?_)
  refine lv_iconst (v := 1) hx hb dX7_ifAsked_48 (by decide) ?_
  refine lv_goto (tgt := 53) hx hb dX7_ifAsked_49 (by decide) ?_
  refine lv_istore (lv' := [(5, .int 1), (0, .ref (o 0)), (1, .int t), (2, .int u), (3, .int (nI w)), (4, .int 0)]) hx hb dX7_ifAsked_53 hl (by decide) rfl (fun ls hl => ?_)
  refine lv_iload hx hb dX7_ifAsked_55 (lv_at hl 0 rfl) ?_
  refine lv_if_ne (tgt := 66) hx hb dX7_ifAsked_57 (by decide) (fun _ => ?_) (fun h => absurd h (by decide))
  refine lv_iload hx hb dX7_ifAsked_66 (lv_at hl 5 rfl) ?_
  refine lv_if_ne (tgt := 81) hx hb dX7_ifAsked_68 (by decide) (fun h => absurd (by decide) h) (fun _ => ?_)
  refine lv_aload_n hx hb dX7_ifAsked_71 rfl (lv_at hl 1 rfl) ?_
  refine lv_iload_n hx hb dX7_ifAsked_72 rfl (lv_at hl 2 rfl) ?_
  refine lv_iload_n hx hb dX7_ifAsked_73 rfl (lv_at hl 3 rfl) ?_
  refine lv_iload_n hx hb dX7_ifAsked_74 rfl (lv_at hl 4 rfl) ?_
  refine zcr (As := [.int t, .int u, .int (nI w)]) (rest := []) (q0 := 0) S (c_X7_answers l D ca o (.int 0) f2 f3 f4 f5 f6 f7 f8 f9 f10 sf t u w (by omega)) ml_X7_126 zy_X7_answers im_X7_answers se_X7_answers ⟨Nat.le_of_ble_eq_true rfl, Nat.le_of_ble_eq_true rfl⟩ hK hP [0, 1] rfl rfl rfl rfl rfl hl.1 rfl (Nat.le_of_ble_eq_true rfl) ⟨Nat.zero_le _, Nat.zero_le _⟩ dX7_ifAsked_75 ?_
  refine lv_goto (tgt := 88) hx hb dX7_ifAsked_78 (by decide) ?_
  exact zw_i hx hb hr hlk hP hS ⟨by rfl, by rfl⟩ dX7_ifAsked_88
set_option maxHeartbeats 4000000 in
set_option maxRecDepth 100000 in
theorem c_X7_ifAsked_C1 (l : Launch) (D : va_G) (ca : Nat → ClassId) (o : Nat → Nat) (f2 f3 f4 f5 f6 f7 f8 f9 f10 : Value) (thr : Int32) (sf : Nat → Int32) (t u : Int32) (w : Nat) (hw : w < 3) (h1 : rIn t 0 (sf 0) = true) (h2 : rIn u 0 9 = true) (hN : [o 0, o 1].Nodup) : zMw l yX7_ifAsked cX7_ifAsked 6 (some .int) 4 95 D ca [(o 0, .inr (7, [.int thr, .ref (o 1), f2, f3, f4, f5, f6, f7, f8, f9, f10])), (o 1, .inl (ca 0, 99, .inl sf))] ([(o 0, .inr (7, [.int 0, .ref (o 1), f2, f3, f4, f5, f6, f7, f8, f9, f10])), (o 1, .inl (ca 0, 99, .inl sf))]) [.ref (o 0), .int t, .int u, .int (nI w), .int 1] (some (.int (rCost sf t u w))) := by
  refine zMw_of (own := RX7) (by decide) rfl (Nat.le_of_ble_eq_true rfl) ?_
  intro p e s m args below meth c ls S hr hlk hP hK hl hS
  have hP : va_P D vwCl [(o 0, .inr (7, [.int thr, .ref (o 1), f2, f3, f4, f5, f6, f7, f8, f9, f10])), (o 1, .inl (ca 0, 99, .inl sf))] s.heap := hP
  have hS : va_S (zA [o 0, o 1]) s.heap s.heap [] := hS
  have hA : ∀ q ∈ [o 0, o 1], zA [o 0, o 1] q := fun _ h => h
  have hD := zDto (ws := [(o 0, .inr (7, [.int thr, .ref (o 1), f2, f3, f4, f5, f6, f7, f8, f9, f10])), (o 1, .inl (ca 0, 99, .inl sf))]) hN hA rfl
  have hx := S.1
  have hb := S.2.1
  have hl : lv_has ls 6 [(0, .ref (o 0)), (1, .int t), (2, .int u), (3, .int (nI w)), (4, .int 1)] := hl
  have hin2 : rIn (nI w) 0 2 = true := rIn_t (a := 0) (b := 2) (by omega) (by omega) (by decide)
  have hin3 : rIn 1 0 1 = true := by decide
  refine lv_aload_n hx hb dX7_ifAsked_0 rfl (lv_at hl 0 rfl) ?_
  refine lv_iconst (v := 0) hx hb dX7_ifAsked_1 (by decide) ?_
  refine z_put S in_lay_X7 tyX7_ok nmX7 hK hP hD hS rfl 0 rfl 0 (by decide) fl_X7_22 rfl rfl rfl rfl (Nat.le_of_ble_eq_true rfl) dX7_ifAsked_2 (fun H locs hP hS => ?_)
  have hP : va_P D vwCl [(o 0, .inr (7, [.int 0, .ref (o 1), f2, f3, f4, f5, f6, f7, f8, f9, f10])), (o 1, .inl (ca 0, 99, .inl sf))] H := hP
  have hD := zDto (ws := [(o 0, .inr (7, [.int 0, .ref (o 1), f2, f3, f4, f5, f6, f7, f8, f9, f10])), (o 1, .inl (ca 0, 99, .inl sf))]) hN hA rfl
  refine lv_iload_n hx hb dX7_ifAsked_5 rfl (lv_at hl 1 rfl) ?_
  refine lv_iconst (v := 0) hx hb dX7_ifAsked_6 (by decide) ?_
  refine lv_aload_n hx hb dX7_ifAsked_7 rfl (lv_at hl 0 rfl) ?_
  refine z_get S in_lay_X7 hK hP rfl 0 rfl 1 (by decide) fl_X7_7 rfl rfl dX7_ifAsked_8 ?_
  refine lv_iconst (v := 0) hx hb dX7_ifAsked_11 (by decide) ?_
  refine z_iald S hK hP 1 rfl (j := 0) (by omega) (by decide) dX7_ifAsked_12 ?_
  refine zcrS (As := [.int t, .int 0, .int (sf 0)]) (rest := []) S (c_X7_in l D ca t 0 (sf 0)) ml_X7_26 zy_X7_in st_X7_in ⟨Nat.le_of_ble_eq_true rfl, Nat.le_of_ble_eq_true rfl⟩ hK hP [] rfl rfl hl.1 rfl (Nat.le_of_ble_eq_true rfl) ⟨Nat.zero_le _, Nat.zero_le _⟩ dX7_ifAsked_13 ?_
  refine zz_eq (tgt := 52) hx hb dX7_ifAsked_16 (by decide) (fun h => False.elim (by revert h; intro h; rw [h1] at h; exact absurd h (by decide))) (fun _ => ?_)
  refine lv_iload_n hx hb dX7_ifAsked_19 rfl (lv_at hl 2 rfl) ?_
  refine lv_iconst (v := 0) hx hb dX7_ifAsked_20 (by decide) ?_
  refine lv_bipush (v := 9) hx hb dX7_ifAsked_21 (by decide) ?_
  refine zcrS (As := [.int u, .int 0, .int 9]) (rest := []) S (c_X7_in l D ca u 0 9) ml_X7_26 zy_X7_in st_X7_in ⟨Nat.le_of_ble_eq_true rfl, Nat.le_of_ble_eq_true rfl⟩ hK hP [] rfl rfl hl.1 rfl (Nat.le_of_ble_eq_true rfl) ⟨Nat.zero_le _, Nat.zero_le _⟩ dX7_ifAsked_23 ?_
  refine zz_eq (tgt := 52) hx hb dX7_ifAsked_26 (by decide) (fun h => False.elim (by revert h; intro h; rw [h2] at h; exact absurd h (by decide))) (fun _ => ?_)
  refine lv_iload_n hx hb dX7_ifAsked_29 rfl (lv_at hl 3 rfl) ?_
  refine lv_iconst (v := 0) hx hb dX7_ifAsked_30 (by decide) ?_
  refine lv_iconst (v := 2) hx hb dX7_ifAsked_31 (by decide) ?_
  refine zcrS (As := [.int (nI w), .int 0, .int 2]) (rest := []) S (c_X7_in l D ca (nI w) 0 2) ml_X7_26 zy_X7_in st_X7_in ⟨Nat.le_of_ble_eq_true rfl, Nat.le_of_ble_eq_true rfl⟩ hK hP [] rfl rfl hl.1 rfl (Nat.le_of_ble_eq_true rfl) ⟨Nat.zero_le _, Nat.zero_le _⟩ dX7_ifAsked_32 ?_
  refine zz_eq (tgt := 52) hx hb dX7_ifAsked_35 (by decide) (fun h => False.elim (by revert h; intro h; rw [hin2] at h; exact absurd h (by decide))) (fun _ => ?_)
  refine lv_iload hx hb dX7_ifAsked_38 (lv_at hl 4 rfl) ?_
  refine lv_iconst (v := 0) hx hb dX7_ifAsked_40 (by decide) ?_
  refine lv_iconst (v := 1) hx hb dX7_ifAsked_41 (by decide) ?_
  refine zcrS (As := [.int 1, .int 0, .int 1]) (rest := []) S (c_X7_in l D ca 1 0 1) ml_X7_26 zy_X7_in st_X7_in ⟨Nat.le_of_ble_eq_true rfl, Nat.le_of_ble_eq_true rfl⟩ hK hP [] rfl rfl hl.1 rfl (Nat.le_of_ble_eq_true rfl) ⟨Nat.zero_le _, Nat.zero_le _⟩ dX7_ifAsked_42 ?_
  refine zz_eq (tgt := 52) hx hb dX7_ifAsked_45 (by decide) (fun h => False.elim (by revert h; intro h; rw [hin3] at h; exact absurd h (by decide))) (fun _ => ?_)
  refine lv_iconst (v := 1) hx hb dX7_ifAsked_48 (by decide) ?_
  refine lv_goto (tgt := 53) hx hb dX7_ifAsked_49 (by decide) ?_
  refine lv_istore (lv' := [(5, .int 1), (0, .ref (o 0)), (1, .int t), (2, .int u), (3, .int (nI w)), (4, .int 1)]) hx hb dX7_ifAsked_53 hl (by decide) rfl (fun ls hl => ?_)
  refine lv_iload hx hb dX7_ifAsked_55 (lv_at hl 0 rfl) ?_
  refine lv_if_ne (tgt := 66) hx hb dX7_ifAsked_57 (by decide) (fun _ => ?_) (fun h => absurd h (by decide))
  refine lv_iload hx hb dX7_ifAsked_66 (lv_at hl 5 rfl) ?_
  refine lv_if_ne (tgt := 81) hx hb dX7_ifAsked_68 (by decide) (fun _ => ?_) (fun h => absurd h (by decide))
  refine lv_aload_n hx hb dX7_ifAsked_81 rfl (lv_at hl 1 rfl) ?_
  refine lv_iload_n hx hb dX7_ifAsked_82 rfl (lv_at hl 2 rfl) ?_
  refine lv_iload_n hx hb dX7_ifAsked_83 rfl (lv_at hl 3 rfl) ?_
  refine lv_iload_n hx hb dX7_ifAsked_84 rfl (lv_at hl 4 rfl) ?_
  refine zcr (As := [.int t, .int u, .int (nI w)]) (rest := []) (q0 := 0) S (c_X7_costs l D ca o (.int 0) f2 f3 f4 f5 f6 f7 f8 f9 f10 sf t u w (by omega)) ml_X7_123 zy_X7_costs im_X7_costs se_X7_costs ⟨Nat.le_of_ble_eq_true rfl, Nat.le_of_ble_eq_true rfl⟩ hK hP [0, 1] rfl rfl rfl rfl rfl hl.1 rfl (Nat.le_of_ble_eq_true rfl) ⟨Nat.zero_le _, Nat.zero_le _⟩ dX7_ifAsked_85 ?_
  exact zw_i hx hb hr hlk hP hS ⟨by rfl, by rfl⟩ dX7_ifAsked_88
set_option maxHeartbeats 4000000 in
set_option maxRecDepth 100000 in
theorem c_X7_share (l : Launch) (D : va_G) (ca : Nat → ClassId) (o : Nat → Nat) (f0 f2 f3 f4 f5 f6 f7 f8 f9 f10 : Value) (sf : Nat → Int32) (hok : zOk (zSh (rMp sf))) : zMr l yX7_share cX7_share 1 (some .double) 2 44 D ca [(o 0, .inr (7, [f0, .ref (o 1), f2, f3, f4, f5, f6, f7, f8, f9, f10])), (o 1, .inl (ca 0, 99, .inl sf))] [.ref (o 0)] (.double (zSh (rMp sf))) := by
  refine zMr_of (own := RX7) (by decide) rfl (Nat.le_of_ble_eq_true rfl) ?_
  intro p e s m args below meth c ls S hr hlk hP hK hl
  have hx := S.1
  have hb := S.2.1
  have hl : lv_has ls 1 [(0, .ref (o 0))] := hl
  refine lv_aload_n hx hb dX7_share_0 rfl (lv_at hl 0 rfl) ?_
  refine zcr (As := []) (rest := []) (q0 := 0) S (c_X7_markedPages l D ca o f0 f2 f3 f4 f5 f6 f7 f8 f9 f10 sf ) ml_X7_108 zy_X7_markedPages im_X7_markedPages se_X7_markedPages ⟨Nat.le_of_ble_eq_true rfl, Nat.le_of_ble_eq_true rfl⟩ hK hP [0, 1] rfl rfl rfl rfl rfl hl.1 rfl (Nat.le_of_ble_eq_true rfl) ⟨Nat.zero_le _, Nat.zero_le _⟩ dX7_share_1 ?_
  refine lv_i2d hx hb dX7_share_4 ?_
  refine lv_ldc2d (v := 4618441417868443648) hx hb S.2.2.2.1 (S.2.2.2.2 _ kc_X7_188) dX7_share_5 ?_
  refine lv_ddiv hx hb dX7_share_8 (by exact hok.1) ?_
  exact zr_d hx hb hr hlk (by rfl) dX7_share_9
set_option maxHeartbeats 4000000 in
set_option maxRecDepth 100000 in
theorem c_X7_marked (l : Launch) (D : va_G) (ca : Nat → ClassId) (o : Nat → Nat) (f2 f3 f4 f5 f6 f7 f8 f9 f10 : Value) (thr : Int32) (sf : Nat → Int32) (hok : zOk (zSh (rMp sf))) (hN : [o 0, o 1].Nodup) : zMw l yX7_marked cX7_marked 1 (some .double) 3 64 D ca [(o 0, .inr (7, [.int thr, .ref (o 1), f2, f3, f4, f5, f6, f7, f8, f9, f10])), (o 1, .inl (ca 0, 99, .inl sf))] ([(o 0, .inr (7, [.int 0, .ref (o 1), f2, f3, f4, f5, f6, f7, f8, f9, f10])), (o 1, .inl (ca 0, 99, .inl sf))]) [.ref (o 0)] (some (.double (zSh (rMp sf)))) := by
  refine zMw_of (own := RX7) (by decide) rfl (Nat.le_of_ble_eq_true rfl) ?_
  intro p e s m args below meth c ls S hr hlk hP hK hl hS
  have hP : va_P D vwCl [(o 0, .inr (7, [.int thr, .ref (o 1), f2, f3, f4, f5, f6, f7, f8, f9, f10])), (o 1, .inl (ca 0, 99, .inl sf))] s.heap := hP
  have hS : va_S (zA [o 0, o 1]) s.heap s.heap [] := hS
  have hA : ∀ q ∈ [o 0, o 1], zA [o 0, o 1] q := fun _ h => h
  have hD := zDto (ws := [(o 0, .inr (7, [.int thr, .ref (o 1), f2, f3, f4, f5, f6, f7, f8, f9, f10])), (o 1, .inl (ca 0, 99, .inl sf))]) hN hA rfl
  have hx := S.1
  have hb := S.2.1
  have hl : lv_has ls 1 [(0, .ref (o 0))] := hl
  refine lv_aload_n hx hb dX7_marked_0 rfl (lv_at hl 0 rfl) ?_
  refine lv_iconst (v := 0) hx hb dX7_marked_1 (by decide) ?_
  refine z_put S in_lay_X7 tyX7_ok nmX7 hK hP hD hS rfl 0 rfl 0 (by decide) fl_X7_22 rfl rfl rfl rfl (Nat.le_of_ble_eq_true rfl) dX7_marked_2 (fun H locs hP hS => ?_)
  have hP : va_P D vwCl [(o 0, .inr (7, [.int 0, .ref (o 1), f2, f3, f4, f5, f6, f7, f8, f9, f10])), (o 1, .inl (ca 0, 99, .inl sf))] H := hP
  have hD := zDto (ws := [(o 0, .inr (7, [.int 0, .ref (o 1), f2, f3, f4, f5, f6, f7, f8, f9, f10])), (o 1, .inl (ca 0, 99, .inl sf))]) hN hA rfl
  refine lv_aload_n hx hb dX7_marked_5 rfl (lv_at hl 0 rfl) ?_
  refine zcr (As := []) (rest := []) (q0 := 0) S (c_X7_share l D ca o (.int 0) f2 f3 f4 f5 f6 f7 f8 f9 f10 sf (by assumption)) ml_X7_190 zy_X7_share im_X7_share se_X7_share ⟨Nat.le_of_ble_eq_true rfl, Nat.le_of_ble_eq_true rfl⟩ hK hP [0, 1] rfl rfl rfl rfl rfl hl.1 rfl (Nat.le_of_ble_eq_true rfl) ⟨Nat.zero_le _, Nat.zero_le _⟩ dX7_marked_6 ?_
  exact zw_d hx hb hr hlk hP hS ⟨by rfl, by rfl⟩ dX7_marked_9
set_option maxHeartbeats 4000000 in
set_option maxRecDepth 100000 in
theorem c_Jxe99ae_isNaN_b9ae7 (l : Launch) (D : va_G) (ca : Nat → ClassId) (v : UInt64) (hok : zOk v) : zMr l yJxe99ae_isNaN_b9ae7 cJxe99ae_isNaN_b9ae7 2 (some .boolean) 0 0 D ca [] [.double v] (.int (zb false)) := by
  refine zMr_of (own := RJxe99ae) (by decide) rfl (Nat.le_of_ble_eq_true rfl) ?_
  intro p e s m args below meth c ls S hr hlk hP hK hl
  have hx := S.1
  have hb := S.2.1
  have hl : lv_has ls 2 [(0, .double v)] := hl
  refine lv_dload_n hx hb dJxe99ae_isNaN_b9ae7_0 rfl (lv_at hl 0 rfl) ?_
  refine lv_dload_n hx hb dJxe99ae_isNaN_b9ae7_1 rfl (lv_at hl 0 rfl) ?_
  refine lv_dcmp hx hb dJxe99ae_isNaN_b9ae7_2 ?_
  rw [hok.2]
  refine lv_if_eq (tgt := 10) hx hb dJxe99ae_isNaN_b9ae7_3 (by decide) (fun _ => ?_) (fun h => absurd (by decide) h)
  refine lv_iconst (v := 0) hx hb dJxe99ae_isNaN_b9ae7_10 (by decide) ?_
  exact zr_z hx hb hr hlk (by rfl) dJxe99ae_isNaN_b9ae7_11
set_option maxHeartbeats 4000000 in
set_option maxRecDepth 100000 in
theorem c_Jxe99ae_doubleToLongBits_ccdee (l : Launch) (D : va_G) (ca : Nat → ClassId) (v : UInt64) (hok : zOk v) : zMr l yJxe99ae_doubleToLongBits_ccdee cJxe99ae_doubleToLongBits_ccdee 2 (some .long) 1 21 D ca [] [.double v] (.long v.toInt64) := by
  refine zMr_of (own := RJxe99ae) (by decide) rfl (Nat.le_of_ble_eq_true rfl) ?_
  intro p e s m args below meth c ls S hr hlk hP hK hl
  have hx := S.1
  have hb := S.2.1
  have hl : lv_has ls 2 [(0, .double v)] := hl
  refine lv_dload_n hx hb dJxe99ae_doubleToLongBits_ccdee_0 rfl (lv_at hl 0 rfl) ?_
  refine zcrS (As := [.double v]) (rest := []) S (c_Jxe99ae_isNaN_b9ae7 l D ca v (by assumption)) ml_Jxe99ae_122 zy_Jxe99ae_isNaN_b9ae7 st_Jxe99ae_isNaN_b9ae7 ⟨Nat.le_of_ble_eq_true rfl, Nat.le_of_ble_eq_true rfl⟩ hK hP [] rfl rfl hl.1 rfl (Nat.le_of_ble_eq_true rfl) ⟨Nat.zero_le _, Nat.zero_le _⟩ dJxe99ae_doubleToLongBits_ccdee_1 ?_
  refine lv_if_ne (tgt := 12) hx hb dJxe99ae_doubleToLongBits_ccdee_4 (by decide) (fun h => absurd (by decide) h) (fun _ => ?_)
  refine lv_dload_n hx hb dJxe99ae_doubleToLongBits_ccdee_7 rfl (lv_at hl 0 rfl) ?_
  refine vn_d2l (rest := []) hx hb (S.2.2.1.trans hl.1.symm) S.2.2.2.1 (S.2.2.2.2 _ ml_Jxe99ae_134) (S.2.2.2.2 _ na_d2rl) (S.2.2.2.2 _ st_d2rl) (S.2.2.2.2 _ in_Jxe99ae) (by decide) (Nat.le_of_ble_eq_true rfl) dJxe99ae_doubleToLongBits_ccdee_8 ?_
  exact zr_l hx hb hr hlk (by rfl) dJxe99ae_doubleToLongBits_ccdee_11
set_option maxHeartbeats 4000000 in
set_option maxRecDepth 100000 in
theorem c_X7_hashes (l : Launch) (D : va_G) (ca : Nat → ClassId) (o : Nat → Nat) (f0 f1 f2 f3 f4 f5 f6 f7 f8 f9 : Value) (hh : Int64) (v : Int64) (hN : [o 0].Nodup) : zMw l yX7_hashes cX7_hashes 3 none 0 0 D ca [(o 0, .inr (7, [f0, f1, f2, f3, f4, f5, f6, f7, f8, f9, .long hh]))] ([(o 0, .inr (7, [f0, f1, f2, f3, f4, f5, f6, f7, f8, f9, .long (zMix hh v)]))]) [.ref (o 0), .long v] none := by
  refine zMw_of (own := RX7) (by decide) rfl (Nat.le_of_ble_eq_true rfl) ?_
  intro p e s m args below meth c ls S hr hlk hP hK hl hS
  have hP : va_P D vwCl [(o 0, .inr (7, [f0, f1, f2, f3, f4, f5, f6, f7, f8, f9, .long hh]))] s.heap := hP
  have hS : va_S (zA [o 0]) s.heap s.heap [] := hS
  have hA : ∀ q ∈ [o 0], zA [o 0] q := fun _ h => h
  have hD := zDto (ws := [(o 0, .inr (7, [f0, f1, f2, f3, f4, f5, f6, f7, f8, f9, .long hh]))]) hN hA rfl
  have hx := S.1
  have hb := S.2.1
  have hl : lv_has ls 3 [(0, .ref (o 0)), (1, .long v)] := hl
  refine lv_aload_n hx hb dX7_hashes_0 rfl (lv_at hl 0 rfl) ?_
  refine lv_ldc2 (v := 31) hx hb S.2.2.2.1 (S.2.2.2.2 _ kc_X7_194) dX7_hashes_1 ?_
  refine lv_aload_n hx hb dX7_hashes_4 rfl (lv_at hl 0 rfl) ?_
  refine z_get S in_lay_X7 hK hP rfl 0 rfl 10 (by decide) fl_X7_196 rfl rfl dX7_hashes_5 ?_
  refine lv_lmul hx hb dX7_hashes_8 ?_
  refine lv_lload_n hx hb dX7_hashes_9 rfl (lv_at hl 1 rfl) ?_
  refine lv_ladd hx hb dX7_hashes_10 ?_
  refine z_put S in_lay_X7 tyX7_ok nmX7 hK hP hD hS rfl 0 rfl 10 (by decide) fl_X7_196 rfl rfl rfl rfl (Nat.le_of_ble_eq_true rfl) dX7_hashes_11 (fun H locs hP hS => ?_)
  have hP : va_P D vwCl [(o 0, .inr (7, [f0, f1, f2, f3, f4, f5, f6, f7, f8, f9, .long ((31 * hh) + v)]))] H := hP
  have hD := zDto (ws := [(o 0, .inr (7, [f0, f1, f2, f3, f4, f5, f6, f7, f8, f9, .long ((31 * hh) + v)]))]) hN hA rfl
  exact zw_v hx hb hr hlk hP hS (by rfl) dX7_hashes_14
set_option maxHeartbeats 4000000 in
set_option maxRecDepth 100000 in
theorem c_X7_hashesValue (l : Launch) (D : va_G) (ca : Nat → ClassId) (o : Nat → Nat) (f0 f2 f3 f4 f5 f6 f7 f8 f9 : Value) (hh : Int64) (sf : Nat → Int32) (v : Int32) (hN : [o 0, o 1].Nodup) : zMw l yX7_hashesValue cX7_hashesValue 3 none 5 118 D ca [(o 0, .inr (7, [f0, .ref (o 1), f2, f3, f4, f5, f6, f7, f8, f9, .long hh])), (o 1, .inl (ca 0, 99, .inl sf))] ([(o 0, .inr (7, [f0, .ref (o 1), f2, f3, f4, f5, f6, f7, f8, f9, .long (rHval sf v hh)])), (o 1, .inl (ca 0, 99, .inl sf))]) [.ref (o 0), .int v] none := by
  refine zMw_of (own := RX7) (by decide) rfl (Nat.le_of_ble_eq_true rfl) ?_
  intro p e s m args below meth c ls S hr hlk hP hK hl hS
  have hP : va_P D vwCl [(o 0, .inr (7, [f0, .ref (o 1), f2, f3, f4, f5, f6, f7, f8, f9, .long hh])), (o 1, .inl (ca 0, 99, .inl sf))] s.heap := hP
  have hS : va_S (zA [o 0, o 1]) s.heap s.heap [] := hS
  have hA : ∀ q ∈ [o 0, o 1], zA [o 0, o 1] q := fun _ h => h
  have hD := zDto (ws := [(o 0, .inr (7, [f0, .ref (o 1), f2, f3, f4, f5, f6, f7, f8, f9, .long hh])), (o 1, .inl (ca 0, 99, .inl sf))]) hN hA rfl
  have hx := S.1
  have hb := S.2.1
  have hl : lv_has ls 3 [(0, .ref (o 0)), (1, .int v)] := hl
  refine lv_iconst (v := 0) hx hb dX7_hashesValue_0 (by decide) ?_
  refine lv_istore_n (lv' := [(2, .int 0), (0, .ref (o 0)), (1, .int v)]) hx hb dX7_hashesValue_1 rfl hl (by decide) rfl (fun ls hl => ?_)
  have loop_0 : ∀ (f : Nat) (k : Nat) (x : Int64) (H : Heap) (locs : List Loc) (ls : Array Slot), k + f = 3 → rHv3 sf v 3 0 hh = rHv3 sf v f k x → lv_has ls 3 [(0, .ref (o 0)), (1, .int v), (2, .int (nI k))] → va_P D vwCl [(o 0, .inr (7, [f0, .ref (o 1), f2, f3, f4, f5, f6, f7, f8, f9, .long x])), (o 1, .inl (ca 0, 99, .inl sf))] H → va_S (zA [o 0, o 1]) s.heap H locs → W p l e { frames := 5, cells := 0, slots := 0, locals := 118 } s m args below meth c H locs 0 0 (MQ below (zQw D [o 0, o 1] ([(o 0, .inr (7, [f0, .ref (o 1), f2, f3, f4, f5, f6, f7, f8, f9, .long (rHval sf v hh)])), (o 1, .inl (ca 0, 99, .inl sf))]) none) args s 0 0 (zA [o 0, o 1])) (F0 m 2 ls []) := by
    intro f
    induction f with
    | zero =>
      intro k x H locs ls j1 j2 hl hP hS
      have hD := zDto (ws := [(o 0, .inr (7, [f0, .ref (o 1), f2, f3, f4, f5, f6, f7, f8, f9, .long x])), (o 1, .inl (ca 0, 99, .inl sf))]) hN hA rfl
      refine lv_iload_n hx hb dX7_hashesValue_2 rfl (lv_at hl 2 rfl) ?_
      refine lv_iconst (v := 3) hx hb dX7_hashesValue_3 (by decide) ?_
      refine zn_ge hx hb (x := k) (y := 3) (by omega) (by omega) (tgt := 47) dX7_hashesValue_4 (by decide) (fun c_4_2 => ?_) (fun h => False.elim (by omega))
      refine lv_aload_n hx hb dX7_hashesValue_47 rfl (lv_at hl 0 rfl) ?_
      refine lv_aload_n hx hb dX7_hashesValue_48 rfl (lv_at hl 0 rfl) ?_
      refine lv_iload_n hx hb dX7_hashesValue_49 rfl (lv_at hl 1 rfl) ?_
      refine zcr (As := [.int v]) (rest := [.ref (o 0)]) (q0 := 0) S (c_X7_tellsLies l D ca o f0 f2 f3 f4 f5 f6 f7 f8 f9 (.long x) sf v) ml_X7_176 zy_X7_tellsLies im_X7_tellsLies se_X7_tellsLies ⟨Nat.le_of_ble_eq_true rfl, Nat.le_of_ble_eq_true rfl⟩ hK hP [0, 1] rfl rfl rfl rfl rfl hl.1 rfl (Nat.le_of_ble_eq_true rfl) ⟨Nat.zero_le _, Nat.zero_le _⟩ dX7_hashesValue_50 ?_
      refine lv_i2l (v := (rLie sf v).toInt64) hx hb dX7_hashesValue_53 rfl ?_
      refine zcw (As := [.long ((rLie sf v).toInt64)]) (rest := []) (st1 := []) (q0 := 0) (lw := [o 0]) S (c_X7_hashes l D ca o f0 (.ref (o 1)) f2 f3 f4 f5 f6 f7 f8 f9 x  ((rLie sf v).toInt64) (znd_pick hN [0] rfl rfl)) ml_X7_200 zy_X7_hashes im_X7_hashes se_X7_hashes ⟨Nat.le_of_ble_eq_true rfl, Nat.le_of_ble_eq_true rfl⟩ hK hP hD hS [0] rfl rfl rfl rfl rfl rfl rfl hl.1 rfl rfl (Nat.le_of_ble_eq_true rfl) ⟨Nat.zero_le _, Nat.zero_le _⟩ dX7_hashesValue_54 (fun H locs hP hS => ?_)
      have hP : va_P D vwCl [(o 0, .inr (7, [f0, .ref (o 1), f2, f3, f4, f5, f6, f7, f8, f9, .long (zMix x ((rLie sf v).toInt64))])), (o 1, .inl (ca 0, 99, .inl sf))] H := hP
      have hD := zDto (ws := [(o 0, .inr (7, [f0, .ref (o 1), f2, f3, f4, f5, f6, f7, f8, f9, .long (zMix x ((rLie sf v).toInt64))])), (o 1, .inl (ca 0, 99, .inl sf))]) hN hA rfl
      refine lv_aload_n hx hb dX7_hashesValue_57 rfl (lv_at hl 0 rfl) ?_
      refine lv_aload_n hx hb dX7_hashesValue_58 rfl (lv_at hl 0 rfl) ?_
      refine lv_iload_n hx hb dX7_hashesValue_59 rfl (lv_at hl 1 rfl) ?_
      refine zcr (As := [.int v]) (rest := [.ref (o 0)]) (q0 := 0) S (c_X7_cheapestWay l D ca o f0 f2 f3 f4 f5 f6 f7 f8 f9 (.long (zMix x ((rLie sf v).toInt64))) sf v) ml_X7_179 zy_X7_cheapestWay im_X7_cheapestWay se_X7_cheapestWay ⟨Nat.le_of_ble_eq_true rfl, Nat.le_of_ble_eq_true rfl⟩ hK hP [0, 1] rfl rfl rfl rfl rfl hl.1 rfl (Nat.le_of_ble_eq_true rfl) ⟨Nat.zero_le _, Nat.zero_le _⟩ dX7_hashesValue_60 ?_
      refine lv_i2l (v := (nI (rLc sf v)).toInt64) hx hb dX7_hashesValue_63 rfl ?_
      refine zcw (As := [.long ((nI (rLc sf v)).toInt64)]) (rest := []) (st1 := []) (q0 := 0) (lw := [o 0]) S (c_X7_hashes l D ca o f0 (.ref (o 1)) f2 f3 f4 f5 f6 f7 f8 f9 (zMix x ((rLie sf v).toInt64))  ((nI (rLc sf v)).toInt64) (znd_pick hN [0] rfl rfl)) ml_X7_200 zy_X7_hashes im_X7_hashes se_X7_hashes ⟨Nat.le_of_ble_eq_true rfl, Nat.le_of_ble_eq_true rfl⟩ hK hP hD hS [0] rfl rfl rfl rfl rfl rfl rfl hl.1 rfl rfl (Nat.le_of_ble_eq_true rfl) ⟨Nat.zero_le _, Nat.zero_le _⟩ dX7_hashesValue_64 (fun H locs hP hS => ?_)
      have hP : va_P D vwCl [(o 0, .inr (7, [f0, .ref (o 1), f2, f3, f4, f5, f6, f7, f8, f9, .long (zMix (zMix x ((rLie sf v).toInt64)) ((nI (rLc sf v)).toInt64))])), (o 1, .inl (ca 0, 99, .inl sf))] H := hP
      have hD := zDto (ws := [(o 0, .inr (7, [f0, .ref (o 1), f2, f3, f4, f5, f6, f7, f8, f9, .long (zMix (zMix x ((rLie sf v).toInt64)) ((nI (rLc sf v)).toInt64))])), (o 1, .inl (ca 0, 99, .inl sf))]) hN hA rfl
      exact zw_v hx hb hr hlk hP hS (by rw [rHval, j2]; rfl) dX7_hashesValue_67
    | succ f ih =>
      intro k x H locs ls j1 j2 hl hP hS
      have hD := zDto (ws := [(o 0, .inr (7, [f0, .ref (o 1), f2, f3, f4, f5, f6, f7, f8, f9, .long x])), (o 1, .inl (ca 0, 99, .inl sf))]) hN hA rfl
      refine lv_iload_n hx hb dX7_hashesValue_2 rfl (lv_at hl 2 rfl) ?_
      refine lv_iconst (v := 3) hx hb dX7_hashesValue_3 (by decide) ?_
      refine zn_ge hx hb (x := k) (y := 3) (by omega) (by omega) (tgt := 47) dX7_hashesValue_4 (by decide) (fun h => False.elim (by omega)) (fun c_4_3 => ?_)
      refine lv_aload_n hx hb dX7_hashesValue_7 rfl (lv_at hl 0 rfl) ?_
      refine lv_aload_n hx hb dX7_hashesValue_8 rfl (lv_at hl 0 rfl) ?_
      refine lv_aload_n hx hb dX7_hashesValue_9 rfl (lv_at hl 0 rfl) ?_
      refine z_get S in_lay_X7 hK hP rfl 0 rfl 1 (by decide) fl_X7_7 rfl rfl dX7_hashesValue_10 ?_
      refine lv_iconst (v := 0) hx hb dX7_hashesValue_13 (by decide) ?_
      refine z_iald S hK hP 1 rfl (j := 0) (by omega) (by decide) dX7_hashesValue_14 ?_
      refine lv_iload_n hx hb dX7_hashesValue_15 rfl (lv_at hl 1 rfl) ?_
      refine lv_iload_n hx hb dX7_hashesValue_16 rfl (lv_at hl 2 rfl) ?_
      refine zcr (As := [.int (sf 0), .int v, .int (nI k)]) (rest := [.ref (o 0)]) (q0 := 0) S (c_X7_answers l D ca o f0 f2 f3 f4 f5 f6 f7 f8 f9 (.long x) sf (sf 0) v k (by omega)) ml_X7_126 zy_X7_answers im_X7_answers se_X7_answers ⟨Nat.le_of_ble_eq_true rfl, Nat.le_of_ble_eq_true rfl⟩ hK hP [0, 1] rfl rfl rfl rfl rfl hl.1 rfl (Nat.le_of_ble_eq_true rfl) ⟨Nat.zero_le _, Nat.zero_le _⟩ dX7_hashesValue_17 ?_
      refine lv_i2l (v := (rAns sf (sf 0) v k).toInt64) hx hb dX7_hashesValue_20 rfl ?_
      refine zcw (As := [.long ((rAns sf (sf 0) v k).toInt64)]) (rest := []) (st1 := []) (q0 := 0) (lw := [o 0]) S (c_X7_hashes l D ca o f0 (.ref (o 1)) f2 f3 f4 f5 f6 f7 f8 f9 x  ((rAns sf (sf 0) v k).toInt64) (znd_pick hN [0] rfl rfl)) ml_X7_200 zy_X7_hashes im_X7_hashes se_X7_hashes ⟨Nat.le_of_ble_eq_true rfl, Nat.le_of_ble_eq_true rfl⟩ hK hP hD hS [0] rfl rfl rfl rfl rfl rfl rfl hl.1 rfl rfl (Nat.le_of_ble_eq_true rfl) ⟨Nat.zero_le _, Nat.zero_le _⟩ dX7_hashesValue_21 (fun H locs hP hS => ?_)
      have hP : va_P D vwCl [(o 0, .inr (7, [f0, .ref (o 1), f2, f3, f4, f5, f6, f7, f8, f9, .long (zMix x ((rAns sf (sf 0) v k).toInt64))])), (o 1, .inl (ca 0, 99, .inl sf))] H := hP
      have hD := zDto (ws := [(o 0, .inr (7, [f0, .ref (o 1), f2, f3, f4, f5, f6, f7, f8, f9, .long (zMix x ((rAns sf (sf 0) v k).toInt64))])), (o 1, .inl (ca 0, 99, .inl sf))]) hN hA rfl
      refine lv_aload_n hx hb dX7_hashesValue_24 rfl (lv_at hl 0 rfl) ?_
      refine lv_aload_n hx hb dX7_hashesValue_25 rfl (lv_at hl 0 rfl) ?_
      refine lv_aload_n hx hb dX7_hashesValue_26 rfl (lv_at hl 0 rfl) ?_
      refine z_get S in_lay_X7 hK hP rfl 0 rfl 1 (by decide) fl_X7_7 rfl rfl dX7_hashesValue_27 ?_
      refine lv_iconst (v := 0) hx hb dX7_hashesValue_30 (by decide) ?_
      refine z_iald S hK hP 1 rfl (j := 0) (by omega) (by decide) dX7_hashesValue_31 ?_
      refine lv_iload_n hx hb dX7_hashesValue_32 rfl (lv_at hl 1 rfl) ?_
      refine lv_iload_n hx hb dX7_hashesValue_33 rfl (lv_at hl 2 rfl) ?_
      refine zcr (As := [.int (sf 0), .int v, .int (nI k)]) (rest := [.ref (o 0)]) (q0 := 0) S (c_X7_costs l D ca o f0 f2 f3 f4 f5 f6 f7 f8 f9 (.long (zMix x ((rAns sf (sf 0) v k).toInt64))) sf (sf 0) v k (by omega)) ml_X7_123 zy_X7_costs im_X7_costs se_X7_costs ⟨Nat.le_of_ble_eq_true rfl, Nat.le_of_ble_eq_true rfl⟩ hK hP [0, 1] rfl rfl rfl rfl rfl hl.1 rfl (Nat.le_of_ble_eq_true rfl) ⟨Nat.zero_le _, Nat.zero_le _⟩ dX7_hashesValue_34 ?_
      refine lv_i2l (v := (rCost sf (sf 0) v k).toInt64) hx hb dX7_hashesValue_37 rfl ?_
      refine zcw (As := [.long ((rCost sf (sf 0) v k).toInt64)]) (rest := []) (st1 := []) (q0 := 0) (lw := [o 0]) S (c_X7_hashes l D ca o f0 (.ref (o 1)) f2 f3 f4 f5 f6 f7 f8 f9 (zMix x ((rAns sf (sf 0) v k).toInt64))  ((rCost sf (sf 0) v k).toInt64) (znd_pick hN [0] rfl rfl)) ml_X7_200 zy_X7_hashes im_X7_hashes se_X7_hashes ⟨Nat.le_of_ble_eq_true rfl, Nat.le_of_ble_eq_true rfl⟩ hK hP hD hS [0] rfl rfl rfl rfl rfl rfl rfl hl.1 rfl rfl (Nat.le_of_ble_eq_true rfl) ⟨Nat.zero_le _, Nat.zero_le _⟩ dX7_hashesValue_38 (fun H locs hP hS => ?_)
      have hP : va_P D vwCl [(o 0, .inr (7, [f0, .ref (o 1), f2, f3, f4, f5, f6, f7, f8, f9, .long (zMix (zMix x ((rAns sf (sf 0) v k).toInt64)) ((rCost sf (sf 0) v k).toInt64))])), (o 1, .inl (ca 0, 99, .inl sf))] H := hP
      have hD := zDto (ws := [(o 0, .inr (7, [f0, .ref (o 1), f2, f3, f4, f5, f6, f7, f8, f9, .long (zMix (zMix x ((rAns sf (sf 0) v k).toInt64)) ((rCost sf (sf 0) v k).toInt64))])), (o 1, .inl (ca 0, 99, .inl sf))]) hN hA rfl
      refine lv_iinc (v := nI (k + 1)) (lv' := [(2, .int (nI (k + 1))), (0, .ref (o 0)), (1, .int v)]) hx hb dX7_hashesValue_41 hl (k := 2) rfl (zinc k 1) (by decide) rfl (fun ls hl => ?_)
      refine lv_goto (tgt := 2) hx hb dX7_hashesValue_44 (by decide) ?_
      exact ih (k + 1) (zMix (zMix x ((rAns sf (sf 0) v k).toInt64)) ((rCost sf (sf 0) v k).toInt64)) _ _ ls (by omega) (by rw [j2]; rfl) (lv_sub hl [1, 2, 0] rfl) hP hS
  exact loop_0 3 0 hh _ _ ls (by omega) (by rfl) (lv_sub hl [1, 2, 0] rfl) hP hS
set_option maxHeartbeats 4000000 in
set_option maxRecDepth 100000 in
theorem c_X7_digest (l : Launch) (D : va_G) (ca : Nat → ClassId) (o : Nat → Nat) (f2 f6 f7 f8 f9 : Value) (thr : Int32) (mm : Nat) (n : Nat) (hh : Int64) (sf : Nat → Int32) (g : Nat → Nat) (h0 : mm ≤ 6) (h1 : n ≤ 60) (h2 : ∀ k, g k < 128) (hok : zOk (zSh (rMp sf))) (hN : [o 0, o 1, o 3].Nodup) : zMw l yX7_digest cX7_digest 2 (some .long) 6 140 D ca [(o 0, .inr (7, [.int thr, .ref (o 1), f2, .int (nI mm), .ref (o 3), .int (nI n), f6, f7, f8, f9, .long hh])), (o 1, .inl (ca 0, 99, .inl sf)), (o 3, .inl (ca 0, 60, .inl (fun k => nI (g k))))] ([(o 0, .inr (7, [.int 0, .ref (o 1), f2, .int (nI mm), .ref (o 3), .int (nI n), f6, f7, f8, f9, .long (rDig sf mm g n)])), (o 1, .inl (ca 0, 99, .inl sf)), (o 3, .inl (ca 0, 60, .inl (fun k => nI (g k))))]) [.ref (o 0)] (some (.long (rDig sf mm g n))) := by
  refine zMw_of (own := RX7) (by decide) rfl (Nat.le_of_ble_eq_true rfl) ?_
  intro p e s m args below meth c ls S hr hlk hP hK hl hS
  have hP : va_P D vwCl [(o 0, .inr (7, [.int thr, .ref (o 1), f2, .int (nI mm), .ref (o 3), .int (nI n), f6, f7, f8, f9, .long hh])), (o 1, .inl (ca 0, 99, .inl sf)), (o 3, .inl (ca 0, 60, .inl (fun k => nI (g k))))] s.heap := hP
  have hS : va_S (zA [o 0, o 1, o 3]) s.heap s.heap [] := hS
  have hA : ∀ q ∈ [o 0, o 1, o 3], zA [o 0, o 1, o 3] q := fun _ h => h
  have hD := zDto (ws := [(o 0, .inr (7, [.int thr, .ref (o 1), f2, .int (nI mm), .ref (o 3), .int (nI n), f6, f7, f8, f9, .long hh])), (o 1, .inl (ca 0, 99, .inl sf)), (o 3, .inl (ca 0, 60, .inl (fun k => nI (g k))))]) hN hA rfl
  have hx := S.1
  have hb := S.2.1
  have hl : lv_has ls 2 [(0, .ref (o 0))] := hl
  refine lv_aload_n hx hb dX7_digest_0 rfl (lv_at hl 0 rfl) ?_
  refine lv_iconst (v := 0) hx hb dX7_digest_1 (by decide) ?_
  refine z_put S in_lay_X7 tyX7_ok nmX7 hK hP hD hS rfl 0 rfl 0 (by decide) fl_X7_22 rfl rfl rfl rfl (Nat.le_of_ble_eq_true rfl) dX7_digest_2 (fun H locs hP hS => ?_)
  have hP : va_P D vwCl [(o 0, .inr (7, [.int 0, .ref (o 1), f2, .int (nI mm), .ref (o 3), .int (nI n), f6, f7, f8, f9, .long hh])), (o 1, .inl (ca 0, 99, .inl sf)), (o 3, .inl (ca 0, 60, .inl (fun k => nI (g k))))] H := hP
  have hD := zDto (ws := [(o 0, .inr (7, [.int 0, .ref (o 1), f2, .int (nI mm), .ref (o 3), .int (nI n), f6, f7, f8, f9, .long hh])), (o 1, .inl (ca 0, 99, .inl sf)), (o 3, .inl (ca 0, 60, .inl (fun k => nI (g k))))]) hN hA rfl
  refine lv_aload_n hx hb dX7_digest_5 rfl (lv_at hl 0 rfl) ?_
  refine lv_ldc2 (v := 3467) hx hb S.2.2.2.1 (S.2.2.2.2 _ kc_X7_204) dX7_digest_6 ?_
  refine z_put S in_lay_X7 tyX7_ok nmX7 hK hP hD hS rfl 0 rfl 10 (by decide) fl_X7_196 rfl rfl rfl rfl (Nat.le_of_ble_eq_true rfl) dX7_digest_9 (fun H locs hP hS => ?_)
  have hP : va_P D vwCl [(o 0, .inr (7, [.int 0, .ref (o 1), f2, .int (nI mm), .ref (o 3), .int (nI n), f6, f7, f8, f9, .long 3467])), (o 1, .inl (ca 0, 99, .inl sf)), (o 3, .inl (ca 0, 60, .inl (fun k => nI (g k))))] H := hP
  have hD := zDto (ws := [(o 0, .inr (7, [.int 0, .ref (o 1), f2, .int (nI mm), .ref (o 3), .int (nI n), f6, f7, f8, f9, .long 3467])), (o 1, .inl (ca 0, 99, .inl sf)), (o 3, .inl (ca 0, 60, .inl (fun k => nI (g k))))]) hN hA rfl
  refine lv_iconst (v := 0) hx hb dX7_digest_12 (by decide) ?_
  refine lv_istore_n (lv' := [(1, .int 0), (0, .ref (o 0))]) hx hb dX7_digest_13 rfl hl (by decide) rfl (fun ls hl => ?_)
  have loop_0 : ∀ (f : Nat) (k : Nat) (x : Int64) (H : Heap) (locs : List Loc) (ls : Array Slot), k + f = 13 → zfold (fun w => (rTc sf mm w).toInt64) 13 0 (3467) = zfold (fun w => (rTc sf mm w).toInt64) f k x → lv_has ls 2 [(0, .ref (o 0)), (1, .int (nI k))] → va_P D vwCl [(o 0, .inr (7, [.int 0, .ref (o 1), f2, .int (nI mm), .ref (o 3), .int (nI n), f6, f7, f8, f9, .long x])), (o 1, .inl (ca 0, 99, .inl sf)), (o 3, .inl (ca 0, 60, .inl (fun k => nI (g k))))] H → va_S (zA [o 0, o 1, o 3]) s.heap H locs → W p l e { frames := 6, cells := 0, slots := 0, locals := 140 } s m args below meth c H locs 0 0 (MQ below (zQw D [o 0, o 1, o 3] ([(o 0, .inr (7, [.int 0, .ref (o 1), f2, .int (nI mm), .ref (o 3), .int (nI n), f6, f7, f8, f9, .long (rDig sf mm g n)])), (o 1, .inl (ca 0, 99, .inl sf)), (o 3, .inl (ca 0, 60, .inl (fun k => nI (g k))))]) (some (.long (rDig sf mm g n)))) args s 0 0 (zA [o 0, o 1, o 3])) (F0 m 14 ls []) := by
    intro f
    induction f with
    | zero =>
      intro k x H locs ls j1 j2 hl hP hS
      have hD := zDto (ws := [(o 0, .inr (7, [.int 0, .ref (o 1), f2, .int (nI mm), .ref (o 3), .int (nI n), f6, f7, f8, f9, .long x])), (o 1, .inl (ca 0, 99, .inl sf)), (o 3, .inl (ca 0, 60, .inl (fun k => nI (g k))))]) hN hA rfl
      refine lv_iload_n hx hb dX7_digest_14 rfl (lv_at hl 1 rfl) ?_
      refine lv_bipush (v := 13) hx hb dX7_digest_15 (by decide) ?_
      refine zn_ge hx hb (x := k) (y := 13) (by omega) (by omega) (tgt := 36) dX7_digest_17 (by decide) (fun c_17_2 => ?_) (fun h => False.elim (by omega))
      obtain rfl : x = rD1 sf mm := j2.symm
      refine lv_iconst (v := 0) hx hb dX7_digest_36 (by decide) ?_
      refine lv_istore_n (lv' := [(1, .int 0), (0, .ref (o 0))]) hx hb dX7_digest_37 rfl hl (by decide) rfl (fun ls hl => ?_)
      have loop_2 : ∀ (f : Nat) (k : Nat) (x : Int64) (H : Heap) (locs : List Loc) (ls : Array Slot), k + f = 96 → zfold (fun k => (rTs sf (k / 4) (k % 4)).toInt64) 96 0 (rD1 sf mm) = zfold (fun k => (rTs sf (k / 4) (k % 4)).toInt64) f k x → lv_has ls 2 [(0, .ref (o 0)), (1, .int (nI k))] → va_P D vwCl [(o 0, .inr (7, [.int 0, .ref (o 1), f2, .int (nI mm), .ref (o 3), .int (nI n), f6, f7, f8, f9, .long x])), (o 1, .inl (ca 0, 99, .inl sf)), (o 3, .inl (ca 0, 60, .inl (fun k => nI (g k))))] H → va_S (zA [o 0, o 1, o 3]) s.heap H locs → W p l e { frames := 6, cells := 0, slots := 0, locals := 140 } s m args below meth c H locs 0 0 (MQ below (zQw D [o 0, o 1, o 3] ([(o 0, .inr (7, [.int 0, .ref (o 1), f2, .int (nI mm), .ref (o 3), .int (nI n), f6, f7, f8, f9, .long (rDig sf mm g n)])), (o 1, .inl (ca 0, 99, .inl sf)), (o 3, .inl (ca 0, 60, .inl (fun k => nI (g k))))]) (some (.long (rDig sf mm g n)))) args s 0 0 (zA [o 0, o 1, o 3])) (F0 m 38 ls []) := by
        intro f
        induction f with
        | zero =>
          intro k x H locs ls j1 j2 hl hP hS
          have hD := zDto (ws := [(o 0, .inr (7, [.int 0, .ref (o 1), f2, .int (nI mm), .ref (o 3), .int (nI n), f6, f7, f8, f9, .long x])), (o 1, .inl (ca 0, 99, .inl sf)), (o 3, .inl (ca 0, 60, .inl (fun k => nI (g k))))]) hN hA rfl
          refine lv_iload_n hx hb dX7_digest_38 rfl (lv_at hl 1 rfl) ?_
          refine lv_bipush (v := 96) hx hb dX7_digest_39 (by decide) ?_
          refine zn_ge hx hb (x := k) (y := 96) (by omega) (by omega) (tgt := 65) dX7_digest_41 (by decide) (fun c_41_4 => ?_) (fun h => False.elim (by omega))
          obtain rfl : x = rD2 sf mm := j2.symm
          refine lv_iconst (v := 0) hx hb dX7_digest_65 (by decide) ?_
          refine lv_istore_n (lv' := [(1, .int 0), (0, .ref (o 0))]) hx hb dX7_digest_66 rfl hl (by decide) rfl (fun ls hl => ?_)
          have loop_4 : ∀ (f : Nat) (k : Nat) (x : Int64) (H : Heap) (locs : List Loc) (ls : Array Slot), k + f = 30 → zfold (fun k => (rTp sf (k / 5) (k % 5)).toInt64) 30 0 (rD2 sf mm) = zfold (fun k => (rTp sf (k / 5) (k % 5)).toInt64) f k x → lv_has ls 2 [(0, .ref (o 0)), (1, .int (nI k))] → va_P D vwCl [(o 0, .inr (7, [.int 0, .ref (o 1), f2, .int (nI mm), .ref (o 3), .int (nI n), f6, f7, f8, f9, .long x])), (o 1, .inl (ca 0, 99, .inl sf)), (o 3, .inl (ca 0, 60, .inl (fun k => nI (g k))))] H → va_S (zA [o 0, o 1, o 3]) s.heap H locs → W p l e { frames := 6, cells := 0, slots := 0, locals := 140 } s m args below meth c H locs 0 0 (MQ below (zQw D [o 0, o 1, o 3] ([(o 0, .inr (7, [.int 0, .ref (o 1), f2, .int (nI mm), .ref (o 3), .int (nI n), f6, f7, f8, f9, .long (rDig sf mm g n)])), (o 1, .inl (ca 0, 99, .inl sf)), (o 3, .inl (ca 0, 60, .inl (fun k => nI (g k))))]) (some (.long (rDig sf mm g n)))) args s 0 0 (zA [o 0, o 1, o 3])) (F0 m 67 ls []) := by
            intro f
            induction f with
            | zero =>
              intro k x H locs ls j1 j2 hl hP hS
              have hD := zDto (ws := [(o 0, .inr (7, [.int 0, .ref (o 1), f2, .int (nI mm), .ref (o 3), .int (nI n), f6, f7, f8, f9, .long x])), (o 1, .inl (ca 0, 99, .inl sf)), (o 3, .inl (ca 0, 60, .inl (fun k => nI (g k))))]) hN hA rfl
              refine lv_iload_n hx hb dX7_digest_67 rfl (lv_at hl 1 rfl) ?_
              refine lv_bipush (v := 30) hx hb dX7_digest_68 (by decide) ?_
              refine zn_ge hx hb (x := k) (y := 30) (by omega) (by omega) (tgt := 94) dX7_digest_70 (by decide) (fun c_70_6 => ?_) (fun h => False.elim (by omega))
              obtain rfl : x = rD3 sf mm := j2.symm
              refine lv_iconst (v := 0) hx hb dX7_digest_94 (by decide) ?_
              refine lv_istore_n (lv' := [(1, .int 0), (0, .ref (o 0))]) hx hb dX7_digest_95 rfl hl (by decide) rfl (fun ls hl => ?_)
              have loop_6 : ∀ (f : Nat) (k : Nat) (x : Int64) (H : Heap) (locs : List Loc) (ls : Array Slot), k + f = 12 → zfold (fun k => (rTa sf (k / 3) (k % 3)).toInt64) 12 0 (rD3 sf mm) = zfold (fun k => (rTa sf (k / 3) (k % 3)).toInt64) f k x → lv_has ls 2 [(0, .ref (o 0)), (1, .int (nI k))] → va_P D vwCl [(o 0, .inr (7, [.int 0, .ref (o 1), f2, .int (nI mm), .ref (o 3), .int (nI n), f6, f7, f8, f9, .long x])), (o 1, .inl (ca 0, 99, .inl sf)), (o 3, .inl (ca 0, 60, .inl (fun k => nI (g k))))] H → va_S (zA [o 0, o 1, o 3]) s.heap H locs → W p l e { frames := 6, cells := 0, slots := 0, locals := 140 } s m args below meth c H locs 0 0 (MQ below (zQw D [o 0, o 1, o 3] ([(o 0, .inr (7, [.int 0, .ref (o 1), f2, .int (nI mm), .ref (o 3), .int (nI n), f6, f7, f8, f9, .long (rDig sf mm g n)])), (o 1, .inl (ca 0, 99, .inl sf)), (o 3, .inl (ca 0, 60, .inl (fun k => nI (g k))))]) (some (.long (rDig sf mm g n)))) args s 0 0 (zA [o 0, o 1, o 3])) (F0 m 96 ls []) := by
                intro f
                induction f with
                | zero =>
                  intro k x H locs ls j1 j2 hl hP hS
                  have hD := zDto (ws := [(o 0, .inr (7, [.int 0, .ref (o 1), f2, .int (nI mm), .ref (o 3), .int (nI n), f6, f7, f8, f9, .long x])), (o 1, .inl (ca 0, 99, .inl sf)), (o 3, .inl (ca 0, 60, .inl (fun k => nI (g k))))]) hN hA rfl
                  refine lv_iload_n hx hb dX7_digest_96 rfl (lv_at hl 1 rfl) ?_
                  refine lv_bipush (v := 12) hx hb dX7_digest_97 (by decide) ?_
                  refine zn_ge hx hb (x := k) (y := 12) (by omega) (by omega) (tgt := 123) dX7_digest_99 (by decide) (fun c_99_8 => ?_) (fun h => False.elim (by omega))
                  obtain rfl : x = rD4 sf mm := j2.symm
                  refine lv_iconst (v := 0) hx hb dX7_digest_123 (by decide) ?_
                  refine lv_istore_n (lv' := [(1, .int 0), (0, .ref (o 0))]) hx hb dX7_digest_124 rfl hl (by decide) rfl (fun ls hl => ?_)
                  have loop_8 : ∀ (f : Nat) (k : Nat) (x : Int64) (H : Heap) (locs : List Loc) (ls : Array Slot), k + f = 10 → rHvals sf 10 0 (rD4 sf mm) = rHvals sf f k x → lv_has ls 2 [(0, .ref (o 0)), (1, .int (nI k))] → va_P D vwCl [(o 0, .inr (7, [.int 0, .ref (o 1), f2, .int (nI mm), .ref (o 3), .int (nI n), f6, f7, f8, f9, .long x])), (o 1, .inl (ca 0, 99, .inl sf)), (o 3, .inl (ca 0, 60, .inl (fun k => nI (g k))))] H → va_S (zA [o 0, o 1, o 3]) s.heap H locs → W p l e { frames := 6, cells := 0, slots := 0, locals := 140 } s m args below meth c H locs 0 0 (MQ below (zQw D [o 0, o 1, o 3] ([(o 0, .inr (7, [.int 0, .ref (o 1), f2, .int (nI mm), .ref (o 3), .int (nI n), f6, f7, f8, f9, .long (rDig sf mm g n)])), (o 1, .inl (ca 0, 99, .inl sf)), (o 3, .inl (ca 0, 60, .inl (fun k => nI (g k))))]) (some (.long (rDig sf mm g n)))) args s 0 0 (zA [o 0, o 1, o 3])) (F0 m 125 ls []) := by
                    intro f
                    induction f with
                    | zero =>
                      intro k x H locs ls j1 j2 hl hP hS
                      have hD := zDto (ws := [(o 0, .inr (7, [.int 0, .ref (o 1), f2, .int (nI mm), .ref (o 3), .int (nI n), f6, f7, f8, f9, .long x])), (o 1, .inl (ca 0, 99, .inl sf)), (o 3, .inl (ca 0, 60, .inl (fun k => nI (g k))))]) hN hA rfl
                      refine lv_iload_n hx hb dX7_digest_125 rfl (lv_at hl 1 rfl) ?_
                      refine lv_bipush (v := 10) hx hb dX7_digest_126 (by decide) ?_
                      refine zn_ge hx hb (x := k) (y := 10) (by omega) (by omega) (tgt := 142) dX7_digest_128 (by decide) (fun c_128_10 => ?_) (fun h => False.elim (by omega))
                      obtain rfl : x = rD5 sf mm := j2.symm
                      refine lv_aload_n hx hb dX7_digest_142 rfl (lv_at hl 0 rfl) ?_
                      refine lv_aload_n hx hb dX7_digest_143 rfl (lv_at hl 0 rfl) ?_
                      refine zcr (As := []) (rest := [.ref (o 0)]) (q0 := 0) S (c_X7_holderNow l D ca o (.int 0) f2 (.int (nI mm)) (.ref (o 3)) (.int (nI n)) f6 f7 f8 f9 (.long (rD5 sf mm)) sf ) ml_X7_185 zy_X7_holderNow im_X7_holderNow se_X7_holderNow ⟨Nat.le_of_ble_eq_true rfl, Nat.le_of_ble_eq_true rfl⟩ hK hP [0, 1] rfl rfl rfl rfl rfl hl.1 rfl (Nat.le_of_ble_eq_true rfl) ⟨Nat.zero_le _, Nat.zero_le _⟩ dX7_digest_144 ?_
                      refine lv_i2l (v := (rHo sf).toInt64) hx hb dX7_digest_147 rfl ?_
                      refine zcw (As := [.long ((rHo sf).toInt64)]) (rest := []) (st1 := []) (q0 := 0) (lw := [o 0]) S (c_X7_hashes l D ca o (.int 0) (.ref (o 1)) f2 (.int (nI mm)) (.ref (o 3)) (.int (nI n)) f6 f7 f8 f9 (rD5 sf mm)  ((rHo sf).toInt64) (znd_pick hN [0] rfl rfl)) ml_X7_200 zy_X7_hashes im_X7_hashes se_X7_hashes ⟨Nat.le_of_ble_eq_true rfl, Nat.le_of_ble_eq_true rfl⟩ hK hP hD hS [0] rfl rfl rfl rfl rfl rfl rfl hl.1 rfl rfl (Nat.le_of_ble_eq_true rfl) ⟨Nat.zero_le _, Nat.zero_le _⟩ dX7_digest_148 (fun H locs hP hS => ?_)
                      have hP : va_P D vwCl [(o 0, .inr (7, [.int 0, .ref (o 1), f2, .int (nI mm), .ref (o 3), .int (nI n), f6, f7, f8, f9, .long (zMix (rD5 sf mm) ((rHo sf).toInt64))])), (o 1, .inl (ca 0, 99, .inl sf)), (o 3, .inl (ca 0, 60, .inl (fun k => nI (g k))))] H := hP
                      have hD := zDto (ws := [(o 0, .inr (7, [.int 0, .ref (o 1), f2, .int (nI mm), .ref (o 3), .int (nI n), f6, f7, f8, f9, .long (zMix (rD5 sf mm) ((rHo sf).toInt64))])), (o 1, .inl (ca 0, 99, .inl sf)), (o 3, .inl (ca 0, 60, .inl (fun k => nI (g k))))]) hN hA rfl
                      refine lv_aload_n hx hb dX7_digest_151 rfl (lv_at hl 0 rfl) ?_
                      refine lv_aload_n hx hb dX7_digest_152 rfl (lv_at hl 0 rfl) ?_
                      refine zcr (As := []) (rest := [.ref (o 0)]) (q0 := 0) S (c_X7_share l D ca o (.int 0) f2 (.int (nI mm)) (.ref (o 3)) (.int (nI n)) f6 f7 f8 f9 (.long (zMix (rD5 sf mm) ((rHo sf).toInt64))) sf (by assumption)) ml_X7_190 zy_X7_share im_X7_share se_X7_share ⟨Nat.le_of_ble_eq_true rfl, Nat.le_of_ble_eq_true rfl⟩ hK hP [0, 1] rfl rfl rfl rfl rfl hl.1 rfl (Nat.le_of_ble_eq_true rfl) ⟨Nat.zero_le _, Nat.zero_le _⟩ dX7_digest_153 ?_
                      refine zcrS (As := [.double (zSh (rMp sf))]) (rest := [.ref (o 0)]) S (c_Jxe99ae_doubleToLongBits_ccdee l D ca (zSh (rMp sf)) (by assumption)) ml_X7_209 zy_Jxe99ae_doubleToLongBits_ccdee st_Jxe99ae_doubleToLongBits_ccdee ⟨Nat.le_of_ble_eq_true rfl, Nat.le_of_ble_eq_true rfl⟩ hK hP [] rfl rfl hl.1 rfl (Nat.le_of_ble_eq_true rfl) ⟨Nat.zero_le _, Nat.zero_le _⟩ dX7_digest_156 ?_
                      refine zcw (As := [.long ((zSh (rMp sf)).toInt64)]) (rest := []) (st1 := []) (q0 := 0) (lw := [o 0]) S (c_X7_hashes l D ca o (.int 0) (.ref (o 1)) f2 (.int (nI mm)) (.ref (o 3)) (.int (nI n)) f6 f7 f8 f9 (zMix (rD5 sf mm) ((rHo sf).toInt64))  ((zSh (rMp sf)).toInt64) (znd_pick hN [0] rfl rfl)) ml_X7_200 zy_X7_hashes im_X7_hashes se_X7_hashes ⟨Nat.le_of_ble_eq_true rfl, Nat.le_of_ble_eq_true rfl⟩ hK hP hD hS [0] rfl rfl rfl rfl rfl rfl rfl hl.1 rfl rfl (Nat.le_of_ble_eq_true rfl) ⟨Nat.zero_le _, Nat.zero_le _⟩ dX7_digest_159 (fun H locs hP hS => ?_)
                      have hP : va_P D vwCl [(o 0, .inr (7, [.int 0, .ref (o 1), f2, .int (nI mm), .ref (o 3), .int (nI n), f6, f7, f8, f9, .long (zMix (zMix (rD5 sf mm) ((rHo sf).toInt64)) ((zSh (rMp sf)).toInt64))])), (o 1, .inl (ca 0, 99, .inl sf)), (o 3, .inl (ca 0, 60, .inl (fun k => nI (g k))))] H := hP
                      have hD := zDto (ws := [(o 0, .inr (7, [.int 0, .ref (o 1), f2, .int (nI mm), .ref (o 3), .int (nI n), f6, f7, f8, f9, .long (zMix (zMix (rD5 sf mm) ((rHo sf).toInt64)) ((zSh (rMp sf)).toInt64))])), (o 1, .inl (ca 0, 99, .inl sf)), (o 3, .inl (ca 0, 60, .inl (fun k => nI (g k))))]) hN hA rfl
                      refine lv_aload_n hx hb dX7_digest_162 rfl (lv_at hl 0 rfl) ?_
                      refine lv_aload_n hx hb dX7_digest_163 rfl (lv_at hl 0 rfl) ?_
                      refine z_get S in_lay_X7 hK hP rfl 0 rfl 5 (by decide) fl_X7_129 rfl rfl dX7_digest_164 ?_
                      refine lv_i2l (v := (nI n).toInt64) hx hb dX7_digest_167 rfl ?_
                      refine zcw (As := [.long ((nI n).toInt64)]) (rest := []) (st1 := []) (q0 := 0) (lw := [o 0]) S (c_X7_hashes l D ca o (.int 0) (.ref (o 1)) f2 (.int (nI mm)) (.ref (o 3)) (.int (nI n)) f6 f7 f8 f9 (zMix (zMix (rD5 sf mm) ((rHo sf).toInt64)) ((zSh (rMp sf)).toInt64))  ((nI n).toInt64) (znd_pick hN [0] rfl rfl)) ml_X7_200 zy_X7_hashes im_X7_hashes se_X7_hashes ⟨Nat.le_of_ble_eq_true rfl, Nat.le_of_ble_eq_true rfl⟩ hK hP hD hS [0] rfl rfl rfl rfl rfl rfl rfl hl.1 rfl rfl (Nat.le_of_ble_eq_true rfl) ⟨Nat.zero_le _, Nat.zero_le _⟩ dX7_digest_168 (fun H locs hP hS => ?_)
                      have hP : va_P D vwCl [(o 0, .inr (7, [.int 0, .ref (o 1), f2, .int (nI mm), .ref (o 3), .int (nI n), f6, f7, f8, f9, .long (zMix (zMix (zMix (rD5 sf mm) ((rHo sf).toInt64)) ((zSh (rMp sf)).toInt64)) ((nI n).toInt64))])), (o 1, .inl (ca 0, 99, .inl sf)), (o 3, .inl (ca 0, 60, .inl (fun k => nI (g k))))] H := hP
                      have hD := zDto (ws := [(o 0, .inr (7, [.int 0, .ref (o 1), f2, .int (nI mm), .ref (o 3), .int (nI n), f6, f7, f8, f9, .long (zMix (zMix (zMix (rD5 sf mm) ((rHo sf).toInt64)) ((zSh (rMp sf)).toInt64)) ((nI n).toInt64))])), (o 1, .inl (ca 0, 99, .inl sf)), (o 3, .inl (ca 0, 60, .inl (fun k => nI (g k))))]) hN hA rfl
                      refine lv_iconst (v := 0) hx hb dX7_digest_171 (by decide) ?_
                      refine lv_istore_n (lv' := [(1, .int 0), (0, .ref (o 0))]) hx hb dX7_digest_172 rfl hl (by decide) rfl (fun ls hl => ?_)
                      have loop_10 : ∀ (f : Nat) (k : Nat) (x : Int64) (H : Heap) (locs : List Loc) (ls : Array Slot), k + f = n → zfold (fun k => (nI (g k)).toInt64) n 0 (rD6 sf mm n) = zfold (fun k => (nI (g k)).toInt64) f k x → lv_has ls 2 [(0, .ref (o 0)), (1, .int (nI k))] → va_P D vwCl [(o 0, .inr (7, [.int 0, .ref (o 1), f2, .int (nI mm), .ref (o 3), .int (nI n), f6, f7, f8, f9, .long x])), (o 1, .inl (ca 0, 99, .inl sf)), (o 3, .inl (ca 0, 60, .inl (fun k => nI (g k))))] H → va_S (zA [o 0, o 1, o 3]) s.heap H locs → W p l e { frames := 6, cells := 0, slots := 0, locals := 140 } s m args below meth c H locs 0 0 (MQ below (zQw D [o 0, o 1, o 3] ([(o 0, .inr (7, [.int 0, .ref (o 1), f2, .int (nI mm), .ref (o 3), .int (nI n), f6, f7, f8, f9, .long (rDig sf mm g n)])), (o 1, .inl (ca 0, 99, .inl sf)), (o 3, .inl (ca 0, 60, .inl (fun k => nI (g k))))]) (some (.long (rDig sf mm g n)))) args s 0 0 (zA [o 0, o 1, o 3])) (F0 m 173 ls []) := by
                        intro f
                        induction f with
                        | zero =>
                          intro k x H locs ls j1 j2 hl hP hS
                          have hD := zDto (ws := [(o 0, .inr (7, [.int 0, .ref (o 1), f2, .int (nI mm), .ref (o 3), .int (nI n), f6, f7, f8, f9, .long x])), (o 1, .inl (ca 0, 99, .inl sf)), (o 3, .inl (ca 0, 60, .inl (fun k => nI (g k))))]) hN hA rfl
                          refine lv_iload_n hx hb dX7_digest_173 rfl (lv_at hl 1 rfl) ?_
                          refine lv_aload_n hx hb dX7_digest_174 rfl (lv_at hl 0 rfl) ?_
                          refine z_get S in_lay_X7 hK hP rfl 0 rfl 5 (by decide) fl_X7_129 rfl rfl dX7_digest_175 ?_
                          refine zn_ge hx hb (x := k) (y := n) (by omega) (by omega) (tgt := 198) dX7_digest_178 (by decide) (fun c_178_12 => ?_) (fun h => False.elim (by omega))
                          obtain rfl : x = rDig sf mm g n := j2.symm
                          refine lv_aload_n hx hb dX7_digest_198 rfl (lv_at hl 0 rfl) ?_
                          refine z_get S in_lay_X7 hK hP rfl 0 rfl 10 (by decide) fl_X7_196 rfl rfl dX7_digest_199 ?_
                          exact zw_l hx hb hr hlk hP hS ⟨by rfl, by rfl⟩ dX7_digest_202
                        | succ f ih =>
                          intro k x H locs ls j1 j2 hl hP hS
                          have hD := zDto (ws := [(o 0, .inr (7, [.int 0, .ref (o 1), f2, .int (nI mm), .ref (o 3), .int (nI n), f6, f7, f8, f9, .long x])), (o 1, .inl (ca 0, 99, .inl sf)), (o 3, .inl (ca 0, 60, .inl (fun k => nI (g k))))]) hN hA rfl
                          refine lv_iload_n hx hb dX7_digest_173 rfl (lv_at hl 1 rfl) ?_
                          refine lv_aload_n hx hb dX7_digest_174 rfl (lv_at hl 0 rfl) ?_
                          refine z_get S in_lay_X7 hK hP rfl 0 rfl 5 (by decide) fl_X7_129 rfl rfl dX7_digest_175 ?_
                          refine zn_ge hx hb (x := k) (y := n) (by omega) (by omega) (tgt := 198) dX7_digest_178 (by decide) (fun h => False.elim (by omega)) (fun c_178_13 => ?_)
                          refine lv_aload_n hx hb dX7_digest_181 rfl (lv_at hl 0 rfl) ?_
                          refine lv_aload_n hx hb dX7_digest_182 rfl (lv_at hl 0 rfl) ?_
                          refine z_get S in_lay_X7 hK hP rfl 0 rfl 4 (by decide) fl_X7_16 rfl rfl dX7_digest_183 ?_
                          refine lv_iload_n hx hb dX7_digest_186 rfl (lv_at hl 1 rfl) ?_
                          refine z_iald S hK hP 2 rfl (j := k) (by omega) (by decide) dX7_digest_187 ?_
                          refine lv_i2l (v := (nI (g k)).toInt64) hx hb dX7_digest_188 rfl ?_
                          refine zcw (As := [.long ((nI (g k)).toInt64)]) (rest := []) (st1 := []) (q0 := 0) (lw := [o 0]) S (c_X7_hashes l D ca o (.int 0) (.ref (o 1)) f2 (.int (nI mm)) (.ref (o 3)) (.int (nI n)) f6 f7 f8 f9 x  ((nI (g k)).toInt64) (znd_pick hN [0] rfl rfl)) ml_X7_200 zy_X7_hashes im_X7_hashes se_X7_hashes ⟨Nat.le_of_ble_eq_true rfl, Nat.le_of_ble_eq_true rfl⟩ hK hP hD hS [0] rfl rfl rfl rfl rfl rfl rfl hl.1 rfl rfl (Nat.le_of_ble_eq_true rfl) ⟨Nat.zero_le _, Nat.zero_le _⟩ dX7_digest_189 (fun H locs hP hS => ?_)
                          have hP : va_P D vwCl [(o 0, .inr (7, [.int 0, .ref (o 1), f2, .int (nI mm), .ref (o 3), .int (nI n), f6, f7, f8, f9, .long (zMix x ((nI (g k)).toInt64))])), (o 1, .inl (ca 0, 99, .inl sf)), (o 3, .inl (ca 0, 60, .inl (fun k => nI (g k))))] H := hP
                          have hD := zDto (ws := [(o 0, .inr (7, [.int 0, .ref (o 1), f2, .int (nI mm), .ref (o 3), .int (nI n), f6, f7, f8, f9, .long (zMix x ((nI (g k)).toInt64))])), (o 1, .inl (ca 0, 99, .inl sf)), (o 3, .inl (ca 0, 60, .inl (fun k => nI (g k))))]) hN hA rfl
                          refine lv_iinc (v := nI (k + 1)) (lv' := [(1, .int (nI (k + 1))), (0, .ref (o 0))]) hx hb dX7_digest_192 hl (k := 1) rfl (zinc k 1) (by decide) rfl (fun ls hl => ?_)
                          refine lv_goto (tgt := 173) hx hb dX7_digest_195 (by decide) ?_
                          exact ih (k + 1) (zMix x ((nI (g k)).toInt64)) _ _ ls (by omega) (by rw [j2]; rfl) (lv_sub hl [1, 0] rfl) hP hS
                      exact loop_10 n 0 (zMix (zMix (zMix (rD5 sf mm) ((rHo sf).toInt64)) ((zSh (rMp sf)).toInt64)) ((nI n).toInt64)) _ _ ls (by omega) (by rfl) (lv_sub hl [1, 0] rfl) hP hS
                    | succ f ih =>
                      intro k x H locs ls j1 j2 hl hP hS
                      have hD := zDto (ws := [(o 0, .inr (7, [.int 0, .ref (o 1), f2, .int (nI mm), .ref (o 3), .int (nI n), f6, f7, f8, f9, .long x])), (o 1, .inl (ca 0, 99, .inl sf)), (o 3, .inl (ca 0, 60, .inl (fun k => nI (g k))))]) hN hA rfl
                      refine lv_iload_n hx hb dX7_digest_125 rfl (lv_at hl 1 rfl) ?_
                      refine lv_bipush (v := 10) hx hb dX7_digest_126 (by decide) ?_
                      refine zn_ge hx hb (x := k) (y := 10) (by omega) (by omega) (tgt := 142) dX7_digest_128 (by decide) (fun h => False.elim (by omega)) (fun c_128_14 => ?_)
                      refine lv_aload_n hx hb dX7_digest_131 rfl (lv_at hl 0 rfl) ?_
                      refine lv_iload_n hx hb dX7_digest_132 rfl (lv_at hl 1 rfl) ?_
                      refine zcw (As := [.int (nI k)]) (rest := []) (st1 := []) (q0 := 0) (lw := [o 0, o 1]) S (c_X7_hashesValue l D ca o (.int 0) f2 (.int (nI mm)) (.ref (o 3)) (.int (nI n)) f6 f7 f8 f9 x sf (nI k) (znd_pick hN [0, 1] rfl rfl)) ml_X7_206 zy_X7_hashesValue im_X7_hashesValue se_X7_hashesValue ⟨Nat.le_of_ble_eq_true rfl, Nat.le_of_ble_eq_true rfl⟩ hK hP hD hS [0, 1] rfl rfl rfl rfl rfl rfl rfl hl.1 rfl rfl (Nat.le_of_ble_eq_true rfl) ⟨Nat.zero_le _, Nat.zero_le _⟩ dX7_digest_133 (fun H locs hP hS => ?_)
                      have hP : va_P D vwCl [(o 0, .inr (7, [.int 0, .ref (o 1), f2, .int (nI mm), .ref (o 3), .int (nI n), f6, f7, f8, f9, .long (rHval sf (nI k) x)])), (o 1, .inl (ca 0, 99, .inl sf)), (o 3, .inl (ca 0, 60, .inl (fun k => nI (g k))))] H := hP
                      have hD := zDto (ws := [(o 0, .inr (7, [.int 0, .ref (o 1), f2, .int (nI mm), .ref (o 3), .int (nI n), f6, f7, f8, f9, .long (rHval sf (nI k) x)])), (o 1, .inl (ca 0, 99, .inl sf)), (o 3, .inl (ca 0, 60, .inl (fun k => nI (g k))))]) hN hA rfl
                      refine lv_iinc (v := nI (k + 1)) (lv' := [(1, .int (nI (k + 1))), (0, .ref (o 0))]) hx hb dX7_digest_136 hl (k := 1) rfl (zinc k 1) (by decide) rfl (fun ls hl => ?_)
                      refine lv_goto (tgt := 125) hx hb dX7_digest_139 (by decide) ?_
                      exact ih (k + 1) (rHval sf (nI k) x) _ _ ls (by omega) (by rw [j2]; rfl) (lv_sub hl [1, 0] rfl) hP hS
                  exact loop_8 10 0 (rD4 sf mm) _ _ ls (by omega) (by rfl) (lv_sub hl [1, 0] rfl) hP hS
                | succ f ih =>
                  intro k x H locs ls j1 j2 hl hP hS
                  have hD := zDto (ws := [(o 0, .inr (7, [.int 0, .ref (o 1), f2, .int (nI mm), .ref (o 3), .int (nI n), f6, f7, f8, f9, .long x])), (o 1, .inl (ca 0, 99, .inl sf)), (o 3, .inl (ca 0, 60, .inl (fun k => nI (g k))))]) hN hA rfl
                  refine lv_iload_n hx hb dX7_digest_96 rfl (lv_at hl 1 rfl) ?_
                  refine lv_bipush (v := 12) hx hb dX7_digest_97 (by decide) ?_
                  refine zn_ge hx hb (x := k) (y := 12) (by omega) (by omega) (tgt := 123) dX7_digest_99 (by decide) (fun h => False.elim (by omega)) (fun c_99_15 => ?_)
                  refine lv_aload_n hx hb dX7_digest_102 rfl (lv_at hl 0 rfl) ?_
                  refine lv_aload_n hx hb dX7_digest_103 rfl (lv_at hl 0 rfl) ?_
                  refine lv_iload_n hx hb dX7_digest_104 rfl (lv_at hl 1 rfl) ?_
                  refine lv_iconst (v := 3) hx hb dX7_digest_105 (by decide) ?_
                  refine zn_div hx hb (x := k) (y := 3) (z := k / 3) (by omega) (by omega) (by omega) (by first | rfl | omega) dX7_digest_106 ?_
                  refine lv_iload_n hx hb dX7_digest_107 rfl (lv_at hl 1 rfl) ?_
                  refine lv_iconst (v := 3) hx hb dX7_digest_108 (by decide) ?_
                  refine zn_rem hx hb (x := k) (y := 3) (z := k % 3) (by omega) (by omega) (by omega) (by first | rfl | omega) dX7_digest_109 ?_
                  refine zcr (As := [.int (nI (k / 3)), .int (nI (k % 3))]) (rest := [.ref (o 0)]) (q0 := 0) S (c_X7_tellsAsker l D ca o (.int 0) f2 (.int (nI mm)) (.ref (o 3)) (.int (nI n)) f6 f7 f8 f9 (.long x) sf (k / 3) (k % 3) (by omega) (by omega)) ml_X7_170 zy_X7_tellsAsker im_X7_tellsAsker se_X7_tellsAsker ⟨Nat.le_of_ble_eq_true rfl, Nat.le_of_ble_eq_true rfl⟩ hK hP [0, 1] rfl rfl rfl rfl rfl hl.1 rfl (Nat.le_of_ble_eq_true rfl) ⟨Nat.zero_le _, Nat.zero_le _⟩ dX7_digest_110 ?_
                  refine lv_i2l (v := (rTa sf (k / 3) (k % 3)).toInt64) hx hb dX7_digest_113 rfl ?_
                  refine zcw (As := [.long ((rTa sf (k / 3) (k % 3)).toInt64)]) (rest := []) (st1 := []) (q0 := 0) (lw := [o 0]) S (c_X7_hashes l D ca o (.int 0) (.ref (o 1)) f2 (.int (nI mm)) (.ref (o 3)) (.int (nI n)) f6 f7 f8 f9 x  ((rTa sf (k / 3) (k % 3)).toInt64) (znd_pick hN [0] rfl rfl)) ml_X7_200 zy_X7_hashes im_X7_hashes se_X7_hashes ⟨Nat.le_of_ble_eq_true rfl, Nat.le_of_ble_eq_true rfl⟩ hK hP hD hS [0] rfl rfl rfl rfl rfl rfl rfl hl.1 rfl rfl (Nat.le_of_ble_eq_true rfl) ⟨Nat.zero_le _, Nat.zero_le _⟩ dX7_digest_114 (fun H locs hP hS => ?_)
                  have hP : va_P D vwCl [(o 0, .inr (7, [.int 0, .ref (o 1), f2, .int (nI mm), .ref (o 3), .int (nI n), f6, f7, f8, f9, .long (zMix x ((rTa sf (k / 3) (k % 3)).toInt64))])), (o 1, .inl (ca 0, 99, .inl sf)), (o 3, .inl (ca 0, 60, .inl (fun k => nI (g k))))] H := hP
                  have hD := zDto (ws := [(o 0, .inr (7, [.int 0, .ref (o 1), f2, .int (nI mm), .ref (o 3), .int (nI n), f6, f7, f8, f9, .long (zMix x ((rTa sf (k / 3) (k % 3)).toInt64))])), (o 1, .inl (ca 0, 99, .inl sf)), (o 3, .inl (ca 0, 60, .inl (fun k => nI (g k))))]) hN hA rfl
                  refine lv_iinc (v := nI (k + 1)) (lv' := [(1, .int (nI (k + 1))), (0, .ref (o 0))]) hx hb dX7_digest_117 hl (k := 1) rfl (zinc k 1) (by decide) rfl (fun ls hl => ?_)
                  refine lv_goto (tgt := 96) hx hb dX7_digest_120 (by decide) ?_
                  exact ih (k + 1) (zMix x ((rTa sf (k / 3) (k % 3)).toInt64)) _ _ ls (by omega) (by rw [j2]; rfl) (lv_sub hl [1, 0] rfl) hP hS
              exact loop_6 12 0 (rD3 sf mm) _ _ ls (by omega) (by rfl) (lv_sub hl [1, 0] rfl) hP hS
            | succ f ih =>
              intro k x H locs ls j1 j2 hl hP hS
              have hD := zDto (ws := [(o 0, .inr (7, [.int 0, .ref (o 1), f2, .int (nI mm), .ref (o 3), .int (nI n), f6, f7, f8, f9, .long x])), (o 1, .inl (ca 0, 99, .inl sf)), (o 3, .inl (ca 0, 60, .inl (fun k => nI (g k))))]) hN hA rfl
              refine lv_iload_n hx hb dX7_digest_67 rfl (lv_at hl 1 rfl) ?_
              refine lv_bipush (v := 30) hx hb dX7_digest_68 (by decide) ?_
              refine zn_ge hx hb (x := k) (y := 30) (by omega) (by omega) (tgt := 94) dX7_digest_70 (by decide) (fun h => False.elim (by omega)) (fun c_70_16 => ?_)
              refine lv_aload_n hx hb dX7_digest_73 rfl (lv_at hl 0 rfl) ?_
              refine lv_aload_n hx hb dX7_digest_74 rfl (lv_at hl 0 rfl) ?_
              refine lv_iload_n hx hb dX7_digest_75 rfl (lv_at hl 1 rfl) ?_
              refine lv_iconst (v := 5) hx hb dX7_digest_76 (by decide) ?_
              refine zn_div hx hb (x := k) (y := 5) (z := k / 5) (by omega) (by omega) (by omega) (by first | rfl | omega) dX7_digest_77 ?_
              refine lv_iload_n hx hb dX7_digest_78 rfl (lv_at hl 1 rfl) ?_
              refine lv_iconst (v := 5) hx hb dX7_digest_79 (by decide) ?_
              refine zn_rem hx hb (x := k) (y := 5) (z := k % 5) (by omega) (by omega) (by omega) (by first | rfl | omega) dX7_digest_80 ?_
              refine zcr (As := [.int (nI (k / 5)), .int (nI (k % 5))]) (rest := [.ref (o 0)]) (q0 := 0) S (c_X7_tellsPage l D ca o (.int 0) f2 (.int (nI mm)) (.ref (o 3)) (.int (nI n)) f6 f7 f8 f9 (.long x) sf (k / 5) (k % 5) (by omega) (by omega)) ml_X7_167 zy_X7_tellsPage im_X7_tellsPage se_X7_tellsPage ⟨Nat.le_of_ble_eq_true rfl, Nat.le_of_ble_eq_true rfl⟩ hK hP [0, 1] rfl rfl rfl rfl rfl hl.1 rfl (Nat.le_of_ble_eq_true rfl) ⟨Nat.zero_le _, Nat.zero_le _⟩ dX7_digest_81 ?_
              refine lv_i2l (v := (rTp sf (k / 5) (k % 5)).toInt64) hx hb dX7_digest_84 rfl ?_
              refine zcw (As := [.long ((rTp sf (k / 5) (k % 5)).toInt64)]) (rest := []) (st1 := []) (q0 := 0) (lw := [o 0]) S (c_X7_hashes l D ca o (.int 0) (.ref (o 1)) f2 (.int (nI mm)) (.ref (o 3)) (.int (nI n)) f6 f7 f8 f9 x  ((rTp sf (k / 5) (k % 5)).toInt64) (znd_pick hN [0] rfl rfl)) ml_X7_200 zy_X7_hashes im_X7_hashes se_X7_hashes ⟨Nat.le_of_ble_eq_true rfl, Nat.le_of_ble_eq_true rfl⟩ hK hP hD hS [0] rfl rfl rfl rfl rfl rfl rfl hl.1 rfl rfl (Nat.le_of_ble_eq_true rfl) ⟨Nat.zero_le _, Nat.zero_le _⟩ dX7_digest_85 (fun H locs hP hS => ?_)
              have hP : va_P D vwCl [(o 0, .inr (7, [.int 0, .ref (o 1), f2, .int (nI mm), .ref (o 3), .int (nI n), f6, f7, f8, f9, .long (zMix x ((rTp sf (k / 5) (k % 5)).toInt64))])), (o 1, .inl (ca 0, 99, .inl sf)), (o 3, .inl (ca 0, 60, .inl (fun k => nI (g k))))] H := hP
              have hD := zDto (ws := [(o 0, .inr (7, [.int 0, .ref (o 1), f2, .int (nI mm), .ref (o 3), .int (nI n), f6, f7, f8, f9, .long (zMix x ((rTp sf (k / 5) (k % 5)).toInt64))])), (o 1, .inl (ca 0, 99, .inl sf)), (o 3, .inl (ca 0, 60, .inl (fun k => nI (g k))))]) hN hA rfl
              refine lv_iinc (v := nI (k + 1)) (lv' := [(1, .int (nI (k + 1))), (0, .ref (o 0))]) hx hb dX7_digest_88 hl (k := 1) rfl (zinc k 1) (by decide) rfl (fun ls hl => ?_)
              refine lv_goto (tgt := 67) hx hb dX7_digest_91 (by decide) ?_
              exact ih (k + 1) (zMix x ((rTp sf (k / 5) (k % 5)).toInt64)) _ _ ls (by omega) (by rw [j2]; rfl) (lv_sub hl [1, 0] rfl) hP hS
          exact loop_4 30 0 (rD2 sf mm) _ _ ls (by omega) (by rfl) (lv_sub hl [1, 0] rfl) hP hS
        | succ f ih =>
          intro k x H locs ls j1 j2 hl hP hS
          have hD := zDto (ws := [(o 0, .inr (7, [.int 0, .ref (o 1), f2, .int (nI mm), .ref (o 3), .int (nI n), f6, f7, f8, f9, .long x])), (o 1, .inl (ca 0, 99, .inl sf)), (o 3, .inl (ca 0, 60, .inl (fun k => nI (g k))))]) hN hA rfl
          refine lv_iload_n hx hb dX7_digest_38 rfl (lv_at hl 1 rfl) ?_
          refine lv_bipush (v := 96) hx hb dX7_digest_39 (by decide) ?_
          refine zn_ge hx hb (x := k) (y := 96) (by omega) (by omega) (tgt := 65) dX7_digest_41 (by decide) (fun h => False.elim (by omega)) (fun c_41_17 => ?_)
          refine lv_aload_n hx hb dX7_digest_44 rfl (lv_at hl 0 rfl) ?_
          refine lv_aload_n hx hb dX7_digest_45 rfl (lv_at hl 0 rfl) ?_
          refine lv_iload_n hx hb dX7_digest_46 rfl (lv_at hl 1 rfl) ?_
          refine lv_iconst (v := 4) hx hb dX7_digest_47 (by decide) ?_
          refine zn_div hx hb (x := k) (y := 4) (z := k / 4) (by omega) (by omega) (by omega) (by first | rfl | omega) dX7_digest_48 ?_
          refine lv_iload_n hx hb dX7_digest_49 rfl (lv_at hl 1 rfl) ?_
          refine lv_iconst (v := 4) hx hb dX7_digest_50 (by decide) ?_
          refine zn_rem hx hb (x := k) (y := 4) (z := k % 4) (by omega) (by omega) (by omega) (by first | rfl | omega) dX7_digest_51 ?_
          refine zcr (As := [.int (nI (k / 4)), .int (nI (k % 4))]) (rest := [.ref (o 0)]) (q0 := 0) S (c_X7_tellsSlot l D ca o (.int 0) f2 (.int (nI mm)) (.ref (o 3)) (.int (nI n)) f6 f7 f8 f9 (.long x) sf (k / 4) (k % 4) (by omega) (by omega)) ml_X7_160 zy_X7_tellsSlot im_X7_tellsSlot se_X7_tellsSlot ⟨Nat.le_of_ble_eq_true rfl, Nat.le_of_ble_eq_true rfl⟩ hK hP [0, 1] rfl rfl rfl rfl rfl hl.1 rfl (Nat.le_of_ble_eq_true rfl) ⟨Nat.zero_le _, Nat.zero_le _⟩ dX7_digest_52 ?_
          refine lv_i2l (v := (rTs sf (k / 4) (k % 4)).toInt64) hx hb dX7_digest_55 rfl ?_
          refine zcw (As := [.long ((rTs sf (k / 4) (k % 4)).toInt64)]) (rest := []) (st1 := []) (q0 := 0) (lw := [o 0]) S (c_X7_hashes l D ca o (.int 0) (.ref (o 1)) f2 (.int (nI mm)) (.ref (o 3)) (.int (nI n)) f6 f7 f8 f9 x  ((rTs sf (k / 4) (k % 4)).toInt64) (znd_pick hN [0] rfl rfl)) ml_X7_200 zy_X7_hashes im_X7_hashes se_X7_hashes ⟨Nat.le_of_ble_eq_true rfl, Nat.le_of_ble_eq_true rfl⟩ hK hP hD hS [0] rfl rfl rfl rfl rfl rfl rfl hl.1 rfl rfl (Nat.le_of_ble_eq_true rfl) ⟨Nat.zero_le _, Nat.zero_le _⟩ dX7_digest_56 (fun H locs hP hS => ?_)
          have hP : va_P D vwCl [(o 0, .inr (7, [.int 0, .ref (o 1), f2, .int (nI mm), .ref (o 3), .int (nI n), f6, f7, f8, f9, .long (zMix x ((rTs sf (k / 4) (k % 4)).toInt64))])), (o 1, .inl (ca 0, 99, .inl sf)), (o 3, .inl (ca 0, 60, .inl (fun k => nI (g k))))] H := hP
          have hD := zDto (ws := [(o 0, .inr (7, [.int 0, .ref (o 1), f2, .int (nI mm), .ref (o 3), .int (nI n), f6, f7, f8, f9, .long (zMix x ((rTs sf (k / 4) (k % 4)).toInt64))])), (o 1, .inl (ca 0, 99, .inl sf)), (o 3, .inl (ca 0, 60, .inl (fun k => nI (g k))))]) hN hA rfl
          refine lv_iinc (v := nI (k + 1)) (lv' := [(1, .int (nI (k + 1))), (0, .ref (o 0))]) hx hb dX7_digest_59 hl (k := 1) rfl (zinc k 1) (by decide) rfl (fun ls hl => ?_)
          refine lv_goto (tgt := 38) hx hb dX7_digest_62 (by decide) ?_
          exact ih (k + 1) (zMix x ((rTs sf (k / 4) (k % 4)).toInt64)) _ _ ls (by omega) (by rw [j2]; rfl) (lv_sub hl [1, 0] rfl) hP hS
      exact loop_2 96 0 (rD1 sf mm) _ _ ls (by omega) (by rfl) (lv_sub hl [1, 0] rfl) hP hS
    | succ f ih =>
      intro k x H locs ls j1 j2 hl hP hS
      have hD := zDto (ws := [(o 0, .inr (7, [.int 0, .ref (o 1), f2, .int (nI mm), .ref (o 3), .int (nI n), f6, f7, f8, f9, .long x])), (o 1, .inl (ca 0, 99, .inl sf)), (o 3, .inl (ca 0, 60, .inl (fun k => nI (g k))))]) hN hA rfl
      refine lv_iload_n hx hb dX7_digest_14 rfl (lv_at hl 1 rfl) ?_
      refine lv_bipush (v := 13) hx hb dX7_digest_15 (by decide) ?_
      refine zn_ge hx hb (x := k) (y := 13) (by omega) (by omega) (tgt := 36) dX7_digest_17 (by decide) (fun h => False.elim (by omega)) (fun c_17_18 => ?_)
      refine lv_aload_n hx hb dX7_digest_20 rfl (lv_at hl 0 rfl) ?_
      refine lv_aload_n hx hb dX7_digest_21 rfl (lv_at hl 0 rfl) ?_
      refine lv_iload_n hx hb dX7_digest_22 rfl (lv_at hl 1 rfl) ?_
      refine zcr (As := [.int (nI k)]) (rest := [.ref (o 0)]) (q0 := 0) S (c_X7_tellsCount l D ca o (.int 0) f2 (.ref (o 3)) (.int (nI n)) f6 f7 f8 f9 (.long x) mm (by omega) sf k (by omega)) ml_X7_173 zy_X7_tellsCount im_X7_tellsCount se_X7_tellsCount ⟨Nat.le_of_ble_eq_true rfl, Nat.le_of_ble_eq_true rfl⟩ hK hP [0, 1] rfl rfl rfl rfl rfl hl.1 rfl (Nat.le_of_ble_eq_true rfl) ⟨Nat.zero_le _, Nat.zero_le _⟩ dX7_digest_23 ?_
      refine lv_i2l (v := (rTc sf mm k).toInt64) hx hb dX7_digest_26 rfl ?_
      refine zcw (As := [.long ((rTc sf mm k).toInt64)]) (rest := []) (st1 := []) (q0 := 0) (lw := [o 0]) S (c_X7_hashes l D ca o (.int 0) (.ref (o 1)) f2 (.int (nI mm)) (.ref (o 3)) (.int (nI n)) f6 f7 f8 f9 x  ((rTc sf mm k).toInt64) (znd_pick hN [0] rfl rfl)) ml_X7_200 zy_X7_hashes im_X7_hashes se_X7_hashes ⟨Nat.le_of_ble_eq_true rfl, Nat.le_of_ble_eq_true rfl⟩ hK hP hD hS [0] rfl rfl rfl rfl rfl rfl rfl hl.1 rfl rfl (Nat.le_of_ble_eq_true rfl) ⟨Nat.zero_le _, Nat.zero_le _⟩ dX7_digest_27 (fun H locs hP hS => ?_)
      have hP : va_P D vwCl [(o 0, .inr (7, [.int 0, .ref (o 1), f2, .int (nI mm), .ref (o 3), .int (nI n), f6, f7, f8, f9, .long (zMix x ((rTc sf mm k).toInt64))])), (o 1, .inl (ca 0, 99, .inl sf)), (o 3, .inl (ca 0, 60, .inl (fun k => nI (g k))))] H := hP
      have hD := zDto (ws := [(o 0, .inr (7, [.int 0, .ref (o 1), f2, .int (nI mm), .ref (o 3), .int (nI n), f6, f7, f8, f9, .long (zMix x ((rTc sf mm k).toInt64))])), (o 1, .inl (ca 0, 99, .inl sf)), (o 3, .inl (ca 0, 60, .inl (fun k => nI (g k))))]) hN hA rfl
      refine lv_iinc (v := nI (k + 1)) (lv' := [(1, .int (nI (k + 1))), (0, .ref (o 0))]) hx hb dX7_digest_30 hl (k := 1) rfl (zinc k 1) (by decide) rfl (fun ls hl => ?_)
      refine lv_goto (tgt := 14) hx hb dX7_digest_33 (by decide) ?_
      exact ih (k + 1) (zMix x ((rTc sf mm k).toInt64)) _ _ ls (by omega) (by rw [j2]; rfl) (lv_sub hl [1, 0] rfl) hP hS
  exact loop_0 13 0 3467 _ _ ls (by omega) (by rfl) (lv_sub hl [1, 0] rfl) hP hS
